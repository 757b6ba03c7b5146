/-! ===== the reference: a walk by kind ===== -/
def mz (h : am_H) (g : Nat → Value) (mi go n nr z5 sa fa we w x b on : Nat) : am_H := am_ups h [(66, .inr (12, [.retAddr mi, .retAddr go, .retAddr n, .ref 67, g 4, .ref 68, g 6, .ref 69, g 8, .ref 70, .retAddr nr, .ref 71, .retAddr z5, .ref 72, .ref 73, g 15, g 16, .ref 74, g 18, g 19, g 20, .ref 75, g 22, .ref 76, g 24, .ref 77, g 26, .ref 78, g 28, .ref 79, g 30, .ref 80, .ref 81, .ref 82, .ref 83, .ref 84, .retAddr sa, .retAddr fa, .retAddr we, g 39, g 40, .ref 85, g 42, .ref 86, g 44, .ref 87, .ref 88, .ref 89, g 48, g 49, g 50, .ref 90, .ref 91, g 53, .ref 92])), (81, .inl (0, 256, w)), (82, .inl (0, 256, x)), (83, .inl (2, 256, b)), (84, .inl (0, 60, on))]
def mz_ok (h : am_H) : Prop := am_ke h [66, 81, 82, 83, 84]
theorem mz_g66 {h : am_H} {g : Nat → Value} {mi go n nr z5 sa fa we w x b on : Nat} (hH : mz_ok h) : am_get (mz h g mi go n nr z5 sa fa we w x b on) 66 = some (.inr (12, [.retAddr mi, .retAddr go, .retAddr n, .ref 67, g 4, .ref 68, g 6, .ref 69, g 8, .ref 70, .retAddr nr, .ref 71, .retAddr z5, .ref 72, .ref 73, g 15, g 16, .ref 74, g 18, g 19, g 20, .ref 75, g 22, .ref 76, g 24, .ref 77, g 26, .ref 78, g 28, .ref 79, g 30, .ref 80, .ref 81, .ref 82, .ref 83, .ref 84, .retAddr sa, .retAddr fa, .retAddr we, g 39, g 40, .ref 85, g 42, .ref 86, g 44, .ref 87, .ref 88, .ref 89, g 48, g 49, g 50, .ref 90, .ref 91, g 53, .ref 92])) := am_ups_g hH rfl
theorem mz_u66 {h : am_H} {g : Nat → Value} {mi go n nr z5 sa fa we w x b on : Nat} (hH : mz_ok h) {mi' go' n' nr' z5' sa' fa' we' : Nat} : am_upd (mz h g mi go n nr z5 sa fa we w x b on) 66 (.inr (12, [.retAddr mi', .retAddr go', .retAddr n', .ref 67, g 4, .ref 68, g 6, .ref 69, g 8, .ref 70, .retAddr nr', .ref 71, .retAddr z5', .ref 72, .ref 73, g 15, g 16, .ref 74, g 18, g 19, g 20, .ref 75, g 22, .ref 76, g 24, .ref 77, g 26, .ref 78, g 28, .ref 79, g 30, .ref 80, .ref 81, .ref 82, .ref 83, .ref 84, .retAddr sa', .retAddr fa', .retAddr we', g 39, g 40, .ref 85, g 42, .ref 86, g 44, .ref 87, .ref 88, .ref 89, g 48, g 49, g 50, .ref 90, .ref 91, g 53, .ref 92])) = (mz h g mi' go' n' nr' z5' sa' fa' we' w x b on) := by
  unfold mz
  refine am_upd_ups ?_ ⟨rfl, rfl⟩
  exact hH
theorem mz_g81 {h : am_H} {g : Nat → Value} {mi go n nr z5 sa fa we w x b on : Nat} (hH : mz_ok h) : am_get (mz h g mi go n nr z5 sa fa we w x b on) 81 = some (.inl (0, 256, w)) := am_ups_g hH rfl
theorem mz_u81 {h : am_H} {g : Nat → Value} {mi go n nr z5 sa fa we w x b on : Nat} (hH : mz_ok h) {w' : Nat} : am_upd (mz h g mi go n nr z5 sa fa we w x b on) 81 (.inl (0, 256, w')) = (mz h g mi go n nr z5 sa fa we w' x b on) := by
  unfold mz
  refine am_upd_ups ?_ ⟨rfl, rfl⟩
  exact hH
theorem mz_g82 {h : am_H} {g : Nat → Value} {mi go n nr z5 sa fa we w x b on : Nat} (hH : mz_ok h) : am_get (mz h g mi go n nr z5 sa fa we w x b on) 82 = some (.inl (0, 256, x)) := am_ups_g hH rfl
theorem mz_u82 {h : am_H} {g : Nat → Value} {mi go n nr z5 sa fa we w x b on : Nat} (hH : mz_ok h) {x' : Nat} : am_upd (mz h g mi go n nr z5 sa fa we w x b on) 82 (.inl (0, 256, x')) = (mz h g mi go n nr z5 sa fa we w x' b on) := by
  unfold mz
  refine am_upd_ups ?_ ⟨rfl, rfl⟩
  exact hH
theorem mz_g83 {h : am_H} {g : Nat → Value} {mi go n nr z5 sa fa we w x b on : Nat} (hH : mz_ok h) : am_get (mz h g mi go n nr z5 sa fa we w x b on) 83 = some (.inl (2, 256, b)) := am_ups_g hH rfl
theorem mz_u83 {h : am_H} {g : Nat → Value} {mi go n nr z5 sa fa we w x b on : Nat} (hH : mz_ok h) {b' : Nat} : am_upd (mz h g mi go n nr z5 sa fa we w x b on) 83 (.inl (2, 256, b')) = (mz h g mi go n nr z5 sa fa we w x b' on) := by
  unfold mz
  refine am_upd_ups ?_ ⟨rfl, rfl⟩
  exact hH
theorem mz_g84 {h : am_H} {g : Nat → Value} {mi go n nr z5 sa fa we w x b on : Nat} (hH : mz_ok h) : am_get (mz h g mi go n nr z5 sa fa we w x b on) 84 = some (.inl (0, 60, on)) := am_ups_g hH rfl
theorem mz_u84 {h : am_H} {g : Nat → Value} {mi go n nr z5 sa fa we w x b on : Nat} (hH : mz_ok h) {on' : Nat} : am_upd (mz h g mi go n nr z5 sa fa we w x b on) 84 (.inl (0, 60, on')) = (mz h g mi go n nr z5 sa fa we w x b on') := by
  unfold mz
  refine am_upd_ups ?_ ⟨rfl, rfl⟩
  exact hH
theorem mz_o {h : am_H} {g : Nat → Value} {mi go n nr z5 sa fa we w x b on : Nat} (hH : mz_ok h) {a : Nat} (ha : am_lk [(66, am_e0), (81, am_e0), (82, am_e0), (83, am_e0), (84, am_e0)] a = none) : am_get (mz h g mi go n nr z5 sa fa we w x b on) a = am_get h a := by
  unfold mz
  refine am_ups_n ?_ ?_
  · exact hH
  · exact (am_lk_k (by rfl)).mp ha
/-- the row of places as the reference writes it -/
def wk_r (fw ff : Nat → Nat → Nat) (fb : Nat → Nat → Bool) (n go kind own on : Nat) : Nat → Nat
  | 0 => on
  | t + 1 => if t < (wk fw ff fb n go kind own (t + 1)).2.1 then am_as (wk_r fw ff fb n go kind own on t) t 4294967292 else am_as (am_as (wk_r fw ff fb n go kind own on t) t 4294967292) t (wk fw ff fb n go kind own (t + 1)).1
theorem wk_r_ag {fw ff : Nat → Nat → Nat} {fb : Nat → Nat → Bool} {n go kind own on m : Nat} (hw : ∀ s t, s < n → t < m → fw s t ≤ 99) (hn : n ≤ 4) (ho : own < n) (hg : go ≤ 3) : ∀ {t i : Nat}, t ≤ m → am_ag (wk_r fw ff fb n go kind own on t) i = if i < t then wk_p fw ff fb n go kind own i else am_ag on i
  | 0, i, _ => by
    rw [if_neg (Nat.not_lt_zero i)]
    rfl
  | t + 1, i, ht => by
    have ih := wk_r_ag (ff := ff) (fb := fb) (kind := kind) (on := on) hw hn ho hg (t := t) (i := i) (by omega)
    have il := (wk_inv (ff := ff) (fb := fb) (kind := kind) hw ho hg (t := t + 1) ht).1
    have z : wk_r fw ff fb n go kind own on (t + 1) = if t < (wk fw ff fb n go kind own (t + 1)).2.1 then am_as (wk_r fw ff fb n go kind own on t) t 4294967292 else am_as (am_as (wk_r fw ff fb n go kind own on t) t 4294967292) t (wk fw ff fb n go kind own (t + 1)).1 := rfl
    rw [z]
    by_cases q : i = t
    · subst q
      rw [if_pos (Nat.lt_succ_self i)]
      unfold wk_p
      split
      · rw [am_ag_as, if_pos rfl]
      · rw [am_ag_as, if_pos rfl, Nat.mod_eq_of_lt (by omega)]
    · have e : (if i < t + 1 then wk_p fw ff fb n go kind own i else am_ag on i) = (if i < t then wk_p fw ff fb n go kind own i else am_ag on i) := by
        by_cases q2 : i < t
        · rw [if_pos q2, if_pos (by omega)]
        · rw [if_neg q2, if_neg (by omega)]
      rw [e, ← ih]
      split
      · rw [am_ag_as, if_neg q]
      · rw [am_ag_as, if_neg q, am_ag_as, if_neg q]
theorem ms_s8 {h : am_H} {g : Nat → Value} {mi go n nr z5 sa fa we w x b on : Nat} (hH : mz_ok h) {fw ff : Nat → Nat → Nat} {fb : Nat → Nat → Bool} (hw : ∀ s t, s < n → t < mi → am_ag w (64 * s + t) = fw s t) (hx : ∀ s t, s < n → t < mi → am_ag x (64 * s + t) = lc_8 (ff s t)) (hb : ∀ s t, s < n → t < mi → am_ag b (64 * s + t) = if fb s t = true then 1 else 0) (hn1 : 1 ≤ n) (hn : n ≤ 4) (hm : mi ≤ 60) (hgo : go ≤ 3) (h99 : ∀ s t, s < n → t < mi → fw s t ≤ 99) (h8 : ∀ s t, s < n → t < mi → ff s t ≤ 8) {s t : Nat} (hs : s < n) (ht : t < mi) (hsa : sa ≤ 6000) (hq : ff s t = 8) : am_EG mi_171 [.ref 66, .retAddr s, .retAddr t] (mz h g mi go n nr z5 sa fa we w x b on) (none, (mz h g mi go n nr z5 (sa + fw s t) fa we w x b (am_as on t s))) := by
  refine am_enter (n := 0) tk_171.2.1 (by simp [Value.category]) (Nat.le_of_ble_eq_true rfl) ?_
  show am_Good mi_171 0 [some (.ref 66), some (.retAddr s), some (.retAddr t)] [] (mz h g mi go n nr z5 sa fa we w x b on) _
  have g1 := h99 s t hs ht
  refine g_aload_n (i := 0) dd_171_0 rfl ?_
  refine g_getfield (k := 35) am_ck12 (by decide) (Or.inl w_970) dd_171_1 (mz_g66 hH) rfl ?_
  refine g_iload_n (i := 2) dd_171_4 rfl ?_
  refine g_iload_n (i := 1) dd_171_5 rfl ?_
  refine g_iastore dd_171_6 (mz_g84 hH) (by omega) (by decide) ?_
  refine am_heq (mz_u84 hH) ?_
  show am_Good mi_171 7 [some (.ref 66), some (.retAddr s), some (.retAddr t)] [] (mz h g mi go n nr z5 sa fa we w x b (am_as on t s)) _
  refine g_aload_n (i := 0) dd_171_7 rfl ?_
  refine g_dup dd_171_8 rfl ?_
  refine g_getfield (k := 36) am_ck12 (by decide) (Or.inl w_971) dd_171_9 (mz_g66 hH) rfl ?_
  refine g_aload_n (i := 0) dd_171_12 rfl ?_
  refine g_getfield (k := 32) am_ck12 (by decide) (Or.inl w_967) dd_171_13 (mz_g66 hH) rfl ?_
  refine g_bipush dd_171_16 bi_64 ?_
  refine g_iload_n (i := 1) dd_171_18 rfl ?_
  refine e_imul (v := 64 * s) dd_171_19 (by omega) ?_
  refine g_iload_n (i := 2) dd_171_20 rfl ?_
  refine e_iadd (v := (64 * s) + t) dd_171_21 (by omega) ?_
  refine g_iaload dd_171_22 (mz_g81 hH) (by omega) (by decide) ?_
  have hl_1 := am_ag_lt w ((64 * s) + t)
  rw [show am_ag w ((64 * s) + t) = fw s t from hw _ _ hs ht]
  rw [show am_ag w ((64 * s) + t) = fw s t from hw _ _ hs ht] at hl_1
  refine e_iadd (v := sa + (fw s t)) dd_171_23 (by omega) ?_
  refine g_putfield (k := 36) am_ck12 (by decide) (Or.inl w_971) (Or.inl rfl) dd_171_24 (mz_g66 hH) (Nat.le_of_ble_eq_true rfl) trivial ?_
  refine am_heq (mz_u66 hH) ?_
  show am_Good mi_171 27 [some (.ref 66), some (.retAddr s), some (.retAddr t)] [] (mz h g mi go n nr z5 (sa + (fw s t)) fa we w x b (am_as on t s)) _
  refine g_aload_n (i := 0) dd_171_27 rfl ?_
  refine g_dup dd_171_28 rfl ?_
  refine g_getfield (k := 37) am_ck12 (by decide) (Or.inl w_972) dd_171_29 (mz_g66 hH) rfl ?_
  refine g_aload_n (i := 0) dd_171_32 rfl ?_
  refine g_getfield (k := 33) am_ck12 (by decide) (Or.inl w_968) dd_171_33 (mz_g66 hH) rfl ?_
  refine g_bipush dd_171_36 bi_64 ?_
  refine g_iload_n (i := 1) dd_171_38 rfl ?_
  refine e_imul (v := 64 * s) dd_171_39 (by omega) ?_
  refine g_iload_n (i := 2) dd_171_40 rfl ?_
  refine e_iadd (v := (64 * s) + t) dd_171_41 (by omega) ?_
  refine g_iaload dd_171_42 (mz_g82 hH) (by omega) (by decide) ?_
  have hl_2 := am_ag_lt x ((64 * s) + t)
  rw [show am_ag x ((64 * s) + t) = 4294967292 from (by rw [hx _ _ hs ht]; unfold lc_8; rw [if_pos hq])]
  rw [show am_ag x ((64 * s) + t) = 4294967292 from (by rw [hx _ _ hs ht]; unfold lc_8; rw [if_pos hq])] at hl_2
  refine g_bipush dd_171_43 bi_m4 ?_
  refine g_icmp_ne_f (t := 52) dd_171_45 (by decide) (by decide) ?_
  refine g_iconst dd_171_48 ic_0 ?_
  refine g_goto (t := 65) dd_171_49 (by decide) ?_
  refine e_ior (v := fa) dd_171_65 (Nat.or_zero fa) ?_
  refine g_putfield (k := 37) am_ck12 (by decide) (Or.inl w_972) (Or.inl rfl) dd_171_66 (mz_g66 hH) (Nat.le_of_ble_eq_true rfl) trivial ?_
  refine am_heq (mz_u66 hH) ?_
  show am_Good mi_171 69 [some (.ref 66), some (.retAddr s), some (.retAddr t)] [] (mz h g mi go n nr z5 (sa + (fw s t)) fa we w x b (am_as on t s)) _
  exact g_return rfl dd_171_69
theorem ms_s7 {h : am_H} {g : Nat → Value} {mi go n nr z5 sa fa we w x b on : Nat} (hH : mz_ok h) {fw ff : Nat → Nat → Nat} {fb : Nat → Nat → Bool} (hw : ∀ s t, s < n → t < mi → am_ag w (64 * s + t) = fw s t) (hx : ∀ s t, s < n → t < mi → am_ag x (64 * s + t) = lc_8 (ff s t)) (hb : ∀ s t, s < n → t < mi → am_ag b (64 * s + t) = if fb s t = true then 1 else 0) (hn1 : 1 ≤ n) (hn : n ≤ 4) (hm : mi ≤ 60) (hgo : go ≤ 3) (h99 : ∀ s t, s < n → t < mi → fw s t ≤ 99) (h8 : ∀ s t, s < n → t < mi → ff s t ≤ 8) {s t : Nat} (hs : s < n) (ht : t < mi) (hsa : sa ≤ 6000) (hq : ff s t < 8) : am_EG mi_171 [.ref 66, .retAddr s, .retAddr t] (mz h g mi go n nr z5 sa fa we w x b on) (none, (mz h g mi go n nr z5 (sa + fw s t) (fa ||| 2 ^ ff s t) we w x b (am_as on t s))) := by
  refine am_enter (n := 0) tk_171.2.1 (by simp [Value.category]) (Nat.le_of_ble_eq_true rfl) ?_
  show am_Good mi_171 0 [some (.ref 66), some (.retAddr s), some (.retAddr t)] [] (mz h g mi go n nr z5 sa fa we w x b on) _
  have g1 := h99 s t hs ht
  refine g_aload_n (i := 0) dd_171_0 rfl ?_
  refine g_getfield (k := 35) am_ck12 (by decide) (Or.inl w_970) dd_171_1 (mz_g66 hH) rfl ?_
  refine g_iload_n (i := 2) dd_171_4 rfl ?_
  refine g_iload_n (i := 1) dd_171_5 rfl ?_
  refine g_iastore dd_171_6 (mz_g84 hH) (by omega) (by decide) ?_
  refine am_heq (mz_u84 hH) ?_
  show am_Good mi_171 7 [some (.ref 66), some (.retAddr s), some (.retAddr t)] [] (mz h g mi go n nr z5 sa fa we w x b (am_as on t s)) _
  refine g_aload_n (i := 0) dd_171_7 rfl ?_
  refine g_dup dd_171_8 rfl ?_
  refine g_getfield (k := 36) am_ck12 (by decide) (Or.inl w_971) dd_171_9 (mz_g66 hH) rfl ?_
  refine g_aload_n (i := 0) dd_171_12 rfl ?_
  refine g_getfield (k := 32) am_ck12 (by decide) (Or.inl w_967) dd_171_13 (mz_g66 hH) rfl ?_
  refine g_bipush dd_171_16 bi_64 ?_
  refine g_iload_n (i := 1) dd_171_18 rfl ?_
  refine e_imul (v := 64 * s) dd_171_19 (by omega) ?_
  refine g_iload_n (i := 2) dd_171_20 rfl ?_
  refine e_iadd (v := (64 * s) + t) dd_171_21 (by omega) ?_
  refine g_iaload dd_171_22 (mz_g81 hH) (by omega) (by decide) ?_
  have hl_1 := am_ag_lt w ((64 * s) + t)
  rw [show am_ag w ((64 * s) + t) = fw s t from hw _ _ hs ht]
  rw [show am_ag w ((64 * s) + t) = fw s t from hw _ _ hs ht] at hl_1
  refine e_iadd (v := sa + (fw s t)) dd_171_23 (by omega) ?_
  refine g_putfield (k := 36) am_ck12 (by decide) (Or.inl w_971) (Or.inl rfl) dd_171_24 (mz_g66 hH) (Nat.le_of_ble_eq_true rfl) trivial ?_
  refine am_heq (mz_u66 hH) ?_
  show am_Good mi_171 27 [some (.ref 66), some (.retAddr s), some (.retAddr t)] [] (mz h g mi go n nr z5 (sa + (fw s t)) fa we w x b (am_as on t s)) _
  refine g_aload_n (i := 0) dd_171_27 rfl ?_
  refine g_dup dd_171_28 rfl ?_
  refine g_getfield (k := 37) am_ck12 (by decide) (Or.inl w_972) dd_171_29 (mz_g66 hH) rfl ?_
  refine g_aload_n (i := 0) dd_171_32 rfl ?_
  refine g_getfield (k := 33) am_ck12 (by decide) (Or.inl w_968) dd_171_33 (mz_g66 hH) rfl ?_
  refine g_bipush dd_171_36 bi_64 ?_
  refine g_iload_n (i := 1) dd_171_38 rfl ?_
  refine e_imul (v := 64 * s) dd_171_39 (by omega) ?_
  refine g_iload_n (i := 2) dd_171_40 rfl ?_
  refine e_iadd (v := (64 * s) + t) dd_171_41 (by omega) ?_
  refine g_iaload dd_171_42 (mz_g82 hH) (by omega) (by decide) ?_
  have hl_2 := am_ag_lt x ((64 * s) + t)
  rw [show am_ag x ((64 * s) + t) = ff s t from (by rw [hx _ _ hs ht]; unfold lc_8; rw [if_neg (by omega)])]
  rw [show am_ag x ((64 * s) + t) = ff s t from (by rw [hx _ _ hs ht]; unfold lc_8; rw [if_neg (by omega)])] at hl_2
  refine g_bipush dd_171_43 bi_m4 ?_
  refine g_icmp_ne_t (t := 52) dd_171_45 (by decide) (tk_ne_t (by omega)) ?_
  refine g_iconst dd_171_52 ic_1 ?_
  refine g_aload_n (i := 0) dd_171_53 rfl ?_
  refine g_getfield (k := 33) am_ck12 (by decide) (Or.inl w_968) dd_171_54 (mz_g66 hH) rfl ?_
  refine g_bipush dd_171_57 bi_64 ?_
  refine g_iload_n (i := 1) dd_171_59 rfl ?_
  refine e_imul (v := 64 * s) dd_171_60 (by omega) ?_
  refine g_iload_n (i := 2) dd_171_61 rfl ?_
  refine e_iadd (v := (64 * s) + t) dd_171_62 (by omega) ?_
  refine g_iaload dd_171_63 (mz_g82 hH) (by omega) (by decide) ?_
  have hl_3 := am_ag_lt x ((64 * s) + t)
  rw [show am_ag x ((64 * s) + t) = ff s t from (by rw [hx _ _ hs ht]; unfold lc_8; rw [if_neg (by omega)])]
  rw [show am_ag x ((64 * s) + t) = ff s t from (by rw [hx _ _ hs ht]; unfold lc_8; rw [if_neg (by omega)])] at hl_3
  refine e_ishl (v := 2 ^ ff s t) dd_171_64 (sh_1 (by omega)) ?_
  refine e_ior (v := fa ||| (2 ^ ff s t)) dd_171_65 (rfl) ?_
  refine g_putfield (k := 37) am_ck12 (by decide) (Or.inl w_972) (Or.inl rfl) dd_171_66 (mz_g66 hH) (Nat.le_of_ble_eq_true rfl) trivial ?_
  refine am_heq (mz_u66 hH) ?_
  show am_Good mi_171 69 [some (.ref 66), some (.retAddr s), some (.retAddr t)] [] (mz h g mi go n nr z5 (sa + (fw s t)) (fa ||| (2 ^ ff s t)) we w x b (am_as on t s)) _
  exact g_return rfl dd_171_69
theorem ms_s {h : am_H} {g : Nat → Value} {mi go n nr z5 sa fa we w x b on : Nat} (hH : mz_ok h) {fw ff : Nat → Nat → Nat} {fb : Nat → Nat → Bool} (hw : ∀ s t, s < n → t < mi → am_ag w (64 * s + t) = fw s t) (hx : ∀ s t, s < n → t < mi → am_ag x (64 * s + t) = lc_8 (ff s t)) (hb : ∀ s t, s < n → t < mi → am_ag b (64 * s + t) = if fb s t = true then 1 else 0) (hn1 : 1 ≤ n) (hn : n ≤ 4) (hm : mi ≤ 60) (hgo : go ≤ 3) (h99 : ∀ s t, s < n → t < mi → fw s t ≤ 99) (h8 : ∀ s t, s < n → t < mi → ff s t ≤ 8) {s t : Nat} (hs : s < n) (ht : t < mi) (hsa : sa ≤ 6000) : am_EG mi_171 [.ref 66, .retAddr s, .retAddr t] (mz h g mi go n nr z5 sa fa we w x b on) (none, (mz h g mi go n nr z5 (sa + fw s t) (fa ||| fbt (ff s t)) we w x b (am_as on t s))) := by
  have q := h8 s t hs ht
  unfold fbt
  by_cases hq : ff s t < 8
  · rw [if_pos hq]
    exact ms_s7 hH hw hx hb hn1 hn hm hgo h99 h8 hs ht hsa hq
  · rw [if_neg hq, Nat.or_zero]
    exact ms_s8 hH hw hx hb hn1 hn hm hgo h99 h8 hs ht hsa (by omega)
theorem mu_0 {h : am_H} {g : Nat → Value} {mi go n nr z5 sa fa we w x b on : Nat} (hH : mz_ok h) {fw ff : Nat → Nat → Nat} {fb : Nat → Nat → Bool} (hw : ∀ s t, s < n → t < mi → am_ag w (64 * s + t) = fw s t) (hx : ∀ s t, s < n → t < mi → am_ag x (64 * s + t) = lc_8 (ff s t)) (hb : ∀ s t, s < n → t < mi → am_ag b (64 * s + t) = if fb s t = true then 1 else 0) (hn1 : 1 ≤ n) (hn : n ≤ 4) (hm : mi ≤ 60) (hgo : go ≤ 3) (h99 : ∀ s t, s < n → t < mi → fw s t ≤ 99) (h8 : ∀ s t, s < n → t < mi → ff s t ≤ 8) {he t : Nat} {v4 : Option Value} : am_Good mi_169 2 [some (.ref 66), some (.retAddr he), some (.retAddr t), some (.retAddr n), v4] [] (mz h g mi go n nr z5 sa fa we w x b on) (some (.retAddr he), (mz h g mi go n nr z5 sa fa we w x b on)) := by
  refine g_iload_n (i := 3) dd_169_2 rfl ?_
  refine g_aload_n (i := 0) dd_169_3 rfl ?_
  refine g_getfield (k := 2) am_ck12 (by decide) (Or.inl w_937) dd_169_4 (mz_g66 hH) rfl ?_
  refine g_icmp_ge_t (t := 44) dd_169_7 (by decide) (by first | exact sk_ge_t (by omega) (by omega) | exact tk_ge_t (by omega)) ?_
  refine g_iload_n (i := 1) dd_169_44 rfl ?_
  exact g_ireturn rfl dd_169_45
theorem mu_1 {r : am_R} {h : am_H} {g : Nat → Value} {mi go n nr z5 sa fa we w x b on : Nat} (hH : mz_ok h) {fw ff : Nat → Nat → Nat} {fb : Nat → Nat → Bool} (hw : ∀ s t, s < n → t < mi → am_ag w (64 * s + t) = fw s t) (hx : ∀ s t, s < n → t < mi → am_ag x (64 * s + t) = lc_8 (ff s t)) (hb : ∀ s t, s < n → t < mi → am_ag b (64 * s + t) = if fb s t = true then 1 else 0) (hn1 : 1 ≤ n) (hn : n ≤ 4) (hm : mi ≤ 60) (hgo : go ≤ 3) (h99 : ∀ s t, s < n → t < mi → fw s t ≤ 99) (h8 : ∀ s t, s < n → t < mi → ff s t ≤ 8) {he t k s : Nat} {v4 : Option Value} (hk : k < n) (hh : he < n) (hs : s < n) (ht : t < mi) (hsk : (he + k) % n = s) (hc : fb s t = true) (hg : am_Good mi_169 2 [some (.ref 66), some (.retAddr he), some (.retAddr t), some (.retAddr (k + 1)), some (.retAddr s)] [] (mz h g mi go n nr z5 sa fa we w x b on) r) : am_Good mi_169 2 [some (.ref 66), some (.retAddr he), some (.retAddr t), some (.retAddr k), v4] [] (mz h g mi go n nr z5 sa fa we w x b on) r := by
  refine g_iload_n (i := 3) dd_169_2 rfl ?_
  refine g_aload_n (i := 0) dd_169_3 rfl ?_
  refine g_getfield (k := 2) am_ck12 (by decide) (Or.inl w_937) dd_169_4 (mz_g66 hH) rfl ?_
  refine g_icmp_ge_f (t := 44) dd_169_7 (by decide) (by first | exact sk_ge_f (by omega) (by omega) | exact tk_ge_f (by omega)) ?_
  refine g_iload_n (i := 1) dd_169_10 rfl ?_
  refine g_iload_n (i := 3) dd_169_11 rfl ?_
  refine e_iadd (v := he + k) dd_169_12 (by omega) ?_
  refine g_aload_n (i := 0) dd_169_13 rfl ?_
  refine g_getfield (k := 2) am_ck12 (by decide) (Or.inl w_937) dd_169_14 (mz_g66 hH) rfl ?_
  refine e_irem (v := s) dd_169_17 ⟨by omega, by omega, by omega, hsk⟩ ?_
  refine g_istore dd_169_18 (am_nlb_ok rfl) (by decide) ?_
  refine g_aload_n (i := 0) dd_169_20 rfl ?_
  refine g_getfield (k := 34) am_ck12 (by decide) (Or.inl w_969) dd_169_21 (mz_g66 hH) rfl ?_
  refine g_bipush dd_169_24 bi_64 ?_
  refine g_iload dd_169_26 rfl ?_
  refine e_imul (v := 64 * s) dd_169_28 (by omega) ?_
  refine g_iload_n (i := 2) dd_169_29 rfl ?_
  refine e_iadd (v := 64 * s + t) dd_169_30 (by omega) ?_
  refine g_zaload dd_169_31 (mz_g83 hH) (by omega) (by decide) ?_
  have hl_1 := am_ag_lt b (64 * s + t)
  rw [show am_ag b (64 * s + t) = 1 from (by rw [hb _ _ hs ht, if_pos hc])]
  rw [show am_ag b (64 * s + t) = 1 from (by rw [hb _ _ hs ht, if_pos hc])] at hl_1
  refine g_if_ne_t (t := 38) dd_169_32 (by decide) (by decide) ?_
  refine e_iinc (v := 1) (w := k + 1) dd_169_38 rfl ic_1 (am_nlb_ok rfl) (by decide) (by omega) ?_
  refine g_goto (t := 2) dd_169_41 (by decide) ?_
  exact hg
theorem mu_2 {h : am_H} {g : Nat → Value} {mi go n nr z5 sa fa we w x b on : Nat} (hH : mz_ok h) {fw ff : Nat → Nat → Nat} {fb : Nat → Nat → Bool} (hw : ∀ s t, s < n → t < mi → am_ag w (64 * s + t) = fw s t) (hx : ∀ s t, s < n → t < mi → am_ag x (64 * s + t) = lc_8 (ff s t)) (hb : ∀ s t, s < n → t < mi → am_ag b (64 * s + t) = if fb s t = true then 1 else 0) (hn1 : 1 ≤ n) (hn : n ≤ 4) (hm : mi ≤ 60) (hgo : go ≤ 3) (h99 : ∀ s t, s < n → t < mi → fw s t ≤ 99) (h8 : ∀ s t, s < n → t < mi → ff s t ≤ 8) {he t k s : Nat} {v4 : Option Value} (hk : k < n) (hh : he < n) (hs : s < n) (ht : t < mi) (hsk : (he + k) % n = s) (hc : ¬ fb s t = true) : am_Good mi_169 2 [some (.ref 66), some (.retAddr he), some (.retAddr t), some (.retAddr k), v4] [] (mz h g mi go n nr z5 sa fa we w x b on) (some (.retAddr s), (mz h g mi go n nr z5 sa fa we w x b on)) := by
  refine g_iload_n (i := 3) dd_169_2 rfl ?_
  refine g_aload_n (i := 0) dd_169_3 rfl ?_
  refine g_getfield (k := 2) am_ck12 (by decide) (Or.inl w_937) dd_169_4 (mz_g66 hH) rfl ?_
  refine g_icmp_ge_f (t := 44) dd_169_7 (by decide) (by first | exact sk_ge_f (by omega) (by omega) | exact tk_ge_f (by omega)) ?_
  refine g_iload_n (i := 1) dd_169_10 rfl ?_
  refine g_iload_n (i := 3) dd_169_11 rfl ?_
  refine e_iadd (v := he + k) dd_169_12 (by omega) ?_
  refine g_aload_n (i := 0) dd_169_13 rfl ?_
  refine g_getfield (k := 2) am_ck12 (by decide) (Or.inl w_937) dd_169_14 (mz_g66 hH) rfl ?_
  refine e_irem (v := s) dd_169_17 ⟨by omega, by omega, by omega, hsk⟩ ?_
  refine g_istore dd_169_18 (am_nlb_ok rfl) (by decide) ?_
  refine g_aload_n (i := 0) dd_169_20 rfl ?_
  refine g_getfield (k := 34) am_ck12 (by decide) (Or.inl w_969) dd_169_21 (mz_g66 hH) rfl ?_
  refine g_bipush dd_169_24 bi_64 ?_
  refine g_iload dd_169_26 rfl ?_
  refine e_imul (v := 64 * s) dd_169_28 (by omega) ?_
  refine g_iload_n (i := 2) dd_169_29 rfl ?_
  refine e_iadd (v := 64 * s + t) dd_169_30 (by omega) ?_
  refine g_zaload dd_169_31 (mz_g83 hH) (by omega) (by decide) ?_
  have hl_1 := am_ag_lt b (64 * s + t)
  rw [show am_ag b (64 * s + t) = 0 from (by rw [hb _ _ hs ht, if_neg hc])]
  rw [show am_ag b (64 * s + t) = 0 from (by rw [hb _ _ hs ht, if_neg hc])] at hl_1
  refine g_if_ne_f (t := 38) dd_169_32 (by decide) (by decide) ?_
  refine g_iload dd_169_35 rfl ?_
  exact g_ireturn rfl dd_169_37
theorem mu_l {h : am_H} {g : Nat → Value} {mi go n nr z5 sa fa we w x b on : Nat} (hH : mz_ok h) {fw ff : Nat → Nat → Nat} {fb : Nat → Nat → Bool} (hw : ∀ s t, s < n → t < mi → am_ag w (64 * s + t) = fw s t) (hx : ∀ s t, s < n → t < mi → am_ag x (64 * s + t) = lc_8 (ff s t)) (hb : ∀ s t, s < n → t < mi → am_ag b (64 * s + t) = if fb s t = true then 1 else 0) (hn1 : 1 ≤ n) (hn : n ≤ 4) (hm : mi ≤ 60) (hgo : go ≤ 3) (h99 : ∀ s t, s < n → t < mi → fw s t ≤ 99) (h8 : ∀ s t, s < n → t < mi → ff s t ≤ 8) {he t : Nat} (hh : he < n) (ht : t < mi) : ∀ (f k : Nat) (v4 : Option Value), k + f = n → am_Good mi_169 2 [some (.ref 66), some (.retAddr he), some (.retAddr t), some (.retAddr k), v4] [] (mz h g mi go n nr z5 sa fa we w x b on) (some (.retAddr (wk_ub fb n t he f ((he + k) % n))), (mz h g mi go n nr z5 sa fa we w x b on))
  | 0, k, v4, e => by
    have e' : k = n := by omega
    subst e'
    exact mu_0 hH hw hx hb hn1 hn hm hgo h99 h8
  | f + 1, k, v4, e => by
    have hs : (he + k) % n < n := Nat.mod_lt _ hn1
    show am_Good mi_169 2 [some (.ref 66), some (.retAddr he), some (.retAddr t), some (.retAddr k), v4] [] (mz h g mi go n nr z5 sa fa we w x b on) (some (.retAddr (if fb ((he + k) % n) t = true then wk_ub fb n t he f (if (he + k) % n + 1 < n then (he + k) % n + 1 else 0) else (he + k) % n)), (mz h g mi go n nr z5 sa fa we w x b on))
    by_cases hc : fb ((he + k) % n) t = true
    · rw [if_pos hc, wk_nx hn1 hn hh]
      exact mu_1 hH hw hx hb hn1 hn hm hgo h99 h8 (by omega) hh hs ht rfl hc (mu_l hH hw hx hb hn1 hn hm hgo h99 h8 hh ht f (k + 1) _ (by omega))
    · rw [if_neg hc]
      exact mu_2 hH hw hx hb hn1 hn hm hgo h99 h8 (by omega) hh hs ht rfl hc
theorem mu_m {h : am_H} {g : Nat → Value} {mi go n nr z5 sa fa we w x b on : Nat} (hH : mz_ok h) {fw ff : Nat → Nat → Nat} {fb : Nat → Nat → Bool} (hw : ∀ s t, s < n → t < mi → am_ag w (64 * s + t) = fw s t) (hx : ∀ s t, s < n → t < mi → am_ag x (64 * s + t) = lc_8 (ff s t)) (hb : ∀ s t, s < n → t < mi → am_ag b (64 * s + t) = if fb s t = true then 1 else 0) (hn1 : 1 ≤ n) (hn : n ≤ 4) (hm : mi ≤ 60) (hgo : go ≤ 3) (h99 : ∀ s t, s < n → t < mi → fw s t ≤ 99) (h8 : ∀ s t, s < n → t < mi → ff s t ≤ 8) {he t : Nat} (hh : he < n) (ht : t < mi) : am_EG mi_169 [.ref 66, .retAddr he, .retAddr t] (mz h g mi go n nr z5 sa fa we w x b on) (some (.retAddr (wk_ub fb n t he n he)), (mz h g mi go n nr z5 sa fa we w x b on)) := by
  refine am_enter (n := 2) tk_169.2.1 (by simp [Value.category]) (Nat.le_of_ble_eq_true rfl) ?_
  show am_Good mi_169 0 [some (.ref 66), some (.retAddr he), some (.retAddr t), none, none] [] (mz h g mi go n nr z5 sa fa we w x b on) _
  refine g_iconst dd_169_0 ic_0 ?_
  refine g_istore_n (i := 3) dd_169_1 (am_nlb_ok rfl) (by decide) ?_
  have q := mu_l (g := g) (nr := nr) (z5 := z5) (sa := sa) (fa := fa) (we := we) (on := on) hH hw hx hb hn1 hn hm hgo h99 h8 hh ht n 0 none (by omega)
  rw [Nat.add_zero, Nat.mod_eq_of_lt hh] at q
  exact q
theorem mbz_0 {h : am_H} {g : Nat → Value} {mi go n nr z5 sa fa we w x b on : Nat} (hH : mz_ok h) {fw ff : Nat → Nat → Nat} {fb : Nat → Nat → Bool} (hw : ∀ s t, s < n → t < mi → am_ag w (64 * s + t) = fw s t) (hx : ∀ s t, s < n → t < mi → am_ag x (64 * s + t) = lc_8 (ff s t)) (hb : ∀ s t, s < n → t < mi → am_ag b (64 * s + t) = if fb s t = true then 1 else 0) (hn1 : 1 ≤ n) (hn : n ≤ 4) (hm : mi ≤ 60) (hgo : go ≤ 3) (h99 : ∀ s t, s < n → t < mi → fw s t ≤ 99) (h8 : ∀ s t, s < n → t < mi → ff s t ≤ 8) {he t c : Nat} {v5 : Option Value} : am_Good mi_170 5 [some (.ref 66), some (.retAddr he), some (.retAddr t), some (.retAddr c), some (.retAddr n), v5] [] (mz h g mi go n nr z5 sa fa we w x b on) (some (.retAddr c), (mz h g mi go n nr z5 sa fa we w x b on)) := by
  refine g_iload dd_170_5 rfl ?_
  refine g_aload_n (i := 0) dd_170_7 rfl ?_
  refine g_getfield (k := 2) am_ck12 (by decide) (Or.inl w_937) dd_170_8 (mz_g66 hH) rfl ?_
  refine g_icmp_ge_t (t := 65) dd_170_11 (by decide) (by first | exact sk_ge_t (by omega) (by omega) | exact tk_ge_t (by omega)) ?_
  refine g_iload_n (i := 3) dd_170_65 rfl ?_
  exact g_ireturn rfl dd_170_66
theorem mb_1a {h : am_H} {g : Nat → Value} {mi go n nr z5 sa fa we w x b on : Nat} (hH : mz_ok h) {fw ff : Nat → Nat → Nat} {fb : Nat → Nat → Bool} (hw : ∀ s t, s < n → t < mi → am_ag w (64 * s + t) = fw s t) (hx : ∀ s t, s < n → t < mi → am_ag x (64 * s + t) = lc_8 (ff s t)) (hb : ∀ s t, s < n → t < mi → am_ag b (64 * s + t) = if fb s t = true then 1 else 0) (hn1 : 1 ≤ n) (hn : n ≤ 4) (hm : mi ≤ 60) (hgo : go ≤ 3) (h99 : ∀ s t, s < n → t < mi → fw s t ≤ 99) (h8 : ∀ s t, s < n → t < mi → ff s t ≤ 8) {r : am_R} {he t c s : Nat} {v5 : Option Value} (hs : s < n) (hcn : c < n) (ht : t < mi) (hc : fw c t < fw s t) (hg : am_Good mi_170 5 [some (.ref 66), some (.retAddr he), some (.retAddr t), some (.retAddr s), some (.retAddr (s + 1)), some (.retAddr 1)] [] (mz h g mi go n nr z5 sa fa we w x b on) r) : am_Good mi_170 5 [some (.ref 66), some (.retAddr he), some (.retAddr t), some (.retAddr c), some (.retAddr s), v5] [] (mz h g mi go n nr z5 sa fa we w x b on) r := by
  have g1 := h99 s t hs ht
  have g2 := h99 c t hcn ht
  refine g_iload dd_170_5 rfl ?_
  refine g_aload_n (i := 0) dd_170_7 rfl ?_
  refine g_getfield (k := 2) am_ck12 (by decide) (Or.inl w_937) dd_170_8 (mz_g66 hH) rfl ?_
  refine g_icmp_ge_f (t := 65) dd_170_11 (by decide) (by first | exact sk_ge_f (by omega) (by omega) | exact tk_ge_f (by omega)) ?_
  refine g_aload_n (i := 0) dd_170_14 rfl ?_
  refine g_getfield (k := 32) am_ck12 (by decide) (Or.inl w_967) dd_170_15 (mz_g66 hH) rfl ?_
  refine g_bipush dd_170_18 bi_64 ?_
  refine g_iload dd_170_20 rfl ?_
  refine e_imul (v := 64 * s) dd_170_22 (by omega) ?_
  refine g_iload_n (i := 2) dd_170_23 rfl ?_
  refine e_iadd (v := 64 * s + t) dd_170_24 (by omega) ?_
  refine g_iaload dd_170_25 (mz_g81 hH) (by omega) (by decide) ?_
  have hl_1 := am_ag_lt w (64 * s + t)
  rw [show am_ag w (64 * s + t) = fw s t from hw _ _ hs ht]
  rw [show am_ag w (64 * s + t) = fw s t from hw _ _ hs ht] at hl_1
  refine g_aload_n (i := 0) dd_170_26 rfl ?_
  refine g_getfield (k := 32) am_ck12 (by decide) (Or.inl w_967) dd_170_27 (mz_g66 hH) rfl ?_
  refine g_bipush dd_170_30 bi_64 ?_
  refine g_iload_n (i := 3) dd_170_32 rfl ?_
  refine e_imul (v := 64 * c) dd_170_33 (by omega) ?_
  refine g_iload_n (i := 2) dd_170_34 rfl ?_
  refine e_iadd (v := 64 * c + t) dd_170_35 (by omega) ?_
  refine g_iaload dd_170_36 (mz_g81 hH) (by omega) (by decide) ?_
  have hl_2 := am_ag_lt w (64 * c + t)
  rw [show am_ag w (64 * c + t) = fw c t from hw _ _ hcn ht]
  rw [show am_ag w (64 * c + t) = fw c t from hw _ _ hcn ht] at hl_2
  refine g_icmp_le_f (t := 44) dd_170_37 (by decide) (by first | exact sk_le_f (by omega) (by omega) | exact tk_le_f (by omega)) ?_
  refine g_iconst dd_170_40 ic_1 ?_
  refine g_goto (t := 45) dd_170_41 (by decide) ?_
  refine g_istore dd_170_45 (am_nlb_ok rfl) (by decide) ?_
  refine g_iload dd_170_47 rfl ?_
  refine g_if_eq_f (t := 57) dd_170_49 (by decide) (by decide) ?_
  refine g_iload dd_170_52 rfl ?_
  refine g_goto (t := 58) dd_170_54 (by decide) ?_
  refine g_istore_n (i := 3) dd_170_58 (am_nlb_ok rfl) (by decide) ?_
  refine e_iinc (v := 1) (w := s + 1) dd_170_59 rfl ic_1 (am_nlb_ok rfl) (by decide) (by omega) ?_
  refine g_goto (t := 5) dd_170_62 (by decide) ?_
  exact hg
theorem mb_1b {h : am_H} {g : Nat → Value} {mi go n nr z5 sa fa we w x b on : Nat} (hH : mz_ok h) {fw ff : Nat → Nat → Nat} {fb : Nat → Nat → Bool} (hw : ∀ s t, s < n → t < mi → am_ag w (64 * s + t) = fw s t) (hx : ∀ s t, s < n → t < mi → am_ag x (64 * s + t) = lc_8 (ff s t)) (hb : ∀ s t, s < n → t < mi → am_ag b (64 * s + t) = if fb s t = true then 1 else 0) (hn1 : 1 ≤ n) (hn : n ≤ 4) (hm : mi ≤ 60) (hgo : go ≤ 3) (h99 : ∀ s t, s < n → t < mi → fw s t ≤ 99) (h8 : ∀ s t, s < n → t < mi → ff s t ≤ 8) {r : am_R} {he t c s : Nat} {v5 : Option Value} (hs : s < n) (hcn : c < n) (ht : t < mi) (hc : ¬ fw c t < fw s t) (hg : am_Good mi_170 5 [some (.ref 66), some (.retAddr he), some (.retAddr t), some (.retAddr c), some (.retAddr (s + 1)), some (.retAddr 0)] [] (mz h g mi go n nr z5 sa fa we w x b on) r) : am_Good mi_170 5 [some (.ref 66), some (.retAddr he), some (.retAddr t), some (.retAddr c), some (.retAddr s), v5] [] (mz h g mi go n nr z5 sa fa we w x b on) r := by
  have g1 := h99 s t hs ht
  have g2 := h99 c t hcn ht
  refine g_iload dd_170_5 rfl ?_
  refine g_aload_n (i := 0) dd_170_7 rfl ?_
  refine g_getfield (k := 2) am_ck12 (by decide) (Or.inl w_937) dd_170_8 (mz_g66 hH) rfl ?_
  refine g_icmp_ge_f (t := 65) dd_170_11 (by decide) (by first | exact sk_ge_f (by omega) (by omega) | exact tk_ge_f (by omega)) ?_
  refine g_aload_n (i := 0) dd_170_14 rfl ?_
  refine g_getfield (k := 32) am_ck12 (by decide) (Or.inl w_967) dd_170_15 (mz_g66 hH) rfl ?_
  refine g_bipush dd_170_18 bi_64 ?_
  refine g_iload dd_170_20 rfl ?_
  refine e_imul (v := 64 * s) dd_170_22 (by omega) ?_
  refine g_iload_n (i := 2) dd_170_23 rfl ?_
  refine e_iadd (v := 64 * s + t) dd_170_24 (by omega) ?_
  refine g_iaload dd_170_25 (mz_g81 hH) (by omega) (by decide) ?_
  have hl_1 := am_ag_lt w (64 * s + t)
  rw [show am_ag w (64 * s + t) = fw s t from hw _ _ hs ht]
  rw [show am_ag w (64 * s + t) = fw s t from hw _ _ hs ht] at hl_1
  refine g_aload_n (i := 0) dd_170_26 rfl ?_
  refine g_getfield (k := 32) am_ck12 (by decide) (Or.inl w_967) dd_170_27 (mz_g66 hH) rfl ?_
  refine g_bipush dd_170_30 bi_64 ?_
  refine g_iload_n (i := 3) dd_170_32 rfl ?_
  refine e_imul (v := 64 * c) dd_170_33 (by omega) ?_
  refine g_iload_n (i := 2) dd_170_34 rfl ?_
  refine e_iadd (v := 64 * c + t) dd_170_35 (by omega) ?_
  refine g_iaload dd_170_36 (mz_g81 hH) (by omega) (by decide) ?_
  have hl_2 := am_ag_lt w (64 * c + t)
  rw [show am_ag w (64 * c + t) = fw c t from hw _ _ hcn ht]
  rw [show am_ag w (64 * c + t) = fw c t from hw _ _ hcn ht] at hl_2
  refine g_icmp_le_t (t := 44) dd_170_37 (by decide) (by first | exact sk_le_t (by omega) (by omega) | exact tk_le_t (by omega)) ?_
  refine g_iconst dd_170_44 ic_0 ?_
  refine g_istore dd_170_45 (am_nlb_ok rfl) (by decide) ?_
  refine g_iload dd_170_47 rfl ?_
  refine g_if_eq_t (t := 57) dd_170_49 (by decide) (by decide) ?_
  refine g_iload_n (i := 3) dd_170_57 rfl ?_
  refine g_istore_n (i := 3) dd_170_58 (am_nlb_ok rfl) (by decide) ?_
  refine e_iinc (v := 1) (w := s + 1) dd_170_59 rfl ic_1 (am_nlb_ok rfl) (by decide) (by omega) ?_
  refine g_goto (t := 5) dd_170_62 (by decide) ?_
  exact hg
theorem mb_l {h : am_H} {g : Nat → Value} {mi go n nr z5 sa fa we w x b on : Nat} (hH : mz_ok h) {fw ff : Nat → Nat → Nat} {fb : Nat → Nat → Bool} (hw : ∀ s t, s < n → t < mi → am_ag w (64 * s + t) = fw s t) (hx : ∀ s t, s < n → t < mi → am_ag x (64 * s + t) = lc_8 (ff s t)) (hb : ∀ s t, s < n → t < mi → am_ag b (64 * s + t) = if fb s t = true then 1 else 0) (hn1 : 1 ≤ n) (hn : n ≤ 4) (hm : mi ≤ 60) (hgo : go ≤ 3) (h99 : ∀ s t, s < n → t < mi → fw s t ≤ 99) (h8 : ∀ s t, s < n → t < mi → ff s t ≤ 8) {he t : Nat} (hh : he < n) (ht : t < mi) : ∀ (f s : Nat) (v5 : Option Value), s + f = n → am_Good mi_170 5 [some (.ref 66), some (.retAddr he), some (.retAddr t), some (.retAddr (wk_be fw t he s)), some (.retAddr s), v5] [] (mz h g mi go n nr z5 sa fa we w x b on) (some (.retAddr (wk_be fw t he n)), (mz h g mi go n nr z5 sa fa we w x b on))
  | 0, s, v5, e => by
    have e' : s = n := by omega
    subst e'
    exact mbz_0 hH hw hx hb hn1 hn hm hgo h99 h8
  | f + 1, s, v5, e => by
    have q := fun v5 => mb_l (g := g) (nr := nr) (z5 := z5) (sa := sa) (fa := fa) (we := we) (on := on) hH hw hx hb hn1 hn hm hgo h99 h8 hh ht f (s + 1) v5 (by omega)
    have hl := wk_be_lt (fw := fw) (t := t) hh (s := s) (by omega)
    have e1 : wk_be fw t he (s + 1) = if fw (wk_be fw t he s) t < fw s t then s else wk_be fw t he s := rfl
    rw [e1] at q
    by_cases hc : fw (wk_be fw t he s) t < fw s t
    · rw [if_pos hc] at q
      exact mb_1a hH hw hx hb hn1 hn hm hgo h99 h8 (by omega) hl ht hc (q _)
    · rw [if_neg hc] at q
      exact mb_1b hH hw hx hb hn1 hn hm hgo h99 h8 (by omega) hl ht hc (q _)
theorem mb_m {h : am_H} {g : Nat → Value} {mi go n nr z5 sa fa we w x b on : Nat} (hH : mz_ok h) {fw ff : Nat → Nat → Nat} {fb : Nat → Nat → Bool} (hw : ∀ s t, s < n → t < mi → am_ag w (64 * s + t) = fw s t) (hx : ∀ s t, s < n → t < mi → am_ag x (64 * s + t) = lc_8 (ff s t)) (hb : ∀ s t, s < n → t < mi → am_ag b (64 * s + t) = if fb s t = true then 1 else 0) (hn1 : 1 ≤ n) (hn : n ≤ 4) (hm : mi ≤ 60) (hgo : go ≤ 3) (h99 : ∀ s t, s < n → t < mi → fw s t ≤ 99) (h8 : ∀ s t, s < n → t < mi → ff s t ≤ 8) {he t : Nat} (hh : he < n) (ht : t < mi) : am_EG mi_170 [.ref 66, .retAddr he, .retAddr t] (mz h g mi go n nr z5 sa fa we w x b on) (some (.retAddr (wk_be fw t he n)), (mz h g mi go n nr z5 sa fa we w x b on)) := by
  refine am_enter (n := 3) tk_170.2.1 (by simp [Value.category]) (Nat.le_of_ble_eq_true rfl) ?_
  show am_Good mi_170 0 [some (.ref 66), some (.retAddr he), some (.retAddr t), none, none, none] [] (mz h g mi go n nr z5 sa fa we w x b on) _
  refine g_iload_n (i := 1) dd_170_0 rfl ?_
  refine g_istore_n (i := 3) dd_170_1 (am_nlb_ok rfl) (by decide) ?_
  refine g_iconst dd_170_2 ic_0 ?_
  refine g_istore dd_170_3 (am_nlb_ok rfl) (by decide) ?_
  exact mb_l hH hw hx hb hn1 hn hm hgo h99 h8 hh ht n 0 none (by omega)
theorem mn_0 {h : am_H} {g : Nat → Value} {mi go n nr z5 sa fa we w x b on : Nat} (hH : mz_ok h) {fw ff : Nat → Nat → Nat} {fb : Nat → Nat → Bool} (hw : ∀ s t, s < n → t < mi → am_ag w (64 * s + t) = fw s t) (hx : ∀ s t, s < n → t < mi → am_ag x (64 * s + t) = lc_8 (ff s t)) (hb : ∀ s t, s < n → t < mi → am_ag b (64 * s + t) = if fb s t = true then 1 else 0) (hn1 : 1 ≤ n) (hn : n ≤ 4) (hm : mi ≤ 60) (hgo : go ≤ 3) (h99 : ∀ s t, s < n → t < mi → fw s t ≤ 99) (h8 : ∀ s t, s < n → t < mi → ff s t ≤ 8) {own he t : Nat} (ht : t < mi) (hh : he < n) (ho : own < n) : am_EG mi_168 [.ref 66, .retAddr 0, .retAddr own, .retAddr he, .retAddr t] (mz h g mi go n nr z5 sa fa we w x b on) (some (.retAddr he), (mz h g mi go n nr z5 sa fa we w x b on)) := by
  refine am_enter (n := 0) tk_168.2.1 (by simp [Value.category]) (Nat.le_of_ble_eq_true rfl) ?_
  show am_Good mi_168 0 [some (.ref 66), some (.retAddr 0), some (.retAddr own), some (.retAddr he), some (.retAddr t)] [] (mz h g mi go n nr z5 sa fa we w x b on) _
  refine g_iload_n (i := 1) dd_168_0 rfl ?_
  refine g_tableIn (a := 0) (off := 27) (t := 28) dd_168_1 (by decide) (by decide) (by decide) rfl (by decide) ?_
  refine g_iload_n (i := 3) dd_168_28 rfl ?_
  exact g_ireturn rfl dd_168_29
theorem mn_1 {h : am_H} {g : Nat → Value} {mi go n nr z5 sa fa we w x b on : Nat} (hH : mz_ok h) {fw ff : Nat → Nat → Nat} {fb : Nat → Nat → Bool} (hw : ∀ s t, s < n → t < mi → am_ag w (64 * s + t) = fw s t) (hx : ∀ s t, s < n → t < mi → am_ag x (64 * s + t) = lc_8 (ff s t)) (hb : ∀ s t, s < n → t < mi → am_ag b (64 * s + t) = if fb s t = true then 1 else 0) (hn1 : 1 ≤ n) (hn : n ≤ 4) (hm : mi ≤ 60) (hgo : go ≤ 3) (h99 : ∀ s t, s < n → t < mi → fw s t ≤ 99) (h8 : ∀ s t, s < n → t < mi → ff s t ≤ 8) {own he t : Nat} (ht : t < mi) (hh : he < n) (ho : own < n) : am_EG mi_168 [.ref 66, .retAddr 1, .retAddr own, .retAddr he, .retAddr t] (mz h g mi go n nr z5 sa fa we w x b on) (some (.retAddr (wk_ub fb n t he n he)), (mz h g mi go n nr z5 sa fa we w x b on)) := by
  refine am_enter (n := 0) tk_168.2.1 (by simp [Value.category]) (Nat.le_of_ble_eq_true rfl) ?_
  show am_Good mi_168 0 [some (.ref 66), some (.retAddr 1), some (.retAddr own), some (.retAddr he), some (.retAddr t)] [] (mz h g mi go n nr z5 sa fa we w x b on) _
  refine g_iload_n (i := 1) dd_168_0 rfl ?_
  refine g_tableIn (a := 1) (off := 29) (t := 30) dd_168_1 (by decide) (by decide) (by decide) rfl (by decide) ?_
  refine g_aload_n (i := 0) dd_168_30 rfl ?_
  refine g_iload_n (i := 3) dd_168_31 rfl ?_
  refine g_iload dd_168_32 rfl ?_
  refine g_virtual (M' := mi_169) (n := 2) (ci := 12) (b := 66) (as := [.retAddr he, .retAddr t]) (st := []) (r1 := (some (.retAddr (wk_ub fb n t he n he)), (mz h g mi go n nr z5 sa fa we w x b on))) w_1246 w_1248 ps_169 ⟨lk_169.1, lk_169.2.1, lk_169.2.2, by decide, by decide⟩ rfl (mz_g66 hH) rfl (by simp [Value.category]) dd_168_34 (mu_m hH hw hx hb hn1 hn hm hgo h99 h8 hh ht) ?_
  show am_Good mi_168 37 [some (.ref 66), some (.retAddr 1), some (.retAddr own), some (.retAddr he), some (.retAddr t)] [.retAddr (wk_ub fb n t he n he)] (mz h g mi go n nr z5 sa fa we w x b on) _
  exact g_ireturn rfl dd_168_37
theorem mn_2a {h : am_H} {g : Nat → Value} {mi go n nr z5 sa fa we w x b on : Nat} (hH : mz_ok h) {fw ff : Nat → Nat → Nat} {fb : Nat → Nat → Bool} (hw : ∀ s t, s < n → t < mi → am_ag w (64 * s + t) = fw s t) (hx : ∀ s t, s < n → t < mi → am_ag x (64 * s + t) = lc_8 (ff s t)) (hb : ∀ s t, s < n → t < mi → am_ag b (64 * s + t) = if fb s t = true then 1 else 0) (hn1 : 1 ≤ n) (hn : n ≤ 4) (hm : mi ≤ 60) (hgo : go ≤ 3) (h99 : ∀ s t, s < n → t < mi → fw s t ≤ 99) (h8 : ∀ s t, s < n → t < mi → ff s t ≤ 8) {own he t : Nat} (ht : t < mi) (hh : he < n) (ho : own < n) (hc : fb own t = true) : am_EG mi_168 [.ref 66, .retAddr 2, .retAddr own, .retAddr he, .retAddr t] (mz h g mi go n nr z5 sa fa we w x b on) (some (.retAddr (wk_ub fb n t he n he)), (mz h g mi go n nr z5 sa fa we w x b on)) := by
  refine am_enter (n := 0) tk_168.2.1 (by simp [Value.category]) (Nat.le_of_ble_eq_true rfl) ?_
  show am_Good mi_168 0 [some (.ref 66), some (.retAddr 2), some (.retAddr own), some (.retAddr he), some (.retAddr t)] [] (mz h g mi go n nr z5 sa fa we w x b on) _
  refine g_iload_n (i := 1) dd_168_0 rfl ?_
  refine g_tableIn (a := 2) (off := 37) (t := 38) dd_168_1 (by decide) (by decide) (by decide) rfl (by decide) ?_
  refine g_aload_n (i := 0) dd_168_38 rfl ?_
  refine g_getfield (k := 34) am_ck12 (by decide) (Or.inl w_969) dd_168_39 (mz_g66 hH) rfl ?_
  refine g_bipush dd_168_42 bi_64 ?_
  refine g_iload_n (i := 2) dd_168_44 rfl ?_
  refine e_imul (v := 64 * own) dd_168_45 (by omega) ?_
  refine g_iload dd_168_46 rfl ?_
  refine e_iadd (v := 64 * own + t) dd_168_48 (by omega) ?_
  refine g_zaload dd_168_49 (mz_g83 hH) (by omega) (by decide) ?_
  have hl_1 := am_ag_lt b (64 * own + t)
  rw [show am_ag b (64 * own + t) = 1 from (by rw [hb _ _ ho ht, if_pos hc])]
  rw [show am_ag b (64 * own + t) = 1 from (by rw [hb _ _ ho ht, if_pos hc])] at hl_1
  refine g_if_eq_f (t := 63) dd_168_50 (by decide) (by decide) ?_
  refine g_aload_n (i := 0) dd_168_53 rfl ?_
  refine g_iload_n (i := 3) dd_168_54 rfl ?_
  refine g_iload dd_168_55 rfl ?_
  refine g_virtual (M' := mi_169) (n := 2) (ci := 12) (b := 66) (as := [.retAddr he, .retAddr t]) (st := []) (r1 := (some (.retAddr (wk_ub fb n t he n he)), (mz h g mi go n nr z5 sa fa we w x b on))) w_1246 w_1248 ps_169 ⟨lk_169.1, lk_169.2.1, lk_169.2.2, by decide, by decide⟩ rfl (mz_g66 hH) rfl (by simp [Value.category]) dd_168_57 (mu_m hH hw hx hb hn1 hn hm hgo h99 h8 hh ht) ?_
  show am_Good mi_168 60 [some (.ref 66), some (.retAddr 2), some (.retAddr own), some (.retAddr he), some (.retAddr t)] [.retAddr (wk_ub fb n t he n he)] (mz h g mi go n nr z5 sa fa we w x b on) _
  refine g_goto (t := 64) dd_168_60 (by decide) ?_
  exact g_ireturn rfl dd_168_64
theorem mn_2b {h : am_H} {g : Nat → Value} {mi go n nr z5 sa fa we w x b on : Nat} (hH : mz_ok h) {fw ff : Nat → Nat → Nat} {fb : Nat → Nat → Bool} (hw : ∀ s t, s < n → t < mi → am_ag w (64 * s + t) = fw s t) (hx : ∀ s t, s < n → t < mi → am_ag x (64 * s + t) = lc_8 (ff s t)) (hb : ∀ s t, s < n → t < mi → am_ag b (64 * s + t) = if fb s t = true then 1 else 0) (hn1 : 1 ≤ n) (hn : n ≤ 4) (hm : mi ≤ 60) (hgo : go ≤ 3) (h99 : ∀ s t, s < n → t < mi → fw s t ≤ 99) (h8 : ∀ s t, s < n → t < mi → ff s t ≤ 8) {own he t : Nat} (ht : t < mi) (hh : he < n) (ho : own < n) (hc : ¬ fb own t = true) : am_EG mi_168 [.ref 66, .retAddr 2, .retAddr own, .retAddr he, .retAddr t] (mz h g mi go n nr z5 sa fa we w x b on) (some (.retAddr own), (mz h g mi go n nr z5 sa fa we w x b on)) := by
  refine am_enter (n := 0) tk_168.2.1 (by simp [Value.category]) (Nat.le_of_ble_eq_true rfl) ?_
  show am_Good mi_168 0 [some (.ref 66), some (.retAddr 2), some (.retAddr own), some (.retAddr he), some (.retAddr t)] [] (mz h g mi go n nr z5 sa fa we w x b on) _
  refine g_iload_n (i := 1) dd_168_0 rfl ?_
  refine g_tableIn (a := 2) (off := 37) (t := 38) dd_168_1 (by decide) (by decide) (by decide) rfl (by decide) ?_
  refine g_aload_n (i := 0) dd_168_38 rfl ?_
  refine g_getfield (k := 34) am_ck12 (by decide) (Or.inl w_969) dd_168_39 (mz_g66 hH) rfl ?_
  refine g_bipush dd_168_42 bi_64 ?_
  refine g_iload_n (i := 2) dd_168_44 rfl ?_
  refine e_imul (v := 64 * own) dd_168_45 (by omega) ?_
  refine g_iload dd_168_46 rfl ?_
  refine e_iadd (v := 64 * own + t) dd_168_48 (by omega) ?_
  refine g_zaload dd_168_49 (mz_g83 hH) (by omega) (by decide) ?_
  have hl_1 := am_ag_lt b (64 * own + t)
  rw [show am_ag b (64 * own + t) = 0 from (by rw [hb _ _ ho ht, if_neg hc])]
  rw [show am_ag b (64 * own + t) = 0 from (by rw [hb _ _ ho ht, if_neg hc])] at hl_1
  refine g_if_eq_t (t := 63) dd_168_50 (by decide) (by decide) ?_
  refine g_iload_n (i := 2) dd_168_63 rfl ?_
  exact g_ireturn rfl dd_168_64
theorem mn_3 {h : am_H} {g : Nat → Value} {mi go n nr z5 sa fa we w x b on : Nat} (hH : mz_ok h) {fw ff : Nat → Nat → Nat} {fb : Nat → Nat → Bool} (hw : ∀ s t, s < n → t < mi → am_ag w (64 * s + t) = fw s t) (hx : ∀ s t, s < n → t < mi → am_ag x (64 * s + t) = lc_8 (ff s t)) (hb : ∀ s t, s < n → t < mi → am_ag b (64 * s + t) = if fb s t = true then 1 else 0) (hn1 : 1 ≤ n) (hn : n ≤ 4) (hm : mi ≤ 60) (hgo : go ≤ 3) (h99 : ∀ s t, s < n → t < mi → fw s t ≤ 99) (h8 : ∀ s t, s < n → t < mi → ff s t ≤ 8) {own he t : Nat} (ht : t < mi) (hh : he < n) (ho : own < n) : am_EG mi_168 [.ref 66, .retAddr 3, .retAddr own, .retAddr he, .retAddr t] (mz h g mi go n nr z5 sa fa we w x b on) (some (.retAddr (wk_be fw t he n)), (mz h g mi go n nr z5 sa fa we w x b on)) := by
  refine am_enter (n := 0) tk_168.2.1 (by simp [Value.category]) (Nat.le_of_ble_eq_true rfl) ?_
  show am_Good mi_168 0 [some (.ref 66), some (.retAddr 3), some (.retAddr own), some (.retAddr he), some (.retAddr t)] [] (mz h g mi go n nr z5 sa fa we w x b on) _
  refine g_iload_n (i := 1) dd_168_0 rfl ?_
  refine g_tableOut (t := 65) dd_168_1 (by decide) (by decide) (by decide) (by decide) ?_
  refine g_aload_n (i := 0) dd_168_65 rfl ?_
  refine g_iload_n (i := 3) dd_168_66 rfl ?_
  refine g_iload dd_168_67 rfl ?_
  refine g_virtual (M' := mi_170) (n := 2) (ci := 12) (b := 66) (as := [.retAddr he, .retAddr t]) (st := []) (r1 := (some (.retAddr (wk_be fw t he n)), (mz h g mi go n nr z5 sa fa we w x b on))) w_1250 w_1252 ps_170 ⟨lk_170.1, lk_170.2.1, lk_170.2.2, by decide, by decide⟩ rfl (mz_g66 hH) rfl (by simp [Value.category]) dd_168_69 (mb_m hH hw hx hb hn1 hn hm hgo h99 h8 hh ht) ?_
  show am_Good mi_168 72 [some (.ref 66), some (.retAddr 3), some (.retAddr own), some (.retAddr he), some (.retAddr t)] [.retAddr (wk_be fw t he n)] (mz h g mi go n nr z5 sa fa we w x b on) _
  exact g_ireturn rfl dd_168_72
theorem mn_m {h : am_H} {g : Nat → Value} {mi go n nr z5 sa fa we w x b on : Nat} (hH : mz_ok h) {fw ff : Nat → Nat → Nat} {fb : Nat → Nat → Bool} (hw : ∀ s t, s < n → t < mi → am_ag w (64 * s + t) = fw s t) (hx : ∀ s t, s < n → t < mi → am_ag x (64 * s + t) = lc_8 (ff s t)) (hb : ∀ s t, s < n → t < mi → am_ag b (64 * s + t) = if fb s t = true then 1 else 0) (hn1 : 1 ≤ n) (hn : n ≤ 4) (hm : mi ≤ 60) (hgo : go ≤ 3) (h99 : ∀ s t, s < n → t < mi → fw s t ≤ 99) (h8 : ∀ s t, s < n → t < mi → ff s t ≤ 8) {own he t : Nat} (ht : t < mi) (hh : he < n) (ho : own < n) {kind : Nat} (hk : kind ≤ 3) : am_EG mi_168 [.ref 66, .retAddr kind, .retAddr own, .retAddr he, .retAddr t] (mz h g mi go n nr z5 sa fa we w x b on) (some (.retAddr (wk_wi fw fb n kind own t he)), (mz h g mi go n nr z5 sa fa we w x b on)) := by
  unfold wk_wi
  rcases (show kind = 0 ∨ kind = 1 ∨ kind = 2 ∨ kind = 3 by omega) with rfl | rfl | rfl | rfl
  · exact mn_0 hH hw hx hb hn1 hn hm hgo h99 h8 ht hh ho
  · exact mn_1 hH hw hx hb hn1 hn hm hgo h99 h8 ht hh ho
  · by_cases hc : fb own t = true
    · rw [if_neg (by decide), if_neg (by decide), if_pos rfl, if_pos hc]
      exact mn_2a hH hw hx hb hn1 hn hm hgo h99 h8 ht hh ho hc
    · rw [if_neg (by decide), if_neg (by decide), if_pos rfl, if_neg hc]
      exact mn_2b hH hw hx hb hn1 hn hm hgo h99 h8 ht hh ho hc
  · exact mn_3 hH hw hx hb hn1 hn hm hgo h99 h8 ht hh ho
theorem mg_0 {h : am_H} {g : Nat → Value} {mi go n nr z5 sa fa we w x b on : Nat} (hH : mz_ok h) {fw ff : Nat → Nat → Nat} {fb : Nat → Nat → Bool} (hw : ∀ s t, s < n → t < mi → am_ag w (64 * s + t) = fw s t) (hx : ∀ s t, s < n → t < mi → am_ag x (64 * s + t) = lc_8 (ff s t)) (hb : ∀ s t, s < n → t < mi → am_ag b (64 * s + t) = if fb s t = true then 1 else 0) (hn1 : 1 ≤ n) (hn : n ≤ 4) (hm : mi ≤ 60) (hgo : go ≤ 3) (h99 : ∀ s t, s < n → t < mi → fw s t ≤ 99) (h8 : ∀ s t, s < n → t < mi → ff s t ≤ 8) : am_EG mi_167 [.ref 66] (mz h g mi go n nr z5 sa fa we w x b on) (none, (mz h g mi go n nr z5 0 0 0 w x b on)) := by
  refine am_enter (n := 0) tk_167.2.1 (by simp [Value.category]) (Nat.le_of_ble_eq_true rfl) ?_
  show am_Good mi_167 0 [some (.ref 66)] [] (mz h g mi go n nr z5 sa fa we w x b on) _
  refine g_aload_n (i := 0) dd_167_0 rfl ?_
  refine g_iconst dd_167_1 ic_0 ?_
  refine g_putfield (k := 36) am_ck12 (by decide) (Or.inl w_971) (Or.inl rfl) dd_167_2 (mz_g66 hH) (Nat.le_of_ble_eq_true rfl) trivial ?_
  refine am_heq (mz_u66 hH) ?_
  show am_Good mi_167 5 [some (.ref 66)] [] (mz h g mi go n nr z5 0 fa we w x b on) _
  refine g_aload_n (i := 0) dd_167_5 rfl ?_
  refine g_iconst dd_167_6 ic_0 ?_
  refine g_putfield (k := 37) am_ck12 (by decide) (Or.inl w_972) (Or.inl rfl) dd_167_7 (mz_g66 hH) (Nat.le_of_ble_eq_true rfl) trivial ?_
  refine am_heq (mz_u66 hH) ?_
  show am_Good mi_167 10 [some (.ref 66)] [] (mz h g mi go n nr z5 0 0 we w x b on) _
  refine g_aload_n (i := 0) dd_167_10 rfl ?_
  refine g_iconst dd_167_11 ic_0 ?_
  refine g_putfield (k := 38) am_ck12 (by decide) (Or.inl w_973) (Or.inl rfl) dd_167_12 (mz_g66 hH) (Nat.le_of_ble_eq_true rfl) trivial ?_
  refine am_heq (mz_u66 hH) ?_
  show am_Good mi_167 15 [some (.ref 66)] [] (mz h g mi go n nr z5 0 0 0 w x b on) _
  exact g_return rfl dd_167_15
theorem mk_a {h : am_H} {g : Nat → Value} {mi go n nr z5 sa fa we w x b on : Nat} (hH : mz_ok h) {fw ff : Nat → Nat → Nat} {fb : Nat → Nat → Bool} (hw : ∀ s t, s < n → t < mi → am_ag w (64 * s + t) = fw s t) (hx : ∀ s t, s < n → t < mi → am_ag x (64 * s + t) = lc_8 (ff s t)) (hb : ∀ s t, s < n → t < mi → am_ag b (64 * s + t) = if fb s t = true then 1 else 0) (hn1 : 1 ≤ n) (hn : n ≤ 4) (hm : mi ≤ 60) (hgo : go ≤ 3) (h99 : ∀ s t, s < n → t < mi → fw s t ≤ 99) (h8 : ∀ s t, s < n → t < mi → ff s t ≤ 8) {r : am_R} {kind own t he fr : Nat} {v6 : Option Value} (hk : kind ≤ 3) (ho : own < n) (ht : t < mi) (hh : he < n) (hfr : fr ≤ 70) (hsa : sa ≤ 5940) (hwe : we ≤ 60) (hf : fr ≤ t) (hw_ : wk_wi fw fb n kind own t he = he) (hg : am_Good mi_166 12 [some (.ref 66), some (.retAddr kind), some (.retAddr own), some (.retAddr (wk_wi fw fb n kind own t he)), some (.retAddr t), some (.retAddr (t + 1)), some (.retAddr (wk_wi fw fb n kind own t he))] [] (mz h g mi go n nr z5 (sa + fw (wk_wi fw fb n kind own t he) t) (fa ||| fbt (ff (wk_wi fw fb n kind own t he) t)) we w x b (am_as (am_as on t 4294967292) t (wk_wi fw fb n kind own t he))) r) : am_Good mi_166 12 [some (.ref 66), some (.retAddr kind), some (.retAddr own), some (.retAddr he), some (.retAddr fr), some (.retAddr t), v6] [] (mz h g mi go n nr z5 sa fa we w x b on) r := by
  have hl := wk_wi_lt (fw := fw) (fb := fb) (kind := kind) (t := t) hh ho
  refine g_iload dd_166_12 rfl ?_
  refine g_aload_n (i := 0) dd_166_14 rfl ?_
  refine g_getfield (k := 0) am_ck12 (by decide) (Or.inl w_935) dd_166_15 (mz_g66 hH) rfl ?_
  refine g_icmp_ge_f (t := 111) dd_166_18 (by decide) (by first | exact sk_ge_f (by omega) (by omega) | exact tk_ge_f (by omega)) ?_
  refine g_aload_n (i := 0) dd_166_21 rfl ?_
  refine g_getfield (k := 35) am_ck12 (by decide) (Or.inl w_970) dd_166_22 (mz_g66 hH) rfl ?_
  refine g_iload dd_166_25 rfl ?_
  refine g_bipush dd_166_27 bi_m4 ?_
  refine g_iastore dd_166_29 (mz_g84 hH) (by omega) (by decide) ?_
  refine am_heq (mz_u84 hH) ?_
  show am_Good mi_166 30 [some (.ref 66), some (.retAddr kind), some (.retAddr own), some (.retAddr he), some (.retAddr fr), some (.retAddr t), v6] [] (mz h g mi go n nr z5 sa fa we w x b (am_as on t 4294967292)) _
  refine g_iload dd_166_30 rfl ?_
  refine g_iload dd_166_32 rfl ?_
  refine g_icmp_lt_f (t := 105) dd_166_34 (by decide) (by first | exact sk_lt_f (by omega) (by omega) | exact tk_lt_f (by omega)) ?_
  refine g_aload_n (i := 0) dd_166_37 rfl ?_
  refine g_iload_n (i := 1) dd_166_38 rfl ?_
  refine g_iload_n (i := 2) dd_166_39 rfl ?_
  refine g_iload_n (i := 3) dd_166_40 rfl ?_
  refine g_iload dd_166_41 rfl ?_
  refine g_virtual (M' := mi_168) (n := 4) (ci := 12) (b := 66) (as := [.retAddr kind, .retAddr own, .retAddr he, .retAddr t]) (st := []) (r1 := (some (.retAddr (wk_wi fw fb n kind own t he)), (mz h g mi go n nr z5 sa fa we w x b (am_as on t 4294967292)))) w_1242 w_1244 ps_168 ⟨lk_168.1, lk_168.2.1, lk_168.2.2, by decide, by decide⟩ rfl (mz_g66 hH) rfl (by simp [Value.category]) dd_166_43 (mn_m hH hw hx hb hn1 hn hm hgo h99 h8 ht hh ho hk) ?_
  show am_Good mi_166 46 [some (.ref 66), some (.retAddr kind), some (.retAddr own), some (.retAddr he), some (.retAddr fr), some (.retAddr t), v6] [.retAddr (wk_wi fw fb n kind own t he)] (mz h g mi go n nr z5 sa fa we w x b (am_as on t 4294967292)) _
  refine g_istore dd_166_46 (am_nlb_ok rfl) (by decide) ?_
  refine g_aload_n (i := 0) dd_166_48 rfl ?_
  refine g_dup dd_166_49 rfl ?_
  refine g_getfield (k := 38) am_ck12 (by decide) (Or.inl w_973) dd_166_50 (mz_g66 hH) rfl ?_
  refine g_iload dd_166_53 rfl ?_
  refine g_iload_n (i := 3) dd_166_55 rfl ?_
  refine g_icmp_ne_f (t := 63) dd_166_56 (by decide) (tk_ne_f (by omega)) ?_
  refine g_iconst dd_166_59 ic_0 ?_
  refine g_goto (t := 64) dd_166_60 (by decide) ?_
  refine e_iadd (v := we) dd_166_64 (by omega) ?_
  refine g_putfield (k := 38) am_ck12 (by decide) (Or.inl w_973) (Or.inl rfl) dd_166_65 (mz_g66 hH) (Nat.le_of_ble_eq_true rfl) trivial ?_
  refine am_heq (mz_u66 hH) ?_
  show am_Good mi_166 68 [some (.ref 66), some (.retAddr kind), some (.retAddr own), some (.retAddr he), some (.retAddr fr), some (.retAddr t), some (.retAddr (wk_wi fw fb n kind own t he))] [] (mz h g mi go n nr z5 sa fa we w x b (am_as on t 4294967292)) _
  refine g_iload dd_166_68 rfl ?_
  refine g_iload_n (i := 3) dd_166_70 rfl ?_
  refine g_icmp_ne_f (t := 79) dd_166_71 (by decide) (tk_ne_f (by omega)) ?_
  refine g_iload dd_166_74 rfl ?_
  refine g_goto (t := 86) dd_166_76 (by decide) ?_
  refine g_istore dd_166_86 (am_nlb_ok rfl) (by decide) ?_
  refine g_iload dd_166_88 rfl ?_
  refine g_istore_n (i := 3) dd_166_90 (am_nlb_ok rfl) (by decide) ?_
  refine g_iload dd_166_91 rfl ?_
  refine g_iload dd_166_93 rfl ?_
  refine g_icmp_ne_f (t := 105) dd_166_95 (by decide) (tk_ne_f (by omega)) ?_
  refine g_aload_n (i := 0) dd_166_98 rfl ?_
  refine g_iload_n (i := 3) dd_166_99 rfl ?_
  refine g_iload dd_166_100 rfl ?_
  refine g_virtual (M' := mi_171) (n := 2) (ci := 12) (b := 66) (as := [.retAddr (wk_wi fw fb n kind own t he), .retAddr t]) (st := []) (r1 := (none, (mz h g mi go n nr z5 (sa + fw (wk_wi fw fb n kind own t he) t) (fa ||| fbt (ff (wk_wi fw fb n kind own t he) t)) we w x b (am_as (am_as on t 4294967292) t (wk_wi fw fb n kind own t he))))) w_1254 w_1256 ps_171 ⟨lk_171.1, lk_171.2.1, lk_171.2.2, by decide, by decide⟩ rfl (mz_g66 hH) rfl (by simp [Value.category]) dd_166_102 (ms_s hH hw hx hb hn1 hn hm hgo h99 h8 hl ht (by omega)) ?_
  show am_Good mi_166 105 [some (.ref 66), some (.retAddr kind), some (.retAddr own), some (.retAddr (wk_wi fw fb n kind own t he)), some (.retAddr t), some (.retAddr t), some (.retAddr (wk_wi fw fb n kind own t he))] [] (mz h g mi go n nr z5 (sa + fw (wk_wi fw fb n kind own t he) t) (fa ||| fbt (ff (wk_wi fw fb n kind own t he) t)) we w x b (am_as (am_as on t 4294967292) t (wk_wi fw fb n kind own t he))) _
  refine e_iinc (v := 1) (w := t + 1) dd_166_105 rfl ic_1 (am_nlb_ok rfl) (by decide) (by omega) ?_
  refine g_goto (t := 12) dd_166_108 (by decide) ?_
  exact hg
theorem mk_b {h : am_H} {g : Nat → Value} {mi go n nr z5 sa fa we w x b on : Nat} (hH : mz_ok h) {fw ff : Nat → Nat → Nat} {fb : Nat → Nat → Bool} (hw : ∀ s t, s < n → t < mi → am_ag w (64 * s + t) = fw s t) (hx : ∀ s t, s < n → t < mi → am_ag x (64 * s + t) = lc_8 (ff s t)) (hb : ∀ s t, s < n → t < mi → am_ag b (64 * s + t) = if fb s t = true then 1 else 0) (hn1 : 1 ≤ n) (hn : n ≤ 4) (hm : mi ≤ 60) (hgo : go ≤ 3) (h99 : ∀ s t, s < n → t < mi → fw s t ≤ 99) (h8 : ∀ s t, s < n → t < mi → ff s t ≤ 8) {r : am_R} {kind own t he fr : Nat} {v6 : Option Value} (hk : kind ≤ 3) (ho : own < n) (ht : t < mi) (hh : he < n) (hfr : fr ≤ 70) (hsa : sa ≤ 5940) (hwe : we ≤ 60) (hf : fr ≤ t) (hw_ : wk_wi fw fb n kind own t he ≠ he) (h0 : go = 0) (hg : am_Good mi_166 12 [some (.ref 66), some (.retAddr kind), some (.retAddr own), some (.retAddr (wk_wi fw fb n kind own t he)), some (.retAddr (t + go)), some (.retAddr (t + 1)), some (.retAddr (wk_wi fw fb n kind own t he))] [] (mz h g mi go n nr z5 (sa + fw (wk_wi fw fb n kind own t he) t) (fa ||| fbt (ff (wk_wi fw fb n kind own t he) t)) (we + 1) w x b (am_as (am_as on t 4294967292) t (wk_wi fw fb n kind own t he))) r) : am_Good mi_166 12 [some (.ref 66), some (.retAddr kind), some (.retAddr own), some (.retAddr he), some (.retAddr fr), some (.retAddr t), v6] [] (mz h g mi go n nr z5 sa fa we w x b on) r := by
  have hl := wk_wi_lt (fw := fw) (fb := fb) (kind := kind) (t := t) hh ho
  refine g_iload dd_166_12 rfl ?_
  refine g_aload_n (i := 0) dd_166_14 rfl ?_
  refine g_getfield (k := 0) am_ck12 (by decide) (Or.inl w_935) dd_166_15 (mz_g66 hH) rfl ?_
  refine g_icmp_ge_f (t := 111) dd_166_18 (by decide) (by first | exact sk_ge_f (by omega) (by omega) | exact tk_ge_f (by omega)) ?_
  refine g_aload_n (i := 0) dd_166_21 rfl ?_
  refine g_getfield (k := 35) am_ck12 (by decide) (Or.inl w_970) dd_166_22 (mz_g66 hH) rfl ?_
  refine g_iload dd_166_25 rfl ?_
  refine g_bipush dd_166_27 bi_m4 ?_
  refine g_iastore dd_166_29 (mz_g84 hH) (by omega) (by decide) ?_
  refine am_heq (mz_u84 hH) ?_
  show am_Good mi_166 30 [some (.ref 66), some (.retAddr kind), some (.retAddr own), some (.retAddr he), some (.retAddr fr), some (.retAddr t), v6] [] (mz h g mi go n nr z5 sa fa we w x b (am_as on t 4294967292)) _
  refine g_iload dd_166_30 rfl ?_
  refine g_iload dd_166_32 rfl ?_
  refine g_icmp_lt_f (t := 105) dd_166_34 (by decide) (by first | exact sk_lt_f (by omega) (by omega) | exact tk_lt_f (by omega)) ?_
  refine g_aload_n (i := 0) dd_166_37 rfl ?_
  refine g_iload_n (i := 1) dd_166_38 rfl ?_
  refine g_iload_n (i := 2) dd_166_39 rfl ?_
  refine g_iload_n (i := 3) dd_166_40 rfl ?_
  refine g_iload dd_166_41 rfl ?_
  refine g_virtual (M' := mi_168) (n := 4) (ci := 12) (b := 66) (as := [.retAddr kind, .retAddr own, .retAddr he, .retAddr t]) (st := []) (r1 := (some (.retAddr (wk_wi fw fb n kind own t he)), (mz h g mi go n nr z5 sa fa we w x b (am_as on t 4294967292)))) w_1242 w_1244 ps_168 ⟨lk_168.1, lk_168.2.1, lk_168.2.2, by decide, by decide⟩ rfl (mz_g66 hH) rfl (by simp [Value.category]) dd_166_43 (mn_m hH hw hx hb hn1 hn hm hgo h99 h8 ht hh ho hk) ?_
  show am_Good mi_166 46 [some (.ref 66), some (.retAddr kind), some (.retAddr own), some (.retAddr he), some (.retAddr fr), some (.retAddr t), v6] [.retAddr (wk_wi fw fb n kind own t he)] (mz h g mi go n nr z5 sa fa we w x b (am_as on t 4294967292)) _
  refine g_istore dd_166_46 (am_nlb_ok rfl) (by decide) ?_
  refine g_aload_n (i := 0) dd_166_48 rfl ?_
  refine g_dup dd_166_49 rfl ?_
  refine g_getfield (k := 38) am_ck12 (by decide) (Or.inl w_973) dd_166_50 (mz_g66 hH) rfl ?_
  refine g_iload dd_166_53 rfl ?_
  refine g_iload_n (i := 3) dd_166_55 rfl ?_
  refine g_icmp_ne_t (t := 63) dd_166_56 (by decide) (tk_ne_t (by omega)) ?_
  refine g_iconst dd_166_63 ic_1 ?_
  refine e_iadd (v := we + 1) dd_166_64 (by omega) ?_
  refine g_putfield (k := 38) am_ck12 (by decide) (Or.inl w_973) (Or.inl rfl) dd_166_65 (mz_g66 hH) (Nat.le_of_ble_eq_true rfl) trivial ?_
  refine am_heq (mz_u66 hH) ?_
  show am_Good mi_166 68 [some (.ref 66), some (.retAddr kind), some (.retAddr own), some (.retAddr he), some (.retAddr fr), some (.retAddr t), some (.retAddr (wk_wi fw fb n kind own t he))] [] (mz h g mi go n nr z5 sa fa (we + 1) w x b (am_as on t 4294967292)) _
  refine g_iload dd_166_68 rfl ?_
  refine g_iload_n (i := 3) dd_166_70 rfl ?_
  refine g_icmp_ne_t (t := 79) dd_166_71 (by decide) (tk_ne_t (by omega)) ?_
  refine g_iload dd_166_79 rfl ?_
  refine g_aload_n (i := 0) dd_166_81 rfl ?_
  refine g_getfield (k := 1) am_ck12 (by decide) (Or.inl w_936) dd_166_82 (mz_g66 hH) rfl ?_
  refine e_iadd (v := t + go) dd_166_85 (by omega) ?_
  refine g_istore dd_166_86 (am_nlb_ok rfl) (by decide) ?_
  refine g_iload dd_166_88 rfl ?_
  refine g_istore_n (i := 3) dd_166_90 (am_nlb_ok rfl) (by decide) ?_
  refine g_iload dd_166_91 rfl ?_
  refine g_iload dd_166_93 rfl ?_
  refine g_icmp_ne_f (t := 105) dd_166_95 (by decide) (tk_ne_f (by omega)) ?_
  refine g_aload_n (i := 0) dd_166_98 rfl ?_
  refine g_iload_n (i := 3) dd_166_99 rfl ?_
  refine g_iload dd_166_100 rfl ?_
  refine g_virtual (M' := mi_171) (n := 2) (ci := 12) (b := 66) (as := [.retAddr (wk_wi fw fb n kind own t he), .retAddr t]) (st := []) (r1 := (none, (mz h g mi go n nr z5 (sa + fw (wk_wi fw fb n kind own t he) t) (fa ||| fbt (ff (wk_wi fw fb n kind own t he) t)) (we + 1) w x b (am_as (am_as on t 4294967292) t (wk_wi fw fb n kind own t he))))) w_1254 w_1256 ps_171 ⟨lk_171.1, lk_171.2.1, lk_171.2.2, by decide, by decide⟩ rfl (mz_g66 hH) rfl (by simp [Value.category]) dd_166_102 (ms_s hH hw hx hb hn1 hn hm hgo h99 h8 hl ht (by omega)) ?_
  show am_Good mi_166 105 [some (.ref 66), some (.retAddr kind), some (.retAddr own), some (.retAddr (wk_wi fw fb n kind own t he)), some (.retAddr (t + go)), some (.retAddr t), some (.retAddr (wk_wi fw fb n kind own t he))] [] (mz h g mi go n nr z5 (sa + fw (wk_wi fw fb n kind own t he) t) (fa ||| fbt (ff (wk_wi fw fb n kind own t he) t)) (we + 1) w x b (am_as (am_as on t 4294967292) t (wk_wi fw fb n kind own t he))) _
  refine e_iinc (v := 1) (w := t + 1) dd_166_105 rfl ic_1 (am_nlb_ok rfl) (by decide) (by omega) ?_
  refine g_goto (t := 12) dd_166_108 (by decide) ?_
  exact hg
theorem mk_c {h : am_H} {g : Nat → Value} {mi go n nr z5 sa fa we w x b on : Nat} (hH : mz_ok h) {fw ff : Nat → Nat → Nat} {fb : Nat → Nat → Bool} (hw : ∀ s t, s < n → t < mi → am_ag w (64 * s + t) = fw s t) (hx : ∀ s t, s < n → t < mi → am_ag x (64 * s + t) = lc_8 (ff s t)) (hb : ∀ s t, s < n → t < mi → am_ag b (64 * s + t) = if fb s t = true then 1 else 0) (hn1 : 1 ≤ n) (hn : n ≤ 4) (hm : mi ≤ 60) (hgo : go ≤ 3) (h99 : ∀ s t, s < n → t < mi → fw s t ≤ 99) (h8 : ∀ s t, s < n → t < mi → ff s t ≤ 8) {r : am_R} {kind own t he fr : Nat} {v6 : Option Value} (hk : kind ≤ 3) (ho : own < n) (ht : t < mi) (hh : he < n) (hfr : fr ≤ 70) (hsa : sa ≤ 5940) (hwe : we ≤ 60) (hf : fr ≤ t) (hw_ : wk_wi fw fb n kind own t he ≠ he) (h0 : go ≠ 0) (hg : am_Good mi_166 12 [some (.ref 66), some (.retAddr kind), some (.retAddr own), some (.retAddr (wk_wi fw fb n kind own t he)), some (.retAddr (t + go)), some (.retAddr (t + 1)), some (.retAddr (wk_wi fw fb n kind own t he))] [] (mz h g mi go n nr z5 sa fa (we + 1) w x b (am_as on t 4294967292)) r) : am_Good mi_166 12 [some (.ref 66), some (.retAddr kind), some (.retAddr own), some (.retAddr he), some (.retAddr fr), some (.retAddr t), v6] [] (mz h g mi go n nr z5 sa fa we w x b on) r := by
  have hl := wk_wi_lt (fw := fw) (fb := fb) (kind := kind) (t := t) hh ho
  refine g_iload dd_166_12 rfl ?_
  refine g_aload_n (i := 0) dd_166_14 rfl ?_
  refine g_getfield (k := 0) am_ck12 (by decide) (Or.inl w_935) dd_166_15 (mz_g66 hH) rfl ?_
  refine g_icmp_ge_f (t := 111) dd_166_18 (by decide) (by first | exact sk_ge_f (by omega) (by omega) | exact tk_ge_f (by omega)) ?_
  refine g_aload_n (i := 0) dd_166_21 rfl ?_
  refine g_getfield (k := 35) am_ck12 (by decide) (Or.inl w_970) dd_166_22 (mz_g66 hH) rfl ?_
  refine g_iload dd_166_25 rfl ?_
  refine g_bipush dd_166_27 bi_m4 ?_
  refine g_iastore dd_166_29 (mz_g84 hH) (by omega) (by decide) ?_
  refine am_heq (mz_u84 hH) ?_
  show am_Good mi_166 30 [some (.ref 66), some (.retAddr kind), some (.retAddr own), some (.retAddr he), some (.retAddr fr), some (.retAddr t), v6] [] (mz h g mi go n nr z5 sa fa we w x b (am_as on t 4294967292)) _
  refine g_iload dd_166_30 rfl ?_
  refine g_iload dd_166_32 rfl ?_
  refine g_icmp_lt_f (t := 105) dd_166_34 (by decide) (by first | exact sk_lt_f (by omega) (by omega) | exact tk_lt_f (by omega)) ?_
  refine g_aload_n (i := 0) dd_166_37 rfl ?_
  refine g_iload_n (i := 1) dd_166_38 rfl ?_
  refine g_iload_n (i := 2) dd_166_39 rfl ?_
  refine g_iload_n (i := 3) dd_166_40 rfl ?_
  refine g_iload dd_166_41 rfl ?_
  refine g_virtual (M' := mi_168) (n := 4) (ci := 12) (b := 66) (as := [.retAddr kind, .retAddr own, .retAddr he, .retAddr t]) (st := []) (r1 := (some (.retAddr (wk_wi fw fb n kind own t he)), (mz h g mi go n nr z5 sa fa we w x b (am_as on t 4294967292)))) w_1242 w_1244 ps_168 ⟨lk_168.1, lk_168.2.1, lk_168.2.2, by decide, by decide⟩ rfl (mz_g66 hH) rfl (by simp [Value.category]) dd_166_43 (mn_m hH hw hx hb hn1 hn hm hgo h99 h8 ht hh ho hk) ?_
  show am_Good mi_166 46 [some (.ref 66), some (.retAddr kind), some (.retAddr own), some (.retAddr he), some (.retAddr fr), some (.retAddr t), v6] [.retAddr (wk_wi fw fb n kind own t he)] (mz h g mi go n nr z5 sa fa we w x b (am_as on t 4294967292)) _
  refine g_istore dd_166_46 (am_nlb_ok rfl) (by decide) ?_
  refine g_aload_n (i := 0) dd_166_48 rfl ?_
  refine g_dup dd_166_49 rfl ?_
  refine g_getfield (k := 38) am_ck12 (by decide) (Or.inl w_973) dd_166_50 (mz_g66 hH) rfl ?_
  refine g_iload dd_166_53 rfl ?_
  refine g_iload_n (i := 3) dd_166_55 rfl ?_
  refine g_icmp_ne_t (t := 63) dd_166_56 (by decide) (tk_ne_t (by omega)) ?_
  refine g_iconst dd_166_63 ic_1 ?_
  refine e_iadd (v := we + 1) dd_166_64 (by omega) ?_
  refine g_putfield (k := 38) am_ck12 (by decide) (Or.inl w_973) (Or.inl rfl) dd_166_65 (mz_g66 hH) (Nat.le_of_ble_eq_true rfl) trivial ?_
  refine am_heq (mz_u66 hH) ?_
  show am_Good mi_166 68 [some (.ref 66), some (.retAddr kind), some (.retAddr own), some (.retAddr he), some (.retAddr fr), some (.retAddr t), some (.retAddr (wk_wi fw fb n kind own t he))] [] (mz h g mi go n nr z5 sa fa (we + 1) w x b (am_as on t 4294967292)) _
  refine g_iload dd_166_68 rfl ?_
  refine g_iload_n (i := 3) dd_166_70 rfl ?_
  refine g_icmp_ne_t (t := 79) dd_166_71 (by decide) (tk_ne_t (by omega)) ?_
  refine g_iload dd_166_79 rfl ?_
  refine g_aload_n (i := 0) dd_166_81 rfl ?_
  refine g_getfield (k := 1) am_ck12 (by decide) (Or.inl w_936) dd_166_82 (mz_g66 hH) rfl ?_
  refine e_iadd (v := t + go) dd_166_85 (by omega) ?_
  refine g_istore dd_166_86 (am_nlb_ok rfl) (by decide) ?_
  refine g_iload dd_166_88 rfl ?_
  refine g_istore_n (i := 3) dd_166_90 (am_nlb_ok rfl) (by decide) ?_
  refine g_iload dd_166_91 rfl ?_
  refine g_iload dd_166_93 rfl ?_
  refine g_icmp_ne_t (t := 105) dd_166_95 (by decide) (tk_ne_t (by omega)) ?_
  refine e_iinc (v := 1) (w := t + 1) dd_166_105 rfl ic_1 (am_nlb_ok rfl) (by decide) (by omega) ?_
  refine g_goto (t := 12) dd_166_108 (by decide) ?_
  exact hg
theorem mk_d {h : am_H} {g : Nat → Value} {mi go n nr z5 sa fa we w x b on : Nat} (hH : mz_ok h) {fw ff : Nat → Nat → Nat} {fb : Nat → Nat → Bool} (hw : ∀ s t, s < n → t < mi → am_ag w (64 * s + t) = fw s t) (hx : ∀ s t, s < n → t < mi → am_ag x (64 * s + t) = lc_8 (ff s t)) (hb : ∀ s t, s < n → t < mi → am_ag b (64 * s + t) = if fb s t = true then 1 else 0) (hn1 : 1 ≤ n) (hn : n ≤ 4) (hm : mi ≤ 60) (hgo : go ≤ 3) (h99 : ∀ s t, s < n → t < mi → fw s t ≤ 99) (h8 : ∀ s t, s < n → t < mi → ff s t ≤ 8) {r : am_R} {kind own t he fr : Nat} {v6 : Option Value} (hk : kind ≤ 3) (ho : own < n) (ht : t < mi) (hh : he < n) (hfr : fr ≤ 70) (hsa : sa ≤ 5940) (hwe : we ≤ 60) (hf : ¬ fr ≤ t) (hg : am_Good mi_166 12 [some (.ref 66), some (.retAddr kind), some (.retAddr own), some (.retAddr he), some (.retAddr fr), some (.retAddr (t + 1)), v6] [] (mz h g mi go n nr z5 sa fa we w x b (am_as on t 4294967292)) r) : am_Good mi_166 12 [some (.ref 66), some (.retAddr kind), some (.retAddr own), some (.retAddr he), some (.retAddr fr), some (.retAddr t), v6] [] (mz h g mi go n nr z5 sa fa we w x b on) r := by
  have hl := wk_wi_lt (fw := fw) (fb := fb) (kind := kind) (t := t) hh ho
  refine g_iload dd_166_12 rfl ?_
  refine g_aload_n (i := 0) dd_166_14 rfl ?_
  refine g_getfield (k := 0) am_ck12 (by decide) (Or.inl w_935) dd_166_15 (mz_g66 hH) rfl ?_
  refine g_icmp_ge_f (t := 111) dd_166_18 (by decide) (by first | exact sk_ge_f (by omega) (by omega) | exact tk_ge_f (by omega)) ?_
  refine g_aload_n (i := 0) dd_166_21 rfl ?_
  refine g_getfield (k := 35) am_ck12 (by decide) (Or.inl w_970) dd_166_22 (mz_g66 hH) rfl ?_
  refine g_iload dd_166_25 rfl ?_
  refine g_bipush dd_166_27 bi_m4 ?_
  refine g_iastore dd_166_29 (mz_g84 hH) (by omega) (by decide) ?_
  refine am_heq (mz_u84 hH) ?_
  show am_Good mi_166 30 [some (.ref 66), some (.retAddr kind), some (.retAddr own), some (.retAddr he), some (.retAddr fr), some (.retAddr t), v6] [] (mz h g mi go n nr z5 sa fa we w x b (am_as on t 4294967292)) _
  refine g_iload dd_166_30 rfl ?_
  refine g_iload dd_166_32 rfl ?_
  refine g_icmp_lt_t (t := 105) dd_166_34 (by decide) (by first | exact sk_lt_t (by omega) (by omega) | exact tk_lt_t (by omega)) ?_
  refine e_iinc (v := 1) (w := t + 1) dd_166_105 rfl ic_1 (am_nlb_ok rfl) (by decide) (by omega) ?_
  refine g_goto (t := 12) dd_166_108 (by decide) ?_
  exact hg
theorem mk_e {h : am_H} {g : Nat → Value} {mi go n nr z5 sa fa we w x b on : Nat} (hH : mz_ok h) {fw ff : Nat → Nat → Nat} {fb : Nat → Nat → Bool} (hw : ∀ s t, s < n → t < mi → am_ag w (64 * s + t) = fw s t) (hx : ∀ s t, s < n → t < mi → am_ag x (64 * s + t) = lc_8 (ff s t)) (hb : ∀ s t, s < n → t < mi → am_ag b (64 * s + t) = if fb s t = true then 1 else 0) (hn1 : 1 ≤ n) (hn : n ≤ 4) (hm : mi ≤ 60) (hgo : go ≤ 3) (h99 : ∀ s t, s < n → t < mi → fw s t ≤ 99) (h8 : ∀ s t, s < n → t < mi → ff s t ≤ 8) {kind own he fr : Nat} {v6 : Option Value} : am_Good mi_166 12 [some (.ref 66), some (.retAddr kind), some (.retAddr own), some (.retAddr he), some (.retAddr fr), some (.retAddr mi), v6] [] (mz h g mi go n nr z5 sa fa we w x b on) (none, (mz h g mi go n nr z5 sa fa we w x b on)) := by
  refine g_iload dd_166_12 rfl ?_
  refine g_aload_n (i := 0) dd_166_14 rfl ?_
  refine g_getfield (k := 0) am_ck12 (by decide) (Or.inl w_935) dd_166_15 (mz_g66 hH) rfl ?_
  refine g_icmp_ge_t (t := 111) dd_166_18 (by decide) (by first | exact sk_ge_t (by omega) (by omega) | exact tk_ge_t (by omega)) ?_
  exact g_return rfl dd_166_111
theorem mk_l {h : am_H} {g : Nat → Value} {mi go n nr z5 sa fa we w x b on : Nat} (hH : mz_ok h) {fw ff : Nat → Nat → Nat} {fb : Nat → Nat → Bool} (hw : ∀ s t, s < n → t < mi → am_ag w (64 * s + t) = fw s t) (hx : ∀ s t, s < n → t < mi → am_ag x (64 * s + t) = lc_8 (ff s t)) (hb : ∀ s t, s < n → t < mi → am_ag b (64 * s + t) = if fb s t = true then 1 else 0) (hn1 : 1 ≤ n) (hn : n ≤ 4) (hm : mi ≤ 60) (hgo : go ≤ 3) (h99 : ∀ s t, s < n → t < mi → fw s t ≤ 99) (h8 : ∀ s t, s < n → t < mi → ff s t ≤ 8) {kind own : Nat} (hk : kind ≤ 3) (ho : own < n) : ∀ (f t fr : Nat) (v6 : Option Value), t + f = mi → (fr = (wk fw ff fb n go kind own t).2.1 ∨ (fr ≤ t ∧ (wk fw ff fb n go kind own t).2.1 ≤ t)) → am_Good mi_166 12 [some (.ref 66), some (.retAddr kind), some (.retAddr own), some (.retAddr ((wk fw ff fb n go kind own t).1)), some (.retAddr fr), some (.retAddr t), v6] [] (mz h g mi go n nr z5 ((wk fw ff fb n go kind own t).2.2.1) ((wk fw ff fb n go kind own t).2.2.2.1) ((wk fw ff fb n go kind own t).2.2.2.2) w x b (wk_r fw ff fb n go kind own on t)) (none, (mz h g mi go n nr z5 ((wk fw ff fb n go kind own mi).2.2.1) ((wk fw ff fb n go kind own mi).2.2.2.1) ((wk fw ff fb n go kind own mi).2.2.2.2) w x b (wk_r fw ff fb n go kind own on mi)))
  | 0, t, fr, v6, e, hfr => by
    have e' : t = mi := by omega
    subst e'
    exact mk_e hH hw hx hb hn1 hn hm hgo h99 h8
  | f + 1, t, fr, v6, e, hfr => by
    have q := mk_l (g := g) (nr := nr) (z5 := z5) (sa := sa) (fa := fa) (we := we) hH hw hx hb hn1 hn hm hgo h99 h8 (on := on) hk ho f (t + 1)
    obtain ⟨i1, i2, i3, i4, i5⟩ := wk_inv (ff := ff) (fb := fb) (kind := kind) h99 ho hgo (t := t) (by omega)
    have z : wk_r fw ff fb n go kind own on (t + 1) = if t < (wk fw ff fb n go kind own (t + 1)).2.1 then am_as (wk_r fw ff fb n go kind own on t) t 4294967292 else am_as (am_as (wk_r fw ff fb n go kind own on t) t 4294967292) t (wk fw ff fb n go kind own (t + 1)).1 := rfl
    have z3 : wk fw ff fb n go kind own (t + 1) = wk_s fw ff fb n go kind own t (wk fw ff fb n go kind own t) := rfl
    rw [z, z3] at q
    generalize wk fw ff fb n go kind own t = σ at i1 i2 i3 i4 i5 q hfr ⊢
    obtain ⟨he, fc, wo, se, gn⟩ := σ
    unfold wk_s wk_f wk_h at q
    dsimp only at i1 i2 i3 i4 i5 q hfr ⊢
    have hq : fr ≤ t ↔ fc ≤ t := by omega
    by_cases hf : fc ≤ t
    · simp only [if_pos hf] at q
      by_cases hw_ : wk_wi fw fb n kind own t he = he
      · have hn_ : ¬ t < fc := by omega
        simp only [if_pos hw_] at q
        simp only [if_neg hn_] at q
        exact mk_a hH hw hx hb hn1 hn hm hgo h99 h8 hk ho (by omega) i1 (by omega) (by omega) (by omega) (hq.mpr hf) hw_ (q _ _ (by omega) (Or.inr ⟨by omega, by omega⟩))
      · simp only [if_neg hw_] at q
        by_cases h0 : go = 0
        · have hn_ : ¬ t < t + go := by omega
          simp only [if_neg hn_] at q
          exact mk_b hH hw hx hb hn1 hn hm hgo h99 h8 hk ho (by omega) i1 (by omega) (by omega) (by omega) (hq.mpr hf) hw_ h0 (q _ _ (by omega) (Or.inl rfl))
        · have hn_ : t < t + go := by omega
          simp only [if_pos hn_] at q
          exact mk_c hH hw hx hb hn1 hn hm hgo h99 h8 hk ho (by omega) i1 (by omega) (by omega) (by omega) (hq.mpr hf) hw_ h0 (q _ _ (by omega) (Or.inl rfl))
    · have hn_ : t < fc := by omega
      simp only [if_neg hf, eq_self, if_true] at q
      simp only [if_pos hn_] at q
      exact mk_d hH hw hx hb hn1 hn hm hgo h99 h8 hk ho (by omega) i1 (by omega) (by omega) (by omega) (fun a => hf (hq.mp a)) (q _ _ (by omega) (by omega))
theorem mk_m {h : am_H} {g : Nat → Value} {mi go n nr z5 sa fa we w x b on : Nat} (hH : mz_ok h) {fw ff : Nat → Nat → Nat} {fb : Nat → Nat → Bool} (hw : ∀ s t, s < n → t < mi → am_ag w (64 * s + t) = fw s t) (hx : ∀ s t, s < n → t < mi → am_ag x (64 * s + t) = lc_8 (ff s t)) (hb : ∀ s t, s < n → t < mi → am_ag b (64 * s + t) = if fb s t = true then 1 else 0) (hn1 : 1 ≤ n) (hn : n ≤ 4) (hm : mi ≤ 60) (hgo : go ≤ 3) (h99 : ∀ s t, s < n → t < mi → fw s t ≤ 99) (h8 : ∀ s t, s < n → t < mi → ff s t ≤ 8) {kind own : Nat} (hk : kind ≤ 3) (ho : own < n) : am_EG mi_166 [.ref 66, .retAddr kind, .retAddr own] (mz h g mi go n nr z5 sa fa we w x b on) (none, (mz h g mi go n nr z5 ((wk fw ff fb n go kind own mi).2.2.1) ((wk fw ff fb n go kind own mi).2.2.2.1) ((wk fw ff fb n go kind own mi).2.2.2.2) w x b (wk_r fw ff fb n go kind own on mi))) := by
  refine am_enter (n := 4) tk_166.2.1 (by simp [Value.category]) (Nat.le_of_ble_eq_true rfl) ?_
  show am_Good mi_166 0 [some (.ref 66), some (.retAddr kind), some (.retAddr own), none, none, none, none] [] (mz h g mi go n nr z5 sa fa we w x b on) _
  refine g_aload_n (i := 0) dd_166_0 rfl ?_
  refine g_virtual (M' := mi_167) (n := 0) (ci := 12) (b := 66) (as := []) (st := []) (r1 := (none, (mz h g mi go n nr z5 0 0 0 w x b on))) w_1238 w_1240 ps_167 ⟨lk_167.1, lk_167.2.1, lk_167.2.2, by decide, by decide⟩ rfl (mz_g66 hH) rfl (by simp [Value.category]) dd_166_1 (mg_0 hH hw hx hb hn1 hn hm hgo h99 h8) ?_
  show am_Good mi_166 4 [some (.ref 66), some (.retAddr kind), some (.retAddr own), none, none, none, none] [] (mz h g mi go n nr z5 0 0 0 w x b on) _
  refine g_iload_n (i := 2) dd_166_4 rfl ?_
  refine g_istore_n (i := 3) dd_166_5 (am_nlb_ok rfl) (by decide) ?_
  refine g_iconst dd_166_6 ic_0 ?_
  refine g_istore dd_166_7 (am_nlb_ok rfl) (by decide) ?_
  refine g_iconst dd_166_9 ic_0 ?_
  refine g_istore dd_166_10 (am_nlb_ok rfl) (by decide) ?_
  exact mk_l (sa := sa) (fa := fa) (we := we) hH hw hx hb hn1 hn hm hgo h99 h8 hk ho mi 0 0 none (by omega) (Or.inl rfl)
