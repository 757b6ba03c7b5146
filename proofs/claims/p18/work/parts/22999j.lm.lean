/-! ===== learning: the reference ===== -/
def ru (h : am_H) (g : Nat → Value) (mi go n fe so sy e : Nat) : am_H := am_ups h [(66, .inr (12, [.retAddr mi, .retAddr go, .retAddr n, .ref 67, g 4, .ref 68, g 6, .ref 69, g 8, .ref 70, g 10, .ref 71, g 12, .ref 72, .ref 73, g 15, g 16, .ref 74, g 18, g 19, g 20, .ref 75, g 22, .ref 76, g 24, .ref 77, g 26, .ref 78, g 28, .ref 79, g 30, .ref 80, .ref 81, .ref 82, .ref 83, .ref 84, g 36, g 37, g 38, g 39, g 40, .ref 85, g 42, .ref 86, g 44, .ref 87, .ref 88, .ref 89, .retAddr fe, .retAddr so, .retAddr sy, .ref 90, .ref 91, g 53, .ref 92])), (89, .inl (0, 62464, e))]
def ru_ok (h : am_H) : Prop := am_ke h [66, 89]
theorem ru_g66 {h : am_H} {g : Nat → Value} {mi go n fe so sy e : Nat} (hH : ru_ok h) : am_get (ru h g mi go n fe so sy e) 66 = some (.inr (12, [.retAddr mi, .retAddr go, .retAddr n, .ref 67, g 4, .ref 68, g 6, .ref 69, g 8, .ref 70, g 10, .ref 71, g 12, .ref 72, .ref 73, g 15, g 16, .ref 74, g 18, g 19, g 20, .ref 75, g 22, .ref 76, g 24, .ref 77, g 26, .ref 78, g 28, .ref 79, g 30, .ref 80, .ref 81, .ref 82, .ref 83, .ref 84, g 36, g 37, g 38, g 39, g 40, .ref 85, g 42, .ref 86, g 44, .ref 87, .ref 88, .ref 89, .retAddr fe, .retAddr so, .retAddr sy, .ref 90, .ref 91, g 53, .ref 92])) := am_ups_g hH rfl
theorem ru_u66 {h : am_H} {g : Nat → Value} {mi go n fe so sy e : Nat} (hH : ru_ok h) {mi' go' n' fe' so' sy' : Nat} : am_upd (ru h g mi go n fe so sy e) 66 (.inr (12, [.retAddr mi', .retAddr go', .retAddr n', .ref 67, g 4, .ref 68, g 6, .ref 69, g 8, .ref 70, g 10, .ref 71, g 12, .ref 72, .ref 73, g 15, g 16, .ref 74, g 18, g 19, g 20, .ref 75, g 22, .ref 76, g 24, .ref 77, g 26, .ref 78, g 28, .ref 79, g 30, .ref 80, .ref 81, .ref 82, .ref 83, .ref 84, g 36, g 37, g 38, g 39, g 40, .ref 85, g 42, .ref 86, g 44, .ref 87, .ref 88, .ref 89, .retAddr fe', .retAddr so', .retAddr sy', .ref 90, .ref 91, g 53, .ref 92])) = (ru h g mi' go' n' fe' so' sy' e) := by
  unfold ru
  refine am_upd_ups ?_ ⟨rfl, rfl⟩
  exact hH
theorem ru_g89 {h : am_H} {g : Nat → Value} {mi go n fe so sy e : Nat} (hH : ru_ok h) : am_get (ru h g mi go n fe so sy e) 89 = some (.inl (0, 62464, e)) := am_ups_g hH rfl
theorem ru_u89 {h : am_H} {g : Nat → Value} {mi go n fe so sy e : Nat} (hH : ru_ok h) {e' : Nat} : am_upd (ru h g mi go n fe so sy e) 89 (.inl (0, 62464, e')) = (ru h g mi go n fe so sy e') := by
  unfold ru
  refine am_upd_ups ?_ ⟨rfl, rfl⟩
  exact hH
theorem ru_o {h : am_H} {g : Nat → Value} {mi go n fe so sy e : Nat} (hH : ru_ok h) {a : Nat} (ha : am_lk [(66, am_e0), (89, am_e0)] a = none) : am_get (ru h g mi go n fe so sy e) a = am_get h a := by
  unfold ru
  refine am_ups_n ?_ ?_
  · exact hH
  · exact (am_lk_k (by rfl)).mp ha
theorem lep_7 {h : am_H} {q k : Nat} (hk : k < 8) : am_EG mi_188 [.retAddr q, .retAddr k] h (some (.retAddr (q ||| 2 ^ k)), h) := by
  refine am_enter (n := 0) tk_188.2.1 (by simp [Value.category]) (Nat.le_of_ble_eq_true rfl) ?_
  show am_Good mi_188 0 [some (.retAddr q), some (.retAddr k)] [] h _
  refine g_iload_n (i := 1) dd_188_0 rfl ?_
  refine g_bipush dd_188_1 bi_m4 ?_
  refine g_icmp_ne_t (t := 10) dd_188_3 (by decide) (tk_ne_t (by omega)) ?_
  refine g_iload_n (i := 0) dd_188_10 rfl ?_
  refine g_iconst dd_188_11 ic_1 ?_
  refine g_iload_n (i := 1) dd_188_12 rfl ?_
  refine e_ishl (v := 2 ^ k) dd_188_13 (sh_1 (by omega)) ?_
  refine e_ior (v := q ||| (2 ^ k)) dd_188_14 (rfl) ?_
  exact g_ireturn rfl dd_188_15
theorem lep_8 {h : am_H} {q : Nat} : am_EG mi_188 [.retAddr q, .retAddr 4294967292] h (some (.retAddr q), h) := by
  refine am_enter (n := 0) tk_188.2.1 (by simp [Value.category]) (Nat.le_of_ble_eq_true rfl) ?_
  show am_Good mi_188 0 [some (.retAddr q), some (.retAddr 4294967292)] [] h _
  refine g_iload_n (i := 1) dd_188_0 rfl ?_
  refine g_bipush dd_188_1 bi_m4 ?_
  refine g_icmp_ne_f (t := 10) dd_188_3 (by decide) (by decide) ?_
  refine g_iload_n (i := 0) dd_188_6 rfl ?_
  refine g_goto (t := 15) dd_188_7 (by decide) ?_
  exact g_ireturn rfl dd_188_15
theorem lep_m {h : am_H} {q k : Nat} (hk : k ≤ 8) : am_EG mi_188 [.retAddr q, .retAddr (lc_8 k)] h (some (.retAddr (q ||| fbt k)), h) := by
  unfold lc_8 fbt
  by_cases c : k = 8
  · rw [if_pos c, if_neg (by omega), Nat.or_zero]
    exact lep_8
  · rw [if_neg c, if_pos (by omega)]
    exact lep_7 (by omega)
theorem lez_lt {t s q : Nat} (ht : t ≤ 60) (hs : s < 4) (hq : q < 256) : lz_ixr t s q < 62464 := by
  unfold lz_ixr
  omega
theorem lez_as {c j w : Nat} {e : Nat → Nat} (he : ∀ i, i < 62464 → am_ag c i = e i) (hw : w < 4294967296) : ∀ i, i < 62464 → am_ag (am_as c j w) i = if i = j then w else e i := fun i hi => by
  rw [am_ag_as]
  by_cases q : i = j
  · rw [if_pos q, if_pos q, Nat.mod_eq_of_lt hw]
  · rw [if_neg q, if_neg q, he i hi]
theorem lec_0 {h : am_H} {g : Nat → Value} {mi go n x : Nat} (hH : ru_ok h) (a82 : am_get h 82 = some (.inl (0, 256, x))) {ff f : Nat → Nat → Nat} {cl : Nat → Nat} (hx : ∀ s t, s < n → t < mi → am_ag x (64 * s + t) = lc_8 (ff s t)) (h8 : ∀ s t, s < n → t < mi → ff s t ≤ 8) (hff : ∀ s t, s < n → t < mi → f s t = fbt (ff s t)) (hf : ∀ s t, f s t < 256) (cz : ∀ fe so sy e q, q < 256 → am_EG mi_162 [.ref 66, .retAddr q] (ru h g mi go n fe so sy e) (some (.retAddr (cl q)), ru h g mi go n fe so sy e)) (hcl : ∀ q, q < 256 → cl q < 256) (hm1 : 1 ≤ mi) (hm : mi ≤ 60) (hn : n ≤ 4) (hgo : go ≤ 3) {fe so sy e : Nat} {t s q k : Nat} (ht : t ≤ 70) (hs : s < 4) (hq : q < 256) (hk : k ≤ 20) (hc : ¬ t ≤ mi) : am_EG mi_189 [.ref 66, .retAddr t, .retAddr s, .retAddr q, .retAddr k] (ru h g mi go n fe so sy e) (none, (ru h g mi go n fe so sy e)) := by
  refine am_enter (n := 1) tk_189.2.1 (by simp [Value.category]) (Nat.le_of_ble_eq_true rfl) ?_
  show am_Good mi_189 0 [some (.ref 66), some (.retAddr t), some (.retAddr s), some (.retAddr q), some (.retAddr k), none] [] (ru h g mi go n fe so sy e) _
  refine g_iload_n (i := 1) dd_189_0 rfl ?_
  refine g_aload_n (i := 0) dd_189_1 rfl ?_
  refine g_getfield (k := 0) am_ck12 (by decide) (Or.inl w_935) dd_189_2 (ru_g66 hH) rfl ?_
  refine g_icmp_gt_t (t := 54) dd_189_5 (by decide) (by first | exact sk_gt_t (by omega) (by omega) | exact tk_gt_t (by omega)) ?_
  exact g_return rfl dd_189_54
theorem lec_a {h : am_H} {g : Nat → Value} {mi go n x : Nat} (hH : ru_ok h) (a82 : am_get h 82 = some (.inl (0, 256, x))) {ff f : Nat → Nat → Nat} {cl : Nat → Nat} (hx : ∀ s t, s < n → t < mi → am_ag x (64 * s + t) = lc_8 (ff s t)) (h8 : ∀ s t, s < n → t < mi → ff s t ≤ 8) (hff : ∀ s t, s < n → t < mi → f s t = fbt (ff s t)) (hf : ∀ s t, f s t < 256) (cz : ∀ fe so sy e q, q < 256 → am_EG mi_162 [.ref 66, .retAddr q] (ru h g mi go n fe so sy e) (some (.retAddr (cl q)), ru h g mi go n fe so sy e)) (hcl : ∀ q, q < 256 → cl q < 256) (hm1 : 1 ≤ mi) (hm : mi ≤ 60) (hn : n ≤ 4) (hgo : go ≤ 3) {fe so sy e : Nat} {t s q k : Nat} (ht : t ≤ 70) (hs : s < 4) (hq : q < 256) (hk : k ≤ 20) (hc : t ≤ mi) (hb : am_ag e (lz_ixr t s q) ≤ 99) (hd : k < am_ag e (lz_ixr t s q)) : am_EG mi_189 [.ref 66, .retAddr t, .retAddr s, .retAddr q, .retAddr k] (ru h g mi go n fe so sy e) (none, (ru h g mi go n fe so sy (am_as e (lz_ixr t s q) k))) := by
  refine am_enter (n := 1) tk_189.2.1 (by simp [Value.category]) (Nat.le_of_ble_eq_true rfl) ?_
  show am_Good mi_189 0 [some (.ref 66), some (.retAddr t), some (.retAddr s), some (.retAddr q), some (.retAddr k), none] [] (ru h g mi go n fe so sy e) _
  have ii := lez_lt (t := t) (by omega) hs hq
  refine g_iload_n (i := 1) dd_189_0 rfl ?_
  refine g_aload_n (i := 0) dd_189_1 rfl ?_
  refine g_getfield (k := 0) am_ck12 (by decide) (Or.inl w_935) dd_189_2 (ru_g66 hH) rfl ?_
  refine g_icmp_gt_f (t := 54) dd_189_5 (by decide) (by first | exact sk_gt_f (by omega) (by omega) | exact tk_gt_f (by omega)) ?_
  refine g_sipush dd_189_8 si_1024 ?_
  refine g_iload_n (i := 1) dd_189_11 rfl ?_
  refine e_imul (v := 1024 * t) dd_189_12 (by omega) ?_
  refine g_sipush dd_189_13 si_256 ?_
  refine g_iload_n (i := 2) dd_189_16 rfl ?_
  refine e_imul (v := 256 * s) dd_189_17 (by omega) ?_
  refine e_iadd (v := 1024 * t + 256 * s) dd_189_18 (by omega) ?_
  refine g_iload_n (i := 3) dd_189_19 rfl ?_
  refine e_iadd (v := lz_ixr t s q) dd_189_20 (by unfold lz_ixr; omega) ?_
  refine g_istore dd_189_21 (am_nlb_ok rfl) (by decide) ?_
  refine g_aload_n (i := 0) dd_189_23 rfl ?_
  refine g_getfield (k := 47) am_ck12 (by decide) (Or.inl w_982) dd_189_24 (ru_g66 hH) rfl ?_
  refine g_iload dd_189_27 rfl ?_
  refine g_iload dd_189_29 rfl ?_
  refine g_aload_n (i := 0) dd_189_31 rfl ?_
  refine g_getfield (k := 47) am_ck12 (by decide) (Or.inl w_982) dd_189_32 (ru_g66 hH) rfl ?_
  refine g_iload dd_189_35 rfl ?_
  refine g_iaload dd_189_37 (ru_g89 hH) (by omega) (by decide) ?_
  have hl_1 := am_ag_lt e (lz_ixr t s q)
  refine g_icmp_ge_f (t := 46) dd_189_38 (by decide) (by first | exact sk_ge_f (by omega) (by omega) | exact tk_ge_f (by omega)) ?_
  refine g_iload dd_189_41 rfl ?_
  refine g_goto (t := 53) dd_189_43 (by decide) ?_
  refine g_iastore dd_189_53 (ru_g89 hH) (by omega) (by decide) ?_
  refine am_heq (ru_u89 hH) ?_
  show am_Good mi_189 54 [some (.ref 66), some (.retAddr t), some (.retAddr s), some (.retAddr q), some (.retAddr k), some (.retAddr (lz_ixr t s q))] [] (ru h g mi go n fe so sy (am_as e (lz_ixr t s q) k)) _
  exact g_return rfl dd_189_54
theorem lec_b {h : am_H} {g : Nat → Value} {mi go n x : Nat} (hH : ru_ok h) (a82 : am_get h 82 = some (.inl (0, 256, x))) {ff f : Nat → Nat → Nat} {cl : Nat → Nat} (hx : ∀ s t, s < n → t < mi → am_ag x (64 * s + t) = lc_8 (ff s t)) (h8 : ∀ s t, s < n → t < mi → ff s t ≤ 8) (hff : ∀ s t, s < n → t < mi → f s t = fbt (ff s t)) (hf : ∀ s t, f s t < 256) (cz : ∀ fe so sy e q, q < 256 → am_EG mi_162 [.ref 66, .retAddr q] (ru h g mi go n fe so sy e) (some (.retAddr (cl q)), ru h g mi go n fe so sy e)) (hcl : ∀ q, q < 256 → cl q < 256) (hm1 : 1 ≤ mi) (hm : mi ≤ 60) (hn : n ≤ 4) (hgo : go ≤ 3) {fe so sy e : Nat} {t s q k : Nat} (ht : t ≤ 70) (hs : s < 4) (hq : q < 256) (hk : k ≤ 20) (hc : t ≤ mi) (hb : am_ag e (lz_ixr t s q) ≤ 99) (hd : ¬ k < am_ag e (lz_ixr t s q)) : am_EG mi_189 [.ref 66, .retAddr t, .retAddr s, .retAddr q, .retAddr k] (ru h g mi go n fe so sy e) (none, (ru h g mi go n fe so sy (am_as e (lz_ixr t s q) (am_ag e (lz_ixr t s q))))) := by
  refine am_enter (n := 1) tk_189.2.1 (by simp [Value.category]) (Nat.le_of_ble_eq_true rfl) ?_
  show am_Good mi_189 0 [some (.ref 66), some (.retAddr t), some (.retAddr s), some (.retAddr q), some (.retAddr k), none] [] (ru h g mi go n fe so sy e) _
  have ii := lez_lt (t := t) (by omega) hs hq
  refine g_iload_n (i := 1) dd_189_0 rfl ?_
  refine g_aload_n (i := 0) dd_189_1 rfl ?_
  refine g_getfield (k := 0) am_ck12 (by decide) (Or.inl w_935) dd_189_2 (ru_g66 hH) rfl ?_
  refine g_icmp_gt_f (t := 54) dd_189_5 (by decide) (by first | exact sk_gt_f (by omega) (by omega) | exact tk_gt_f (by omega)) ?_
  refine g_sipush dd_189_8 si_1024 ?_
  refine g_iload_n (i := 1) dd_189_11 rfl ?_
  refine e_imul (v := 1024 * t) dd_189_12 (by omega) ?_
  refine g_sipush dd_189_13 si_256 ?_
  refine g_iload_n (i := 2) dd_189_16 rfl ?_
  refine e_imul (v := 256 * s) dd_189_17 (by omega) ?_
  refine e_iadd (v := 1024 * t + 256 * s) dd_189_18 (by omega) ?_
  refine g_iload_n (i := 3) dd_189_19 rfl ?_
  refine e_iadd (v := lz_ixr t s q) dd_189_20 (by unfold lz_ixr; omega) ?_
  refine g_istore dd_189_21 (am_nlb_ok rfl) (by decide) ?_
  refine g_aload_n (i := 0) dd_189_23 rfl ?_
  refine g_getfield (k := 47) am_ck12 (by decide) (Or.inl w_982) dd_189_24 (ru_g66 hH) rfl ?_
  refine g_iload dd_189_27 rfl ?_
  refine g_iload dd_189_29 rfl ?_
  refine g_aload_n (i := 0) dd_189_31 rfl ?_
  refine g_getfield (k := 47) am_ck12 (by decide) (Or.inl w_982) dd_189_32 (ru_g66 hH) rfl ?_
  refine g_iload dd_189_35 rfl ?_
  refine g_iaload dd_189_37 (ru_g89 hH) (by omega) (by decide) ?_
  have hl_1 := am_ag_lt e (lz_ixr t s q)
  refine g_icmp_ge_t (t := 46) dd_189_38 (by decide) (by first | exact sk_ge_t (by omega) (by omega) | exact tk_ge_t (by omega)) ?_
  refine g_aload_n (i := 0) dd_189_46 rfl ?_
  refine g_getfield (k := 47) am_ck12 (by decide) (Or.inl w_982) dd_189_47 (ru_g66 hH) rfl ?_
  refine g_iload dd_189_50 rfl ?_
  refine g_iaload dd_189_52 (ru_g89 hH) (by omega) (by decide) ?_
  have hl_2 := am_ag_lt e (lz_ixr t s q)
  refine g_iastore dd_189_53 (ru_g89 hH) (by omega) (by decide) ?_
  refine am_heq (ru_u89 hH) ?_
  show am_Good mi_189 54 [some (.ref 66), some (.retAddr t), some (.retAddr s), some (.retAddr q), some (.retAddr k), some (.retAddr (lz_ixr t s q))] [] (ru h g mi go n fe so sy (am_as e (lz_ixr t s q) (am_ag e (lz_ixr t s q)))) _
  exact g_return rfl dd_189_54
theorem lec_m {h : am_H} {g : Nat → Value} {mi go n x : Nat} (hH : ru_ok h) (a82 : am_get h 82 = some (.inl (0, 256, x))) {ff f : Nat → Nat → Nat} {cl : Nat → Nat} (hx : ∀ s t, s < n → t < mi → am_ag x (64 * s + t) = lc_8 (ff s t)) (h8 : ∀ s t, s < n → t < mi → ff s t ≤ 8) (hff : ∀ s t, s < n → t < mi → f s t = fbt (ff s t)) (hf : ∀ s t, f s t < 256) (cz : ∀ fe so sy e q, q < 256 → am_EG mi_162 [.ref 66, .retAddr q] (ru h g mi go n fe so sy e) (some (.retAddr (cl q)), ru h g mi go n fe so sy e)) (hcl : ∀ q, q < 256 → cl q < 256) (hm1 : 1 ≤ mi) (hm : mi ≤ 60) (hn : n ≤ 4) (hgo : go ≤ 3) {fe so sy e : Nat} {T : Nat → Nat} {t s q k : Nat} (ht : t ≤ 70) (hs : s < 4) (hq : q < 256) (hk : k ≤ 20) (hT : ∀ i, i < 62464 → am_ag e i = T i) (h9 : ∀ i, T i ≤ 99) : ∃ e', (∀ i, i < 62464 → am_ag e' i = lz_cm (lz_okr mi) lz_ixr T t s q k i) ∧ am_EG mi_189 [.ref 66, .retAddr t, .retAddr s, .retAddr q, .retAddr k] (ru h g mi go n fe so sy e) (none, (ru h g mi go n fe so sy (e'))) := by
  by_cases hc : t ≤ mi
  · have ii := lez_lt (t := t) (by omega) hs hq
    have ev := hT _ ii
    have b := h9 (lz_ixr t s q)
    have o : lz_okr mi t k = true := decide_eq_true hc
    have key : ∀ i, lz_cm (lz_okr mi) lz_ixr T t s q k i = if i = lz_ixr t s q then (if k < T i then k else T i) else T i := fun i => by
      unfold lz_cm lz_pu
      rw [if_pos o]
    by_cases hd : k < am_ag e (lz_ixr t s q)
    · refine ⟨_, fun i hi => ?_, lec_a hH a82 hx h8 hff hf cz hcl hm1 hm hn hgo ht hs hq hk hc (by omega) hd⟩
      rw [lez_as hT (by omega) i hi, key]
      by_cases z : i = lz_ixr t s q
      · rw [if_pos z, if_pos z, z, if_pos (by omega)]
      · rw [if_neg z, if_neg z]
    · refine ⟨_, fun i hi => ?_, lec_b hH a82 hx h8 hff hf cz hcl hm1 hm hn hgo ht hs hq hk hc (by omega) hd⟩
      rw [lez_as hT (by omega) i hi, key]
      by_cases z : i = lz_ixr t s q
      · rw [if_pos z, if_pos z, z, if_neg (by omega), ev]
      · rw [if_neg z, if_neg z]
  · refine ⟨e, fun i hi => ?_, lec_0 hH a82 hx h8 hff hf cz hcl hm1 hm hn hgo ht hs hq hk hc⟩
    unfold lz_cm lz_okr
    rw [decide_eq_false hc, if_neg (by decide)]
    exact hT i hi
theorem lef_z {h : am_H} {g : Nat → Value} {mi go n x : Nat} (hH : ru_ok h) (a82 : am_get h 82 = some (.inl (0, 256, x))) {ff f : Nat → Nat → Nat} {cl : Nat → Nat} (hx : ∀ s t, s < n → t < mi → am_ag x (64 * s + t) = lc_8 (ff s t)) (h8 : ∀ s t, s < n → t < mi → ff s t ≤ 8) (hff : ∀ s t, s < n → t < mi → f s t = fbt (ff s t)) (hf : ∀ s t, f s t < 256) (cz : ∀ fe so sy e q, q < 256 → am_EG mi_162 [.ref 66, .retAddr q] (ru h g mi go n fe so sy e) (some (.retAddr (cl q)), ru h g mi go n fe so sy e)) (hcl : ∀ q, q < 256 → cl q < 256) (hm1 : 1 ≤ mi) (hm : mi ≤ 60) (hn : n ≤ 4) (hgo : go ≤ 3) {fe so sy e : Nat} {fr : Nat} (hfr : fr < 4) {k : Nat} {r : am_R} (hk : k < 62464) (hg : am_Good mi_187 2 [some (.ref 66), some (.retAddr fr), some (.retAddr (k + 1)), none, none, none, none, none] [] (ru h g mi go n fe so sy (am_as e k 7)) r) : am_Good mi_187 2 [some (.ref 66), some (.retAddr fr), some (.retAddr k), none, none, none, none, none] [] (ru h g mi go n fe so sy e) r := by
  refine g_iload_n (i := 2) dd_187_2 rfl ?_
  refine g_ldc (v := 62464) dd_187_3 w_931 ?_
  refine g_icmp_ge_f (t := 22) dd_187_5 (by decide) (by first | exact sk_ge_f (by omega) (by omega) | exact tk_ge_f (by omega)) ?_
  refine g_aload_n (i := 0) dd_187_8 rfl ?_
  refine g_getfield (k := 47) am_ck12 (by decide) (Or.inl w_982) dd_187_9 (ru_g66 hH) rfl ?_
  refine g_iload_n (i := 2) dd_187_12 rfl ?_
  refine g_bipush dd_187_13 bi_7 ?_
  refine g_iastore dd_187_15 (ru_g89 hH) (by omega) (by decide) ?_
  refine am_heq (ru_u89 hH) ?_
  show am_Good mi_187 16 [some (.ref 66), some (.retAddr fr), some (.retAddr k), none, none, none, none, none] [] (ru h g mi go n fe so sy (am_as e k 7)) _
  refine e_iinc (v := 1) (w := k + 1) dd_187_16 rfl ic_1 (am_nlb_ok rfl) (by decide) (by omega) ?_
  refine g_goto (t := 2) dd_187_19 (by decide) ?_
  exact hg
theorem lef_y {h : am_H} {g : Nat → Value} {mi go n x : Nat} (hH : ru_ok h) (a82 : am_get h 82 = some (.inl (0, 256, x))) {ff f : Nat → Nat → Nat} {cl : Nat → Nat} (hx : ∀ s t, s < n → t < mi → am_ag x (64 * s + t) = lc_8 (ff s t)) (h8 : ∀ s t, s < n → t < mi → ff s t ≤ 8) (hff : ∀ s t, s < n → t < mi → f s t = fbt (ff s t)) (hf : ∀ s t, f s t < 256) (cz : ∀ fe so sy e q, q < 256 → am_EG mi_162 [.ref 66, .retAddr q] (ru h g mi go n fe so sy e) (some (.retAddr (cl q)), ru h g mi go n fe so sy e)) (hcl : ∀ q, q < 256 → cl q < 256) (hm1 : 1 ≤ mi) (hm : mi ≤ 60) (hn : n ≤ 4) (hgo : go ≤ 3) {fe so sy e : Nat} {fr : Nat} (hfr : fr < 4) {r : am_R} (hg : am_Good mi_187 35 [some (.ref 66), some (.retAddr fr), some (.retAddr 0), none, none, none, none, none] [] (ru h g mi go n fe so sy (am_as e (256 * fr) 0)) r) : am_Good mi_187 2 [some (.ref 66), some (.retAddr fr), some (.retAddr 62464), none, none, none, none, none] [] (ru h g mi go n fe so sy e) r := by
  refine g_iload_n (i := 2) dd_187_2 rfl ?_
  refine g_ldc (v := 62464) dd_187_3 w_931 ?_
  refine g_icmp_ge_t (t := 22) dd_187_5 (by decide) (by decide) ?_
  refine g_aload_n (i := 0) dd_187_22 rfl ?_
  refine g_getfield (k := 47) am_ck12 (by decide) (Or.inl w_982) dd_187_23 (ru_g66 hH) rfl ?_
  refine g_sipush dd_187_26 si_256 ?_
  refine g_iload_n (i := 1) dd_187_29 rfl ?_
  refine e_imul (v := 256 * fr) dd_187_30 (by omega) ?_
  refine g_iconst dd_187_31 ic_0 ?_
  refine g_iastore dd_187_32 (ru_g89 hH) (by omega) (by decide) ?_
  refine am_heq (ru_u89 hH) ?_
  show am_Good mi_187 33 [some (.ref 66), some (.retAddr fr), some (.retAddr 62464), none, none, none, none, none] [] (ru h g mi go n fe so sy (am_as e (256 * fr) 0)) _
  refine g_iconst dd_187_33 ic_0 ?_
  refine g_istore_n (i := 2) dd_187_34 (am_nlb_ok rfl) (by decide) ?_
  exact hg
theorem lef_e {h : am_H} {g : Nat → Value} {mi go n x : Nat} (hH : ru_ok h) (a82 : am_get h 82 = some (.inl (0, 256, x))) {ff f : Nat → Nat → Nat} {cl : Nat → Nat} (hx : ∀ s t, s < n → t < mi → am_ag x (64 * s + t) = lc_8 (ff s t)) (h8 : ∀ s t, s < n → t < mi → ff s t ≤ 8) (hff : ∀ s t, s < n → t < mi → f s t = fbt (ff s t)) (hf : ∀ s t, f s t < 256) (cz : ∀ fe so sy e q, q < 256 → am_EG mi_162 [.ref 66, .retAddr q] (ru h g mi go n fe so sy e) (some (.retAddr (cl q)), ru h g mi go n fe so sy e)) (hcl : ∀ q, q < 256 → cl q < 256) (hm1 : 1 ≤ mi) (hm : mi ≤ 60) (hn : n ≤ 4) (hgo : go ≤ 3) {fe so sy e : Nat} {fr : Nat} (hfr : fr < 4) {v3 v4 v5 v6 v7 : Option Value} : am_Good mi_187 35 [some (.ref 66), some (.retAddr fr), some (.retAddr (1024 * mi)), v3, v4, v5, v6, v7] [] (ru h g mi go n fe so sy e) (none, (ru h g mi go n fe so sy e)) := by
  refine g_iload_n (i := 2) dd_187_35 rfl ?_
  refine g_sipush dd_187_36 si_1024 ?_
  refine g_aload_n (i := 0) dd_187_39 rfl ?_
  refine g_getfield (k := 0) am_ck12 (by decide) (Or.inl w_935) dd_187_40 (ru_g66 hH) rfl ?_
  refine e_imul (v := 1024 * mi) dd_187_43 (by omega) ?_
  refine g_icmp_ge_t (t := 209) dd_187_44 (by decide) (by first | exact sk_ge_t (by omega) (by omega) | exact tk_ge_t (by omega)) ?_
  exact g_return rfl dd_187_209
theorem lef_n {h : am_H} {g : Nat → Value} {mi go n x : Nat} (hH : ru_ok h) (a82 : am_get h 82 = some (.inl (0, 256, x))) {ff f : Nat → Nat → Nat} {cl : Nat → Nat} (hx : ∀ s t, s < n → t < mi → am_ag x (64 * s + t) = lc_8 (ff s t)) (h8 : ∀ s t, s < n → t < mi → ff s t ≤ 8) (hff : ∀ s t, s < n → t < mi → f s t = fbt (ff s t)) (hf : ∀ s t, f s t < 256) (cz : ∀ fe so sy e q, q < 256 → am_EG mi_162 [.ref 66, .retAddr q] (ru h g mi go n fe so sy e) (some (.retAddr (cl q)), ru h g mi go n fe so sy e)) (hcl : ∀ q, q < 256 → cl q < 256) (hm1 : 1 ≤ mi) (hm : mi ≤ 60) (hn : n ≤ 4) (hgo : go ≤ 3) {fe so sy e : Nat} {fr : Nat} (hfr : fr < 4) {v3 v4 v5 v6 v7 : Option Value} {k : Nat} {r : am_R} (hk : k < 1024 * mi) (hv : ¬ am_ag e k ≤ 6) (hb : am_ag e k ≤ 99) (hg : am_Good mi_187 35 [some (.ref 66), some (.retAddr fr), some (.retAddr (k + 1)), some (.retAddr (k / 1024)), some (.retAddr (k / 256 % 4)), some (.retAddr (k % 256)), v6, v7] [] (ru h g mi go n fe so sy e) r) : am_Good mi_187 35 [some (.ref 66), some (.retAddr fr), some (.retAddr k), v3, v4, v5, v6, v7] [] (ru h g mi go n fe so sy e) r := by
  refine g_iload_n (i := 2) dd_187_35 rfl ?_
  refine g_sipush dd_187_36 si_1024 ?_
  refine g_aload_n (i := 0) dd_187_39 rfl ?_
  refine g_getfield (k := 0) am_ck12 (by decide) (Or.inl w_935) dd_187_40 (ru_g66 hH) rfl ?_
  refine e_imul (v := 1024 * mi) dd_187_43 (by omega) ?_
  refine g_icmp_ge_f (t := 209) dd_187_44 (by decide) (by first | exact sk_ge_f (by omega) (by omega) | exact tk_ge_f (by omega)) ?_
  refine g_iload_n (i := 2) dd_187_47 rfl ?_
  refine g_sipush dd_187_48 si_1024 ?_
  refine e_idiv (v := k / 1024) dd_187_51 ⟨by omega, by decide, by decide, rfl⟩ ?_
  refine g_istore_n (i := 3) dd_187_52 (am_nlb_ok rfl) (by decide) ?_
  refine g_iload_n (i := 2) dd_187_53 rfl ?_
  refine g_sipush dd_187_54 si_256 ?_
  refine e_idiv (v := k / 256) dd_187_57 ⟨by omega, by decide, by decide, rfl⟩ ?_
  refine g_iconst dd_187_58 ic_4 ?_
  refine e_irem (v := k / 256 % 4) dd_187_59 ⟨by omega, by decide, by decide, rfl⟩ ?_
  refine g_istore dd_187_60 (am_nlb_ok rfl) (by decide) ?_
  refine g_iload_n (i := 2) dd_187_62 rfl ?_
  refine g_sipush dd_187_63 si_256 ?_
  refine e_irem (v := k % 256) dd_187_66 ⟨by omega, by decide, by decide, rfl⟩ ?_
  refine g_istore dd_187_67 (am_nlb_ok rfl) (by decide) ?_
  refine g_aload_n (i := 0) dd_187_69 rfl ?_
  refine g_getfield (k := 47) am_ck12 (by decide) (Or.inl w_982) dd_187_70 (ru_g66 hH) rfl ?_
  refine g_iload_n (i := 2) dd_187_73 rfl ?_
  refine g_iaload dd_187_74 (ru_g89 hH) (by omega) (by decide) ?_
  have hl_1 := am_ag_lt e k
  refine g_bipush dd_187_75 bi_6 ?_
  refine g_icmp_gt_t (t := 203) dd_187_77 (by decide) (by first | exact sk_gt_t (by omega) (by omega) | exact tk_gt_t (by omega)) ?_
  refine e_iinc (v := 1) (w := k + 1) dd_187_203 rfl ic_1 (am_nlb_ok rfl) (by decide) (by omega) ?_
  refine g_goto (t := 35) dd_187_206 (by decide) ?_
  exact hg
theorem lef_b {h : am_H} {g : Nat → Value} {mi go n x : Nat} (hH : ru_ok h) (a82 : am_get h 82 = some (.inl (0, 256, x))) {ff f : Nat → Nat → Nat} {cl : Nat → Nat} (hx : ∀ s t, s < n → t < mi → am_ag x (64 * s + t) = lc_8 (ff s t)) (h8 : ∀ s t, s < n → t < mi → ff s t ≤ 8) (hff : ∀ s t, s < n → t < mi → f s t = fbt (ff s t)) (hf : ∀ s t, f s t < 256) (cz : ∀ fe so sy e q, q < 256 → am_EG mi_162 [.ref 66, .retAddr q] (ru h g mi go n fe so sy e) (some (.retAddr (cl q)), ru h g mi go n fe so sy e)) (hcl : ∀ q, q < 256 → cl q < 256) (hm1 : 1 ≤ mi) (hm : mi ≤ 60) (hn : n ≤ 4) (hgo : go ≤ 3) {fe so sy e : Nat} {fr : Nat} (hfr : fr < 4) {v3 v4 v5 v6 v7 : Option Value} {k pv e2 : Nat} {r : am_R} (hk : k < 1024 * mi) (hv : am_ag e k ≤ 6) (e0_ : am_EG mi_188 [.retAddr (k % 256), .retAddr (am_ag x (64 * (k / 256 % 4) + k / 1024))] (ru h g mi go n fe so sy e) (some (.retAddr pv), (ru h g mi go n fe so sy e))) (e1_ : am_EG mi_189 [.ref 66, .retAddr (k / 1024 + 1), .retAddr (k / 256 % 4), .retAddr pv, .retAddr (am_ag e k)] (ru h g mi go n fe so sy e) (none, (ru h g mi go n fe so sy e2))) (hg : am_Good mi_187 115 [some (.ref 66), some (.retAddr fr), some (.retAddr k), some (.retAddr (k / 1024)), some (.retAddr (k / 256 % 4)), some (.retAddr (k % 256)), some (.retAddr 0), v7] [] (ru h g mi go n fe so sy e2) r) : am_Good mi_187 35 [some (.ref 66), some (.retAddr fr), some (.retAddr k), v3, v4, v5, v6, v7] [] (ru h g mi go n fe so sy e) r := by
  refine g_iload_n (i := 2) dd_187_35 rfl ?_
  refine g_sipush dd_187_36 si_1024 ?_
  refine g_aload_n (i := 0) dd_187_39 rfl ?_
  refine g_getfield (k := 0) am_ck12 (by decide) (Or.inl w_935) dd_187_40 (ru_g66 hH) rfl ?_
  refine e_imul (v := 1024 * mi) dd_187_43 (by omega) ?_
  refine g_icmp_ge_f (t := 209) dd_187_44 (by decide) (by first | exact sk_ge_f (by omega) (by omega) | exact tk_ge_f (by omega)) ?_
  refine g_iload_n (i := 2) dd_187_47 rfl ?_
  refine g_sipush dd_187_48 si_1024 ?_
  refine e_idiv (v := k / 1024) dd_187_51 ⟨by omega, by decide, by decide, rfl⟩ ?_
  refine g_istore_n (i := 3) dd_187_52 (am_nlb_ok rfl) (by decide) ?_
  refine g_iload_n (i := 2) dd_187_53 rfl ?_
  refine g_sipush dd_187_54 si_256 ?_
  refine e_idiv (v := k / 256) dd_187_57 ⟨by omega, by decide, by decide, rfl⟩ ?_
  refine g_iconst dd_187_58 ic_4 ?_
  refine e_irem (v := k / 256 % 4) dd_187_59 ⟨by omega, by decide, by decide, rfl⟩ ?_
  refine g_istore dd_187_60 (am_nlb_ok rfl) (by decide) ?_
  refine g_iload_n (i := 2) dd_187_62 rfl ?_
  refine g_sipush dd_187_63 si_256 ?_
  refine e_irem (v := k % 256) dd_187_66 ⟨by omega, by decide, by decide, rfl⟩ ?_
  refine g_istore dd_187_67 (am_nlb_ok rfl) (by decide) ?_
  refine g_aload_n (i := 0) dd_187_69 rfl ?_
  refine g_getfield (k := 47) am_ck12 (by decide) (Or.inl w_982) dd_187_70 (ru_g66 hH) rfl ?_
  refine g_iload_n (i := 2) dd_187_73 rfl ?_
  refine g_iaload dd_187_74 (ru_g89 hH) (by omega) (by decide) ?_
  have hl_1 := am_ag_lt e k
  refine g_bipush dd_187_75 bi_6 ?_
  refine g_icmp_gt_f (t := 203) dd_187_77 (by decide) (by first | exact sk_gt_f (by omega) (by omega) | exact tk_gt_f (by omega)) ?_
  refine g_aload_n (i := 0) dd_187_80 rfl ?_
  refine g_iload_n (i := 3) dd_187_81 rfl ?_
  refine g_iconst dd_187_82 ic_1 ?_
  refine e_iadd (v := k / 1024 + 1) dd_187_83 (by omega) ?_
  refine g_iload dd_187_84 rfl ?_
  refine g_iload dd_187_86 rfl ?_
  refine g_aload_n (i := 0) dd_187_88 rfl ?_
  refine g_getfield (k := 33) am_ck12 (by decide) (Or.inl w_968) dd_187_89 (ru_g66 hH) rfl ?_
  refine g_bipush dd_187_92 bi_64 ?_
  refine g_iload dd_187_94 rfl ?_
  refine e_imul (v := 64 * (k / 256 % 4)) dd_187_96 (by omega) ?_
  refine g_iload_n (i := 3) dd_187_97 rfl ?_
  refine e_iadd (v := 64 * (k / 256 % 4) + k / 1024) dd_187_98 (by omega) ?_
  refine g_iaload dd_187_99 ((ru_o hH rfl).trans a82) (by omega) (by decide) ?_
  have hl_2 := am_ag_lt x (64 * (k / 256 % 4) + k / 1024)
  refine g_static (M' := mi_188) (n := 2) (as := [.retAddr (k % 256), .retAddr (am_ag x (64 * (k / 256 % 4) + k / 1024))]) (st := [.retAddr (k / 256 % 4), .retAddr (k / 1024 + 1), .ref 66]) (r1 := (some (.retAddr pv), (ru h g mi go n fe so sy e))) w_1322 w_1323 ⟨lk_188.1, lk_188.2.1, lk_188.2.2, by decide, by decide⟩ rfl (by simp [Value.category]) dd_187_100 (e0_) ?_
  show am_Good mi_187 103 [some (.ref 66), some (.retAddr fr), some (.retAddr k), some (.retAddr (k / 1024)), some (.retAddr (k / 256 % 4)), some (.retAddr (k % 256)), v6, v7] [.retAddr pv, .retAddr (k / 256 % 4), .retAddr (k / 1024 + 1), .ref 66] (ru h g mi go n fe so sy e) _
  refine g_aload_n (i := 0) dd_187_103 rfl ?_
  refine g_getfield (k := 47) am_ck12 (by decide) (Or.inl w_982) dd_187_104 (ru_g66 hH) rfl ?_
  refine g_iload_n (i := 2) dd_187_107 rfl ?_
  refine g_iaload dd_187_108 (ru_g89 hH) (by omega) (by decide) ?_
  have hl_3 := am_ag_lt e k
  refine g_virtual (M' := mi_189) (n := 4) (ci := 12) (b := 66) (as := [.retAddr (k / 1024 + 1), .retAddr (k / 256 % 4), .retAddr pv, .retAddr (am_ag e k)]) (st := []) (r1 := (none, (ru h g mi go n fe so sy e2))) w_1325 w_1327 ps_189 ⟨lk_189.1, lk_189.2.1, lk_189.2.2, by decide, by decide⟩ rfl (ru_g66 hH) rfl (by simp [Value.category]) dd_187_109 (e1_) ?_
  show am_Good mi_187 112 [some (.ref 66), some (.retAddr fr), some (.retAddr k), some (.retAddr (k / 1024)), some (.retAddr (k / 256 % 4)), some (.retAddr (k % 256)), v6, v7] [] (ru h g mi go n fe so sy e2) _
  refine g_iconst dd_187_112 ic_0 ?_
  refine g_istore dd_187_113 (am_nlb_ok rfl) (by decide) ?_
  exact hg
theorem lef_x {h : am_H} {g : Nat → Value} {mi go n x : Nat} (hH : ru_ok h) (a82 : am_get h 82 = some (.inl (0, 256, x))) {ff f : Nat → Nat → Nat} {cl : Nat → Nat} (hx : ∀ s t, s < n → t < mi → am_ag x (64 * s + t) = lc_8 (ff s t)) (h8 : ∀ s t, s < n → t < mi → ff s t ≤ 8) (hff : ∀ s t, s < n → t < mi → f s t = fbt (ff s t)) (hf : ∀ s t, f s t < 256) (cz : ∀ fe so sy e q, q < 256 → am_EG mi_162 [.ref 66, .retAddr q] (ru h g mi go n fe so sy e) (some (.retAddr (cl q)), ru h g mi go n fe so sy e)) (hcl : ∀ q, q < 256 → cl q < 256) (hm1 : 1 ≤ mi) (hm : mi ≤ 60) (hn : n ≤ 4) (hgo : go ≤ 3) {fe so sy e : Nat} {fr : Nat} (hfr : fr < 4) {k t s q : Nat} {v7 : Option Value} {r : am_R} (hk : k < 62464) (hg : am_Good mi_187 35 [some (.ref 66), some (.retAddr fr), some (.retAddr (k + 1)), some (.retAddr t), some (.retAddr s), some (.retAddr q), some (.retAddr n), v7] [] (ru h g mi go n fe so sy e) r) : am_Good mi_187 115 [some (.ref 66), some (.retAddr fr), some (.retAddr k), some (.retAddr t), some (.retAddr s), some (.retAddr q), some (.retAddr n), v7] [] (ru h g mi go n fe so sy e) r := by
  refine g_iload dd_187_115 rfl ?_
  refine g_aload_n (i := 0) dd_187_117 rfl ?_
  refine g_getfield (k := 2) am_ck12 (by decide) (Or.inl w_937) dd_187_118 (ru_g66 hH) rfl ?_
  refine g_icmp_ge_t (t := 203) dd_187_121 (by decide) (by first | exact sk_ge_t (by omega) (by omega) | exact tk_ge_t (by omega)) ?_
  refine e_iinc (v := 1) (w := k + 1) dd_187_203 rfl ic_1 (am_nlb_ok rfl) (by decide) (by omega) ?_
  refine g_goto (t := 35) dd_187_206 (by decide) ?_
  exact hg
theorem lef_0 {h : am_H} {g : Nat → Value} {mi go n x : Nat} (hH : ru_ok h) (a82 : am_get h 82 = some (.inl (0, 256, x))) {ff f : Nat → Nat → Nat} {cl : Nat → Nat} (hx : ∀ s t, s < n → t < mi → am_ag x (64 * s + t) = lc_8 (ff s t)) (h8 : ∀ s t, s < n → t < mi → ff s t ≤ 8) (hff : ∀ s t, s < n → t < mi → f s t = fbt (ff s t)) (hf : ∀ s t, f s t < 256) (cz : ∀ fe so sy e q, q < 256 → am_EG mi_162 [.ref 66, .retAddr q] (ru h g mi go n fe so sy e) (some (.retAddr (cl q)), ru h g mi go n fe so sy e)) (hcl : ∀ q, q < 256 → cl q < 256) (hm1 : 1 ≤ mi) (hm : mi ≤ 60) (hn : n ≤ 4) (hgo : go ≤ 3) {fe so sy e : Nat} {fr : Nat} (hfr : fr < 4) {k t s q to : Nat} {v7 : Option Value} {r : am_R} (hk : k < 62464) (ht : t < mi) (hs : s < 4) (hq : q < 256) (hto : to < n) (hc : to = s) (hg : am_Good mi_187 115 [some (.ref 66), some (.retAddr fr), some (.retAddr k), some (.retAddr t), some (.retAddr s), some (.retAddr q), some (.retAddr (to + 1)), v7] [] (ru h g mi go n fe so sy e) r) : am_Good mi_187 115 [some (.ref 66), some (.retAddr fr), some (.retAddr k), some (.retAddr t), some (.retAddr s), some (.retAddr q), some (.retAddr to), v7] [] (ru h g mi go n fe so sy e) r := by
  refine g_iload dd_187_115 rfl ?_
  refine g_aload_n (i := 0) dd_187_117 rfl ?_
  refine g_getfield (k := 2) am_ck12 (by decide) (Or.inl w_937) dd_187_118 (ru_g66 hH) rfl ?_
  refine g_icmp_ge_f (t := 203) dd_187_121 (by decide) (by first | exact sk_ge_f (by omega) (by omega) | exact tk_ge_f (by omega)) ?_
  refine g_iload dd_187_124 rfl ?_
  refine g_iload dd_187_126 rfl ?_
  refine g_icmp_eq_t (t := 197) dd_187_128 (by decide) (tk_eq_t (by omega)) ?_
  refine e_iinc (v := 1) (w := to + 1) dd_187_197 rfl ic_1 (am_nlb_ok rfl) (by decide) (by omega) ?_
  refine g_goto (t := 115) dd_187_200 (by decide) ?_
  exact hg
theorem lef_1 {h : am_H} {g : Nat → Value} {mi go n x : Nat} (hH : ru_ok h) (a82 : am_get h 82 = some (.inl (0, 256, x))) {ff f : Nat → Nat → Nat} {cl : Nat → Nat} (hx : ∀ s t, s < n → t < mi → am_ag x (64 * s + t) = lc_8 (ff s t)) (h8 : ∀ s t, s < n → t < mi → ff s t ≤ 8) (hff : ∀ s t, s < n → t < mi → f s t = fbt (ff s t)) (hf : ∀ s t, f s t < 256) (cz : ∀ fe so sy e q, q < 256 → am_EG mi_162 [.ref 66, .retAddr q] (ru h g mi go n fe so sy e) (some (.retAddr (cl q)), ru h g mi go n fe so sy e)) (hcl : ∀ q, q < 256 → cl q < 256) (hm1 : 1 ≤ mi) (hm : mi ≤ 60) (hn : n ≤ 4) (hgo : go ≤ 3) {fe so sy e : Nat} {fr : Nat} (hfr : fr < 4) {k t s q to : Nat} {v7 : Option Value} {r : am_R} (hk : k < 62464) (ht : t < mi) (hs : s < 4) (hq : q < 256) {pv e2 : Nat} (hto : to < n) (hc : to ≠ s) (h0 : go = 0) (hv : am_ag e k ≤ 6) (e0_ : am_EG mi_188 [.retAddr q, .retAddr (am_ag x (64 * to + t))] (ru h g mi go n fe so sy e) (some (.retAddr pv), (ru h g mi go n fe so sy e))) (e1_ : am_EG mi_189 [.ref 66, .retAddr (t + 1), .retAddr to, .retAddr pv, .retAddr (am_ag e k + 1)] (ru h g mi go n fe so sy e) (none, (ru h g mi go n fe so sy e2))) (hg : am_Good mi_187 115 [some (.ref 66), some (.retAddr fr), some (.retAddr k), some (.retAddr t), some (.retAddr s), some (.retAddr q), some (.retAddr (to + 1)), some (.retAddr pv)] [] (ru h g mi go n fe so sy e2) r) : am_Good mi_187 115 [some (.ref 66), some (.retAddr fr), some (.retAddr k), some (.retAddr t), some (.retAddr s), some (.retAddr q), some (.retAddr to), v7] [] (ru h g mi go n fe so sy e) r := by
  refine g_iload dd_187_115 rfl ?_
  refine g_aload_n (i := 0) dd_187_117 rfl ?_
  refine g_getfield (k := 2) am_ck12 (by decide) (Or.inl w_937) dd_187_118 (ru_g66 hH) rfl ?_
  refine g_icmp_ge_f (t := 203) dd_187_121 (by decide) (by first | exact sk_ge_f (by omega) (by omega) | exact tk_ge_f (by omega)) ?_
  refine g_iload dd_187_124 rfl ?_
  refine g_iload dd_187_126 rfl ?_
  refine g_icmp_eq_f (t := 197) dd_187_128 (by decide) (tk_eq_f (by omega)) ?_
  refine g_aload_n (i := 0) dd_187_131 rfl ?_
  refine g_getfield (k := 1) am_ck12 (by decide) (Or.inl w_936) dd_187_132 (ru_g66 hH) rfl ?_
  refine g_if_ne_f (t := 158) dd_187_135 (by decide) (tk_ne_f (by omega)) ?_
  refine g_iload dd_187_138 rfl ?_
  refine g_aload_n (i := 0) dd_187_140 rfl ?_
  refine g_getfield (k := 33) am_ck12 (by decide) (Or.inl w_968) dd_187_141 (ru_g66 hH) rfl ?_
  refine g_bipush dd_187_144 bi_64 ?_
  refine g_iload dd_187_146 rfl ?_
  refine e_imul (v := 64 * to) dd_187_148 (by omega) ?_
  refine g_iload_n (i := 3) dd_187_149 rfl ?_
  refine e_iadd (v := 64 * to + t) dd_187_150 (by omega) ?_
  refine g_iaload dd_187_151 ((ru_o hH rfl).trans a82) (by omega) (by decide) ?_
  have hl_1 := am_ag_lt x (64 * to + t)
  refine g_static (M' := mi_188) (n := 2) (as := [.retAddr q, .retAddr (am_ag x (64 * to + t))]) (st := []) (r1 := (some (.retAddr pv), (ru h g mi go n fe so sy e))) w_1322 w_1323 ⟨lk_188.1, lk_188.2.1, lk_188.2.2, by decide, by decide⟩ rfl (by simp [Value.category]) dd_187_152 (e0_) ?_
  show am_Good mi_187 155 [some (.ref 66), some (.retAddr fr), some (.retAddr k), some (.retAddr t), some (.retAddr s), some (.retAddr q), some (.retAddr to), v7] [.retAddr pv] (ru h g mi go n fe so sy e) _
  refine g_goto (t := 160) dd_187_155 (by decide) ?_
  refine g_istore dd_187_160 (am_nlb_ok rfl) (by decide) ?_
  refine g_aload_n (i := 0) dd_187_162 rfl ?_
  refine g_aload_n (i := 0) dd_187_163 rfl ?_
  refine g_getfield (k := 1) am_ck12 (by decide) (Or.inl w_936) dd_187_164 (ru_g66 hH) rfl ?_
  refine g_if_ne_f (t := 176) dd_187_167 (by decide) (tk_ne_f (by omega)) ?_
  refine g_iload_n (i := 3) dd_187_170 rfl ?_
  refine g_iconst dd_187_171 ic_1 ?_
  refine e_iadd (v := t + 1) dd_187_172 (by omega) ?_
  refine g_goto (t := 182) dd_187_173 (by decide) ?_
  refine g_iload dd_187_182 rfl ?_
  refine g_iload dd_187_184 rfl ?_
  refine g_aload_n (i := 0) dd_187_186 rfl ?_
  refine g_getfield (k := 47) am_ck12 (by decide) (Or.inl w_982) dd_187_187 (ru_g66 hH) rfl ?_
  refine g_iload_n (i := 2) dd_187_190 rfl ?_
  refine g_iaload dd_187_191 (ru_g89 hH) (by omega) (by decide) ?_
  have hl_2 := am_ag_lt e k
  refine g_iconst dd_187_192 ic_1 ?_
  refine e_iadd (v := am_ag e k + 1) dd_187_193 (by omega) ?_
  refine g_virtual (M' := mi_189) (n := 4) (ci := 12) (b := 66) (as := [.retAddr (t + 1), .retAddr to, .retAddr pv, .retAddr (am_ag e k + 1)]) (st := []) (r1 := (none, (ru h g mi go n fe so sy e2))) w_1325 w_1327 ps_189 ⟨lk_189.1, lk_189.2.1, lk_189.2.2, by decide, by decide⟩ rfl (ru_g66 hH) rfl (by simp [Value.category]) dd_187_194 (e1_) ?_
  show am_Good mi_187 197 [some (.ref 66), some (.retAddr fr), some (.retAddr k), some (.retAddr t), some (.retAddr s), some (.retAddr q), some (.retAddr to), some (.retAddr pv)] [] (ru h g mi go n fe so sy e2) _
  refine e_iinc (v := 1) (w := to + 1) dd_187_197 rfl ic_1 (am_nlb_ok rfl) (by decide) (by omega) ?_
  refine g_goto (t := 115) dd_187_200 (by decide) ?_
  exact hg
theorem lef_2 {h : am_H} {g : Nat → Value} {mi go n x : Nat} (hH : ru_ok h) (a82 : am_get h 82 = some (.inl (0, 256, x))) {ff f : Nat → Nat → Nat} {cl : Nat → Nat} (hx : ∀ s t, s < n → t < mi → am_ag x (64 * s + t) = lc_8 (ff s t)) (h8 : ∀ s t, s < n → t < mi → ff s t ≤ 8) (hff : ∀ s t, s < n → t < mi → f s t = fbt (ff s t)) (hf : ∀ s t, f s t < 256) (cz : ∀ fe so sy e q, q < 256 → am_EG mi_162 [.ref 66, .retAddr q] (ru h g mi go n fe so sy e) (some (.retAddr (cl q)), ru h g mi go n fe so sy e)) (hcl : ∀ q, q < 256 → cl q < 256) (hm1 : 1 ≤ mi) (hm : mi ≤ 60) (hn : n ≤ 4) (hgo : go ≤ 3) {fe so sy e : Nat} {fr : Nat} (hfr : fr < 4) {k t s q to : Nat} {v7 : Option Value} {r : am_R} (hk : k < 62464) (ht : t < mi) (hs : s < 4) (hq : q < 256) {e2 : Nat} (hto : to < n) (hc : to ≠ s) (h0 : go ≠ 0) (hv : am_ag e k ≤ 6) (e1_ : am_EG mi_189 [.ref 66, .retAddr (t + go), .retAddr to, .retAddr q, .retAddr (am_ag e k + 1)] (ru h g mi go n fe so sy e) (none, (ru h g mi go n fe so sy e2))) (hg : am_Good mi_187 115 [some (.ref 66), some (.retAddr fr), some (.retAddr k), some (.retAddr t), some (.retAddr s), some (.retAddr q), some (.retAddr (to + 1)), some (.retAddr q)] [] (ru h g mi go n fe so sy e2) r) : am_Good mi_187 115 [some (.ref 66), some (.retAddr fr), some (.retAddr k), some (.retAddr t), some (.retAddr s), some (.retAddr q), some (.retAddr to), v7] [] (ru h g mi go n fe so sy e) r := by
  refine g_iload dd_187_115 rfl ?_
  refine g_aload_n (i := 0) dd_187_117 rfl ?_
  refine g_getfield (k := 2) am_ck12 (by decide) (Or.inl w_937) dd_187_118 (ru_g66 hH) rfl ?_
  refine g_icmp_ge_f (t := 203) dd_187_121 (by decide) (by first | exact sk_ge_f (by omega) (by omega) | exact tk_ge_f (by omega)) ?_
  refine g_iload dd_187_124 rfl ?_
  refine g_iload dd_187_126 rfl ?_
  refine g_icmp_eq_f (t := 197) dd_187_128 (by decide) (tk_eq_f (by omega)) ?_
  refine g_aload_n (i := 0) dd_187_131 rfl ?_
  refine g_getfield (k := 1) am_ck12 (by decide) (Or.inl w_936) dd_187_132 (ru_g66 hH) rfl ?_
  refine g_if_ne_t (t := 158) dd_187_135 (by decide) (tk_ne_t (by omega)) ?_
  refine g_iload dd_187_158 rfl ?_
  refine g_istore dd_187_160 (am_nlb_ok rfl) (by decide) ?_
  refine g_aload_n (i := 0) dd_187_162 rfl ?_
  refine g_aload_n (i := 0) dd_187_163 rfl ?_
  refine g_getfield (k := 1) am_ck12 (by decide) (Or.inl w_936) dd_187_164 (ru_g66 hH) rfl ?_
  refine g_if_ne_t (t := 176) dd_187_167 (by decide) (tk_ne_t (by omega)) ?_
  refine g_iload_n (i := 3) dd_187_176 rfl ?_
  refine g_aload_n (i := 0) dd_187_177 rfl ?_
  refine g_getfield (k := 1) am_ck12 (by decide) (Or.inl w_936) dd_187_178 (ru_g66 hH) rfl ?_
  refine e_iadd (v := t + go) dd_187_181 (by omega) ?_
  refine g_iload dd_187_182 rfl ?_
  refine g_iload dd_187_184 rfl ?_
  refine g_aload_n (i := 0) dd_187_186 rfl ?_
  refine g_getfield (k := 47) am_ck12 (by decide) (Or.inl w_982) dd_187_187 (ru_g66 hH) rfl ?_
  refine g_iload_n (i := 2) dd_187_190 rfl ?_
  refine g_iaload dd_187_191 (ru_g89 hH) (by omega) (by decide) ?_
  have hl_1 := am_ag_lt e k
  refine g_iconst dd_187_192 ic_1 ?_
  refine e_iadd (v := am_ag e k + 1) dd_187_193 (by omega) ?_
  refine g_virtual (M' := mi_189) (n := 4) (ci := 12) (b := 66) (as := [.retAddr (t + go), .retAddr to, .retAddr q, .retAddr (am_ag e k + 1)]) (st := []) (r1 := (none, (ru h g mi go n fe so sy e2))) w_1325 w_1327 ps_189 ⟨lk_189.1, lk_189.2.1, lk_189.2.2, by decide, by decide⟩ rfl (ru_g66 hH) rfl (by simp [Value.category]) dd_187_194 (e1_) ?_
  show am_Good mi_187 197 [some (.ref 66), some (.retAddr fr), some (.retAddr k), some (.retAddr t), some (.retAddr s), some (.retAddr q), some (.retAddr to), some (.retAddr q)] [] (ru h g mi go n fe so sy e2) _
  refine e_iinc (v := 1) (w := to + 1) dd_187_197 rfl ic_1 (am_nlb_ok rfl) (by decide) (by omega) ?_
  refine g_goto (t := 115) dd_187_200 (by decide) ?_
  exact hg
theorem lea_255 {a j : Nat} (ha : a < 256) (h : a.testBit j = true) : Nat.testBit 255 j = true := by
  by_cases q : j < 8
  · have := jv_all_ok (p := fun j => Nat.testBit 255 j) (n := 8) (by decide) j q
    exact this
  · have : a.testBit j = false := Nat.testBit_lt_two_pow (Nat.lt_of_lt_of_le ha (show 2 ^ 8 ≤ 2 ^ j from Nat.pow_le_pow_right (by decide) (by omega)))
    rw [this] at h
    cases h
/-- the eighth local isn't looked at any more -/
theorem lef_w7 {a b c d e f' g' : Option Value} {w7 : Option Value} {h1 : am_H} {r : am_R} (hg : am_Good mi_187 35 [a, b, c, d, e, f', g', none] [] h1 r) : am_Good mi_187 35 [a, b, c, d, e, f', g', w7] [] h1 r := g_forget (fun i v hv => by
  match i, hv with
  | 0, hv => exact hv
  | 1, hv => exact hv
  | 2, hv => exact hv
  | 3, hv => exact hv
  | 4, hv => exact hv
  | 5, hv => exact hv
  | 6, hv => exact hv
  | 7, hv => cases hv
  | i + 8, hv => cases hv) hg
theorem lef_il {h : am_H} {g : Nat → Value} {mi go n x : Nat} (hH : ru_ok h) (a82 : am_get h 82 = some (.inl (0, 256, x))) {ff f : Nat → Nat → Nat} {cl : Nat → Nat} (hx : ∀ s t, s < n → t < mi → am_ag x (64 * s + t) = lc_8 (ff s t)) (h8 : ∀ s t, s < n → t < mi → ff s t ≤ 8) (hff : ∀ s t, s < n → t < mi → f s t = fbt (ff s t)) (hf : ∀ s t, f s t < 256) (cz : ∀ fe so sy e q, q < 256 → am_EG mi_162 [.ref 66, .retAddr q] (ru h g mi go n fe so sy e) (some (.retAddr (cl q)), ru h g mi go n fe so sy e)) (hcl : ∀ q, q < 256 → cl q < 256) (hm1 : 1 ≤ mi) (hm : mi ≤ 60) (hn : n ≤ 4) (hgo : go ≤ 3) {fe so sy : Nat} {fr : Nat} (hfr : fr < 4) {T : Nat → Nat} {k t s q w : Nat} (hk : k < 62464) (ht : t < mi) (hs : s < 4) (hq : q < 256) (hw : w ≤ 6) (h9 : ∀ i, T i ≤ 99) (hke : ∀ j, lz_t (lz_okr mi) lz_ixr lz_id f go t s q w T j k = w) : ∀ (d to e : Nat) (v7 : Option Value), to + d = n → (∀ i, i < 62464 → am_ag e i = lz_t (lz_okr mi) lz_ixr lz_id f go t s q w T to i) → ∃ e', (∀ i, i < 62464 → am_ag e' i = lz_t (lz_okr mi) lz_ixr lz_id f go t s q w T n i) ∧ ∀ r, (∀ w7, am_Good mi_187 35 [some (.ref 66), some (.retAddr fr), some (.retAddr (k + 1)), some (.retAddr t), some (.retAddr s), some (.retAddr q), some (.retAddr n), w7] [] (ru h g mi go n fe so sy (e')) r) → am_Good mi_187 115 [some (.ref 66), some (.retAddr fr), some (.retAddr k), some (.retAddr t), some (.retAddr s), some (.retAddr q), some (.retAddr to), v7] [] (ru h g mi go n fe so sy e) r
  | 0, to, e, v7, eq, he => by
    have e' : to = n := by omega
    subst e'
    exact ⟨e, he, fun r hr => lef_x hH a82 hx h8 hff hf cz hcl hm1 hm hn hgo hfr hk (hr v7)⟩
  | d + 1, to, e, v7, eq, he => by
    have hto : to < n := by omega
    have ev : am_ag e k = w := (he k hk).trans (hke to)
    have st : lz_t (lz_okr mi) lz_ixr lz_id f go t s q w T (to + 1) = if to = s then lz_t (lz_okr mi) lz_ixr lz_id f go t s q w T to else lz_cm (lz_okr mi) lz_ixr (lz_t (lz_okr mi) lz_ixr lz_id f go t s q w T to) (lz_T go t) to (lz_X lz_id f go t to q) (w + 1) := rfl
    by_cases c : to = s
    · rw [if_pos c] at st
      obtain ⟨e', a, b⟩ := lef_il hH a82 hx h8 hff hf cz hcl hm1 hm hn hgo hfr hk ht hs hq hw h9 hke d (to + 1) e v7 (by omega) (by rw [st]; exact he)
      exact ⟨e', a, fun r hr => lef_0 hH a82 hx h8 hff hf cz hcl hm1 hm hn hgo hfr hk ht hs hq hto c (b r hr)⟩
    · rw [if_neg c] at st
      by_cases z : go = 0
      · have eT : lz_T go t = t + 1 := if_pos z
        have eX : lz_X lz_id f go t to q = q ||| f to t := if_pos z
        rw [eT, eX] at st
        have e0 : am_EG mi_188 [.retAddr q, .retAddr (am_ag x (64 * to + t))] (ru h g mi go n fe so sy e) (some (.retAddr (q ||| f to t)), (ru h g mi go n fe so sy e)) := by
          rw [hx to t hto ht, hff to t hto ht]
          exact lep_m (h8 to t hto ht)
        obtain ⟨e1, a1, b1⟩ := lec_m hH a82 hx h8 hff hf cz hcl hm1 hm hn hgo (fe := fe) (so := so) (sy := sy) (t := t + 1) (s := to) (q := q ||| f to t) (k := w + 1) (by omega) (by omega) (lz_or_lt hq (hf _ _)) (by omega) he (lz_t_99 h9 to)
        obtain ⟨e', a, b⟩ := lef_il hH a82 hx h8 hff hf cz hcl hm1 hm hn hgo hfr hk ht hs hq hw h9 hke d (to + 1) e1 (some (.retAddr (q ||| f to t))) (by omega) (by rw [st]; exact a1)
        rw [← ev] at b1
        exact ⟨e', a, fun r hr => lef_1 hH a82 hx h8 hff hf cz hcl hm1 hm hn hgo hfr hk ht hs hq hto c z (by omega) e0 b1 (b r hr)⟩
      · have eT : lz_T go t = t + go := if_neg z
        have eX : lz_X lz_id f go t to q = q := if_neg z
        rw [eT, eX] at st
        obtain ⟨e1, a1, b1⟩ := lec_m hH a82 hx h8 hff hf cz hcl hm1 hm hn hgo (fe := fe) (so := so) (sy := sy) (t := t + go) (s := to) (q := q) (k := w + 1) (by omega) (by omega) hq (by omega) he (lz_t_99 h9 to)
        obtain ⟨e', a, b⟩ := lef_il hH a82 hx h8 hff hf cz hcl hm1 hm hn hgo hfr hk ht hs hq hw h9 hke d (to + 1) e1 (some (.retAddr q)) (by omega) (by rw [st]; exact a1)
        rw [← ev] at b1
        exact ⟨e', a, fun r hr => lef_2 hH a82 hx h8 hff hf cz hcl hm1 hm hn hgo hfr hk ht hs hq hto c z (by omega) b1 (b r hr)⟩
theorem lez_99 {f : Nat → Nat → Nat} {go st len fr : Nat} : ∀ k i, lz_e f go st len fr k i ≤ 99
  | 0, i => by
    show (if i = 256 * fr then 0 else 7) ≤ 99
    by_cases q : i = 256 * fr
    · rw [if_pos q]; decide
    · rw [if_neg q]; decide
  | k + 1, i => lz_e_le.mpr (Or.inl (lez_99 k i))
theorem lef_ol {h : am_H} {g : Nat → Value} {mi go n x : Nat} (hH : ru_ok h) (a82 : am_get h 82 = some (.inl (0, 256, x))) {ff f : Nat → Nat → Nat} {cl : Nat → Nat} (hx : ∀ s t, s < n → t < mi → am_ag x (64 * s + t) = lc_8 (ff s t)) (h8 : ∀ s t, s < n → t < mi → ff s t ≤ 8) (hff : ∀ s t, s < n → t < mi → f s t = fbt (ff s t)) (hf : ∀ s t, f s t < 256) (cz : ∀ fe so sy e q, q < 256 → am_EG mi_162 [.ref 66, .retAddr q] (ru h g mi go n fe so sy e) (some (.retAddr (cl q)), ru h g mi go n fe so sy e)) (hcl : ∀ q, q < 256 → cl q < 256) (hm1 : 1 ≤ mi) (hm : mi ≤ 60) (hn : n ≤ 4) (hgo : go ≤ 3) {fe so sy : Nat} {fr : Nat} (hfr : fr < 4) (hfn : fr < n) : ∀ (d k e : Nat) (v3 v4 v5 v6 v7 : Option Value), k + d = 1024 * mi → (∀ i, i < 62464 → am_ag e i = lz_e f go n mi fr k i) → ∃ e', (∀ i, i < 62464 → am_ag e' i = lz_e f go n mi fr (1024 * mi) i) ∧ am_Good mi_187 35 [some (.ref 66), some (.retAddr fr), some (.retAddr k), v3, v4, v5, v6, v7] [] (ru h g mi go n fe so sy e) (none, (ru h g mi go n fe so sy (e')))
  | 0, k, e, v3, v4, v5, v6, v7, eq, he => by
    have e' : k = 1024 * mi := by omega
    subst e'
    exact ⟨e, he, lef_e hH a82 hx h8 hff hf cz hcl hm1 hm hn hgo hfr⟩
  | d + 1, k, e, v3, v4, v5, v6, v7, eq, he => by
    have hk : k < 1024 * mi := by omega
    have k6 : k < 62464 := by omega
    have ev := he k k6
    by_cases hv : lz_e f go n mi fr k k ≤ 6
    · have ekk : k = lz_ixr (k / 1024) (k / 256 % 4) (k % 256) := by unfold lz_ixr; omega
      have sn : k / 256 % 4 < n ∧ True := by
        have q := lz_e_in (len := mi) (fr := fr) (f := f) (F := 255) hgo hn hfn hf (fun s t _ _ j hj => lea_255 (hf s t) hj) k (by omega) (k / 1024) (k / 256 % 4) (k % 256) (by omega) (by omega) (by rw [← ekk]; exact hv)
        exact ⟨q.1, trivial⟩
      have e0 : am_EG mi_188 [.retAddr (k % 256), .retAddr (am_ag x (64 * (k / 256 % 4) + k / 1024))] (ru h g mi go n fe so sy e) (some (.retAddr (k % 256 ||| f (k / 256 % 4) (k / 1024))), (ru h g mi go n fe so sy e)) := by
        rw [hx _ _ sn.1 (by omega), hff _ _ sn.1 (by omega)]
        exact lep_m (h8 _ _ sn.1 (by omega))
      obtain ⟨e1, a1, b1⟩ := lec_m hH a82 hx h8 hff hf cz hcl hm1 hm hn hgo (fe := fe) (so := so) (sy := sy) (T := lz_e f go n mi fr k) (t := k / 1024 + 1) (s := k / 256 % 4) (q := k % 256 ||| f (k / 256 % 4) (k / 1024)) (k := lz_e f go n mi fr k k) (by omega) (by omega) (lz_or_lt (by omega) (hf _ _)) (by omega) he (lez_99 k)
      have hke : ∀ j, lz_t (lz_okr mi) lz_ixr lz_id f go (k / 1024) (k / 256 % 4) (k % 256) (lz_e f go n mi fr k k) (lz_cm (lz_okr mi) lz_ixr (lz_e f go n mi fr k) (k / 1024 + 1) (k / 256 % 4) (k % 256 ||| f (k / 256 % 4) (k / 1024)) (lz_e f go n mi fr k k)) j k = lz_e f go n mi fr k k := fun j => lz_eq fun m => by
        rw [lz_t_le, lz_cm_le]
        refine ⟨fun h => ?_, fun h => Or.inl (Or.inl h)⟩
        rcases h with (h | ⟨-, h, -⟩) | ⟨g', -, -, -, h, -⟩
        · exact h
        · unfold lz_ixr at h; omega
        · unfold lz_ixr lz_T at h
          by_cases z : go = 0
          · rw [if_pos z] at h; omega
          · rw [if_neg z] at h; omega
      obtain ⟨e2, a2, b2⟩ := lef_il hH a82 hx h8 hff hf cz hcl hm1 hm hn hgo (fe := fe) (so := so) (sy := sy) hfr (k := k) (t := k / 1024) (s := k / 256 % 4) (q := k % 256) (w := lz_e f go n mi fr k k) k6 (by omega) (by omega) (by omega) hv (lz_cm_99 (lez_99 k)) hke n 0 e1 v7 (by omega) a1
      have es : lz_e f go n mi fr (k + 1) = lz_p (lz_okr mi) lz_ixr lz_id f go n (k / 1024) (k / 256 % 4) (k % 256) (lz_e f go n mi fr k k) (lz_e f go n mi fr k) := if_pos hv
      obtain ⟨e', a, b⟩ : ∃ e', (∀ i, i < 62464 → am_ag e' i = lz_e f go n mi fr (1024 * mi) i) ∧ ∀ w7, am_Good mi_187 35 [some (.ref 66), some (.retAddr fr), some (.retAddr (k + 1)), some (.retAddr (k / 1024)), some (.retAddr (k / 256 % 4)), some (.retAddr (k % 256)), some (.retAddr n), w7] [] (ru h g mi go n fe so sy e2) (none, (ru h g mi go n fe so sy (e'))) := by
        obtain ⟨e', a, b⟩ := lef_ol hH a82 hx h8 hff hf cz hcl hm1 hm hn hgo (fe := fe) (so := so) (sy := sy) hfr hfn d (k + 1) e2 (some (.retAddr (k / 1024))) (some (.retAddr (k / 256 % 4))) (some (.retAddr (k % 256))) (some (.retAddr n)) none (by omega) (by rw [es]; exact a2)
        exact ⟨e', a, fun w7 => lef_w7 b⟩
      rw [← ev] at b1
      exact ⟨e', a, lef_b hH a82 hx h8 hff hf cz hcl hm1 hm hn hgo hfr hk (by omega) e0 b1 (b2 _ b)⟩
    · have es : lz_e f go n mi fr (k + 1) = lz_e f go n mi fr k := if_neg hv
      obtain ⟨e', a, b⟩ := lef_ol hH a82 hx h8 hff hf cz hcl hm1 hm hn hgo (fe := fe) (so := so) (sy := sy) hfr hfn d (k + 1) e (some (.retAddr (k / 1024))) (some (.retAddr (k / 256 % 4))) (some (.retAddr (k % 256))) v6 v7 (by omega) (by rw [es]; exact he)
      exact ⟨e', a, lef_n hH a82 hx h8 hff hf cz hcl hm1 hm hn hgo hfr hk (by omega) (by rw [ev]; exact lez_99 k k) b⟩
theorem lef_p {h : am_H} {g : Nat → Value} {mi go n x : Nat} (hH : ru_ok h) (a82 : am_get h 82 = some (.inl (0, 256, x))) {ff f : Nat → Nat → Nat} {cl : Nat → Nat} (hx : ∀ s t, s < n → t < mi → am_ag x (64 * s + t) = lc_8 (ff s t)) (h8 : ∀ s t, s < n → t < mi → ff s t ≤ 8) (hff : ∀ s t, s < n → t < mi → f s t = fbt (ff s t)) (hf : ∀ s t, f s t < 256) (cz : ∀ fe so sy e q, q < 256 → am_EG mi_162 [.ref 66, .retAddr q] (ru h g mi go n fe so sy e) (some (.retAddr (cl q)), ru h g mi go n fe so sy e)) (hcl : ∀ q, q < 256 → cl q < 256) (hm1 : 1 ≤ mi) (hm : mi ≤ 60) (hn : n ≤ 4) (hgo : go ≤ 3) {fe so sy e : Nat} {fr : Nat} (hfr : fr < 4) {r : am_R} (hg : am_Good mi_187 2 [some (.ref 66), some (.retAddr fr), some (.retAddr 0), none, none, none, none, none] [] (ru h g mi go n fe so sy e) r) : am_EG mi_187 [.ref 66, .retAddr fr] (ru h g mi go n fe so sy e) r := by
  refine am_enter (n := 6) tk_187.2.1 (by simp [Value.category]) (Nat.le_of_ble_eq_true rfl) ?_
  show am_Good mi_187 0 [some (.ref 66), some (.retAddr fr), none, none, none, none, none, none] [] (ru h g mi go n fe so sy e) _
  refine g_iconst dd_187_0 ic_0 ?_
  refine g_istore_n (i := 2) dd_187_1 (am_nlb_ok rfl) (by decide) ?_
  exact hg
theorem lef_zl {h : am_H} {g : Nat → Value} {mi go n x : Nat} (hH : ru_ok h) (a82 : am_get h 82 = some (.inl (0, 256, x))) {ff f : Nat → Nat → Nat} {cl : Nat → Nat} (hx : ∀ s t, s < n → t < mi → am_ag x (64 * s + t) = lc_8 (ff s t)) (h8 : ∀ s t, s < n → t < mi → ff s t ≤ 8) (hff : ∀ s t, s < n → t < mi → f s t = fbt (ff s t)) (hf : ∀ s t, f s t < 256) (cz : ∀ fe so sy e q, q < 256 → am_EG mi_162 [.ref 66, .retAddr q] (ru h g mi go n fe so sy e) (some (.retAddr (cl q)), ru h g mi go n fe so sy e)) (hcl : ∀ q, q < 256 → cl q < 256) (hm1 : 1 ≤ mi) (hm : mi ≤ 60) (hn : n ≤ 4) (hgo : go ≤ 3) {fe so sy : Nat} {fr : Nat} (hfr : fr < 4) (hfn : fr < n) : ∀ (d k e : Nat), k + d = 62464 → (∀ i, i < k → am_ag e i = 7) → ∃ e', (∀ i, i < 62464 → am_ag e' i = lz_e f go n mi fr (1024 * mi) i) ∧ am_Good mi_187 2 [some (.ref 66), some (.retAddr fr), some (.retAddr k), none, none, none, none, none] [] (ru h g mi go n fe so sy e) (none, (ru h g mi go n fe so sy (e')))
  | 0, k, e, eq, he => by
    have e' : k = 62464 := by omega
    subst e'
    obtain ⟨e', a, b⟩ := lef_ol hH a82 hx h8 hff hf cz hcl hm1 hm hn hgo (fe := fe) (so := so) (sy := sy) hfr hfn (1024 * mi) 0 (am_as e (256 * fr) 0) none none none none none (by omega) (fun i hi => by
      show am_ag (am_as e (256 * fr) 0) i = if i = 256 * fr then 0 else 7
      rw [am_ag_as]
      by_cases q : i = 256 * fr
      · rw [if_pos q, if_pos q]
      · rw [if_neg q, if_neg q]; exact he i hi)
    exact ⟨e', a, lef_y hH a82 hx h8 hff hf cz hcl hm1 hm hn hgo hfr b⟩
  | d + 1, k, e, eq, he => by
    obtain ⟨e', a, b⟩ := lef_zl hH a82 hx h8 hff hf cz hcl hm1 hm hn hgo (fe := fe) (so := so) (sy := sy) hfr hfn d (k + 1) (am_as e k 7) (by omega) (fun i hi => by
      rw [am_ag_as]
      by_cases q : i = k
      · rw [if_pos q]
      · rw [if_neg q]; exact he i (by omega))
    exact ⟨e', a, lef_z hH a82 hx h8 hff hf cz hcl hm1 hm hn hgo hfr (by omega) b⟩
theorem lef_m {h : am_H} {g : Nat → Value} {mi go n x : Nat} (hH : ru_ok h) (a82 : am_get h 82 = some (.inl (0, 256, x))) {ff f : Nat → Nat → Nat} {cl : Nat → Nat} (hx : ∀ s t, s < n → t < mi → am_ag x (64 * s + t) = lc_8 (ff s t)) (h8 : ∀ s t, s < n → t < mi → ff s t ≤ 8) (hff : ∀ s t, s < n → t < mi → f s t = fbt (ff s t)) (hf : ∀ s t, f s t < 256) (cz : ∀ fe so sy e q, q < 256 → am_EG mi_162 [.ref 66, .retAddr q] (ru h g mi go n fe so sy e) (some (.retAddr (cl q)), ru h g mi go n fe so sy e)) (hcl : ∀ q, q < 256 → cl q < 256) (hm1 : 1 ≤ mi) (hm : mi ≤ 60) (hn : n ≤ 4) (hgo : go ≤ 3) {fe so sy e : Nat} {fr : Nat} (hfr : fr < 4) (hfn : fr < n) : ∃ e', (∀ i, i < 62464 → am_ag e' i = lz_e f go n mi fr (1024 * mi) i) ∧ am_EG mi_187 [.ref 66, .retAddr fr] (ru h g mi go n fe so sy e) (none, (ru h g mi go n fe so sy (e'))) := by
  obtain ⟨e', a, b⟩ := lef_zl hH a82 hx h8 hff hf cz hcl hm1 hm hn hgo (fe := fe) (so := so) (sy := sy) hfr hfn 62464 0 e (by omega) (fun i h => absurd h (Nat.not_lt_zero i))
  exact ⟨e', a, lef_p hH a82 hx h8 hff hf cz hcl hm1 hm hn hgo hfr b⟩
theorem les_p {h : am_H} {g : Nat → Value} {mi go n x : Nat} (hH : ru_ok h) (a82 : am_get h 82 = some (.inl (0, 256, x))) {ff f : Nat → Nat → Nat} {cl : Nat → Nat} (hx : ∀ s t, s < n → t < mi → am_ag x (64 * s + t) = lc_8 (ff s t)) (h8 : ∀ s t, s < n → t < mi → ff s t ≤ 8) (hff : ∀ s t, s < n → t < mi → f s t = fbt (ff s t)) (hf : ∀ s t, f s t < 256) (cz : ∀ fe so sy e q, q < 256 → am_EG mi_162 [.ref 66, .retAddr q] (ru h g mi go n fe so sy e) (some (.retAddr (cl q)), ru h g mi go n fe so sy e)) (hcl : ∀ q, q < 256 → cl q < 256) (hm1 : 1 ≤ mi) (hm : mi ≤ 60) (hn : n ≤ 4) (hgo : go ≤ 3) {fe so sy e : Nat} {set : Nat} (hset : set < 256) {r : am_R} (hg : am_Good mi_190 20 [some (.ref 66), some (.retAddr set), some (.retAddr 0)] [] (ru h g mi go n 7 4294967292 4294967292 e) r) : am_EG mi_190 [.ref 66, .retAddr set] (ru h g mi go n fe so sy e) r := by
  refine am_enter (n := 1) tk_190.2.1 (by simp [Value.category]) (Nat.le_of_ble_eq_true rfl) ?_
  show am_Good mi_190 0 [some (.ref 66), some (.retAddr set), none] [] (ru h g mi go n fe so sy e) _
  refine g_aload_n (i := 0) dd_190_0 rfl ?_
  refine g_bipush dd_190_1 bi_7 ?_
  refine g_putfield (k := 48) am_ck12 (by decide) (Or.inl w_983) (Or.inl rfl) dd_190_3 (ru_g66 hH) (Nat.le_of_ble_eq_true rfl) trivial ?_
  refine am_heq (ru_u66 hH) ?_
  show am_Good mi_190 6 [some (.ref 66), some (.retAddr set), none] [] (ru h g mi go n 7 so sy e) _
  refine g_aload_n (i := 0) dd_190_6 rfl ?_
  refine g_bipush dd_190_7 bi_m4 ?_
  refine g_putfield (k := 49) am_ck12 (by decide) (Or.inl w_984) (Or.inl rfl) dd_190_9 (ru_g66 hH) (Nat.le_of_ble_eq_true rfl) trivial ?_
  refine am_heq (ru_u66 hH) ?_
  show am_Good mi_190 12 [some (.ref 66), some (.retAddr set), none] [] (ru h g mi go n 7 4294967292 sy e) _
  refine g_aload_n (i := 0) dd_190_12 rfl ?_
  refine g_bipush dd_190_13 bi_m4 ?_
  refine g_putfield (k := 50) am_ck12 (by decide) (Or.inl w_985) (Or.inl rfl) dd_190_15 (ru_g66 hH) (Nat.le_of_ble_eq_true rfl) trivial ?_
  refine am_heq (ru_u66 hH) ?_
  show am_Good mi_190 18 [some (.ref 66), some (.retAddr set), none] [] (ru h g mi go n 7 4294967292 4294967292 e) _
  refine g_iconst dd_190_18 ic_0 ?_
  refine g_istore_n (i := 2) dd_190_19 (am_nlb_ok rfl) (by decide) ?_
  exact hg
theorem les_e {h : am_H} {g : Nat → Value} {mi go n x : Nat} (hH : ru_ok h) (a82 : am_get h 82 = some (.inl (0, 256, x))) {ff f : Nat → Nat → Nat} {cl : Nat → Nat} (hx : ∀ s t, s < n → t < mi → am_ag x (64 * s + t) = lc_8 (ff s t)) (h8 : ∀ s t, s < n → t < mi → ff s t ≤ 8) (hff : ∀ s t, s < n → t < mi → f s t = fbt (ff s t)) (hf : ∀ s t, f s t < 256) (cz : ∀ fe so sy e q, q < 256 → am_EG mi_162 [.ref 66, .retAddr q] (ru h g mi go n fe so sy e) (some (.retAddr (cl q)), ru h g mi go n fe so sy e)) (hcl : ∀ q, q < 256 → cl q < 256) (hm1 : 1 ≤ mi) (hm : mi ≤ 60) (hn : n ≤ 4) (hgo : go ≤ 3) {fe so sy e : Nat} {set : Nat} (hset : set < 256) : am_Good mi_190 20 [some (.ref 66), some (.retAddr set), some (.retAddr (1024 * (mi + 1)))] [] (ru h g mi go n fe so sy e) (none, (ru h g mi go n fe so sy e)) := by
  refine g_iload_n (i := 2) dd_190_20 rfl ?_
  refine g_sipush dd_190_21 si_1024 ?_
  refine g_aload_n (i := 0) dd_190_24 rfl ?_
  refine g_getfield (k := 0) am_ck12 (by decide) (Or.inl w_935) dd_190_25 (ru_g66 hH) rfl ?_
  refine g_iconst dd_190_28 ic_1 ?_
  refine e_iadd (v := mi + 1) dd_190_29 (by omega) ?_
  refine e_imul (v := 1024 * (mi + 1)) dd_190_30 (by omega) ?_
  refine g_icmp_ge_t (t := 151) dd_190_31 (by decide) (by first | exact sk_ge_t (by omega) (by omega) | exact tk_ge_t (by omega)) ?_
  exact g_return rfl dd_190_151
theorem les_n {h : am_H} {g : Nat → Value} {mi go n x : Nat} (hH : ru_ok h) (a82 : am_get h 82 = some (.inl (0, 256, x))) {ff f : Nat → Nat → Nat} {cl : Nat → Nat} (hx : ∀ s t, s < n → t < mi → am_ag x (64 * s + t) = lc_8 (ff s t)) (h8 : ∀ s t, s < n → t < mi → ff s t ≤ 8) (hff : ∀ s t, s < n → t < mi → f s t = fbt (ff s t)) (hf : ∀ s t, f s t < 256) (cz : ∀ fe so sy e q, q < 256 → am_EG mi_162 [.ref 66, .retAddr q] (ru h g mi go n fe so sy e) (some (.retAddr (cl q)), ru h g mi go n fe so sy e)) (hcl : ∀ q, q < 256 → cl q < 256) (hm1 : 1 ≤ mi) (hm : mi ≤ 60) (hn : n ≤ 4) (hgo : go ≤ 3) {fe so sy e : Nat} {set : Nat} (hset : set < 256) {k : Nat} {r : am_R} (hk : k < 1024 * (mi + 1)) (hb : am_ag e k ≤ 99) (hv : ¬ am_ag e k ≤ 6) (hg : am_Good mi_190 20 [some (.ref 66), some (.retAddr set), some (.retAddr (k + 1))] [] (ru h g mi go n fe so sy e) r) : am_Good mi_190 20 [some (.ref 66), some (.retAddr set), some (.retAddr k)] [] (ru h g mi go n fe so sy e) r := by
  refine g_iload_n (i := 2) dd_190_20 rfl ?_
  refine g_sipush dd_190_21 si_1024 ?_
  refine g_aload_n (i := 0) dd_190_24 rfl ?_
  refine g_getfield (k := 0) am_ck12 (by decide) (Or.inl w_935) dd_190_25 (ru_g66 hH) rfl ?_
  refine g_iconst dd_190_28 ic_1 ?_
  refine e_iadd (v := mi + 1) dd_190_29 (by omega) ?_
  refine e_imul (v := 1024 * (mi + 1)) dd_190_30 (by omega) ?_
  refine g_icmp_ge_f (t := 151) dd_190_31 (by decide) (by first | exact sk_ge_f (by omega) (by omega) | exact tk_ge_f (by omega)) ?_
  refine g_aload_n (i := 0) dd_190_34 rfl ?_
  refine g_getfield (k := 47) am_ck12 (by decide) (Or.inl w_982) dd_190_35 (ru_g66 hH) rfl ?_
  refine g_iload_n (i := 2) dd_190_38 rfl ?_
  refine g_iaload dd_190_39 (ru_g89 hH) (by omega) (by decide) ?_
  have hl_1 := am_ag_lt e k
  refine g_bipush dd_190_40 bi_6 ?_
  refine g_icmp_gt_t (t := 145) dd_190_42 (by decide) (by first | exact sk_gt_t (by omega) (by omega) | exact tk_gt_t (by omega)) ?_
  refine e_iinc (v := 1) (w := k + 1) dd_190_145 rfl ic_1 (am_nlb_ok rfl) (by decide) (by omega) ?_
  refine g_goto (t := 20) dd_190_148 (by decide) ?_
  exact hg
theorem les_u {h : am_H} {g : Nat → Value} {mi go n x : Nat} (hH : ru_ok h) (a82 : am_get h 82 = some (.inl (0, 256, x))) {ff f : Nat → Nat → Nat} {cl : Nat → Nat} (hx : ∀ s t, s < n → t < mi → am_ag x (64 * s + t) = lc_8 (ff s t)) (h8 : ∀ s t, s < n → t < mi → ff s t ≤ 8) (hff : ∀ s t, s < n → t < mi → f s t = fbt (ff s t)) (hf : ∀ s t, f s t < 256) (cz : ∀ fe so sy e q, q < 256 → am_EG mi_162 [.ref 66, .retAddr q] (ru h g mi go n fe so sy e) (some (.retAddr (cl q)), ru h g mi go n fe so sy e)) (hcl : ∀ q, q < 256 → cl q < 256) (hm1 : 1 ≤ mi) (hm : mi ≤ 60) (hn : n ≤ 4) (hgo : go ≤ 3) {fe so sy e : Nat} {set : Nat} (hset : set < 256) {k : Nat} {r : am_R} (hk : k < 1024 * (mi + 1)) (hb : am_ag e k ≤ 99) (hv : am_ag e k ≤ 6) (hs : set &&& (cl (k % 256) ^^^ 4294967295) ≠ 0) (hg : am_Good mi_190 20 [some (.ref 66), some (.retAddr set), some (.retAddr (k + 1))] [] (ru h g mi go n fe so sy e) r) : am_Good mi_190 20 [some (.ref 66), some (.retAddr set), some (.retAddr k)] [] (ru h g mi go n fe so sy e) r := by
  have sl : set &&& (cl (k % 256) ^^^ 4294967295) < 256 := Nat.lt_of_le_of_lt Nat.and_le_left hset
  refine g_iload_n (i := 2) dd_190_20 rfl ?_
  refine g_sipush dd_190_21 si_1024 ?_
  refine g_aload_n (i := 0) dd_190_24 rfl ?_
  refine g_getfield (k := 0) am_ck12 (by decide) (Or.inl w_935) dd_190_25 (ru_g66 hH) rfl ?_
  refine g_iconst dd_190_28 ic_1 ?_
  refine e_iadd (v := mi + 1) dd_190_29 (by omega) ?_
  refine e_imul (v := 1024 * (mi + 1)) dd_190_30 (by omega) ?_
  refine g_icmp_ge_f (t := 151) dd_190_31 (by decide) (by first | exact sk_ge_f (by omega) (by omega) | exact tk_ge_f (by omega)) ?_
  refine g_aload_n (i := 0) dd_190_34 rfl ?_
  refine g_getfield (k := 47) am_ck12 (by decide) (Or.inl w_982) dd_190_35 (ru_g66 hH) rfl ?_
  refine g_iload_n (i := 2) dd_190_38 rfl ?_
  refine g_iaload dd_190_39 (ru_g89 hH) (by omega) (by decide) ?_
  have hl_1 := am_ag_lt e k
  refine g_bipush dd_190_40 bi_6 ?_
  refine g_icmp_gt_f (t := 145) dd_190_42 (by decide) (by first | exact sk_gt_f (by omega) (by omega) | exact tk_gt_f (by omega)) ?_
  refine g_iload_n (i := 1) dd_190_45 rfl ?_
  refine g_aload_n (i := 0) dd_190_46 rfl ?_
  refine g_iload_n (i := 2) dd_190_47 rfl ?_
  refine g_sipush dd_190_48 si_256 ?_
  refine e_irem (v := k % 256) dd_190_51 ⟨by omega, by decide, by decide, rfl⟩ ?_
  refine g_virtual (M' := mi_162) (n := 1) (ci := 12) (b := 66) (as := [.retAddr (k % 256)]) (st := [.retAddr set]) (r1 := (some (.retAddr (cl (k % 256))), (ru h g mi go n fe so sy e))) w_1218 w_1220 ps_162 ⟨lk_162.1, lk_162.2.1, lk_162.2.2, by decide, by decide⟩ rfl (ru_g66 hH) rfl (by simp [Value.category]) dd_190_52 (cz _ _ _ _ _ (by omega)) ?_
  show am_Good mi_190 55 [some (.ref 66), some (.retAddr set), some (.retAddr k)] [.retAddr (cl (k % 256)), .retAddr set] (ru h g mi go n fe so sy e) _
  refine g_iconst dd_190_55 ic_m1 ?_
  refine e_ixor (v := cl (k % 256) ^^^ 4294967295) dd_190_56 rfl ?_
  refine e_iand (v := set &&& (cl (k % 256) ^^^ 4294967295)) dd_190_57 rfl ?_
  refine g_if_ne_t (t := 145) dd_190_58 (by decide) (tk_ne_t (by omega)) ?_
  refine e_iinc (v := 1) (w := k + 1) dd_190_145 rfl ic_1 (am_nlb_ok rfl) (by decide) (by omega) ?_
  refine g_goto (t := 20) dd_190_148 (by decide) ?_
  exact hg
theorem les_nb {h : am_H} {g : Nat → Value} {mi go n x : Nat} (hH : ru_ok h) (a82 : am_get h 82 = some (.inl (0, 256, x))) {ff f : Nat → Nat → Nat} {cl : Nat → Nat} (hx : ∀ s t, s < n → t < mi → am_ag x (64 * s + t) = lc_8 (ff s t)) (h8 : ∀ s t, s < n → t < mi → ff s t ≤ 8) (hff : ∀ s t, s < n → t < mi → f s t = fbt (ff s t)) (hf : ∀ s t, f s t < 256) (cz : ∀ fe so sy e q, q < 256 → am_EG mi_162 [.ref 66, .retAddr q] (ru h g mi go n fe so sy e) (some (.retAddr (cl q)), ru h g mi go n fe so sy e)) (hcl : ∀ q, q < 256 → cl q < 256) (hm1 : 1 ≤ mi) (hm : mi ≤ 60) (hn : n ≤ 4) (hgo : go ≤ 3) {fe so e : Nat} {set : Nat} (hset : set < 256) {k : Nat} {r : am_R} (hk : k < 1024 * (mi + 1)) (hb : am_ag e k ≤ 99) (hv : am_ag e k ≤ 6) (hs : set &&& (cl (k % 256) ^^^ 4294967295) = 0) (hfe : fe ≤ 7) (hc : am_ag e k < fe) (hg : am_Good mi_190 20 [some (.ref 66), some (.retAddr set), some (.retAddr (k + 1))] [] (ru h g mi go n (am_ag e k) (k / 1024) (k / 1024) e) r) : am_Good mi_190 20 [some (.ref 66), some (.retAddr set), some (.retAddr k)] [] (ru h g mi go n fe so 4294967292 e) r := by
  have sl : set &&& (cl (k % 256) ^^^ 4294967295) < 256 := Nat.lt_of_le_of_lt Nat.and_le_left hset
  refine g_iload_n (i := 2) dd_190_20 rfl ?_
  refine g_sipush dd_190_21 si_1024 ?_
  refine g_aload_n (i := 0) dd_190_24 rfl ?_
  refine g_getfield (k := 0) am_ck12 (by decide) (Or.inl w_935) dd_190_25 (ru_g66 hH) rfl ?_
  refine g_iconst dd_190_28 ic_1 ?_
  refine e_iadd (v := mi + 1) dd_190_29 (by omega) ?_
  refine e_imul (v := 1024 * (mi + 1)) dd_190_30 (by omega) ?_
  refine g_icmp_ge_f (t := 151) dd_190_31 (by decide) (by first | exact sk_ge_f (by omega) (by omega) | exact tk_ge_f (by omega)) ?_
  refine g_aload_n (i := 0) dd_190_34 rfl ?_
  refine g_getfield (k := 47) am_ck12 (by decide) (Or.inl w_982) dd_190_35 (ru_g66 hH) rfl ?_
  refine g_iload_n (i := 2) dd_190_38 rfl ?_
  refine g_iaload dd_190_39 (ru_g89 hH) (by omega) (by decide) ?_
  have hl_1 := am_ag_lt e k
  refine g_bipush dd_190_40 bi_6 ?_
  refine g_icmp_gt_f (t := 145) dd_190_42 (by decide) (by first | exact sk_gt_f (by omega) (by omega) | exact tk_gt_f (by omega)) ?_
  refine g_iload_n (i := 1) dd_190_45 rfl ?_
  refine g_aload_n (i := 0) dd_190_46 rfl ?_
  refine g_iload_n (i := 2) dd_190_47 rfl ?_
  refine g_sipush dd_190_48 si_256 ?_
  refine e_irem (v := k % 256) dd_190_51 ⟨by omega, by decide, by decide, rfl⟩ ?_
  refine g_virtual (M' := mi_162) (n := 1) (ci := 12) (b := 66) (as := [.retAddr (k % 256)]) (st := [.retAddr set]) (r1 := (some (.retAddr (cl (k % 256))), (ru h g mi go n fe so 4294967292 e))) w_1218 w_1220 ps_162 ⟨lk_162.1, lk_162.2.1, lk_162.2.2, by decide, by decide⟩ rfl (ru_g66 hH) rfl (by simp [Value.category]) dd_190_52 (cz _ _ _ _ _ (by omega)) ?_
  show am_Good mi_190 55 [some (.ref 66), some (.retAddr set), some (.retAddr k)] [.retAddr (cl (k % 256)), .retAddr set] (ru h g mi go n fe so 4294967292 e) _
  refine g_iconst dd_190_55 ic_m1 ?_
  refine e_ixor (v := cl (k % 256) ^^^ 4294967295) dd_190_56 rfl ?_
  refine e_iand (v := set &&& (cl (k % 256) ^^^ 4294967295)) dd_190_57 rfl ?_
  refine g_if_ne_f (t := 145) dd_190_58 (by decide) (tk_ne_f (by omega)) ?_
  refine g_aload_n (i := 0) dd_190_61 rfl ?_
  refine g_aload_n (i := 0) dd_190_62 rfl ?_
  refine g_getfield (k := 50) am_ck12 (by decide) (Or.inl w_985) dd_190_63 (ru_g66 hH) rfl ?_
  refine g_bipush dd_190_66 bi_m4 ?_
  refine g_icmp_ne_f (t := 79) dd_190_68 (by decide) (by decide) ?_
  refine g_iload_n (i := 2) dd_190_71 rfl ?_
  refine g_sipush dd_190_72 si_1024 ?_
  refine e_idiv (v := k / 1024) dd_190_75 ⟨by omega, by decide, by decide, rfl⟩ ?_
  refine g_goto (t := 83) dd_190_76 (by decide) ?_
  refine g_putfield (k := 50) am_ck12 (by decide) (Or.inl w_985) (Or.inl rfl) dd_190_83 (ru_g66 hH) (Nat.le_of_ble_eq_true rfl) trivial ?_
  refine am_heq (ru_u66 hH) ?_
  show am_Good mi_190 86 [some (.ref 66), some (.retAddr set), some (.retAddr k)] [] (ru h g mi go n fe so (k / 1024) e) _
  refine g_aload_n (i := 0) dd_190_86 rfl ?_
  refine g_aload_n (i := 0) dd_190_87 rfl ?_
  refine g_getfield (k := 47) am_ck12 (by decide) (Or.inl w_982) dd_190_88 (ru_g66 hH) rfl ?_
  refine g_iload_n (i := 2) dd_190_91 rfl ?_
  refine g_iaload dd_190_92 (ru_g89 hH) (by omega) (by decide) ?_
  have hl_2 := am_ag_lt e k
  refine g_aload_n (i := 0) dd_190_93 rfl ?_
  refine g_getfield (k := 48) am_ck12 (by decide) (Or.inl w_983) dd_190_94 (ru_g66 hH) rfl ?_
  refine g_icmp_ge_f (t := 108) dd_190_97 (by decide) (by first | exact sk_ge_f (by omega) (by omega) | exact tk_ge_f (by omega)) ?_
  refine g_iload_n (i := 2) dd_190_100 rfl ?_
  refine g_sipush dd_190_101 si_1024 ?_
  refine e_idiv (v := k / 1024) dd_190_104 ⟨by omega, by decide, by decide, rfl⟩ ?_
  refine g_goto (t := 112) dd_190_105 (by decide) ?_
  refine g_putfield (k := 49) am_ck12 (by decide) (Or.inl w_984) (Or.inl rfl) dd_190_112 (ru_g66 hH) (Nat.le_of_ble_eq_true rfl) trivial ?_
  refine am_heq (ru_u66 hH) ?_
  show am_Good mi_190 115 [some (.ref 66), some (.retAddr set), some (.retAddr k)] [] (ru h g mi go n fe (k / 1024) (k / 1024) e) _
  refine g_aload_n (i := 0) dd_190_115 rfl ?_
  refine g_aload_n (i := 0) dd_190_116 rfl ?_
  refine g_getfield (k := 47) am_ck12 (by decide) (Or.inl w_982) dd_190_117 (ru_g66 hH) rfl ?_
  refine g_iload_n (i := 2) dd_190_120 rfl ?_
  refine g_iaload dd_190_121 (ru_g89 hH) (by omega) (by decide) ?_
  have hl_3 := am_ag_lt e k
  refine g_aload_n (i := 0) dd_190_122 rfl ?_
  refine g_getfield (k := 48) am_ck12 (by decide) (Or.inl w_983) dd_190_123 (ru_g66 hH) rfl ?_
  refine g_icmp_ge_f (t := 138) dd_190_126 (by decide) (by first | exact sk_ge_f (by omega) (by omega) | exact tk_ge_f (by omega)) ?_
  refine g_aload_n (i := 0) dd_190_129 rfl ?_
  refine g_getfield (k := 47) am_ck12 (by decide) (Or.inl w_982) dd_190_130 (ru_g66 hH) rfl ?_
  refine g_iload_n (i := 2) dd_190_133 rfl ?_
  refine g_iaload dd_190_134 (ru_g89 hH) (by omega) (by decide) ?_
  have hl_4 := am_ag_lt e k
  refine g_goto (t := 142) dd_190_135 (by decide) ?_
  refine g_putfield (k := 48) am_ck12 (by decide) (Or.inl w_983) (Or.inl rfl) dd_190_142 (ru_g66 hH) (Nat.le_of_ble_eq_true rfl) trivial ?_
  refine am_heq (ru_u66 hH) ?_
  show am_Good mi_190 145 [some (.ref 66), some (.retAddr set), some (.retAddr k)] [] (ru h g mi go n (am_ag e k) (k / 1024) (k / 1024) e) _
  refine e_iinc (v := 1) (w := k + 1) dd_190_145 rfl ic_1 (am_nlb_ok rfl) (by decide) (by omega) ?_
  refine g_goto (t := 20) dd_190_148 (by decide) ?_
  exact hg
theorem les_nk {h : am_H} {g : Nat → Value} {mi go n x : Nat} (hH : ru_ok h) (a82 : am_get h 82 = some (.inl (0, 256, x))) {ff f : Nat → Nat → Nat} {cl : Nat → Nat} (hx : ∀ s t, s < n → t < mi → am_ag x (64 * s + t) = lc_8 (ff s t)) (h8 : ∀ s t, s < n → t < mi → ff s t ≤ 8) (hff : ∀ s t, s < n → t < mi → f s t = fbt (ff s t)) (hf : ∀ s t, f s t < 256) (cz : ∀ fe so sy e q, q < 256 → am_EG mi_162 [.ref 66, .retAddr q] (ru h g mi go n fe so sy e) (some (.retAddr (cl q)), ru h g mi go n fe so sy e)) (hcl : ∀ q, q < 256 → cl q < 256) (hm1 : 1 ≤ mi) (hm : mi ≤ 60) (hn : n ≤ 4) (hgo : go ≤ 3) {fe so e : Nat} {set : Nat} (hset : set < 256) {k : Nat} {r : am_R} (hk : k < 1024 * (mi + 1)) (hb : am_ag e k ≤ 99) (hv : am_ag e k ≤ 6) (hs : set &&& (cl (k % 256) ^^^ 4294967295) = 0) (hfe : fe ≤ 7) (hc : ¬ am_ag e k < fe) (hg : am_Good mi_190 20 [some (.ref 66), some (.retAddr set), some (.retAddr (k + 1))] [] (ru h g mi go n fe so (k / 1024) e) r) : am_Good mi_190 20 [some (.ref 66), some (.retAddr set), some (.retAddr k)] [] (ru h g mi go n fe so 4294967292 e) r := by
  have sl : set &&& (cl (k % 256) ^^^ 4294967295) < 256 := Nat.lt_of_le_of_lt Nat.and_le_left hset
  refine g_iload_n (i := 2) dd_190_20 rfl ?_
  refine g_sipush dd_190_21 si_1024 ?_
  refine g_aload_n (i := 0) dd_190_24 rfl ?_
  refine g_getfield (k := 0) am_ck12 (by decide) (Or.inl w_935) dd_190_25 (ru_g66 hH) rfl ?_
  refine g_iconst dd_190_28 ic_1 ?_
  refine e_iadd (v := mi + 1) dd_190_29 (by omega) ?_
  refine e_imul (v := 1024 * (mi + 1)) dd_190_30 (by omega) ?_
  refine g_icmp_ge_f (t := 151) dd_190_31 (by decide) (by first | exact sk_ge_f (by omega) (by omega) | exact tk_ge_f (by omega)) ?_
  refine g_aload_n (i := 0) dd_190_34 rfl ?_
  refine g_getfield (k := 47) am_ck12 (by decide) (Or.inl w_982) dd_190_35 (ru_g66 hH) rfl ?_
  refine g_iload_n (i := 2) dd_190_38 rfl ?_
  refine g_iaload dd_190_39 (ru_g89 hH) (by omega) (by decide) ?_
  have hl_1 := am_ag_lt e k
  refine g_bipush dd_190_40 bi_6 ?_
  refine g_icmp_gt_f (t := 145) dd_190_42 (by decide) (by first | exact sk_gt_f (by omega) (by omega) | exact tk_gt_f (by omega)) ?_
  refine g_iload_n (i := 1) dd_190_45 rfl ?_
  refine g_aload_n (i := 0) dd_190_46 rfl ?_
  refine g_iload_n (i := 2) dd_190_47 rfl ?_
  refine g_sipush dd_190_48 si_256 ?_
  refine e_irem (v := k % 256) dd_190_51 ⟨by omega, by decide, by decide, rfl⟩ ?_
  refine g_virtual (M' := mi_162) (n := 1) (ci := 12) (b := 66) (as := [.retAddr (k % 256)]) (st := [.retAddr set]) (r1 := (some (.retAddr (cl (k % 256))), (ru h g mi go n fe so 4294967292 e))) w_1218 w_1220 ps_162 ⟨lk_162.1, lk_162.2.1, lk_162.2.2, by decide, by decide⟩ rfl (ru_g66 hH) rfl (by simp [Value.category]) dd_190_52 (cz _ _ _ _ _ (by omega)) ?_
  show am_Good mi_190 55 [some (.ref 66), some (.retAddr set), some (.retAddr k)] [.retAddr (cl (k % 256)), .retAddr set] (ru h g mi go n fe so 4294967292 e) _
  refine g_iconst dd_190_55 ic_m1 ?_
  refine e_ixor (v := cl (k % 256) ^^^ 4294967295) dd_190_56 rfl ?_
  refine e_iand (v := set &&& (cl (k % 256) ^^^ 4294967295)) dd_190_57 rfl ?_
  refine g_if_ne_f (t := 145) dd_190_58 (by decide) (tk_ne_f (by omega)) ?_
  refine g_aload_n (i := 0) dd_190_61 rfl ?_
  refine g_aload_n (i := 0) dd_190_62 rfl ?_
  refine g_getfield (k := 50) am_ck12 (by decide) (Or.inl w_985) dd_190_63 (ru_g66 hH) rfl ?_
  refine g_bipush dd_190_66 bi_m4 ?_
  refine g_icmp_ne_f (t := 79) dd_190_68 (by decide) (by decide) ?_
  refine g_iload_n (i := 2) dd_190_71 rfl ?_
  refine g_sipush dd_190_72 si_1024 ?_
  refine e_idiv (v := k / 1024) dd_190_75 ⟨by omega, by decide, by decide, rfl⟩ ?_
  refine g_goto (t := 83) dd_190_76 (by decide) ?_
  refine g_putfield (k := 50) am_ck12 (by decide) (Or.inl w_985) (Or.inl rfl) dd_190_83 (ru_g66 hH) (Nat.le_of_ble_eq_true rfl) trivial ?_
  refine am_heq (ru_u66 hH) ?_
  show am_Good mi_190 86 [some (.ref 66), some (.retAddr set), some (.retAddr k)] [] (ru h g mi go n fe so (k / 1024) e) _
  refine g_aload_n (i := 0) dd_190_86 rfl ?_
  refine g_aload_n (i := 0) dd_190_87 rfl ?_
  refine g_getfield (k := 47) am_ck12 (by decide) (Or.inl w_982) dd_190_88 (ru_g66 hH) rfl ?_
  refine g_iload_n (i := 2) dd_190_91 rfl ?_
  refine g_iaload dd_190_92 (ru_g89 hH) (by omega) (by decide) ?_
  have hl_2 := am_ag_lt e k
  refine g_aload_n (i := 0) dd_190_93 rfl ?_
  refine g_getfield (k := 48) am_ck12 (by decide) (Or.inl w_983) dd_190_94 (ru_g66 hH) rfl ?_
  refine g_icmp_ge_t (t := 108) dd_190_97 (by decide) (by first | exact sk_ge_t (by omega) (by omega) | exact tk_ge_t (by omega)) ?_
  refine g_aload_n (i := 0) dd_190_108 rfl ?_
  refine g_getfield (k := 49) am_ck12 (by decide) (Or.inl w_984) dd_190_109 (ru_g66 hH) rfl ?_
  refine g_putfield (k := 49) am_ck12 (by decide) (Or.inl w_984) (Or.inl rfl) dd_190_112 (ru_g66 hH) (Nat.le_of_ble_eq_true rfl) trivial ?_
  refine am_heq (ru_u66 hH) ?_
  show am_Good mi_190 115 [some (.ref 66), some (.retAddr set), some (.retAddr k)] [] (ru h g mi go n fe so (k / 1024) e) _
  refine g_aload_n (i := 0) dd_190_115 rfl ?_
  refine g_aload_n (i := 0) dd_190_116 rfl ?_
  refine g_getfield (k := 47) am_ck12 (by decide) (Or.inl w_982) dd_190_117 (ru_g66 hH) rfl ?_
  refine g_iload_n (i := 2) dd_190_120 rfl ?_
  refine g_iaload dd_190_121 (ru_g89 hH) (by omega) (by decide) ?_
  have hl_3 := am_ag_lt e k
  refine g_aload_n (i := 0) dd_190_122 rfl ?_
  refine g_getfield (k := 48) am_ck12 (by decide) (Or.inl w_983) dd_190_123 (ru_g66 hH) rfl ?_
  refine g_icmp_ge_t (t := 138) dd_190_126 (by decide) (by first | exact sk_ge_t (by omega) (by omega) | exact tk_ge_t (by omega)) ?_
  refine g_aload_n (i := 0) dd_190_138 rfl ?_
  refine g_getfield (k := 48) am_ck12 (by decide) (Or.inl w_983) dd_190_139 (ru_g66 hH) rfl ?_
  refine g_putfield (k := 48) am_ck12 (by decide) (Or.inl w_983) (Or.inl rfl) dd_190_142 (ru_g66 hH) (Nat.le_of_ble_eq_true rfl) trivial ?_
  refine am_heq (ru_u66 hH) ?_
  show am_Good mi_190 145 [some (.ref 66), some (.retAddr set), some (.retAddr k)] [] (ru h g mi go n fe so (k / 1024) e) _
  refine e_iinc (v := 1) (w := k + 1) dd_190_145 rfl ic_1 (am_nlb_ok rfl) (by decide) (by omega) ?_
  refine g_goto (t := 20) dd_190_148 (by decide) ?_
  exact hg
theorem les_sb {h : am_H} {g : Nat → Value} {mi go n x : Nat} (hH : ru_ok h) (a82 : am_get h 82 = some (.inl (0, 256, x))) {ff f : Nat → Nat → Nat} {cl : Nat → Nat} (hx : ∀ s t, s < n → t < mi → am_ag x (64 * s + t) = lc_8 (ff s t)) (h8 : ∀ s t, s < n → t < mi → ff s t ≤ 8) (hff : ∀ s t, s < n → t < mi → f s t = fbt (ff s t)) (hf : ∀ s t, f s t < 256) (cz : ∀ fe so sy e q, q < 256 → am_EG mi_162 [.ref 66, .retAddr q] (ru h g mi go n fe so sy e) (some (.retAddr (cl q)), ru h g mi go n fe so sy e)) (hcl : ∀ q, q < 256 → cl q < 256) (hm1 : 1 ≤ mi) (hm : mi ≤ 60) (hn : n ≤ 4) (hgo : go ≤ 3) {fe so sy e : Nat} {set : Nat} (hset : set < 256) {k : Nat} {r : am_R} (hk : k < 1024 * (mi + 1)) (hb : am_ag e k ≤ 99) (hv : am_ag e k ≤ 6) (hs : set &&& (cl (k % 256) ^^^ 4294967295) = 0) (hfe : fe ≤ 7) (h1 : sy ≠ 4294967292) (g_y : sy < 4294967296) (hc : am_ag e k < fe) (hg : am_Good mi_190 20 [some (.ref 66), some (.retAddr set), some (.retAddr (k + 1))] [] (ru h g mi go n (am_ag e k) (k / 1024) sy e) r) : am_Good mi_190 20 [some (.ref 66), some (.retAddr set), some (.retAddr k)] [] (ru h g mi go n fe so sy e) r := by
  have sl : set &&& (cl (k % 256) ^^^ 4294967295) < 256 := Nat.lt_of_le_of_lt Nat.and_le_left hset
  refine g_iload_n (i := 2) dd_190_20 rfl ?_
  refine g_sipush dd_190_21 si_1024 ?_
  refine g_aload_n (i := 0) dd_190_24 rfl ?_
  refine g_getfield (k := 0) am_ck12 (by decide) (Or.inl w_935) dd_190_25 (ru_g66 hH) rfl ?_
  refine g_iconst dd_190_28 ic_1 ?_
  refine e_iadd (v := mi + 1) dd_190_29 (by omega) ?_
  refine e_imul (v := 1024 * (mi + 1)) dd_190_30 (by omega) ?_
  refine g_icmp_ge_f (t := 151) dd_190_31 (by decide) (by first | exact sk_ge_f (by omega) (by omega) | exact tk_ge_f (by omega)) ?_
  refine g_aload_n (i := 0) dd_190_34 rfl ?_
  refine g_getfield (k := 47) am_ck12 (by decide) (Or.inl w_982) dd_190_35 (ru_g66 hH) rfl ?_
  refine g_iload_n (i := 2) dd_190_38 rfl ?_
  refine g_iaload dd_190_39 (ru_g89 hH) (by omega) (by decide) ?_
  have hl_1 := am_ag_lt e k
  refine g_bipush dd_190_40 bi_6 ?_
  refine g_icmp_gt_f (t := 145) dd_190_42 (by decide) (by first | exact sk_gt_f (by omega) (by omega) | exact tk_gt_f (by omega)) ?_
  refine g_iload_n (i := 1) dd_190_45 rfl ?_
  refine g_aload_n (i := 0) dd_190_46 rfl ?_
  refine g_iload_n (i := 2) dd_190_47 rfl ?_
  refine g_sipush dd_190_48 si_256 ?_
  refine e_irem (v := k % 256) dd_190_51 ⟨by omega, by decide, by decide, rfl⟩ ?_
  refine g_virtual (M' := mi_162) (n := 1) (ci := 12) (b := 66) (as := [.retAddr (k % 256)]) (st := [.retAddr set]) (r1 := (some (.retAddr (cl (k % 256))), (ru h g mi go n fe so sy e))) w_1218 w_1220 ps_162 ⟨lk_162.1, lk_162.2.1, lk_162.2.2, by decide, by decide⟩ rfl (ru_g66 hH) rfl (by simp [Value.category]) dd_190_52 (cz _ _ _ _ _ (by omega)) ?_
  show am_Good mi_190 55 [some (.ref 66), some (.retAddr set), some (.retAddr k)] [.retAddr (cl (k % 256)), .retAddr set] (ru h g mi go n fe so sy e) _
  refine g_iconst dd_190_55 ic_m1 ?_
  refine e_ixor (v := cl (k % 256) ^^^ 4294967295) dd_190_56 rfl ?_
  refine e_iand (v := set &&& (cl (k % 256) ^^^ 4294967295)) dd_190_57 rfl ?_
  refine g_if_ne_f (t := 145) dd_190_58 (by decide) (tk_ne_f (by omega)) ?_
  refine g_aload_n (i := 0) dd_190_61 rfl ?_
  refine g_aload_n (i := 0) dd_190_62 rfl ?_
  refine g_getfield (k := 50) am_ck12 (by decide) (Or.inl w_985) dd_190_63 (ru_g66 hH) rfl ?_
  refine g_bipush dd_190_66 bi_m4 ?_
  refine g_icmp_ne_t (t := 79) dd_190_68 (by decide) (tk_ne_t (by omega)) ?_
  refine g_aload_n (i := 0) dd_190_79 rfl ?_
  refine g_getfield (k := 50) am_ck12 (by decide) (Or.inl w_985) dd_190_80 (ru_g66 hH) rfl ?_
  refine g_putfield (k := 50) am_ck12 (by decide) (Or.inl w_985) (Or.inl rfl) dd_190_83 (ru_g66 hH) (Nat.le_of_ble_eq_true rfl) trivial ?_
  refine am_heq (ru_u66 hH) ?_
  show am_Good mi_190 86 [some (.ref 66), some (.retAddr set), some (.retAddr k)] [] (ru h g mi go n fe so sy e) _
  refine g_aload_n (i := 0) dd_190_86 rfl ?_
  refine g_aload_n (i := 0) dd_190_87 rfl ?_
  refine g_getfield (k := 47) am_ck12 (by decide) (Or.inl w_982) dd_190_88 (ru_g66 hH) rfl ?_
  refine g_iload_n (i := 2) dd_190_91 rfl ?_
  refine g_iaload dd_190_92 (ru_g89 hH) (by omega) (by decide) ?_
  have hl_2 := am_ag_lt e k
  refine g_aload_n (i := 0) dd_190_93 rfl ?_
  refine g_getfield (k := 48) am_ck12 (by decide) (Or.inl w_983) dd_190_94 (ru_g66 hH) rfl ?_
  refine g_icmp_ge_f (t := 108) dd_190_97 (by decide) (by first | exact sk_ge_f (by omega) (by omega) | exact tk_ge_f (by omega)) ?_
  refine g_iload_n (i := 2) dd_190_100 rfl ?_
  refine g_sipush dd_190_101 si_1024 ?_
  refine e_idiv (v := k / 1024) dd_190_104 ⟨by omega, by decide, by decide, rfl⟩ ?_
  refine g_goto (t := 112) dd_190_105 (by decide) ?_
  refine g_putfield (k := 49) am_ck12 (by decide) (Or.inl w_984) (Or.inl rfl) dd_190_112 (ru_g66 hH) (Nat.le_of_ble_eq_true rfl) trivial ?_
  refine am_heq (ru_u66 hH) ?_
  show am_Good mi_190 115 [some (.ref 66), some (.retAddr set), some (.retAddr k)] [] (ru h g mi go n fe (k / 1024) sy e) _
  refine g_aload_n (i := 0) dd_190_115 rfl ?_
  refine g_aload_n (i := 0) dd_190_116 rfl ?_
  refine g_getfield (k := 47) am_ck12 (by decide) (Or.inl w_982) dd_190_117 (ru_g66 hH) rfl ?_
  refine g_iload_n (i := 2) dd_190_120 rfl ?_
  refine g_iaload dd_190_121 (ru_g89 hH) (by omega) (by decide) ?_
  have hl_3 := am_ag_lt e k
  refine g_aload_n (i := 0) dd_190_122 rfl ?_
  refine g_getfield (k := 48) am_ck12 (by decide) (Or.inl w_983) dd_190_123 (ru_g66 hH) rfl ?_
  refine g_icmp_ge_f (t := 138) dd_190_126 (by decide) (by first | exact sk_ge_f (by omega) (by omega) | exact tk_ge_f (by omega)) ?_
  refine g_aload_n (i := 0) dd_190_129 rfl ?_
  refine g_getfield (k := 47) am_ck12 (by decide) (Or.inl w_982) dd_190_130 (ru_g66 hH) rfl ?_
  refine g_iload_n (i := 2) dd_190_133 rfl ?_
  refine g_iaload dd_190_134 (ru_g89 hH) (by omega) (by decide) ?_
  have hl_4 := am_ag_lt e k
  refine g_goto (t := 142) dd_190_135 (by decide) ?_
  refine g_putfield (k := 48) am_ck12 (by decide) (Or.inl w_983) (Or.inl rfl) dd_190_142 (ru_g66 hH) (Nat.le_of_ble_eq_true rfl) trivial ?_
  refine am_heq (ru_u66 hH) ?_
  show am_Good mi_190 145 [some (.ref 66), some (.retAddr set), some (.retAddr k)] [] (ru h g mi go n (am_ag e k) (k / 1024) sy e) _
  refine e_iinc (v := 1) (w := k + 1) dd_190_145 rfl ic_1 (am_nlb_ok rfl) (by decide) (by omega) ?_
  refine g_goto (t := 20) dd_190_148 (by decide) ?_
  exact hg
theorem les_sk {h : am_H} {g : Nat → Value} {mi go n x : Nat} (hH : ru_ok h) (a82 : am_get h 82 = some (.inl (0, 256, x))) {ff f : Nat → Nat → Nat} {cl : Nat → Nat} (hx : ∀ s t, s < n → t < mi → am_ag x (64 * s + t) = lc_8 (ff s t)) (h8 : ∀ s t, s < n → t < mi → ff s t ≤ 8) (hff : ∀ s t, s < n → t < mi → f s t = fbt (ff s t)) (hf : ∀ s t, f s t < 256) (cz : ∀ fe so sy e q, q < 256 → am_EG mi_162 [.ref 66, .retAddr q] (ru h g mi go n fe so sy e) (some (.retAddr (cl q)), ru h g mi go n fe so sy e)) (hcl : ∀ q, q < 256 → cl q < 256) (hm1 : 1 ≤ mi) (hm : mi ≤ 60) (hn : n ≤ 4) (hgo : go ≤ 3) {fe so sy e : Nat} {set : Nat} (hset : set < 256) {k : Nat} {r : am_R} (hk : k < 1024 * (mi + 1)) (hb : am_ag e k ≤ 99) (hv : am_ag e k ≤ 6) (hs : set &&& (cl (k % 256) ^^^ 4294967295) = 0) (hfe : fe ≤ 7) (h1 : sy ≠ 4294967292) (g_y : sy < 4294967296) (hc : ¬ am_ag e k < fe) (hg : am_Good mi_190 20 [some (.ref 66), some (.retAddr set), some (.retAddr (k + 1))] [] (ru h g mi go n fe so sy e) r) : am_Good mi_190 20 [some (.ref 66), some (.retAddr set), some (.retAddr k)] [] (ru h g mi go n fe so sy e) r := by
  have sl : set &&& (cl (k % 256) ^^^ 4294967295) < 256 := Nat.lt_of_le_of_lt Nat.and_le_left hset
  refine g_iload_n (i := 2) dd_190_20 rfl ?_
  refine g_sipush dd_190_21 si_1024 ?_
  refine g_aload_n (i := 0) dd_190_24 rfl ?_
  refine g_getfield (k := 0) am_ck12 (by decide) (Or.inl w_935) dd_190_25 (ru_g66 hH) rfl ?_
  refine g_iconst dd_190_28 ic_1 ?_
  refine e_iadd (v := mi + 1) dd_190_29 (by omega) ?_
  refine e_imul (v := 1024 * (mi + 1)) dd_190_30 (by omega) ?_
  refine g_icmp_ge_f (t := 151) dd_190_31 (by decide) (by first | exact sk_ge_f (by omega) (by omega) | exact tk_ge_f (by omega)) ?_
  refine g_aload_n (i := 0) dd_190_34 rfl ?_
  refine g_getfield (k := 47) am_ck12 (by decide) (Or.inl w_982) dd_190_35 (ru_g66 hH) rfl ?_
  refine g_iload_n (i := 2) dd_190_38 rfl ?_
  refine g_iaload dd_190_39 (ru_g89 hH) (by omega) (by decide) ?_
  have hl_1 := am_ag_lt e k
  refine g_bipush dd_190_40 bi_6 ?_
  refine g_icmp_gt_f (t := 145) dd_190_42 (by decide) (by first | exact sk_gt_f (by omega) (by omega) | exact tk_gt_f (by omega)) ?_
  refine g_iload_n (i := 1) dd_190_45 rfl ?_
  refine g_aload_n (i := 0) dd_190_46 rfl ?_
  refine g_iload_n (i := 2) dd_190_47 rfl ?_
  refine g_sipush dd_190_48 si_256 ?_
  refine e_irem (v := k % 256) dd_190_51 ⟨by omega, by decide, by decide, rfl⟩ ?_
  refine g_virtual (M' := mi_162) (n := 1) (ci := 12) (b := 66) (as := [.retAddr (k % 256)]) (st := [.retAddr set]) (r1 := (some (.retAddr (cl (k % 256))), (ru h g mi go n fe so sy e))) w_1218 w_1220 ps_162 ⟨lk_162.1, lk_162.2.1, lk_162.2.2, by decide, by decide⟩ rfl (ru_g66 hH) rfl (by simp [Value.category]) dd_190_52 (cz _ _ _ _ _ (by omega)) ?_
  show am_Good mi_190 55 [some (.ref 66), some (.retAddr set), some (.retAddr k)] [.retAddr (cl (k % 256)), .retAddr set] (ru h g mi go n fe so sy e) _
  refine g_iconst dd_190_55 ic_m1 ?_
  refine e_ixor (v := cl (k % 256) ^^^ 4294967295) dd_190_56 rfl ?_
  refine e_iand (v := set &&& (cl (k % 256) ^^^ 4294967295)) dd_190_57 rfl ?_
  refine g_if_ne_f (t := 145) dd_190_58 (by decide) (tk_ne_f (by omega)) ?_
  refine g_aload_n (i := 0) dd_190_61 rfl ?_
  refine g_aload_n (i := 0) dd_190_62 rfl ?_
  refine g_getfield (k := 50) am_ck12 (by decide) (Or.inl w_985) dd_190_63 (ru_g66 hH) rfl ?_
  refine g_bipush dd_190_66 bi_m4 ?_
  refine g_icmp_ne_t (t := 79) dd_190_68 (by decide) (tk_ne_t (by omega)) ?_
  refine g_aload_n (i := 0) dd_190_79 rfl ?_
  refine g_getfield (k := 50) am_ck12 (by decide) (Or.inl w_985) dd_190_80 (ru_g66 hH) rfl ?_
  refine g_putfield (k := 50) am_ck12 (by decide) (Or.inl w_985) (Or.inl rfl) dd_190_83 (ru_g66 hH) (Nat.le_of_ble_eq_true rfl) trivial ?_
  refine am_heq (ru_u66 hH) ?_
  show am_Good mi_190 86 [some (.ref 66), some (.retAddr set), some (.retAddr k)] [] (ru h g mi go n fe so sy e) _
  refine g_aload_n (i := 0) dd_190_86 rfl ?_
  refine g_aload_n (i := 0) dd_190_87 rfl ?_
  refine g_getfield (k := 47) am_ck12 (by decide) (Or.inl w_982) dd_190_88 (ru_g66 hH) rfl ?_
  refine g_iload_n (i := 2) dd_190_91 rfl ?_
  refine g_iaload dd_190_92 (ru_g89 hH) (by omega) (by decide) ?_
  have hl_2 := am_ag_lt e k
  refine g_aload_n (i := 0) dd_190_93 rfl ?_
  refine g_getfield (k := 48) am_ck12 (by decide) (Or.inl w_983) dd_190_94 (ru_g66 hH) rfl ?_
  refine g_icmp_ge_t (t := 108) dd_190_97 (by decide) (by first | exact sk_ge_t (by omega) (by omega) | exact tk_ge_t (by omega)) ?_
  refine g_aload_n (i := 0) dd_190_108 rfl ?_
  refine g_getfield (k := 49) am_ck12 (by decide) (Or.inl w_984) dd_190_109 (ru_g66 hH) rfl ?_
  refine g_putfield (k := 49) am_ck12 (by decide) (Or.inl w_984) (Or.inl rfl) dd_190_112 (ru_g66 hH) (Nat.le_of_ble_eq_true rfl) trivial ?_
  refine am_heq (ru_u66 hH) ?_
  show am_Good mi_190 115 [some (.ref 66), some (.retAddr set), some (.retAddr k)] [] (ru h g mi go n fe so sy e) _
  refine g_aload_n (i := 0) dd_190_115 rfl ?_
  refine g_aload_n (i := 0) dd_190_116 rfl ?_
  refine g_getfield (k := 47) am_ck12 (by decide) (Or.inl w_982) dd_190_117 (ru_g66 hH) rfl ?_
  refine g_iload_n (i := 2) dd_190_120 rfl ?_
  refine g_iaload dd_190_121 (ru_g89 hH) (by omega) (by decide) ?_
  have hl_3 := am_ag_lt e k
  refine g_aload_n (i := 0) dd_190_122 rfl ?_
  refine g_getfield (k := 48) am_ck12 (by decide) (Or.inl w_983) dd_190_123 (ru_g66 hH) rfl ?_
  refine g_icmp_ge_t (t := 138) dd_190_126 (by decide) (by first | exact sk_ge_t (by omega) (by omega) | exact tk_ge_t (by omega)) ?_
  refine g_aload_n (i := 0) dd_190_138 rfl ?_
  refine g_getfield (k := 48) am_ck12 (by decide) (Or.inl w_983) dd_190_139 (ru_g66 hH) rfl ?_
  refine g_putfield (k := 48) am_ck12 (by decide) (Or.inl w_983) (Or.inl rfl) dd_190_142 (ru_g66 hH) (Nat.le_of_ble_eq_true rfl) trivial ?_
  refine am_heq (ru_u66 hH) ?_
  show am_Good mi_190 145 [some (.ref 66), some (.retAddr set), some (.retAddr k)] [] (ru h g mi go n fe so sy e) _
  refine e_iinc (v := 1) (w := k + 1) dd_190_145 rfl ic_1 (am_nlb_ok rfl) (by decide) (by omega) ?_
  refine g_goto (t := 20) dd_190_148 (by decide) ?_
  exact hg
theorem lez_I {T : Nat → Nat} {cl : Nat → Nat} {set : Nat} : ∀ k, k ≤ 62464 → (lz_ff T cl set k).1 ≤ 7 ∧ (lz_ff T cl set k).2.2 < 4294967296
  | 0, _ => ⟨Nat.le_refl _, by show 4294967292 < 4294967296; decide⟩
  | k + 1, hk => by
    obtain ⟨a, b⟩ := lez_I (T := T) (cl := cl) (set := set) k (by omega)
    have e : lz_ff T cl set (k + 1) = if T k ≤ 6 ∧ cl (k % 256) &&& set = set then (if T k < (lz_ff T cl set k).1 then T k else (lz_ff T cl set k).1, if T k < (lz_ff T cl set k).1 then k / 1024 else (lz_ff T cl set k).2.1, if (lz_ff T cl set k).2.2 = 4294967292 then k / 1024 else (lz_ff T cl set k).2.2) else lz_ff T cl set k := rfl
    rw [e]
    by_cases c : T k ≤ 6 ∧ cl (k % 256) &&& set = set
    · rw [if_pos c]
      dsimp only
      refine ⟨?_, ?_⟩
      · by_cases q : T k < (lz_ff T cl set k).1
        · rw [if_pos q]; omega
        · rw [if_neg q]; exact a
      · by_cases q : (lz_ff T cl set k).2.2 = 4294967292
        · rw [if_pos q]; omega
        · rw [if_neg q]; exact b
    · rw [if_neg c]; exact ⟨a, b⟩
theorem les_l {h : am_H} {g : Nat → Value} {mi go n x : Nat} (hH : ru_ok h) (a82 : am_get h 82 = some (.inl (0, 256, x))) {ff f : Nat → Nat → Nat} {cl : Nat → Nat} (hx : ∀ s t, s < n → t < mi → am_ag x (64 * s + t) = lc_8 (ff s t)) (h8 : ∀ s t, s < n → t < mi → ff s t ≤ 8) (hff : ∀ s t, s < n → t < mi → f s t = fbt (ff s t)) (hf : ∀ s t, f s t < 256) (cz : ∀ fe so sy e q, q < 256 → am_EG mi_162 [.ref 66, .retAddr q] (ru h g mi go n fe so sy e) (some (.retAddr (cl q)), ru h g mi go n fe so sy e)) (hcl : ∀ q, q < 256 → cl q < 256) (hm1 : 1 ≤ mi) (hm : mi ≤ 60) (hn : n ≤ 4) (hgo : go ≤ 3) {e : Nat} {set : Nat} (hset : set < 256) {T : Nat → Nat} (hT : ∀ i, i < 62464 → am_ag e i = T i) (h9 : ∀ i, T i ≤ 99) : ∀ (d k : Nat), k + d = 1024 * (mi + 1) → am_Good mi_190 20 [some (.ref 66), some (.retAddr set), some (.retAddr k)] [] (ru h g mi go n (lz_ff T cl set k).1 (lz_ff T cl set k).2.1 (lz_ff T cl set k).2.2 e) (none, (ru h g mi go n (lz_ff T cl set (1024 * (mi + 1))).1 (lz_ff T cl set (1024 * (mi + 1))).2.1 (lz_ff T cl set (1024 * (mi + 1))).2.2 e))
  | 0, k, eq => by
    have e' : k = 1024 * (mi + 1) := by omega
    subst e'
    exact les_e hH a82 hx h8 hff hf cz hcl hm1 hm hn hgo hset
  | d + 1, k, eq => by
    have q := les_l hH a82 hx h8 hff hf cz hcl hm1 hm hn hgo hset hT h9 d (k + 1) (by omega)
    have hk : k < 1024 * (mi + 1) := by omega
    have ev := hT k (by omega)
    have hb : am_ag e k ≤ 99 := by rw [ev]; exact h9 k
    obtain ⟨i1, i2⟩ := lez_I (T := T) (cl := cl) (set := set) k (by omega)
    have es : lz_ff T cl set (k + 1) = if T k ≤ 6 ∧ cl (k % 256) &&& set = set then (if T k < (lz_ff T cl set k).1 then T k else (lz_ff T cl set k).1, if T k < (lz_ff T cl set k).1 then k / 1024 else (lz_ff T cl set k).2.1, if (lz_ff T cl set k).2.2 = 4294967292 then k / 1024 else (lz_ff T cl set k).2.2) else lz_ff T cl set k := rfl
    have hs := ak_not (hcl (k % 256) (by omega)) hset
    rw [es] at q
    generalize lz_ff T cl set k = p at q i1 i2 ⊢
    obtain ⟨fe, so, sy⟩ := p
    dsimp only at q i1 i2 ⊢
    by_cases hv : T k ≤ 6
    · by_cases hsat : cl (k % 256) &&& set = set
      · rw [if_pos ⟨hv, hsat⟩] at q
        dsimp only at q
        have h0 := hs.mpr hsat
        rw [← ev] at q
        by_cases c1 : sy = 4294967292
        · rw [if_pos c1] at q
          subst c1
          by_cases c2 : am_ag e k < fe
          · rw [if_pos c2, if_pos c2] at q
            exact les_nb hH a82 hx h8 hff hf cz hcl hm1 hm hn hgo hset hk hb (by omega) h0 i1 c2 q
          · rw [if_neg c2, if_neg c2] at q
            exact les_nk hH a82 hx h8 hff hf cz hcl hm1 hm hn hgo hset hk hb (by omega) h0 i1 c2 q
        · rw [if_neg c1] at q
          by_cases c2 : am_ag e k < fe
          · rw [if_pos c2, if_pos c2] at q
            exact les_sb hH a82 hx h8 hff hf cz hcl hm1 hm hn hgo hset hk hb (by omega) h0 i1 c1 i2 c2 q
          · rw [if_neg c2, if_neg c2] at q
            exact les_sk hH a82 hx h8 hff hf cz hcl hm1 hm hn hgo hset hk hb (by omega) h0 i1 c1 i2 c2 q
      · rw [if_neg (fun z => hsat z.2)] at q
        exact les_u hH a82 hx h8 hff hf cz hcl hm1 hm hn hgo hset hk hb (by omega) (fun z => hsat (hs.mp z)) q
    · rw [if_neg (fun z => hv z.1)] at q
      exact les_n hH a82 hx h8 hff hf cz hcl hm1 hm hn hgo hset hk hb (by omega) q
theorem les_m {h : am_H} {g : Nat → Value} {mi go n x : Nat} (hH : ru_ok h) (a82 : am_get h 82 = some (.inl (0, 256, x))) {ff f : Nat → Nat → Nat} {cl : Nat → Nat} (hx : ∀ s t, s < n → t < mi → am_ag x (64 * s + t) = lc_8 (ff s t)) (h8 : ∀ s t, s < n → t < mi → ff s t ≤ 8) (hff : ∀ s t, s < n → t < mi → f s t = fbt (ff s t)) (hf : ∀ s t, f s t < 256) (cz : ∀ fe so sy e q, q < 256 → am_EG mi_162 [.ref 66, .retAddr q] (ru h g mi go n fe so sy e) (some (.retAddr (cl q)), ru h g mi go n fe so sy e)) (hcl : ∀ q, q < 256 → cl q < 256) (hm1 : 1 ≤ mi) (hm : mi ≤ 60) (hn : n ≤ 4) (hgo : go ≤ 3) {fe so sy e : Nat} {set : Nat} (hset : set < 256) {T : Nat → Nat} (hT : ∀ i, i < 62464 → am_ag e i = T i) (h9 : ∀ i, T i ≤ 99) : am_EG mi_190 [.ref 66, .retAddr set] (ru h g mi go n fe so sy e) (none, (ru h g mi go n (lz_ff T cl set (1024 * (mi + 1))).1 (lz_ff T cl set (1024 * (mi + 1))).2.1 (lz_ff T cl set (1024 * (mi + 1))).2.2 e)) := les_p hH a82 hx h8 hff hf cz hcl hm1 hm hn hgo hset (les_l hH a82 hx h8 hff hf cz hcl hm1 hm hn hgo hset hT h9 (1024 * (mi + 1)) 0 (by omega))
