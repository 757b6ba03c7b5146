/-! ===== the class: a walk by kind ===== -/
def xw (h : am_H)  (W F B he fr wo se gn pl : Nat) : am_H := am_ups h [(37, .inl (0, 240, W)), (38, .inl (0, 240, F)), (39, .inl (0, 240, B)), (40, .inr (10, [.ref 41, .ref 42, .retAddr he, .retAddr fr, .retAddr wo, .retAddr se, .retAddr gn])), (41, .inl (0, 60, pl))]
def xw_ok (h : am_H) : Prop := am_ke h [37, 38, 39, 40, 41]
theorem xw_g37 {h : am_H}  {W F B he fr wo se gn pl : Nat} (hH : xw_ok h) : am_get (xw h  W F B he fr wo se gn pl) 37 = some (.inl (0, 240, W)) := am_ups_g hH rfl
theorem xw_u37 {h : am_H}  {W F B he fr wo se gn pl : Nat} (hH : xw_ok h) {W' : Nat} : am_upd (xw h  W F B he fr wo se gn pl) 37 (.inl (0, 240, W')) = (xw h  W' F B he fr wo se gn pl) := by
  unfold xw
  refine am_upd_ups ?_ ⟨rfl, rfl⟩
  exact hH
theorem xw_g38 {h : am_H}  {W F B he fr wo se gn pl : Nat} (hH : xw_ok h) : am_get (xw h  W F B he fr wo se gn pl) 38 = some (.inl (0, 240, F)) := am_ups_g hH rfl
theorem xw_u38 {h : am_H}  {W F B he fr wo se gn pl : Nat} (hH : xw_ok h) {F' : Nat} : am_upd (xw h  W F B he fr wo se gn pl) 38 (.inl (0, 240, F')) = (xw h  W F' B he fr wo se gn pl) := by
  unfold xw
  refine am_upd_ups ?_ ⟨rfl, rfl⟩
  exact hH
theorem xw_g39 {h : am_H}  {W F B he fr wo se gn pl : Nat} (hH : xw_ok h) : am_get (xw h  W F B he fr wo se gn pl) 39 = some (.inl (0, 240, B)) := am_ups_g hH rfl
theorem xw_u39 {h : am_H}  {W F B he fr wo se gn pl : Nat} (hH : xw_ok h) {B' : Nat} : am_upd (xw h  W F B he fr wo se gn pl) 39 (.inl (0, 240, B')) = (xw h  W F B' he fr wo se gn pl) := by
  unfold xw
  refine am_upd_ups ?_ ⟨rfl, rfl⟩
  exact hH
theorem xw_g40 {h : am_H}  {W F B he fr wo se gn pl : Nat} (hH : xw_ok h) : am_get (xw h  W F B he fr wo se gn pl) 40 = some (.inr (10, [.ref 41, .ref 42, .retAddr he, .retAddr fr, .retAddr wo, .retAddr se, .retAddr gn])) := am_ups_g hH rfl
theorem xw_u40 {h : am_H}  {W F B he fr wo se gn pl : Nat} (hH : xw_ok h) {he' fr' wo' se' gn' : Nat} : am_upd (xw h  W F B he fr wo se gn pl) 40 (.inr (10, [.ref 41, .ref 42, .retAddr he', .retAddr fr', .retAddr wo', .retAddr se', .retAddr gn'])) = (xw h  W F B he' fr' wo' se' gn' pl) := by
  unfold xw
  refine am_upd_ups ?_ ⟨rfl, rfl⟩
  exact hH
theorem xw_g41 {h : am_H}  {W F B he fr wo se gn pl : Nat} (hH : xw_ok h) : am_get (xw h  W F B he fr wo se gn pl) 41 = some (.inl (0, 60, pl)) := am_ups_g hH rfl
theorem xw_u41 {h : am_H}  {W F B he fr wo se gn pl : Nat} (hH : xw_ok h) {pl' : Nat} : am_upd (xw h  W F B he fr wo se gn pl) 41 (.inl (0, 60, pl')) = (xw h  W F B he fr wo se gn pl') := by
  unfold xw
  refine am_upd_ups ?_ ⟨rfl, rfl⟩
  exact hH
theorem xw_o {h : am_H}  {W F B he fr wo se gn pl : Nat} (hH : xw_ok h) {a : Nat} (ha : am_lk [(37, am_e0), (38, am_e0), (39, am_e0), (40, am_e0), (41, am_e0)] a = none) : am_get (xw h  W F B he fr wo se gn pl) a = am_get h a := by
  unfold xw
  refine am_ups_n ?_ ?_
  · exact hH
  · exact (am_lk_k (by rfl)).mp ha
theorem wu_0 {h : am_H} {W F B n mi go : Nat} (hH : xw_ok h) {q : Nat} {vq : List Value} {fw ff : Nat → Nat → Nat} {fb : Nat → Nat → Bool} (qS : ∀ he fr wo se gn pl, am_get (xw h W F B he fr wo se gn pl) q = some (.inr (9, vq))) (cw : ∀ he fr wo se gn pl, ∀ s t, s < n → t < mi → am_EG mi_41 [.ref q, .retAddr s, .retAddr t] (xw h W F B he fr wo se gn pl) (some (.retAddr (fw s t)), xw h W F B he fr wo se gn pl)) (ck : ∀ he fr wo se gn pl, ∀ s t, s < n → t < mi → am_EG mi_68 [.ref q, .retAddr s, .retAddr t] (xw h W F B he fr wo se gn pl) (some (.retAddr (fbt (ff s t))), xw h W F B he fr wo se gn pl)) (c1 : ∀ he fr wo se gn pl, ∀ s t, s < n → t < mi → fb s t = true → am_EG mi_53 [.ref q, .retAddr s, .retAddr t] (xw h W F B he fr wo se gn pl) (some (.retAddr 1), xw h W F B he fr wo se gn pl)) (c0 : ∀ he fr wo se gn pl, ∀ s t, s < n → t < mi → ¬ fb s t = true → am_EG mi_53 [.ref q, .retAddr s, .retAddr t] (xw h W F B he fr wo se gn pl) (some (.retAddr 0), xw h W F B he fr wo se gn pl)) (hn : n ≤ 4) (hm : mi ≤ 60) (hgo : go ≤ 3) (h99 : ∀ s t, s < n → t < mi → fw s t ≤ 99) (h8 : ∀ s t, fbt (ff s t) < 256) {he fr wo se gn pl : Nat} {t s : Nat} : am_Good mi_73 9 [some (.ref 40), some (.ref q), some (.retAddr n), some (.retAddr t), some (.retAddr s), some (.retAddr n)] [] (xw h W F B he fr wo se gn pl) (some (.retAddr he), (xw h W F B he fr wo se gn pl)) := by
  refine g_iload dd_73_9 rfl ?_
  refine g_iload_n (i := 2) dd_73_11 rfl ?_
  refine g_icmp_ge_t (t := 52) dd_73_12 (by decide) (by first | exact sk_ge_t (by omega) (by omega) | exact tk_ge_t (by omega)) ?_
  refine g_aload_n (i := 0) dd_73_52 rfl ?_
  refine g_getfield (k := 2) am_ck10 (by decide) (Or.inl w_171) dd_73_53 (xw_g40 hH) rfl ?_
  exact g_ireturn rfl dd_73_56
theorem wu_1a {h : am_H} {W F B n mi go : Nat} (hH : xw_ok h) {q : Nat} {vq : List Value} {fw ff : Nat → Nat → Nat} {fb : Nat → Nat → Bool} (qS : ∀ he fr wo se gn pl, am_get (xw h W F B he fr wo se gn pl) q = some (.inr (9, vq))) (cw : ∀ he fr wo se gn pl, ∀ s t, s < n → t < mi → am_EG mi_41 [.ref q, .retAddr s, .retAddr t] (xw h W F B he fr wo se gn pl) (some (.retAddr (fw s t)), xw h W F B he fr wo se gn pl)) (ck : ∀ he fr wo se gn pl, ∀ s t, s < n → t < mi → am_EG mi_68 [.ref q, .retAddr s, .retAddr t] (xw h W F B he fr wo se gn pl) (some (.retAddr (fbt (ff s t))), xw h W F B he fr wo se gn pl)) (c1 : ∀ he fr wo se gn pl, ∀ s t, s < n → t < mi → fb s t = true → am_EG mi_53 [.ref q, .retAddr s, .retAddr t] (xw h W F B he fr wo se gn pl) (some (.retAddr 1), xw h W F B he fr wo se gn pl)) (c0 : ∀ he fr wo se gn pl, ∀ s t, s < n → t < mi → ¬ fb s t = true → am_EG mi_53 [.ref q, .retAddr s, .retAddr t] (xw h W F B he fr wo se gn pl) (some (.retAddr 0), xw h W F B he fr wo se gn pl)) (hn : n ≤ 4) (hm : mi ≤ 60) (hgo : go ≤ 3) (h99 : ∀ s t, s < n → t < mi → fw s t ≤ 99) (h8 : ∀ s t, fbt (ff s t) < 256) {he fr wo se gn pl : Nat} {r : am_R} {t s k : Nat} (hk : k < n) (hs : s < n) (ht : t < mi) (hb : fb s t = true) (hs2 : s + 1 < n) (hg : am_Good mi_73 9 [some (.ref 40), some (.ref q), some (.retAddr n), some (.retAddr t), some (.retAddr (s + 1)), some (.retAddr (k + 1))] [] (xw h W F B he fr wo se gn pl) r) : am_Good mi_73 9 [some (.ref 40), some (.ref q), some (.retAddr n), some (.retAddr t), some (.retAddr s), some (.retAddr k)] [] (xw h W F B he fr wo se gn pl) r := by
  refine g_iload dd_73_9 rfl ?_
  refine g_iload_n (i := 2) dd_73_11 rfl ?_
  refine g_icmp_ge_f (t := 52) dd_73_12 (by decide) (by first | exact sk_ge_f (by omega) (by omega) | exact tk_ge_f (by omega)) ?_
  refine g_aload_n (i := 1) dd_73_15 rfl ?_
  refine g_iload dd_73_16 rfl ?_
  refine g_iload_n (i := 3) dd_73_18 rfl ?_
  refine g_virtual (M' := mi_53) (n := 2) (ci := 9) (b := q) (as := [.retAddr s, .retAddr t]) (st := []) (r1 := (some (.retAddr 1), (xw h W F B he fr wo se gn pl))) w_679 w_594 w_595 ⟨lk_53.1, lk_53.2.1, lk_53.2.2, by decide, by decide⟩ rfl (qS _ _ _ _ _ _) rfl (by simp [Value.category]) dd_73_19 (c1 _ _ _ _ _ _ _ _ (by omega) (by omega) hb) ?_
  show am_Good mi_73 22 [some (.ref 40), some (.ref q), some (.retAddr n), some (.retAddr t), some (.retAddr s), some (.retAddr k)] [.retAddr 1] (xw h W F B he fr wo se gn pl) _
  refine g_if_ne_t (t := 28) dd_73_22 (by decide) (by decide) ?_
  refine g_iload dd_73_28 rfl ?_
  refine g_iconst dd_73_30 ic_1 ?_
  refine e_iadd (v := s + 1) dd_73_31 (by omega) ?_
  refine g_iload_n (i := 2) dd_73_32 rfl ?_
  refine g_icmp_ge_f (t := 43) dd_73_33 (by decide) (by first | exact sk_ge_f (by omega) (by omega) | exact tk_ge_f (by omega)) ?_
  refine g_iload dd_73_36 rfl ?_
  refine g_iconst dd_73_38 ic_1 ?_
  refine e_iadd (v := s + 1) dd_73_39 (by omega) ?_
  refine g_goto (t := 44) dd_73_40 (by decide) ?_
  refine g_istore dd_73_44 (am_nlb_ok rfl) (by decide) ?_
  refine e_iinc (v := 1) (w := k + 1) dd_73_46 rfl ic_1 (am_nlb_ok rfl) (by decide) (by omega) ?_
  refine g_goto (t := 9) dd_73_49 (by decide) ?_
  exact hg
theorem wu_1b {h : am_H} {W F B n mi go : Nat} (hH : xw_ok h) {q : Nat} {vq : List Value} {fw ff : Nat → Nat → Nat} {fb : Nat → Nat → Bool} (qS : ∀ he fr wo se gn pl, am_get (xw h W F B he fr wo se gn pl) q = some (.inr (9, vq))) (cw : ∀ he fr wo se gn pl, ∀ s t, s < n → t < mi → am_EG mi_41 [.ref q, .retAddr s, .retAddr t] (xw h W F B he fr wo se gn pl) (some (.retAddr (fw s t)), xw h W F B he fr wo se gn pl)) (ck : ∀ he fr wo se gn pl, ∀ s t, s < n → t < mi → am_EG mi_68 [.ref q, .retAddr s, .retAddr t] (xw h W F B he fr wo se gn pl) (some (.retAddr (fbt (ff s t))), xw h W F B he fr wo se gn pl)) (c1 : ∀ he fr wo se gn pl, ∀ s t, s < n → t < mi → fb s t = true → am_EG mi_53 [.ref q, .retAddr s, .retAddr t] (xw h W F B he fr wo se gn pl) (some (.retAddr 1), xw h W F B he fr wo se gn pl)) (c0 : ∀ he fr wo se gn pl, ∀ s t, s < n → t < mi → ¬ fb s t = true → am_EG mi_53 [.ref q, .retAddr s, .retAddr t] (xw h W F B he fr wo se gn pl) (some (.retAddr 0), xw h W F B he fr wo se gn pl)) (hn : n ≤ 4) (hm : mi ≤ 60) (hgo : go ≤ 3) (h99 : ∀ s t, s < n → t < mi → fw s t ≤ 99) (h8 : ∀ s t, fbt (ff s t) < 256) {he fr wo se gn pl : Nat} {r : am_R} {t s k : Nat} (hk : k < n) (hs : s < n) (ht : t < mi) (hb : fb s t = true) (hs2 : ¬ s + 1 < n) (hg : am_Good mi_73 9 [some (.ref 40), some (.ref q), some (.retAddr n), some (.retAddr t), some (.retAddr 0), some (.retAddr (k + 1))] [] (xw h W F B he fr wo se gn pl) r) : am_Good mi_73 9 [some (.ref 40), some (.ref q), some (.retAddr n), some (.retAddr t), some (.retAddr s), some (.retAddr k)] [] (xw h W F B he fr wo se gn pl) r := by
  refine g_iload dd_73_9 rfl ?_
  refine g_iload_n (i := 2) dd_73_11 rfl ?_
  refine g_icmp_ge_f (t := 52) dd_73_12 (by decide) (by first | exact sk_ge_f (by omega) (by omega) | exact tk_ge_f (by omega)) ?_
  refine g_aload_n (i := 1) dd_73_15 rfl ?_
  refine g_iload dd_73_16 rfl ?_
  refine g_iload_n (i := 3) dd_73_18 rfl ?_
  refine g_virtual (M' := mi_53) (n := 2) (ci := 9) (b := q) (as := [.retAddr s, .retAddr t]) (st := []) (r1 := (some (.retAddr 1), (xw h W F B he fr wo se gn pl))) w_679 w_594 w_595 ⟨lk_53.1, lk_53.2.1, lk_53.2.2, by decide, by decide⟩ rfl (qS _ _ _ _ _ _) rfl (by simp [Value.category]) dd_73_19 (c1 _ _ _ _ _ _ _ _ (by omega) (by omega) hb) ?_
  show am_Good mi_73 22 [some (.ref 40), some (.ref q), some (.retAddr n), some (.retAddr t), some (.retAddr s), some (.retAddr k)] [.retAddr 1] (xw h W F B he fr wo se gn pl) _
  refine g_if_ne_t (t := 28) dd_73_22 (by decide) (by decide) ?_
  refine g_iload dd_73_28 rfl ?_
  refine g_iconst dd_73_30 ic_1 ?_
  refine e_iadd (v := s + 1) dd_73_31 (by omega) ?_
  refine g_iload_n (i := 2) dd_73_32 rfl ?_
  refine g_icmp_ge_t (t := 43) dd_73_33 (by decide) (by first | exact sk_ge_t (by omega) (by omega) | exact tk_ge_t (by omega)) ?_
  refine g_iconst dd_73_43 ic_0 ?_
  refine g_istore dd_73_44 (am_nlb_ok rfl) (by decide) ?_
  refine e_iinc (v := 1) (w := k + 1) dd_73_46 rfl ic_1 (am_nlb_ok rfl) (by decide) (by omega) ?_
  refine g_goto (t := 9) dd_73_49 (by decide) ?_
  exact hg
theorem wu_2 {h : am_H} {W F B n mi go : Nat} (hH : xw_ok h) {q : Nat} {vq : List Value} {fw ff : Nat → Nat → Nat} {fb : Nat → Nat → Bool} (qS : ∀ he fr wo se gn pl, am_get (xw h W F B he fr wo se gn pl) q = some (.inr (9, vq))) (cw : ∀ he fr wo se gn pl, ∀ s t, s < n → t < mi → am_EG mi_41 [.ref q, .retAddr s, .retAddr t] (xw h W F B he fr wo se gn pl) (some (.retAddr (fw s t)), xw h W F B he fr wo se gn pl)) (ck : ∀ he fr wo se gn pl, ∀ s t, s < n → t < mi → am_EG mi_68 [.ref q, .retAddr s, .retAddr t] (xw h W F B he fr wo se gn pl) (some (.retAddr (fbt (ff s t))), xw h W F B he fr wo se gn pl)) (c1 : ∀ he fr wo se gn pl, ∀ s t, s < n → t < mi → fb s t = true → am_EG mi_53 [.ref q, .retAddr s, .retAddr t] (xw h W F B he fr wo se gn pl) (some (.retAddr 1), xw h W F B he fr wo se gn pl)) (c0 : ∀ he fr wo se gn pl, ∀ s t, s < n → t < mi → ¬ fb s t = true → am_EG mi_53 [.ref q, .retAddr s, .retAddr t] (xw h W F B he fr wo se gn pl) (some (.retAddr 0), xw h W F B he fr wo se gn pl)) (hn : n ≤ 4) (hm : mi ≤ 60) (hgo : go ≤ 3) (h99 : ∀ s t, s < n → t < mi → fw s t ≤ 99) (h8 : ∀ s t, fbt (ff s t) < 256) {he fr wo se gn pl : Nat} {t s k : Nat} (hk : k < n) (hs : s < n) (ht : t < mi) (hb : ¬ fb s t = true) : am_Good mi_73 9 [some (.ref 40), some (.ref q), some (.retAddr n), some (.retAddr t), some (.retAddr s), some (.retAddr k)] [] (xw h W F B he fr wo se gn pl) (some (.retAddr s), (xw h W F B he fr wo se gn pl)) := by
  refine g_iload dd_73_9 rfl ?_
  refine g_iload_n (i := 2) dd_73_11 rfl ?_
  refine g_icmp_ge_f (t := 52) dd_73_12 (by decide) (by first | exact sk_ge_f (by omega) (by omega) | exact tk_ge_f (by omega)) ?_
  refine g_aload_n (i := 1) dd_73_15 rfl ?_
  refine g_iload dd_73_16 rfl ?_
  refine g_iload_n (i := 3) dd_73_18 rfl ?_
  refine g_virtual (M' := mi_53) (n := 2) (ci := 9) (b := q) (as := [.retAddr s, .retAddr t]) (st := []) (r1 := (some (.retAddr 0), (xw h W F B he fr wo se gn pl))) w_679 w_594 w_595 ⟨lk_53.1, lk_53.2.1, lk_53.2.2, by decide, by decide⟩ rfl (qS _ _ _ _ _ _) rfl (by simp [Value.category]) dd_73_19 (c0 _ _ _ _ _ _ _ _ (by omega) (by omega) hb) ?_
  show am_Good mi_73 22 [some (.ref 40), some (.ref q), some (.retAddr n), some (.retAddr t), some (.retAddr s), some (.retAddr k)] [.retAddr 0] (xw h W F B he fr wo se gn pl) _
  refine g_if_ne_f (t := 28) dd_73_22 (by decide) (by decide) ?_
  refine g_iload dd_73_25 rfl ?_
  exact g_ireturn rfl dd_73_27
theorem wu_l {h : am_H} {W F B n mi go : Nat} (hH : xw_ok h) {q : Nat} {vq : List Value} {fw ff : Nat → Nat → Nat} {fb : Nat → Nat → Bool} (qS : ∀ he fr wo se gn pl, am_get (xw h W F B he fr wo se gn pl) q = some (.inr (9, vq))) (cw : ∀ he fr wo se gn pl, ∀ s t, s < n → t < mi → am_EG mi_41 [.ref q, .retAddr s, .retAddr t] (xw h W F B he fr wo se gn pl) (some (.retAddr (fw s t)), xw h W F B he fr wo se gn pl)) (ck : ∀ he fr wo se gn pl, ∀ s t, s < n → t < mi → am_EG mi_68 [.ref q, .retAddr s, .retAddr t] (xw h W F B he fr wo se gn pl) (some (.retAddr (fbt (ff s t))), xw h W F B he fr wo se gn pl)) (c1 : ∀ he fr wo se gn pl, ∀ s t, s < n → t < mi → fb s t = true → am_EG mi_53 [.ref q, .retAddr s, .retAddr t] (xw h W F B he fr wo se gn pl) (some (.retAddr 1), xw h W F B he fr wo se gn pl)) (c0 : ∀ he fr wo se gn pl, ∀ s t, s < n → t < mi → ¬ fb s t = true → am_EG mi_53 [.ref q, .retAddr s, .retAddr t] (xw h W F B he fr wo se gn pl) (some (.retAddr 0), xw h W F B he fr wo se gn pl)) (hn : n ≤ 4) (hm : mi ≤ 60) (hgo : go ≤ 3) (h99 : ∀ s t, s < n → t < mi → fw s t ≤ 99) (h8 : ∀ s t, fbt (ff s t) < 256) {he fr wo se gn pl : Nat} {t : Nat} (ht : t < mi) : ∀ (f k s : Nat), k + f = n → s < n → am_Good mi_73 9 [some (.ref 40), some (.ref q), some (.retAddr n), some (.retAddr t), some (.retAddr s), some (.retAddr k)] [] (xw h W F B he fr wo se gn pl) (some (.retAddr (wk_ub fb n t he f s)), (xw h W F B he fr wo se gn pl))
  | 0, k, s, e, hs => by
    have e' : k = n := by omega
    subst e'
    exact wu_0 hH qS cw ck c1 c0 hn hm hgo h99 h8
  | f + 1, k, s, e, hs => by
    show am_Good mi_73 9 [some (.ref 40), some (.ref q), some (.retAddr n), some (.retAddr t), some (.retAddr s), some (.retAddr k)] [] (xw h W F B he fr wo se gn pl) (some (.retAddr (if fb s t = true then wk_ub fb n t he f (if s + 1 < n then s + 1 else 0) else s)), (xw h W F B he fr wo se gn pl))
    by_cases hb : fb s t = true
    · rw [if_pos hb]
      by_cases hs2 : s + 1 < n
      · rw [if_pos hs2]
        exact wu_1a hH qS cw ck c1 c0 hn hm hgo h99 h8 (by omega) hs ht hb hs2 (wu_l hH qS cw ck c1 c0 hn hm hgo h99 h8 ht f (k + 1) (s + 1) (by omega) hs2)
      · rw [if_neg hs2]
        exact wu_1b hH qS cw ck c1 c0 hn hm hgo h99 h8 (by omega) hs ht hb hs2 (wu_l hH qS cw ck c1 c0 hn hm hgo h99 h8 ht f (k + 1) 0 (by omega) (by omega))
    · rw [if_neg hb]
      exact wu_2 hH qS cw ck c1 c0 hn hm hgo h99 h8 (by omega) hs ht hb
theorem wu_m {h : am_H} {W F B n mi go : Nat} (hH : xw_ok h) {q : Nat} {vq : List Value} {fw ff : Nat → Nat → Nat} {fb : Nat → Nat → Bool} (qS : ∀ he fr wo se gn pl, am_get (xw h W F B he fr wo se gn pl) q = some (.inr (9, vq))) (cw : ∀ he fr wo se gn pl, ∀ s t, s < n → t < mi → am_EG mi_41 [.ref q, .retAddr s, .retAddr t] (xw h W F B he fr wo se gn pl) (some (.retAddr (fw s t)), xw h W F B he fr wo se gn pl)) (ck : ∀ he fr wo se gn pl, ∀ s t, s < n → t < mi → am_EG mi_68 [.ref q, .retAddr s, .retAddr t] (xw h W F B he fr wo se gn pl) (some (.retAddr (fbt (ff s t))), xw h W F B he fr wo se gn pl)) (c1 : ∀ he fr wo se gn pl, ∀ s t, s < n → t < mi → fb s t = true → am_EG mi_53 [.ref q, .retAddr s, .retAddr t] (xw h W F B he fr wo se gn pl) (some (.retAddr 1), xw h W F B he fr wo se gn pl)) (c0 : ∀ he fr wo se gn pl, ∀ s t, s < n → t < mi → ¬ fb s t = true → am_EG mi_53 [.ref q, .retAddr s, .retAddr t] (xw h W F B he fr wo se gn pl) (some (.retAddr 0), xw h W F B he fr wo se gn pl)) (hn : n ≤ 4) (hm : mi ≤ 60) (hgo : go ≤ 3) (h99 : ∀ s t, s < n → t < mi → fw s t ≤ 99) (h8 : ∀ s t, fbt (ff s t) < 256) {he fr wo se gn pl : Nat} {t : Nat} (ht : t < mi) (hh : he < n) : am_EG mi_73 [.ref 40, .ref q, .retAddr n, .retAddr t] (xw h W F B he fr wo se gn pl) (some (.retAddr (wk_ub fb n t he n he)), (xw h W F B he fr wo se gn pl)) := by
  refine am_enter (n := 2) tk_73.2.1 (by simp [Value.category]) (Nat.le_of_ble_eq_true rfl) ?_
  show am_Good mi_73 0 [some (.ref 40), some (.ref q), some (.retAddr n), some (.retAddr t), none, none] [] (xw h W F B he fr wo se gn pl) _
  refine g_aload_n (i := 0) dd_73_0 rfl ?_
  refine g_getfield (k := 2) am_ck10 (by decide) (Or.inl w_171) dd_73_1 (xw_g40 hH) rfl ?_
  refine g_istore dd_73_4 (am_nlb_ok rfl) (by decide) ?_
  refine g_iconst dd_73_6 ic_0 ?_
  refine g_istore dd_73_7 (am_nlb_ok rfl) (by decide) ?_
  exact wu_l hH qS cw ck c1 c0 hn hm hgo h99 h8 ht n 0 he (by omega) hh
theorem wb_0 {h : am_H} {W F B n mi go : Nat} (hH : xw_ok h) {q : Nat} {vq : List Value} {fw ff : Nat → Nat → Nat} {fb : Nat → Nat → Bool} (qS : ∀ he fr wo se gn pl, am_get (xw h W F B he fr wo se gn pl) q = some (.inr (9, vq))) (cw : ∀ he fr wo se gn pl, ∀ s t, s < n → t < mi → am_EG mi_41 [.ref q, .retAddr s, .retAddr t] (xw h W F B he fr wo se gn pl) (some (.retAddr (fw s t)), xw h W F B he fr wo se gn pl)) (ck : ∀ he fr wo se gn pl, ∀ s t, s < n → t < mi → am_EG mi_68 [.ref q, .retAddr s, .retAddr t] (xw h W F B he fr wo se gn pl) (some (.retAddr (fbt (ff s t))), xw h W F B he fr wo se gn pl)) (c1 : ∀ he fr wo se gn pl, ∀ s t, s < n → t < mi → fb s t = true → am_EG mi_53 [.ref q, .retAddr s, .retAddr t] (xw h W F B he fr wo se gn pl) (some (.retAddr 1), xw h W F B he fr wo se gn pl)) (c0 : ∀ he fr wo se gn pl, ∀ s t, s < n → t < mi → ¬ fb s t = true → am_EG mi_53 [.ref q, .retAddr s, .retAddr t] (xw h W F B he fr wo se gn pl) (some (.retAddr 0), xw h W F B he fr wo se gn pl)) (hn : n ≤ 4) (hm : mi ≤ 60) (hgo : go ≤ 3) (h99 : ∀ s t, s < n → t < mi → fw s t ≤ 99) (h8 : ∀ s t, fbt (ff s t) < 256) {he fr wo se gn pl : Nat} {t b : Nat} : am_Good mi_74 9 [some (.ref 40), some (.ref q), some (.retAddr n), some (.retAddr t), some (.retAddr b), some (.retAddr n)] [] (xw h W F B he fr wo se gn pl) (some (.retAddr b), (xw h W F B he fr wo se gn pl)) := by
  refine g_iload dd_74_9 rfl ?_
  refine g_iload_n (i := 2) dd_74_11 rfl ?_
  refine g_icmp_ge_t (t := 42) dd_74_12 (by decide) (by first | exact sk_ge_t (by omega) (by omega) | exact tk_ge_t (by omega)) ?_
  refine g_iload dd_74_42 rfl ?_
  exact g_ireturn rfl dd_74_44
theorem wb_1a {h : am_H} {W F B n mi go : Nat} (hH : xw_ok h) {q : Nat} {vq : List Value} {fw ff : Nat → Nat → Nat} {fb : Nat → Nat → Bool} (qS : ∀ he fr wo se gn pl, am_get (xw h W F B he fr wo se gn pl) q = some (.inr (9, vq))) (cw : ∀ he fr wo se gn pl, ∀ s t, s < n → t < mi → am_EG mi_41 [.ref q, .retAddr s, .retAddr t] (xw h W F B he fr wo se gn pl) (some (.retAddr (fw s t)), xw h W F B he fr wo se gn pl)) (ck : ∀ he fr wo se gn pl, ∀ s t, s < n → t < mi → am_EG mi_68 [.ref q, .retAddr s, .retAddr t] (xw h W F B he fr wo se gn pl) (some (.retAddr (fbt (ff s t))), xw h W F B he fr wo se gn pl)) (c1 : ∀ he fr wo se gn pl, ∀ s t, s < n → t < mi → fb s t = true → am_EG mi_53 [.ref q, .retAddr s, .retAddr t] (xw h W F B he fr wo se gn pl) (some (.retAddr 1), xw h W F B he fr wo se gn pl)) (c0 : ∀ he fr wo se gn pl, ∀ s t, s < n → t < mi → ¬ fb s t = true → am_EG mi_53 [.ref q, .retAddr s, .retAddr t] (xw h W F B he fr wo se gn pl) (some (.retAddr 0), xw h W F B he fr wo se gn pl)) (hn : n ≤ 4) (hm : mi ≤ 60) (hgo : go ≤ 3) (h99 : ∀ s t, s < n → t < mi → fw s t ≤ 99) (h8 : ∀ s t, fbt (ff s t) < 256) {he fr wo se gn pl : Nat} {r : am_R} {t b s : Nat} (hs : s < n) (hb : b < n) (ht : t < mi) (hc : fw b t < fw s t) (hg : am_Good mi_74 9 [some (.ref 40), some (.ref q), some (.retAddr n), some (.retAddr t), some (.retAddr s), some (.retAddr (s + 1))] [] (xw h W F B he fr wo se gn pl) r) : am_Good mi_74 9 [some (.ref 40), some (.ref q), some (.retAddr n), some (.retAddr t), some (.retAddr b), some (.retAddr s)] [] (xw h W F B he fr wo se gn pl) r := by
  have g1 := h99 b t hb ht
  have g2 := h99 s t hs ht
  refine g_iload dd_74_9 rfl ?_
  refine g_iload_n (i := 2) dd_74_11 rfl ?_
  refine g_icmp_ge_f (t := 42) dd_74_12 (by decide) (by first | exact sk_ge_f (by omega) (by omega) | exact tk_ge_f (by omega)) ?_
  refine g_aload_n (i := 1) dd_74_15 rfl ?_
  refine g_iload dd_74_16 rfl ?_
  refine g_iload_n (i := 3) dd_74_18 rfl ?_
  refine g_virtual (M' := mi_41) (n := 2) (ci := 9) (b := q) (as := [.retAddr s, .retAddr t]) (st := []) (r1 := (some (.retAddr (fw s t)), (xw h W F B he fr wo se gn pl))) w_653 w_491 w_492 ⟨lk_41.1, lk_41.2.1, lk_41.2.2, by decide, by decide⟩ rfl (qS _ _ _ _ _ _) rfl (by simp [Value.category]) dd_74_19 (cw _ _ _ _ _ _ _ _ (by omega) (by omega)) ?_
  show am_Good mi_74 22 [some (.ref 40), some (.ref q), some (.retAddr n), some (.retAddr t), some (.retAddr b), some (.retAddr s)] [.retAddr (fw s t)] (xw h W F B he fr wo se gn pl) _
  refine g_aload_n (i := 1) dd_74_22 rfl ?_
  refine g_iload dd_74_23 rfl ?_
  refine g_iload_n (i := 3) dd_74_25 rfl ?_
  refine g_virtual (M' := mi_41) (n := 2) (ci := 9) (b := q) (as := [.retAddr b, .retAddr t]) (st := [.retAddr (fw s t)]) (r1 := (some (.retAddr (fw b t)), (xw h W F B he fr wo se gn pl))) w_653 w_491 w_492 ⟨lk_41.1, lk_41.2.1, lk_41.2.2, by decide, by decide⟩ rfl (qS _ _ _ _ _ _) rfl (by simp [Value.category]) dd_74_26 (cw _ _ _ _ _ _ _ _ (by omega) (by omega)) ?_
  show am_Good mi_74 29 [some (.ref 40), some (.ref q), some (.retAddr n), some (.retAddr t), some (.retAddr b), some (.retAddr s)] [.retAddr (fw b t), .retAddr (fw s t)] (xw h W F B he fr wo se gn pl) _
  refine g_icmp_le_f (t := 36) dd_74_29 (by decide) (by first | exact sk_le_f (by omega) (by omega) | exact tk_le_f (by omega)) ?_
  refine g_iload dd_74_32 rfl ?_
  refine g_istore dd_74_34 (am_nlb_ok rfl) (by decide) ?_
  refine e_iinc (v := 1) (w := s + 1) dd_74_36 rfl ic_1 (am_nlb_ok rfl) (by decide) (by omega) ?_
  refine g_goto (t := 9) dd_74_39 (by decide) ?_
  exact hg
theorem wb_1b {h : am_H} {W F B n mi go : Nat} (hH : xw_ok h) {q : Nat} {vq : List Value} {fw ff : Nat → Nat → Nat} {fb : Nat → Nat → Bool} (qS : ∀ he fr wo se gn pl, am_get (xw h W F B he fr wo se gn pl) q = some (.inr (9, vq))) (cw : ∀ he fr wo se gn pl, ∀ s t, s < n → t < mi → am_EG mi_41 [.ref q, .retAddr s, .retAddr t] (xw h W F B he fr wo se gn pl) (some (.retAddr (fw s t)), xw h W F B he fr wo se gn pl)) (ck : ∀ he fr wo se gn pl, ∀ s t, s < n → t < mi → am_EG mi_68 [.ref q, .retAddr s, .retAddr t] (xw h W F B he fr wo se gn pl) (some (.retAddr (fbt (ff s t))), xw h W F B he fr wo se gn pl)) (c1 : ∀ he fr wo se gn pl, ∀ s t, s < n → t < mi → fb s t = true → am_EG mi_53 [.ref q, .retAddr s, .retAddr t] (xw h W F B he fr wo se gn pl) (some (.retAddr 1), xw h W F B he fr wo se gn pl)) (c0 : ∀ he fr wo se gn pl, ∀ s t, s < n → t < mi → ¬ fb s t = true → am_EG mi_53 [.ref q, .retAddr s, .retAddr t] (xw h W F B he fr wo se gn pl) (some (.retAddr 0), xw h W F B he fr wo se gn pl)) (hn : n ≤ 4) (hm : mi ≤ 60) (hgo : go ≤ 3) (h99 : ∀ s t, s < n → t < mi → fw s t ≤ 99) (h8 : ∀ s t, fbt (ff s t) < 256) {he fr wo se gn pl : Nat} {r : am_R} {t b s : Nat} (hs : s < n) (hb : b < n) (ht : t < mi) (hc : ¬ fw b t < fw s t) (hg : am_Good mi_74 9 [some (.ref 40), some (.ref q), some (.retAddr n), some (.retAddr t), some (.retAddr b), some (.retAddr (s + 1))] [] (xw h W F B he fr wo se gn pl) r) : am_Good mi_74 9 [some (.ref 40), some (.ref q), some (.retAddr n), some (.retAddr t), some (.retAddr b), some (.retAddr s)] [] (xw h W F B he fr wo se gn pl) r := by
  have g1 := h99 b t hb ht
  have g2 := h99 s t hs ht
  refine g_iload dd_74_9 rfl ?_
  refine g_iload_n (i := 2) dd_74_11 rfl ?_
  refine g_icmp_ge_f (t := 42) dd_74_12 (by decide) (by first | exact sk_ge_f (by omega) (by omega) | exact tk_ge_f (by omega)) ?_
  refine g_aload_n (i := 1) dd_74_15 rfl ?_
  refine g_iload dd_74_16 rfl ?_
  refine g_iload_n (i := 3) dd_74_18 rfl ?_
  refine g_virtual (M' := mi_41) (n := 2) (ci := 9) (b := q) (as := [.retAddr s, .retAddr t]) (st := []) (r1 := (some (.retAddr (fw s t)), (xw h W F B he fr wo se gn pl))) w_653 w_491 w_492 ⟨lk_41.1, lk_41.2.1, lk_41.2.2, by decide, by decide⟩ rfl (qS _ _ _ _ _ _) rfl (by simp [Value.category]) dd_74_19 (cw _ _ _ _ _ _ _ _ (by omega) (by omega)) ?_
  show am_Good mi_74 22 [some (.ref 40), some (.ref q), some (.retAddr n), some (.retAddr t), some (.retAddr b), some (.retAddr s)] [.retAddr (fw s t)] (xw h W F B he fr wo se gn pl) _
  refine g_aload_n (i := 1) dd_74_22 rfl ?_
  refine g_iload dd_74_23 rfl ?_
  refine g_iload_n (i := 3) dd_74_25 rfl ?_
  refine g_virtual (M' := mi_41) (n := 2) (ci := 9) (b := q) (as := [.retAddr b, .retAddr t]) (st := [.retAddr (fw s t)]) (r1 := (some (.retAddr (fw b t)), (xw h W F B he fr wo se gn pl))) w_653 w_491 w_492 ⟨lk_41.1, lk_41.2.1, lk_41.2.2, by decide, by decide⟩ rfl (qS _ _ _ _ _ _) rfl (by simp [Value.category]) dd_74_26 (cw _ _ _ _ _ _ _ _ (by omega) (by omega)) ?_
  show am_Good mi_74 29 [some (.ref 40), some (.ref q), some (.retAddr n), some (.retAddr t), some (.retAddr b), some (.retAddr s)] [.retAddr (fw b t), .retAddr (fw s t)] (xw h W F B he fr wo se gn pl) _
  refine g_icmp_le_t (t := 36) dd_74_29 (by decide) (by first | exact sk_le_t (by omega) (by omega) | exact tk_le_t (by omega)) ?_
  refine e_iinc (v := 1) (w := s + 1) dd_74_36 rfl ic_1 (am_nlb_ok rfl) (by decide) (by omega) ?_
  refine g_goto (t := 9) dd_74_39 (by decide) ?_
  exact hg
theorem wb_l {h : am_H} {W F B n mi go : Nat} (hH : xw_ok h) {q : Nat} {vq : List Value} {fw ff : Nat → Nat → Nat} {fb : Nat → Nat → Bool} (qS : ∀ he fr wo se gn pl, am_get (xw h W F B he fr wo se gn pl) q = some (.inr (9, vq))) (cw : ∀ he fr wo se gn pl, ∀ s t, s < n → t < mi → am_EG mi_41 [.ref q, .retAddr s, .retAddr t] (xw h W F B he fr wo se gn pl) (some (.retAddr (fw s t)), xw h W F B he fr wo se gn pl)) (ck : ∀ he fr wo se gn pl, ∀ s t, s < n → t < mi → am_EG mi_68 [.ref q, .retAddr s, .retAddr t] (xw h W F B he fr wo se gn pl) (some (.retAddr (fbt (ff s t))), xw h W F B he fr wo se gn pl)) (c1 : ∀ he fr wo se gn pl, ∀ s t, s < n → t < mi → fb s t = true → am_EG mi_53 [.ref q, .retAddr s, .retAddr t] (xw h W F B he fr wo se gn pl) (some (.retAddr 1), xw h W F B he fr wo se gn pl)) (c0 : ∀ he fr wo se gn pl, ∀ s t, s < n → t < mi → ¬ fb s t = true → am_EG mi_53 [.ref q, .retAddr s, .retAddr t] (xw h W F B he fr wo se gn pl) (some (.retAddr 0), xw h W F B he fr wo se gn pl)) (hn : n ≤ 4) (hm : mi ≤ 60) (hgo : go ≤ 3) (h99 : ∀ s t, s < n → t < mi → fw s t ≤ 99) (h8 : ∀ s t, fbt (ff s t) < 256) {he fr wo se gn pl : Nat} {t : Nat} (ht : t < mi) (hh : he < n) : ∀ (f s : Nat), s + f = n → am_Good mi_74 9 [some (.ref 40), some (.ref q), some (.retAddr n), some (.retAddr t), some (.retAddr (wk_be fw t he s)), some (.retAddr s)] [] (xw h W F B he fr wo se gn pl) (some (.retAddr (wk_be fw t he n)), (xw h W F B he fr wo se gn pl))
  | 0, s, e => by
    have e' : s = n := by omega
    subst e'
    exact wb_0 hH qS cw ck c1 c0 hn hm hgo h99 h8
  | f + 1, s, e => by
    have q := wb_l (fr := fr) (wo := wo) (se := se) (gn := gn) (pl := pl) hH qS cw ck c1 c0 hn hm hgo h99 h8 ht hh f (s + 1) (by omega)
    have hl := wk_be_lt (fw := fw) (t := t) hh (s := s) (by omega)
    have e1 : wk_be fw t he (s + 1) = if fw (wk_be fw t he s) t < fw s t then s else wk_be fw t he s := rfl
    rw [e1] at q
    by_cases hc : fw (wk_be fw t he s) t < fw s t
    · rw [if_pos hc] at q
      exact wb_1a hH qS cw ck c1 c0 hn hm hgo h99 h8 (by omega) hl ht hc q
    · rw [if_neg hc] at q
      exact wb_1b hH qS cw ck c1 c0 hn hm hgo h99 h8 (by omega) hl ht hc q
theorem wb_m {h : am_H} {W F B n mi go : Nat} (hH : xw_ok h) {q : Nat} {vq : List Value} {fw ff : Nat → Nat → Nat} {fb : Nat → Nat → Bool} (qS : ∀ he fr wo se gn pl, am_get (xw h W F B he fr wo se gn pl) q = some (.inr (9, vq))) (cw : ∀ he fr wo se gn pl, ∀ s t, s < n → t < mi → am_EG mi_41 [.ref q, .retAddr s, .retAddr t] (xw h W F B he fr wo se gn pl) (some (.retAddr (fw s t)), xw h W F B he fr wo se gn pl)) (ck : ∀ he fr wo se gn pl, ∀ s t, s < n → t < mi → am_EG mi_68 [.ref q, .retAddr s, .retAddr t] (xw h W F B he fr wo se gn pl) (some (.retAddr (fbt (ff s t))), xw h W F B he fr wo se gn pl)) (c1 : ∀ he fr wo se gn pl, ∀ s t, s < n → t < mi → fb s t = true → am_EG mi_53 [.ref q, .retAddr s, .retAddr t] (xw h W F B he fr wo se gn pl) (some (.retAddr 1), xw h W F B he fr wo se gn pl)) (c0 : ∀ he fr wo se gn pl, ∀ s t, s < n → t < mi → ¬ fb s t = true → am_EG mi_53 [.ref q, .retAddr s, .retAddr t] (xw h W F B he fr wo se gn pl) (some (.retAddr 0), xw h W F B he fr wo se gn pl)) (hn : n ≤ 4) (hm : mi ≤ 60) (hgo : go ≤ 3) (h99 : ∀ s t, s < n → t < mi → fw s t ≤ 99) (h8 : ∀ s t, fbt (ff s t) < 256) {he fr wo se gn pl : Nat} {t : Nat} (ht : t < mi) (hh : he < n) : am_EG mi_74 [.ref 40, .ref q, .retAddr n, .retAddr t] (xw h W F B he fr wo se gn pl) (some (.retAddr (wk_be fw t he n)), (xw h W F B he fr wo se gn pl)) := by
  refine am_enter (n := 2) tk_74.2.1 (by simp [Value.category]) (Nat.le_of_ble_eq_true rfl) ?_
  show am_Good mi_74 0 [some (.ref 40), some (.ref q), some (.retAddr n), some (.retAddr t), none, none] [] (xw h W F B he fr wo se gn pl) _
  refine g_aload_n (i := 0) dd_74_0 rfl ?_
  refine g_getfield (k := 2) am_ck10 (by decide) (Or.inl w_171) dd_74_1 (xw_g40 hH) rfl ?_
  refine g_istore dd_74_4 (am_nlb_ok rfl) (by decide) ?_
  refine g_iconst dd_74_6 ic_0 ?_
  refine g_istore dd_74_7 (am_nlb_ok rfl) (by decide) ?_
  exact wb_l hH qS cw ck c1 c0 hn hm hgo h99 h8 ht hh n 0 (by omega)
theorem wi_0 {h : am_H} {W F B n mi go : Nat} (hH : xw_ok h) {q : Nat} {vq : List Value} {fw ff : Nat → Nat → Nat} {fb : Nat → Nat → Bool} (qS : ∀ he fr wo se gn pl, am_get (xw h W F B he fr wo se gn pl) q = some (.inr (9, vq))) (cw : ∀ he fr wo se gn pl, ∀ s t, s < n → t < mi → am_EG mi_41 [.ref q, .retAddr s, .retAddr t] (xw h W F B he fr wo se gn pl) (some (.retAddr (fw s t)), xw h W F B he fr wo se gn pl)) (ck : ∀ he fr wo se gn pl, ∀ s t, s < n → t < mi → am_EG mi_68 [.ref q, .retAddr s, .retAddr t] (xw h W F B he fr wo se gn pl) (some (.retAddr (fbt (ff s t))), xw h W F B he fr wo se gn pl)) (c1 : ∀ he fr wo se gn pl, ∀ s t, s < n → t < mi → fb s t = true → am_EG mi_53 [.ref q, .retAddr s, .retAddr t] (xw h W F B he fr wo se gn pl) (some (.retAddr 1), xw h W F B he fr wo se gn pl)) (c0 : ∀ he fr wo se gn pl, ∀ s t, s < n → t < mi → ¬ fb s t = true → am_EG mi_53 [.ref q, .retAddr s, .retAddr t] (xw h W F B he fr wo se gn pl) (some (.retAddr 0), xw h W F B he fr wo se gn pl)) (hn : n ≤ 4) (hm : mi ≤ 60) (hgo : go ≤ 3) (h99 : ∀ s t, s < n → t < mi → fw s t ≤ 99) (h8 : ∀ s t, fbt (ff s t) < 256) {he fr wo se gn pl : Nat} {own t : Nat} (ht : t < mi) (hh : he < n) (ho : own < n) : am_EG mi_72 [.ref 40, .ref q, .retAddr n, .retAddr 0, .retAddr own, .retAddr t] (xw h W F B he fr wo se gn pl) (some (.retAddr he), (xw h W F B he fr wo se gn pl)) := by
  refine am_enter (n := 0) tk_72.2.1 (by simp [Value.category]) (Nat.le_of_ble_eq_true rfl) ?_
  show am_Good mi_72 0 [some (.ref 40), some (.ref q), some (.retAddr n), some (.retAddr 0), some (.retAddr own), some (.retAddr t)] [] (xw h W F B he fr wo se gn pl) _
  refine g_iload_n (i := 3) dd_72_0 rfl ?_
  refine g_tableOut (t := 71) dd_72_1 (by decide) (by decide) (by decide) (by decide) ?_
  refine g_aload_n (i := 0) dd_72_71 rfl ?_
  refine g_getfield (k := 2) am_ck10 (by decide) (Or.inl w_171) dd_72_72 (xw_g40 hH) rfl ?_
  exact g_ireturn rfl dd_72_75
theorem wi_1 {h : am_H} {W F B n mi go : Nat} (hH : xw_ok h) {q : Nat} {vq : List Value} {fw ff : Nat → Nat → Nat} {fb : Nat → Nat → Bool} (qS : ∀ he fr wo se gn pl, am_get (xw h W F B he fr wo se gn pl) q = some (.inr (9, vq))) (cw : ∀ he fr wo se gn pl, ∀ s t, s < n → t < mi → am_EG mi_41 [.ref q, .retAddr s, .retAddr t] (xw h W F B he fr wo se gn pl) (some (.retAddr (fw s t)), xw h W F B he fr wo se gn pl)) (ck : ∀ he fr wo se gn pl, ∀ s t, s < n → t < mi → am_EG mi_68 [.ref q, .retAddr s, .retAddr t] (xw h W F B he fr wo se gn pl) (some (.retAddr (fbt (ff s t))), xw h W F B he fr wo se gn pl)) (c1 : ∀ he fr wo se gn pl, ∀ s t, s < n → t < mi → fb s t = true → am_EG mi_53 [.ref q, .retAddr s, .retAddr t] (xw h W F B he fr wo se gn pl) (some (.retAddr 1), xw h W F B he fr wo se gn pl)) (c0 : ∀ he fr wo se gn pl, ∀ s t, s < n → t < mi → ¬ fb s t = true → am_EG mi_53 [.ref q, .retAddr s, .retAddr t] (xw h W F B he fr wo se gn pl) (some (.retAddr 0), xw h W F B he fr wo se gn pl)) (hn : n ≤ 4) (hm : mi ≤ 60) (hgo : go ≤ 3) (h99 : ∀ s t, s < n → t < mi → fw s t ≤ 99) (h8 : ∀ s t, fbt (ff s t) < 256) {he fr wo se gn pl : Nat} {own t : Nat} (ht : t < mi) (hh : he < n) (ho : own < n) : am_EG mi_72 [.ref 40, .ref q, .retAddr n, .retAddr 1, .retAddr own, .retAddr t] (xw h W F B he fr wo se gn pl) (some (.retAddr (wk_ub fb n t he n he)), (xw h W F B he fr wo se gn pl)) := by
  refine am_enter (n := 0) tk_72.2.1 (by simp [Value.category]) (Nat.le_of_ble_eq_true rfl) ?_
  show am_Good mi_72 0 [some (.ref 40), some (.ref q), some (.retAddr n), some (.retAddr 1), some (.retAddr own), some (.retAddr t)] [] (xw h W F B he fr wo se gn pl) _
  refine g_iload_n (i := 3) dd_72_0 rfl ?_
  refine g_tableIn (a := 1) (off := 27) (t := 28) dd_72_1 (by decide) (by decide) (by decide) rfl (by decide) ?_
  refine g_aload_n (i := 0) dd_72_28 rfl ?_
  refine g_aload_n (i := 1) dd_72_29 rfl ?_
  refine g_iload_n (i := 2) dd_72_30 rfl ?_
  refine g_iload dd_72_31 rfl ?_
  refine g_virtual (M' := mi_73) (n := 3) (ci := 10) (b := 40) (as := [.ref q, .retAddr n, .retAddr t]) (st := []) (r1 := (some (.retAddr (wk_ub fb n t he n he)), (xw h W F B he fr wo se gn pl))) w_675 w_677 ps_73 ⟨lk_73.1, lk_73.2.1, lk_73.2.2, by decide, by decide⟩ rfl (xw_g40 hH) rfl (by simp [Value.category]) dd_72_33 (wu_m hH qS cw ck c1 c0 hn hm hgo h99 h8 ht hh) ?_
  show am_Good mi_72 36 [some (.ref 40), some (.ref q), some (.retAddr n), some (.retAddr 1), some (.retAddr own), some (.retAddr t)] [.retAddr (wk_ub fb n t he n he)] (xw h W F B he fr wo se gn pl) _
  exact g_ireturn rfl dd_72_36
theorem wi_2a {h : am_H} {W F B n mi go : Nat} (hH : xw_ok h) {q : Nat} {vq : List Value} {fw ff : Nat → Nat → Nat} {fb : Nat → Nat → Bool} (qS : ∀ he fr wo se gn pl, am_get (xw h W F B he fr wo se gn pl) q = some (.inr (9, vq))) (cw : ∀ he fr wo se gn pl, ∀ s t, s < n → t < mi → am_EG mi_41 [.ref q, .retAddr s, .retAddr t] (xw h W F B he fr wo se gn pl) (some (.retAddr (fw s t)), xw h W F B he fr wo se gn pl)) (ck : ∀ he fr wo se gn pl, ∀ s t, s < n → t < mi → am_EG mi_68 [.ref q, .retAddr s, .retAddr t] (xw h W F B he fr wo se gn pl) (some (.retAddr (fbt (ff s t))), xw h W F B he fr wo se gn pl)) (c1 : ∀ he fr wo se gn pl, ∀ s t, s < n → t < mi → fb s t = true → am_EG mi_53 [.ref q, .retAddr s, .retAddr t] (xw h W F B he fr wo se gn pl) (some (.retAddr 1), xw h W F B he fr wo se gn pl)) (c0 : ∀ he fr wo se gn pl, ∀ s t, s < n → t < mi → ¬ fb s t = true → am_EG mi_53 [.ref q, .retAddr s, .retAddr t] (xw h W F B he fr wo se gn pl) (some (.retAddr 0), xw h W F B he fr wo se gn pl)) (hn : n ≤ 4) (hm : mi ≤ 60) (hgo : go ≤ 3) (h99 : ∀ s t, s < n → t < mi → fw s t ≤ 99) (h8 : ∀ s t, fbt (ff s t) < 256) {he fr wo se gn pl : Nat} {own t : Nat} (ht : t < mi) (hh : he < n) (ho : own < n) (hb : fb own t = true) : am_EG mi_72 [.ref 40, .ref q, .retAddr n, .retAddr 2, .retAddr own, .retAddr t] (xw h W F B he fr wo se gn pl) (some (.retAddr (wk_ub fb n t he n he)), (xw h W F B he fr wo se gn pl)) := by
  refine am_enter (n := 0) tk_72.2.1 (by simp [Value.category]) (Nat.le_of_ble_eq_true rfl) ?_
  show am_Good mi_72 0 [some (.ref 40), some (.ref q), some (.retAddr n), some (.retAddr 2), some (.retAddr own), some (.retAddr t)] [] (xw h W F B he fr wo se gn pl) _
  refine g_iload_n (i := 3) dd_72_0 rfl ?_
  refine g_tableIn (a := 2) (off := 36) (t := 37) dd_72_1 (by decide) (by decide) (by decide) rfl (by decide) ?_
  refine g_aload_n (i := 1) dd_72_37 rfl ?_
  refine g_iload dd_72_38 rfl ?_
  refine g_iload dd_72_40 rfl ?_
  refine g_virtual (M' := mi_53) (n := 2) (ci := 9) (b := q) (as := [.retAddr own, .retAddr t]) (st := []) (r1 := (some (.retAddr 1), (xw h W F B he fr wo se gn pl))) w_679 w_594 w_595 ⟨lk_53.1, lk_53.2.1, lk_53.2.2, by decide, by decide⟩ rfl (qS _ _ _ _ _ _) rfl (by simp [Value.category]) dd_72_42 (c1 _ _ _ _ _ _ _ _ (by omega) (by omega) hb) ?_
  show am_Good mi_72 45 [some (.ref 40), some (.ref q), some (.retAddr n), some (.retAddr 2), some (.retAddr own), some (.retAddr t)] [.retAddr 1] (xw h W F B he fr wo se gn pl) _
  refine g_if_eq_f (t := 59) dd_72_45 (by decide) (by decide) ?_
  refine g_aload_n (i := 0) dd_72_48 rfl ?_
  refine g_aload_n (i := 1) dd_72_49 rfl ?_
  refine g_iload_n (i := 2) dd_72_50 rfl ?_
  refine g_iload dd_72_51 rfl ?_
  refine g_virtual (M' := mi_73) (n := 3) (ci := 10) (b := 40) (as := [.ref q, .retAddr n, .retAddr t]) (st := []) (r1 := (some (.retAddr (wk_ub fb n t he n he)), (xw h W F B he fr wo se gn pl))) w_675 w_677 ps_73 ⟨lk_73.1, lk_73.2.1, lk_73.2.2, by decide, by decide⟩ rfl (xw_g40 hH) rfl (by simp [Value.category]) dd_72_53 (wu_m hH qS cw ck c1 c0 hn hm hgo h99 h8 ht hh) ?_
  show am_Good mi_72 56 [some (.ref 40), some (.ref q), some (.retAddr n), some (.retAddr 2), some (.retAddr own), some (.retAddr t)] [.retAddr (wk_ub fb n t he n he)] (xw h W F B he fr wo se gn pl) _
  refine g_goto (t := 61) dd_72_56 (by decide) ?_
  exact g_ireturn rfl dd_72_61
theorem wi_2b {h : am_H} {W F B n mi go : Nat} (hH : xw_ok h) {q : Nat} {vq : List Value} {fw ff : Nat → Nat → Nat} {fb : Nat → Nat → Bool} (qS : ∀ he fr wo se gn pl, am_get (xw h W F B he fr wo se gn pl) q = some (.inr (9, vq))) (cw : ∀ he fr wo se gn pl, ∀ s t, s < n → t < mi → am_EG mi_41 [.ref q, .retAddr s, .retAddr t] (xw h W F B he fr wo se gn pl) (some (.retAddr (fw s t)), xw h W F B he fr wo se gn pl)) (ck : ∀ he fr wo se gn pl, ∀ s t, s < n → t < mi → am_EG mi_68 [.ref q, .retAddr s, .retAddr t] (xw h W F B he fr wo se gn pl) (some (.retAddr (fbt (ff s t))), xw h W F B he fr wo se gn pl)) (c1 : ∀ he fr wo se gn pl, ∀ s t, s < n → t < mi → fb s t = true → am_EG mi_53 [.ref q, .retAddr s, .retAddr t] (xw h W F B he fr wo se gn pl) (some (.retAddr 1), xw h W F B he fr wo se gn pl)) (c0 : ∀ he fr wo se gn pl, ∀ s t, s < n → t < mi → ¬ fb s t = true → am_EG mi_53 [.ref q, .retAddr s, .retAddr t] (xw h W F B he fr wo se gn pl) (some (.retAddr 0), xw h W F B he fr wo se gn pl)) (hn : n ≤ 4) (hm : mi ≤ 60) (hgo : go ≤ 3) (h99 : ∀ s t, s < n → t < mi → fw s t ≤ 99) (h8 : ∀ s t, fbt (ff s t) < 256) {he fr wo se gn pl : Nat} {own t : Nat} (ht : t < mi) (hh : he < n) (ho : own < n) (hb : ¬ fb own t = true) : am_EG mi_72 [.ref 40, .ref q, .retAddr n, .retAddr 2, .retAddr own, .retAddr t] (xw h W F B he fr wo se gn pl) (some (.retAddr own), (xw h W F B he fr wo se gn pl)) := by
  refine am_enter (n := 0) tk_72.2.1 (by simp [Value.category]) (Nat.le_of_ble_eq_true rfl) ?_
  show am_Good mi_72 0 [some (.ref 40), some (.ref q), some (.retAddr n), some (.retAddr 2), some (.retAddr own), some (.retAddr t)] [] (xw h W F B he fr wo se gn pl) _
  refine g_iload_n (i := 3) dd_72_0 rfl ?_
  refine g_tableIn (a := 2) (off := 36) (t := 37) dd_72_1 (by decide) (by decide) (by decide) rfl (by decide) ?_
  refine g_aload_n (i := 1) dd_72_37 rfl ?_
  refine g_iload dd_72_38 rfl ?_
  refine g_iload dd_72_40 rfl ?_
  refine g_virtual (M' := mi_53) (n := 2) (ci := 9) (b := q) (as := [.retAddr own, .retAddr t]) (st := []) (r1 := (some (.retAddr 0), (xw h W F B he fr wo se gn pl))) w_679 w_594 w_595 ⟨lk_53.1, lk_53.2.1, lk_53.2.2, by decide, by decide⟩ rfl (qS _ _ _ _ _ _) rfl (by simp [Value.category]) dd_72_42 (c0 _ _ _ _ _ _ _ _ (by omega) (by omega) hb) ?_
  show am_Good mi_72 45 [some (.ref 40), some (.ref q), some (.retAddr n), some (.retAddr 2), some (.retAddr own), some (.retAddr t)] [.retAddr 0] (xw h W F B he fr wo se gn pl) _
  refine g_if_eq_t (t := 59) dd_72_45 (by decide) (by decide) ?_
  refine g_iload dd_72_59 rfl ?_
  exact g_ireturn rfl dd_72_61
theorem wi_3 {h : am_H} {W F B n mi go : Nat} (hH : xw_ok h) {q : Nat} {vq : List Value} {fw ff : Nat → Nat → Nat} {fb : Nat → Nat → Bool} (qS : ∀ he fr wo se gn pl, am_get (xw h W F B he fr wo se gn pl) q = some (.inr (9, vq))) (cw : ∀ he fr wo se gn pl, ∀ s t, s < n → t < mi → am_EG mi_41 [.ref q, .retAddr s, .retAddr t] (xw h W F B he fr wo se gn pl) (some (.retAddr (fw s t)), xw h W F B he fr wo se gn pl)) (ck : ∀ he fr wo se gn pl, ∀ s t, s < n → t < mi → am_EG mi_68 [.ref q, .retAddr s, .retAddr t] (xw h W F B he fr wo se gn pl) (some (.retAddr (fbt (ff s t))), xw h W F B he fr wo se gn pl)) (c1 : ∀ he fr wo se gn pl, ∀ s t, s < n → t < mi → fb s t = true → am_EG mi_53 [.ref q, .retAddr s, .retAddr t] (xw h W F B he fr wo se gn pl) (some (.retAddr 1), xw h W F B he fr wo se gn pl)) (c0 : ∀ he fr wo se gn pl, ∀ s t, s < n → t < mi → ¬ fb s t = true → am_EG mi_53 [.ref q, .retAddr s, .retAddr t] (xw h W F B he fr wo se gn pl) (some (.retAddr 0), xw h W F B he fr wo se gn pl)) (hn : n ≤ 4) (hm : mi ≤ 60) (hgo : go ≤ 3) (h99 : ∀ s t, s < n → t < mi → fw s t ≤ 99) (h8 : ∀ s t, fbt (ff s t) < 256) {he fr wo se gn pl : Nat} {own t : Nat} (ht : t < mi) (hh : he < n) (ho : own < n) : am_EG mi_72 [.ref 40, .ref q, .retAddr n, .retAddr 3, .retAddr own, .retAddr t] (xw h W F B he fr wo se gn pl) (some (.retAddr (wk_be fw t he n)), (xw h W F B he fr wo se gn pl)) := by
  refine am_enter (n := 0) tk_72.2.1 (by simp [Value.category]) (Nat.le_of_ble_eq_true rfl) ?_
  show am_Good mi_72 0 [some (.ref 40), some (.ref q), some (.retAddr n), some (.retAddr 3), some (.retAddr own), some (.retAddr t)] [] (xw h W F B he fr wo se gn pl) _
  refine g_iload_n (i := 3) dd_72_0 rfl ?_
  refine g_tableIn (a := 3) (off := 61) (t := 62) dd_72_1 (by decide) (by decide) (by decide) rfl (by decide) ?_
  refine g_aload_n (i := 0) dd_72_62 rfl ?_
  refine g_aload_n (i := 1) dd_72_63 rfl ?_
  refine g_iload_n (i := 2) dd_72_64 rfl ?_
  refine g_iload dd_72_65 rfl ?_
  refine g_virtual (M' := mi_74) (n := 3) (ci := 10) (b := 40) (as := [.ref q, .retAddr n, .retAddr t]) (st := []) (r1 := (some (.retAddr (wk_be fw t he n)), (xw h W F B he fr wo se gn pl))) w_680 w_682 ps_74 ⟨lk_74.1, lk_74.2.1, lk_74.2.2, by decide, by decide⟩ rfl (xw_g40 hH) rfl (by simp [Value.category]) dd_72_67 (wb_m hH qS cw ck c1 c0 hn hm hgo h99 h8 ht hh) ?_
  show am_Good mi_72 70 [some (.ref 40), some (.ref q), some (.retAddr n), some (.retAddr 3), some (.retAddr own), some (.retAddr t)] [.retAddr (wk_be fw t he n)] (xw h W F B he fr wo se gn pl) _
  exact g_ireturn rfl dd_72_70
theorem wi_m {h : am_H} {W F B n mi go : Nat} (hH : xw_ok h) {q : Nat} {vq : List Value} {fw ff : Nat → Nat → Nat} {fb : Nat → Nat → Bool} (qS : ∀ he fr wo se gn pl, am_get (xw h W F B he fr wo se gn pl) q = some (.inr (9, vq))) (cw : ∀ he fr wo se gn pl, ∀ s t, s < n → t < mi → am_EG mi_41 [.ref q, .retAddr s, .retAddr t] (xw h W F B he fr wo se gn pl) (some (.retAddr (fw s t)), xw h W F B he fr wo se gn pl)) (ck : ∀ he fr wo se gn pl, ∀ s t, s < n → t < mi → am_EG mi_68 [.ref q, .retAddr s, .retAddr t] (xw h W F B he fr wo se gn pl) (some (.retAddr (fbt (ff s t))), xw h W F B he fr wo se gn pl)) (c1 : ∀ he fr wo se gn pl, ∀ s t, s < n → t < mi → fb s t = true → am_EG mi_53 [.ref q, .retAddr s, .retAddr t] (xw h W F B he fr wo se gn pl) (some (.retAddr 1), xw h W F B he fr wo se gn pl)) (c0 : ∀ he fr wo se gn pl, ∀ s t, s < n → t < mi → ¬ fb s t = true → am_EG mi_53 [.ref q, .retAddr s, .retAddr t] (xw h W F B he fr wo se gn pl) (some (.retAddr 0), xw h W F B he fr wo se gn pl)) (hn : n ≤ 4) (hm : mi ≤ 60) (hgo : go ≤ 3) (h99 : ∀ s t, s < n → t < mi → fw s t ≤ 99) (h8 : ∀ s t, fbt (ff s t) < 256) {he fr wo se gn pl : Nat} {own t : Nat} (ht : t < mi) (hh : he < n) (ho : own < n) {kind : Nat} (hk : kind ≤ 3) : am_EG mi_72 [.ref 40, .ref q, .retAddr n, .retAddr kind, .retAddr own, .retAddr t] (xw h W F B he fr wo se gn pl) (some (.retAddr (wk_wi fw fb n kind own t he)), (xw h W F B he fr wo se gn pl)) := by
  unfold wk_wi
  rcases (show kind = 0 ∨ kind = 1 ∨ kind = 2 ∨ kind = 3 by omega) with rfl | rfl | rfl | rfl
  · exact wi_0 hH qS cw ck c1 c0 hn hm hgo h99 h8 ht hh ho
  · exact wi_1 hH qS cw ck c1 c0 hn hm hgo h99 h8 ht hh ho
  · by_cases hb : fb own t = true
    · rw [if_neg (by decide), if_neg (by decide), if_pos rfl, if_pos hb]
      exact wi_2a hH qS cw ck c1 c0 hn hm hgo h99 h8 ht hh ho hb
    · rw [if_neg (by decide), if_neg (by decide), if_pos rfl, if_neg hb]
      exact wi_2b hH qS cw ck c1 c0 hn hm hgo h99 h8 ht hh ho hb
  · exact wi_3 hH qS cw ck c1 c0 hn hm hgo h99 h8 ht hh ho
theorem wg_s {h : am_H} {W F B n mi go : Nat} (hH : xw_ok h) {q : Nat} {vq : List Value} {fw ff : Nat → Nat → Nat} {fb : Nat → Nat → Bool} (qS : ∀ he fr wo se gn pl, am_get (xw h W F B he fr wo se gn pl) q = some (.inr (9, vq))) (cw : ∀ he fr wo se gn pl, ∀ s t, s < n → t < mi → am_EG mi_41 [.ref q, .retAddr s, .retAddr t] (xw h W F B he fr wo se gn pl) (some (.retAddr (fw s t)), xw h W F B he fr wo se gn pl)) (ck : ∀ he fr wo se gn pl, ∀ s t, s < n → t < mi → am_EG mi_68 [.ref q, .retAddr s, .retAddr t] (xw h W F B he fr wo se gn pl) (some (.retAddr (fbt (ff s t))), xw h W F B he fr wo se gn pl)) (c1 : ∀ he fr wo se gn pl, ∀ s t, s < n → t < mi → fb s t = true → am_EG mi_53 [.ref q, .retAddr s, .retAddr t] (xw h W F B he fr wo se gn pl) (some (.retAddr 1), xw h W F B he fr wo se gn pl)) (c0 : ∀ he fr wo se gn pl, ∀ s t, s < n → t < mi → ¬ fb s t = true → am_EG mi_53 [.ref q, .retAddr s, .retAddr t] (xw h W F B he fr wo se gn pl) (some (.retAddr 0), xw h W F B he fr wo se gn pl)) (hn : n ≤ 4) (hm : mi ≤ 60) (hgo : go ≤ 3) (h99 : ∀ s t, s < n → t < mi → fw s t ≤ 99) (h8 : ∀ s t, fbt (ff s t) < 256) {he fr wo se gn pl : Nat} {t st : Nat} (hs : st = he) : am_EG mi_66 [.ref 40, .retAddr t, .retAddr st, .retAddr go] (xw h W F B he fr wo se gn pl) (none, (xw h W F B he fr wo se gn pl)) := by
  refine am_enter (n := 0) tk_66.2.1 (by simp [Value.category]) (Nat.le_of_ble_eq_true rfl) ?_
  show am_Good mi_66 0 [some (.ref 40), some (.retAddr t), some (.retAddr st), some (.retAddr go)] [] (xw h W F B he fr wo se gn pl) _
  refine g_iload_n (i := 2) dd_66_0 rfl ?_
  refine g_aload_n (i := 0) dd_66_1 rfl ?_
  refine g_getfield (k := 2) am_ck10 (by decide) (Or.inl w_171) dd_66_2 (xw_g40 hH) rfl ?_
  refine g_icmp_eq_t (t := 30) dd_66_5 (by decide) (tk_eq_t (by omega)) ?_
  exact g_return rfl dd_66_30
theorem wg_c {h : am_H} {W F B n mi go : Nat} (hH : xw_ok h) {q : Nat} {vq : List Value} {fw ff : Nat → Nat → Nat} {fb : Nat → Nat → Bool} (qS : ∀ he fr wo se gn pl, am_get (xw h W F B he fr wo se gn pl) q = some (.inr (9, vq))) (cw : ∀ he fr wo se gn pl, ∀ s t, s < n → t < mi → am_EG mi_41 [.ref q, .retAddr s, .retAddr t] (xw h W F B he fr wo se gn pl) (some (.retAddr (fw s t)), xw h W F B he fr wo se gn pl)) (ck : ∀ he fr wo se gn pl, ∀ s t, s < n → t < mi → am_EG mi_68 [.ref q, .retAddr s, .retAddr t] (xw h W F B he fr wo se gn pl) (some (.retAddr (fbt (ff s t))), xw h W F B he fr wo se gn pl)) (c1 : ∀ he fr wo se gn pl, ∀ s t, s < n → t < mi → fb s t = true → am_EG mi_53 [.ref q, .retAddr s, .retAddr t] (xw h W F B he fr wo se gn pl) (some (.retAddr 1), xw h W F B he fr wo se gn pl)) (c0 : ∀ he fr wo se gn pl, ∀ s t, s < n → t < mi → ¬ fb s t = true → am_EG mi_53 [.ref q, .retAddr s, .retAddr t] (xw h W F B he fr wo se gn pl) (some (.retAddr 0), xw h W F B he fr wo se gn pl)) (hn : n ≤ 4) (hm : mi ≤ 60) (hgo : go ≤ 3) (h99 : ∀ s t, s < n → t < mi → fw s t ≤ 99) (h8 : ∀ s t, fbt (ff s t) < 256) {he fr wo se gn pl : Nat} {t st : Nat} (hs : st ≠ he) (h1 : st < 4) (h2 : he < 4) (ht : t < 60) (hgn : gn ≤ 60) : am_EG mi_66 [.ref 40, .retAddr t, .retAddr st, .retAddr go] (xw h W F B he fr wo se gn pl) (none, (xw h W F B st (t + go) wo se (gn + 1) pl)) := by
  refine am_enter (n := 0) tk_66.2.1 (by simp [Value.category]) (Nat.le_of_ble_eq_true rfl) ?_
  show am_Good mi_66 0 [some (.ref 40), some (.retAddr t), some (.retAddr st), some (.retAddr go)] [] (xw h W F B he fr wo se gn pl) _
  refine g_iload_n (i := 2) dd_66_0 rfl ?_
  refine g_aload_n (i := 0) dd_66_1 rfl ?_
  refine g_getfield (k := 2) am_ck10 (by decide) (Or.inl w_171) dd_66_2 (xw_g40 hH) rfl ?_
  refine g_icmp_eq_f (t := 30) dd_66_5 (by decide) (tk_eq_f (by omega)) ?_
  refine g_aload_n (i := 0) dd_66_8 rfl ?_
  refine g_iload_n (i := 2) dd_66_9 rfl ?_
  refine g_putfield (k := 2) am_ck10 (by decide) (Or.inl w_171) (Or.inl rfl) dd_66_10 (xw_g40 hH) (Nat.le_of_ble_eq_true rfl) trivial ?_
  refine am_heq (xw_u40 hH) ?_
  show am_Good mi_66 13 [some (.ref 40), some (.retAddr t), some (.retAddr st), some (.retAddr go)] [] (xw h W F B st fr wo se gn pl) _
  refine g_aload_n (i := 0) dd_66_13 rfl ?_
  refine g_iload_n (i := 1) dd_66_14 rfl ?_
  refine g_iload_n (i := 3) dd_66_15 rfl ?_
  refine e_iadd (v := t + go) dd_66_16 (by omega) ?_
  refine g_putfield (k := 3) am_ck10 (by decide) (Or.inl w_172) (Or.inl rfl) dd_66_17 (xw_g40 hH) (Nat.le_of_ble_eq_true rfl) trivial ?_
  refine am_heq (xw_u40 hH) ?_
  show am_Good mi_66 20 [some (.ref 40), some (.retAddr t), some (.retAddr st), some (.retAddr go)] [] (xw h W F B st (t + go) wo se gn pl) _
  refine g_aload_n (i := 0) dd_66_20 rfl ?_
  refine g_dup dd_66_21 rfl ?_
  refine g_getfield (k := 6) am_ck10 (by decide) (Or.inl w_177) dd_66_22 (xw_g40 hH) rfl ?_
  refine g_iconst dd_66_25 ic_1 ?_
  refine e_iadd (v := gn + 1) dd_66_26 (by omega) ?_
  refine g_putfield (k := 6) am_ck10 (by decide) (Or.inl w_177) (Or.inl rfl) dd_66_27 (xw_g40 hH) (Nat.le_of_ble_eq_true rfl) trivial ?_
  refine am_heq (xw_u40 hH) ?_
  show am_Good mi_66 30 [some (.ref 40), some (.retAddr t), some (.retAddr st), some (.retAddr go)] [] (xw h W F B st (t + go) wo se (gn + 1) pl) _
  exact g_return rfl dd_66_30
theorem wg_0 {h : am_H} {W F B n mi go : Nat} (hH : xw_ok h) {q : Nat} {vq : List Value} {fw ff : Nat → Nat → Nat} {fb : Nat → Nat → Bool} (qS : ∀ he fr wo se gn pl, am_get (xw h W F B he fr wo se gn pl) q = some (.inr (9, vq))) (cw : ∀ he fr wo se gn pl, ∀ s t, s < n → t < mi → am_EG mi_41 [.ref q, .retAddr s, .retAddr t] (xw h W F B he fr wo se gn pl) (some (.retAddr (fw s t)), xw h W F B he fr wo se gn pl)) (ck : ∀ he fr wo se gn pl, ∀ s t, s < n → t < mi → am_EG mi_68 [.ref q, .retAddr s, .retAddr t] (xw h W F B he fr wo se gn pl) (some (.retAddr (fbt (ff s t))), xw h W F B he fr wo se gn pl)) (c1 : ∀ he fr wo se gn pl, ∀ s t, s < n → t < mi → fb s t = true → am_EG mi_53 [.ref q, .retAddr s, .retAddr t] (xw h W F B he fr wo se gn pl) (some (.retAddr 1), xw h W F B he fr wo se gn pl)) (c0 : ∀ he fr wo se gn pl, ∀ s t, s < n → t < mi → ¬ fb s t = true → am_EG mi_53 [.ref q, .retAddr s, .retAddr t] (xw h W F B he fr wo se gn pl) (some (.retAddr 0), xw h W F B he fr wo se gn pl)) (hn : n ≤ 4) (hm : mi ≤ 60) (hgo : go ≤ 3) (h99 : ∀ s t, s < n → t < mi → fw s t ≤ 99) (h8 : ∀ s t, fbt (ff s t) < 256) {he fr wo se gn pl : Nat} {st : Nat} : am_EG mi_63 [.ref 40, .retAddr st] (xw h W F B he fr wo se gn pl) (none, (xw h W F B st 0 0 0 0 pl)) := by
  refine am_enter (n := 0) tk_63.2.1 (by simp [Value.category]) (Nat.le_of_ble_eq_true rfl) ?_
  show am_Good mi_63 0 [some (.ref 40), some (.retAddr st)] [] (xw h W F B he fr wo se gn pl) _
  refine g_aload_n (i := 0) dd_63_0 rfl ?_
  refine g_iload_n (i := 1) dd_63_1 rfl ?_
  refine g_putfield (k := 2) am_ck10 (by decide) (Or.inl w_171) (Or.inl rfl) dd_63_2 (xw_g40 hH) (Nat.le_of_ble_eq_true rfl) trivial ?_
  refine am_heq (xw_u40 hH) ?_
  show am_Good mi_63 5 [some (.ref 40), some (.retAddr st)] [] (xw h W F B st fr wo se gn pl) _
  refine g_aload_n (i := 0) dd_63_5 rfl ?_
  refine g_iconst dd_63_6 ic_0 ?_
  refine g_putfield (k := 3) am_ck10 (by decide) (Or.inl w_172) (Or.inl rfl) dd_63_7 (xw_g40 hH) (Nat.le_of_ble_eq_true rfl) trivial ?_
  refine am_heq (xw_u40 hH) ?_
  show am_Good mi_63 10 [some (.ref 40), some (.retAddr st)] [] (xw h W F B st 0 wo se gn pl) _
  refine g_aload_n (i := 0) dd_63_10 rfl ?_
  refine g_iconst dd_63_11 ic_0 ?_
  refine g_putfield (k := 4) am_ck10 (by decide) (Or.inl w_173) (Or.inl rfl) dd_63_12 (xw_g40 hH) (Nat.le_of_ble_eq_true rfl) trivial ?_
  refine am_heq (xw_u40 hH) ?_
  show am_Good mi_63 15 [some (.ref 40), some (.retAddr st)] [] (xw h W F B st 0 0 se gn pl) _
  refine g_aload_n (i := 0) dd_63_15 rfl ?_
  refine g_iconst dd_63_16 ic_0 ?_
  refine g_putfield (k := 5) am_ck10 (by decide) (Or.inl w_175) (Or.inl rfl) dd_63_17 (xw_g40 hH) (Nat.le_of_ble_eq_true rfl) trivial ?_
  refine am_heq (xw_u40 hH) ?_
  show am_Good mi_63 20 [some (.ref 40), some (.retAddr st)] [] (xw h W F B st 0 0 0 gn pl) _
  refine g_aload_n (i := 0) dd_63_20 rfl ?_
  refine g_iconst dd_63_21 ic_0 ?_
  refine g_putfield (k := 6) am_ck10 (by decide) (Or.inl w_177) (Or.inl rfl) dd_63_22 (xw_g40 hH) (Nat.le_of_ble_eq_true rfl) trivial ?_
  refine am_heq (xw_u40 hH) ?_
  show am_Good mi_63 25 [some (.ref 40), some (.retAddr st)] [] (xw h W F B st 0 0 0 0 pl) _
  exact g_return rfl dd_63_25
theorem wl_n {h : am_H} {W F B n mi go : Nat} (hH : xw_ok h) {q : Nat} {vq : List Value} {fw ff : Nat → Nat → Nat} {fb : Nat → Nat → Bool} (qS : ∀ he fr wo se gn pl, am_get (xw h W F B he fr wo se gn pl) q = some (.inr (9, vq))) (cw : ∀ he fr wo se gn pl, ∀ s t, s < n → t < mi → am_EG mi_41 [.ref q, .retAddr s, .retAddr t] (xw h W F B he fr wo se gn pl) (some (.retAddr (fw s t)), xw h W F B he fr wo se gn pl)) (ck : ∀ he fr wo se gn pl, ∀ s t, s < n → t < mi → am_EG mi_68 [.ref q, .retAddr s, .retAddr t] (xw h W F B he fr wo se gn pl) (some (.retAddr (fbt (ff s t))), xw h W F B he fr wo se gn pl)) (c1 : ∀ he fr wo se gn pl, ∀ s t, s < n → t < mi → fb s t = true → am_EG mi_53 [.ref q, .retAddr s, .retAddr t] (xw h W F B he fr wo se gn pl) (some (.retAddr 1), xw h W F B he fr wo se gn pl)) (c0 : ∀ he fr wo se gn pl, ∀ s t, s < n → t < mi → ¬ fb s t = true → am_EG mi_53 [.ref q, .retAddr s, .retAddr t] (xw h W F B he fr wo se gn pl) (some (.retAddr 0), xw h W F B he fr wo se gn pl)) (hn : n ≤ 4) (hm : mi ≤ 60) (hgo : go ≤ 3) (h99 : ∀ s t, s < n → t < mi → fw s t ≤ 99) (h8 : ∀ s t, fbt (ff s t) < 256) {he fr wo se gn pl : Nat} {t : Nat} (ht : t < mi) (hf : t < fr) (hfr : fr ≤ 70) : am_EG mi_67 [.ref 40, .ref q, .retAddr t] (xw h W F B he fr wo se gn pl) (none, (xw h W F B he fr wo se gn (am_as pl t 4294967292))) := by
  refine am_enter (n := 0) tk_67.2.1 (by simp [Value.category]) (Nat.le_of_ble_eq_true rfl) ?_
  show am_Good mi_67 0 [some (.ref 40), some (.ref q), some (.retAddr t)] [] (xw h W F B he fr wo se gn pl) _
  refine g_iload_n (i := 2) dd_67_0 rfl ?_
  refine g_if_lt_f (t := 10) dd_67_1 (by decide) (by first | exact sk_lt_f (by omega) (by omega) | exact tk_lt_f (by omega)) ?_
  refine g_iload_n (i := 2) dd_67_4 rfl ?_
  refine g_bipush dd_67_5 bi_60 ?_
  refine g_icmp_lt_t (t := 11) dd_67_7 (by decide) (by first | exact sk_lt_t (by omega) (by omega) | exact tk_lt_t (by omega)) ?_
  refine g_iload_n (i := 2) dd_67_11 rfl ?_
  refine g_aload_n (i := 0) dd_67_12 rfl ?_
  refine g_getfield (k := 3) am_ck10 (by decide) (Or.inl w_172) dd_67_13 (xw_g40 hH) rfl ?_
  refine g_icmp_ge_f (t := 28) dd_67_16 (by decide) (by first | exact sk_ge_f (by omega) (by omega) | exact tk_ge_f (by omega)) ?_
  refine g_aload_n (i := 0) dd_67_19 rfl ?_
  refine g_getfield (k := 0) am_ck10 (by decide) (Or.inl w_169) dd_67_20 (xw_g40 hH) rfl ?_
  refine g_iload_n (i := 2) dd_67_23 rfl ?_
  refine g_bipush dd_67_24 bi_m4 ?_
  refine g_iastore dd_67_26 (xw_g41 hH) (by omega) (by decide) ?_
  refine am_heq (xw_u41 hH) ?_
  show am_Good mi_67 27 [some (.ref 40), some (.ref q), some (.retAddr t)] [] (xw h W F B he fr wo se gn (am_as pl t 4294967292)) _
  exact g_return rfl dd_67_27
theorem wl_y {h : am_H} {W F B n mi go : Nat} (hH : xw_ok h) {q : Nat} {vq : List Value} {fw ff : Nat → Nat → Nat} {fb : Nat → Nat → Bool} (qS : ∀ he fr wo se gn pl, am_get (xw h W F B he fr wo se gn pl) q = some (.inr (9, vq))) (cw : ∀ he fr wo se gn pl, ∀ s t, s < n → t < mi → am_EG mi_41 [.ref q, .retAddr s, .retAddr t] (xw h W F B he fr wo se gn pl) (some (.retAddr (fw s t)), xw h W F B he fr wo se gn pl)) (ck : ∀ he fr wo se gn pl, ∀ s t, s < n → t < mi → am_EG mi_68 [.ref q, .retAddr s, .retAddr t] (xw h W F B he fr wo se gn pl) (some (.retAddr (fbt (ff s t))), xw h W F B he fr wo se gn pl)) (c1 : ∀ he fr wo se gn pl, ∀ s t, s < n → t < mi → fb s t = true → am_EG mi_53 [.ref q, .retAddr s, .retAddr t] (xw h W F B he fr wo se gn pl) (some (.retAddr 1), xw h W F B he fr wo se gn pl)) (c0 : ∀ he fr wo se gn pl, ∀ s t, s < n → t < mi → ¬ fb s t = true → am_EG mi_53 [.ref q, .retAddr s, .retAddr t] (xw h W F B he fr wo se gn pl) (some (.retAddr 0), xw h W F B he fr wo se gn pl)) (hn : n ≤ 4) (hm : mi ≤ 60) (hgo : go ≤ 3) (h99 : ∀ s t, s < n → t < mi → fw s t ≤ 99) (h8 : ∀ s t, fbt (ff s t) < 256) {he fr wo se gn pl : Nat} {t : Nat} (ht : t < mi) (hf : ¬ t < fr) (hh : he < n) (hwo : wo ≤ 6000) : am_EG mi_67 [.ref 40, .ref q, .retAddr t] (xw h W F B he fr wo se gn pl) (none, (xw h W F B he fr (wo + fw he t) (se ||| fbt (ff he t)) gn (am_as pl t he))) := by
  refine am_enter (n := 0) tk_67.2.1 (by simp [Value.category]) (Nat.le_of_ble_eq_true rfl) ?_
  show am_Good mi_67 0 [some (.ref 40), some (.ref q), some (.retAddr t)] [] (xw h W F B he fr wo se gn pl) _
  have g1 := h99 he t hh ht
  refine g_iload_n (i := 2) dd_67_0 rfl ?_
  refine g_if_lt_f (t := 10) dd_67_1 (by decide) (by first | exact sk_lt_f (by omega) (by omega) | exact tk_lt_f (by omega)) ?_
  refine g_iload_n (i := 2) dd_67_4 rfl ?_
  refine g_bipush dd_67_5 bi_60 ?_
  refine g_icmp_lt_t (t := 11) dd_67_7 (by decide) (by first | exact sk_lt_t (by omega) (by omega) | exact tk_lt_t (by omega)) ?_
  refine g_iload_n (i := 2) dd_67_11 rfl ?_
  refine g_aload_n (i := 0) dd_67_12 rfl ?_
  refine g_getfield (k := 3) am_ck10 (by decide) (Or.inl w_172) dd_67_13 (xw_g40 hH) rfl ?_
  refine g_icmp_ge_t (t := 28) dd_67_16 (by decide) (by first | exact sk_ge_t (by omega) (by omega) | exact tk_ge_t (by omega)) ?_
  refine g_aload_n (i := 0) dd_67_28 rfl ?_
  refine g_getfield (k := 0) am_ck10 (by decide) (Or.inl w_169) dd_67_29 (xw_g40 hH) rfl ?_
  refine g_iload_n (i := 2) dd_67_32 rfl ?_
  refine g_aload_n (i := 0) dd_67_33 rfl ?_
  refine g_getfield (k := 2) am_ck10 (by decide) (Or.inl w_171) dd_67_34 (xw_g40 hH) rfl ?_
  refine g_iastore dd_67_37 (xw_g41 hH) (by omega) (by decide) ?_
  refine am_heq (xw_u41 hH) ?_
  show am_Good mi_67 38 [some (.ref 40), some (.ref q), some (.retAddr t)] [] (xw h W F B he fr wo se gn (am_as pl t he)) _
  refine g_aload_n (i := 0) dd_67_38 rfl ?_
  refine g_dup dd_67_39 rfl ?_
  refine g_getfield (k := 4) am_ck10 (by decide) (Or.inl w_173) dd_67_40 (xw_g40 hH) rfl ?_
  refine g_aload_n (i := 1) dd_67_43 rfl ?_
  refine g_aload_n (i := 0) dd_67_44 rfl ?_
  refine g_getfield (k := 2) am_ck10 (by decide) (Or.inl w_171) dd_67_45 (xw_g40 hH) rfl ?_
  refine g_iload_n (i := 2) dd_67_48 rfl ?_
  refine g_virtual (M' := mi_41) (n := 2) (ci := 9) (b := q) (as := [.retAddr he, .retAddr t]) (st := [.retAddr wo, .ref 40]) (r1 := (some (.retAddr (fw he t)), (xw h W F B he fr wo se gn (am_as pl t he)))) w_653 w_491 w_492 ⟨lk_41.1, lk_41.2.1, lk_41.2.2, by decide, by decide⟩ rfl (qS _ _ _ _ _ _) rfl (by simp [Value.category]) dd_67_49 (cw _ _ _ _ _ _ _ _ (by omega) (by omega)) ?_
  show am_Good mi_67 52 [some (.ref 40), some (.ref q), some (.retAddr t)] [.retAddr (fw he t), .retAddr wo, .ref 40] (xw h W F B he fr wo se gn (am_as pl t he)) _
  refine e_iadd (v := wo + (fw he t)) dd_67_52 (by omega) ?_
  refine g_putfield (k := 4) am_ck10 (by decide) (Or.inl w_173) (Or.inl rfl) dd_67_53 (xw_g40 hH) (Nat.le_of_ble_eq_true rfl) trivial ?_
  refine am_heq (xw_u40 hH) ?_
  show am_Good mi_67 56 [some (.ref 40), some (.ref q), some (.retAddr t)] [] (xw h W F B he fr (wo + (fw he t)) se gn (am_as pl t he)) _
  refine g_aload_n (i := 0) dd_67_56 rfl ?_
  refine g_dup dd_67_57 rfl ?_
  refine g_getfield (k := 5) am_ck10 (by decide) (Or.inl w_175) dd_67_58 (xw_g40 hH) rfl ?_
  refine g_aload_n (i := 1) dd_67_61 rfl ?_
  refine g_aload_n (i := 0) dd_67_62 rfl ?_
  refine g_getfield (k := 2) am_ck10 (by decide) (Or.inl w_171) dd_67_63 (xw_g40 hH) rfl ?_
  refine g_iload_n (i := 2) dd_67_66 rfl ?_
  refine g_virtual (M' := mi_68) (n := 2) (ci := 9) (b := q) (as := [.retAddr he, .retAddr t]) (st := [.retAddr se, .ref 40]) (r1 := (some (.retAddr (fbt (ff he t))), (xw h W F B he fr (wo + (fw he t)) se gn (am_as pl t he)))) w_654 w_655 w_656 ⟨lk_68.1, lk_68.2.1, lk_68.2.2, by decide, by decide⟩ rfl (qS _ _ _ _ _ _) rfl (by simp [Value.category]) dd_67_67 (ck _ _ _ _ _ _ _ _ (by omega) (by omega)) ?_
  show am_Good mi_67 70 [some (.ref 40), some (.ref q), some (.retAddr t)] [.retAddr (fbt (ff he t)), .retAddr se, .ref 40] (xw h W F B he fr (wo + (fw he t)) se gn (am_as pl t he)) _
  refine e_ior (v := se ||| (fbt (ff he t))) dd_67_70 (rfl) ?_
  refine g_putfield (k := 5) am_ck10 (by decide) (Or.inl w_175) (Or.inl rfl) dd_67_71 (xw_g40 hH) (Nat.le_of_ble_eq_true rfl) trivial ?_
  refine am_heq (xw_u40 hH) ?_
  show am_Good mi_67 74 [some (.ref 40), some (.ref q), some (.retAddr t)] [] (xw h W F B he fr (wo + (fw he t)) (se ||| (fbt (ff he t))) gn (am_as pl t he)) _
  exact g_return rfl dd_67_74
theorem wk_a {h : am_H} {W F B n mi go : Nat} (hH : xw_ok h) {q : Nat} {vq : List Value} {fw ff : Nat → Nat → Nat} {fb : Nat → Nat → Bool} (qS : ∀ he fr wo se gn pl, am_get (xw h W F B he fr wo se gn pl) q = some (.inr (9, vq))) (cw : ∀ he fr wo se gn pl, ∀ s t, s < n → t < mi → am_EG mi_41 [.ref q, .retAddr s, .retAddr t] (xw h W F B he fr wo se gn pl) (some (.retAddr (fw s t)), xw h W F B he fr wo se gn pl)) (ck : ∀ he fr wo se gn pl, ∀ s t, s < n → t < mi → am_EG mi_68 [.ref q, .retAddr s, .retAddr t] (xw h W F B he fr wo se gn pl) (some (.retAddr (fbt (ff s t))), xw h W F B he fr wo se gn pl)) (c1 : ∀ he fr wo se gn pl, ∀ s t, s < n → t < mi → fb s t = true → am_EG mi_53 [.ref q, .retAddr s, .retAddr t] (xw h W F B he fr wo se gn pl) (some (.retAddr 1), xw h W F B he fr wo se gn pl)) (c0 : ∀ he fr wo se gn pl, ∀ s t, s < n → t < mi → ¬ fb s t = true → am_EG mi_53 [.ref q, .retAddr s, .retAddr t] (xw h W F B he fr wo se gn pl) (some (.retAddr 0), xw h W F B he fr wo se gn pl)) (hn : n ≤ 4) (hm : mi ≤ 60) (hgo : go ≤ 3) (h99 : ∀ s t, s < n → t < mi → fw s t ≤ 99) (h8 : ∀ s t, fbt (ff s t) < 256) {E a0 : Nat} {vE w0 : List Value} (nE : am_lk [(37, am_e0), (38, am_e0), (39, am_e0), (40, am_e0), (41, am_e0)] E = none) (qE : am_get h E = some (.inr (1, vE))) (e0 : vE[0]? = some (.ref a0)) (e6 : vE[6]? = some (.retAddr mi)) (e7 : vE[7]? = some (.retAddr go)) (nA : am_lk [(37, am_e0), (38, am_e0), (39, am_e0), (40, am_e0), (41, am_e0)] a0 = none) (r0 : am_get h a0 = some (.inr (8, w0))) (s0 : w0[3]? = some (.retAddr n)) {he fr wo se gn pl : Nat} {r : am_R} {kind own t : Nat} (hk : kind ≤ 3) (ho : own < n) (ht : t < mi) (hh : he < n) (hfr : fr ≤ 62) (hwo : wo ≤ 5940) (hgn : gn ≤ 60) (hf : fr ≤ t) (hw : wk_wi fw fb n kind own t he = he) (hg : am_Good mi_71 18 [some (.ref 40), some (.ref E), some (.ref q), some (.retAddr kind), some (.retAddr own), some (.retAddr n), some (.retAddr (t + 1))] [] (xw h W F B he fr (wo + fw he t) (se ||| fbt (ff he t)) gn (am_as pl t he)) r) : am_Good mi_71 18 [some (.ref 40), some (.ref E), some (.ref q), some (.retAddr kind), some (.retAddr own), some (.retAddr n), some (.retAddr t)] [] (xw h W F B he fr wo se gn pl) r := by
  have hl := wk_wi_lt (fw := fw) (fb := fb) (kind := kind) (t := t) hh ho
  refine g_iload dd_71_18 rfl ?_
  refine g_aload_n (i := 1) dd_71_20 rfl ?_
  refine g_getfield (k := 6) am_ck1 (by decide) (Or.inr ⟨_, w_107⟩) dd_71_21 ((xw_o hH nE).trans qE) e6 ?_
  refine g_icmp_ge_f (t := 71) dd_71_24 (by decide) (by first | exact sk_ge_f (by omega) (by omega) | exact tk_ge_f (by omega)) ?_
  refine g_iload dd_71_27 rfl ?_
  refine g_aload_n (i := 0) dd_71_29 rfl ?_
  refine g_getfield (k := 3) am_ck10 (by decide) (Or.inl w_172) dd_71_30 (xw_g40 hH) rfl ?_
  refine g_icmp_lt_f (t := 58) dd_71_33 (by decide) (by first | exact sk_lt_f (by omega) (by omega) | exact tk_lt_f (by omega)) ?_
  refine g_aload_n (i := 0) dd_71_36 rfl ?_
  refine g_iload dd_71_37 rfl ?_
  refine g_aload_n (i := 0) dd_71_39 rfl ?_
  refine g_aload_n (i := 2) dd_71_40 rfl ?_
  refine g_iload dd_71_41 rfl ?_
  refine g_iload_n (i := 3) dd_71_43 rfl ?_
  refine g_iload dd_71_44 rfl ?_
  refine g_iload dd_71_46 rfl ?_
  refine g_virtual (M' := mi_72) (n := 5) (ci := 10) (b := 40) (as := [.ref q, .retAddr n, .retAddr kind, .retAddr own, .retAddr t]) (st := [.retAddr t, .ref 40]) (r1 := (some (.retAddr (wk_wi fw fb n kind own t he)), (xw h W F B he fr wo se gn pl))) w_671 w_673 ps_72 ⟨lk_72.1, lk_72.2.1, lk_72.2.2, by decide, by decide⟩ rfl (xw_g40 hH) rfl (by simp [Value.category]) dd_71_48 (wi_m hH qS cw ck c1 c0 hn hm hgo h99 h8 ht hh ho hk) ?_
  show am_Good mi_71 51 [some (.ref 40), some (.ref E), some (.ref q), some (.retAddr kind), some (.retAddr own), some (.retAddr n), some (.retAddr t)] [.retAddr (wk_wi fw fb n kind own t he), .retAddr t, .ref 40] (xw h W F B he fr wo se gn pl) _
  refine g_aload_n (i := 1) dd_71_51 rfl ?_
  refine g_getfield (k := 7) am_ck1 (by decide) (Or.inr ⟨_, w_115⟩) dd_71_52 ((xw_o hH nE).trans qE) e7 ?_
  refine g_virtual (M' := mi_66) (n := 3) (ci := 10) (b := 40) (as := [.retAddr t, .retAddr (wk_wi fw fb n kind own t he), .retAddr go]) (st := []) (r1 := (none, (xw h W F B he fr wo se gn pl))) w_645 w_647 ps_66 ⟨lk_66.1, lk_66.2.1, lk_66.2.2, by decide, by decide⟩ rfl (xw_g40 hH) rfl (by simp [Value.category]) dd_71_55 (wg_s hH qS cw ck c1 c0 hn hm hgo h99 h8 hw) ?_
  show am_Good mi_71 58 [some (.ref 40), some (.ref E), some (.ref q), some (.retAddr kind), some (.retAddr own), some (.retAddr n), some (.retAddr t)] [] (xw h W F B he fr wo se gn pl) _
  refine g_aload_n (i := 0) dd_71_58 rfl ?_
  refine g_aload_n (i := 2) dd_71_59 rfl ?_
  refine g_iload dd_71_60 rfl ?_
  refine g_virtual (M' := mi_67) (n := 2) (ci := 10) (b := 40) (as := [.ref q, .retAddr t]) (st := []) (r1 := (none, (xw h W F B he fr (wo + fw he t) (se ||| fbt (ff he t)) gn (am_as pl t he)))) w_649 w_651 ps_67 ⟨lk_67.1, lk_67.2.1, lk_67.2.2, by decide, by decide⟩ rfl (xw_g40 hH) rfl (by simp [Value.category]) dd_71_62 (wl_y hH qS cw ck c1 c0 hn hm hgo h99 h8 ht (by omega) hh (by omega)) ?_
  show am_Good mi_71 65 [some (.ref 40), some (.ref E), some (.ref q), some (.retAddr kind), some (.retAddr own), some (.retAddr n), some (.retAddr t)] [] (xw h W F B he fr (wo + fw he t) (se ||| fbt (ff he t)) gn (am_as pl t he)) _
  refine e_iinc (v := 1) (w := t + 1) dd_71_65 rfl ic_1 (am_nlb_ok rfl) (by decide) (by omega) ?_
  refine g_goto (t := 18) dd_71_68 (by decide) ?_
  exact hg
theorem wk_b {h : am_H} {W F B n mi go : Nat} (hH : xw_ok h) {q : Nat} {vq : List Value} {fw ff : Nat → Nat → Nat} {fb : Nat → Nat → Bool} (qS : ∀ he fr wo se gn pl, am_get (xw h W F B he fr wo se gn pl) q = some (.inr (9, vq))) (cw : ∀ he fr wo se gn pl, ∀ s t, s < n → t < mi → am_EG mi_41 [.ref q, .retAddr s, .retAddr t] (xw h W F B he fr wo se gn pl) (some (.retAddr (fw s t)), xw h W F B he fr wo se gn pl)) (ck : ∀ he fr wo se gn pl, ∀ s t, s < n → t < mi → am_EG mi_68 [.ref q, .retAddr s, .retAddr t] (xw h W F B he fr wo se gn pl) (some (.retAddr (fbt (ff s t))), xw h W F B he fr wo se gn pl)) (c1 : ∀ he fr wo se gn pl, ∀ s t, s < n → t < mi → fb s t = true → am_EG mi_53 [.ref q, .retAddr s, .retAddr t] (xw h W F B he fr wo se gn pl) (some (.retAddr 1), xw h W F B he fr wo se gn pl)) (c0 : ∀ he fr wo se gn pl, ∀ s t, s < n → t < mi → ¬ fb s t = true → am_EG mi_53 [.ref q, .retAddr s, .retAddr t] (xw h W F B he fr wo se gn pl) (some (.retAddr 0), xw h W F B he fr wo se gn pl)) (hn : n ≤ 4) (hm : mi ≤ 60) (hgo : go ≤ 3) (h99 : ∀ s t, s < n → t < mi → fw s t ≤ 99) (h8 : ∀ s t, fbt (ff s t) < 256) {E a0 : Nat} {vE w0 : List Value} (nE : am_lk [(37, am_e0), (38, am_e0), (39, am_e0), (40, am_e0), (41, am_e0)] E = none) (qE : am_get h E = some (.inr (1, vE))) (e0 : vE[0]? = some (.ref a0)) (e6 : vE[6]? = some (.retAddr mi)) (e7 : vE[7]? = some (.retAddr go)) (nA : am_lk [(37, am_e0), (38, am_e0), (39, am_e0), (40, am_e0), (41, am_e0)] a0 = none) (r0 : am_get h a0 = some (.inr (8, w0))) (s0 : w0[3]? = some (.retAddr n)) {he fr wo se gn pl : Nat} {r : am_R} {kind own t : Nat} (hk : kind ≤ 3) (ho : own < n) (ht : t < mi) (hh : he < n) (hfr : fr ≤ 62) (hwo : wo ≤ 5940) (hgn : gn ≤ 60) (hf : fr ≤ t) (hw : wk_wi fw fb n kind own t he ≠ he) (h0 : go = 0) (hg : am_Good mi_71 18 [some (.ref 40), some (.ref E), some (.ref q), some (.retAddr kind), some (.retAddr own), some (.retAddr n), some (.retAddr (t + 1))] [] (xw h W F B (wk_wi fw fb n kind own t he) (t + go) (wo + fw (wk_wi fw fb n kind own t he) t) (se ||| fbt (ff (wk_wi fw fb n kind own t he) t)) (gn + 1) (am_as pl t (wk_wi fw fb n kind own t he))) r) : am_Good mi_71 18 [some (.ref 40), some (.ref E), some (.ref q), some (.retAddr kind), some (.retAddr own), some (.retAddr n), some (.retAddr t)] [] (xw h W F B he fr wo se gn pl) r := by
  have hl := wk_wi_lt (fw := fw) (fb := fb) (kind := kind) (t := t) hh ho
  refine g_iload dd_71_18 rfl ?_
  refine g_aload_n (i := 1) dd_71_20 rfl ?_
  refine g_getfield (k := 6) am_ck1 (by decide) (Or.inr ⟨_, w_107⟩) dd_71_21 ((xw_o hH nE).trans qE) e6 ?_
  refine g_icmp_ge_f (t := 71) dd_71_24 (by decide) (by first | exact sk_ge_f (by omega) (by omega) | exact tk_ge_f (by omega)) ?_
  refine g_iload dd_71_27 rfl ?_
  refine g_aload_n (i := 0) dd_71_29 rfl ?_
  refine g_getfield (k := 3) am_ck10 (by decide) (Or.inl w_172) dd_71_30 (xw_g40 hH) rfl ?_
  refine g_icmp_lt_f (t := 58) dd_71_33 (by decide) (by first | exact sk_lt_f (by omega) (by omega) | exact tk_lt_f (by omega)) ?_
  refine g_aload_n (i := 0) dd_71_36 rfl ?_
  refine g_iload dd_71_37 rfl ?_
  refine g_aload_n (i := 0) dd_71_39 rfl ?_
  refine g_aload_n (i := 2) dd_71_40 rfl ?_
  refine g_iload dd_71_41 rfl ?_
  refine g_iload_n (i := 3) dd_71_43 rfl ?_
  refine g_iload dd_71_44 rfl ?_
  refine g_iload dd_71_46 rfl ?_
  refine g_virtual (M' := mi_72) (n := 5) (ci := 10) (b := 40) (as := [.ref q, .retAddr n, .retAddr kind, .retAddr own, .retAddr t]) (st := [.retAddr t, .ref 40]) (r1 := (some (.retAddr (wk_wi fw fb n kind own t he)), (xw h W F B he fr wo se gn pl))) w_671 w_673 ps_72 ⟨lk_72.1, lk_72.2.1, lk_72.2.2, by decide, by decide⟩ rfl (xw_g40 hH) rfl (by simp [Value.category]) dd_71_48 (wi_m hH qS cw ck c1 c0 hn hm hgo h99 h8 ht hh ho hk) ?_
  show am_Good mi_71 51 [some (.ref 40), some (.ref E), some (.ref q), some (.retAddr kind), some (.retAddr own), some (.retAddr n), some (.retAddr t)] [.retAddr (wk_wi fw fb n kind own t he), .retAddr t, .ref 40] (xw h W F B he fr wo se gn pl) _
  refine g_aload_n (i := 1) dd_71_51 rfl ?_
  refine g_getfield (k := 7) am_ck1 (by decide) (Or.inr ⟨_, w_115⟩) dd_71_52 ((xw_o hH nE).trans qE) e7 ?_
  refine g_virtual (M' := mi_66) (n := 3) (ci := 10) (b := 40) (as := [.retAddr t, .retAddr (wk_wi fw fb n kind own t he), .retAddr go]) (st := []) (r1 := (none, (xw h W F B (wk_wi fw fb n kind own t he) (t + go) wo se (gn + 1) pl))) w_645 w_647 ps_66 ⟨lk_66.1, lk_66.2.1, lk_66.2.2, by decide, by decide⟩ rfl (xw_g40 hH) rfl (by simp [Value.category]) dd_71_55 (wg_c hH qS cw ck c1 c0 hn hm hgo h99 h8 hw (by omega) (by omega) (by omega) hgn) ?_
  show am_Good mi_71 58 [some (.ref 40), some (.ref E), some (.ref q), some (.retAddr kind), some (.retAddr own), some (.retAddr n), some (.retAddr t)] [] (xw h W F B (wk_wi fw fb n kind own t he) (t + go) wo se (gn + 1) pl) _
  refine g_aload_n (i := 0) dd_71_58 rfl ?_
  refine g_aload_n (i := 2) dd_71_59 rfl ?_
  refine g_iload dd_71_60 rfl ?_
  refine g_virtual (M' := mi_67) (n := 2) (ci := 10) (b := 40) (as := [.ref q, .retAddr t]) (st := []) (r1 := (none, (xw h W F B (wk_wi fw fb n kind own t he) (t + go) (wo + fw (wk_wi fw fb n kind own t he) t) (se ||| fbt (ff (wk_wi fw fb n kind own t he) t)) (gn + 1) (am_as pl t (wk_wi fw fb n kind own t he))))) w_649 w_651 ps_67 ⟨lk_67.1, lk_67.2.1, lk_67.2.2, by decide, by decide⟩ rfl (xw_g40 hH) rfl (by simp [Value.category]) dd_71_62 (wl_y hH qS cw ck c1 c0 hn hm hgo h99 h8 ht (by omega) hl (by omega)) ?_
  show am_Good mi_71 65 [some (.ref 40), some (.ref E), some (.ref q), some (.retAddr kind), some (.retAddr own), some (.retAddr n), some (.retAddr t)] [] (xw h W F B (wk_wi fw fb n kind own t he) (t + go) (wo + fw (wk_wi fw fb n kind own t he) t) (se ||| fbt (ff (wk_wi fw fb n kind own t he) t)) (gn + 1) (am_as pl t (wk_wi fw fb n kind own t he))) _
  refine e_iinc (v := 1) (w := t + 1) dd_71_65 rfl ic_1 (am_nlb_ok rfl) (by decide) (by omega) ?_
  refine g_goto (t := 18) dd_71_68 (by decide) ?_
  exact hg
theorem wk_c {h : am_H} {W F B n mi go : Nat} (hH : xw_ok h) {q : Nat} {vq : List Value} {fw ff : Nat → Nat → Nat} {fb : Nat → Nat → Bool} (qS : ∀ he fr wo se gn pl, am_get (xw h W F B he fr wo se gn pl) q = some (.inr (9, vq))) (cw : ∀ he fr wo se gn pl, ∀ s t, s < n → t < mi → am_EG mi_41 [.ref q, .retAddr s, .retAddr t] (xw h W F B he fr wo se gn pl) (some (.retAddr (fw s t)), xw h W F B he fr wo se gn pl)) (ck : ∀ he fr wo se gn pl, ∀ s t, s < n → t < mi → am_EG mi_68 [.ref q, .retAddr s, .retAddr t] (xw h W F B he fr wo se gn pl) (some (.retAddr (fbt (ff s t))), xw h W F B he fr wo se gn pl)) (c1 : ∀ he fr wo se gn pl, ∀ s t, s < n → t < mi → fb s t = true → am_EG mi_53 [.ref q, .retAddr s, .retAddr t] (xw h W F B he fr wo se gn pl) (some (.retAddr 1), xw h W F B he fr wo se gn pl)) (c0 : ∀ he fr wo se gn pl, ∀ s t, s < n → t < mi → ¬ fb s t = true → am_EG mi_53 [.ref q, .retAddr s, .retAddr t] (xw h W F B he fr wo se gn pl) (some (.retAddr 0), xw h W F B he fr wo se gn pl)) (hn : n ≤ 4) (hm : mi ≤ 60) (hgo : go ≤ 3) (h99 : ∀ s t, s < n → t < mi → fw s t ≤ 99) (h8 : ∀ s t, fbt (ff s t) < 256) {E a0 : Nat} {vE w0 : List Value} (nE : am_lk [(37, am_e0), (38, am_e0), (39, am_e0), (40, am_e0), (41, am_e0)] E = none) (qE : am_get h E = some (.inr (1, vE))) (e0 : vE[0]? = some (.ref a0)) (e6 : vE[6]? = some (.retAddr mi)) (e7 : vE[7]? = some (.retAddr go)) (nA : am_lk [(37, am_e0), (38, am_e0), (39, am_e0), (40, am_e0), (41, am_e0)] a0 = none) (r0 : am_get h a0 = some (.inr (8, w0))) (s0 : w0[3]? = some (.retAddr n)) {he fr wo se gn pl : Nat} {r : am_R} {kind own t : Nat} (hk : kind ≤ 3) (ho : own < n) (ht : t < mi) (hh : he < n) (hfr : fr ≤ 62) (hwo : wo ≤ 5940) (hgn : gn ≤ 60) (hf : fr ≤ t) (hw : wk_wi fw fb n kind own t he ≠ he) (h0 : go ≠ 0) (hg : am_Good mi_71 18 [some (.ref 40), some (.ref E), some (.ref q), some (.retAddr kind), some (.retAddr own), some (.retAddr n), some (.retAddr (t + 1))] [] (xw h W F B (wk_wi fw fb n kind own t he) (t + go) wo se (gn + 1) (am_as pl t 4294967292)) r) : am_Good mi_71 18 [some (.ref 40), some (.ref E), some (.ref q), some (.retAddr kind), some (.retAddr own), some (.retAddr n), some (.retAddr t)] [] (xw h W F B he fr wo se gn pl) r := by
  have hl := wk_wi_lt (fw := fw) (fb := fb) (kind := kind) (t := t) hh ho
  refine g_iload dd_71_18 rfl ?_
  refine g_aload_n (i := 1) dd_71_20 rfl ?_
  refine g_getfield (k := 6) am_ck1 (by decide) (Or.inr ⟨_, w_107⟩) dd_71_21 ((xw_o hH nE).trans qE) e6 ?_
  refine g_icmp_ge_f (t := 71) dd_71_24 (by decide) (by first | exact sk_ge_f (by omega) (by omega) | exact tk_ge_f (by omega)) ?_
  refine g_iload dd_71_27 rfl ?_
  refine g_aload_n (i := 0) dd_71_29 rfl ?_
  refine g_getfield (k := 3) am_ck10 (by decide) (Or.inl w_172) dd_71_30 (xw_g40 hH) rfl ?_
  refine g_icmp_lt_f (t := 58) dd_71_33 (by decide) (by first | exact sk_lt_f (by omega) (by omega) | exact tk_lt_f (by omega)) ?_
  refine g_aload_n (i := 0) dd_71_36 rfl ?_
  refine g_iload dd_71_37 rfl ?_
  refine g_aload_n (i := 0) dd_71_39 rfl ?_
  refine g_aload_n (i := 2) dd_71_40 rfl ?_
  refine g_iload dd_71_41 rfl ?_
  refine g_iload_n (i := 3) dd_71_43 rfl ?_
  refine g_iload dd_71_44 rfl ?_
  refine g_iload dd_71_46 rfl ?_
  refine g_virtual (M' := mi_72) (n := 5) (ci := 10) (b := 40) (as := [.ref q, .retAddr n, .retAddr kind, .retAddr own, .retAddr t]) (st := [.retAddr t, .ref 40]) (r1 := (some (.retAddr (wk_wi fw fb n kind own t he)), (xw h W F B he fr wo se gn pl))) w_671 w_673 ps_72 ⟨lk_72.1, lk_72.2.1, lk_72.2.2, by decide, by decide⟩ rfl (xw_g40 hH) rfl (by simp [Value.category]) dd_71_48 (wi_m hH qS cw ck c1 c0 hn hm hgo h99 h8 ht hh ho hk) ?_
  show am_Good mi_71 51 [some (.ref 40), some (.ref E), some (.ref q), some (.retAddr kind), some (.retAddr own), some (.retAddr n), some (.retAddr t)] [.retAddr (wk_wi fw fb n kind own t he), .retAddr t, .ref 40] (xw h W F B he fr wo se gn pl) _
  refine g_aload_n (i := 1) dd_71_51 rfl ?_
  refine g_getfield (k := 7) am_ck1 (by decide) (Or.inr ⟨_, w_115⟩) dd_71_52 ((xw_o hH nE).trans qE) e7 ?_
  refine g_virtual (M' := mi_66) (n := 3) (ci := 10) (b := 40) (as := [.retAddr t, .retAddr (wk_wi fw fb n kind own t he), .retAddr go]) (st := []) (r1 := (none, (xw h W F B (wk_wi fw fb n kind own t he) (t + go) wo se (gn + 1) pl))) w_645 w_647 ps_66 ⟨lk_66.1, lk_66.2.1, lk_66.2.2, by decide, by decide⟩ rfl (xw_g40 hH) rfl (by simp [Value.category]) dd_71_55 (wg_c hH qS cw ck c1 c0 hn hm hgo h99 h8 hw (by omega) (by omega) (by omega) hgn) ?_
  show am_Good mi_71 58 [some (.ref 40), some (.ref E), some (.ref q), some (.retAddr kind), some (.retAddr own), some (.retAddr n), some (.retAddr t)] [] (xw h W F B (wk_wi fw fb n kind own t he) (t + go) wo se (gn + 1) pl) _
  refine g_aload_n (i := 0) dd_71_58 rfl ?_
  refine g_aload_n (i := 2) dd_71_59 rfl ?_
  refine g_iload dd_71_60 rfl ?_
  refine g_virtual (M' := mi_67) (n := 2) (ci := 10) (b := 40) (as := [.ref q, .retAddr t]) (st := []) (r1 := (none, (xw h W F B (wk_wi fw fb n kind own t he) (t + go) wo se (gn + 1) (am_as pl t 4294967292)))) w_649 w_651 ps_67 ⟨lk_67.1, lk_67.2.1, lk_67.2.2, by decide, by decide⟩ rfl (xw_g40 hH) rfl (by simp [Value.category]) dd_71_62 (wl_n hH qS cw ck c1 c0 hn hm hgo h99 h8 ht (by omega) (by omega)) ?_
  show am_Good mi_71 65 [some (.ref 40), some (.ref E), some (.ref q), some (.retAddr kind), some (.retAddr own), some (.retAddr n), some (.retAddr t)] [] (xw h W F B (wk_wi fw fb n kind own t he) (t + go) wo se (gn + 1) (am_as pl t 4294967292)) _
  refine e_iinc (v := 1) (w := t + 1) dd_71_65 rfl ic_1 (am_nlb_ok rfl) (by decide) (by omega) ?_
  refine g_goto (t := 18) dd_71_68 (by decide) ?_
  exact hg
theorem wk_d {h : am_H} {W F B n mi go : Nat} (hH : xw_ok h) {q : Nat} {vq : List Value} {fw ff : Nat → Nat → Nat} {fb : Nat → Nat → Bool} (qS : ∀ he fr wo se gn pl, am_get (xw h W F B he fr wo se gn pl) q = some (.inr (9, vq))) (cw : ∀ he fr wo se gn pl, ∀ s t, s < n → t < mi → am_EG mi_41 [.ref q, .retAddr s, .retAddr t] (xw h W F B he fr wo se gn pl) (some (.retAddr (fw s t)), xw h W F B he fr wo se gn pl)) (ck : ∀ he fr wo se gn pl, ∀ s t, s < n → t < mi → am_EG mi_68 [.ref q, .retAddr s, .retAddr t] (xw h W F B he fr wo se gn pl) (some (.retAddr (fbt (ff s t))), xw h W F B he fr wo se gn pl)) (c1 : ∀ he fr wo se gn pl, ∀ s t, s < n → t < mi → fb s t = true → am_EG mi_53 [.ref q, .retAddr s, .retAddr t] (xw h W F B he fr wo se gn pl) (some (.retAddr 1), xw h W F B he fr wo se gn pl)) (c0 : ∀ he fr wo se gn pl, ∀ s t, s < n → t < mi → ¬ fb s t = true → am_EG mi_53 [.ref q, .retAddr s, .retAddr t] (xw h W F B he fr wo se gn pl) (some (.retAddr 0), xw h W F B he fr wo se gn pl)) (hn : n ≤ 4) (hm : mi ≤ 60) (hgo : go ≤ 3) (h99 : ∀ s t, s < n → t < mi → fw s t ≤ 99) (h8 : ∀ s t, fbt (ff s t) < 256) {E a0 : Nat} {vE w0 : List Value} (nE : am_lk [(37, am_e0), (38, am_e0), (39, am_e0), (40, am_e0), (41, am_e0)] E = none) (qE : am_get h E = some (.inr (1, vE))) (e0 : vE[0]? = some (.ref a0)) (e6 : vE[6]? = some (.retAddr mi)) (e7 : vE[7]? = some (.retAddr go)) (nA : am_lk [(37, am_e0), (38, am_e0), (39, am_e0), (40, am_e0), (41, am_e0)] a0 = none) (r0 : am_get h a0 = some (.inr (8, w0))) (s0 : w0[3]? = some (.retAddr n)) {he fr wo se gn pl : Nat} {r : am_R} {kind own t : Nat} (hk : kind ≤ 3) (ho : own < n) (ht : t < mi) (hh : he < n) (hfr : fr ≤ 62) (hwo : wo ≤ 5940) (hgn : gn ≤ 60) (hf : ¬ fr ≤ t) (hg : am_Good mi_71 18 [some (.ref 40), some (.ref E), some (.ref q), some (.retAddr kind), some (.retAddr own), some (.retAddr n), some (.retAddr (t + 1))] [] (xw h W F B he fr wo se gn (am_as pl t 4294967292)) r) : am_Good mi_71 18 [some (.ref 40), some (.ref E), some (.ref q), some (.retAddr kind), some (.retAddr own), some (.retAddr n), some (.retAddr t)] [] (xw h W F B he fr wo se gn pl) r := by
  have hl := wk_wi_lt (fw := fw) (fb := fb) (kind := kind) (t := t) hh ho
  refine g_iload dd_71_18 rfl ?_
  refine g_aload_n (i := 1) dd_71_20 rfl ?_
  refine g_getfield (k := 6) am_ck1 (by decide) (Or.inr ⟨_, w_107⟩) dd_71_21 ((xw_o hH nE).trans qE) e6 ?_
  refine g_icmp_ge_f (t := 71) dd_71_24 (by decide) (by first | exact sk_ge_f (by omega) (by omega) | exact tk_ge_f (by omega)) ?_
  refine g_iload dd_71_27 rfl ?_
  refine g_aload_n (i := 0) dd_71_29 rfl ?_
  refine g_getfield (k := 3) am_ck10 (by decide) (Or.inl w_172) dd_71_30 (xw_g40 hH) rfl ?_
  refine g_icmp_lt_t (t := 58) dd_71_33 (by decide) (by first | exact sk_lt_t (by omega) (by omega) | exact tk_lt_t (by omega)) ?_
  refine g_aload_n (i := 0) dd_71_58 rfl ?_
  refine g_aload_n (i := 2) dd_71_59 rfl ?_
  refine g_iload dd_71_60 rfl ?_
  refine g_virtual (M' := mi_67) (n := 2) (ci := 10) (b := 40) (as := [.ref q, .retAddr t]) (st := []) (r1 := (none, (xw h W F B he fr wo se gn (am_as pl t 4294967292)))) w_649 w_651 ps_67 ⟨lk_67.1, lk_67.2.1, lk_67.2.2, by decide, by decide⟩ rfl (xw_g40 hH) rfl (by simp [Value.category]) dd_71_62 (wl_n hH qS cw ck c1 c0 hn hm hgo h99 h8 ht (by omega) (by omega)) ?_
  show am_Good mi_71 65 [some (.ref 40), some (.ref E), some (.ref q), some (.retAddr kind), some (.retAddr own), some (.retAddr n), some (.retAddr t)] [] (xw h W F B he fr wo se gn (am_as pl t 4294967292)) _
  refine e_iinc (v := 1) (w := t + 1) dd_71_65 rfl ic_1 (am_nlb_ok rfl) (by decide) (by omega) ?_
  refine g_goto (t := 18) dd_71_68 (by decide) ?_
  exact hg
theorem wk_e {h : am_H} {W F B n mi go : Nat} (hH : xw_ok h) {q : Nat} {vq : List Value} {fw ff : Nat → Nat → Nat} {fb : Nat → Nat → Bool} (qS : ∀ he fr wo se gn pl, am_get (xw h W F B he fr wo se gn pl) q = some (.inr (9, vq))) (cw : ∀ he fr wo se gn pl, ∀ s t, s < n → t < mi → am_EG mi_41 [.ref q, .retAddr s, .retAddr t] (xw h W F B he fr wo se gn pl) (some (.retAddr (fw s t)), xw h W F B he fr wo se gn pl)) (ck : ∀ he fr wo se gn pl, ∀ s t, s < n → t < mi → am_EG mi_68 [.ref q, .retAddr s, .retAddr t] (xw h W F B he fr wo se gn pl) (some (.retAddr (fbt (ff s t))), xw h W F B he fr wo se gn pl)) (c1 : ∀ he fr wo se gn pl, ∀ s t, s < n → t < mi → fb s t = true → am_EG mi_53 [.ref q, .retAddr s, .retAddr t] (xw h W F B he fr wo se gn pl) (some (.retAddr 1), xw h W F B he fr wo se gn pl)) (c0 : ∀ he fr wo se gn pl, ∀ s t, s < n → t < mi → ¬ fb s t = true → am_EG mi_53 [.ref q, .retAddr s, .retAddr t] (xw h W F B he fr wo se gn pl) (some (.retAddr 0), xw h W F B he fr wo se gn pl)) (hn : n ≤ 4) (hm : mi ≤ 60) (hgo : go ≤ 3) (h99 : ∀ s t, s < n → t < mi → fw s t ≤ 99) (h8 : ∀ s t, fbt (ff s t) < 256) {E a0 : Nat} {vE w0 : List Value} (nE : am_lk [(37, am_e0), (38, am_e0), (39, am_e0), (40, am_e0), (41, am_e0)] E = none) (qE : am_get h E = some (.inr (1, vE))) (e0 : vE[0]? = some (.ref a0)) (e6 : vE[6]? = some (.retAddr mi)) (e7 : vE[7]? = some (.retAddr go)) (nA : am_lk [(37, am_e0), (38, am_e0), (39, am_e0), (40, am_e0), (41, am_e0)] a0 = none) (r0 : am_get h a0 = some (.inr (8, w0))) (s0 : w0[3]? = some (.retAddr n)) {he fr wo se gn pl : Nat} {kind own : Nat} : am_Good mi_71 18 [some (.ref 40), some (.ref E), some (.ref q), some (.retAddr kind), some (.retAddr own), some (.retAddr n), some (.retAddr mi)] [] (xw h W F B he fr wo se gn pl) (none, (xw h W F B he fr wo se gn pl)) := by
  refine g_iload dd_71_18 rfl ?_
  refine g_aload_n (i := 1) dd_71_20 rfl ?_
  refine g_getfield (k := 6) am_ck1 (by decide) (Or.inr ⟨_, w_107⟩) dd_71_21 ((xw_o hH nE).trans qE) e6 ?_
  refine g_icmp_ge_t (t := 71) dd_71_24 (by decide) (by first | exact sk_ge_t (by omega) (by omega) | exact tk_ge_t (by omega)) ?_
  exact g_return rfl dd_71_71
theorem wk_l {h : am_H} {W F B n mi go : Nat} (hH : xw_ok h) {q : Nat} {vq : List Value} {fw ff : Nat → Nat → Nat} {fb : Nat → Nat → Bool} (qS : ∀ he fr wo se gn pl, am_get (xw h W F B he fr wo se gn pl) q = some (.inr (9, vq))) (cw : ∀ he fr wo se gn pl, ∀ s t, s < n → t < mi → am_EG mi_41 [.ref q, .retAddr s, .retAddr t] (xw h W F B he fr wo se gn pl) (some (.retAddr (fw s t)), xw h W F B he fr wo se gn pl)) (ck : ∀ he fr wo se gn pl, ∀ s t, s < n → t < mi → am_EG mi_68 [.ref q, .retAddr s, .retAddr t] (xw h W F B he fr wo se gn pl) (some (.retAddr (fbt (ff s t))), xw h W F B he fr wo se gn pl)) (c1 : ∀ he fr wo se gn pl, ∀ s t, s < n → t < mi → fb s t = true → am_EG mi_53 [.ref q, .retAddr s, .retAddr t] (xw h W F B he fr wo se gn pl) (some (.retAddr 1), xw h W F B he fr wo se gn pl)) (c0 : ∀ he fr wo se gn pl, ∀ s t, s < n → t < mi → ¬ fb s t = true → am_EG mi_53 [.ref q, .retAddr s, .retAddr t] (xw h W F B he fr wo se gn pl) (some (.retAddr 0), xw h W F B he fr wo se gn pl)) (hn : n ≤ 4) (hm : mi ≤ 60) (hgo : go ≤ 3) (h99 : ∀ s t, s < n → t < mi → fw s t ≤ 99) (h8 : ∀ s t, fbt (ff s t) < 256) {E a0 : Nat} {vE w0 : List Value} (nE : am_lk [(37, am_e0), (38, am_e0), (39, am_e0), (40, am_e0), (41, am_e0)] E = none) (qE : am_get h E = some (.inr (1, vE))) (e0 : vE[0]? = some (.ref a0)) (e6 : vE[6]? = some (.retAddr mi)) (e7 : vE[7]? = some (.retAddr go)) (nA : am_lk [(37, am_e0), (38, am_e0), (39, am_e0), (40, am_e0), (41, am_e0)] a0 = none) (r0 : am_get h a0 = some (.inr (8, w0))) (s0 : w0[3]? = some (.retAddr n)) {kind own pl : Nat} (hk : kind ≤ 3) (ho : own < n) : ∀ (f t : Nat), t + f = mi → am_Good mi_71 18 [some (.ref 40), some (.ref E), some (.ref q), some (.retAddr kind), some (.retAddr own), some (.retAddr n), some (.retAddr t)] [] (xw h W F B ((wk fw ff fb n go kind own t).1) ((wk fw ff fb n go kind own t).2.1) ((wk fw ff fb n go kind own t).2.2.1) ((wk fw ff fb n go kind own t).2.2.2.1) ((wk fw ff fb n go kind own t).2.2.2.2) (zf (wk_p fw ff fb n go kind own) pl t)) (none, (xw h W F B ((wk fw ff fb n go kind own mi).1) ((wk fw ff fb n go kind own mi).2.1) ((wk fw ff fb n go kind own mi).2.2.1) ((wk fw ff fb n go kind own mi).2.2.2.1) ((wk fw ff fb n go kind own mi).2.2.2.2) (zf (wk_p fw ff fb n go kind own) pl mi)))
  | 0, t, e => by
    have e' : t = mi := by omega
    subst e'
    exact wk_e hH qS cw ck c1 c0 hn hm hgo h99 h8 nE qE e0 e6 e7 nA r0 s0
  | f + 1, t, e => by
    have q := wk_l hH qS cw ck c1 c0 hn hm hgo h99 h8 nE qE e0 e6 e7 nA r0 s0 (pl := pl) hk ho f (t + 1) (by omega)
    obtain ⟨i1, i2, i3, i4, i5⟩ := wk_inv (ff := ff) (fb := fb) (kind := kind) h99 ho hgo (t := t) (by omega)
    have z : zf (wk_p fw ff fb n go kind own) pl (t + 1) = am_as (zf (wk_p fw ff fb n go kind own) pl t) t (wk_p fw ff fb n go kind own t) := rfl
    have z2 : wk_p fw ff fb n go kind own t = if t < (wk fw ff fb n go kind own (t + 1)).2.1 then 4294967292 else (wk fw ff fb n go kind own (t + 1)).1 := rfl
    have z3 : wk fw ff fb n go kind own (t + 1) = wk_s fw ff fb n go kind own t (wk fw ff fb n go kind own t) := rfl
    rw [z, z2, z3] at q
    generalize wk fw ff fb n go kind own t = σ at i1 i2 i3 i4 i5 q ⊢
    obtain ⟨he, fr, wo, se, gn⟩ := σ
    unfold wk_s wk_f wk_h at q
    dsimp only at i1 i2 i3 i4 i5 q ⊢
    by_cases hf : fr ≤ t
    · simp only [if_pos hf] at q
      by_cases hw : wk_wi fw fb n kind own t he = he
      · have hn_ : ¬ t < fr := by omega
        simp only [if_pos hw] at q
        simp only [if_neg hn_] at q
        rw [hw] at q
        exact wk_a hH qS cw ck c1 c0 hn hm hgo h99 h8 nE qE e0 e6 e7 nA r0 s0 hk ho (by omega) i1 (by omega) (by omega) (by omega) hf hw q
      · simp only [if_neg hw] at q
        by_cases h0 : go = 0
        · have hn_ : ¬ t < t + go := by omega
          simp only [if_neg hn_] at q
          exact wk_b hH qS cw ck c1 c0 hn hm hgo h99 h8 nE qE e0 e6 e7 nA r0 s0 hk ho (by omega) i1 (by omega) (by omega) (by omega) hf hw h0 q
        · have hn_ : t < t + go := by omega
          simp only [if_pos hn_] at q
          exact wk_c hH qS cw ck c1 c0 hn hm hgo h99 h8 nE qE e0 e6 e7 nA r0 s0 hk ho (by omega) i1 (by omega) (by omega) (by omega) hf hw h0 q
    · have hn_ : t < fr := by omega
      simp only [if_neg hf, eq_self, if_true] at q
      simp only [if_pos hn_] at q
      exact wk_d hH qS cw ck c1 c0 hn hm hgo h99 h8 nE qE e0 e6 e7 nA r0 s0 hk ho (by omega) i1 (by omega) (by omega) (by omega) hf q
theorem wk_m {h : am_H} {W F B n mi go : Nat} (hH : xw_ok h) {q : Nat} {vq : List Value} {fw ff : Nat → Nat → Nat} {fb : Nat → Nat → Bool} (qS : ∀ he fr wo se gn pl, am_get (xw h W F B he fr wo se gn pl) q = some (.inr (9, vq))) (cw : ∀ he fr wo se gn pl, ∀ s t, s < n → t < mi → am_EG mi_41 [.ref q, .retAddr s, .retAddr t] (xw h W F B he fr wo se gn pl) (some (.retAddr (fw s t)), xw h W F B he fr wo se gn pl)) (ck : ∀ he fr wo se gn pl, ∀ s t, s < n → t < mi → am_EG mi_68 [.ref q, .retAddr s, .retAddr t] (xw h W F B he fr wo se gn pl) (some (.retAddr (fbt (ff s t))), xw h W F B he fr wo se gn pl)) (c1 : ∀ he fr wo se gn pl, ∀ s t, s < n → t < mi → fb s t = true → am_EG mi_53 [.ref q, .retAddr s, .retAddr t] (xw h W F B he fr wo se gn pl) (some (.retAddr 1), xw h W F B he fr wo se gn pl)) (c0 : ∀ he fr wo se gn pl, ∀ s t, s < n → t < mi → ¬ fb s t = true → am_EG mi_53 [.ref q, .retAddr s, .retAddr t] (xw h W F B he fr wo se gn pl) (some (.retAddr 0), xw h W F B he fr wo se gn pl)) (hn : n ≤ 4) (hm : mi ≤ 60) (hgo : go ≤ 3) (h99 : ∀ s t, s < n → t < mi → fw s t ≤ 99) (h8 : ∀ s t, fbt (ff s t) < 256) {E a0 : Nat} {vE w0 : List Value} (nE : am_lk [(37, am_e0), (38, am_e0), (39, am_e0), (40, am_e0), (41, am_e0)] E = none) (qE : am_get h E = some (.inr (1, vE))) (e0 : vE[0]? = some (.ref a0)) (e6 : vE[6]? = some (.retAddr mi)) (e7 : vE[7]? = some (.retAddr go)) (nA : am_lk [(37, am_e0), (38, am_e0), (39, am_e0), (40, am_e0), (41, am_e0)] a0 = none) (r0 : am_get h a0 = some (.inr (8, w0))) (s0 : w0[3]? = some (.retAddr n)) {he fr wo se gn pl : Nat} {kind own : Nat} (hk : kind ≤ 3) (ho : own < n) : am_EG mi_71 [.ref 40, .ref E, .ref q, .retAddr kind, .retAddr own] (xw h W F B he fr wo se gn pl) (none, (xw h W F B ((wk fw ff fb n go kind own mi).1) ((wk fw ff fb n go kind own mi).2.1) ((wk fw ff fb n go kind own mi).2.2.1) ((wk fw ff fb n go kind own mi).2.2.2.1) ((wk fw ff fb n go kind own mi).2.2.2.2) (zf (wk_p fw ff fb n go kind own) pl mi))) := by
  refine am_enter (n := 2) tk_71.2.1 (by simp [Value.category]) (Nat.le_of_ble_eq_true rfl) ?_
  show am_Good mi_71 0 [some (.ref 40), some (.ref E), some (.ref q), some (.retAddr kind), some (.retAddr own), none, none] [] (xw h W F B he fr wo se gn pl) _
  refine g_aload_n (i := 0) dd_71_0 rfl ?_
  refine g_iload dd_71_1 rfl ?_
  refine g_virtual (M' := mi_63) (n := 1) (ci := 10) (b := 40) (as := [.retAddr own]) (st := []) (r1 := (none, (xw h W F B own 0 0 0 0 pl))) w_633 w_635 ps_63 ⟨lk_63.1, lk_63.2.1, lk_63.2.2, by decide, by decide⟩ rfl (xw_g40 hH) rfl (by simp [Value.category]) dd_71_3 (wg_0 hH qS cw ck c1 c0 hn hm hgo h99 h8) ?_
  show am_Good mi_71 6 [some (.ref 40), some (.ref E), some (.ref q), some (.retAddr kind), some (.retAddr own), none, none] [] (xw h W F B own 0 0 0 0 pl) _
  refine g_aload_n (i := 1) dd_71_6 rfl ?_
  refine g_getfield (k := 0) am_ck1 (by decide) (Or.inr ⟨_, w_82⟩) dd_71_7 ((xw_o hH nE).trans qE) e0 ?_
  refine g_getfield (k := 3) am_ck8 (by decide) (Or.inr ⟨_, w_62⟩) dd_71_10 ((xw_o hH nA).trans r0) s0 ?_
  refine g_istore dd_71_13 (am_nlb_ok rfl) (by decide) ?_
  refine g_iconst dd_71_15 ic_0 ?_
  refine g_istore dd_71_16 (am_nlb_ok rfl) (by decide) ?_
  exact wk_l hH qS cw ck c1 c0 hn hm hgo h99 h8 nE qE e0 e6 e7 nA r0 s0 hk ho mi 0 (by omega)
