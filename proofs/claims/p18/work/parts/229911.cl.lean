/-! ===== closed of the reference, close of the class ===== -/
theorem hs_b {all k : Nat} : (all >>> k) &&& 1 = if all.testBit k = true then 1 else 0 := by
  rw [Nat.and_one_is_mod, Nat.shiftRight_eq_div_pow, Nat.testBit_eq_decide_div_mod_eq]
  by_cases q : all / 2 ^ k % 2 = 1
  · rw [if_pos (decide_eq_true q), q]
  · rw [if_neg (fun e => q (of_decide_eq_true e))]
    omega
theorem sh_1 {c : Nat} (h : c ≤ 7) : (1 <<< (c % 32)) % 4294967296 = 2 ^ c := by
  rw [Nat.mod_eq_of_lt (show c < 32 by omega), Nat.one_shiftLeft]
  exact Nat.mod_eq_of_lt (Nat.pow_lt_pow_right (a := 2) (n := 32) (by decide) (by omega))
theorem nd_b {all a b : Nat} : (all &&& (2 ^ a ||| 2 ^ b) = 2 ^ a ||| 2 ^ b) ↔ (all.testBit a = true ∧ all.testBit b = true) := by
  constructor
  · intro h
    have t : ∀ j, (all &&& (2 ^ a ||| 2 ^ b)).testBit j = (2 ^ a ||| 2 ^ b).testBit j := fun j => by rw [h]
    refine ⟨?_, ?_⟩
    · have := t a
      rw [Nat.testBit_and, Nat.testBit_or, Nat.testBit_two_pow_self, Bool.true_or, Bool.and_true] at this
      exact this
    · have := t b
      rw [Nat.testBit_and, Nat.testBit_or, Nat.testBit_two_pow_self, Bool.or_true, Bool.and_true] at this
      exact this
  · rintro ⟨h1, h2⟩
    apply Nat.eq_of_testBit_eq
    intro j
    rw [Nat.testBit_and, Nat.testBit_or, Nat.testBit_two_pow, Nat.testBit_two_pow]
    by_cases q1 : a = j
    · subst q1; rw [h1, Bool.true_and]
    · by_cases q2 : b = j
      · subst q2; rw [h2, Bool.true_and]
      · rw [decide_eq_false q1, decide_eq_false q2, Bool.or_false, Bool.and_false]
theorem or_lt {a b : Nat} (h : a < 256) (h1 : b < 256) : a ||| b < 256 := Nat.or_lt_two_pow (n := 8) h h1
theorem p7_lt {c : Nat} (h : c ≤ 7) : 2 ^ c < 256 := Nat.pow_lt_pow_right (a := 2) (n := 8) (by decide) (by omega)
theorem cl_ne_t {a b : Nat} (ha : a < 256) (hb : b < 256) (h : a ≠ b) : am_tc .ne a b = true := tk_ne_t (by omega)
theorem cl_ne_f (a : Nat) : am_tc .ne a a = false := tk_ne_f rfl
theorem cl_1_lt {rr i all : Nat} (h : all < 256) (h7 : am_ag rr (3 * i + 2) ≤ 7) : cl_1 rr i all < 256 := by
  unfold cl_1
  split
  · exact or_lt h (p7_lt h7)
  · exact h
theorem cl_n_lt {rr all : Nat} (h : all < 256) : ∀ {n : Nat}, (∀ i, i < n → am_ag rr (3 * i + 2) ≤ 7) → cl_n rr n all < 256
  | 0, _ => h
  | n + 1, h7 => cl_1_lt (cl_n_lt h (fun i hi => h7 i (by omega))) (h7 n (by omega))
theorem cl_k_lt {rr n all : Nat} (h : all < 256) (h7 : ∀ i, i < n → am_ag rr (3 * i + 2) ≤ 7) : ∀ k, cl_k rr n k all < 256
  | 0 => h
  | k + 1 => cl_n_lt (cl_k_lt h h7 k) h7
theorem hs_1 {h : am_H} {all k : Nat} (ha : all < 256) (hk : k ≤ 7) (hc : all.testBit k = true) : am_EG mi_158 [.retAddr all, .retAddr k] h (some (.retAddr 1), h) := by
  refine am_enter (n := 0) tk_158.2.1 (by simp [Value.category]) (Nat.le_of_ble_eq_true rfl) ?_
  show am_Good mi_158 0 [some (.retAddr all), some (.retAddr k)] [] h _
  refine g_iload_n (i := 0) dd_158_0 rfl ?_
  refine g_iload_n (i := 1) dd_158_1 rfl ?_
  refine e_ishr (v := all >>> k) dd_158_2 ⟨by omega, by rw [Nat.mod_eq_of_lt (show k < 32 by omega)]⟩ ?_
  refine g_iconst dd_158_3 ic_1 ?_
  refine e_iand (v := 1) dd_158_4 (by rw [hs_b, if_pos hc]) ?_
  refine g_iconst dd_158_5 ic_1 ?_
  refine g_icmp_ne_f (t := 13) dd_158_6 (by decide) (by decide) ?_
  refine g_iconst dd_158_9 ic_1 ?_
  refine g_goto (t := 14) dd_158_10 (by decide) ?_
  exact g_zreturn rfl (by first | decide | omega) dd_158_14
theorem hs_0 {h : am_H} {all k : Nat} (ha : all < 256) (hk : k ≤ 7) (hc : ¬ all.testBit k = true) : am_EG mi_158 [.retAddr all, .retAddr k] h (some (.retAddr 0), h) := by
  refine am_enter (n := 0) tk_158.2.1 (by simp [Value.category]) (Nat.le_of_ble_eq_true rfl) ?_
  show am_Good mi_158 0 [some (.retAddr all), some (.retAddr k)] [] h _
  refine g_iload_n (i := 0) dd_158_0 rfl ?_
  refine g_iload_n (i := 1) dd_158_1 rfl ?_
  refine e_ishr (v := all >>> k) dd_158_2 ⟨by omega, by rw [Nat.mod_eq_of_lt (show k < 32 by omega)]⟩ ?_
  refine g_iconst dd_158_3 ic_1 ?_
  refine e_iand (v := 0) dd_158_4 (by rw [hs_b, if_neg hc]) ?_
  refine g_iconst dd_158_5 ic_1 ?_
  refine g_icmp_ne_t (t := 13) dd_158_6 (by decide) (by decide) ?_
  refine g_iconst dd_158_13 ic_0 ?_
  exact g_zreturn rfl (by first | decide | omega) dd_158_14
theorem cr_11 {h : am_H} {vs : List Value} {n rr : Nat} (q66 : am_get h 66 = some (.inr (12, vs))) (f10 : vs[10]? = some (.retAddr n)) (f11 : vs[11]? = some (.ref 71)) (a71 : am_get h 71 = some (.inl (0, 18, rr))) (hn : n ≤ 6) (h7 : ∀ i, i < 18 → am_ag rr i ≤ 7) {r : am_R} {set all ag i : Nat} {v5 : Option Value} (hi : i < n) (hal : all < 256) (h0 : all.testBit (am_ag rr (3 * i)) = true) (h1 : all.testBit (am_ag rr (3 * i + 1)) = true) (hg : am_Good mi_162 13 [some (.ref 66), some (.retAddr set), some (.retAddr (all ||| 2 ^ am_ag rr (3 * i + 2))), some (.retAddr ag), some (.retAddr (i + 1)), some (.retAddr 1)] [] h r) : am_Good mi_162 13 [some (.ref 66), some (.retAddr set), some (.retAddr all), some (.retAddr ag), some (.retAddr i), v5] [] h r := by
  have b0 := h7 (3 * i) (by omega)
  have b1 := h7 (3 * i + 1) (by omega)
  have b2 := h7 (3 * i + 2) (by omega)
  refine g_iload dd_162_13 rfl ?_
  refine g_aload_n (i := 0) dd_162_15 rfl ?_
  refine g_getfield (k := 10) am_ck12 (by decide) (Or.inl w_945) dd_162_16 q66 f10 ?_
  refine g_icmp_ge_f (t := 94) dd_162_19 (by decide) (by first | exact sk_ge_f (by omega) (by omega) | exact tk_ge_f (by omega)) ?_
  refine g_iload_n (i := 2) dd_162_22 rfl ?_
  refine g_aload_n (i := 0) dd_162_23 rfl ?_
  refine g_getfield (k := 11) am_ck12 (by decide) (Or.inl w_946) dd_162_24 q66 f11 ?_
  refine g_iconst dd_162_27 ic_3 ?_
  refine g_iload dd_162_28 rfl ?_
  refine e_imul (v := 3 * i) dd_162_30 (by omega) ?_
  refine g_iaload dd_162_31 a71 (by omega) (by decide) ?_
  have hl_1 := am_ag_lt rr (3 * i)
  refine g_static (M' := mi_158) (n := 2) (as := [.retAddr all, .retAddr (am_ag rr (3 * i))]) (st := []) (r1 := (some (.retAddr 1), h)) w_1204 w_1205 ⟨lk_158.1, lk_158.2.1, lk_158.2.2, by decide, by decide⟩ rfl (by simp [Value.category]) dd_162_32 (hs_1 hal b0 h0) ?_
  show am_Good mi_162 35 [some (.ref 66), some (.retAddr set), some (.retAddr all), some (.retAddr ag), some (.retAddr i), v5] [.retAddr 1] h _
  refine g_if_eq_f (t := 60) dd_162_35 (by decide) (by decide) ?_
  refine g_iload_n (i := 2) dd_162_38 rfl ?_
  refine g_aload_n (i := 0) dd_162_39 rfl ?_
  refine g_getfield (k := 11) am_ck12 (by decide) (Or.inl w_946) dd_162_40 q66 f11 ?_
  refine g_iconst dd_162_43 ic_3 ?_
  refine g_iload dd_162_44 rfl ?_
  refine e_imul (v := 3 * i) dd_162_46 (by omega) ?_
  refine g_iconst dd_162_47 ic_1 ?_
  refine e_iadd (v := 3 * i + 1) dd_162_48 (by omega) ?_
  refine g_iaload dd_162_49 a71 (by omega) (by decide) ?_
  have hl_2 := am_ag_lt rr (3 * i + 1)
  refine g_static (M' := mi_158) (n := 2) (as := [.retAddr all, .retAddr (am_ag rr (3 * i + 1))]) (st := []) (r1 := (some (.retAddr 1), h)) w_1204 w_1205 ⟨lk_158.1, lk_158.2.1, lk_158.2.2, by decide, by decide⟩ rfl (by simp [Value.category]) dd_162_50 (hs_1 hal b1 h1) ?_
  show am_Good mi_162 53 [some (.ref 66), some (.retAddr set), some (.retAddr all), some (.retAddr ag), some (.retAddr i), v5] [.retAddr 1] h _
  refine g_if_eq_f (t := 60) dd_162_53 (by decide) (by decide) ?_
  refine g_iconst dd_162_56 ic_1 ?_
  refine g_goto (t := 61) dd_162_57 (by decide) ?_
  refine g_istore dd_162_61 (am_nlb_ok rfl) (by decide) ?_
  refine g_iload_n (i := 2) dd_162_63 rfl ?_
  refine g_iload dd_162_64 rfl ?_
  refine g_if_eq_f (t := 85) dd_162_66 (by decide) (by decide) ?_
  refine g_iconst dd_162_69 ic_1 ?_
  refine g_aload_n (i := 0) dd_162_70 rfl ?_
  refine g_getfield (k := 11) am_ck12 (by decide) (Or.inl w_946) dd_162_71 q66 f11 ?_
  refine g_iconst dd_162_74 ic_3 ?_
  refine g_iload dd_162_75 rfl ?_
  refine e_imul (v := 3 * i) dd_162_77 (by omega) ?_
  refine g_iconst dd_162_78 ic_2 ?_
  refine e_iadd (v := 3 * i + 2) dd_162_79 (by omega) ?_
  refine g_iaload dd_162_80 a71 (by omega) (by decide) ?_
  have hl_3 := am_ag_lt rr (3 * i + 2)
  refine e_ishl (v := 2 ^ am_ag rr (3 * i + 2)) dd_162_81 (sh_1 b2) ?_
  refine g_goto (t := 86) dd_162_82 (by decide) ?_
  refine e_ior (v := all ||| 2 ^ am_ag rr (3 * i + 2)) dd_162_86 rfl ?_
  refine g_istore_n (i := 2) dd_162_87 (am_nlb_ok rfl) (by decide) ?_
  refine e_iinc (v := 1) (w := i + 1) dd_162_88 rfl ic_1 (am_nlb_ok rfl) (by decide) (by omega) ?_
  refine g_goto (t := 13) dd_162_91 (by decide) ?_
  exact hg
theorem cr_10 {h : am_H} {vs : List Value} {n rr : Nat} (q66 : am_get h 66 = some (.inr (12, vs))) (f10 : vs[10]? = some (.retAddr n)) (f11 : vs[11]? = some (.ref 71)) (a71 : am_get h 71 = some (.inl (0, 18, rr))) (hn : n ≤ 6) (h7 : ∀ i, i < 18 → am_ag rr i ≤ 7) {r : am_R} {set all ag i : Nat} {v5 : Option Value} (hi : i < n) (hal : all < 256) (h0 : all.testBit (am_ag rr (3 * i)) = true) (h1 : ¬ all.testBit (am_ag rr (3 * i + 1)) = true) (hg : am_Good mi_162 13 [some (.ref 66), some (.retAddr set), some (.retAddr all), some (.retAddr ag), some (.retAddr (i + 1)), some (.retAddr 0)] [] h r) : am_Good mi_162 13 [some (.ref 66), some (.retAddr set), some (.retAddr all), some (.retAddr ag), some (.retAddr i), v5] [] h r := by
  have b0 := h7 (3 * i) (by omega)
  have b1 := h7 (3 * i + 1) (by omega)
  have b2 := h7 (3 * i + 2) (by omega)
  refine g_iload dd_162_13 rfl ?_
  refine g_aload_n (i := 0) dd_162_15 rfl ?_
  refine g_getfield (k := 10) am_ck12 (by decide) (Or.inl w_945) dd_162_16 q66 f10 ?_
  refine g_icmp_ge_f (t := 94) dd_162_19 (by decide) (by first | exact sk_ge_f (by omega) (by omega) | exact tk_ge_f (by omega)) ?_
  refine g_iload_n (i := 2) dd_162_22 rfl ?_
  refine g_aload_n (i := 0) dd_162_23 rfl ?_
  refine g_getfield (k := 11) am_ck12 (by decide) (Or.inl w_946) dd_162_24 q66 f11 ?_
  refine g_iconst dd_162_27 ic_3 ?_
  refine g_iload dd_162_28 rfl ?_
  refine e_imul (v := 3 * i) dd_162_30 (by omega) ?_
  refine g_iaload dd_162_31 a71 (by omega) (by decide) ?_
  have hl_1 := am_ag_lt rr (3 * i)
  refine g_static (M' := mi_158) (n := 2) (as := [.retAddr all, .retAddr (am_ag rr (3 * i))]) (st := []) (r1 := (some (.retAddr 1), h)) w_1204 w_1205 ⟨lk_158.1, lk_158.2.1, lk_158.2.2, by decide, by decide⟩ rfl (by simp [Value.category]) dd_162_32 (hs_1 hal b0 h0) ?_
  show am_Good mi_162 35 [some (.ref 66), some (.retAddr set), some (.retAddr all), some (.retAddr ag), some (.retAddr i), v5] [.retAddr 1] h _
  refine g_if_eq_f (t := 60) dd_162_35 (by decide) (by decide) ?_
  refine g_iload_n (i := 2) dd_162_38 rfl ?_
  refine g_aload_n (i := 0) dd_162_39 rfl ?_
  refine g_getfield (k := 11) am_ck12 (by decide) (Or.inl w_946) dd_162_40 q66 f11 ?_
  refine g_iconst dd_162_43 ic_3 ?_
  refine g_iload dd_162_44 rfl ?_
  refine e_imul (v := 3 * i) dd_162_46 (by omega) ?_
  refine g_iconst dd_162_47 ic_1 ?_
  refine e_iadd (v := 3 * i + 1) dd_162_48 (by omega) ?_
  refine g_iaload dd_162_49 a71 (by omega) (by decide) ?_
  have hl_2 := am_ag_lt rr (3 * i + 1)
  refine g_static (M' := mi_158) (n := 2) (as := [.retAddr all, .retAddr (am_ag rr (3 * i + 1))]) (st := []) (r1 := (some (.retAddr 0), h)) w_1204 w_1205 ⟨lk_158.1, lk_158.2.1, lk_158.2.2, by decide, by decide⟩ rfl (by simp [Value.category]) dd_162_50 (hs_0 hal b1 h1) ?_
  show am_Good mi_162 53 [some (.ref 66), some (.retAddr set), some (.retAddr all), some (.retAddr ag), some (.retAddr i), v5] [.retAddr 0] h _
  refine g_if_eq_t (t := 60) dd_162_53 (by decide) (by decide) ?_
  refine g_iconst dd_162_60 ic_0 ?_
  refine g_istore dd_162_61 (am_nlb_ok rfl) (by decide) ?_
  refine g_iload_n (i := 2) dd_162_63 rfl ?_
  refine g_iload dd_162_64 rfl ?_
  refine g_if_eq_t (t := 85) dd_162_66 (by decide) (by decide) ?_
  refine g_iconst dd_162_85 ic_0 ?_
  refine e_ior (v := all) dd_162_86 (Nat.or_zero all) ?_
  refine g_istore_n (i := 2) dd_162_87 (am_nlb_ok rfl) (by decide) ?_
  refine e_iinc (v := 1) (w := i + 1) dd_162_88 rfl ic_1 (am_nlb_ok rfl) (by decide) (by omega) ?_
  refine g_goto (t := 13) dd_162_91 (by decide) ?_
  exact hg
theorem cr_0 {h : am_H} {vs : List Value} {n rr : Nat} (q66 : am_get h 66 = some (.inr (12, vs))) (f10 : vs[10]? = some (.retAddr n)) (f11 : vs[11]? = some (.ref 71)) (a71 : am_get h 71 = some (.inl (0, 18, rr))) (hn : n ≤ 6) (h7 : ∀ i, i < 18 → am_ag rr i ≤ 7) {r : am_R} {set all ag i : Nat} {v5 : Option Value} (hi : i < n) (hal : all < 256) (h0 : ¬ all.testBit (am_ag rr (3 * i)) = true) (hg : am_Good mi_162 13 [some (.ref 66), some (.retAddr set), some (.retAddr all), some (.retAddr ag), some (.retAddr (i + 1)), some (.retAddr 0)] [] h r) : am_Good mi_162 13 [some (.ref 66), some (.retAddr set), some (.retAddr all), some (.retAddr ag), some (.retAddr i), v5] [] h r := by
  have b0 := h7 (3 * i) (by omega)
  have b1 := h7 (3 * i + 1) (by omega)
  have b2 := h7 (3 * i + 2) (by omega)
  refine g_iload dd_162_13 rfl ?_
  refine g_aload_n (i := 0) dd_162_15 rfl ?_
  refine g_getfield (k := 10) am_ck12 (by decide) (Or.inl w_945) dd_162_16 q66 f10 ?_
  refine g_icmp_ge_f (t := 94) dd_162_19 (by decide) (by first | exact sk_ge_f (by omega) (by omega) | exact tk_ge_f (by omega)) ?_
  refine g_iload_n (i := 2) dd_162_22 rfl ?_
  refine g_aload_n (i := 0) dd_162_23 rfl ?_
  refine g_getfield (k := 11) am_ck12 (by decide) (Or.inl w_946) dd_162_24 q66 f11 ?_
  refine g_iconst dd_162_27 ic_3 ?_
  refine g_iload dd_162_28 rfl ?_
  refine e_imul (v := 3 * i) dd_162_30 (by omega) ?_
  refine g_iaload dd_162_31 a71 (by omega) (by decide) ?_
  have hl_1 := am_ag_lt rr (3 * i)
  refine g_static (M' := mi_158) (n := 2) (as := [.retAddr all, .retAddr (am_ag rr (3 * i))]) (st := []) (r1 := (some (.retAddr 0), h)) w_1204 w_1205 ⟨lk_158.1, lk_158.2.1, lk_158.2.2, by decide, by decide⟩ rfl (by simp [Value.category]) dd_162_32 (hs_0 hal b0 h0) ?_
  show am_Good mi_162 35 [some (.ref 66), some (.retAddr set), some (.retAddr all), some (.retAddr ag), some (.retAddr i), v5] [.retAddr 0] h _
  refine g_if_eq_t (t := 60) dd_162_35 (by decide) (by decide) ?_
  refine g_iconst dd_162_60 ic_0 ?_
  refine g_istore dd_162_61 (am_nlb_ok rfl) (by decide) ?_
  refine g_iload_n (i := 2) dd_162_63 rfl ?_
  refine g_iload dd_162_64 rfl ?_
  refine g_if_eq_t (t := 85) dd_162_66 (by decide) (by decide) ?_
  refine g_iconst dd_162_85 ic_0 ?_
  refine e_ior (v := all) dd_162_86 (Nat.or_zero all) ?_
  refine g_istore_n (i := 2) dd_162_87 (am_nlb_ok rfl) (by decide) ?_
  refine e_iinc (v := 1) (w := i + 1) dd_162_88 rfl ic_1 (am_nlb_ok rfl) (by decide) (by omega) ?_
  refine g_goto (t := 13) dd_162_91 (by decide) ?_
  exact hg
theorem cr_e {h : am_H} {vs : List Value} {n rr : Nat} (q66 : am_get h 66 = some (.inr (12, vs))) (f10 : vs[10]? = some (.retAddr n)) (f11 : vs[11]? = some (.ref 71)) (a71 : am_get h 71 = some (.inl (0, 18, rr))) (hn : n ≤ 6) (h7 : ∀ i, i < 18 → am_ag rr i ≤ 7) {r : am_R} {set all ag : Nat} {v5 : Option Value} (hag : ag < 100) (hg : am_Good mi_162 4 [some (.ref 66), some (.retAddr set), some (.retAddr all), some (.retAddr (ag + 1)), some (.retAddr n), v5] [] h r) : am_Good mi_162 13 [some (.ref 66), some (.retAddr set), some (.retAddr all), some (.retAddr ag), some (.retAddr n), v5] [] h r := by
  refine g_iload dd_162_13 rfl ?_
  refine g_aload_n (i := 0) dd_162_15 rfl ?_
  refine g_getfield (k := 10) am_ck12 (by decide) (Or.inl w_945) dd_162_16 q66 f10 ?_
  refine g_icmp_ge_t (t := 94) dd_162_19 (by decide) (by first | exact sk_ge_t (by omega) (by omega) | exact tk_ge_t (by omega)) ?_
  refine e_iinc (v := 1) (w := ag + 1) dd_162_94 rfl ic_1 (am_nlb_ok rfl) (by decide) (by omega) ?_
  refine g_goto (t := 4) dd_162_97 (by decide) ?_
  exact hg
theorem cr_h {h : am_H} {vs : List Value} {n rr : Nat} (q66 : am_get h 66 = some (.inr (12, vs))) (f10 : vs[10]? = some (.retAddr n)) (f11 : vs[11]? = some (.ref 71)) (a71 : am_get h 71 = some (.inl (0, 18, rr))) (hn : n ≤ 6) (h7 : ∀ i, i < 18 → am_ag rr i ≤ 7) {r : am_R} {set all ag : Nat} {v4 v5 : Option Value} (hag : ag < 6) (hg : am_Good mi_162 13 [some (.ref 66), some (.retAddr set), some (.retAddr all), some (.retAddr ag), some (.retAddr 0), v5] [] h r) : am_Good mi_162 4 [some (.ref 66), some (.retAddr set), some (.retAddr all), some (.retAddr ag), v4, v5] [] h r := by
  refine g_iload_n (i := 3) dd_162_4 rfl ?_
  refine g_bipush dd_162_5 bi_6 ?_
  refine g_icmp_ge_f (t := 100) dd_162_7 (by decide) (by first | exact sk_ge_f (by omega) (by omega) | exact tk_ge_f (by omega)) ?_
  refine g_iconst dd_162_10 ic_0 ?_
  refine g_istore dd_162_11 (am_nlb_ok rfl) (by decide) ?_
  exact hg
theorem cr_z {h : am_H} {set all : Nat} {v4 v5 : Option Value} : am_Good mi_162 4 [some (.ref 66), some (.retAddr set), some (.retAddr all), some (.retAddr 6), v4, v5] [] h (some (.retAddr all), h) := by
  refine g_iload_n (i := 3) dd_162_4 rfl ?_
  refine g_bipush dd_162_5 bi_6 ?_
  refine g_icmp_ge_t (t := 100) dd_162_7 (by decide) (by decide) ?_
  refine g_iload_n (i := 2) dd_162_100 rfl ?_
  exact g_ireturn rfl dd_162_101
theorem cr_n {h : am_H} {vs : List Value} {n rr : Nat} (q66 : am_get h 66 = some (.inr (12, vs))) (f10 : vs[10]? = some (.retAddr n)) (f11 : vs[11]? = some (.ref 71)) (a71 : am_get h 71 = some (.inl (0, 18, rr))) (hn : n ≤ 6) (h7 : ∀ i, i < 18 → am_ag rr i ≤ 7) {r : am_R} {set ag : Nat} {all : Nat} (hal : all < 256) (hg : ∀ v5, am_Good mi_162 13 [some (.ref 66), some (.retAddr set), some (.retAddr (cl_n rr n all)), some (.retAddr ag), some (.retAddr n), v5] [] h r) : ∀ (k i : Nat) (v5 : Option Value), i + k = n → am_Good mi_162 13 [some (.ref 66), some (.retAddr set), some (.retAddr (cl_n rr i all)), some (.retAddr ag), some (.retAddr i), v5] [] h r
  | 0, i, v5, e => by
    have e' : i = n := by omega
    subst e'
    exact hg v5
  | k + 1, i, v5, e => by
    have ih := cr_n q66 f10 f11 a71 hn h7 hal hg k (i + 1)
    have hl : cl_n rr i all < 256 := cl_n_lt hal (fun j hj => h7 _ (by omega))
    have st : cl_n rr (i + 1) all = cl_1 rr i (cl_n rr i all) := rfl
    rw [st] at ih
    unfold cl_1 at ih
    by_cases h0 : (cl_n rr i all).testBit (am_ag rr (3 * i)) = true
    · by_cases h1 : (cl_n rr i all).testBit (am_ag rr (3 * i + 1)) = true
      · rw [if_pos ⟨h0, h1⟩] at ih
        exact cr_11 q66 f10 f11 a71 hn h7 (by omega) hl h0 h1 (ih _ (by omega))
      · rw [if_neg (fun q => h1 q.2)] at ih
        exact cr_10 q66 f10 f11 a71 hn h7 (by omega) hl h0 h1 (ih _ (by omega))
    · rw [if_neg (fun q => h0 q.1)] at ih
      exact cr_0 q66 f10 f11 a71 hn h7 (by omega) hl h0 (ih _ (by omega))
theorem cr_k {h : am_H} {vs : List Value} {n rr : Nat} (q66 : am_get h 66 = some (.inr (12, vs))) (f10 : vs[10]? = some (.retAddr n)) (f11 : vs[11]? = some (.ref 71)) (a71 : am_get h 71 = some (.inl (0, 18, rr))) (hn : n ≤ 6) (h7 : ∀ i, i < 18 → am_ag rr i ≤ 7) {set : Nat} (hs : set < 256) : ∀ (k ag : Nat) (v4 v5 : Option Value), ag + k = 6 → am_Good mi_162 4 [some (.ref 66), some (.retAddr set), some (.retAddr (cl_k rr n ag set)), some (.retAddr ag), v4, v5] [] h (some (.retAddr (cl_k rr n 6 set)), h)
  | 0, ag, v4, v5, e => by
    have e' : ag = 6 := by omega
    subst e'
    exact cr_z
  | k + 1, ag, v4, v5, e => by
    have hl : cl_k rr n ag set < 256 := cl_k_lt hs (fun j hj => h7 _ (by omega)) ag
    refine cr_h q66 f10 f11 a71 hn h7 (by omega) ?_
    exact cr_n q66 f10 f11 a71 hn h7 (set := set) hl (fun v5 => cr_e q66 f10 f11 a71 hn h7 (by omega) (cr_k q66 f10 f11 a71 hn h7 hs k (ag + 1) _ _ (by omega))) n 0 v5 (by omega)
theorem cr_m {h : am_H} {vs : List Value} {n rr : Nat} (q66 : am_get h 66 = some (.inr (12, vs))) (f10 : vs[10]? = some (.retAddr n)) (f11 : vs[11]? = some (.ref 71)) (a71 : am_get h 71 = some (.inl (0, 18, rr))) (hn : n ≤ 6) (h7 : ∀ i, i < 18 → am_ag rr i ≤ 7) {set : Nat} (hs : set < 256) : am_EG mi_162 [.ref 66, .retAddr set] h (some (.retAddr (cl_k rr n 6 set)), h) := by
  refine am_enter (n := 4) tk_162.2.1 (by simp [Value.category]) (Nat.le_of_ble_eq_true rfl) ?_
  show am_Good mi_162 0 [some (.ref 66), some (.retAddr set), none, none, none, none] [] h _
  refine g_iload_n (i := 1) dd_162_0 rfl ?_
  refine g_istore_n (i := 2) dd_162_1 (am_nlb_ok rfl) (by decide) ?_
  refine g_iconst dd_162_2 ic_0 ?_
  refine g_istore_n (i := 3) dd_162_3 (am_nlb_ok rfl) (by decide) ?_
  exact cr_k q66 f10 f11 a71 hn h7 hs 6 0 none none (by omega)
theorem ce4_cell {h : am_H} {n rr : Nat} (qR : am_get h 13 = some (.inr (8, [.ref 14, .retAddr 3, .retAddr 6, .retAddr n]))) (aC : am_get h 14 = some (.inl (0, 45, rr))) (hn : n ≤ 6) (h7 : ∀ i, i < 45 → am_ag rr i ≤ 7) {r c : Nat} (hr : r < n) (hc : c < 3) : am_EG mi_31 [.ref 13, .retAddr r, .retAddr c] h (some (.retAddr (am_ag rr (3 * r + c))), h) := by
  refine am_enter (n := 0) tk_31.2.1 (by simp [Value.category]) (Nat.le_of_ble_eq_true rfl) ?_
  show am_Good mi_31 0 [some (.ref 13), some (.retAddr r), some (.retAddr c)] [] h _
  refine g_iload_n (i := 1) dd_31_0 rfl ?_
  refine g_if_lt_f (t := 24) dd_31_1 (by decide) (by first | exact sk_lt_f (by omega) (by omega) | exact tk_lt_f (by omega)) ?_
  refine g_iload_n (i := 1) dd_31_4 rfl ?_
  refine g_aload_n (i := 0) dd_31_5 rfl ?_
  refine g_getfield (k := 3) am_ck8 (by decide) (Or.inl w_60) dd_31_6 qR rfl ?_
  refine g_icmp_ge_f (t := 24) dd_31_9 (by decide) (by first | exact sk_ge_f (by omega) (by omega) | exact tk_ge_f (by omega)) ?_
  refine g_iload_n (i := 2) dd_31_12 rfl ?_
  refine g_if_lt_f (t := 24) dd_31_13 (by decide) (by first | exact sk_lt_f (by omega) (by omega) | exact tk_lt_f (by omega)) ?_
  refine g_iload_n (i := 2) dd_31_16 rfl ?_
  refine g_aload_n (i := 0) dd_31_17 rfl ?_
  refine g_getfield (k := 1) am_ck8 (by decide) (Or.inl w_58) dd_31_18 qR rfl ?_
  refine g_icmp_lt_t (t := 26) dd_31_21 (by decide) (by first | exact sk_lt_t (by omega) (by omega) | exact tk_lt_t (by omega)) ?_
  refine g_aload_n (i := 0) dd_31_26 rfl ?_
  refine g_getfield (k := 0) am_ck8 (by decide) (Or.inl w_57) dd_31_27 qR rfl ?_
  refine g_iload_n (i := 1) dd_31_30 rfl ?_
  refine g_aload_n (i := 0) dd_31_31 rfl ?_
  refine g_getfield (k := 1) am_ck8 (by decide) (Or.inl w_58) dd_31_32 qR rfl ?_
  refine e_imul (v := 3 * r) dd_31_35 (by omega) ?_
  refine g_iload_n (i := 2) dd_31_36 rfl ?_
  refine e_iadd (v := 3 * r + c) dd_31_37 (by omega) ?_
  refine g_iaload dd_31_38 aC (by omega) (by decide) ?_
  have hl_1 := am_ag_lt rr (3 * r + c)
  exact g_ireturn rfl dd_31_39
theorem ce4_t {h : am_H} {n rr : Nat} (qR : am_get h 13 = some (.inr (8, [.ref 14, .retAddr 3, .retAddr 6, .retAddr n]))) (aC : am_get h 14 = some (.inl (0, 45, rr))) (hn : n ≤ 6) (h7 : ∀ i, i < 45 → am_ag rr i ≤ 7) {r : am_R} {set all rd bf i : Nat} {v6 : Option Value} (hi : i < n) (hal : all < 256) (hc : (all.testBit (am_ag rr (3 * i)) = true ∧ all.testBit (am_ag rr (3 * i + 1)) = true)) (hg : am_Good mi_30 16 [some (.ref 13), some (.retAddr set), some (.retAddr (all ||| 2 ^ am_ag rr (3 * i + 2))), some (.retAddr rd), some (.retAddr bf), some (.retAddr (i + 1)), some (.retAddr (2 ^ am_ag rr (3 * i) ||| 2 ^ am_ag rr (3 * i + 1)))] [] h r) : am_Good mi_30 16 [some (.ref 13), some (.retAddr set), some (.retAddr all), some (.retAddr rd), some (.retAddr bf), some (.retAddr i), v6] [] h r := by
  have b0 := h7 (3 * i) (by omega)
  have b1 := h7 (3 * i + 1) (by omega)
  have b2 := h7 (3 * i + 2) (by omega)
  refine g_iload dd_30_16 rfl ?_
  refine g_aload_n (i := 0) dd_30_18 rfl ?_
  refine g_getfield (k := 3) am_ck8 (by decide) (Or.inr ⟨_, w_66⟩) dd_30_19 qR rfl ?_
  refine g_icmp_ge_f (t := 73) dd_30_22 (by decide) (by first | exact sk_ge_f (by omega) (by omega) | exact tk_ge_f (by omega)) ?_
  refine g_iconst dd_30_25 ic_1 ?_
  refine g_aload_n (i := 0) dd_30_26 rfl ?_
  refine g_iload dd_30_27 rfl ?_
  refine g_iconst dd_30_29 ic_0 ?_
  refine g_virtual (M' := mi_31) (n := 2) (ci := 8) (b := 13) (as := [.retAddr i, .retAddr 0]) (st := [.retAddr 1]) (r1 := (some (.retAddr (am_ag rr (3 * i))), h)) w_449 w_450 w_451 ⟨lk_31.1, lk_31.2.1, lk_31.2.2, by decide, by decide⟩ rfl qR rfl (by simp [Value.category]) dd_30_30 (ce4_cell qR aC hn h7 hi (by decide)) ?_
  show am_Good mi_30 33 [some (.ref 13), some (.retAddr set), some (.retAddr all), some (.retAddr rd), some (.retAddr bf), some (.retAddr i), v6] [.retAddr (am_ag rr (3 * i)), .retAddr 1] h _
  refine e_ishl (v := 2 ^ am_ag rr (3 * i)) dd_30_33 (sh_1 b0) ?_
  refine g_iconst dd_30_34 ic_1 ?_
  refine g_aload_n (i := 0) dd_30_35 rfl ?_
  refine g_iload dd_30_36 rfl ?_
  refine g_iconst dd_30_38 ic_1 ?_
  refine g_virtual (M' := mi_31) (n := 2) (ci := 8) (b := 13) (as := [.retAddr i, .retAddr 1]) (st := [.retAddr 1, .retAddr (2 ^ am_ag rr (3 * i))]) (r1 := (some (.retAddr (am_ag rr (3 * i + 1))), h)) w_449 w_450 w_451 ⟨lk_31.1, lk_31.2.1, lk_31.2.2, by decide, by decide⟩ rfl qR rfl (by simp [Value.category]) dd_30_39 (ce4_cell qR aC hn h7 hi (by decide)) ?_
  show am_Good mi_30 42 [some (.ref 13), some (.retAddr set), some (.retAddr all), some (.retAddr rd), some (.retAddr bf), some (.retAddr i), v6] [.retAddr (am_ag rr (3 * i + 1)), .retAddr 1, .retAddr (2 ^ am_ag rr (3 * i))] h _
  refine e_ishl (v := 2 ^ am_ag rr (3 * i + 1)) dd_30_42 (sh_1 b1) ?_
  refine e_ior (v := 2 ^ am_ag rr (3 * i) ||| 2 ^ am_ag rr (3 * i + 1)) dd_30_43 rfl ?_
  refine g_istore dd_30_44 (am_nlb_ok rfl) (by decide) ?_
  refine g_iload_n (i := 2) dd_30_46 rfl ?_
  refine g_iload dd_30_47 rfl ?_
  refine e_iand (v := all &&& (2 ^ am_ag rr (3 * i) ||| 2 ^ am_ag rr (3 * i + 1))) dd_30_49 rfl ?_
  refine g_iload dd_30_50 rfl ?_
  refine g_icmp_ne_f (t := 67) dd_30_52 (by decide) (by rw [nd_b.mpr hc]; exact cl_ne_f _) ?_
  refine g_iload_n (i := 2) dd_30_55 rfl ?_
  refine g_iconst dd_30_56 ic_1 ?_
  refine g_aload_n (i := 0) dd_30_57 rfl ?_
  refine g_iload dd_30_58 rfl ?_
  refine g_iconst dd_30_60 ic_2 ?_
  refine g_virtual (M' := mi_31) (n := 2) (ci := 8) (b := 13) (as := [.retAddr i, .retAddr 2]) (st := [.retAddr 1, .retAddr all]) (r1 := (some (.retAddr (am_ag rr (3 * i + 2))), h)) w_449 w_450 w_451 ⟨lk_31.1, lk_31.2.1, lk_31.2.2, by decide, by decide⟩ rfl qR rfl (by simp [Value.category]) dd_30_61 (ce4_cell qR aC hn h7 hi (by decide)) ?_
  show am_Good mi_30 64 [some (.ref 13), some (.retAddr set), some (.retAddr all), some (.retAddr rd), some (.retAddr bf), some (.retAddr i), some (.retAddr (2 ^ am_ag rr (3 * i) ||| 2 ^ am_ag rr (3 * i + 1)))] [.retAddr (am_ag rr (3 * i + 2)), .retAddr 1, .retAddr all] h _
  refine e_ishl (v := 2 ^ am_ag rr (3 * i + 2)) dd_30_64 (sh_1 b2) ?_
  refine e_ior (v := all ||| 2 ^ am_ag rr (3 * i + 2)) dd_30_65 rfl ?_
  refine g_istore_n (i := 2) dd_30_66 (am_nlb_ok rfl) (by decide) ?_
  refine e_iinc (v := 1) (w := i + 1) dd_30_67 rfl ic_1 (am_nlb_ok rfl) (by decide) (by omega) ?_
  refine g_goto (t := 16) dd_30_70 (by decide) ?_
  exact hg
theorem ce4_f {h : am_H} {n rr : Nat} (qR : am_get h 13 = some (.inr (8, [.ref 14, .retAddr 3, .retAddr 6, .retAddr n]))) (aC : am_get h 14 = some (.inl (0, 45, rr))) (hn : n ≤ 6) (h7 : ∀ i, i < 45 → am_ag rr i ≤ 7) {r : am_R} {set all rd bf i : Nat} {v6 : Option Value} (hi : i < n) (hal : all < 256) (hc : ¬ (all.testBit (am_ag rr (3 * i)) = true ∧ all.testBit (am_ag rr (3 * i + 1)) = true)) (hg : am_Good mi_30 16 [some (.ref 13), some (.retAddr set), some (.retAddr all), some (.retAddr rd), some (.retAddr bf), some (.retAddr (i + 1)), some (.retAddr (2 ^ am_ag rr (3 * i) ||| 2 ^ am_ag rr (3 * i + 1)))] [] h r) : am_Good mi_30 16 [some (.ref 13), some (.retAddr set), some (.retAddr all), some (.retAddr rd), some (.retAddr bf), some (.retAddr i), v6] [] h r := by
  have b0 := h7 (3 * i) (by omega)
  have b1 := h7 (3 * i + 1) (by omega)
  have b2 := h7 (3 * i + 2) (by omega)
  refine g_iload dd_30_16 rfl ?_
  refine g_aload_n (i := 0) dd_30_18 rfl ?_
  refine g_getfield (k := 3) am_ck8 (by decide) (Or.inr ⟨_, w_66⟩) dd_30_19 qR rfl ?_
  refine g_icmp_ge_f (t := 73) dd_30_22 (by decide) (by first | exact sk_ge_f (by omega) (by omega) | exact tk_ge_f (by omega)) ?_
  refine g_iconst dd_30_25 ic_1 ?_
  refine g_aload_n (i := 0) dd_30_26 rfl ?_
  refine g_iload dd_30_27 rfl ?_
  refine g_iconst dd_30_29 ic_0 ?_
  refine g_virtual (M' := mi_31) (n := 2) (ci := 8) (b := 13) (as := [.retAddr i, .retAddr 0]) (st := [.retAddr 1]) (r1 := (some (.retAddr (am_ag rr (3 * i))), h)) w_449 w_450 w_451 ⟨lk_31.1, lk_31.2.1, lk_31.2.2, by decide, by decide⟩ rfl qR rfl (by simp [Value.category]) dd_30_30 (ce4_cell qR aC hn h7 hi (by decide)) ?_
  show am_Good mi_30 33 [some (.ref 13), some (.retAddr set), some (.retAddr all), some (.retAddr rd), some (.retAddr bf), some (.retAddr i), v6] [.retAddr (am_ag rr (3 * i)), .retAddr 1] h _
  refine e_ishl (v := 2 ^ am_ag rr (3 * i)) dd_30_33 (sh_1 b0) ?_
  refine g_iconst dd_30_34 ic_1 ?_
  refine g_aload_n (i := 0) dd_30_35 rfl ?_
  refine g_iload dd_30_36 rfl ?_
  refine g_iconst dd_30_38 ic_1 ?_
  refine g_virtual (M' := mi_31) (n := 2) (ci := 8) (b := 13) (as := [.retAddr i, .retAddr 1]) (st := [.retAddr 1, .retAddr (2 ^ am_ag rr (3 * i))]) (r1 := (some (.retAddr (am_ag rr (3 * i + 1))), h)) w_449 w_450 w_451 ⟨lk_31.1, lk_31.2.1, lk_31.2.2, by decide, by decide⟩ rfl qR rfl (by simp [Value.category]) dd_30_39 (ce4_cell qR aC hn h7 hi (by decide)) ?_
  show am_Good mi_30 42 [some (.ref 13), some (.retAddr set), some (.retAddr all), some (.retAddr rd), some (.retAddr bf), some (.retAddr i), v6] [.retAddr (am_ag rr (3 * i + 1)), .retAddr 1, .retAddr (2 ^ am_ag rr (3 * i))] h _
  refine e_ishl (v := 2 ^ am_ag rr (3 * i + 1)) dd_30_42 (sh_1 b1) ?_
  refine e_ior (v := 2 ^ am_ag rr (3 * i) ||| 2 ^ am_ag rr (3 * i + 1)) dd_30_43 rfl ?_
  refine g_istore dd_30_44 (am_nlb_ok rfl) (by decide) ?_
  refine g_iload_n (i := 2) dd_30_46 rfl ?_
  refine g_iload dd_30_47 rfl ?_
  refine e_iand (v := all &&& (2 ^ am_ag rr (3 * i) ||| 2 ^ am_ag rr (3 * i + 1))) dd_30_49 rfl ?_
  refine g_iload dd_30_50 rfl ?_
  refine g_icmp_ne_t (t := 67) dd_30_52 (by decide) (cl_ne_t (Nat.lt_of_le_of_lt (Nat.and_le_left) hal) (or_lt (p7_lt b0) (p7_lt b1)) (fun q => hc (nd_b.mp q))) ?_
  refine e_iinc (v := 1) (w := i + 1) dd_30_67 rfl ic_1 (am_nlb_ok rfl) (by decide) (by omega) ?_
  refine g_goto (t := 16) dd_30_70 (by decide) ?_
  exact hg
theorem ce4_g {h : am_H} {n rr : Nat} (qR : am_get h 13 = some (.inr (8, [.ref 14, .retAddr 3, .retAddr 6, .retAddr n]))) (aC : am_get h 14 = some (.inl (0, 45, rr))) (hn : n ≤ 6) (h7 : ∀ i, i < 45 → am_ag rr i ≤ 7) {r : am_R} {set all rd bf : Nat} {v6 : Option Value} (hrd : rd < 100) (ha : all < 256) (hb : bf < 256) (hc : all ≠ bf) (hg : am_Good mi_30 4 [some (.ref 13), some (.retAddr set), some (.retAddr all), some (.retAddr (rd + 1)), some (.retAddr bf), some (.retAddr n), v6] [] h r) : am_Good mi_30 16 [some (.ref 13), some (.retAddr set), some (.retAddr all), some (.retAddr rd), some (.retAddr bf), some (.retAddr n), v6] [] h r := by
  refine g_iload dd_30_16 rfl ?_
  refine g_aload_n (i := 0) dd_30_18 rfl ?_
  refine g_getfield (k := 3) am_ck8 (by decide) (Or.inr ⟨_, w_66⟩) dd_30_19 qR rfl ?_
  refine g_icmp_ge_t (t := 73) dd_30_22 (by decide) (by first | exact sk_ge_t (by omega) (by omega) | exact tk_ge_t (by omega)) ?_
  refine g_iload_n (i := 2) dd_30_73 rfl ?_
  refine g_iload dd_30_74 rfl ?_
  refine g_icmp_ne_t (t := 82) dd_30_76 (by decide) (cl_ne_t ha hb hc) ?_
  refine e_iinc (v := 1) (w := rd + 1) dd_30_82 rfl ic_1 (am_nlb_ok rfl) (by decide) (by omega) ?_
  refine g_goto (t := 4) dd_30_85 (by decide) ?_
  exact hg
theorem ce4_s {h : am_H} {n rr : Nat} (qR : am_get h 13 = some (.inr (8, [.ref 14, .retAddr 3, .retAddr 6, .retAddr n]))) (aC : am_get h 14 = some (.inl (0, 45, rr))) (hn : n ≤ 6) (h7 : ∀ i, i < 45 → am_ag rr i ≤ 7) {set all rd : Nat} {v6 : Option Value} : am_Good mi_30 16 [some (.ref 13), some (.retAddr set), some (.retAddr all), some (.retAddr rd), some (.retAddr all), some (.retAddr n), v6] [] h (some (.retAddr all), h) := by
  refine g_iload dd_30_16 rfl ?_
  refine g_aload_n (i := 0) dd_30_18 rfl ?_
  refine g_getfield (k := 3) am_ck8 (by decide) (Or.inr ⟨_, w_66⟩) dd_30_19 qR rfl ?_
  refine g_icmp_ge_t (t := 73) dd_30_22 (by decide) (by first | exact sk_ge_t (by omega) (by omega) | exact tk_ge_t (by omega)) ?_
  refine g_iload_n (i := 2) dd_30_73 rfl ?_
  refine g_iload dd_30_74 rfl ?_
  refine g_icmp_ne_f (t := 82) dd_30_76 (by decide) (cl_ne_f _) ?_
  refine g_goto (t := 88) dd_30_79 (by decide) ?_
  refine g_iload_n (i := 2) dd_30_88 rfl ?_
  exact g_ireturn rfl dd_30_89
theorem ce4_h {h : am_H} {n rr : Nat} (qR : am_get h 13 = some (.inr (8, [.ref 14, .retAddr 3, .retAddr 6, .retAddr n]))) (aC : am_get h 14 = some (.inl (0, 45, rr))) (hn : n ≤ 6) (h7 : ∀ i, i < 45 → am_ag rr i ≤ 7) {r : am_R} {set all rd : Nat} {v4 v5 v6 : Option Value} (hrd : rd ≤ 6) (hg : am_Good mi_30 16 [some (.ref 13), some (.retAddr set), some (.retAddr all), some (.retAddr rd), some (.retAddr all), some (.retAddr 0), v6] [] h r) : am_Good mi_30 4 [some (.ref 13), some (.retAddr set), some (.retAddr all), some (.retAddr rd), v4, v5, v6] [] h r := by
  refine g_iload_n (i := 3) dd_30_4 rfl ?_
  refine g_bipush dd_30_5 bi_6 ?_
  refine g_icmp_gt_f (t := 88) dd_30_7 (by decide) (by first | exact sk_gt_f (by omega) (by omega) | exact tk_gt_f (by omega)) ?_
  refine g_iload_n (i := 2) dd_30_10 rfl ?_
  refine g_istore dd_30_11 (am_nlb_ok rfl) (by decide) ?_
  refine g_iconst dd_30_13 ic_0 ?_
  refine g_istore dd_30_14 (am_nlb_ok rfl) (by decide) ?_
  exact hg
theorem ce4_z {h : am_H} {set all : Nat} {v4 v5 v6 : Option Value} : am_Good mi_30 4 [some (.ref 13), some (.retAddr set), some (.retAddr all), some (.retAddr 7), v4, v5, v6] [] h (some (.retAddr all), h) := by
  refine g_iload_n (i := 3) dd_30_4 rfl ?_
  refine g_bipush dd_30_5 bi_6 ?_
  refine g_icmp_gt_t (t := 88) dd_30_7 (by decide) (by decide) ?_
  refine g_iload_n (i := 2) dd_30_88 rfl ?_
  exact g_ireturn rfl dd_30_89
theorem ce4_n {h : am_H} {n rr : Nat} (qR : am_get h 13 = some (.inr (8, [.ref 14, .retAddr 3, .retAddr 6, .retAddr n]))) (aC : am_get h 14 = some (.inl (0, 45, rr))) (hn : n ≤ 6) (h7 : ∀ i, i < 45 → am_ag rr i ≤ 7) {r : am_R} {set rd bf : Nat} {all : Nat} (hal : all < 256) (hg : ∀ v6, am_Good mi_30 16 [some (.ref 13), some (.retAddr set), some (.retAddr (cl_n rr n all)), some (.retAddr rd), some (.retAddr bf), some (.retAddr n), v6] [] h r) : ∀ (k i : Nat) (v6 : Option Value), i + k = n → am_Good mi_30 16 [some (.ref 13), some (.retAddr set), some (.retAddr (cl_n rr i all)), some (.retAddr rd), some (.retAddr bf), some (.retAddr i), v6] [] h r
  | 0, i, v6, e => by
    have e' : i = n := by omega
    subst e'
    exact hg v6
  | k + 1, i, v6, e => by
    have ih := ce4_n qR aC hn h7 hal hg k (i + 1)
    have hl : cl_n rr i all < 256 := cl_n_lt hal (fun j hj => h7 _ (by omega))
    have st : cl_n rr (i + 1) all = cl_1 rr i (cl_n rr i all) := rfl
    rw [st] at ih
    unfold cl_1 at ih
    by_cases h0 : (cl_n rr i all).testBit (am_ag rr (3 * i)) = true ∧ (cl_n rr i all).testBit (am_ag rr (3 * i + 1)) = true
    · rw [if_pos h0] at ih
      exact ce4_t qR aC hn h7 (by omega) hl h0 (ih _ (by omega))
    · rw [if_neg h0] at ih
      exact ce4_f qR aC hn h7 (by omega) hl h0 (ih _ (by omega))
theorem ce4_k {h : am_H} {n rr : Nat} (qR : am_get h 13 = some (.inr (8, [.ref 14, .retAddr 3, .retAddr 6, .retAddr n]))) (aC : am_get h 14 = some (.inl (0, 45, rr))) (hn : n ≤ 6) (h7 : ∀ i, i < 45 → am_ag rr i ≤ 7) {set : Nat} (hs : set < 256) : ∀ (k rd : Nat) (v4 v5 v6 : Option Value), rd + k = 7 → am_Good mi_30 4 [some (.ref 13), some (.retAddr set), some (.retAddr (cl_k rr n rd set)), some (.retAddr rd), v4, v5, v6] [] h (some (.retAddr (cl_k rr n 6 set)), h)
  | 0, rd, v4, v5, v6, e => by
    have e' : rd = 7 := by omega
    subst e'
    rw [show cl_k rr n 7 set = cl_k rr n 6 set from cl_6 hn]
    exact ce4_z
  | k + 1, rd, v4, v5, v6, e => by
    have h7' : ∀ i, i < n → am_ag rr (3 * i + 2) ≤ 7 := fun j hj => h7 _ (by omega)
    have hl : cl_k rr n rd set < 256 := cl_k_lt hs h7' rd
    have hl2 : cl_n rr n (cl_k rr n rd set) < 256 := cl_n_lt hl h7'
    refine ce4_h qR aC hn h7 (by omega) ?_
    by_cases q : cl_n rr n (cl_k rr n rd set) = cl_k rr n rd set
    · have e6 : cl_k rr n 6 set = cl_k rr n rd set := by
        have := cl_k_stop q (6 - rd)
        rw [show rd + (6 - rd) = 6 by omega] at this
        exact this
      refine ce4_n qR aC hn h7 hl (fun v6 => ?_) n 0 v6 (by omega)
      rw [q, e6]
      exact ce4_s qR aC hn h7
    · refine ce4_n qR aC hn h7 hl (fun v6 => ?_) n 0 v6 (by omega)
      exact ce4_g qR aC hn h7 (by omega) hl2 hl q (ce4_k qR aC hn h7 hs k (rd + 1) _ _ _ (by omega))
theorem ce4_m {h : am_H} {n rr : Nat} (qR : am_get h 13 = some (.inr (8, [.ref 14, .retAddr 3, .retAddr 6, .retAddr n]))) (aC : am_get h 14 = some (.inl (0, 45, rr))) (hn : n ≤ 6) (h7 : ∀ i, i < 45 → am_ag rr i ≤ 7) {set : Nat} (hs : set < 256) : am_EG mi_30 [.ref 13, .retAddr set] h (some (.retAddr (cl_k rr n 6 set)), h) := by
  refine am_enter (n := 5) tk_30.2.1 (by simp [Value.category]) (Nat.le_of_ble_eq_true rfl) ?_
  show am_Good mi_30 0 [some (.ref 13), some (.retAddr set), none, none, none, none, none] [] h _
  refine g_iload_n (i := 1) dd_30_0 rfl ?_
  refine g_istore_n (i := 2) dd_30_1 (am_nlb_ok rfl) (by decide) ?_
  refine g_iconst dd_30_2 ic_0 ?_
  refine g_istore_n (i := 3) dd_30_3 (am_nlb_ok rfl) (by decide) ?_
  exact ce4_k qR aC hn h7 hs 7 0 none none none (by omega)
theorem ce17_cell {h : am_H} {n rr : Nat} (qR : am_get h 26 = some (.inr (8, [.ref 27, .retAddr 3, .retAddr 6, .retAddr n]))) (aC : am_get h 27 = some (.inl (0, 45, rr))) (hn : n ≤ 6) (h7 : ∀ i, i < 45 → am_ag rr i ≤ 7) {r c : Nat} (hr : r < n) (hc : c < 3) : am_EG mi_31 [.ref 26, .retAddr r, .retAddr c] h (some (.retAddr (am_ag rr (3 * r + c))), h) := by
  refine am_enter (n := 0) tk_31.2.1 (by simp [Value.category]) (Nat.le_of_ble_eq_true rfl) ?_
  show am_Good mi_31 0 [some (.ref 26), some (.retAddr r), some (.retAddr c)] [] h _
  refine g_iload_n (i := 1) dd_31_0 rfl ?_
  refine g_if_lt_f (t := 24) dd_31_1 (by decide) (by first | exact sk_lt_f (by omega) (by omega) | exact tk_lt_f (by omega)) ?_
  refine g_iload_n (i := 1) dd_31_4 rfl ?_
  refine g_aload_n (i := 0) dd_31_5 rfl ?_
  refine g_getfield (k := 3) am_ck8 (by decide) (Or.inl w_60) dd_31_6 qR rfl ?_
  refine g_icmp_ge_f (t := 24) dd_31_9 (by decide) (by first | exact sk_ge_f (by omega) (by omega) | exact tk_ge_f (by omega)) ?_
  refine g_iload_n (i := 2) dd_31_12 rfl ?_
  refine g_if_lt_f (t := 24) dd_31_13 (by decide) (by first | exact sk_lt_f (by omega) (by omega) | exact tk_lt_f (by omega)) ?_
  refine g_iload_n (i := 2) dd_31_16 rfl ?_
  refine g_aload_n (i := 0) dd_31_17 rfl ?_
  refine g_getfield (k := 1) am_ck8 (by decide) (Or.inl w_58) dd_31_18 qR rfl ?_
  refine g_icmp_lt_t (t := 26) dd_31_21 (by decide) (by first | exact sk_lt_t (by omega) (by omega) | exact tk_lt_t (by omega)) ?_
  refine g_aload_n (i := 0) dd_31_26 rfl ?_
  refine g_getfield (k := 0) am_ck8 (by decide) (Or.inl w_57) dd_31_27 qR rfl ?_
  refine g_iload_n (i := 1) dd_31_30 rfl ?_
  refine g_aload_n (i := 0) dd_31_31 rfl ?_
  refine g_getfield (k := 1) am_ck8 (by decide) (Or.inl w_58) dd_31_32 qR rfl ?_
  refine e_imul (v := 3 * r) dd_31_35 (by omega) ?_
  refine g_iload_n (i := 2) dd_31_36 rfl ?_
  refine e_iadd (v := 3 * r + c) dd_31_37 (by omega) ?_
  refine g_iaload dd_31_38 aC (by omega) (by decide) ?_
  have hl_1 := am_ag_lt rr (3 * r + c)
  exact g_ireturn rfl dd_31_39
theorem ce17_t {h : am_H} {n rr : Nat} (qR : am_get h 26 = some (.inr (8, [.ref 27, .retAddr 3, .retAddr 6, .retAddr n]))) (aC : am_get h 27 = some (.inl (0, 45, rr))) (hn : n ≤ 6) (h7 : ∀ i, i < 45 → am_ag rr i ≤ 7) {r : am_R} {set all rd bf i : Nat} {v6 : Option Value} (hi : i < n) (hal : all < 256) (hc : (all.testBit (am_ag rr (3 * i)) = true ∧ all.testBit (am_ag rr (3 * i + 1)) = true)) (hg : am_Good mi_30 16 [some (.ref 26), some (.retAddr set), some (.retAddr (all ||| 2 ^ am_ag rr (3 * i + 2))), some (.retAddr rd), some (.retAddr bf), some (.retAddr (i + 1)), some (.retAddr (2 ^ am_ag rr (3 * i) ||| 2 ^ am_ag rr (3 * i + 1)))] [] h r) : am_Good mi_30 16 [some (.ref 26), some (.retAddr set), some (.retAddr all), some (.retAddr rd), some (.retAddr bf), some (.retAddr i), v6] [] h r := by
  have b0 := h7 (3 * i) (by omega)
  have b1 := h7 (3 * i + 1) (by omega)
  have b2 := h7 (3 * i + 2) (by omega)
  refine g_iload dd_30_16 rfl ?_
  refine g_aload_n (i := 0) dd_30_18 rfl ?_
  refine g_getfield (k := 3) am_ck8 (by decide) (Or.inr ⟨_, w_66⟩) dd_30_19 qR rfl ?_
  refine g_icmp_ge_f (t := 73) dd_30_22 (by decide) (by first | exact sk_ge_f (by omega) (by omega) | exact tk_ge_f (by omega)) ?_
  refine g_iconst dd_30_25 ic_1 ?_
  refine g_aload_n (i := 0) dd_30_26 rfl ?_
  refine g_iload dd_30_27 rfl ?_
  refine g_iconst dd_30_29 ic_0 ?_
  refine g_virtual (M' := mi_31) (n := 2) (ci := 8) (b := 26) (as := [.retAddr i, .retAddr 0]) (st := [.retAddr 1]) (r1 := (some (.retAddr (am_ag rr (3 * i))), h)) w_449 w_450 w_451 ⟨lk_31.1, lk_31.2.1, lk_31.2.2, by decide, by decide⟩ rfl qR rfl (by simp [Value.category]) dd_30_30 (ce17_cell qR aC hn h7 hi (by decide)) ?_
  show am_Good mi_30 33 [some (.ref 26), some (.retAddr set), some (.retAddr all), some (.retAddr rd), some (.retAddr bf), some (.retAddr i), v6] [.retAddr (am_ag rr (3 * i)), .retAddr 1] h _
  refine e_ishl (v := 2 ^ am_ag rr (3 * i)) dd_30_33 (sh_1 b0) ?_
  refine g_iconst dd_30_34 ic_1 ?_
  refine g_aload_n (i := 0) dd_30_35 rfl ?_
  refine g_iload dd_30_36 rfl ?_
  refine g_iconst dd_30_38 ic_1 ?_
  refine g_virtual (M' := mi_31) (n := 2) (ci := 8) (b := 26) (as := [.retAddr i, .retAddr 1]) (st := [.retAddr 1, .retAddr (2 ^ am_ag rr (3 * i))]) (r1 := (some (.retAddr (am_ag rr (3 * i + 1))), h)) w_449 w_450 w_451 ⟨lk_31.1, lk_31.2.1, lk_31.2.2, by decide, by decide⟩ rfl qR rfl (by simp [Value.category]) dd_30_39 (ce17_cell qR aC hn h7 hi (by decide)) ?_
  show am_Good mi_30 42 [some (.ref 26), some (.retAddr set), some (.retAddr all), some (.retAddr rd), some (.retAddr bf), some (.retAddr i), v6] [.retAddr (am_ag rr (3 * i + 1)), .retAddr 1, .retAddr (2 ^ am_ag rr (3 * i))] h _
  refine e_ishl (v := 2 ^ am_ag rr (3 * i + 1)) dd_30_42 (sh_1 b1) ?_
  refine e_ior (v := 2 ^ am_ag rr (3 * i) ||| 2 ^ am_ag rr (3 * i + 1)) dd_30_43 rfl ?_
  refine g_istore dd_30_44 (am_nlb_ok rfl) (by decide) ?_
  refine g_iload_n (i := 2) dd_30_46 rfl ?_
  refine g_iload dd_30_47 rfl ?_
  refine e_iand (v := all &&& (2 ^ am_ag rr (3 * i) ||| 2 ^ am_ag rr (3 * i + 1))) dd_30_49 rfl ?_
  refine g_iload dd_30_50 rfl ?_
  refine g_icmp_ne_f (t := 67) dd_30_52 (by decide) (by rw [nd_b.mpr hc]; exact cl_ne_f _) ?_
  refine g_iload_n (i := 2) dd_30_55 rfl ?_
  refine g_iconst dd_30_56 ic_1 ?_
  refine g_aload_n (i := 0) dd_30_57 rfl ?_
  refine g_iload dd_30_58 rfl ?_
  refine g_iconst dd_30_60 ic_2 ?_
  refine g_virtual (M' := mi_31) (n := 2) (ci := 8) (b := 26) (as := [.retAddr i, .retAddr 2]) (st := [.retAddr 1, .retAddr all]) (r1 := (some (.retAddr (am_ag rr (3 * i + 2))), h)) w_449 w_450 w_451 ⟨lk_31.1, lk_31.2.1, lk_31.2.2, by decide, by decide⟩ rfl qR rfl (by simp [Value.category]) dd_30_61 (ce17_cell qR aC hn h7 hi (by decide)) ?_
  show am_Good mi_30 64 [some (.ref 26), some (.retAddr set), some (.retAddr all), some (.retAddr rd), some (.retAddr bf), some (.retAddr i), some (.retAddr (2 ^ am_ag rr (3 * i) ||| 2 ^ am_ag rr (3 * i + 1)))] [.retAddr (am_ag rr (3 * i + 2)), .retAddr 1, .retAddr all] h _
  refine e_ishl (v := 2 ^ am_ag rr (3 * i + 2)) dd_30_64 (sh_1 b2) ?_
  refine e_ior (v := all ||| 2 ^ am_ag rr (3 * i + 2)) dd_30_65 rfl ?_
  refine g_istore_n (i := 2) dd_30_66 (am_nlb_ok rfl) (by decide) ?_
  refine e_iinc (v := 1) (w := i + 1) dd_30_67 rfl ic_1 (am_nlb_ok rfl) (by decide) (by omega) ?_
  refine g_goto (t := 16) dd_30_70 (by decide) ?_
  exact hg
theorem ce17_f {h : am_H} {n rr : Nat} (qR : am_get h 26 = some (.inr (8, [.ref 27, .retAddr 3, .retAddr 6, .retAddr n]))) (aC : am_get h 27 = some (.inl (0, 45, rr))) (hn : n ≤ 6) (h7 : ∀ i, i < 45 → am_ag rr i ≤ 7) {r : am_R} {set all rd bf i : Nat} {v6 : Option Value} (hi : i < n) (hal : all < 256) (hc : ¬ (all.testBit (am_ag rr (3 * i)) = true ∧ all.testBit (am_ag rr (3 * i + 1)) = true)) (hg : am_Good mi_30 16 [some (.ref 26), some (.retAddr set), some (.retAddr all), some (.retAddr rd), some (.retAddr bf), some (.retAddr (i + 1)), some (.retAddr (2 ^ am_ag rr (3 * i) ||| 2 ^ am_ag rr (3 * i + 1)))] [] h r) : am_Good mi_30 16 [some (.ref 26), some (.retAddr set), some (.retAddr all), some (.retAddr rd), some (.retAddr bf), some (.retAddr i), v6] [] h r := by
  have b0 := h7 (3 * i) (by omega)
  have b1 := h7 (3 * i + 1) (by omega)
  have b2 := h7 (3 * i + 2) (by omega)
  refine g_iload dd_30_16 rfl ?_
  refine g_aload_n (i := 0) dd_30_18 rfl ?_
  refine g_getfield (k := 3) am_ck8 (by decide) (Or.inr ⟨_, w_66⟩) dd_30_19 qR rfl ?_
  refine g_icmp_ge_f (t := 73) dd_30_22 (by decide) (by first | exact sk_ge_f (by omega) (by omega) | exact tk_ge_f (by omega)) ?_
  refine g_iconst dd_30_25 ic_1 ?_
  refine g_aload_n (i := 0) dd_30_26 rfl ?_
  refine g_iload dd_30_27 rfl ?_
  refine g_iconst dd_30_29 ic_0 ?_
  refine g_virtual (M' := mi_31) (n := 2) (ci := 8) (b := 26) (as := [.retAddr i, .retAddr 0]) (st := [.retAddr 1]) (r1 := (some (.retAddr (am_ag rr (3 * i))), h)) w_449 w_450 w_451 ⟨lk_31.1, lk_31.2.1, lk_31.2.2, by decide, by decide⟩ rfl qR rfl (by simp [Value.category]) dd_30_30 (ce17_cell qR aC hn h7 hi (by decide)) ?_
  show am_Good mi_30 33 [some (.ref 26), some (.retAddr set), some (.retAddr all), some (.retAddr rd), some (.retAddr bf), some (.retAddr i), v6] [.retAddr (am_ag rr (3 * i)), .retAddr 1] h _
  refine e_ishl (v := 2 ^ am_ag rr (3 * i)) dd_30_33 (sh_1 b0) ?_
  refine g_iconst dd_30_34 ic_1 ?_
  refine g_aload_n (i := 0) dd_30_35 rfl ?_
  refine g_iload dd_30_36 rfl ?_
  refine g_iconst dd_30_38 ic_1 ?_
  refine g_virtual (M' := mi_31) (n := 2) (ci := 8) (b := 26) (as := [.retAddr i, .retAddr 1]) (st := [.retAddr 1, .retAddr (2 ^ am_ag rr (3 * i))]) (r1 := (some (.retAddr (am_ag rr (3 * i + 1))), h)) w_449 w_450 w_451 ⟨lk_31.1, lk_31.2.1, lk_31.2.2, by decide, by decide⟩ rfl qR rfl (by simp [Value.category]) dd_30_39 (ce17_cell qR aC hn h7 hi (by decide)) ?_
  show am_Good mi_30 42 [some (.ref 26), some (.retAddr set), some (.retAddr all), some (.retAddr rd), some (.retAddr bf), some (.retAddr i), v6] [.retAddr (am_ag rr (3 * i + 1)), .retAddr 1, .retAddr (2 ^ am_ag rr (3 * i))] h _
  refine e_ishl (v := 2 ^ am_ag rr (3 * i + 1)) dd_30_42 (sh_1 b1) ?_
  refine e_ior (v := 2 ^ am_ag rr (3 * i) ||| 2 ^ am_ag rr (3 * i + 1)) dd_30_43 rfl ?_
  refine g_istore dd_30_44 (am_nlb_ok rfl) (by decide) ?_
  refine g_iload_n (i := 2) dd_30_46 rfl ?_
  refine g_iload dd_30_47 rfl ?_
  refine e_iand (v := all &&& (2 ^ am_ag rr (3 * i) ||| 2 ^ am_ag rr (3 * i + 1))) dd_30_49 rfl ?_
  refine g_iload dd_30_50 rfl ?_
  refine g_icmp_ne_t (t := 67) dd_30_52 (by decide) (cl_ne_t (Nat.lt_of_le_of_lt (Nat.and_le_left) hal) (or_lt (p7_lt b0) (p7_lt b1)) (fun q => hc (nd_b.mp q))) ?_
  refine e_iinc (v := 1) (w := i + 1) dd_30_67 rfl ic_1 (am_nlb_ok rfl) (by decide) (by omega) ?_
  refine g_goto (t := 16) dd_30_70 (by decide) ?_
  exact hg
theorem ce17_g {h : am_H} {n rr : Nat} (qR : am_get h 26 = some (.inr (8, [.ref 27, .retAddr 3, .retAddr 6, .retAddr n]))) (aC : am_get h 27 = some (.inl (0, 45, rr))) (hn : n ≤ 6) (h7 : ∀ i, i < 45 → am_ag rr i ≤ 7) {r : am_R} {set all rd bf : Nat} {v6 : Option Value} (hrd : rd < 100) (ha : all < 256) (hb : bf < 256) (hc : all ≠ bf) (hg : am_Good mi_30 4 [some (.ref 26), some (.retAddr set), some (.retAddr all), some (.retAddr (rd + 1)), some (.retAddr bf), some (.retAddr n), v6] [] h r) : am_Good mi_30 16 [some (.ref 26), some (.retAddr set), some (.retAddr all), some (.retAddr rd), some (.retAddr bf), some (.retAddr n), v6] [] h r := by
  refine g_iload dd_30_16 rfl ?_
  refine g_aload_n (i := 0) dd_30_18 rfl ?_
  refine g_getfield (k := 3) am_ck8 (by decide) (Or.inr ⟨_, w_66⟩) dd_30_19 qR rfl ?_
  refine g_icmp_ge_t (t := 73) dd_30_22 (by decide) (by first | exact sk_ge_t (by omega) (by omega) | exact tk_ge_t (by omega)) ?_
  refine g_iload_n (i := 2) dd_30_73 rfl ?_
  refine g_iload dd_30_74 rfl ?_
  refine g_icmp_ne_t (t := 82) dd_30_76 (by decide) (cl_ne_t ha hb hc) ?_
  refine e_iinc (v := 1) (w := rd + 1) dd_30_82 rfl ic_1 (am_nlb_ok rfl) (by decide) (by omega) ?_
  refine g_goto (t := 4) dd_30_85 (by decide) ?_
  exact hg
theorem ce17_s {h : am_H} {n rr : Nat} (qR : am_get h 26 = some (.inr (8, [.ref 27, .retAddr 3, .retAddr 6, .retAddr n]))) (aC : am_get h 27 = some (.inl (0, 45, rr))) (hn : n ≤ 6) (h7 : ∀ i, i < 45 → am_ag rr i ≤ 7) {set all rd : Nat} {v6 : Option Value} : am_Good mi_30 16 [some (.ref 26), some (.retAddr set), some (.retAddr all), some (.retAddr rd), some (.retAddr all), some (.retAddr n), v6] [] h (some (.retAddr all), h) := by
  refine g_iload dd_30_16 rfl ?_
  refine g_aload_n (i := 0) dd_30_18 rfl ?_
  refine g_getfield (k := 3) am_ck8 (by decide) (Or.inr ⟨_, w_66⟩) dd_30_19 qR rfl ?_
  refine g_icmp_ge_t (t := 73) dd_30_22 (by decide) (by first | exact sk_ge_t (by omega) (by omega) | exact tk_ge_t (by omega)) ?_
  refine g_iload_n (i := 2) dd_30_73 rfl ?_
  refine g_iload dd_30_74 rfl ?_
  refine g_icmp_ne_f (t := 82) dd_30_76 (by decide) (cl_ne_f _) ?_
  refine g_goto (t := 88) dd_30_79 (by decide) ?_
  refine g_iload_n (i := 2) dd_30_88 rfl ?_
  exact g_ireturn rfl dd_30_89
theorem ce17_h {h : am_H} {n rr : Nat} (qR : am_get h 26 = some (.inr (8, [.ref 27, .retAddr 3, .retAddr 6, .retAddr n]))) (aC : am_get h 27 = some (.inl (0, 45, rr))) (hn : n ≤ 6) (h7 : ∀ i, i < 45 → am_ag rr i ≤ 7) {r : am_R} {set all rd : Nat} {v4 v5 v6 : Option Value} (hrd : rd ≤ 6) (hg : am_Good mi_30 16 [some (.ref 26), some (.retAddr set), some (.retAddr all), some (.retAddr rd), some (.retAddr all), some (.retAddr 0), v6] [] h r) : am_Good mi_30 4 [some (.ref 26), some (.retAddr set), some (.retAddr all), some (.retAddr rd), v4, v5, v6] [] h r := by
  refine g_iload_n (i := 3) dd_30_4 rfl ?_
  refine g_bipush dd_30_5 bi_6 ?_
  refine g_icmp_gt_f (t := 88) dd_30_7 (by decide) (by first | exact sk_gt_f (by omega) (by omega) | exact tk_gt_f (by omega)) ?_
  refine g_iload_n (i := 2) dd_30_10 rfl ?_
  refine g_istore dd_30_11 (am_nlb_ok rfl) (by decide) ?_
  refine g_iconst dd_30_13 ic_0 ?_
  refine g_istore dd_30_14 (am_nlb_ok rfl) (by decide) ?_
  exact hg
theorem ce17_z {h : am_H} {set all : Nat} {v4 v5 v6 : Option Value} : am_Good mi_30 4 [some (.ref 26), some (.retAddr set), some (.retAddr all), some (.retAddr 7), v4, v5, v6] [] h (some (.retAddr all), h) := by
  refine g_iload_n (i := 3) dd_30_4 rfl ?_
  refine g_bipush dd_30_5 bi_6 ?_
  refine g_icmp_gt_t (t := 88) dd_30_7 (by decide) (by decide) ?_
  refine g_iload_n (i := 2) dd_30_88 rfl ?_
  exact g_ireturn rfl dd_30_89
theorem ce17_n {h : am_H} {n rr : Nat} (qR : am_get h 26 = some (.inr (8, [.ref 27, .retAddr 3, .retAddr 6, .retAddr n]))) (aC : am_get h 27 = some (.inl (0, 45, rr))) (hn : n ≤ 6) (h7 : ∀ i, i < 45 → am_ag rr i ≤ 7) {r : am_R} {set rd bf : Nat} {all : Nat} (hal : all < 256) (hg : ∀ v6, am_Good mi_30 16 [some (.ref 26), some (.retAddr set), some (.retAddr (cl_n rr n all)), some (.retAddr rd), some (.retAddr bf), some (.retAddr n), v6] [] h r) : ∀ (k i : Nat) (v6 : Option Value), i + k = n → am_Good mi_30 16 [some (.ref 26), some (.retAddr set), some (.retAddr (cl_n rr i all)), some (.retAddr rd), some (.retAddr bf), some (.retAddr i), v6] [] h r
  | 0, i, v6, e => by
    have e' : i = n := by omega
    subst e'
    exact hg v6
  | k + 1, i, v6, e => by
    have ih := ce17_n qR aC hn h7 hal hg k (i + 1)
    have hl : cl_n rr i all < 256 := cl_n_lt hal (fun j hj => h7 _ (by omega))
    have st : cl_n rr (i + 1) all = cl_1 rr i (cl_n rr i all) := rfl
    rw [st] at ih
    unfold cl_1 at ih
    by_cases h0 : (cl_n rr i all).testBit (am_ag rr (3 * i)) = true ∧ (cl_n rr i all).testBit (am_ag rr (3 * i + 1)) = true
    · rw [if_pos h0] at ih
      exact ce17_t qR aC hn h7 (by omega) hl h0 (ih _ (by omega))
    · rw [if_neg h0] at ih
      exact ce17_f qR aC hn h7 (by omega) hl h0 (ih _ (by omega))
theorem ce17_k {h : am_H} {n rr : Nat} (qR : am_get h 26 = some (.inr (8, [.ref 27, .retAddr 3, .retAddr 6, .retAddr n]))) (aC : am_get h 27 = some (.inl (0, 45, rr))) (hn : n ≤ 6) (h7 : ∀ i, i < 45 → am_ag rr i ≤ 7) {set : Nat} (hs : set < 256) : ∀ (k rd : Nat) (v4 v5 v6 : Option Value), rd + k = 7 → am_Good mi_30 4 [some (.ref 26), some (.retAddr set), some (.retAddr (cl_k rr n rd set)), some (.retAddr rd), v4, v5, v6] [] h (some (.retAddr (cl_k rr n 6 set)), h)
  | 0, rd, v4, v5, v6, e => by
    have e' : rd = 7 := by omega
    subst e'
    rw [show cl_k rr n 7 set = cl_k rr n 6 set from cl_6 hn]
    exact ce17_z
  | k + 1, rd, v4, v5, v6, e => by
    have h7' : ∀ i, i < n → am_ag rr (3 * i + 2) ≤ 7 := fun j hj => h7 _ (by omega)
    have hl : cl_k rr n rd set < 256 := cl_k_lt hs h7' rd
    have hl2 : cl_n rr n (cl_k rr n rd set) < 256 := cl_n_lt hl h7'
    refine ce17_h qR aC hn h7 (by omega) ?_
    by_cases q : cl_n rr n (cl_k rr n rd set) = cl_k rr n rd set
    · have e6 : cl_k rr n 6 set = cl_k rr n rd set := by
        have := cl_k_stop q (6 - rd)
        rw [show rd + (6 - rd) = 6 by omega] at this
        exact this
      refine ce17_n qR aC hn h7 hl (fun v6 => ?_) n 0 v6 (by omega)
      rw [q, e6]
      exact ce17_s qR aC hn h7
    · refine ce17_n qR aC hn h7 hl (fun v6 => ?_) n 0 v6 (by omega)
      exact ce17_g qR aC hn h7 (by omega) hl2 hl q (ce17_k qR aC hn h7 hs k (rd + 1) _ _ _ (by omega))
theorem ce17_m {h : am_H} {n rr : Nat} (qR : am_get h 26 = some (.inr (8, [.ref 27, .retAddr 3, .retAddr 6, .retAddr n]))) (aC : am_get h 27 = some (.inl (0, 45, rr))) (hn : n ≤ 6) (h7 : ∀ i, i < 45 → am_ag rr i ≤ 7) {set : Nat} (hs : set < 256) : am_EG mi_30 [.ref 26, .retAddr set] h (some (.retAddr (cl_k rr n 6 set)), h) := by
  refine am_enter (n := 5) tk_30.2.1 (by simp [Value.category]) (Nat.le_of_ble_eq_true rfl) ?_
  show am_Good mi_30 0 [some (.ref 26), some (.retAddr set), none, none, none, none, none] [] h _
  refine g_iload_n (i := 1) dd_30_0 rfl ?_
  refine g_istore_n (i := 2) dd_30_1 (am_nlb_ok rfl) (by decide) ?_
  refine g_iconst dd_30_2 ic_0 ?_
  refine g_istore_n (i := 3) dd_30_3 (am_nlb_ok rfl) (by decide) ?_
  exact ce17_k qR aC hn h7 hs 7 0 none none none (by omega)
