/-! ===== derive, known ===== -/
theorem dv_o {h : am_H} {a la x x' b : Nat} {e : am_E} (ha : am_get h a = some (.inl (0, la, x))) (ne : b ≠ a) (hb : am_get h b = some e) : am_get (am_upd h a (.inl (0, la, x'))) b = some e := by rw [am_get_upd ha, if_neg ne]; exact hb
theorem dv4_s {h : am_H} {n rr cc : Nat} {ves : List Value} (q30 : am_get h 30 = some (.inr (2, [.ref 31]))) (a31 : am_get h 31 = some (.inl (0, 256, cc))) (qE : am_get h 4 = some (.inr (1, ves))) (f4 : ves[4]? = some (.ref 13)) (qR : am_get h 13 = some (.inr (8, [.ref 14, .retAddr 3, .retAddr 6, .retAddr n]))) (aC : am_get h 14 = some (.inl (0, 45, rr))) (hn : n ≤ 6) (h7 : ∀ i, i < 45 → am_ag rr i ≤ 7) {r : am_R} {X s : Nat} (hs : s < 256) (hg : am_Good mi_29 2 [some (.ref 30), some (.ref 4), some (.retAddr (s + 1))] [] (am_upd h 31 (.inl (0, 256, am_as X s (cl_k rr n 6 s)))) r) : am_Good mi_29 2 [some (.ref 30), some (.ref 4), some (.retAddr s)] [] (am_upd h 31 (.inl (0, 256, X))) r := by
  refine g_iload_n (i := 2) dd_29_2 rfl ?_
  refine g_sipush dd_29_3 si_255 ?_
  refine g_icmp_gt_f (t := 29) dd_29_6 (by decide) (by first | exact sk_gt_f (by omega) (by omega) | exact tk_gt_f (by omega)) ?_
  refine g_aload_n (i := 0) dd_29_9 rfl ?_
  refine g_getfield (k := 0) am_ck2 (by decide) (Or.inl w_143) dd_29_10 (dv_o a31 (by decide) q30) rfl ?_
  refine g_iload_n (i := 2) dd_29_13 rfl ?_
  refine g_aload_n (i := 1) dd_29_14 rfl ?_
  refine g_getfield (k := 4) am_ck1 (by decide) (Or.inr ⟨_, w_99⟩) dd_29_15 (dv_o a31 (by decide) qE) f4 ?_
  refine g_iload_n (i := 2) dd_29_18 rfl ?_
  refine g_static (M' := mi_30) (n := 2) (as := [.ref 13, .retAddr s]) (st := [.retAddr s, .ref 31]) (r1 := (some (.retAddr (cl_k rr n 6 s)), (am_upd h 31 (.inl (0, 256, X))))) w_446 w_447 ⟨lk_30.1, lk_30.2.1, lk_30.2.2, by decide, by decide⟩ rfl (by simp [Value.category]) dd_29_19 (ce4_m (dv_o a31 (by decide) qR) (dv_o a31 (by decide) aC) hn h7 (by omega)) ?_
  show am_Good mi_29 22 [some (.ref 30), some (.ref 4), some (.retAddr s)] [.retAddr (cl_k rr n 6 s), .retAddr s, .ref 31] (am_upd h 31 (.inl (0, 256, X))) _
  refine g_iastore dd_29_22 (put_ga a31) (by omega) (by decide) ?_
  refine am_heq (jm_upd_upd a31) ?_
  show am_Good mi_29 23 [some (.ref 30), some (.ref 4), some (.retAddr s)] [] (am_upd h 31 (.inl (0, 256, am_as X s (cl_k rr n 6 s)))) _
  refine e_iinc (v := 1) (w := s + 1) dd_29_23 rfl ic_1 (am_nlb_ok rfl) (by decide) (by omega) ?_
  refine g_goto (t := 2) dd_29_26 (by decide) ?_
  exact hg
theorem dv4_e {h : am_H} {X : Nat} : am_Good mi_29 2 [some (.ref 30), some (.ref 4), some (.retAddr 256)] [] (am_upd h 31 (.inl (0, 256, X))) (none, (am_upd h 31 (.inl (0, 256, X)))) := by
  refine g_iload_n (i := 2) dd_29_2 rfl ?_
  refine g_sipush dd_29_3 si_255 ?_
  refine g_icmp_gt_t (t := 29) dd_29_6 (by decide) (by decide) ?_
  exact g_return rfl dd_29_29
theorem dv4_l {h : am_H} {n rr cc : Nat} {ves : List Value} (q30 : am_get h 30 = some (.inr (2, [.ref 31]))) (a31 : am_get h 31 = some (.inl (0, 256, cc))) (qE : am_get h 4 = some (.inr (1, ves))) (f4 : ves[4]? = some (.ref 13)) (qR : am_get h 13 = some (.inr (8, [.ref 14, .retAddr 3, .retAddr 6, .retAddr n]))) (aC : am_get h 14 = some (.inl (0, 45, rr))) (hn : n ≤ 6) (h7 : ∀ i, i < 45 → am_ag rr i ≤ 7) : ∀ (k s X : Nat), s + k = 256 → (∀ i, i < s → am_ag X i = cl_k rr n 6 i) → ∃ X', am_Good mi_29 2 [some (.ref 30), some (.ref 4), some (.retAddr s)] [] (am_upd h 31 (.inl (0, 256, X))) (none, am_upd h 31 (.inl (0, 256, X'))) ∧ ∀ i, i < 256 → am_ag X' i = cl_k rr n 6 i
  | 0, s, X, e, hX => by
    have e' : s = 256 := by omega
    subst e'
    exact ⟨X, dv4_e, hX⟩
  | k + 1, s, X, e, hX => by
    have hl : cl_k rr n 6 s < 256 := cl_k_lt (by omega) (fun j hj => h7 _ (by omega)) 6
    obtain ⟨X', g, q⟩ := dv4_l q30 a31 qE f4 qR aC hn h7 k (s + 1) (am_as X s (cl_k rr n 6 s)) (by omega) (fun i hi => by
      rw [am_ag_as]
      by_cases q : i = s
      · rw [if_pos q, Nat.mod_eq_of_lt (by omega), q]
      · rw [if_neg q]
        exact hX i (by omega))
    exact ⟨X', dv4_s q30 a31 qE f4 qR aC hn h7 (by omega) g, q⟩
theorem dv4_m {h : am_H} {n rr cc : Nat} {ves : List Value} (q30 : am_get h 30 = some (.inr (2, [.ref 31]))) (a31 : am_get h 31 = some (.inl (0, 256, cc))) (qE : am_get h 4 = some (.inr (1, ves))) (f4 : ves[4]? = some (.ref 13)) (qR : am_get h 13 = some (.inr (8, [.ref 14, .retAddr 3, .retAddr 6, .retAddr n]))) (aC : am_get h 14 = some (.inl (0, 45, rr))) (hn : n ≤ 6) (h7 : ∀ i, i < 45 → am_ag rr i ≤ 7) : ∃ X', am_EG mi_29 [.ref 30, .ref 4] h (none, am_upd h 31 (.inl (0, 256, X'))) ∧ ∀ i, i < 256 → am_ag X' i = cl_k rr n 6 i := by
  obtain ⟨X', g, q⟩ := dv4_l q30 a31 qE f4 qR aC hn h7 256 0 cc (by omega) (fun i hi => absurd hi (Nat.not_lt_zero _))
  rw [jm_upd_self a31] at g
  refine ⟨X', ?_, q⟩
  refine am_enter (n := 1) tk_29.2.1 (by simp [Value.category]) (Nat.le_of_ble_eq_true rfl) ?_
  show am_Good mi_29 0 [some (.ref 30), some (.ref 4), none] [] h _
  refine g_iconst dd_29_0 ic_0 ?_
  refine g_istore_n (i := 2) dd_29_1 (am_nlb_ok rfl) (by decide) ?_
  exact g
theorem dv17_s {h : am_H} {n rr cc : Nat} {ves : List Value} (q30 : am_get h 30 = some (.inr (2, [.ref 31]))) (a31 : am_get h 31 = some (.inl (0, 256, cc))) (qE : am_get h 17 = some (.inr (1, ves))) (f4 : ves[4]? = some (.ref 26)) (qR : am_get h 26 = some (.inr (8, [.ref 27, .retAddr 3, .retAddr 6, .retAddr n]))) (aC : am_get h 27 = some (.inl (0, 45, rr))) (hn : n ≤ 6) (h7 : ∀ i, i < 45 → am_ag rr i ≤ 7) {r : am_R} {X s : Nat} (hs : s < 256) (hg : am_Good mi_29 2 [some (.ref 30), some (.ref 17), some (.retAddr (s + 1))] [] (am_upd h 31 (.inl (0, 256, am_as X s (cl_k rr n 6 s)))) r) : am_Good mi_29 2 [some (.ref 30), some (.ref 17), some (.retAddr s)] [] (am_upd h 31 (.inl (0, 256, X))) r := by
  refine g_iload_n (i := 2) dd_29_2 rfl ?_
  refine g_sipush dd_29_3 si_255 ?_
  refine g_icmp_gt_f (t := 29) dd_29_6 (by decide) (by first | exact sk_gt_f (by omega) (by omega) | exact tk_gt_f (by omega)) ?_
  refine g_aload_n (i := 0) dd_29_9 rfl ?_
  refine g_getfield (k := 0) am_ck2 (by decide) (Or.inl w_143) dd_29_10 (dv_o a31 (by decide) q30) rfl ?_
  refine g_iload_n (i := 2) dd_29_13 rfl ?_
  refine g_aload_n (i := 1) dd_29_14 rfl ?_
  refine g_getfield (k := 4) am_ck1 (by decide) (Or.inr ⟨_, w_99⟩) dd_29_15 (dv_o a31 (by decide) qE) f4 ?_
  refine g_iload_n (i := 2) dd_29_18 rfl ?_
  refine g_static (M' := mi_30) (n := 2) (as := [.ref 26, .retAddr s]) (st := [.retAddr s, .ref 31]) (r1 := (some (.retAddr (cl_k rr n 6 s)), (am_upd h 31 (.inl (0, 256, X))))) w_446 w_447 ⟨lk_30.1, lk_30.2.1, lk_30.2.2, by decide, by decide⟩ rfl (by simp [Value.category]) dd_29_19 (ce17_m (dv_o a31 (by decide) qR) (dv_o a31 (by decide) aC) hn h7 (by omega)) ?_
  show am_Good mi_29 22 [some (.ref 30), some (.ref 17), some (.retAddr s)] [.retAddr (cl_k rr n 6 s), .retAddr s, .ref 31] (am_upd h 31 (.inl (0, 256, X))) _
  refine g_iastore dd_29_22 (put_ga a31) (by omega) (by decide) ?_
  refine am_heq (jm_upd_upd a31) ?_
  show am_Good mi_29 23 [some (.ref 30), some (.ref 17), some (.retAddr s)] [] (am_upd h 31 (.inl (0, 256, am_as X s (cl_k rr n 6 s)))) _
  refine e_iinc (v := 1) (w := s + 1) dd_29_23 rfl ic_1 (am_nlb_ok rfl) (by decide) (by omega) ?_
  refine g_goto (t := 2) dd_29_26 (by decide) ?_
  exact hg
theorem dv17_e {h : am_H} {X : Nat} : am_Good mi_29 2 [some (.ref 30), some (.ref 17), some (.retAddr 256)] [] (am_upd h 31 (.inl (0, 256, X))) (none, (am_upd h 31 (.inl (0, 256, X)))) := by
  refine g_iload_n (i := 2) dd_29_2 rfl ?_
  refine g_sipush dd_29_3 si_255 ?_
  refine g_icmp_gt_t (t := 29) dd_29_6 (by decide) (by decide) ?_
  exact g_return rfl dd_29_29
theorem dv17_l {h : am_H} {n rr cc : Nat} {ves : List Value} (q30 : am_get h 30 = some (.inr (2, [.ref 31]))) (a31 : am_get h 31 = some (.inl (0, 256, cc))) (qE : am_get h 17 = some (.inr (1, ves))) (f4 : ves[4]? = some (.ref 26)) (qR : am_get h 26 = some (.inr (8, [.ref 27, .retAddr 3, .retAddr 6, .retAddr n]))) (aC : am_get h 27 = some (.inl (0, 45, rr))) (hn : n ≤ 6) (h7 : ∀ i, i < 45 → am_ag rr i ≤ 7) : ∀ (k s X : Nat), s + k = 256 → (∀ i, i < s → am_ag X i = cl_k rr n 6 i) → ∃ X', am_Good mi_29 2 [some (.ref 30), some (.ref 17), some (.retAddr s)] [] (am_upd h 31 (.inl (0, 256, X))) (none, am_upd h 31 (.inl (0, 256, X'))) ∧ ∀ i, i < 256 → am_ag X' i = cl_k rr n 6 i
  | 0, s, X, e, hX => by
    have e' : s = 256 := by omega
    subst e'
    exact ⟨X, dv17_e, hX⟩
  | k + 1, s, X, e, hX => by
    have hl : cl_k rr n 6 s < 256 := cl_k_lt (by omega) (fun j hj => h7 _ (by omega)) 6
    obtain ⟨X', g, q⟩ := dv17_l q30 a31 qE f4 qR aC hn h7 k (s + 1) (am_as X s (cl_k rr n 6 s)) (by omega) (fun i hi => by
      rw [am_ag_as]
      by_cases q : i = s
      · rw [if_pos q, Nat.mod_eq_of_lt (by omega), q]
      · rw [if_neg q]
        exact hX i (by omega))
    exact ⟨X', dv17_s q30 a31 qE f4 qR aC hn h7 (by omega) g, q⟩
theorem dv17_m {h : am_H} {n rr cc : Nat} {ves : List Value} (q30 : am_get h 30 = some (.inr (2, [.ref 31]))) (a31 : am_get h 31 = some (.inl (0, 256, cc))) (qE : am_get h 17 = some (.inr (1, ves))) (f4 : ves[4]? = some (.ref 26)) (qR : am_get h 26 = some (.inr (8, [.ref 27, .retAddr 3, .retAddr 6, .retAddr n]))) (aC : am_get h 27 = some (.inl (0, 45, rr))) (hn : n ≤ 6) (h7 : ∀ i, i < 45 → am_ag rr i ≤ 7) : ∃ X', am_EG mi_29 [.ref 30, .ref 17] h (none, am_upd h 31 (.inl (0, 256, X'))) ∧ ∀ i, i < 256 → am_ag X' i = cl_k rr n 6 i := by
  obtain ⟨X', g, q⟩ := dv17_l q30 a31 qE f4 qR aC hn h7 256 0 cc (by omega) (fun i hi => absurd hi (Nat.not_lt_zero _))
  rw [jm_upd_self a31] at g
  refine ⟨X', ?_, q⟩
  refine am_enter (n := 1) tk_29.2.1 (by simp [Value.category]) (Nat.le_of_ble_eq_true rfl) ?_
  show am_Good mi_29 0 [some (.ref 30), some (.ref 17), none] [] h _
  refine g_iconst dd_29_0 ic_0 ?_
  refine g_istore_n (i := 2) dd_29_1 (am_nlb_ok rfl) (by decide) ?_
  exact g
theorem and_255 {s : Nat} (h : s < 256) : s &&& 255 = s := by
  rw [show (255 : Nat) = 2 ^ 8 - 1 from rfl, Nat.and_two_pow_sub_one_eq_mod]
  exact Nat.mod_eq_of_lt h
theorem kn_fol {h : am_H} {vs : List Value} {cc set : Nat} (q0 : am_get h 0 = some (.inr (11, vs))) (f5 : vs[5]? = some (.ref 30)) (q30 : am_get h 30 = some (.inr (2, [.ref 31]))) (a31 : am_get h 31 = some (.inl (0, 256, cc))) (hs : set < 256) : am_EG mi_57 [.ref 30, .retAddr set] h (some (.retAddr (am_ag cc set)), h) := by
  refine am_enter (n := 0) tk_57.2.1 (by simp [Value.category]) (Nat.le_of_ble_eq_true rfl) ?_
  show am_Good mi_57 0 [some (.ref 30), some (.retAddr set)] [] h _
  refine g_aload_n (i := 0) dd_57_0 rfl ?_
  refine g_getfield (k := 0) am_ck2 (by decide) (Or.inl w_143) dd_57_1 q30 rfl ?_
  refine g_iload_n (i := 1) dd_57_4 rfl ?_
  refine g_sipush dd_57_5 si_255 ?_
  refine e_iand (v := set) dd_57_8 (and_255 hs) ?_
  refine g_iaload dd_57_9 a31 (by omega) (by decide) ?_
  have hl_1 := am_ag_lt cc set
  exact g_ireturn rfl dd_57_10
theorem kn_is1 {h : am_H} {set : Nat} (hs : set < 256) : am_EG mi_56 [.retAddr set] h (some (.retAddr 1), h) := by
  refine am_enter (n := 0) tk_56.2.1 (by simp [Value.category]) (Nat.le_of_ble_eq_true rfl) ?_
  show am_Good mi_56 0 [some (.retAddr set)] [] h _
  refine g_iload_n (i := 0) dd_56_0 rfl ?_
  refine g_if_lt_f (t := 15) dd_56_1 (by decide) (by first | exact sk_lt_f (by omega) (by omega) | exact tk_lt_f (by omega)) ?_
  refine g_iload_n (i := 0) dd_56_4 rfl ?_
  refine g_sipush dd_56_5 si_255 ?_
  refine g_icmp_gt_f (t := 15) dd_56_8 (by decide) (by first | exact sk_gt_f (by omega) (by omega) | exact tk_gt_f (by omega)) ?_
  refine g_iconst dd_56_11 ic_1 ?_
  refine g_goto (t := 16) dd_56_12 (by decide) ?_
  exact g_zreturn rfl (by first | decide | omega) dd_56_16
theorem kn_is0 {h : am_H} {set : Nat} (hs : ¬ set < 256) (hs2 : set < 4294967296) : am_EG mi_56 [.retAddr set] h (some (.retAddr 0), h) := by
  refine am_enter (n := 0) tk_56.2.1 (by simp [Value.category]) (Nat.le_of_ble_eq_true rfl) ?_
  show am_Good mi_56 0 [some (.retAddr set)] [] h _
  refine g_iload_n (i := 0) dd_56_0 rfl ?_
  by_cases hq : 2147483648 ≤ set
  · refine g_if_lt_t (t := 15) dd_56_1 (by decide) (by first | exact sk_lt_t (by omega) (by omega) | exact tk_lt_t (by omega)) ?_
    refine g_iconst dd_56_15 ic_0 ?_
    exact g_zreturn rfl (by first | decide | omega) dd_56_16
  · refine g_if_lt_f (t := 15) dd_56_1 (by decide) (by first | exact sk_lt_f (by omega) (by omega) | exact tk_lt_f (by omega)) ?_
    refine g_iload_n (i := 0) dd_56_4 rfl ?_
    refine g_sipush dd_56_5 si_255 ?_
    refine g_icmp_gt_t (t := 15) dd_56_8 (by decide) (by first | exact sk_gt_t (by omega) (by omega) | exact tk_gt_t (by omega)) ?_
    refine g_iconst dd_56_15 ic_0 ?_
    exact g_zreturn rfl (by first | decide | omega) dd_56_16
theorem knx_1 {h : am_H} {vs : List Value} {cc set : Nat} (q0 : am_get h 0 = some (.inr (11, vs))) (f5 : vs[5]? = some (.ref 30)) (q30 : am_get h 30 = some (.inr (2, [.ref 31]))) (a31 : am_get h 31 = some (.inl (0, 256, cc))) (hs : set < 256) : am_EG mi_55 [.ref 0, .retAddr set] h (some (.retAddr (am_ag cc set)), h) := by
  refine am_enter (n := 0) tk_55.2.1 (by simp [Value.category]) (Nat.le_of_ble_eq_true rfl) ?_
  show am_Good mi_55 0 [some (.ref 0), some (.retAddr set)] [] h _
  refine g_iload_n (i := 1) dd_55_0 rfl ?_
  refine g_static (M' := mi_56) (n := 1) (as := [.retAddr set]) (st := []) (r1 := (some (.retAddr 1), h)) w_605 w_606 ⟨lk_56.1, lk_56.2.1, lk_56.2.2, by decide, by decide⟩ rfl (by simp [Value.category]) dd_55_1 (kn_is1 hs) ?_
  show am_Good mi_55 4 [some (.ref 0), some (.retAddr set)] [.retAddr 1] h _
  refine g_if_eq_f (t := 18) dd_55_4 (by decide) (by decide) ?_
  refine g_aload_n (i := 0) dd_55_7 rfl ?_
  refine g_getfield (k := 5) am_ck11 (by decide) (Or.inl w_516) dd_55_8 q0 f5 ?_
  refine g_iload_n (i := 1) dd_55_11 rfl ?_
  refine g_virtual (M' := mi_57) (n := 1) (ci := 2) (b := 30) (as := [.retAddr set]) (st := []) (r1 := (some (.retAddr (am_ag cc set)), h)) w_608 w_609 w_610 ⟨lk_57.1, lk_57.2.1, lk_57.2.2, by decide, by decide⟩ rfl q30 rfl (by simp [Value.category]) dd_55_12 (kn_fol q0 f5 q30 a31 hs) ?_
  show am_Good mi_55 15 [some (.ref 0), some (.retAddr set)] [.retAddr (am_ag cc set)] h _
  refine g_goto (t := 19) dd_55_15 (by decide) ?_
  exact g_ireturn rfl dd_55_19
theorem knx_0 {h : am_H} {vs : List Value} {cc set : Nat} (q0 : am_get h 0 = some (.inr (11, vs))) (f5 : vs[5]? = some (.ref 30)) (q30 : am_get h 30 = some (.inr (2, [.ref 31]))) (a31 : am_get h 31 = some (.inl (0, 256, cc))) (hs : ¬ set < 256) (hs2 : set < 4294967296) : am_EG mi_55 [.ref 0, .retAddr set] h (some (.retAddr 4294967295), h) := by
  refine am_enter (n := 0) tk_55.2.1 (by simp [Value.category]) (Nat.le_of_ble_eq_true rfl) ?_
  show am_Good mi_55 0 [some (.ref 0), some (.retAddr set)] [] h _
  refine g_iload_n (i := 1) dd_55_0 rfl ?_
  refine g_static (M' := mi_56) (n := 1) (as := [.retAddr set]) (st := []) (r1 := (some (.retAddr 0), h)) w_605 w_606 ⟨lk_56.1, lk_56.2.1, lk_56.2.2, by decide, by decide⟩ rfl (by simp [Value.category]) dd_55_1 (kn_is0 hs hs2) ?_
  show am_Good mi_55 4 [some (.ref 0), some (.retAddr set)] [.retAddr 0] h _
  refine g_if_eq_t (t := 18) dd_55_4 (by decide) (by decide) ?_
  refine g_iconst dd_55_18 ic_m1 ?_
  exact g_ireturn rfl dd_55_19
theorem kn_ms1 {h : am_H} {set : Nat} (hs : set < 256) : am_EG mi_161 [.retAddr set] h (some (.retAddr 1), h) := by
  refine am_enter (n := 0) tk_161.2.1 (by simp [Value.category]) (Nat.le_of_ble_eq_true rfl) ?_
  show am_Good mi_161 0 [some (.retAddr set)] [] h _
  refine g_iload_n (i := 0) dd_161_0 rfl ?_
  refine g_iconst dd_161_1 ic_0 ?_
  refine g_sipush dd_161_2 si_255 ?_
  refine g_static (M' := mi_133) (n := 3) (as := [.retAddr set, .retAddr 0, .retAddr 255]) (st := []) (r1 := (some (.retAddr 1), h)) w_1106 w_1107 ⟨lk_133.1, lk_133.2.1, lk_133.2.2, by decide, by decide⟩ rfl (by simp [Value.category]) dd_161_5 (rin1 (by decide) ⟨Nat.zero_le _, by omega⟩ (by decide)) ?_
  show am_Good mi_161 8 [some (.retAddr set)] [.retAddr 1] h _
  exact g_zreturn rfl (by first | decide | omega) dd_161_8
theorem kn_in0 {h : am_H} {set : Nat} (hs : ¬ set < 256) (hs2 : set < 4294967296) : am_EG mi_133 [.retAddr set, .retAddr 0, .retAddr 255] h (some (.retAddr 0), h) := by
  by_cases q : set < 2147483648
  · exact rin0 (by decide) (by omega) q
  · exact rinn (by decide) (by omega) hs2
theorem kn_ms0 {h : am_H} {set : Nat} (hs : ¬ set < 256) (hs2 : set < 4294967296) : am_EG mi_161 [.retAddr set] h (some (.retAddr 0), h) := by
  refine am_enter (n := 0) tk_161.2.1 (by simp [Value.category]) (Nat.le_of_ble_eq_true rfl) ?_
  show am_Good mi_161 0 [some (.retAddr set)] [] h _
  refine g_iload_n (i := 0) dd_161_0 rfl ?_
  refine g_iconst dd_161_1 ic_0 ?_
  refine g_sipush dd_161_2 si_255 ?_
  refine g_static (M' := mi_133) (n := 3) (as := [.retAddr set, .retAddr 0, .retAddr 255]) (st := []) (r1 := (some (.retAddr 0), h)) w_1106 w_1107 ⟨lk_133.1, lk_133.2.1, lk_133.2.2, by decide, by decide⟩ rfl (by simp [Value.category]) dd_161_5 (kn_in0 hs hs2) ?_
  show am_Good mi_161 8 [some (.retAddr set)] [.retAddr 0] h _
  exact g_zreturn rfl (by first | decide | omega) dd_161_8
theorem knm_1 {h : am_H} {vs : List Value} {n rr : Nat} (q66 : am_get h 66 = some (.inr (12, vs))) (f10 : vs[10]? = some (.retAddr n)) (f11 : vs[11]? = some (.ref 71)) (a71 : am_get h 71 = some (.inl (0, 18, rr))) (hn : n ≤ 6) (h7 : ∀ i, i < 18 → am_ag rr i ≤ 7) {set : Nat} (hs : set < 256) : am_EG mi_160 [.ref 66, .retAddr set] h (some (.retAddr (cl_k rr n 6 set)), h) := by
  refine am_enter (n := 0) tk_160.2.1 (by simp [Value.category]) (Nat.le_of_ble_eq_true rfl) ?_
  show am_Good mi_160 0 [some (.ref 66), some (.retAddr set)] [] h _
  refine g_iload_n (i := 1) dd_160_0 rfl ?_
  refine g_static (M' := mi_161) (n := 1) (as := [.retAddr set]) (st := []) (r1 := (some (.retAddr 1), h)) w_1215 w_1216 ⟨lk_161.1, lk_161.2.1, lk_161.2.2, by decide, by decide⟩ rfl (by simp [Value.category]) dd_160_1 (kn_ms1 hs) ?_
  show am_Good mi_160 4 [some (.ref 66), some (.retAddr set)] [.retAddr 1] h _
  refine g_if_eq_f (t := 15) dd_160_4 (by decide) (by decide) ?_
  refine g_aload_n (i := 0) dd_160_7 rfl ?_
  refine g_iload_n (i := 1) dd_160_8 rfl ?_
  refine g_virtual (M' := mi_162) (n := 1) (ci := 12) (b := 66) (as := [.retAddr set]) (st := []) (r1 := (some (.retAddr (cl_k rr n 6 set)), h)) w_1218 w_1220 ps_162 ⟨lk_162.1, lk_162.2.1, lk_162.2.2, by decide, by decide⟩ rfl q66 rfl (by simp [Value.category]) dd_160_9 (cr_m q66 f10 f11 a71 hn h7 hs) ?_
  show am_Good mi_160 12 [some (.ref 66), some (.retAddr set)] [.retAddr (cl_k rr n 6 set)] h _
  refine g_goto (t := 16) dd_160_12 (by decide) ?_
  exact g_ireturn rfl dd_160_16
theorem knm_0 {h : am_H} {vs : List Value} {n rr : Nat} (q66 : am_get h 66 = some (.inr (12, vs))) (f10 : vs[10]? = some (.retAddr n)) (f11 : vs[11]? = some (.ref 71)) (a71 : am_get h 71 = some (.inl (0, 18, rr))) (hn : n ≤ 6) (h7 : ∀ i, i < 18 → am_ag rr i ≤ 7) {set : Nat} (hs : ¬ set < 256) (hs2 : set < 4294967296) : am_EG mi_160 [.ref 66, .retAddr set] h (some (.retAddr 4294967295), h) := by
  refine am_enter (n := 0) tk_160.2.1 (by simp [Value.category]) (Nat.le_of_ble_eq_true rfl) ?_
  show am_Good mi_160 0 [some (.ref 66), some (.retAddr set)] [] h _
  refine g_iload_n (i := 1) dd_160_0 rfl ?_
  refine g_static (M' := mi_161) (n := 1) (as := [.retAddr set]) (st := []) (r1 := (some (.retAddr 0), h)) w_1215 w_1216 ⟨lk_161.1, lk_161.2.1, lk_161.2.2, by decide, by decide⟩ rfl (by simp [Value.category]) dd_160_1 (kn_ms0 hs hs2) ?_
  show am_Good mi_160 4 [some (.ref 66), some (.retAddr set)] [.retAddr 0] h _
  refine g_if_eq_t (t := 15) dd_160_4 (by decide) (by decide) ?_
  refine g_iconst dd_160_15 ic_m1 ?_
  exact g_ireturn rfl dd_160_16
