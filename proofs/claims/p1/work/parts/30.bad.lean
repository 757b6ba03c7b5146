/-! ===== refusals ===== -/
theorem gx_0 : am_get hp_0 0 = some (.inr (11, [.ref 1, .retAddr 0, .ref 2, .ref 4, .ref 17, .ref 30, .ref 32, .ref 36, .ref 40, .ref 43, .ref 45, .ref 47, .ref 54, .ref 57, .ref 59, .ref 62, .retAddr 0])) := rfl
theorem gx_4 : am_get hp_0 4 = some (.inr (1, [.ref 5, .ref 7, .ref 9, .ref 11, .ref 13, .ref 15, .retAddr 12, .retAddr 1])) := rfl
theorem gx_5 : am_get hp_0 5 = some (.inr (8, [.ref 6, .retAddr 1, .retAddr 4, .retAddr 2])) := rfl
theorem gx_15 : am_get hp_0 15 = some (.inr (8, [.ref 16, .retAddr 2, .retAddr 4, .retAddr 4])) := rfl
theorem gm_66 : am_get hp_m 66 = some (.inr (12, [.retAddr 12, .retAddr 1, .retAddr 2, .ref 67, .retAddr 2, .ref 68, .retAddr 2, .ref 69, .retAddr 0, .ref 70, .retAddr 1, .ref 71, .retAddr 4, .ref 72, .ref 73, .retAddr 0, .retAddr 0, .ref 74, .retAddr 0, .retAddr 0, .retAddr 0, .ref 75, .retAddr 0, .ref 76, .retAddr 0, .ref 77, .retAddr 0, .ref 78, .retAddr 0, .ref 79, .retAddr 0, .ref 80, .ref 81, .ref 82, .ref 83, .ref 84, .retAddr 0, .retAddr 0, .retAddr 0, .retAddr 0, .retAddr 0, .ref 85, .retAddr 0, .ref 86, .retAddr 0, .ref 87, .ref 88, .ref 89, .retAddr 0, .retAddr 0, .retAddr 0, .ref 90, .ref 91, .retAddr 0, .ref 92])) := rfl
theorem eg_turns0 : am_EG mi_106 [.ref 4] hp_0 (some (.retAddr 2), hp_0) := am_runs (d := 9) (j := 106) (by decide +kernel)
theorem ex_isStation_1 (a : Nat) (h_a : 0 ≤ a) (k_a : a < 2) : am_EG mi_51 [.ref 0, .retAddr (a)] hp_0 (some (.retAddr 1), hp_0) := by
  refine am_enter (n := 0) tk_51.2.1 (by simp [Value.category]) (Nat.le_of_ble_eq_true rfl) ?_
  show am_Good mi_51 0 [some (.ref 0), some (.retAddr (a))] [] hp_0 _
  refine g_iload_n (i := 1) dd_51_0 rfl ?_
  refine g_if_lt_f (t := 22) dd_51_1 (by decide) (tk_lt_f (by omega)) ?_
  refine g_iload_n (i := 1) dd_51_4 rfl ?_
  refine g_aload_n (i := 0) dd_51_5 rfl ?_
  refine g_getfield (k := 3) am_ck11 (by decide) (Or.inl w_514) dd_51_6 gx_0 rfl ?_
  refine g_getfield (k := 0) am_ck1 (by decide) (Or.inr ⟨_, w_84⟩) dd_51_9 gx_4 rfl ?_
  refine g_getfield (k := 3) am_ck8 (by decide) (Or.inr ⟨_, w_67⟩) dd_51_12 gx_5 rfl ?_
  refine g_icmp_ge_f (t := 22) dd_51_15 (by decide) (tk_ge_f (by omega)) ?_
  refine g_iconst dd_51_18 ic_1 ?_
  refine g_goto (t := 23) dd_51_19 (by decide) ?_
  exact g_zreturn rfl (by decide) dd_51_23
theorem ex_isStation_0 (a : Nat) (h_a : 2 ≤ a) (k_a : a < 4294967296) : am_EG mi_51 [.ref 0, .retAddr (a)] hp_0 (some (.retAddr 0), hp_0) := by
  refine am_enter (n := 0) tk_51.2.1 (by simp [Value.category]) (Nat.le_of_ble_eq_true rfl) ?_
  show am_Good mi_51 0 [some (.ref 0), some (.retAddr (a))] [] hp_0 _
  refine g_iload_n (i := 1) dd_51_0 rfl ?_
  by_cases hs1 : a < 2147483648
  · refine g_if_lt_f (t := 22) dd_51_1 (by decide) (tk_lt_f (by omega)) ?_
    refine g_iload_n (i := 1) dd_51_4 rfl ?_
    refine g_aload_n (i := 0) dd_51_5 rfl ?_
    refine g_getfield (k := 3) am_ck11 (by decide) (Or.inl w_514) dd_51_6 gx_0 rfl ?_
    refine g_getfield (k := 0) am_ck1 (by decide) (Or.inr ⟨_, w_84⟩) dd_51_9 gx_4 rfl ?_
    refine g_getfield (k := 3) am_ck8 (by decide) (Or.inr ⟨_, w_67⟩) dd_51_12 gx_5 rfl ?_
    refine g_icmp_ge_t (t := 22) dd_51_15 (by decide) (tk_ge_t (by omega)) ?_
    refine g_iconst dd_51_22 ic_0 ?_
    exact g_zreturn rfl (by decide) dd_51_23
  · refine g_if_lt_t (t := 22) dd_51_1 (by decide) (tk_lt_t (by omega)) ?_
    refine g_iconst dd_51_22 ic_0 ?_
    exact g_zreturn rfl (by decide) dd_51_23
theorem ex_isMinute_1 (a : Nat) (h_a : 0 ≤ a) (k_a : a < 12) : am_EG mi_52 [.ref 0, .retAddr (a)] hp_0 (some (.retAddr 1), hp_0) := by
  refine am_enter (n := 0) tk_52.2.1 (by simp [Value.category]) (Nat.le_of_ble_eq_true rfl) ?_
  show am_Good mi_52 0 [some (.ref 0), some (.retAddr (a))] [] hp_0 _
  refine g_iload_n (i := 1) dd_52_0 rfl ?_
  refine g_if_lt_f (t := 19) dd_52_1 (by decide) (tk_lt_f (by omega)) ?_
  refine g_iload_n (i := 1) dd_52_4 rfl ?_
  refine g_aload_n (i := 0) dd_52_5 rfl ?_
  refine g_getfield (k := 3) am_ck11 (by decide) (Or.inl w_514) dd_52_6 gx_0 rfl ?_
  refine g_getfield (k := 6) am_ck1 (by decide) (Or.inr ⟨_, w_112⟩) dd_52_9 gx_4 rfl ?_
  refine g_icmp_ge_f (t := 19) dd_52_12 (by decide) (tk_ge_f (by omega)) ?_
  refine g_iconst dd_52_15 ic_1 ?_
  refine g_goto (t := 20) dd_52_16 (by decide) ?_
  exact g_zreturn rfl (by decide) dd_52_20
theorem ex_isMinute_0 (a : Nat) (h_a : 12 ≤ a) (k_a : a < 4294967296) : am_EG mi_52 [.ref 0, .retAddr (a)] hp_0 (some (.retAddr 0), hp_0) := by
  refine am_enter (n := 0) tk_52.2.1 (by simp [Value.category]) (Nat.le_of_ble_eq_true rfl) ?_
  show am_Good mi_52 0 [some (.ref 0), some (.retAddr (a))] [] hp_0 _
  refine g_iload_n (i := 1) dd_52_0 rfl ?_
  by_cases hs1 : a < 2147483648
  · refine g_if_lt_f (t := 19) dd_52_1 (by decide) (tk_lt_f (by omega)) ?_
    refine g_iload_n (i := 1) dd_52_4 rfl ?_
    refine g_aload_n (i := 0) dd_52_5 rfl ?_
    refine g_getfield (k := 3) am_ck11 (by decide) (Or.inl w_514) dd_52_6 gx_0 rfl ?_
    refine g_getfield (k := 6) am_ck1 (by decide) (Or.inr ⟨_, w_112⟩) dd_52_9 gx_4 rfl ?_
    refine g_icmp_ge_t (t := 19) dd_52_12 (by decide) (tk_ge_t (by omega)) ?_
    refine g_iconst dd_52_19 ic_0 ?_
    exact g_zreturn rfl (by decide) dd_52_20
  · refine g_if_lt_t (t := 19) dd_52_1 (by decide) (tk_lt_t (by omega)) ?_
    refine g_iconst dd_52_19 ic_0 ?_
    exact g_zreturn rfl (by decide) dd_52_20
theorem ex_isWatcher_1 (a : Nat) (h_a : 0 ≤ a) (k_a : a < 4) : am_EG mi_59 [.ref 0, .retAddr (a)] hp_0 (some (.retAddr 1), hp_0) := by
  refine am_enter (n := 0) tk_59.2.1 (by simp [Value.category]) (Nat.le_of_ble_eq_true rfl) ?_
  show am_Good mi_59 0 [some (.ref 0), some (.retAddr (a))] [] hp_0 _
  refine g_iload_n (i := 1) dd_59_0 rfl ?_
  refine g_if_lt_f (t := 22) dd_59_1 (by decide) (tk_lt_f (by omega)) ?_
  refine g_iload_n (i := 1) dd_59_4 rfl ?_
  refine g_aload_n (i := 0) dd_59_5 rfl ?_
  refine g_getfield (k := 3) am_ck11 (by decide) (Or.inl w_514) dd_59_6 gx_0 rfl ?_
  refine g_getfield (k := 5) am_ck1 (by decide) (Or.inr ⟨_, w_104⟩) dd_59_9 gx_4 rfl ?_
  refine g_getfield (k := 3) am_ck8 (by decide) (Or.inr ⟨_, w_67⟩) dd_59_12 gx_15 rfl ?_
  refine g_icmp_ge_f (t := 22) dd_59_15 (by decide) (tk_ge_f (by omega)) ?_
  refine g_iconst dd_59_18 ic_1 ?_
  refine g_goto (t := 23) dd_59_19 (by decide) ?_
  exact g_zreturn rfl (by decide) dd_59_23
theorem ex_isWatcher_0 (a : Nat) (h_a : 4 ≤ a) (k_a : a < 4294967296) : am_EG mi_59 [.ref 0, .retAddr (a)] hp_0 (some (.retAddr 0), hp_0) := by
  refine am_enter (n := 0) tk_59.2.1 (by simp [Value.category]) (Nat.le_of_ble_eq_true rfl) ?_
  show am_Good mi_59 0 [some (.ref 0), some (.retAddr (a))] [] hp_0 _
  refine g_iload_n (i := 1) dd_59_0 rfl ?_
  by_cases hs1 : a < 2147483648
  · refine g_if_lt_f (t := 22) dd_59_1 (by decide) (tk_lt_f (by omega)) ?_
    refine g_iload_n (i := 1) dd_59_4 rfl ?_
    refine g_aload_n (i := 0) dd_59_5 rfl ?_
    refine g_getfield (k := 3) am_ck11 (by decide) (Or.inl w_514) dd_59_6 gx_0 rfl ?_
    refine g_getfield (k := 5) am_ck1 (by decide) (Or.inr ⟨_, w_104⟩) dd_59_9 gx_4 rfl ?_
    refine g_getfield (k := 3) am_ck8 (by decide) (Or.inr ⟨_, w_67⟩) dd_59_12 gx_15 rfl ?_
    refine g_icmp_ge_t (t := 22) dd_59_15 (by decide) (tk_ge_t (by omega)) ?_
    refine g_iconst dd_59_22 ic_0 ?_
    exact g_zreturn rfl (by decide) dd_59_23
  · refine g_if_lt_t (t := 22) dd_59_1 (by decide) (tk_lt_t (by omega)) ?_
    refine g_iconst dd_59_22 ic_0 ?_
    exact g_zreturn rfl (by decide) dd_59_23
theorem ex_isSet_1 (a : Nat) (h_a : 0 ≤ a) (k_a : a < 256) : am_EG mi_56 [.retAddr (a)] hp_0 (some (.retAddr 1), hp_0) := by
  refine am_enter (n := 0) tk_56.2.1 (by simp [Value.category]) (Nat.le_of_ble_eq_true rfl) ?_
  show am_Good mi_56 0 [some (.retAddr (a))] [] hp_0 _
  refine g_iload_n (i := 0) dd_56_0 rfl ?_
  refine g_if_lt_f (t := 15) dd_56_1 (by decide) (tk_lt_f (by omega)) ?_
  refine g_iload_n (i := 0) dd_56_4 rfl ?_
  refine g_sipush dd_56_5 si_255 ?_
  refine g_icmp_gt_f (t := 15) dd_56_8 (by decide) (tk_gt_f (by omega)) ?_
  refine g_iconst dd_56_11 ic_1 ?_
  refine g_goto (t := 16) dd_56_12 (by decide) ?_
  exact g_zreturn rfl (by decide) dd_56_16
theorem ex_isSet_0 (a : Nat) (h_a : 256 ≤ a) (k_a : a < 4294967296) : am_EG mi_56 [.retAddr (a)] hp_0 (some (.retAddr 0), hp_0) := by
  refine am_enter (n := 0) tk_56.2.1 (by simp [Value.category]) (Nat.le_of_ble_eq_true rfl) ?_
  show am_Good mi_56 0 [some (.retAddr (a))] [] hp_0 _
  refine g_iload_n (i := 0) dd_56_0 rfl ?_
  by_cases hs1 : a < 2147483648
  · refine g_if_lt_f (t := 15) dd_56_1 (by decide) (tk_lt_f (by omega)) ?_
    refine g_iload_n (i := 0) dd_56_4 rfl ?_
    refine g_sipush dd_56_5 si_255 ?_
    refine g_icmp_gt_t (t := 15) dd_56_8 (by decide) (tk_gt_t (by omega)) ?_
    refine g_iconst dd_56_15 ic_0 ?_
    exact g_zreturn rfl (by decide) dd_56_16
  · refine g_if_lt_t (t := 15) dd_56_1 (by decide) (tk_lt_t (by omega)) ?_
    refine g_iconst dd_56_15 ic_0 ?_
    exact g_zreturn rfl (by decide) dd_56_16
theorem ex_isWatcherOrPlan_0 (a : Nat) (h_a : 4 ≤ a) (k_a : a < 4294967295) : am_EG mi_116 [.ref 0, .retAddr (a)] hp_0 (some (.retAddr 0), hp_0) := by
  refine am_enter (n := 0) tk_116.2.1 (by simp [Value.category]) (Nat.le_of_ble_eq_true rfl) ?_
  show am_Good mi_116 0 [some (.ref 0), some (.retAddr (a))] [] hp_0 _
  refine g_iload_n (i := 1) dd_116_0 rfl ?_
  refine g_iconst dd_116_1 ic_m1 ?_
  by_cases hs1 : a < 2147483648
  · refine g_icmp_eq_f (t := 13) dd_116_2 (by decide) (tk_eq_f (by omega)) ?_
    refine g_aload_n (i := 0) dd_116_5 rfl ?_
    refine g_iload_n (i := 1) dd_116_6 rfl ?_
    refine g_virtual (M' := mi_59) (n := 1) (ci := 11) (b := 0) (as := [.retAddr (a)]) (st := []) w_616 w_618 ps_59 ⟨lk_59.1, lk_59.2.1, lk_59.2.2, by decide, by decide⟩ rfl gx_0 rfl (by simp [Value.category]) dd_116_7 (ex_isWatcher_0 (a) (by omega) (by omega)) ?_
    refine g_if_eq_t (t := 17) dd_116_10 (by decide) (by decide) ?_
    refine g_iconst dd_116_17 ic_0 ?_
    exact g_zreturn rfl (by decide) dd_116_18
  · refine g_icmp_eq_f (t := 13) dd_116_2 (by decide) (tk_eq_f (by omega)) ?_
    refine g_aload_n (i := 0) dd_116_5 rfl ?_
    refine g_iload_n (i := 1) dd_116_6 rfl ?_
    refine g_virtual (M' := mi_59) (n := 1) (ci := 11) (b := 0) (as := [.retAddr (a)]) (st := []) w_616 w_618 ps_59 ⟨lk_59.1, lk_59.2.1, lk_59.2.2, by decide, by decide⟩ rfl gx_0 rfl (by simp [Value.category]) dd_116_7 (ex_isWatcher_0 (a) (by omega) (by omega)) ?_
    refine g_if_eq_t (t := 17) dd_116_10 (by decide) (by decide) ?_
    refine g_iconst dd_116_17 ic_0 ?_
    exact g_zreturn rfl (by decide) dd_116_18
theorem ex_isWatcherOrPlan_1 (a : Nat) (h_a : 0 ≤ a) (k_a : a < 4) : am_EG mi_116 [.ref 0, .retAddr (a)] hp_0 (some (.retAddr 1), hp_0) := by
  refine am_enter (n := 0) tk_116.2.1 (by simp [Value.category]) (Nat.le_of_ble_eq_true rfl) ?_
  show am_Good mi_116 0 [some (.ref 0), some (.retAddr (a))] [] hp_0 _
  refine g_iload_n (i := 1) dd_116_0 rfl ?_
  refine g_iconst dd_116_1 ic_m1 ?_
  refine g_icmp_eq_f (t := 13) dd_116_2 (by decide) (tk_eq_f (by omega)) ?_
  refine g_aload_n (i := 0) dd_116_5 rfl ?_
  refine g_iload_n (i := 1) dd_116_6 rfl ?_
  refine g_virtual (M' := mi_59) (n := 1) (ci := 11) (b := 0) (as := [.retAddr (a)]) (st := []) w_616 w_618 ps_59 ⟨lk_59.1, lk_59.2.1, lk_59.2.2, by decide, by decide⟩ rfl gx_0 rfl (by simp [Value.category]) dd_116_7 (ex_isWatcher_1 (a) (by omega) (by omega)) ?_
  refine g_if_eq_f (t := 17) dd_116_10 (by decide) (by decide) ?_
  refine g_iconst dd_116_13 ic_1 ?_
  refine g_goto (t := 18) dd_116_14 (by decide) ?_
  exact g_zreturn rfl (by decide) dd_116_18
theorem ex_isWatcherOrPlan_2 (a : Nat) (h_a : 4294967295 ≤ a) (k_a : a < 4294967296) : am_EG mi_116 [.ref 0, .retAddr (a)] hp_0 (some (.retAddr 1), hp_0) := by
  refine am_enter (n := 0) tk_116.2.1 (by simp [Value.category]) (Nat.le_of_ble_eq_true rfl) ?_
  show am_Good mi_116 0 [some (.ref 0), some (.retAddr (a))] [] hp_0 _
  refine g_iload_n (i := 1) dd_116_0 rfl ?_
  refine g_iconst dd_116_1 ic_m1 ?_
  refine g_icmp_eq_t (t := 13) dd_116_2 (by decide) (tk_eq_t (by omega)) ?_
  refine g_iconst dd_116_13 ic_1 ?_
  refine g_goto (t := 18) dd_116_14 (by decide) ?_
  exact g_zreturn rfl (by decide) dd_116_18
theorem ex_fairBound_0 (a : Nat) (h_a : 0 ≤ a) (k_a : a < 1) : am_EG mi_105 [.ref 0, .retAddr (a)] hp_0 (some (.retAddr 1), hp_0) := by
  refine am_enter (n := 0) tk_105.2.1 (by simp [Value.category]) (Nat.le_of_ble_eq_true rfl) ?_
  show am_Good mi_105 0 [some (.ref 0), some (.retAddr (a))] [] hp_0 _
  refine g_iload_n (i := 1) dd_105_0 rfl ?_
  refine g_if_ne_f (t := 6) dd_105_1 (by decide) (tk_ne_f (by omega)) ?_
  refine g_iconst dd_105_4 ic_1 ?_
  exact g_ireturn rfl dd_105_5
theorem ex_fairBound_1 (a : Nat) (h_a : 1 ≤ a) (k_a : a < 2) : am_EG mi_105 [.ref 0, .retAddr (a)] hp_0 (some (.retAddr 2), hp_0) := by
  refine am_enter (n := 0) tk_105.2.1 (by simp [Value.category]) (Nat.le_of_ble_eq_true rfl) ?_
  show am_Good mi_105 0 [some (.ref 0), some (.retAddr (a))] [] hp_0 _
  refine g_iload_n (i := 1) dd_105_0 rfl ?_
  refine g_if_ne_t (t := 6) dd_105_1 (by decide) (tk_ne_t (by omega)) ?_
  refine g_iload_n (i := 1) dd_105_6 rfl ?_
  refine g_iconst dd_105_7 ic_1 ?_
  refine g_icmp_ne_f (t := 19) dd_105_8 (by decide) (tk_ne_f (by omega)) ?_
  refine g_aload_n (i := 0) dd_105_11 rfl ?_
  refine g_getfield (k := 3) am_ck11 (by decide) (Or.inl w_514) dd_105_12 gx_0 rfl ?_
  refine g_virtual (M' := mi_106) (n := 0) (ci := 1) (b := 4) (as := []) (st := []) w_816 w_817 w_818 ⟨lk_106.1, lk_106.2.1, lk_106.2.2, by decide, by decide⟩ rfl gx_4 rfl (by simp [Value.category]) dd_105_15 (eg_turns0) ?_
  exact g_ireturn rfl dd_105_18
theorem ex_fairBound_2 (a : Nat) (h_a : 2 ≤ a) (k_a : a < 3) : am_EG mi_105 [.ref 0, .retAddr (a)] hp_0 (some (.retAddr 4), hp_0) := by
  refine am_enter (n := 0) tk_105.2.1 (by simp [Value.category]) (Nat.le_of_ble_eq_true rfl) ?_
  show am_Good mi_105 0 [some (.ref 0), some (.retAddr (a))] [] hp_0 _
  refine g_iload_n (i := 1) dd_105_0 rfl ?_
  refine g_if_ne_t (t := 6) dd_105_1 (by decide) (tk_ne_t (by omega)) ?_
  refine g_iload_n (i := 1) dd_105_6 rfl ?_
  refine g_iconst dd_105_7 ic_1 ?_
  refine g_icmp_ne_t (t := 19) dd_105_8 (by decide) (tk_ne_t (by omega)) ?_
  refine g_iconst dd_105_19 ic_1 ?_
  refine g_aload_n (i := 0) dd_105_20 rfl ?_
  refine g_getfield (k := 3) am_ck11 (by decide) (Or.inl w_514) dd_105_21 gx_0 rfl ?_
  refine g_getfield (k := 5) am_ck1 (by decide) (Or.inr ⟨_, w_104⟩) dd_105_24 gx_4 rfl ?_
  refine g_getfield (k := 3) am_ck8 (by decide) (Or.inr ⟨_, w_67⟩) dd_105_27 gx_15 rfl ?_
  refine g_mmax w_820 w_409 w_18 w_410 ⟨by decide, by decide⟩ (by simp [Value.category]) dd_105_30 ?_
  exact g_ireturn rfl dd_105_33
theorem em_in_0 {h : am_H} (v lo hi : Nat) (hv : v < 4294967296) (hl : lo ≤ hi) (hh : hi < 2147483648) (hx : v < lo ∨ hi < v) : am_EG mi_133 [.retAddr v, .retAddr lo, .retAddr hi] h (some (.retAddr 0), h) := by
  refine am_enter (n := 0) tk_133.2.1 (by simp [Value.category]) (Nat.le_of_ble_eq_true rfl) ?_
  show am_Good mi_133 0 [some (.retAddr v), some (.retAddr lo), some (.retAddr hi)] [] h _
  refine g_iload_n (i := 0) dd_133_0 rfl ?_
  refine g_iload_n (i := 1) dd_133_1 rfl ?_
  by_cases c1 : (v + 2147483648) % 4294967296 < (lo + 2147483648) % 4294967296
  · refine g_icmp_lt_t (t := 14) dd_133_2 (by decide) (tk_lt_t c1) ?_
    refine g_iconst dd_133_14 ic_0 ?_
    exact g_zreturn rfl (by decide) dd_133_15
  · refine g_icmp_lt_f (t := 14) dd_133_2 (by decide) (tk_lt_f (by omega)) ?_
    refine g_iload_n (i := 0) dd_133_5 rfl ?_
    refine g_iload_n (i := 2) dd_133_6 rfl ?_
    refine g_icmp_gt_t (t := 14) dd_133_7 (by decide) (tk_gt_t (by omega)) ?_
    refine g_iconst dd_133_14 ic_0 ?_
    exact g_zreturn rfl (by decide) dd_133_15
theorem em_in_1 {h : am_H} (v lo hi : Nat) (hh : hi < 2147483648) (h1 : lo ≤ v) (h2 : v ≤ hi) : am_EG mi_133 [.retAddr v, .retAddr lo, .retAddr hi] h (some (.retAddr 1), h) := by
  refine am_enter (n := 0) tk_133.2.1 (by simp [Value.category]) (Nat.le_of_ble_eq_true rfl) ?_
  show am_Good mi_133 0 [some (.retAddr v), some (.retAddr lo), some (.retAddr hi)] [] h _
  refine g_iload_n (i := 0) dd_133_0 rfl ?_
  refine g_iload_n (i := 1) dd_133_1 rfl ?_
  refine g_icmp_lt_f (t := 14) dd_133_2 (by decide) (tk_lt_f (by omega)) ?_
  refine g_iload_n (i := 0) dd_133_5 rfl ?_
  refine g_iload_n (i := 2) dd_133_6 rfl ?_
  refine g_icmp_gt_f (t := 14) dd_133_7 (by decide) (tk_gt_f (by omega)) ?_
  refine g_iconst dd_133_10 ic_1 ?_
  refine g_goto (t := 15) dd_133_11 (by decide) ?_
  exact g_zreturn rfl (by decide) dd_133_15
theorem em_isStation_1 (a : Nat) (h_a : 0 ≤ a) (k_a : a < 2) : am_EG mi_153 [.ref 66, .retAddr (a)] hp_m (some (.retAddr 1), hp_m) := by
  refine am_enter (n := 0) tk_153.2.1 (by simp [Value.category]) (Nat.le_of_ble_eq_true rfl) ?_
  show am_Good mi_153 0 [some (.ref 66), some (.retAddr (a))] [] hp_m _
  refine g_iload_n (i := 1) dd_153_0 rfl ?_
  refine g_iconst dd_153_1 ic_0 ?_
  refine g_aload_n (i := 0) dd_153_2 rfl ?_
  refine g_getfield (k := 2) am_ck12 (by decide) (Or.inl w_937) dd_153_3 gm_66 rfl ?_
  refine g_iconst dd_153_6 ic_1 ?_
  refine g_isub dd_153_7 ?_
  refine g_static (M' := mi_133) (n := 3) (as := [.retAddr (a), .retAddr 0, .retAddr 1]) (st := []) w_1106 w_1107 ⟨lk_133.1, lk_133.2.1, lk_133.2.2, by decide, by decide⟩ rfl (by simp [Value.category]) dd_153_8 (em_in_1 (a) 0 1 (by decide) (by omega) (by omega)) ?_
  exact g_zreturn rfl (by decide) dd_153_11
theorem em_isStation_0 (a : Nat) (h_a : 2 ≤ a) (k_a : a < 4294967296) : am_EG mi_153 [.ref 66, .retAddr (a)] hp_m (some (.retAddr 0), hp_m) := by
  refine am_enter (n := 0) tk_153.2.1 (by simp [Value.category]) (Nat.le_of_ble_eq_true rfl) ?_
  show am_Good mi_153 0 [some (.ref 66), some (.retAddr (a))] [] hp_m _
  refine g_iload_n (i := 1) dd_153_0 rfl ?_
  refine g_iconst dd_153_1 ic_0 ?_
  refine g_aload_n (i := 0) dd_153_2 rfl ?_
  refine g_getfield (k := 2) am_ck12 (by decide) (Or.inl w_937) dd_153_3 gm_66 rfl ?_
  refine g_iconst dd_153_6 ic_1 ?_
  refine g_isub dd_153_7 ?_
  refine g_static (M' := mi_133) (n := 3) (as := [.retAddr (a), .retAddr 0, .retAddr 1]) (st := []) w_1106 w_1107 ⟨lk_133.1, lk_133.2.1, lk_133.2.2, by decide, by decide⟩ rfl (by simp [Value.category]) dd_153_8 (em_in_0 (a) 0 1 (by omega) (by decide) (by decide) (by omega)) ?_
  exact g_zreturn rfl (by decide) dd_153_11
theorem em_isMinute_1 (a : Nat) (h_a : 0 ≤ a) (k_a : a < 12) : am_EG mi_154 [.ref 66, .retAddr (a)] hp_m (some (.retAddr 1), hp_m) := by
  refine am_enter (n := 0) tk_154.2.1 (by simp [Value.category]) (Nat.le_of_ble_eq_true rfl) ?_
  show am_Good mi_154 0 [some (.ref 66), some (.retAddr (a))] [] hp_m _
  refine g_iload_n (i := 1) dd_154_0 rfl ?_
  refine g_iconst dd_154_1 ic_0 ?_
  refine g_aload_n (i := 0) dd_154_2 rfl ?_
  refine g_getfield (k := 0) am_ck12 (by decide) (Or.inl w_935) dd_154_3 gm_66 rfl ?_
  refine g_iconst dd_154_6 ic_1 ?_
  refine g_isub dd_154_7 ?_
  refine g_static (M' := mi_133) (n := 3) (as := [.retAddr (a), .retAddr 0, .retAddr 11]) (st := []) w_1106 w_1107 ⟨lk_133.1, lk_133.2.1, lk_133.2.2, by decide, by decide⟩ rfl (by simp [Value.category]) dd_154_8 (em_in_1 (a) 0 11 (by decide) (by omega) (by omega)) ?_
  exact g_zreturn rfl (by decide) dd_154_11
theorem em_isMinute_0 (a : Nat) (h_a : 12 ≤ a) (k_a : a < 4294967296) : am_EG mi_154 [.ref 66, .retAddr (a)] hp_m (some (.retAddr 0), hp_m) := by
  refine am_enter (n := 0) tk_154.2.1 (by simp [Value.category]) (Nat.le_of_ble_eq_true rfl) ?_
  show am_Good mi_154 0 [some (.ref 66), some (.retAddr (a))] [] hp_m _
  refine g_iload_n (i := 1) dd_154_0 rfl ?_
  refine g_iconst dd_154_1 ic_0 ?_
  refine g_aload_n (i := 0) dd_154_2 rfl ?_
  refine g_getfield (k := 0) am_ck12 (by decide) (Or.inl w_935) dd_154_3 gm_66 rfl ?_
  refine g_iconst dd_154_6 ic_1 ?_
  refine g_isub dd_154_7 ?_
  refine g_static (M' := mi_133) (n := 3) (as := [.retAddr (a), .retAddr 0, .retAddr 11]) (st := []) w_1106 w_1107 ⟨lk_133.1, lk_133.2.1, lk_133.2.2, by decide, by decide⟩ rfl (by simp [Value.category]) dd_154_8 (em_in_0 (a) 0 11 (by omega) (by decide) (by decide) (by omega)) ?_
  exact g_zreturn rfl (by decide) dd_154_11
theorem em_isWatcher_1 (a : Nat) (h_a : 0 ≤ a) (k_a : a < 4) : am_EG mi_164 [.ref 66, .retAddr (a)] hp_m (some (.retAddr 1), hp_m) := by
  refine am_enter (n := 0) tk_164.2.1 (by simp [Value.category]) (Nat.le_of_ble_eq_true rfl) ?_
  show am_Good mi_164 0 [some (.ref 66), some (.retAddr (a))] [] hp_m _
  refine g_iload_n (i := 1) dd_164_0 rfl ?_
  refine g_iconst dd_164_1 ic_0 ?_
  refine g_aload_n (i := 0) dd_164_2 rfl ?_
  refine g_getfield (k := 12) am_ck12 (by decide) (Or.inl w_947) dd_164_3 gm_66 rfl ?_
  refine g_iconst dd_164_6 ic_1 ?_
  refine g_isub dd_164_7 ?_
  refine g_static (M' := mi_133) (n := 3) (as := [.retAddr (a), .retAddr 0, .retAddr 3]) (st := []) w_1106 w_1107 ⟨lk_133.1, lk_133.2.1, lk_133.2.2, by decide, by decide⟩ rfl (by simp [Value.category]) dd_164_8 (em_in_1 (a) 0 3 (by decide) (by omega) (by omega)) ?_
  exact g_zreturn rfl (by decide) dd_164_11
theorem em_isWatcher_0 (a : Nat) (h_a : 4 ≤ a) (k_a : a < 4294967296) : am_EG mi_164 [.ref 66, .retAddr (a)] hp_m (some (.retAddr 0), hp_m) := by
  refine am_enter (n := 0) tk_164.2.1 (by simp [Value.category]) (Nat.le_of_ble_eq_true rfl) ?_
  show am_Good mi_164 0 [some (.ref 66), some (.retAddr (a))] [] hp_m _
  refine g_iload_n (i := 1) dd_164_0 rfl ?_
  refine g_iconst dd_164_1 ic_0 ?_
  refine g_aload_n (i := 0) dd_164_2 rfl ?_
  refine g_getfield (k := 12) am_ck12 (by decide) (Or.inl w_947) dd_164_3 gm_66 rfl ?_
  refine g_iconst dd_164_6 ic_1 ?_
  refine g_isub dd_164_7 ?_
  refine g_static (M' := mi_133) (n := 3) (as := [.retAddr (a), .retAddr 0, .retAddr 3]) (st := []) w_1106 w_1107 ⟨lk_133.1, lk_133.2.1, lk_133.2.2, by decide, by decide⟩ rfl (by simp [Value.category]) dd_164_8 (em_in_0 (a) 0 3 (by omega) (by decide) (by decide) (by omega)) ?_
  exact g_zreturn rfl (by decide) dd_164_11
theorem em_isSet_1 (a : Nat) (h_a : 0 ≤ a) (k_a : a < 256) : am_EG mi_161 [.retAddr (a)] hp_m (some (.retAddr 1), hp_m) := by
  refine am_enter (n := 0) tk_161.2.1 (by simp [Value.category]) (Nat.le_of_ble_eq_true rfl) ?_
  show am_Good mi_161 0 [some (.retAddr (a))] [] hp_m _
  refine g_iload_n (i := 0) dd_161_0 rfl ?_
  refine g_iconst dd_161_1 ic_0 ?_
  refine g_sipush dd_161_2 si_255 ?_
  refine g_static (M' := mi_133) (n := 3) (as := [.retAddr (a), .retAddr 0, .retAddr 255]) (st := []) w_1106 w_1107 ⟨lk_133.1, lk_133.2.1, lk_133.2.2, by decide, by decide⟩ rfl (by simp [Value.category]) dd_161_5 (em_in_1 (a) 0 255 (by decide) (by omega) (by omega)) ?_
  exact g_zreturn rfl (by decide) dd_161_8
theorem em_isSet_0 (a : Nat) (h_a : 256 ≤ a) (k_a : a < 4294967296) : am_EG mi_161 [.retAddr (a)] hp_m (some (.retAddr 0), hp_m) := by
  refine am_enter (n := 0) tk_161.2.1 (by simp [Value.category]) (Nat.le_of_ble_eq_true rfl) ?_
  show am_Good mi_161 0 [some (.retAddr (a))] [] hp_m _
  refine g_iload_n (i := 0) dd_161_0 rfl ?_
  refine g_iconst dd_161_1 ic_0 ?_
  refine g_sipush dd_161_2 si_255 ?_
  refine g_static (M' := mi_133) (n := 3) (as := [.retAddr (a), .retAddr 0, .retAddr 255]) (st := []) w_1106 w_1107 ⟨lk_133.1, lk_133.2.1, lk_133.2.2, by decide, by decide⟩ rfl (by simp [Value.category]) dd_161_5 (em_in_0 (a) 0 255 (by omega) (by decide) (by decide) (by omega)) ?_
  exact g_zreturn rfl (by decide) dd_161_8
theorem em_turns0 : am_EG mi_195 [.ref 66] hp_m (some (.retAddr 2), hp_m) := am_runs (d := 9) (j := 195) (by decide +kernel)
theorem bx_write_0 (a1 : Nat) (h_a1 : 0 ≤ a1) (k_a1 : a1 < 32) : am_EG mi_46 [.ref 0, .retAddr (a1)] hp_0 (some (.retAddr 4294967295), hp_0) := by
  refine am_enter (n := 0) tk_46.2.1 (by simp [Value.category]) (Nat.le_of_ble_eq_true rfl) ?_
  show am_Good mi_46 0 [some (.ref 0), some (.retAddr (a1))] [] hp_0 _
  refine g_iload_n (i := 1) dd_46_0 rfl ?_
  refine g_bipush dd_46_1 bi_32 ?_
  refine g_icmp_lt_t (t := 12) dd_46_3 (by decide) (tk_lt_t (by omega)) ?_
  refine g_iconst dd_46_12 ic_m1 ?_
  exact g_ireturn rfl dd_46_13
theorem bm_write_0 (a1 : Nat) (h_a1 : 0 ≤ a1) (k_a1 : a1 < 32) : am_EG mi_132 [.ref 66, .retAddr (a1)] hp_m (some (.retAddr 4294967295), hp_m) := by
  refine am_enter (n := 0) tk_132.2.1 (by simp [Value.category]) (Nat.le_of_ble_eq_true rfl) ?_
  show am_Good mi_132 0 [some (.ref 66), some (.retAddr (a1))] [] hp_m _
  refine g_iload_n (i := 1) dd_132_0 rfl ?_
  refine g_bipush dd_132_1 bi_32 ?_
  refine g_bipush dd_132_3 bi_126 ?_
  refine g_static (M' := mi_133) (n := 3) (as := [.retAddr (a1), .retAddr 32, .retAddr 126]) (st := []) w_1106 w_1107 ⟨lk_133.1, lk_133.2.1, lk_133.2.2, by decide, by decide⟩ rfl (by simp [Value.category]) dd_132_5 (em_in_0 (a1) 32 126 (by omega) (by decide) (by decide) (by omega)) ?_
  refine g_if_ne_f (t := 13) dd_132_8 (by decide) (by decide) ?_
  refine g_iconst dd_132_11 ic_m1 ?_
  exact g_ireturn rfl dd_132_12
theorem bb_write_0 (a1 : Nat) (h_a1 : 0 ≤ a1) (k_a1 : a1 < 32) : Both 46 132 [.retAddr a1] := ⟨4294967295, hp_0, hp_m, bx_write_0 a1 h_a1 k_a1, bm_write_0 a1 h_a1 k_a1, ⟨rfl, rfl, rfl⟩, rfl, rfl⟩
theorem bx_write_1 (a1 : Nat) (h_a1 : 127 ≤ a1) (k_a1 : a1 < 4294967296) : am_EG mi_46 [.ref 0, .retAddr (a1)] hp_0 (some (.retAddr 4294967295), hp_0) := by
  refine am_enter (n := 0) tk_46.2.1 (by simp [Value.category]) (Nat.le_of_ble_eq_true rfl) ?_
  show am_Good mi_46 0 [some (.ref 0), some (.retAddr (a1))] [] hp_0 _
  refine g_iload_n (i := 1) dd_46_0 rfl ?_
  refine g_bipush dd_46_1 bi_32 ?_
  by_cases hs1 : a1 < 2147483648
  · refine g_icmp_lt_f (t := 12) dd_46_3 (by decide) (tk_lt_f (by omega)) ?_
    refine g_iload_n (i := 1) dd_46_6 rfl ?_
    refine g_bipush dd_46_7 bi_126 ?_
    refine g_icmp_le_f (t := 14) dd_46_9 (by decide) (tk_le_f (by omega)) ?_
    refine g_iconst dd_46_12 ic_m1 ?_
    exact g_ireturn rfl dd_46_13
  · refine g_icmp_lt_t (t := 12) dd_46_3 (by decide) (tk_lt_t (by omega)) ?_
    refine g_iconst dd_46_12 ic_m1 ?_
    exact g_ireturn rfl dd_46_13
theorem bm_write_1 (a1 : Nat) (h_a1 : 127 ≤ a1) (k_a1 : a1 < 4294967296) : am_EG mi_132 [.ref 66, .retAddr (a1)] hp_m (some (.retAddr 4294967295), hp_m) := by
  refine am_enter (n := 0) tk_132.2.1 (by simp [Value.category]) (Nat.le_of_ble_eq_true rfl) ?_
  show am_Good mi_132 0 [some (.ref 66), some (.retAddr (a1))] [] hp_m _
  refine g_iload_n (i := 1) dd_132_0 rfl ?_
  refine g_bipush dd_132_1 bi_32 ?_
  refine g_bipush dd_132_3 bi_126 ?_
  refine g_static (M' := mi_133) (n := 3) (as := [.retAddr (a1), .retAddr 32, .retAddr 126]) (st := []) w_1106 w_1107 ⟨lk_133.1, lk_133.2.1, lk_133.2.2, by decide, by decide⟩ rfl (by simp [Value.category]) dd_132_5 (em_in_0 (a1) 32 126 (by omega) (by decide) (by decide) (by omega)) ?_
  refine g_if_ne_f (t := 13) dd_132_8 (by decide) (by decide) ?_
  refine g_iconst dd_132_11 ic_m1 ?_
  exact g_ireturn rfl dd_132_12
theorem bb_write_1 (a1 : Nat) (h_a1 : 127 ≤ a1) (k_a1 : a1 < 4294967296) : Both 46 132 [.retAddr a1] := ⟨4294967295, hp_0, hp_m, bx_write_1 a1 h_a1 k_a1, bm_write_1 a1 h_a1 k_a1, ⟨rfl, rfl, rfl⟩, rfl, rfl⟩
theorem bx_minute_0 (a1 : Nat) (h_a1 : 2 ≤ a1) (k_a1 : a1 < 4294967296) (a2 : Nat) (h_a2 : 0 ≤ a2) (k_a2 : a2 < 4294967296) (a3 : Nat) (h_a3 : 0 ≤ a3) (k_a3 : a3 < 4294967296) : am_EG mi_50 [.ref 0, .retAddr (a1), .retAddr (a2), .retAddr (a3)] hp_0 (some (.retAddr 4294967295), hp_0) := by
  refine am_enter (n := 1) tk_50.2.1 (by simp [Value.category]) (Nat.le_of_ble_eq_true rfl) ?_
  show am_Good mi_50 0 [some (.ref 0), some (.retAddr (a1)), some (.retAddr (a2)), some (.retAddr (a3)), none] [] hp_0 _
  refine g_aload_n (i := 0) dd_50_0 rfl ?_
  refine g_iload_n (i := 1) dd_50_1 rfl ?_
  refine g_virtual (M' := mi_51) (n := 1) (ci := 11) (b := 0) (as := [.retAddr (a1)]) (st := []) w_584 w_586 ps_51 ⟨lk_51.1, lk_51.2.1, lk_51.2.2, by decide, by decide⟩ rfl gx_0 rfl (by simp [Value.category]) dd_50_2 (ex_isStation_0 (a1) (by omega) (by omega)) ?_
  refine g_if_eq_t (t := 25) dd_50_5 (by decide) (by decide) ?_
  refine g_iconst dd_50_25 ic_m1 ?_
  exact g_ireturn rfl dd_50_26
theorem bm_minute_0 (a1 : Nat) (h_a1 : 2 ≤ a1) (k_a1 : a1 < 4294967296) (a2 : Nat) (h_a2 : 0 ≤ a2) (k_a2 : a2 < 4294967296) (a3 : Nat) (h_a3 : 0 ≤ a3) (k_a3 : a3 < 4294967296) : am_EG mi_152 [.ref 66, .retAddr (a1), .retAddr (a2), .retAddr (a3)] hp_m (some (.retAddr 4294967295), hp_m) := by
  refine am_enter (n := 1) tk_152.2.1 (by simp [Value.category]) (Nat.le_of_ble_eq_true rfl) ?_
  show am_Good mi_152 0 [some (.ref 66), some (.retAddr (a1)), some (.retAddr (a2)), some (.retAddr (a3)), none] [] hp_m _
  refine g_aload_n (i := 0) dd_152_0 rfl ?_
  refine g_iload_n (i := 1) dd_152_1 rfl ?_
  refine g_virtual (M' := mi_153) (n := 1) (ci := 12) (b := 66) (as := [.retAddr (a1)]) (st := []) w_1184 w_1186 ps_153 ⟨lk_153.1, lk_153.2.1, lk_153.2.2, by decide, by decide⟩ rfl gm_66 rfl (by simp [Value.category]) dd_152_2 (em_isStation_0 (a1) (by omega) (by omega)) ?_
  refine g_if_eq_t (t := 25) dd_152_5 (by decide) (by decide) ?_
  refine g_iconst dd_152_25 ic_m1 ?_
  exact g_ireturn rfl dd_152_26
theorem bb_minute_0 (a1 : Nat) (h_a1 : 2 ≤ a1) (k_a1 : a1 < 4294967296) (a2 : Nat) (h_a2 : 0 ≤ a2) (k_a2 : a2 < 4294967296) (a3 : Nat) (h_a3 : 0 ≤ a3) (k_a3 : a3 < 4294967296) : Both 50 152 [.retAddr a1, .retAddr a2, .retAddr a3] := ⟨4294967295, hp_0, hp_m, bx_minute_0 a1 h_a1 k_a1 a2 h_a2 k_a2 a3 h_a3 k_a3, bm_minute_0 a1 h_a1 k_a1 a2 h_a2 k_a2 a3 h_a3 k_a3, ⟨rfl, rfl, rfl⟩, rfl, rfl⟩
theorem bx_minute_1 (a1 : Nat) (h_a1 : 0 ≤ a1) (k_a1 : a1 < 2) (a2 : Nat) (h_a2 : 12 ≤ a2) (k_a2 : a2 < 4294967296) (a3 : Nat) (h_a3 : 0 ≤ a3) (k_a3 : a3 < 4294967296) : am_EG mi_50 [.ref 0, .retAddr (a1), .retAddr (a2), .retAddr (a3)] hp_0 (some (.retAddr 4294967295), hp_0) := by
  refine am_enter (n := 1) tk_50.2.1 (by simp [Value.category]) (Nat.le_of_ble_eq_true rfl) ?_
  show am_Good mi_50 0 [some (.ref 0), some (.retAddr (a1)), some (.retAddr (a2)), some (.retAddr (a3)), none] [] hp_0 _
  refine g_aload_n (i := 0) dd_50_0 rfl ?_
  refine g_iload_n (i := 1) dd_50_1 rfl ?_
  refine g_virtual (M' := mi_51) (n := 1) (ci := 11) (b := 0) (as := [.retAddr (a1)]) (st := []) w_584 w_586 ps_51 ⟨lk_51.1, lk_51.2.1, lk_51.2.2, by decide, by decide⟩ rfl gx_0 rfl (by simp [Value.category]) dd_50_2 (ex_isStation_1 (a1) (by omega) (by omega)) ?_
  refine g_if_eq_f (t := 25) dd_50_5 (by decide) (by decide) ?_
  refine g_aload_n (i := 0) dd_50_8 rfl ?_
  refine g_iload_n (i := 2) dd_50_9 rfl ?_
  refine g_virtual (M' := mi_52) (n := 1) (ci := 11) (b := 0) (as := [.retAddr (a2)]) (st := []) w_588 w_590 ps_52 ⟨lk_52.1, lk_52.2.1, lk_52.2.2, by decide, by decide⟩ rfl gx_0 rfl (by simp [Value.category]) dd_50_10 (ex_isMinute_0 (a2) (by omega) (by omega)) ?_
  refine g_if_eq_t (t := 25) dd_50_13 (by decide) (by decide) ?_
  refine g_iconst dd_50_25 ic_m1 ?_
  exact g_ireturn rfl dd_50_26
theorem bm_minute_1 (a1 : Nat) (h_a1 : 0 ≤ a1) (k_a1 : a1 < 2) (a2 : Nat) (h_a2 : 12 ≤ a2) (k_a2 : a2 < 4294967296) (a3 : Nat) (h_a3 : 0 ≤ a3) (k_a3 : a3 < 4294967296) : am_EG mi_152 [.ref 66, .retAddr (a1), .retAddr (a2), .retAddr (a3)] hp_m (some (.retAddr 4294967295), hp_m) := by
  refine am_enter (n := 1) tk_152.2.1 (by simp [Value.category]) (Nat.le_of_ble_eq_true rfl) ?_
  show am_Good mi_152 0 [some (.ref 66), some (.retAddr (a1)), some (.retAddr (a2)), some (.retAddr (a3)), none] [] hp_m _
  refine g_aload_n (i := 0) dd_152_0 rfl ?_
  refine g_iload_n (i := 1) dd_152_1 rfl ?_
  refine g_virtual (M' := mi_153) (n := 1) (ci := 12) (b := 66) (as := [.retAddr (a1)]) (st := []) w_1184 w_1186 ps_153 ⟨lk_153.1, lk_153.2.1, lk_153.2.2, by decide, by decide⟩ rfl gm_66 rfl (by simp [Value.category]) dd_152_2 (em_isStation_1 (a1) (by omega) (by omega)) ?_
  refine g_if_eq_f (t := 25) dd_152_5 (by decide) (by decide) ?_
  refine g_aload_n (i := 0) dd_152_8 rfl ?_
  refine g_iload_n (i := 2) dd_152_9 rfl ?_
  refine g_virtual (M' := mi_154) (n := 1) (ci := 12) (b := 66) (as := [.retAddr (a2)]) (st := []) w_1188 w_1190 ps_154 ⟨lk_154.1, lk_154.2.1, lk_154.2.2, by decide, by decide⟩ rfl gm_66 rfl (by simp [Value.category]) dd_152_10 (em_isMinute_0 (a2) (by omega) (by omega)) ?_
  refine g_if_eq_t (t := 25) dd_152_13 (by decide) (by decide) ?_
  refine g_iconst dd_152_25 ic_m1 ?_
  exact g_ireturn rfl dd_152_26
theorem bb_minute_1 (a1 : Nat) (h_a1 : 0 ≤ a1) (k_a1 : a1 < 2) (a2 : Nat) (h_a2 : 12 ≤ a2) (k_a2 : a2 < 4294967296) (a3 : Nat) (h_a3 : 0 ≤ a3) (k_a3 : a3 < 4294967296) : Both 50 152 [.retAddr a1, .retAddr a2, .retAddr a3] := ⟨4294967295, hp_0, hp_m, bx_minute_1 a1 h_a1 k_a1 a2 h_a2 k_a2 a3 h_a3 k_a3, bm_minute_1 a1 h_a1 k_a1 a2 h_a2 k_a2 a3 h_a3 k_a3, ⟨rfl, rfl, rfl⟩, rfl, rfl⟩
theorem bx_minute_2 (a1 : Nat) (h_a1 : 0 ≤ a1) (k_a1 : a1 < 2) (a2 : Nat) (h_a2 : 0 ≤ a2) (k_a2 : a2 < 12) (a3 : Nat) (h_a3 : 3 ≤ a3) (k_a3 : a3 < 4294967296) : am_EG mi_50 [.ref 0, .retAddr (a1), .retAddr (a2), .retAddr (a3)] hp_0 (some (.retAddr 4294967295), hp_0) := by
  refine am_enter (n := 1) tk_50.2.1 (by simp [Value.category]) (Nat.le_of_ble_eq_true rfl) ?_
  show am_Good mi_50 0 [some (.ref 0), some (.retAddr (a1)), some (.retAddr (a2)), some (.retAddr (a3)), none] [] hp_0 _
  refine g_aload_n (i := 0) dd_50_0 rfl ?_
  refine g_iload_n (i := 1) dd_50_1 rfl ?_
  refine g_virtual (M' := mi_51) (n := 1) (ci := 11) (b := 0) (as := [.retAddr (a1)]) (st := []) w_584 w_586 ps_51 ⟨lk_51.1, lk_51.2.1, lk_51.2.2, by decide, by decide⟩ rfl gx_0 rfl (by simp [Value.category]) dd_50_2 (ex_isStation_1 (a1) (by omega) (by omega)) ?_
  refine g_if_eq_f (t := 25) dd_50_5 (by decide) (by decide) ?_
  refine g_aload_n (i := 0) dd_50_8 rfl ?_
  refine g_iload_n (i := 2) dd_50_9 rfl ?_
  refine g_virtual (M' := mi_52) (n := 1) (ci := 11) (b := 0) (as := [.retAddr (a2)]) (st := []) w_588 w_590 ps_52 ⟨lk_52.1, lk_52.2.1, lk_52.2.2, by decide, by decide⟩ rfl gx_0 rfl (by simp [Value.category]) dd_50_10 (ex_isMinute_1 (a2) (by omega) (by omega)) ?_
  refine g_if_eq_f (t := 25) dd_50_13 (by decide) (by decide) ?_
  refine g_iload_n (i := 3) dd_50_16 rfl ?_
  by_cases hs1 : a3 < 2147483648
  · refine g_if_lt_f (t := 25) dd_50_17 (by decide) (tk_lt_f (by omega)) ?_
    refine g_iload_n (i := 3) dd_50_20 rfl ?_
    refine g_iconst dd_50_21 ic_2 ?_
    refine g_icmp_le_f (t := 27) dd_50_22 (by decide) (tk_le_f (by omega)) ?_
    refine g_iconst dd_50_25 ic_m1 ?_
    exact g_ireturn rfl dd_50_26
  · refine g_if_lt_t (t := 25) dd_50_17 (by decide) (tk_lt_t (by omega)) ?_
    refine g_iconst dd_50_25 ic_m1 ?_
    exact g_ireturn rfl dd_50_26
theorem bm_minute_2 (a1 : Nat) (h_a1 : 0 ≤ a1) (k_a1 : a1 < 2) (a2 : Nat) (h_a2 : 0 ≤ a2) (k_a2 : a2 < 12) (a3 : Nat) (h_a3 : 3 ≤ a3) (k_a3 : a3 < 4294967296) : am_EG mi_152 [.ref 66, .retAddr (a1), .retAddr (a2), .retAddr (a3)] hp_m (some (.retAddr 4294967295), hp_m) := by
  refine am_enter (n := 1) tk_152.2.1 (by simp [Value.category]) (Nat.le_of_ble_eq_true rfl) ?_
  show am_Good mi_152 0 [some (.ref 66), some (.retAddr (a1)), some (.retAddr (a2)), some (.retAddr (a3)), none] [] hp_m _
  refine g_aload_n (i := 0) dd_152_0 rfl ?_
  refine g_iload_n (i := 1) dd_152_1 rfl ?_
  refine g_virtual (M' := mi_153) (n := 1) (ci := 12) (b := 66) (as := [.retAddr (a1)]) (st := []) w_1184 w_1186 ps_153 ⟨lk_153.1, lk_153.2.1, lk_153.2.2, by decide, by decide⟩ rfl gm_66 rfl (by simp [Value.category]) dd_152_2 (em_isStation_1 (a1) (by omega) (by omega)) ?_
  refine g_if_eq_f (t := 25) dd_152_5 (by decide) (by decide) ?_
  refine g_aload_n (i := 0) dd_152_8 rfl ?_
  refine g_iload_n (i := 2) dd_152_9 rfl ?_
  refine g_virtual (M' := mi_154) (n := 1) (ci := 12) (b := 66) (as := [.retAddr (a2)]) (st := []) w_1188 w_1190 ps_154 ⟨lk_154.1, lk_154.2.1, lk_154.2.2, by decide, by decide⟩ rfl gm_66 rfl (by simp [Value.category]) dd_152_10 (em_isMinute_1 (a2) (by omega) (by omega)) ?_
  refine g_if_eq_f (t := 25) dd_152_13 (by decide) (by decide) ?_
  refine g_iload_n (i := 3) dd_152_16 rfl ?_
  refine g_iconst dd_152_17 ic_0 ?_
  refine g_iconst dd_152_18 ic_2 ?_
  refine g_static (M' := mi_133) (n := 3) (as := [.retAddr (a3), .retAddr 0, .retAddr 2]) (st := []) w_1106 w_1107 ⟨lk_133.1, lk_133.2.1, lk_133.2.2, by decide, by decide⟩ rfl (by simp [Value.category]) dd_152_19 (em_in_0 (a3) 0 2 (by omega) (by decide) (by decide) (by omega)) ?_
  refine g_if_ne_f (t := 27) dd_152_22 (by decide) (by decide) ?_
  refine g_iconst dd_152_25 ic_m1 ?_
  exact g_ireturn rfl dd_152_26
theorem bb_minute_2 (a1 : Nat) (h_a1 : 0 ≤ a1) (k_a1 : a1 < 2) (a2 : Nat) (h_a2 : 0 ≤ a2) (k_a2 : a2 < 12) (a3 : Nat) (h_a3 : 3 ≤ a3) (k_a3 : a3 < 4294967296) : Both 50 152 [.retAddr a1, .retAddr a2, .retAddr a3] := ⟨4294967295, hp_0, hp_m, bx_minute_2 a1 h_a1 k_a1 a2 h_a2 k_a2 a3 h_a3 k_a3, bm_minute_2 a1 h_a1 k_a1 a2 h_a2 k_a2 a3 h_a3 k_a3, ⟨rfl, rfl, rfl⟩, rfl, rfl⟩
theorem bx_known_0 (a1 : Nat) (h_a1 : 256 ≤ a1) (k_a1 : a1 < 4294967296) : am_EG mi_55 [.ref 0, .retAddr (a1)] hp_0 (some (.retAddr 4294967295), hp_0) := by
  refine am_enter (n := 0) tk_55.2.1 (by simp [Value.category]) (Nat.le_of_ble_eq_true rfl) ?_
  show am_Good mi_55 0 [some (.ref 0), some (.retAddr (a1))] [] hp_0 _
  refine g_iload_n (i := 1) dd_55_0 rfl ?_
  refine g_static (M' := mi_56) (n := 1) (as := [.retAddr (a1)]) (st := []) w_605 w_606 ⟨lk_56.1, lk_56.2.1, lk_56.2.2, by decide, by decide⟩ rfl (by simp [Value.category]) dd_55_1 (ex_isSet_0 (a1) (by omega) (by omega)) ?_
  refine g_if_eq_t (t := 18) dd_55_4 (by decide) (by decide) ?_
  refine g_iconst dd_55_18 ic_m1 ?_
  exact g_ireturn rfl dd_55_19
theorem bm_known_0 (a1 : Nat) (h_a1 : 256 ≤ a1) (k_a1 : a1 < 4294967296) : am_EG mi_160 [.ref 66, .retAddr (a1)] hp_m (some (.retAddr 4294967295), hp_m) := by
  refine am_enter (n := 0) tk_160.2.1 (by simp [Value.category]) (Nat.le_of_ble_eq_true rfl) ?_
  show am_Good mi_160 0 [some (.ref 66), some (.retAddr (a1))] [] hp_m _
  refine g_iload_n (i := 1) dd_160_0 rfl ?_
  refine g_static (M' := mi_161) (n := 1) (as := [.retAddr (a1)]) (st := []) w_1215 w_1216 ⟨lk_161.1, lk_161.2.1, lk_161.2.2, by decide, by decide⟩ rfl (by simp [Value.category]) dd_160_1 (em_isSet_0 (a1) (by omega) (by omega)) ?_
  refine g_if_eq_t (t := 15) dd_160_4 (by decide) (by decide) ?_
  refine g_iconst dd_160_15 ic_m1 ?_
  exact g_ireturn rfl dd_160_16
theorem bb_known_0 (a1 : Nat) (h_a1 : 256 ≤ a1) (k_a1 : a1 < 4294967296) : Both 55 160 [.retAddr a1] := ⟨4294967295, hp_0, hp_m, bx_known_0 a1 h_a1 k_a1, bm_known_0 a1 h_a1 k_a1, ⟨rfl, rfl, rfl⟩, rfl, rfl⟩
theorem bx_watcher_0 (a1 : Nat) (h_a1 : 4 ≤ a1) (k_a1 : a1 < 4294967296) (a2 : Nat) (h_a2 : 0 ≤ a2) (k_a2 : a2 < 4294967296) : am_EG mi_58 [.ref 0, .retAddr (a1), .retAddr (a2)] hp_0 (some (.retAddr 4294967295), hp_0) := by
  refine am_enter (n := 0) tk_58.2.1 (by simp [Value.category]) (Nat.le_of_ble_eq_true rfl) ?_
  show am_Good mi_58 0 [some (.ref 0), some (.retAddr (a1)), some (.retAddr (a2))] [] hp_0 _
  refine g_aload_n (i := 0) dd_58_0 rfl ?_
  refine g_iload_n (i := 1) dd_58_1 rfl ?_
  refine g_virtual (M' := mi_59) (n := 1) (ci := 11) (b := 0) (as := [.retAddr (a1)]) (st := []) w_616 w_618 ps_59 ⟨lk_59.1, lk_59.2.1, lk_59.2.2, by decide, by decide⟩ rfl gx_0 rfl (by simp [Value.category]) dd_58_2 (ex_isWatcher_0 (a1) (by omega) (by omega)) ?_
  refine g_if_eq_t (t := 17) dd_58_5 (by decide) (by decide) ?_
  refine g_iconst dd_58_17 ic_m1 ?_
  exact g_ireturn rfl dd_58_18
theorem bm_watcher_0 (a1 : Nat) (h_a1 : 4 ≤ a1) (k_a1 : a1 < 4294967296) (a2 : Nat) (h_a2 : 0 ≤ a2) (k_a2 : a2 < 4294967296) : am_EG mi_163 [.ref 66, .retAddr (a1), .retAddr (a2)] hp_m (some (.retAddr 4294967295), hp_m) := by
  refine am_enter (n := 0) tk_163.2.1 (by simp [Value.category]) (Nat.le_of_ble_eq_true rfl) ?_
  show am_Good mi_163 0 [some (.ref 66), some (.retAddr (a1)), some (.retAddr (a2))] [] hp_m _
  refine g_aload_n (i := 0) dd_163_0 rfl ?_
  refine g_iload_n (i := 1) dd_163_1 rfl ?_
  refine g_virtual (M' := mi_164) (n := 1) (ci := 12) (b := 66) (as := [.retAddr (a1)]) (st := []) w_1226 w_1228 ps_164 ⟨lk_164.1, lk_164.2.1, lk_164.2.2, by decide, by decide⟩ rfl gm_66 rfl (by simp [Value.category]) dd_163_2 (em_isWatcher_0 (a1) (by omega) (by omega)) ?_
  refine g_if_eq_t (t := 17) dd_163_5 (by decide) (by decide) ?_
  refine g_iconst dd_163_17 ic_m1 ?_
  exact g_ireturn rfl dd_163_18
theorem bb_watcher_0 (a1 : Nat) (h_a1 : 4 ≤ a1) (k_a1 : a1 < 4294967296) (a2 : Nat) (h_a2 : 0 ≤ a2) (k_a2 : a2 < 4294967296) : Both 58 163 [.retAddr a1, .retAddr a2] := ⟨4294967295, hp_0, hp_m, bx_watcher_0 a1 h_a1 k_a1 a2 h_a2 k_a2, bm_watcher_0 a1 h_a1 k_a1 a2 h_a2 k_a2, ⟨rfl, rfl, rfl⟩, rfl, rfl⟩
theorem bx_watcher_1 (a1 : Nat) (h_a1 : 0 ≤ a1) (k_a1 : a1 < 4) (a2 : Nat) (h_a2 : 6 ≤ a2) (k_a2 : a2 < 4294967296) : am_EG mi_58 [.ref 0, .retAddr (a1), .retAddr (a2)] hp_0 (some (.retAddr 4294967295), hp_0) := by
  refine am_enter (n := 0) tk_58.2.1 (by simp [Value.category]) (Nat.le_of_ble_eq_true rfl) ?_
  show am_Good mi_58 0 [some (.ref 0), some (.retAddr (a1)), some (.retAddr (a2))] [] hp_0 _
  refine g_aload_n (i := 0) dd_58_0 rfl ?_
  refine g_iload_n (i := 1) dd_58_1 rfl ?_
  refine g_virtual (M' := mi_59) (n := 1) (ci := 11) (b := 0) (as := [.retAddr (a1)]) (st := []) w_616 w_618 ps_59 ⟨lk_59.1, lk_59.2.1, lk_59.2.2, by decide, by decide⟩ rfl gx_0 rfl (by simp [Value.category]) dd_58_2 (ex_isWatcher_1 (a1) (by omega) (by omega)) ?_
  refine g_if_eq_f (t := 17) dd_58_5 (by decide) (by decide) ?_
  refine g_iload_n (i := 2) dd_58_8 rfl ?_
  by_cases hs1 : a2 < 2147483648
  · refine g_if_lt_f (t := 17) dd_58_9 (by decide) (tk_lt_f (by omega)) ?_
    refine g_iload_n (i := 2) dd_58_12 rfl ?_
    refine g_iconst dd_58_13 ic_5 ?_
    refine g_icmp_le_f (t := 19) dd_58_14 (by decide) (tk_le_f (by omega)) ?_
    refine g_iconst dd_58_17 ic_m1 ?_
    exact g_ireturn rfl dd_58_18
  · refine g_if_lt_t (t := 17) dd_58_9 (by decide) (tk_lt_t (by omega)) ?_
    refine g_iconst dd_58_17 ic_m1 ?_
    exact g_ireturn rfl dd_58_18
theorem bm_watcher_1 (a1 : Nat) (h_a1 : 0 ≤ a1) (k_a1 : a1 < 4) (a2 : Nat) (h_a2 : 6 ≤ a2) (k_a2 : a2 < 4294967296) : am_EG mi_163 [.ref 66, .retAddr (a1), .retAddr (a2)] hp_m (some (.retAddr 4294967295), hp_m) := by
  refine am_enter (n := 0) tk_163.2.1 (by simp [Value.category]) (Nat.le_of_ble_eq_true rfl) ?_
  show am_Good mi_163 0 [some (.ref 66), some (.retAddr (a1)), some (.retAddr (a2))] [] hp_m _
  refine g_aload_n (i := 0) dd_163_0 rfl ?_
  refine g_iload_n (i := 1) dd_163_1 rfl ?_
  refine g_virtual (M' := mi_164) (n := 1) (ci := 12) (b := 66) (as := [.retAddr (a1)]) (st := []) w_1226 w_1228 ps_164 ⟨lk_164.1, lk_164.2.1, lk_164.2.2, by decide, by decide⟩ rfl gm_66 rfl (by simp [Value.category]) dd_163_2 (em_isWatcher_1 (a1) (by omega) (by omega)) ?_
  refine g_if_eq_f (t := 17) dd_163_5 (by decide) (by decide) ?_
  refine g_iload_n (i := 2) dd_163_8 rfl ?_
  refine g_iconst dd_163_9 ic_0 ?_
  refine g_iconst dd_163_10 ic_5 ?_
  refine g_static (M' := mi_133) (n := 3) (as := [.retAddr (a2), .retAddr 0, .retAddr 5]) (st := []) w_1106 w_1107 ⟨lk_133.1, lk_133.2.1, lk_133.2.2, by decide, by decide⟩ rfl (by simp [Value.category]) dd_163_11 (em_in_0 (a2) 0 5 (by omega) (by decide) (by decide) (by omega)) ?_
  refine g_if_ne_f (t := 19) dd_163_14 (by decide) (by decide) ?_
  refine g_iconst dd_163_17 ic_m1 ?_
  exact g_ireturn rfl dd_163_18
theorem bb_watcher_1 (a1 : Nat) (h_a1 : 0 ≤ a1) (k_a1 : a1 < 4) (a2 : Nat) (h_a2 : 6 ≤ a2) (k_a2 : a2 < 4294967296) : Both 58 163 [.retAddr a1, .retAddr a2] := ⟨4294967295, hp_0, hp_m, bx_watcher_1 a1 h_a1 k_a1 a2 h_a2 k_a2, bm_watcher_1 a1 h_a1 k_a1 a2 h_a2 k_a2, ⟨rfl, rfl, rfl⟩, rfl, rfl⟩
theorem bx_where_0 (a1 : Nat) (h_a1 : 4 ≤ a1) (k_a1 : a1 < 4294967296) (a2 : Nat) (h_a2 : 0 ≤ a2) (k_a2 : a2 < 4294967296) : am_EG mi_75 [.ref 0, .retAddr (a1), .retAddr (a2)] hp_0 (some (.retAddr 4294967295), hp_0) := by
  refine am_enter (n := 0) tk_75.2.1 (by simp [Value.category]) (Nat.le_of_ble_eq_true rfl) ?_
  show am_Good mi_75 0 [some (.ref 0), some (.retAddr (a1)), some (.retAddr (a2))] [] hp_0 _
  refine g_aload_n (i := 0) dd_75_0 rfl ?_
  refine g_iload_n (i := 1) dd_75_1 rfl ?_
  refine g_virtual (M' := mi_59) (n := 1) (ci := 11) (b := 0) (as := [.retAddr (a1)]) (st := []) w_616 w_618 ps_59 ⟨lk_59.1, lk_59.2.1, lk_59.2.2, by decide, by decide⟩ rfl gx_0 rfl (by simp [Value.category]) dd_75_2 (ex_isWatcher_0 (a1) (by omega) (by omega)) ?_
  refine g_if_eq_t (t := 16) dd_75_5 (by decide) (by decide) ?_
  refine g_iconst dd_75_16 ic_m1 ?_
  exact g_ireturn rfl dd_75_17
theorem bm_where_0 (a1 : Nat) (h_a1 : 4 ≤ a1) (k_a1 : a1 < 4294967296) (a2 : Nat) (h_a2 : 0 ≤ a2) (k_a2 : a2 < 4294967296) : am_EG mi_175 [.ref 66, .retAddr (a1), .retAddr (a2)] hp_m (some (.retAddr 4294967295), hp_m) := by
  refine am_enter (n := 0) tk_175.2.1 (by simp [Value.category]) (Nat.le_of_ble_eq_true rfl) ?_
  show am_Good mi_175 0 [some (.ref 66), some (.retAddr (a1)), some (.retAddr (a2))] [] hp_m _
  refine g_aload_n (i := 0) dd_175_0 rfl ?_
  refine g_iload_n (i := 1) dd_175_1 rfl ?_
  refine g_virtual (M' := mi_164) (n := 1) (ci := 12) (b := 66) (as := [.retAddr (a1)]) (st := []) w_1226 w_1228 ps_164 ⟨lk_164.1, lk_164.2.1, lk_164.2.2, by decide, by decide⟩ rfl gm_66 rfl (by simp [Value.category]) dd_175_2 (em_isWatcher_0 (a1) (by omega) (by omega)) ?_
  refine g_if_eq_t (t := 16) dd_175_5 (by decide) (by decide) ?_
  refine g_iconst dd_175_16 ic_m1 ?_
  exact g_ireturn rfl dd_175_17
theorem bb_where_0 (a1 : Nat) (h_a1 : 4 ≤ a1) (k_a1 : a1 < 4294967296) (a2 : Nat) (h_a2 : 0 ≤ a2) (k_a2 : a2 < 4294967296) : Both 75 175 [.retAddr a1, .retAddr a2] := ⟨4294967295, hp_0, hp_m, bx_where_0 a1 h_a1 k_a1 a2 h_a2 k_a2, bm_where_0 a1 h_a1 k_a1 a2 h_a2 k_a2, ⟨rfl, rfl, rfl⟩, rfl, rfl⟩
theorem bx_where_1 (a1 : Nat) (h_a1 : 0 ≤ a1) (k_a1 : a1 < 4) (a2 : Nat) (h_a2 : 12 ≤ a2) (k_a2 : a2 < 4294967296) : am_EG mi_75 [.ref 0, .retAddr (a1), .retAddr (a2)] hp_0 (some (.retAddr 4294967295), hp_0) := by
  refine am_enter (n := 0) tk_75.2.1 (by simp [Value.category]) (Nat.le_of_ble_eq_true rfl) ?_
  show am_Good mi_75 0 [some (.ref 0), some (.retAddr (a1)), some (.retAddr (a2))] [] hp_0 _
  refine g_aload_n (i := 0) dd_75_0 rfl ?_
  refine g_iload_n (i := 1) dd_75_1 rfl ?_
  refine g_virtual (M' := mi_59) (n := 1) (ci := 11) (b := 0) (as := [.retAddr (a1)]) (st := []) w_616 w_618 ps_59 ⟨lk_59.1, lk_59.2.1, lk_59.2.2, by decide, by decide⟩ rfl gx_0 rfl (by simp [Value.category]) dd_75_2 (ex_isWatcher_1 (a1) (by omega) (by omega)) ?_
  refine g_if_eq_f (t := 16) dd_75_5 (by decide) (by decide) ?_
  refine g_aload_n (i := 0) dd_75_8 rfl ?_
  refine g_iload_n (i := 2) dd_75_9 rfl ?_
  refine g_virtual (M' := mi_52) (n := 1) (ci := 11) (b := 0) (as := [.retAddr (a2)]) (st := []) w_588 w_590 ps_52 ⟨lk_52.1, lk_52.2.1, lk_52.2.2, by decide, by decide⟩ rfl gx_0 rfl (by simp [Value.category]) dd_75_10 (ex_isMinute_0 (a2) (by omega) (by omega)) ?_
  refine g_if_ne_f (t := 18) dd_75_13 (by decide) (by decide) ?_
  refine g_iconst dd_75_16 ic_m1 ?_
  exact g_ireturn rfl dd_75_17
theorem bm_where_1 (a1 : Nat) (h_a1 : 0 ≤ a1) (k_a1 : a1 < 4) (a2 : Nat) (h_a2 : 12 ≤ a2) (k_a2 : a2 < 4294967296) : am_EG mi_175 [.ref 66, .retAddr (a1), .retAddr (a2)] hp_m (some (.retAddr 4294967295), hp_m) := by
  refine am_enter (n := 0) tk_175.2.1 (by simp [Value.category]) (Nat.le_of_ble_eq_true rfl) ?_
  show am_Good mi_175 0 [some (.ref 66), some (.retAddr (a1)), some (.retAddr (a2))] [] hp_m _
  refine g_aload_n (i := 0) dd_175_0 rfl ?_
  refine g_iload_n (i := 1) dd_175_1 rfl ?_
  refine g_virtual (M' := mi_164) (n := 1) (ci := 12) (b := 66) (as := [.retAddr (a1)]) (st := []) w_1226 w_1228 ps_164 ⟨lk_164.1, lk_164.2.1, lk_164.2.2, by decide, by decide⟩ rfl gm_66 rfl (by simp [Value.category]) dd_175_2 (em_isWatcher_1 (a1) (by omega) (by omega)) ?_
  refine g_if_eq_f (t := 16) dd_175_5 (by decide) (by decide) ?_
  refine g_aload_n (i := 0) dd_175_8 rfl ?_
  refine g_iload_n (i := 2) dd_175_9 rfl ?_
  refine g_virtual (M' := mi_154) (n := 1) (ci := 12) (b := 66) (as := [.retAddr (a2)]) (st := []) w_1188 w_1190 ps_154 ⟨lk_154.1, lk_154.2.1, lk_154.2.2, by decide, by decide⟩ rfl gm_66 rfl (by simp [Value.category]) dd_175_10 (em_isMinute_0 (a2) (by omega) (by omega)) ?_
  refine g_if_ne_f (t := 18) dd_175_13 (by decide) (by decide) ?_
  refine g_iconst dd_175_16 ic_m1 ?_
  exact g_ireturn rfl dd_175_17
theorem bb_where_1 (a1 : Nat) (h_a1 : 0 ≤ a1) (k_a1 : a1 < 4) (a2 : Nat) (h_a2 : 12 ≤ a2) (k_a2 : a2 < 4294967296) : Both 75 175 [.retAddr a1, .retAddr a2] := ⟨4294967295, hp_0, hp_m, bx_where_1 a1 h_a1 k_a1 a2 h_a2 k_a2, bm_where_1 a1 h_a1 k_a1 a2 h_a2 k_a2, ⟨rfl, rfl, rfl⟩, rfl, rfl⟩
theorem bx_begin_0 (a1 : Nat) (h_a1 : 2 ≤ a1) (k_a1 : a1 < 4294967296) : am_EG mi_77 [.ref 0, .retAddr (a1)] hp_0 (some (.retAddr 4294967295), hp_0) := by
  refine am_enter (n := 1) tk_77.2.1 (by simp [Value.category]) (Nat.le_of_ble_eq_true rfl) ?_
  show am_Good mi_77 0 [some (.ref 0), some (.retAddr (a1)), none] [] hp_0 _
  refine g_aload_n (i := 0) dd_77_0 rfl ?_
  refine g_iload_n (i := 1) dd_77_1 rfl ?_
  refine g_virtual (M' := mi_51) (n := 1) (ci := 11) (b := 0) (as := [.retAddr (a1)]) (st := []) w_584 w_586 ps_51 ⟨lk_51.1, lk_51.2.1, lk_51.2.2, by decide, by decide⟩ rfl gx_0 rfl (by simp [Value.category]) dd_77_2 (ex_isStation_0 (a1) (by omega) (by omega)) ?_
  refine g_if_ne_f (t := 10) dd_77_5 (by decide) (by decide) ?_
  refine g_iconst dd_77_8 ic_m1 ?_
  exact g_ireturn rfl dd_77_9
theorem bm_begin_0 (a1 : Nat) (h_a1 : 2 ≤ a1) (k_a1 : a1 < 4294967296) : am_EG mi_176 [.ref 66, .retAddr (a1)] hp_m (some (.retAddr 4294967295), hp_m) := by
  refine am_enter (n := 1) tk_176.2.1 (by simp [Value.category]) (Nat.le_of_ble_eq_true rfl) ?_
  show am_Good mi_176 0 [some (.ref 66), some (.retAddr (a1)), none] [] hp_m _
  refine g_aload_n (i := 0) dd_176_0 rfl ?_
  refine g_iload_n (i := 1) dd_176_1 rfl ?_
  refine g_virtual (M' := mi_153) (n := 1) (ci := 12) (b := 66) (as := [.retAddr (a1)]) (st := []) w_1184 w_1186 ps_153 ⟨lk_153.1, lk_153.2.1, lk_153.2.2, by decide, by decide⟩ rfl gm_66 rfl (by simp [Value.category]) dd_176_2 (em_isStation_0 (a1) (by omega) (by omega)) ?_
  refine g_if_ne_f (t := 10) dd_176_5 (by decide) (by decide) ?_
  refine g_iconst dd_176_8 ic_m1 ?_
  exact g_ireturn rfl dd_176_9
theorem bb_begin_0 (a1 : Nat) (h_a1 : 2 ≤ a1) (k_a1 : a1 < 4294967296) : Both 77 176 [.retAddr a1] := ⟨4294967295, hp_0, hp_m, bx_begin_0 a1 h_a1 k_a1, bm_begin_0 a1 h_a1 k_a1, ⟨rfl, rfl, rfl⟩, rfl, rfl⟩
theorem bx_over_0 (a1 : Nat) (h_a1 : 12 ≤ a1) (k_a1 : a1 < 4294967296) (a2 : Nat) (h_a2 : 0 ≤ a2) (k_a2 : a2 < 4294967296) : am_EG mi_79 [.ref 0, .retAddr (a1), .retAddr (a2)] hp_0 (some (.retAddr 4294967295), hp_0) := by
  refine am_enter (n := 0) tk_79.2.1 (by simp [Value.category]) (Nat.le_of_ble_eq_true rfl) ?_
  show am_Good mi_79 0 [some (.ref 0), some (.retAddr (a1)), some (.retAddr (a2))] [] hp_0 _
  refine g_aload_n (i := 0) dd_79_0 rfl ?_
  refine g_iload_n (i := 1) dd_79_1 rfl ?_
  refine g_virtual (M' := mi_52) (n := 1) (ci := 11) (b := 0) (as := [.retAddr (a1)]) (st := []) w_588 w_590 ps_52 ⟨lk_52.1, lk_52.2.1, lk_52.2.2, by decide, by decide⟩ rfl gx_0 rfl (by simp [Value.category]) dd_79_2 (ex_isMinute_0 (a1) (by omega) (by omega)) ?_
  refine g_if_eq_t (t := 16) dd_79_5 (by decide) (by decide) ?_
  refine g_iconst dd_79_16 ic_m1 ?_
  exact g_ireturn rfl dd_79_17
theorem bm_over_0 (a1 : Nat) (h_a1 : 12 ≤ a1) (k_a1 : a1 < 4294967296) (a2 : Nat) (h_a2 : 0 ≤ a2) (k_a2 : a2 < 4294967296) : am_EG mi_178 [.ref 66, .retAddr (a1), .retAddr (a2)] hp_m (some (.retAddr 4294967295), hp_m) := by
  refine am_enter (n := 0) tk_178.2.1 (by simp [Value.category]) (Nat.le_of_ble_eq_true rfl) ?_
  show am_Good mi_178 0 [some (.ref 66), some (.retAddr (a1)), some (.retAddr (a2))] [] hp_m _
  refine g_aload_n (i := 0) dd_178_0 rfl ?_
  refine g_iload_n (i := 1) dd_178_1 rfl ?_
  refine g_virtual (M' := mi_154) (n := 1) (ci := 12) (b := 66) (as := [.retAddr (a1)]) (st := []) w_1188 w_1190 ps_154 ⟨lk_154.1, lk_154.2.1, lk_154.2.2, by decide, by decide⟩ rfl gm_66 rfl (by simp [Value.category]) dd_178_2 (em_isMinute_0 (a1) (by omega) (by omega)) ?_
  refine g_if_eq_t (t := 16) dd_178_5 (by decide) (by decide) ?_
  refine g_iconst dd_178_16 ic_m1 ?_
  exact g_ireturn rfl dd_178_17
theorem bb_over_0 (a1 : Nat) (h_a1 : 12 ≤ a1) (k_a1 : a1 < 4294967296) (a2 : Nat) (h_a2 : 0 ≤ a2) (k_a2 : a2 < 4294967296) : Both 79 178 [.retAddr a1, .retAddr a2] := ⟨4294967295, hp_0, hp_m, bx_over_0 a1 h_a1 k_a1 a2 h_a2 k_a2, bm_over_0 a1 h_a1 k_a1 a2 h_a2 k_a2, ⟨rfl, rfl, rfl⟩, rfl, rfl⟩
theorem bx_over_1 (a1 : Nat) (h_a1 : 0 ≤ a1) (k_a1 : a1 < 12) (a2 : Nat) (h_a2 : 2 ≤ a2) (k_a2 : a2 < 4294967296) : am_EG mi_79 [.ref 0, .retAddr (a1), .retAddr (a2)] hp_0 (some (.retAddr 4294967295), hp_0) := by
  refine am_enter (n := 0) tk_79.2.1 (by simp [Value.category]) (Nat.le_of_ble_eq_true rfl) ?_
  show am_Good mi_79 0 [some (.ref 0), some (.retAddr (a1)), some (.retAddr (a2))] [] hp_0 _
  refine g_aload_n (i := 0) dd_79_0 rfl ?_
  refine g_iload_n (i := 1) dd_79_1 rfl ?_
  refine g_virtual (M' := mi_52) (n := 1) (ci := 11) (b := 0) (as := [.retAddr (a1)]) (st := []) w_588 w_590 ps_52 ⟨lk_52.1, lk_52.2.1, lk_52.2.2, by decide, by decide⟩ rfl gx_0 rfl (by simp [Value.category]) dd_79_2 (ex_isMinute_1 (a1) (by omega) (by omega)) ?_
  refine g_if_eq_f (t := 16) dd_79_5 (by decide) (by decide) ?_
  refine g_aload_n (i := 0) dd_79_8 rfl ?_
  refine g_iload_n (i := 2) dd_79_9 rfl ?_
  refine g_virtual (M' := mi_51) (n := 1) (ci := 11) (b := 0) (as := [.retAddr (a2)]) (st := []) w_584 w_586 ps_51 ⟨lk_51.1, lk_51.2.1, lk_51.2.2, by decide, by decide⟩ rfl gx_0 rfl (by simp [Value.category]) dd_79_10 (ex_isStation_0 (a2) (by omega) (by omega)) ?_
  refine g_if_ne_f (t := 18) dd_79_13 (by decide) (by decide) ?_
  refine g_iconst dd_79_16 ic_m1 ?_
  exact g_ireturn rfl dd_79_17
theorem bm_over_1 (a1 : Nat) (h_a1 : 0 ≤ a1) (k_a1 : a1 < 12) (a2 : Nat) (h_a2 : 2 ≤ a2) (k_a2 : a2 < 4294967296) : am_EG mi_178 [.ref 66, .retAddr (a1), .retAddr (a2)] hp_m (some (.retAddr 4294967295), hp_m) := by
  refine am_enter (n := 0) tk_178.2.1 (by simp [Value.category]) (Nat.le_of_ble_eq_true rfl) ?_
  show am_Good mi_178 0 [some (.ref 66), some (.retAddr (a1)), some (.retAddr (a2))] [] hp_m _
  refine g_aload_n (i := 0) dd_178_0 rfl ?_
  refine g_iload_n (i := 1) dd_178_1 rfl ?_
  refine g_virtual (M' := mi_154) (n := 1) (ci := 12) (b := 66) (as := [.retAddr (a1)]) (st := []) w_1188 w_1190 ps_154 ⟨lk_154.1, lk_154.2.1, lk_154.2.2, by decide, by decide⟩ rfl gm_66 rfl (by simp [Value.category]) dd_178_2 (em_isMinute_1 (a1) (by omega) (by omega)) ?_
  refine g_if_eq_f (t := 16) dd_178_5 (by decide) (by decide) ?_
  refine g_aload_n (i := 0) dd_178_8 rfl ?_
  refine g_iload_n (i := 2) dd_178_9 rfl ?_
  refine g_virtual (M' := mi_153) (n := 1) (ci := 12) (b := 66) (as := [.retAddr (a2)]) (st := []) w_1184 w_1186 ps_153 ⟨lk_153.1, lk_153.2.1, lk_153.2.2, by decide, by decide⟩ rfl gm_66 rfl (by simp [Value.category]) dd_178_10 (em_isStation_0 (a2) (by omega) (by omega)) ?_
  refine g_if_ne_f (t := 18) dd_178_13 (by decide) (by decide) ?_
  refine g_iconst dd_178_16 ic_m1 ?_
  exact g_ireturn rfl dd_178_17
theorem bb_over_1 (a1 : Nat) (h_a1 : 0 ≤ a1) (k_a1 : a1 < 12) (a2 : Nat) (h_a2 : 2 ≤ a2) (k_a2 : a2 < 4294967296) : Both 79 178 [.retAddr a1, .retAddr a2] := ⟨4294967295, hp_0, hp_m, bx_over_1 a1 h_a1 k_a1 a2 h_a2 k_a2, bm_over_1 a1 h_a1 k_a1 a2 h_a2 k_a2, ⟨rfl, rfl, rfl⟩, rfl, rfl⟩
theorem bx_plan_0 (a1 : Nat) (h_a1 : 3 ≤ a1) (k_a1 : a1 < 4294967296) : am_EG mi_85 [.ref 0, .retAddr (a1)] hp_0 (some (.retAddr 4294967295), hp_0) := by
  refine am_enter (n := 0) tk_85.2.1 (by simp [Value.category]) (Nat.le_of_ble_eq_true rfl) ?_
  show am_Good mi_85 0 [some (.ref 0), some (.retAddr (a1))] [] hp_0 _
  refine g_iload_n (i := 1) dd_85_0 rfl ?_
  by_cases hs1 : a1 < 2147483648
  · refine g_if_lt_f (t := 9) dd_85_1 (by decide) (tk_lt_f (by omega)) ?_
    refine g_iload_n (i := 1) dd_85_4 rfl ?_
    refine g_iconst dd_85_5 ic_2 ?_
    refine g_icmp_le_f (t := 11) dd_85_6 (by decide) (tk_le_f (by omega)) ?_
    refine g_iconst dd_85_9 ic_m1 ?_
    exact g_ireturn rfl dd_85_10
  · refine g_if_lt_t (t := 9) dd_85_1 (by decide) (tk_lt_t (by omega)) ?_
    refine g_iconst dd_85_9 ic_m1 ?_
    exact g_ireturn rfl dd_85_10
theorem bm_plan_0 (a1 : Nat) (h_a1 : 3 ≤ a1) (k_a1 : a1 < 4294967296) : am_EG mi_182 [.ref 66, .retAddr (a1)] hp_m (some (.retAddr 4294967295), hp_m) := by
  refine am_enter (n := 0) tk_182.2.1 (by simp [Value.category]) (Nat.le_of_ble_eq_true rfl) ?_
  show am_Good mi_182 0 [some (.ref 66), some (.retAddr (a1))] [] hp_m _
  refine g_iload_n (i := 1) dd_182_0 rfl ?_
  refine g_iconst dd_182_1 ic_0 ?_
  refine g_iconst dd_182_2 ic_2 ?_
  refine g_static (M' := mi_133) (n := 3) (as := [.retAddr (a1), .retAddr 0, .retAddr 2]) (st := []) w_1106 w_1107 ⟨lk_133.1, lk_133.2.1, lk_133.2.2, by decide, by decide⟩ rfl (by simp [Value.category]) dd_182_3 (em_in_0 (a1) 0 2 (by omega) (by decide) (by decide) (by omega)) ?_
  refine g_if_ne_f (t := 11) dd_182_6 (by decide) (by decide) ?_
  refine g_iconst dd_182_9 ic_m1 ?_
  exact g_ireturn rfl dd_182_10
theorem bb_plan_0 (a1 : Nat) (h_a1 : 3 ≤ a1) (k_a1 : a1 < 4294967296) : Both 85 182 [.retAddr a1] := ⟨4294967295, hp_0, hp_m, bx_plan_0 a1 h_a1 k_a1, bm_plan_0 a1 h_a1 k_a1, ⟨rfl, rfl, rfl⟩, rfl, rfl⟩
theorem bx_at_0 (a1 : Nat) (h_a1 : 12 ≤ a1) (k_a1 : a1 < 4294967296) : am_EG mi_86 [.ref 0, .retAddr (a1)] hp_0 (some (.retAddr 4294967295), hp_0) := by
  refine am_enter (n := 0) tk_86.2.1 (by simp [Value.category]) (Nat.le_of_ble_eq_true rfl) ?_
  show am_Good mi_86 0 [some (.ref 0), some (.retAddr (a1))] [] hp_0 _
  refine g_aload_n (i := 0) dd_86_0 rfl ?_
  refine g_iload_n (i := 1) dd_86_1 rfl ?_
  refine g_virtual (M' := mi_52) (n := 1) (ci := 11) (b := 0) (as := [.retAddr (a1)]) (st := []) w_588 w_590 ps_52 ⟨lk_52.1, lk_52.2.1, lk_52.2.2, by decide, by decide⟩ rfl gx_0 rfl (by simp [Value.category]) dd_86_2 (ex_isMinute_0 (a1) (by omega) (by omega)) ?_
  refine g_if_ne_f (t := 10) dd_86_5 (by decide) (by decide) ?_
  refine g_iconst dd_86_8 ic_m1 ?_
  exact g_ireturn rfl dd_86_9
theorem bm_at_0 (a1 : Nat) (h_a1 : 12 ≤ a1) (k_a1 : a1 < 4294967296) : am_EG mi_184 [.ref 66, .retAddr (a1)] hp_m (some (.retAddr 4294967295), hp_m) := by
  refine am_enter (n := 0) tk_184.2.1 (by simp [Value.category]) (Nat.le_of_ble_eq_true rfl) ?_
  show am_Good mi_184 0 [some (.ref 66), some (.retAddr (a1))] [] hp_m _
  refine g_aload_n (i := 0) dd_184_0 rfl ?_
  refine g_iload_n (i := 1) dd_184_1 rfl ?_
  refine g_virtual (M' := mi_154) (n := 1) (ci := 12) (b := 66) (as := [.retAddr (a1)]) (st := []) w_1188 w_1190 ps_154 ⟨lk_154.1, lk_154.2.1, lk_154.2.2, by decide, by decide⟩ rfl gm_66 rfl (by simp [Value.category]) dd_184_2 (em_isMinute_0 (a1) (by omega) (by omega)) ?_
  refine g_if_ne_f (t := 10) dd_184_5 (by decide) (by decide) ?_
  refine g_iconst dd_184_8 ic_m1 ?_
  exact g_ireturn rfl dd_184_9
theorem bb_at_0 (a1 : Nat) (h_a1 : 12 ≤ a1) (k_a1 : a1 < 4294967296) : Both 86 184 [.retAddr a1] := ⟨4294967295, hp_0, hp_m, bx_at_0 a1 h_a1 k_a1, bm_at_0 a1 h_a1 k_a1, ⟨rfl, rfl, rfl⟩, rfl, rfl⟩
theorem bx_most_0 (a1 : Nat) (h_a1 : 2 ≤ a1) (k_a1 : a1 < 4294967296) (a2 : Nat) (h_a2 : 0 ≤ a2) (k_a2 : a2 < 4294967296) (a3 : Nat) (h_a3 : 0 ≤ a3) (k_a3 : a3 < 4294967296) : am_EG mi_87 [.ref 0, .retAddr (a1), .retAddr (a2), .retAddr (a3)] hp_0 (some (.retAddr 4294967295), hp_0) := by
  refine am_enter (n := 0) tk_87.2.1 (by simp [Value.category]) (Nat.le_of_ble_eq_true rfl) ?_
  show am_Good mi_87 0 [some (.ref 0), some (.retAddr (a1)), some (.retAddr (a2)), some (.retAddr (a3))] [] hp_0 _
  refine g_aload_n (i := 0) dd_87_0 rfl ?_
  refine g_iload_n (i := 1) dd_87_1 rfl ?_
  refine g_virtual (M' := mi_51) (n := 1) (ci := 11) (b := 0) (as := [.retAddr (a1)]) (st := []) w_584 w_586 ps_51 ⟨lk_51.1, lk_51.2.1, lk_51.2.2, by decide, by decide⟩ rfl gx_0 rfl (by simp [Value.category]) dd_87_2 (ex_isStation_0 (a1) (by omega) (by omega)) ?_
  refine g_if_eq_t (t := 25) dd_87_5 (by decide) (by decide) ?_
  refine g_iconst dd_87_25 ic_m1 ?_
  exact g_ireturn rfl dd_87_26
theorem bm_most_0 (a1 : Nat) (h_a1 : 2 ≤ a1) (k_a1 : a1 < 4294967296) (a2 : Nat) (h_a2 : 0 ≤ a2) (k_a2 : a2 < 4294967296) (a3 : Nat) (h_a3 : 0 ≤ a3) (k_a3 : a3 < 4294967296) : am_EG mi_185 [.ref 66, .retAddr (a1), .retAddr (a2), .retAddr (a3)] hp_m (some (.retAddr 4294967295), hp_m) := by
  refine am_enter (n := 5) tk_185.2.1 (by simp [Value.category]) (Nat.le_of_ble_eq_true rfl) ?_
  show am_Good mi_185 0 [some (.ref 66), some (.retAddr (a1)), some (.retAddr (a2)), some (.retAddr (a3)), none, none, none, none, none] [] hp_m _
  refine g_aload_n (i := 0) dd_185_0 rfl ?_
  refine g_iload_n (i := 1) dd_185_1 rfl ?_
  refine g_virtual (M' := mi_153) (n := 1) (ci := 12) (b := 66) (as := [.retAddr (a1)]) (st := []) w_1184 w_1186 ps_153 ⟨lk_153.1, lk_153.2.1, lk_153.2.2, by decide, by decide⟩ rfl gm_66 rfl (by simp [Value.category]) dd_185_2 (em_isStation_0 (a1) (by omega) (by omega)) ?_
  refine g_if_eq_t (t := 25) dd_185_5 (by decide) (by decide) ?_
  refine g_iconst dd_185_25 ic_m1 ?_
  exact g_ireturn rfl dd_185_26
theorem bb_most_0 (a1 : Nat) (h_a1 : 2 ≤ a1) (k_a1 : a1 < 4294967296) (a2 : Nat) (h_a2 : 0 ≤ a2) (k_a2 : a2 < 4294967296) (a3 : Nat) (h_a3 : 0 ≤ a3) (k_a3 : a3 < 4294967296) : Both 87 185 [.retAddr a1, .retAddr a2, .retAddr a3] := ⟨4294967295, hp_0, hp_m, bx_most_0 a1 h_a1 k_a1 a2 h_a2 k_a2 a3 h_a3 k_a3, bm_most_0 a1 h_a1 k_a1 a2 h_a2 k_a2 a3 h_a3 k_a3, ⟨rfl, rfl, rfl⟩, rfl, rfl⟩
theorem bx_most_1 (a1 : Nat) (h_a1 : 0 ≤ a1) (k_a1 : a1 < 2) (a2 : Nat) (h_a2 : 12 ≤ a2) (k_a2 : a2 < 4294967296) (a3 : Nat) (h_a3 : 0 ≤ a3) (k_a3 : a3 < 4294967296) : am_EG mi_87 [.ref 0, .retAddr (a1), .retAddr (a2), .retAddr (a3)] hp_0 (some (.retAddr 4294967295), hp_0) := by
  refine am_enter (n := 0) tk_87.2.1 (by simp [Value.category]) (Nat.le_of_ble_eq_true rfl) ?_
  show am_Good mi_87 0 [some (.ref 0), some (.retAddr (a1)), some (.retAddr (a2)), some (.retAddr (a3))] [] hp_0 _
  refine g_aload_n (i := 0) dd_87_0 rfl ?_
  refine g_iload_n (i := 1) dd_87_1 rfl ?_
  refine g_virtual (M' := mi_51) (n := 1) (ci := 11) (b := 0) (as := [.retAddr (a1)]) (st := []) w_584 w_586 ps_51 ⟨lk_51.1, lk_51.2.1, lk_51.2.2, by decide, by decide⟩ rfl gx_0 rfl (by simp [Value.category]) dd_87_2 (ex_isStation_1 (a1) (by omega) (by omega)) ?_
  refine g_if_eq_f (t := 25) dd_87_5 (by decide) (by decide) ?_
  refine g_aload_n (i := 0) dd_87_8 rfl ?_
  refine g_iload_n (i := 2) dd_87_9 rfl ?_
  refine g_virtual (M' := mi_52) (n := 1) (ci := 11) (b := 0) (as := [.retAddr (a2)]) (st := []) w_588 w_590 ps_52 ⟨lk_52.1, lk_52.2.1, lk_52.2.2, by decide, by decide⟩ rfl gx_0 rfl (by simp [Value.category]) dd_87_10 (ex_isMinute_0 (a2) (by omega) (by omega)) ?_
  refine g_if_eq_t (t := 25) dd_87_13 (by decide) (by decide) ?_
  refine g_iconst dd_87_25 ic_m1 ?_
  exact g_ireturn rfl dd_87_26
theorem bm_most_1 (a1 : Nat) (h_a1 : 0 ≤ a1) (k_a1 : a1 < 2) (a2 : Nat) (h_a2 : 12 ≤ a2) (k_a2 : a2 < 4294967296) (a3 : Nat) (h_a3 : 0 ≤ a3) (k_a3 : a3 < 4294967296) : am_EG mi_185 [.ref 66, .retAddr (a1), .retAddr (a2), .retAddr (a3)] hp_m (some (.retAddr 4294967295), hp_m) := by
  refine am_enter (n := 5) tk_185.2.1 (by simp [Value.category]) (Nat.le_of_ble_eq_true rfl) ?_
  show am_Good mi_185 0 [some (.ref 66), some (.retAddr (a1)), some (.retAddr (a2)), some (.retAddr (a3)), none, none, none, none, none] [] hp_m _
  refine g_aload_n (i := 0) dd_185_0 rfl ?_
  refine g_iload_n (i := 1) dd_185_1 rfl ?_
  refine g_virtual (M' := mi_153) (n := 1) (ci := 12) (b := 66) (as := [.retAddr (a1)]) (st := []) w_1184 w_1186 ps_153 ⟨lk_153.1, lk_153.2.1, lk_153.2.2, by decide, by decide⟩ rfl gm_66 rfl (by simp [Value.category]) dd_185_2 (em_isStation_1 (a1) (by omega) (by omega)) ?_
  refine g_if_eq_f (t := 25) dd_185_5 (by decide) (by decide) ?_
  refine g_aload_n (i := 0) dd_185_8 rfl ?_
  refine g_iload_n (i := 2) dd_185_9 rfl ?_
  refine g_virtual (M' := mi_154) (n := 1) (ci := 12) (b := 66) (as := [.retAddr (a2)]) (st := []) w_1188 w_1190 ps_154 ⟨lk_154.1, lk_154.2.1, lk_154.2.2, by decide, by decide⟩ rfl gm_66 rfl (by simp [Value.category]) dd_185_10 (em_isMinute_0 (a2) (by omega) (by omega)) ?_
  refine g_if_eq_t (t := 25) dd_185_13 (by decide) (by decide) ?_
  refine g_iconst dd_185_25 ic_m1 ?_
  exact g_ireturn rfl dd_185_26
theorem bb_most_1 (a1 : Nat) (h_a1 : 0 ≤ a1) (k_a1 : a1 < 2) (a2 : Nat) (h_a2 : 12 ≤ a2) (k_a2 : a2 < 4294967296) (a3 : Nat) (h_a3 : 0 ≤ a3) (k_a3 : a3 < 4294967296) : Both 87 185 [.retAddr a1, .retAddr a2, .retAddr a3] := ⟨4294967295, hp_0, hp_m, bx_most_1 a1 h_a1 k_a1 a2 h_a2 k_a2 a3 h_a3 k_a3, bm_most_1 a1 h_a1 k_a1 a2 h_a2 k_a2 a3 h_a3 k_a3, ⟨rfl, rfl, rfl⟩, rfl, rfl⟩
theorem bx_most_2 (a1 : Nat) (h_a1 : 0 ≤ a1) (k_a1 : a1 < 2) (a2 : Nat) (h_a2 : 0 ≤ a2) (k_a2 : a2 < 12) (a3 : Nat) (h_a3 : 3 ≤ a3) (k_a3 : a3 < 4294967296) : am_EG mi_87 [.ref 0, .retAddr (a1), .retAddr (a2), .retAddr (a3)] hp_0 (some (.retAddr 4294967295), hp_0) := by
  refine am_enter (n := 0) tk_87.2.1 (by simp [Value.category]) (Nat.le_of_ble_eq_true rfl) ?_
  show am_Good mi_87 0 [some (.ref 0), some (.retAddr (a1)), some (.retAddr (a2)), some (.retAddr (a3))] [] hp_0 _
  refine g_aload_n (i := 0) dd_87_0 rfl ?_
  refine g_iload_n (i := 1) dd_87_1 rfl ?_
  refine g_virtual (M' := mi_51) (n := 1) (ci := 11) (b := 0) (as := [.retAddr (a1)]) (st := []) w_584 w_586 ps_51 ⟨lk_51.1, lk_51.2.1, lk_51.2.2, by decide, by decide⟩ rfl gx_0 rfl (by simp [Value.category]) dd_87_2 (ex_isStation_1 (a1) (by omega) (by omega)) ?_
  refine g_if_eq_f (t := 25) dd_87_5 (by decide) (by decide) ?_
  refine g_aload_n (i := 0) dd_87_8 rfl ?_
  refine g_iload_n (i := 2) dd_87_9 rfl ?_
  refine g_virtual (M' := mi_52) (n := 1) (ci := 11) (b := 0) (as := [.retAddr (a2)]) (st := []) w_588 w_590 ps_52 ⟨lk_52.1, lk_52.2.1, lk_52.2.2, by decide, by decide⟩ rfl gx_0 rfl (by simp [Value.category]) dd_87_10 (ex_isMinute_1 (a2) (by omega) (by omega)) ?_
  refine g_if_eq_f (t := 25) dd_87_13 (by decide) (by decide) ?_
  refine g_iload_n (i := 3) dd_87_16 rfl ?_
  by_cases hs1 : a3 < 2147483648
  · refine g_if_lt_f (t := 25) dd_87_17 (by decide) (tk_lt_f (by omega)) ?_
    refine g_iload_n (i := 3) dd_87_20 rfl ?_
    refine g_iconst dd_87_21 ic_2 ?_
    refine g_icmp_le_f (t := 27) dd_87_22 (by decide) (tk_le_f (by omega)) ?_
    refine g_iconst dd_87_25 ic_m1 ?_
    exact g_ireturn rfl dd_87_26
  · refine g_if_lt_t (t := 25) dd_87_17 (by decide) (tk_lt_t (by omega)) ?_
    refine g_iconst dd_87_25 ic_m1 ?_
    exact g_ireturn rfl dd_87_26
theorem bm_most_2 (a1 : Nat) (h_a1 : 0 ≤ a1) (k_a1 : a1 < 2) (a2 : Nat) (h_a2 : 0 ≤ a2) (k_a2 : a2 < 12) (a3 : Nat) (h_a3 : 3 ≤ a3) (k_a3 : a3 < 4294967296) : am_EG mi_185 [.ref 66, .retAddr (a1), .retAddr (a2), .retAddr (a3)] hp_m (some (.retAddr 4294967295), hp_m) := by
  refine am_enter (n := 5) tk_185.2.1 (by simp [Value.category]) (Nat.le_of_ble_eq_true rfl) ?_
  show am_Good mi_185 0 [some (.ref 66), some (.retAddr (a1)), some (.retAddr (a2)), some (.retAddr (a3)), none, none, none, none, none] [] hp_m _
  refine g_aload_n (i := 0) dd_185_0 rfl ?_
  refine g_iload_n (i := 1) dd_185_1 rfl ?_
  refine g_virtual (M' := mi_153) (n := 1) (ci := 12) (b := 66) (as := [.retAddr (a1)]) (st := []) w_1184 w_1186 ps_153 ⟨lk_153.1, lk_153.2.1, lk_153.2.2, by decide, by decide⟩ rfl gm_66 rfl (by simp [Value.category]) dd_185_2 (em_isStation_1 (a1) (by omega) (by omega)) ?_
  refine g_if_eq_f (t := 25) dd_185_5 (by decide) (by decide) ?_
  refine g_aload_n (i := 0) dd_185_8 rfl ?_
  refine g_iload_n (i := 2) dd_185_9 rfl ?_
  refine g_virtual (M' := mi_154) (n := 1) (ci := 12) (b := 66) (as := [.retAddr (a2)]) (st := []) w_1188 w_1190 ps_154 ⟨lk_154.1, lk_154.2.1, lk_154.2.2, by decide, by decide⟩ rfl gm_66 rfl (by simp [Value.category]) dd_185_10 (em_isMinute_1 (a2) (by omega) (by omega)) ?_
  refine g_if_eq_f (t := 25) dd_185_13 (by decide) (by decide) ?_
  refine g_iload_n (i := 3) dd_185_16 rfl ?_
  refine g_iconst dd_185_17 ic_0 ?_
  refine g_iconst dd_185_18 ic_2 ?_
  refine g_static (M' := mi_133) (n := 3) (as := [.retAddr (a3), .retAddr 0, .retAddr 2]) (st := []) w_1106 w_1107 ⟨lk_133.1, lk_133.2.1, lk_133.2.2, by decide, by decide⟩ rfl (by simp [Value.category]) dd_185_19 (em_in_0 (a3) 0 2 (by omega) (by decide) (by decide) (by omega)) ?_
  refine g_if_ne_f (t := 27) dd_185_22 (by decide) (by decide) ?_
  refine g_iconst dd_185_25 ic_m1 ?_
  exact g_ireturn rfl dd_185_26
theorem bb_most_2 (a1 : Nat) (h_a1 : 0 ≤ a1) (k_a1 : a1 < 2) (a2 : Nat) (h_a2 : 0 ≤ a2) (k_a2 : a2 < 12) (a3 : Nat) (h_a3 : 3 ≤ a3) (k_a3 : a3 < 4294967296) : Both 87 185 [.retAddr a1, .retAddr a2, .retAddr a3] := ⟨4294967295, hp_0, hp_m, bx_most_2 a1 h_a1 k_a1 a2 h_a2 k_a2 a3 h_a3 k_a3, bm_most_2 a1 h_a1 k_a1 a2 h_a2 k_a2 a3 h_a3 k_a3, ⟨rfl, rfl, rfl⟩, rfl, rfl⟩
theorem bx_understand_0 (a1 : Nat) (h_a1 : 2 ≤ a1) (k_a1 : a1 < 4294967296) (a2 : Nat) (h_a2 : 0 ≤ a2) (k_a2 : a2 < 4294967296) (a3 : Nat) (h_a3 : 0 ≤ a3) (k_a3 : a3 < 4294967296) : am_EG mi_90 [.ref 0, .retAddr (a1), .retAddr (a2), .retAddr (a3)] hp_0 (some (.retAddr 4294967295), hp_0) := by
  refine am_enter (n := 0) tk_90.2.1 (by simp [Value.category]) (Nat.le_of_ble_eq_true rfl) ?_
  show am_Good mi_90 0 [some (.ref 0), some (.retAddr (a1)), some (.retAddr (a2)), some (.retAddr (a3))] [] hp_0 _
  refine g_aload_n (i := 0) dd_90_0 rfl ?_
  refine g_iload_n (i := 1) dd_90_1 rfl ?_
  refine g_virtual (M' := mi_51) (n := 1) (ci := 11) (b := 0) (as := [.retAddr (a1)]) (st := []) w_584 w_586 ps_51 ⟨lk_51.1, lk_51.2.1, lk_51.2.2, by decide, by decide⟩ rfl gx_0 rfl (by simp [Value.category]) dd_90_2 (ex_isStation_0 (a1) (by omega) (by omega)) ?_
  refine g_if_eq_t (t := 24) dd_90_5 (by decide) (by decide) ?_
  refine g_iconst dd_90_24 ic_m1 ?_
  exact g_ireturn rfl dd_90_25
theorem bm_understand_0 (a1 : Nat) (h_a1 : 2 ≤ a1) (k_a1 : a1 < 4294967296) (a2 : Nat) (h_a2 : 0 ≤ a2) (k_a2 : a2 < 4294967296) (a3 : Nat) (h_a3 : 0 ≤ a3) (k_a3 : a3 < 4294967296) : am_EG mi_186 [.ref 66, .retAddr (a1), .retAddr (a2), .retAddr (a3)] hp_m (some (.retAddr 4294967295), hp_m) := by
  refine am_enter (n := 0) tk_186.2.1 (by simp [Value.category]) (Nat.le_of_ble_eq_true rfl) ?_
  show am_Good mi_186 0 [some (.ref 66), some (.retAddr (a1)), some (.retAddr (a2)), some (.retAddr (a3))] [] hp_m _
  refine g_aload_n (i := 0) dd_186_0 rfl ?_
  refine g_iload_n (i := 1) dd_186_1 rfl ?_
  refine g_virtual (M' := mi_153) (n := 1) (ci := 12) (b := 66) (as := [.retAddr (a1)]) (st := []) w_1184 w_1186 ps_153 ⟨lk_153.1, lk_153.2.1, lk_153.2.2, by decide, by decide⟩ rfl gm_66 rfl (by simp [Value.category]) dd_186_2 (em_isStation_0 (a1) (by omega) (by omega)) ?_
  refine g_if_eq_t (t := 24) dd_186_5 (by decide) (by decide) ?_
  refine g_iconst dd_186_24 ic_m1 ?_
  exact g_ireturn rfl dd_186_25
theorem bb_understand_0 (a1 : Nat) (h_a1 : 2 ≤ a1) (k_a1 : a1 < 4294967296) (a2 : Nat) (h_a2 : 0 ≤ a2) (k_a2 : a2 < 4294967296) (a3 : Nat) (h_a3 : 0 ≤ a3) (k_a3 : a3 < 4294967296) : Both 90 186 [.retAddr a1, .retAddr a2, .retAddr a3] := ⟨4294967295, hp_0, hp_m, bx_understand_0 a1 h_a1 k_a1 a2 h_a2 k_a2 a3 h_a3 k_a3, bm_understand_0 a1 h_a1 k_a1 a2 h_a2 k_a2 a3 h_a3 k_a3, ⟨rfl, rfl, rfl⟩, rfl, rfl⟩
theorem bx_understand_1 (a1 : Nat) (h_a1 : 0 ≤ a1) (k_a1 : a1 < 2) (a2 : Nat) (h_a2 : 256 ≤ a2) (k_a2 : a2 < 4294967296) (a3 : Nat) (h_a3 : 0 ≤ a3) (k_a3 : a3 < 4294967296) : am_EG mi_90 [.ref 0, .retAddr (a1), .retAddr (a2), .retAddr (a3)] hp_0 (some (.retAddr 4294967295), hp_0) := by
  refine am_enter (n := 0) tk_90.2.1 (by simp [Value.category]) (Nat.le_of_ble_eq_true rfl) ?_
  show am_Good mi_90 0 [some (.ref 0), some (.retAddr (a1)), some (.retAddr (a2)), some (.retAddr (a3))] [] hp_0 _
  refine g_aload_n (i := 0) dd_90_0 rfl ?_
  refine g_iload_n (i := 1) dd_90_1 rfl ?_
  refine g_virtual (M' := mi_51) (n := 1) (ci := 11) (b := 0) (as := [.retAddr (a1)]) (st := []) w_584 w_586 ps_51 ⟨lk_51.1, lk_51.2.1, lk_51.2.2, by decide, by decide⟩ rfl gx_0 rfl (by simp [Value.category]) dd_90_2 (ex_isStation_1 (a1) (by omega) (by omega)) ?_
  refine g_if_eq_f (t := 24) dd_90_5 (by decide) (by decide) ?_
  refine g_iload_n (i := 2) dd_90_8 rfl ?_
  refine g_static (M' := mi_56) (n := 1) (as := [.retAddr (a2)]) (st := []) w_605 w_606 ⟨lk_56.1, lk_56.2.1, lk_56.2.2, by decide, by decide⟩ rfl (by simp [Value.category]) dd_90_9 (ex_isSet_0 (a2) (by omega) (by omega)) ?_
  refine g_if_eq_t (t := 24) dd_90_12 (by decide) (by decide) ?_
  refine g_iconst dd_90_24 ic_m1 ?_
  exact g_ireturn rfl dd_90_25
theorem bm_understand_1 (a1 : Nat) (h_a1 : 0 ≤ a1) (k_a1 : a1 < 2) (a2 : Nat) (h_a2 : 256 ≤ a2) (k_a2 : a2 < 4294967296) (a3 : Nat) (h_a3 : 0 ≤ a3) (k_a3 : a3 < 4294967296) : am_EG mi_186 [.ref 66, .retAddr (a1), .retAddr (a2), .retAddr (a3)] hp_m (some (.retAddr 4294967295), hp_m) := by
  refine am_enter (n := 0) tk_186.2.1 (by simp [Value.category]) (Nat.le_of_ble_eq_true rfl) ?_
  show am_Good mi_186 0 [some (.ref 66), some (.retAddr (a1)), some (.retAddr (a2)), some (.retAddr (a3))] [] hp_m _
  refine g_aload_n (i := 0) dd_186_0 rfl ?_
  refine g_iload_n (i := 1) dd_186_1 rfl ?_
  refine g_virtual (M' := mi_153) (n := 1) (ci := 12) (b := 66) (as := [.retAddr (a1)]) (st := []) w_1184 w_1186 ps_153 ⟨lk_153.1, lk_153.2.1, lk_153.2.2, by decide, by decide⟩ rfl gm_66 rfl (by simp [Value.category]) dd_186_2 (em_isStation_1 (a1) (by omega) (by omega)) ?_
  refine g_if_eq_f (t := 24) dd_186_5 (by decide) (by decide) ?_
  refine g_iload_n (i := 2) dd_186_8 rfl ?_
  refine g_static (M' := mi_161) (n := 1) (as := [.retAddr (a2)]) (st := []) w_1215 w_1216 ⟨lk_161.1, lk_161.2.1, lk_161.2.2, by decide, by decide⟩ rfl (by simp [Value.category]) dd_186_9 (em_isSet_0 (a2) (by omega) (by omega)) ?_
  refine g_if_eq_t (t := 24) dd_186_12 (by decide) (by decide) ?_
  refine g_iconst dd_186_24 ic_m1 ?_
  exact g_ireturn rfl dd_186_25
theorem bb_understand_1 (a1 : Nat) (h_a1 : 0 ≤ a1) (k_a1 : a1 < 2) (a2 : Nat) (h_a2 : 256 ≤ a2) (k_a2 : a2 < 4294967296) (a3 : Nat) (h_a3 : 0 ≤ a3) (k_a3 : a3 < 4294967296) : Both 90 186 [.retAddr a1, .retAddr a2, .retAddr a3] := ⟨4294967295, hp_0, hp_m, bx_understand_1 a1 h_a1 k_a1 a2 h_a2 k_a2 a3 h_a3 k_a3, bm_understand_1 a1 h_a1 k_a1 a2 h_a2 k_a2 a3 h_a3 k_a3, ⟨rfl, rfl, rfl⟩, rfl, rfl⟩
theorem bx_understand_2 (a1 : Nat) (h_a1 : 0 ≤ a1) (k_a1 : a1 < 2) (a2 : Nat) (h_a2 : 0 ≤ a2) (k_a2 : a2 < 256) (a3 : Nat) (h_a3 : 2 ≤ a3) (k_a3 : a3 < 4294967296) : am_EG mi_90 [.ref 0, .retAddr (a1), .retAddr (a2), .retAddr (a3)] hp_0 (some (.retAddr 4294967295), hp_0) := by
  refine am_enter (n := 0) tk_90.2.1 (by simp [Value.category]) (Nat.le_of_ble_eq_true rfl) ?_
  show am_Good mi_90 0 [some (.ref 0), some (.retAddr (a1)), some (.retAddr (a2)), some (.retAddr (a3))] [] hp_0 _
  refine g_aload_n (i := 0) dd_90_0 rfl ?_
  refine g_iload_n (i := 1) dd_90_1 rfl ?_
  refine g_virtual (M' := mi_51) (n := 1) (ci := 11) (b := 0) (as := [.retAddr (a1)]) (st := []) w_584 w_586 ps_51 ⟨lk_51.1, lk_51.2.1, lk_51.2.2, by decide, by decide⟩ rfl gx_0 rfl (by simp [Value.category]) dd_90_2 (ex_isStation_1 (a1) (by omega) (by omega)) ?_
  refine g_if_eq_f (t := 24) dd_90_5 (by decide) (by decide) ?_
  refine g_iload_n (i := 2) dd_90_8 rfl ?_
  refine g_static (M' := mi_56) (n := 1) (as := [.retAddr (a2)]) (st := []) w_605 w_606 ⟨lk_56.1, lk_56.2.1, lk_56.2.2, by decide, by decide⟩ rfl (by simp [Value.category]) dd_90_9 (ex_isSet_1 (a2) (by omega) (by omega)) ?_
  refine g_if_eq_f (t := 24) dd_90_12 (by decide) (by decide) ?_
  refine g_iload_n (i := 3) dd_90_15 rfl ?_
  by_cases hs1 : a3 < 2147483648
  · refine g_if_lt_f (t := 24) dd_90_16 (by decide) (tk_lt_f (by omega)) ?_
    refine g_iload_n (i := 3) dd_90_19 rfl ?_
    refine g_iconst dd_90_20 ic_1 ?_
    refine g_icmp_le_f (t := 26) dd_90_21 (by decide) (tk_le_f (by omega)) ?_
    refine g_iconst dd_90_24 ic_m1 ?_
    exact g_ireturn rfl dd_90_25
  · refine g_if_lt_t (t := 24) dd_90_16 (by decide) (tk_lt_t (by omega)) ?_
    refine g_iconst dd_90_24 ic_m1 ?_
    exact g_ireturn rfl dd_90_25
theorem bm_understand_2 (a1 : Nat) (h_a1 : 0 ≤ a1) (k_a1 : a1 < 2) (a2 : Nat) (h_a2 : 0 ≤ a2) (k_a2 : a2 < 256) (a3 : Nat) (h_a3 : 2 ≤ a3) (k_a3 : a3 < 4294967296) : am_EG mi_186 [.ref 66, .retAddr (a1), .retAddr (a2), .retAddr (a3)] hp_m (some (.retAddr 4294967295), hp_m) := by
  refine am_enter (n := 0) tk_186.2.1 (by simp [Value.category]) (Nat.le_of_ble_eq_true rfl) ?_
  show am_Good mi_186 0 [some (.ref 66), some (.retAddr (a1)), some (.retAddr (a2)), some (.retAddr (a3))] [] hp_m _
  refine g_aload_n (i := 0) dd_186_0 rfl ?_
  refine g_iload_n (i := 1) dd_186_1 rfl ?_
  refine g_virtual (M' := mi_153) (n := 1) (ci := 12) (b := 66) (as := [.retAddr (a1)]) (st := []) w_1184 w_1186 ps_153 ⟨lk_153.1, lk_153.2.1, lk_153.2.2, by decide, by decide⟩ rfl gm_66 rfl (by simp [Value.category]) dd_186_2 (em_isStation_1 (a1) (by omega) (by omega)) ?_
  refine g_if_eq_f (t := 24) dd_186_5 (by decide) (by decide) ?_
  refine g_iload_n (i := 2) dd_186_8 rfl ?_
  refine g_static (M' := mi_161) (n := 1) (as := [.retAddr (a2)]) (st := []) w_1215 w_1216 ⟨lk_161.1, lk_161.2.1, lk_161.2.2, by decide, by decide⟩ rfl (by simp [Value.category]) dd_186_9 (em_isSet_1 (a2) (by omega) (by omega)) ?_
  refine g_if_eq_f (t := 24) dd_186_12 (by decide) (by decide) ?_
  refine g_iload_n (i := 3) dd_186_15 rfl ?_
  refine g_iconst dd_186_16 ic_0 ?_
  refine g_iconst dd_186_17 ic_1 ?_
  refine g_static (M' := mi_133) (n := 3) (as := [.retAddr (a3), .retAddr 0, .retAddr 1]) (st := []) w_1106 w_1107 ⟨lk_133.1, lk_133.2.1, lk_133.2.2, by decide, by decide⟩ rfl (by simp [Value.category]) dd_186_18 (em_in_0 (a3) 0 1 (by omega) (by decide) (by decide) (by omega)) ?_
  refine g_if_ne_f (t := 26) dd_186_21 (by decide) (by decide) ?_
  refine g_iconst dd_186_24 ic_m1 ?_
  exact g_ireturn rfl dd_186_25
theorem bb_understand_2 (a1 : Nat) (h_a1 : 0 ≤ a1) (k_a1 : a1 < 2) (a2 : Nat) (h_a2 : 0 ≤ a2) (k_a2 : a2 < 256) (a3 : Nat) (h_a3 : 2 ≤ a3) (k_a3 : a3 < 4294967296) : Both 90 186 [.retAddr a1, .retAddr a2, .retAddr a3] := ⟨4294967295, hp_0, hp_m, bx_understand_2 a1 h_a1 k_a1 a2 h_a2 k_a2 a3 h_a3 k_a3, bm_understand_2 a1 h_a1 k_a1 a2 h_a2 k_a2 a3 h_a3 k_a3, ⟨rfl, rfl, rfl⟩, rfl, rfl⟩
theorem bx_soonest_0 (a1 : Nat) (h_a1 : 2 ≤ a1) (k_a1 : a1 < 4294967296) (a2 : Nat) (h_a2 : 0 ≤ a2) (k_a2 : a2 < 4294967296) : am_EG mi_100 [.ref 0, .retAddr (a1), .retAddr (a2)] hp_0 (some (.retAddr 4294967295), hp_0) := by
  refine am_enter (n := 0) tk_100.2.1 (by simp [Value.category]) (Nat.le_of_ble_eq_true rfl) ?_
  show am_Good mi_100 0 [some (.ref 0), some (.retAddr (a1)), some (.retAddr (a2))] [] hp_0 _
  refine g_aload_n (i := 0) dd_100_0 rfl ?_
  refine g_iload_n (i := 1) dd_100_1 rfl ?_
  refine g_virtual (M' := mi_51) (n := 1) (ci := 11) (b := 0) (as := [.retAddr (a1)]) (st := []) w_584 w_586 ps_51 ⟨lk_51.1, lk_51.2.1, lk_51.2.2, by decide, by decide⟩ rfl gx_0 rfl (by simp [Value.category]) dd_100_2 (ex_isStation_0 (a1) (by omega) (by omega)) ?_
  refine g_if_eq_t (t := 15) dd_100_5 (by decide) (by decide) ?_
  refine g_iconst dd_100_15 ic_m1 ?_
  exact g_ireturn rfl dd_100_16
theorem bm_soonest_0 (a1 : Nat) (h_a1 : 2 ≤ a1) (k_a1 : a1 < 4294967296) (a2 : Nat) (h_a2 : 0 ≤ a2) (k_a2 : a2 < 4294967296) : am_EG mi_191 [.ref 66, .retAddr (a1), .retAddr (a2)] hp_m (some (.retAddr 4294967295), hp_m) := by
  refine am_enter (n := 0) tk_191.2.1 (by simp [Value.category]) (Nat.le_of_ble_eq_true rfl) ?_
  show am_Good mi_191 0 [some (.ref 66), some (.retAddr (a1)), some (.retAddr (a2))] [] hp_m _
  refine g_aload_n (i := 0) dd_191_0 rfl ?_
  refine g_iload_n (i := 1) dd_191_1 rfl ?_
  refine g_virtual (M' := mi_153) (n := 1) (ci := 12) (b := 66) (as := [.retAddr (a1)]) (st := []) w_1184 w_1186 ps_153 ⟨lk_153.1, lk_153.2.1, lk_153.2.2, by decide, by decide⟩ rfl gm_66 rfl (by simp [Value.category]) dd_191_2 (em_isStation_0 (a1) (by omega) (by omega)) ?_
  refine g_if_eq_t (t := 15) dd_191_5 (by decide) (by decide) ?_
  refine g_iconst dd_191_15 ic_m1 ?_
  exact g_ireturn rfl dd_191_16
theorem bb_soonest_0 (a1 : Nat) (h_a1 : 2 ≤ a1) (k_a1 : a1 < 4294967296) (a2 : Nat) (h_a2 : 0 ≤ a2) (k_a2 : a2 < 4294967296) : Both 100 191 [.retAddr a1, .retAddr a2] := ⟨4294967295, hp_0, hp_m, bx_soonest_0 a1 h_a1 k_a1 a2 h_a2 k_a2, bm_soonest_0 a1 h_a1 k_a1 a2 h_a2 k_a2, ⟨rfl, rfl, rfl⟩, rfl, rfl⟩
theorem bx_soonest_1 (a1 : Nat) (h_a1 : 0 ≤ a1) (k_a1 : a1 < 2) (a2 : Nat) (h_a2 : 256 ≤ a2) (k_a2 : a2 < 4294967296) : am_EG mi_100 [.ref 0, .retAddr (a1), .retAddr (a2)] hp_0 (some (.retAddr 4294967295), hp_0) := by
  refine am_enter (n := 0) tk_100.2.1 (by simp [Value.category]) (Nat.le_of_ble_eq_true rfl) ?_
  show am_Good mi_100 0 [some (.ref 0), some (.retAddr (a1)), some (.retAddr (a2))] [] hp_0 _
  refine g_aload_n (i := 0) dd_100_0 rfl ?_
  refine g_iload_n (i := 1) dd_100_1 rfl ?_
  refine g_virtual (M' := mi_51) (n := 1) (ci := 11) (b := 0) (as := [.retAddr (a1)]) (st := []) w_584 w_586 ps_51 ⟨lk_51.1, lk_51.2.1, lk_51.2.2, by decide, by decide⟩ rfl gx_0 rfl (by simp [Value.category]) dd_100_2 (ex_isStation_1 (a1) (by omega) (by omega)) ?_
  refine g_if_eq_f (t := 15) dd_100_5 (by decide) (by decide) ?_
  refine g_iload_n (i := 2) dd_100_8 rfl ?_
  refine g_static (M' := mi_56) (n := 1) (as := [.retAddr (a2)]) (st := []) w_605 w_606 ⟨lk_56.1, lk_56.2.1, lk_56.2.2, by decide, by decide⟩ rfl (by simp [Value.category]) dd_100_9 (ex_isSet_0 (a2) (by omega) (by omega)) ?_
  refine g_if_ne_f (t := 17) dd_100_12 (by decide) (by decide) ?_
  refine g_iconst dd_100_15 ic_m1 ?_
  exact g_ireturn rfl dd_100_16
theorem bm_soonest_1 (a1 : Nat) (h_a1 : 0 ≤ a1) (k_a1 : a1 < 2) (a2 : Nat) (h_a2 : 256 ≤ a2) (k_a2 : a2 < 4294967296) : am_EG mi_191 [.ref 66, .retAddr (a1), .retAddr (a2)] hp_m (some (.retAddr 4294967295), hp_m) := by
  refine am_enter (n := 0) tk_191.2.1 (by simp [Value.category]) (Nat.le_of_ble_eq_true rfl) ?_
  show am_Good mi_191 0 [some (.ref 66), some (.retAddr (a1)), some (.retAddr (a2))] [] hp_m _
  refine g_aload_n (i := 0) dd_191_0 rfl ?_
  refine g_iload_n (i := 1) dd_191_1 rfl ?_
  refine g_virtual (M' := mi_153) (n := 1) (ci := 12) (b := 66) (as := [.retAddr (a1)]) (st := []) w_1184 w_1186 ps_153 ⟨lk_153.1, lk_153.2.1, lk_153.2.2, by decide, by decide⟩ rfl gm_66 rfl (by simp [Value.category]) dd_191_2 (em_isStation_1 (a1) (by omega) (by omega)) ?_
  refine g_if_eq_f (t := 15) dd_191_5 (by decide) (by decide) ?_
  refine g_iload_n (i := 2) dd_191_8 rfl ?_
  refine g_static (M' := mi_161) (n := 1) (as := [.retAddr (a2)]) (st := []) w_1215 w_1216 ⟨lk_161.1, lk_161.2.1, lk_161.2.2, by decide, by decide⟩ rfl (by simp [Value.category]) dd_191_9 (em_isSet_0 (a2) (by omega) (by omega)) ?_
  refine g_if_ne_f (t := 17) dd_191_12 (by decide) (by decide) ?_
  refine g_iconst dd_191_15 ic_m1 ?_
  exact g_ireturn rfl dd_191_16
theorem bb_soonest_1 (a1 : Nat) (h_a1 : 0 ≤ a1) (k_a1 : a1 < 2) (a2 : Nat) (h_a2 : 256 ≤ a2) (k_a2 : a2 < 4294967296) : Both 100 191 [.retAddr a1, .retAddr a2] := ⟨4294967295, hp_0, hp_m, bx_soonest_1 a1 h_a1 k_a1 a2 h_a2 k_a2, bm_soonest_1 a1 h_a1 k_a1 a2 h_a2 k_a2, ⟨rfl, rfl, rfl⟩, rfl, rfl⟩
theorem bx_ask_0 (a1 : Nat) (h_a1 : 256 ≤ a1) (k_a1 : a1 < 4294967296) (a2 : Nat) (h_a2 : 0 ≤ a2) (k_a2 : a2 < 4294967296) : am_EG mi_101 [.ref 0, .retAddr (a1), .retAddr (a2)] hp_0 (some (.retAddr 4294967295), hp_0) := by
  refine am_enter (n := 0) tk_101.2.1 (by simp [Value.category]) (Nat.le_of_ble_eq_true rfl) ?_
  show am_Good mi_101 0 [some (.ref 0), some (.retAddr (a1)), some (.retAddr (a2))] [] hp_0 _
  refine g_iload_n (i := 1) dd_101_0 rfl ?_
  refine g_static (M' := mi_56) (n := 1) (as := [.retAddr (a1)]) (st := []) w_605 w_606 ⟨lk_56.1, lk_56.2.1, lk_56.2.2, by decide, by decide⟩ rfl (by simp [Value.category]) dd_101_1 (ex_isSet_0 (a1) (by omega) (by omega)) ?_
  refine g_if_eq_t (t := 14) dd_101_4 (by decide) (by decide) ?_
  refine g_iconst dd_101_14 ic_m1 ?_
  exact g_ireturn rfl dd_101_15
theorem bm_ask_0 (a1 : Nat) (h_a1 : 256 ≤ a1) (k_a1 : a1 < 4294967296) (a2 : Nat) (h_a2 : 0 ≤ a2) (k_a2 : a2 < 4294967296) : am_EG mi_192 [.ref 66, .retAddr (a1), .retAddr (a2)] hp_m (some (.retAddr 4294967295), hp_m) := by
  refine am_enter (n := 4) tk_192.2.1 (by simp [Value.category]) (Nat.le_of_ble_eq_true rfl) ?_
  show am_Good mi_192 0 [some (.ref 66), some (.retAddr (a1)), some (.retAddr (a2)), none, none, none, none] [] hp_m _
  refine g_iload_n (i := 1) dd_192_0 rfl ?_
  refine g_static (M' := mi_161) (n := 1) (as := [.retAddr (a1)]) (st := []) w_1215 w_1216 ⟨lk_161.1, lk_161.2.1, lk_161.2.2, by decide, by decide⟩ rfl (by simp [Value.category]) dd_192_1 (em_isSet_0 (a1) (by omega) (by omega)) ?_
  refine g_if_eq_t (t := 14) dd_192_4 (by decide) (by decide) ?_
  refine g_iconst dd_192_14 ic_m1 ?_
  exact g_ireturn rfl dd_192_15
theorem bb_ask_0 (a1 : Nat) (h_a1 : 256 ≤ a1) (k_a1 : a1 < 4294967296) (a2 : Nat) (h_a2 : 0 ≤ a2) (k_a2 : a2 < 4294967296) : Both 101 192 [.retAddr a1, .retAddr a2] := ⟨4294967295, hp_0, hp_m, bx_ask_0 a1 h_a1 k_a1 a2 h_a2 k_a2, bm_ask_0 a1 h_a1 k_a1 a2 h_a2 k_a2, ⟨rfl, rfl, rfl⟩, rfl, rfl⟩
theorem bx_ask_1 (a1 : Nat) (h_a1 : 0 ≤ a1) (k_a1 : a1 < 256) (a2 : Nat) (h_a2 : 256 ≤ a2) (k_a2 : a2 < 4294967296) : am_EG mi_101 [.ref 0, .retAddr (a1), .retAddr (a2)] hp_0 (some (.retAddr 4294967295), hp_0) := by
  refine am_enter (n := 0) tk_101.2.1 (by simp [Value.category]) (Nat.le_of_ble_eq_true rfl) ?_
  show am_Good mi_101 0 [some (.ref 0), some (.retAddr (a1)), some (.retAddr (a2))] [] hp_0 _
  refine g_iload_n (i := 1) dd_101_0 rfl ?_
  refine g_static (M' := mi_56) (n := 1) (as := [.retAddr (a1)]) (st := []) w_605 w_606 ⟨lk_56.1, lk_56.2.1, lk_56.2.2, by decide, by decide⟩ rfl (by simp [Value.category]) dd_101_1 (ex_isSet_1 (a1) (by omega) (by omega)) ?_
  refine g_if_eq_f (t := 14) dd_101_4 (by decide) (by decide) ?_
  refine g_iload_n (i := 2) dd_101_7 rfl ?_
  refine g_static (M' := mi_56) (n := 1) (as := [.retAddr (a2)]) (st := []) w_605 w_606 ⟨lk_56.1, lk_56.2.1, lk_56.2.2, by decide, by decide⟩ rfl (by simp [Value.category]) dd_101_8 (ex_isSet_0 (a2) (by omega) (by omega)) ?_
  refine g_if_ne_f (t := 16) dd_101_11 (by decide) (by decide) ?_
  refine g_iconst dd_101_14 ic_m1 ?_
  exact g_ireturn rfl dd_101_15
theorem bm_ask_1 (a1 : Nat) (h_a1 : 0 ≤ a1) (k_a1 : a1 < 256) (a2 : Nat) (h_a2 : 256 ≤ a2) (k_a2 : a2 < 4294967296) : am_EG mi_192 [.ref 66, .retAddr (a1), .retAddr (a2)] hp_m (some (.retAddr 4294967295), hp_m) := by
  refine am_enter (n := 4) tk_192.2.1 (by simp [Value.category]) (Nat.le_of_ble_eq_true rfl) ?_
  show am_Good mi_192 0 [some (.ref 66), some (.retAddr (a1)), some (.retAddr (a2)), none, none, none, none] [] hp_m _
  refine g_iload_n (i := 1) dd_192_0 rfl ?_
  refine g_static (M' := mi_161) (n := 1) (as := [.retAddr (a1)]) (st := []) w_1215 w_1216 ⟨lk_161.1, lk_161.2.1, lk_161.2.2, by decide, by decide⟩ rfl (by simp [Value.category]) dd_192_1 (em_isSet_1 (a1) (by omega) (by omega)) ?_
  refine g_if_eq_f (t := 14) dd_192_4 (by decide) (by decide) ?_
  refine g_iload_n (i := 2) dd_192_7 rfl ?_
  refine g_static (M' := mi_161) (n := 1) (as := [.retAddr (a2)]) (st := []) w_1215 w_1216 ⟨lk_161.1, lk_161.2.1, lk_161.2.2, by decide, by decide⟩ rfl (by simp [Value.category]) dd_192_8 (em_isSet_0 (a2) (by omega) (by omega)) ?_
  refine g_if_ne_f (t := 16) dd_192_11 (by decide) (by decide) ?_
  refine g_iconst dd_192_14 ic_m1 ?_
  exact g_ireturn rfl dd_192_15
theorem bb_ask_1 (a1 : Nat) (h_a1 : 0 ≤ a1) (k_a1 : a1 < 256) (a2 : Nat) (h_a2 : 256 ≤ a2) (k_a2 : a2 < 4294967296) : Both 101 192 [.retAddr a1, .retAddr a2] := ⟨4294967295, hp_0, hp_m, bx_ask_1 a1 h_a1 k_a1 a2 h_a2 k_a2, bm_ask_1 a1 h_a1 k_a1 a2 h_a2 k_a2, ⟨rfl, rfl, rfl⟩, rfl, rfl⟩
theorem bx_fair_0 (a1 : Nat) (h_a1 : 0 ≤ a1) (k_a1 : a1 < 4294967296) (a2 : Nat) (h_a2 : 3 ≤ a2) (k_a2 : a2 < 4294967296) : am_EG mi_104 [.ref 0, .retAddr (a1), .retAddr (a2)] hp_0 (some (.retAddr 4294967295), hp_0) := by
  refine am_enter (n := 0) tk_104.2.1 (by simp [Value.category]) (Nat.le_of_ble_eq_true rfl) ?_
  show am_Good mi_104 0 [some (.ref 0), some (.retAddr (a1)), some (.retAddr (a2))] [] hp_0 _
  refine g_iload_n (i := 2) dd_104_0 rfl ?_
  by_cases hs1 : a2 < 2147483648
  · refine g_if_lt_f (t := 22) dd_104_1 (by decide) (tk_lt_f (by omega)) ?_
    refine g_iload_n (i := 2) dd_104_4 rfl ?_
    refine g_iconst dd_104_5 ic_2 ?_
    refine g_icmp_gt_t (t := 22) dd_104_6 (by decide) (tk_gt_t (by omega)) ?_
    refine g_iconst dd_104_22 ic_m1 ?_
    exact g_ireturn rfl dd_104_23
  · refine g_if_lt_t (t := 22) dd_104_1 (by decide) (tk_lt_t (by omega)) ?_
    refine g_iconst dd_104_22 ic_m1 ?_
    exact g_ireturn rfl dd_104_23
theorem bm_fair_0 (a1 : Nat) (h_a1 : 0 ≤ a1) (k_a1 : a1 < 4294967296) (a2 : Nat) (h_a2 : 3 ≤ a2) (k_a2 : a2 < 4294967296) : am_EG mi_194 [.ref 66, .retAddr (a1), .retAddr (a2)] hp_m (some (.retAddr 4294967295), hp_m) := by
  refine am_enter (n := 5) tk_194.2.1 (by simp [Value.category]) (Nat.le_of_ble_eq_true rfl) ?_
  show am_Good mi_194 0 [some (.ref 66), some (.retAddr (a1)), some (.retAddr (a2)), none, none, none, none, none] [] hp_m _
  refine g_iload_n (i := 2) dd_194_0 rfl ?_
  by_cases hs1 : a2 < 2147483648
  · refine g_if_ne_t (t := 8) dd_194_1 (by decide) (tk_ne_t (by omega)) ?_
    refine g_iload_n (i := 2) dd_194_8 rfl ?_
    refine g_iconst dd_194_9 ic_1 ?_
    refine g_icmp_ne_t (t := 22) dd_194_10 (by decide) (tk_ne_t (by omega)) ?_
    refine g_aload_n (i := 0) dd_194_22 rfl ?_
    refine g_getfield (k := 12) am_ck12 (by decide) (Or.inl w_947) dd_194_23 gm_66 rfl ?_
    refine g_if_ne_t (t := 33) dd_194_26 (by decide) (by decide) ?_
    refine g_aload_n (i := 0) dd_194_33 rfl ?_
    refine g_getfield (k := 12) am_ck12 (by decide) (Or.inl w_947) dd_194_34 gm_66 rfl ?_
    refine g_iconst dd_194_37 ic_1 ?_
    refine g_isub dd_194_38 ?_
    refine g_istore_n (i := 3) dd_194_39 (am_nlb_ok rfl) (by decide) ?_
    refine g_iload_n (i := 2) dd_194_40 rfl ?_
    refine g_iconst dd_194_41 ic_0 ?_
    refine g_iconst dd_194_42 ic_2 ?_
    refine g_static (M' := mi_133) (n := 3) (as := [.retAddr (a2), .retAddr 0, .retAddr 2]) (st := []) w_1106 w_1107 ⟨lk_133.1, lk_133.2.1, lk_133.2.2, by decide, by decide⟩ rfl (by simp [Value.category]) dd_194_43 (em_in_0 (a2) 0 2 (by omega) (by decide) (by decide) (by omega)) ?_
    refine g_if_eq_t (t := 58) dd_194_46 (by decide) (by decide) ?_
    refine g_iconst dd_194_58 ic_m1 ?_
    exact g_ireturn rfl dd_194_59
  · refine g_if_ne_t (t := 8) dd_194_1 (by decide) (tk_ne_t (by omega)) ?_
    refine g_iload_n (i := 2) dd_194_8 rfl ?_
    refine g_iconst dd_194_9 ic_1 ?_
    refine g_icmp_ne_t (t := 22) dd_194_10 (by decide) (tk_ne_t (by omega)) ?_
    refine g_aload_n (i := 0) dd_194_22 rfl ?_
    refine g_getfield (k := 12) am_ck12 (by decide) (Or.inl w_947) dd_194_23 gm_66 rfl ?_
    refine g_if_ne_t (t := 33) dd_194_26 (by decide) (by decide) ?_
    refine g_aload_n (i := 0) dd_194_33 rfl ?_
    refine g_getfield (k := 12) am_ck12 (by decide) (Or.inl w_947) dd_194_34 gm_66 rfl ?_
    refine g_iconst dd_194_37 ic_1 ?_
    refine g_isub dd_194_38 ?_
    refine g_istore_n (i := 3) dd_194_39 (am_nlb_ok rfl) (by decide) ?_
    refine g_iload_n (i := 2) dd_194_40 rfl ?_
    refine g_iconst dd_194_41 ic_0 ?_
    refine g_iconst dd_194_42 ic_2 ?_
    refine g_static (M' := mi_133) (n := 3) (as := [.retAddr (a2), .retAddr 0, .retAddr 2]) (st := []) w_1106 w_1107 ⟨lk_133.1, lk_133.2.1, lk_133.2.2, by decide, by decide⟩ rfl (by simp [Value.category]) dd_194_43 (em_in_0 (a2) 0 2 (by omega) (by decide) (by decide) (by omega)) ?_
    refine g_if_eq_t (t := 58) dd_194_46 (by decide) (by decide) ?_
    refine g_iconst dd_194_58 ic_m1 ?_
    exact g_ireturn rfl dd_194_59
theorem bb_fair_0 (a1 : Nat) (h_a1 : 0 ≤ a1) (k_a1 : a1 < 4294967296) (a2 : Nat) (h_a2 : 3 ≤ a2) (k_a2 : a2 < 4294967296) : Both 104 194 [.retAddr a1, .retAddr a2] := ⟨4294967295, hp_0, hp_m, bx_fair_0 a1 h_a1 k_a1 a2 h_a2 k_a2, bm_fair_0 a1 h_a1 k_a1 a2 h_a2 k_a2, ⟨rfl, rfl, rfl⟩, rfl, rfl⟩
theorem bx_fair_1 (a1 : Nat) (h_a1 : 1 ≤ a1) (k_a1 : a1 < 4294967296) (a2 : Nat) (h_a2 : 0 ≤ a2) (k_a2 : a2 < 1) : am_EG mi_104 [.ref 0, .retAddr (a1), .retAddr (a2)] hp_0 (some (.retAddr 4294967295), hp_0) := by
  refine am_enter (n := 0) tk_104.2.1 (by simp [Value.category]) (Nat.le_of_ble_eq_true rfl) ?_
  show am_Good mi_104 0 [some (.ref 0), some (.retAddr (a1)), some (.retAddr (a2))] [] hp_0 _
  refine g_iload_n (i := 2) dd_104_0 rfl ?_
  refine g_if_lt_f (t := 22) dd_104_1 (by decide) (tk_lt_f (by omega)) ?_
  refine g_iload_n (i := 2) dd_104_4 rfl ?_
  refine g_iconst dd_104_5 ic_2 ?_
  refine g_icmp_gt_f (t := 22) dd_104_6 (by decide) (tk_gt_f (by omega)) ?_
  refine g_iload_n (i := 1) dd_104_9 rfl ?_
  by_cases hs1 : a1 < 2147483648
  · refine g_if_lt_f (t := 22) dd_104_10 (by decide) (tk_lt_f (by omega)) ?_
    refine g_iload_n (i := 1) dd_104_13 rfl ?_
    refine g_aload_n (i := 0) dd_104_14 rfl ?_
    refine g_iload_n (i := 2) dd_104_15 rfl ?_
    refine g_virtual (M' := mi_105) (n := 1) (ci := 11) (b := 0) (as := [.retAddr (a2)]) (st := [.retAddr (a1)]) w_812 w_814 ps_105 ⟨lk_105.1, lk_105.2.1, lk_105.2.2, by decide, by decide⟩ rfl gx_0 rfl (by simp [Value.category]) dd_104_16 (ex_fairBound_0 (a2) (by omega) (by omega)) ?_
    refine g_icmp_lt_f (t := 24) dd_104_19 (by decide) (tk_lt_f (by omega)) ?_
    refine g_iconst dd_104_22 ic_m1 ?_
    exact g_ireturn rfl dd_104_23
  · refine g_if_lt_t (t := 22) dd_104_10 (by decide) (tk_lt_t (by omega)) ?_
    refine g_iconst dd_104_22 ic_m1 ?_
    exact g_ireturn rfl dd_104_23
theorem bm_fair_1 (a1 : Nat) (h_a1 : 1 ≤ a1) (k_a1 : a1 < 4294967296) (a2 : Nat) (h_a2 : 0 ≤ a2) (k_a2 : a2 < 1) : am_EG mi_194 [.ref 66, .retAddr (a1), .retAddr (a2)] hp_m (some (.retAddr 4294967295), hp_m) := by
  refine am_enter (n := 5) tk_194.2.1 (by simp [Value.category]) (Nat.le_of_ble_eq_true rfl) ?_
  show am_Good mi_194 0 [some (.ref 66), some (.retAddr (a1)), some (.retAddr (a2)), none, none, none, none, none] [] hp_m _
  refine g_iload_n (i := 2) dd_194_0 rfl ?_
  refine g_if_ne_f (t := 8) dd_194_1 (by decide) (tk_ne_f (by omega)) ?_
  refine g_iconst dd_194_4 ic_0 ?_
  refine g_goto (t := 39) dd_194_5 (by decide) ?_
  refine g_istore_n (i := 3) dd_194_39 (am_nlb_ok rfl) (by decide) ?_
  refine g_iload_n (i := 2) dd_194_40 rfl ?_
  refine g_iconst dd_194_41 ic_0 ?_
  refine g_iconst dd_194_42 ic_2 ?_
  refine g_static (M' := mi_133) (n := 3) (as := [.retAddr (a2), .retAddr 0, .retAddr 2]) (st := []) w_1106 w_1107 ⟨lk_133.1, lk_133.2.1, lk_133.2.2, by decide, by decide⟩ rfl (by simp [Value.category]) dd_194_43 (em_in_1 (a2) 0 2 (by decide) (by omega) (by omega)) ?_
  refine g_if_eq_f (t := 58) dd_194_46 (by decide) (by decide) ?_
  refine g_iload_n (i := 1) dd_194_49 rfl ?_
  refine g_iconst dd_194_50 ic_0 ?_
  refine g_iload_n (i := 3) dd_194_51 rfl ?_
  refine g_static (M' := mi_133) (n := 3) (as := [.retAddr (a1), .retAddr 0, .retAddr 0]) (st := []) w_1106 w_1107 ⟨lk_133.1, lk_133.2.1, lk_133.2.2, by decide, by decide⟩ rfl (by simp [Value.category]) dd_194_52 (em_in_0 (a1) 0 0 (by omega) (by decide) (by decide) (by omega)) ?_
  refine g_if_ne_f (t := 60) dd_194_55 (by decide) (by decide) ?_
  refine g_iconst dd_194_58 ic_m1 ?_
  exact g_ireturn rfl dd_194_59
theorem bb_fair_1 (a1 : Nat) (h_a1 : 1 ≤ a1) (k_a1 : a1 < 4294967296) (a2 : Nat) (h_a2 : 0 ≤ a2) (k_a2 : a2 < 1) : Both 104 194 [.retAddr a1, .retAddr a2] := ⟨4294967295, hp_0, hp_m, bx_fair_1 a1 h_a1 k_a1 a2 h_a2 k_a2, bm_fair_1 a1 h_a1 k_a1 a2 h_a2 k_a2, ⟨rfl, rfl, rfl⟩, rfl, rfl⟩
theorem bx_fair_2 (a1 : Nat) (h_a1 : 2 ≤ a1) (k_a1 : a1 < 4294967296) (a2 : Nat) (h_a2 : 1 ≤ a2) (k_a2 : a2 < 2) : am_EG mi_104 [.ref 0, .retAddr (a1), .retAddr (a2)] hp_0 (some (.retAddr 4294967295), hp_0) := by
  refine am_enter (n := 0) tk_104.2.1 (by simp [Value.category]) (Nat.le_of_ble_eq_true rfl) ?_
  show am_Good mi_104 0 [some (.ref 0), some (.retAddr (a1)), some (.retAddr (a2))] [] hp_0 _
  refine g_iload_n (i := 2) dd_104_0 rfl ?_
  refine g_if_lt_f (t := 22) dd_104_1 (by decide) (tk_lt_f (by omega)) ?_
  refine g_iload_n (i := 2) dd_104_4 rfl ?_
  refine g_iconst dd_104_5 ic_2 ?_
  refine g_icmp_gt_f (t := 22) dd_104_6 (by decide) (tk_gt_f (by omega)) ?_
  refine g_iload_n (i := 1) dd_104_9 rfl ?_
  by_cases hs1 : a1 < 2147483648
  · refine g_if_lt_f (t := 22) dd_104_10 (by decide) (tk_lt_f (by omega)) ?_
    refine g_iload_n (i := 1) dd_104_13 rfl ?_
    refine g_aload_n (i := 0) dd_104_14 rfl ?_
    refine g_iload_n (i := 2) dd_104_15 rfl ?_
    refine g_virtual (M' := mi_105) (n := 1) (ci := 11) (b := 0) (as := [.retAddr (a2)]) (st := [.retAddr (a1)]) w_812 w_814 ps_105 ⟨lk_105.1, lk_105.2.1, lk_105.2.2, by decide, by decide⟩ rfl gx_0 rfl (by simp [Value.category]) dd_104_16 (ex_fairBound_1 (a2) (by omega) (by omega)) ?_
    refine g_icmp_lt_f (t := 24) dd_104_19 (by decide) (tk_lt_f (by omega)) ?_
    refine g_iconst dd_104_22 ic_m1 ?_
    exact g_ireturn rfl dd_104_23
  · refine g_if_lt_t (t := 22) dd_104_10 (by decide) (tk_lt_t (by omega)) ?_
    refine g_iconst dd_104_22 ic_m1 ?_
    exact g_ireturn rfl dd_104_23
theorem bm_fair_2 (a1 : Nat) (h_a1 : 2 ≤ a1) (k_a1 : a1 < 4294967296) (a2 : Nat) (h_a2 : 1 ≤ a2) (k_a2 : a2 < 2) : am_EG mi_194 [.ref 66, .retAddr (a1), .retAddr (a2)] hp_m (some (.retAddr 4294967295), hp_m) := by
  refine am_enter (n := 5) tk_194.2.1 (by simp [Value.category]) (Nat.le_of_ble_eq_true rfl) ?_
  show am_Good mi_194 0 [some (.ref 66), some (.retAddr (a1)), some (.retAddr (a2)), none, none, none, none, none] [] hp_m _
  refine g_iload_n (i := 2) dd_194_0 rfl ?_
  refine g_if_ne_t (t := 8) dd_194_1 (by decide) (tk_ne_t (by omega)) ?_
  refine g_iload_n (i := 2) dd_194_8 rfl ?_
  refine g_iconst dd_194_9 ic_1 ?_
  refine g_icmp_ne_f (t := 22) dd_194_10 (by decide) (tk_ne_f (by omega)) ?_
  refine g_aload_n (i := 0) dd_194_13 rfl ?_
  refine g_virtual (M' := mi_195) (n := 0) (ci := 12) (b := 66) (as := []) (st := []) w_1348 w_1350 ps_195 ⟨lk_195.1, lk_195.2.1, lk_195.2.2, by decide, by decide⟩ rfl gm_66 rfl (by simp [Value.category]) dd_194_14 (em_turns0) ?_
  refine g_iconst dd_194_17 ic_1 ?_
  refine g_isub dd_194_18 ?_
  refine g_goto (t := 39) dd_194_19 (by decide) ?_
  refine g_istore_n (i := 3) dd_194_39 (am_nlb_ok rfl) (by decide) ?_
  refine g_iload_n (i := 2) dd_194_40 rfl ?_
  refine g_iconst dd_194_41 ic_0 ?_
  refine g_iconst dd_194_42 ic_2 ?_
  refine g_static (M' := mi_133) (n := 3) (as := [.retAddr (a2), .retAddr 0, .retAddr 2]) (st := []) w_1106 w_1107 ⟨lk_133.1, lk_133.2.1, lk_133.2.2, by decide, by decide⟩ rfl (by simp [Value.category]) dd_194_43 (em_in_1 (a2) 0 2 (by decide) (by omega) (by omega)) ?_
  refine g_if_eq_f (t := 58) dd_194_46 (by decide) (by decide) ?_
  refine g_iload_n (i := 1) dd_194_49 rfl ?_
  refine g_iconst dd_194_50 ic_0 ?_
  refine g_iload_n (i := 3) dd_194_51 rfl ?_
  refine g_static (M' := mi_133) (n := 3) (as := [.retAddr (a1), .retAddr 0, .retAddr 1]) (st := []) w_1106 w_1107 ⟨lk_133.1, lk_133.2.1, lk_133.2.2, by decide, by decide⟩ rfl (by simp [Value.category]) dd_194_52 (em_in_0 (a1) 0 1 (by omega) (by decide) (by decide) (by omega)) ?_
  refine g_if_ne_f (t := 60) dd_194_55 (by decide) (by decide) ?_
  refine g_iconst dd_194_58 ic_m1 ?_
  exact g_ireturn rfl dd_194_59
theorem bb_fair_2 (a1 : Nat) (h_a1 : 2 ≤ a1) (k_a1 : a1 < 4294967296) (a2 : Nat) (h_a2 : 1 ≤ a2) (k_a2 : a2 < 2) : Both 104 194 [.retAddr a1, .retAddr a2] := ⟨4294967295, hp_0, hp_m, bx_fair_2 a1 h_a1 k_a1 a2 h_a2 k_a2, bm_fair_2 a1 h_a1 k_a1 a2 h_a2 k_a2, ⟨rfl, rfl, rfl⟩, rfl, rfl⟩
theorem bx_fair_3 (a1 : Nat) (h_a1 : 4 ≤ a1) (k_a1 : a1 < 4294967296) (a2 : Nat) (h_a2 : 2 ≤ a2) (k_a2 : a2 < 3) : am_EG mi_104 [.ref 0, .retAddr (a1), .retAddr (a2)] hp_0 (some (.retAddr 4294967295), hp_0) := by
  refine am_enter (n := 0) tk_104.2.1 (by simp [Value.category]) (Nat.le_of_ble_eq_true rfl) ?_
  show am_Good mi_104 0 [some (.ref 0), some (.retAddr (a1)), some (.retAddr (a2))] [] hp_0 _
  refine g_iload_n (i := 2) dd_104_0 rfl ?_
  refine g_if_lt_f (t := 22) dd_104_1 (by decide) (tk_lt_f (by omega)) ?_
  refine g_iload_n (i := 2) dd_104_4 rfl ?_
  refine g_iconst dd_104_5 ic_2 ?_
  refine g_icmp_gt_f (t := 22) dd_104_6 (by decide) (tk_gt_f (by omega)) ?_
  refine g_iload_n (i := 1) dd_104_9 rfl ?_
  by_cases hs1 : a1 < 2147483648
  · refine g_if_lt_f (t := 22) dd_104_10 (by decide) (tk_lt_f (by omega)) ?_
    refine g_iload_n (i := 1) dd_104_13 rfl ?_
    refine g_aload_n (i := 0) dd_104_14 rfl ?_
    refine g_iload_n (i := 2) dd_104_15 rfl ?_
    refine g_virtual (M' := mi_105) (n := 1) (ci := 11) (b := 0) (as := [.retAddr (a2)]) (st := [.retAddr (a1)]) w_812 w_814 ps_105 ⟨lk_105.1, lk_105.2.1, lk_105.2.2, by decide, by decide⟩ rfl gx_0 rfl (by simp [Value.category]) dd_104_16 (ex_fairBound_2 (a2) (by omega) (by omega)) ?_
    refine g_icmp_lt_f (t := 24) dd_104_19 (by decide) (tk_lt_f (by omega)) ?_
    refine g_iconst dd_104_22 ic_m1 ?_
    exact g_ireturn rfl dd_104_23
  · refine g_if_lt_t (t := 22) dd_104_10 (by decide) (tk_lt_t (by omega)) ?_
    refine g_iconst dd_104_22 ic_m1 ?_
    exact g_ireturn rfl dd_104_23
theorem bm_fair_3 (a1 : Nat) (h_a1 : 4 ≤ a1) (k_a1 : a1 < 4294967296) (a2 : Nat) (h_a2 : 2 ≤ a2) (k_a2 : a2 < 3) : am_EG mi_194 [.ref 66, .retAddr (a1), .retAddr (a2)] hp_m (some (.retAddr 4294967295), hp_m) := by
  refine am_enter (n := 5) tk_194.2.1 (by simp [Value.category]) (Nat.le_of_ble_eq_true rfl) ?_
  show am_Good mi_194 0 [some (.ref 66), some (.retAddr (a1)), some (.retAddr (a2)), none, none, none, none, none] [] hp_m _
  refine g_iload_n (i := 2) dd_194_0 rfl ?_
  refine g_if_ne_t (t := 8) dd_194_1 (by decide) (tk_ne_t (by omega)) ?_
  refine g_iload_n (i := 2) dd_194_8 rfl ?_
  refine g_iconst dd_194_9 ic_1 ?_
  refine g_icmp_ne_t (t := 22) dd_194_10 (by decide) (tk_ne_t (by omega)) ?_
  refine g_aload_n (i := 0) dd_194_22 rfl ?_
  refine g_getfield (k := 12) am_ck12 (by decide) (Or.inl w_947) dd_194_23 gm_66 rfl ?_
  refine g_if_ne_t (t := 33) dd_194_26 (by decide) (by decide) ?_
  refine g_aload_n (i := 0) dd_194_33 rfl ?_
  refine g_getfield (k := 12) am_ck12 (by decide) (Or.inl w_947) dd_194_34 gm_66 rfl ?_
  refine g_iconst dd_194_37 ic_1 ?_
  refine g_isub dd_194_38 ?_
  refine g_istore_n (i := 3) dd_194_39 (am_nlb_ok rfl) (by decide) ?_
  refine g_iload_n (i := 2) dd_194_40 rfl ?_
  refine g_iconst dd_194_41 ic_0 ?_
  refine g_iconst dd_194_42 ic_2 ?_
  refine g_static (M' := mi_133) (n := 3) (as := [.retAddr (a2), .retAddr 0, .retAddr 2]) (st := []) w_1106 w_1107 ⟨lk_133.1, lk_133.2.1, lk_133.2.2, by decide, by decide⟩ rfl (by simp [Value.category]) dd_194_43 (em_in_1 (a2) 0 2 (by decide) (by omega) (by omega)) ?_
  refine g_if_eq_f (t := 58) dd_194_46 (by decide) (by decide) ?_
  refine g_iload_n (i := 1) dd_194_49 rfl ?_
  refine g_iconst dd_194_50 ic_0 ?_
  refine g_iload_n (i := 3) dd_194_51 rfl ?_
  refine g_static (M' := mi_133) (n := 3) (as := [.retAddr (a1), .retAddr 0, .retAddr 3]) (st := []) w_1106 w_1107 ⟨lk_133.1, lk_133.2.1, lk_133.2.2, by decide, by decide⟩ rfl (by simp [Value.category]) dd_194_52 (em_in_0 (a1) 0 3 (by omega) (by decide) (by decide) (by omega)) ?_
  refine g_if_ne_f (t := 60) dd_194_55 (by decide) (by decide) ?_
  refine g_iconst dd_194_58 ic_m1 ?_
  exact g_ireturn rfl dd_194_59
theorem bb_fair_3 (a1 : Nat) (h_a1 : 4 ≤ a1) (k_a1 : a1 < 4294967296) (a2 : Nat) (h_a2 : 2 ≤ a2) (k_a2 : a2 < 3) : Both 104 194 [.retAddr a1, .retAddr a2] := ⟨4294967295, hp_0, hp_m, bx_fair_3 a1 h_a1 k_a1 a2 h_a2 k_a2, bm_fair_3 a1 h_a1 k_a1 a2 h_a2 k_a2, ⟨rfl, rfl, rfl⟩, rfl, rfl⟩
theorem bx_mean_0 (a1 : Nat) (h_a1 : 4 ≤ a1) (k_a1 : a1 < 4294967295) (a2 : Nat) (h_a2 : 0 ≤ a2) (k_a2 : a2 < 4294967296) : am_EG mi_115 [.ref 0, .retAddr (a1), .retAddr (a2)] hp_0 (some (.retAddr 4294967295), hp_0) := by
  refine am_enter (n := 4) tk_115.2.1 (by simp [Value.category]) (Nat.le_of_ble_eq_true rfl) ?_
  show am_Good mi_115 0 [some (.ref 0), some (.retAddr (a1)), some (.retAddr (a2)), none, none, none, none] [] hp_0 _
  refine g_aload_n (i := 0) dd_115_0 rfl ?_
  refine g_iload_n (i := 1) dd_115_1 rfl ?_
  refine g_virtual (M' := mi_116) (n := 1) (ci := 11) (b := 0) (as := [.retAddr (a1)]) (st := []) w_862 w_864 ps_116 ⟨lk_116.1, lk_116.2.1, lk_116.2.2, by decide, by decide⟩ rfl gx_0 rfl (by simp [Value.category]) dd_115_2 (ex_isWatcherOrPlan_0 (a1) (by omega) (by omega)) ?_
  refine g_if_eq_t (t := 17) dd_115_5 (by decide) (by decide) ?_
  refine g_iconst dd_115_17 ic_m1 ?_
  exact g_ireturn rfl dd_115_18
theorem bm_mean_0 (a1 : Nat) (h_a1 : 4 ≤ a1) (k_a1 : a1 < 4294967295) (a2 : Nat) (h_a2 : 0 ≤ a2) (k_a2 : a2 < 4294967296) : am_EG mi_199 [.ref 66, .retAddr (a1), .retAddr (a2)] hp_m (some (.retAddr 4294967295), hp_m) := by
  refine am_enter (n := 5) tk_199.2.1 (by simp [Value.category]) (Nat.le_of_ble_eq_true rfl) ?_
  show am_Good mi_199 0 [some (.ref 66), some (.retAddr (a1)), some (.retAddr (a2)), none, none, none, none, none] [] hp_m _
  refine g_iload_n (i := 1) dd_199_0 rfl ?_
  refine g_iconst dd_199_1 ic_m1 ?_
  by_cases hs1 : a1 < 2147483648
  · refine g_icmp_eq_f (t := 13) dd_199_2 (by decide) (tk_eq_f (by omega)) ?_
    refine g_aload_n (i := 0) dd_199_5 rfl ?_
    refine g_iload_n (i := 1) dd_199_6 rfl ?_
    refine g_virtual (M' := mi_164) (n := 1) (ci := 12) (b := 66) (as := [.retAddr (a1)]) (st := []) w_1226 w_1228 ps_164 ⟨lk_164.1, lk_164.2.1, lk_164.2.2, by decide, by decide⟩ rfl gm_66 rfl (by simp [Value.category]) dd_199_7 (em_isWatcher_0 (a1) (by omega) (by omega)) ?_
    refine g_if_eq_t (t := 22) dd_199_10 (by decide) (by decide) ?_
    refine g_iconst dd_199_22 ic_m1 ?_
    exact g_ireturn rfl dd_199_23
  · refine g_icmp_eq_f (t := 13) dd_199_2 (by decide) (tk_eq_f (by omega)) ?_
    refine g_aload_n (i := 0) dd_199_5 rfl ?_
    refine g_iload_n (i := 1) dd_199_6 rfl ?_
    refine g_virtual (M' := mi_164) (n := 1) (ci := 12) (b := 66) (as := [.retAddr (a1)]) (st := []) w_1226 w_1228 ps_164 ⟨lk_164.1, lk_164.2.1, lk_164.2.2, by decide, by decide⟩ rfl gm_66 rfl (by simp [Value.category]) dd_199_7 (em_isWatcher_0 (a1) (by omega) (by omega)) ?_
    refine g_if_eq_t (t := 22) dd_199_10 (by decide) (by decide) ?_
    refine g_iconst dd_199_22 ic_m1 ?_
    exact g_ireturn rfl dd_199_23
theorem bb_mean_0 (a1 : Nat) (h_a1 : 4 ≤ a1) (k_a1 : a1 < 4294967295) (a2 : Nat) (h_a2 : 0 ≤ a2) (k_a2 : a2 < 4294967296) : Both 115 199 [.retAddr a1, .retAddr a2] := ⟨4294967295, hp_0, hp_m, bx_mean_0 a1 h_a1 k_a1 a2 h_a2 k_a2, bm_mean_0 a1 h_a1 k_a1 a2 h_a2 k_a2, ⟨rfl, rfl, rfl⟩, rfl, rfl⟩
theorem bx_mean_1 (a1 : Nat) (h_a1 : 0 ≤ a1) (k_a1 : a1 < 4) (a2 : Nat) (h_a2 : 2 ≤ a2) (k_a2 : a2 < 4294967296) : am_EG mi_115 [.ref 0, .retAddr (a1), .retAddr (a2)] hp_0 (some (.retAddr 4294967295), hp_0) := by
  refine am_enter (n := 4) tk_115.2.1 (by simp [Value.category]) (Nat.le_of_ble_eq_true rfl) ?_
  show am_Good mi_115 0 [some (.ref 0), some (.retAddr (a1)), some (.retAddr (a2)), none, none, none, none] [] hp_0 _
  refine g_aload_n (i := 0) dd_115_0 rfl ?_
  refine g_iload_n (i := 1) dd_115_1 rfl ?_
  refine g_virtual (M' := mi_116) (n := 1) (ci := 11) (b := 0) (as := [.retAddr (a1)]) (st := []) w_862 w_864 ps_116 ⟨lk_116.1, lk_116.2.1, lk_116.2.2, by decide, by decide⟩ rfl gx_0 rfl (by simp [Value.category]) dd_115_2 (ex_isWatcherOrPlan_1 (a1) (by omega) (by omega)) ?_
  refine g_if_eq_f (t := 17) dd_115_5 (by decide) (by decide) ?_
  refine g_iload_n (i := 2) dd_115_8 rfl ?_
  by_cases hs1 : a2 < 2147483648
  · refine g_if_lt_f (t := 17) dd_115_9 (by decide) (tk_lt_f (by omega)) ?_
    refine g_iload_n (i := 2) dd_115_12 rfl ?_
    refine g_iconst dd_115_13 ic_1 ?_
    refine g_icmp_le_f (t := 19) dd_115_14 (by decide) (tk_le_f (by omega)) ?_
    refine g_iconst dd_115_17 ic_m1 ?_
    exact g_ireturn rfl dd_115_18
  · refine g_if_lt_t (t := 17) dd_115_9 (by decide) (tk_lt_t (by omega)) ?_
    refine g_iconst dd_115_17 ic_m1 ?_
    exact g_ireturn rfl dd_115_18
theorem bm_mean_1 (a1 : Nat) (h_a1 : 0 ≤ a1) (k_a1 : a1 < 4) (a2 : Nat) (h_a2 : 2 ≤ a2) (k_a2 : a2 < 4294967296) : am_EG mi_199 [.ref 66, .retAddr (a1), .retAddr (a2)] hp_m (some (.retAddr 4294967295), hp_m) := by
  refine am_enter (n := 5) tk_199.2.1 (by simp [Value.category]) (Nat.le_of_ble_eq_true rfl) ?_
  show am_Good mi_199 0 [some (.ref 66), some (.retAddr (a1)), some (.retAddr (a2)), none, none, none, none, none] [] hp_m _
  refine g_iload_n (i := 1) dd_199_0 rfl ?_
  refine g_iconst dd_199_1 ic_m1 ?_
  refine g_icmp_eq_f (t := 13) dd_199_2 (by decide) (tk_eq_f (by omega)) ?_
  refine g_aload_n (i := 0) dd_199_5 rfl ?_
  refine g_iload_n (i := 1) dd_199_6 rfl ?_
  refine g_virtual (M' := mi_164) (n := 1) (ci := 12) (b := 66) (as := [.retAddr (a1)]) (st := []) w_1226 w_1228 ps_164 ⟨lk_164.1, lk_164.2.1, lk_164.2.2, by decide, by decide⟩ rfl gm_66 rfl (by simp [Value.category]) dd_199_7 (em_isWatcher_1 (a1) (by omega) (by omega)) ?_
  refine g_if_eq_f (t := 22) dd_199_10 (by decide) (by decide) ?_
  refine g_iload_n (i := 2) dd_199_13 rfl ?_
  refine g_iconst dd_199_14 ic_0 ?_
  refine g_iconst dd_199_15 ic_1 ?_
  refine g_static (M' := mi_133) (n := 3) (as := [.retAddr (a2), .retAddr 0, .retAddr 1]) (st := []) w_1106 w_1107 ⟨lk_133.1, lk_133.2.1, lk_133.2.2, by decide, by decide⟩ rfl (by simp [Value.category]) dd_199_16 (em_in_0 (a2) 0 1 (by omega) (by decide) (by decide) (by omega)) ?_
  refine g_if_ne_f (t := 24) dd_199_19 (by decide) (by decide) ?_
  refine g_iconst dd_199_22 ic_m1 ?_
  exact g_ireturn rfl dd_199_23
theorem bb_mean_1 (a1 : Nat) (h_a1 : 0 ≤ a1) (k_a1 : a1 < 4) (a2 : Nat) (h_a2 : 2 ≤ a2) (k_a2 : a2 < 4294967296) : Both 115 199 [.retAddr a1, .retAddr a2] := ⟨4294967295, hp_0, hp_m, bx_mean_1 a1 h_a1 k_a1 a2 h_a2 k_a2, bm_mean_1 a1 h_a1 k_a1 a2 h_a2 k_a2, ⟨rfl, rfl, rfl⟩, rfl, rfl⟩
theorem bx_mean_2 (a1 : Nat) (h_a1 : 4294967295 ≤ a1) (k_a1 : a1 < 4294967296) (a2 : Nat) (h_a2 : 2 ≤ a2) (k_a2 : a2 < 4294967296) : am_EG mi_115 [.ref 0, .retAddr (a1), .retAddr (a2)] hp_0 (some (.retAddr 4294967295), hp_0) := by
  refine am_enter (n := 4) tk_115.2.1 (by simp [Value.category]) (Nat.le_of_ble_eq_true rfl) ?_
  show am_Good mi_115 0 [some (.ref 0), some (.retAddr (a1)), some (.retAddr (a2)), none, none, none, none] [] hp_0 _
  refine g_aload_n (i := 0) dd_115_0 rfl ?_
  refine g_iload_n (i := 1) dd_115_1 rfl ?_
  refine g_virtual (M' := mi_116) (n := 1) (ci := 11) (b := 0) (as := [.retAddr (a1)]) (st := []) w_862 w_864 ps_116 ⟨lk_116.1, lk_116.2.1, lk_116.2.2, by decide, by decide⟩ rfl gx_0 rfl (by simp [Value.category]) dd_115_2 (ex_isWatcherOrPlan_2 (a1) (by omega) (by omega)) ?_
  refine g_if_eq_f (t := 17) dd_115_5 (by decide) (by decide) ?_
  refine g_iload_n (i := 2) dd_115_8 rfl ?_
  by_cases hs1 : a2 < 2147483648
  · refine g_if_lt_f (t := 17) dd_115_9 (by decide) (tk_lt_f (by omega)) ?_
    refine g_iload_n (i := 2) dd_115_12 rfl ?_
    refine g_iconst dd_115_13 ic_1 ?_
    refine g_icmp_le_f (t := 19) dd_115_14 (by decide) (tk_le_f (by omega)) ?_
    refine g_iconst dd_115_17 ic_m1 ?_
    exact g_ireturn rfl dd_115_18
  · refine g_if_lt_t (t := 17) dd_115_9 (by decide) (tk_lt_t (by omega)) ?_
    refine g_iconst dd_115_17 ic_m1 ?_
    exact g_ireturn rfl dd_115_18
theorem bm_mean_2 (a1 : Nat) (h_a1 : 4294967295 ≤ a1) (k_a1 : a1 < 4294967296) (a2 : Nat) (h_a2 : 2 ≤ a2) (k_a2 : a2 < 4294967296) : am_EG mi_199 [.ref 66, .retAddr (a1), .retAddr (a2)] hp_m (some (.retAddr 4294967295), hp_m) := by
  refine am_enter (n := 5) tk_199.2.1 (by simp [Value.category]) (Nat.le_of_ble_eq_true rfl) ?_
  show am_Good mi_199 0 [some (.ref 66), some (.retAddr (a1)), some (.retAddr (a2)), none, none, none, none, none] [] hp_m _
  refine g_iload_n (i := 1) dd_199_0 rfl ?_
  refine g_iconst dd_199_1 ic_m1 ?_
  refine g_icmp_eq_t (t := 13) dd_199_2 (by decide) (tk_eq_t (by omega)) ?_
  refine g_iload_n (i := 2) dd_199_13 rfl ?_
  refine g_iconst dd_199_14 ic_0 ?_
  refine g_iconst dd_199_15 ic_1 ?_
  refine g_static (M' := mi_133) (n := 3) (as := [.retAddr (a2), .retAddr 0, .retAddr 1]) (st := []) w_1106 w_1107 ⟨lk_133.1, lk_133.2.1, lk_133.2.2, by decide, by decide⟩ rfl (by simp [Value.category]) dd_199_16 (em_in_0 (a2) 0 1 (by omega) (by decide) (by decide) (by omega)) ?_
  refine g_if_ne_f (t := 24) dd_199_19 (by decide) (by decide) ?_
  refine g_iconst dd_199_22 ic_m1 ?_
  exact g_ireturn rfl dd_199_23
theorem bb_mean_2 (a1 : Nat) (h_a1 : 4294967295 ≤ a1) (k_a1 : a1 < 4294967296) (a2 : Nat) (h_a2 : 2 ≤ a2) (k_a2 : a2 < 4294967296) : Both 115 199 [.retAddr a1, .retAddr a2] := ⟨4294967295, hp_0, hp_m, bx_mean_2 a1 h_a1 k_a1 a2 h_a2 k_a2, bm_mean_2 a1 h_a1 k_a1 a2 h_a2 k_a2, ⟨rfl, rfl, rfl⟩, rfl, rfl⟩
theorem bx_sure_0 (a1 : Nat) (h_a1 : 4 ≤ a1) (k_a1 : a1 < 4294967295) : am_EG mi_119 [.ref 0, .retAddr (a1)] hp_0 (some (.retAddr 4294967295), hp_0) := by
  refine am_enter (n := 2) tk_119.2.1 (by simp [Value.category]) (Nat.le_of_ble_eq_true rfl) ?_
  show am_Good mi_119 0 [some (.ref 0), some (.retAddr (a1)), none, none] [] hp_0 _
  refine g_aload_n (i := 0) dd_119_0 rfl ?_
  refine g_iload_n (i := 1) dd_119_1 rfl ?_
  refine g_virtual (M' := mi_116) (n := 1) (ci := 11) (b := 0) (as := [.retAddr (a1)]) (st := []) w_862 w_864 ps_116 ⟨lk_116.1, lk_116.2.1, lk_116.2.2, by decide, by decide⟩ rfl gx_0 rfl (by simp [Value.category]) dd_119_2 (ex_isWatcherOrPlan_0 (a1) (by omega) (by omega)) ?_
  refine g_if_ne_f (t := 10) dd_119_5 (by decide) (by decide) ?_
  refine g_iconst dd_119_8 ic_m1 ?_
  exact g_ireturn rfl dd_119_9
theorem bm_sure_0 (a1 : Nat) (h_a1 : 4 ≤ a1) (k_a1 : a1 < 4294967295) : am_EG mi_202 [.ref 66, .retAddr (a1)] hp_m (some (.retAddr 4294967295), hp_m) := by
  refine am_enter (n := 2) tk_202.2.1 (by simp [Value.category]) (Nat.le_of_ble_eq_true rfl) ?_
  show am_Good mi_202 0 [some (.ref 66), some (.retAddr (a1)), none, none] [] hp_m _
  refine g_iload_n (i := 1) dd_202_0 rfl ?_
  refine g_iconst dd_202_1 ic_m1 ?_
  by_cases hs1 : a1 < 2147483648
  · refine g_icmp_eq_f (t := 15) dd_202_2 (by decide) (tk_eq_f (by omega)) ?_
    refine g_aload_n (i := 0) dd_202_5 rfl ?_
    refine g_iload_n (i := 1) dd_202_6 rfl ?_
    refine g_virtual (M' := mi_164) (n := 1) (ci := 12) (b := 66) (as := [.retAddr (a1)]) (st := []) w_1226 w_1228 ps_164 ⟨lk_164.1, lk_164.2.1, lk_164.2.2, by decide, by decide⟩ rfl gm_66 rfl (by simp [Value.category]) dd_202_7 (em_isWatcher_0 (a1) (by omega) (by omega)) ?_
    refine g_if_ne_f (t := 15) dd_202_10 (by decide) (by decide) ?_
    refine g_iconst dd_202_13 ic_m1 ?_
    exact g_ireturn rfl dd_202_14
  · refine g_icmp_eq_f (t := 15) dd_202_2 (by decide) (tk_eq_f (by omega)) ?_
    refine g_aload_n (i := 0) dd_202_5 rfl ?_
    refine g_iload_n (i := 1) dd_202_6 rfl ?_
    refine g_virtual (M' := mi_164) (n := 1) (ci := 12) (b := 66) (as := [.retAddr (a1)]) (st := []) w_1226 w_1228 ps_164 ⟨lk_164.1, lk_164.2.1, lk_164.2.2, by decide, by decide⟩ rfl gm_66 rfl (by simp [Value.category]) dd_202_7 (em_isWatcher_0 (a1) (by omega) (by omega)) ?_
    refine g_if_ne_f (t := 15) dd_202_10 (by decide) (by decide) ?_
    refine g_iconst dd_202_13 ic_m1 ?_
    exact g_ireturn rfl dd_202_14
theorem bb_sure_0 (a1 : Nat) (h_a1 : 4 ≤ a1) (k_a1 : a1 < 4294967295) : Both 119 202 [.retAddr a1] := ⟨4294967295, hp_0, hp_m, bx_sure_0 a1 h_a1 k_a1, bm_sure_0 a1 h_a1 k_a1, ⟨rfl, rfl, rfl⟩, rfl, rfl⟩
theorem bx_fits_0 (a1 : Nat) (h_a1 : 256 ≤ a1) (k_a1 : a1 < 4294967296) : am_EG mi_120 [.ref 0, .retAddr (a1)] hp_0 (some (.retAddr 4294967295), hp_0) := by
  refine am_enter (n := 3) tk_120.2.1 (by simp [Value.category]) (Nat.le_of_ble_eq_true rfl) ?_
  show am_Good mi_120 0 [some (.ref 0), some (.retAddr (a1)), none, none, none] [] hp_0 _
  refine g_iload_n (i := 1) dd_120_0 rfl ?_
  refine g_static (M' := mi_56) (n := 1) (as := [.retAddr (a1)]) (st := []) w_605 w_606 ⟨lk_56.1, lk_56.2.1, lk_56.2.2, by decide, by decide⟩ rfl (by simp [Value.category]) dd_120_1 (ex_isSet_0 (a1) (by omega) (by omega)) ?_
  refine g_if_ne_f (t := 9) dd_120_4 (by decide) (by decide) ?_
  refine g_iconst dd_120_7 ic_m1 ?_
  exact g_ireturn rfl dd_120_8
theorem bm_fits_0 (a1 : Nat) (h_a1 : 256 ≤ a1) (k_a1 : a1 < 4294967296) : am_EG mi_203 [.ref 66, .retAddr (a1)] hp_m (some (.retAddr 4294967295), hp_m) := by
  refine am_enter (n := 3) tk_203.2.1 (by simp [Value.category]) (Nat.le_of_ble_eq_true rfl) ?_
  show am_Good mi_203 0 [some (.ref 66), some (.retAddr (a1)), none, none, none] [] hp_m _
  refine g_iload_n (i := 1) dd_203_0 rfl ?_
  refine g_static (M' := mi_161) (n := 1) (as := [.retAddr (a1)]) (st := []) w_1215 w_1216 ⟨lk_161.1, lk_161.2.1, lk_161.2.2, by decide, by decide⟩ rfl (by simp [Value.category]) dd_203_1 (em_isSet_0 (a1) (by omega) (by omega)) ?_
  refine g_if_ne_f (t := 9) dd_203_4 (by decide) (by decide) ?_
  refine g_iconst dd_203_7 ic_m1 ?_
  exact g_ireturn rfl dd_203_8
theorem bb_fits_0 (a1 : Nat) (h_a1 : 256 ≤ a1) (k_a1 : a1 < 4294967296) : Both 120 203 [.retAddr a1] := ⟨4294967295, hp_0, hp_m, bx_fits_0 a1 h_a1 k_a1, bm_fits_0 a1 h_a1 k_a1, ⟨rfl, rfl, rfl⟩, rfl, rfl⟩
theorem bx_matters_0 (a1 : Nat) (h_a1 : 4 ≤ a1) (k_a1 : a1 < 4294967296) : am_EG mi_121 [.ref 0, .retAddr (a1)] hp_0 (some (.retAddr 4294967295), hp_0) := by
  refine am_enter (n := 4) tk_121.2.1 (by simp [Value.category]) (Nat.le_of_ble_eq_true rfl) ?_
  show am_Good mi_121 0 [some (.ref 0), some (.retAddr (a1)), none, none, none, none] [] hp_0 _
  refine g_aload_n (i := 0) dd_121_0 rfl ?_
  refine g_iload_n (i := 1) dd_121_1 rfl ?_
  refine g_virtual (M' := mi_59) (n := 1) (ci := 11) (b := 0) (as := [.retAddr (a1)]) (st := []) w_616 w_618 ps_59 ⟨lk_59.1, lk_59.2.1, lk_59.2.2, by decide, by decide⟩ rfl gx_0 rfl (by simp [Value.category]) dd_121_2 (ex_isWatcher_0 (a1) (by omega) (by omega)) ?_
  refine g_if_ne_f (t := 10) dd_121_5 (by decide) (by decide) ?_
  refine g_iconst dd_121_8 ic_m1 ?_
  exact g_ireturn rfl dd_121_9
theorem bm_matters_0 (a1 : Nat) (h_a1 : 4 ≤ a1) (k_a1 : a1 < 4294967296) : am_EG mi_204 [.ref 66, .retAddr (a1)] hp_m (some (.retAddr 4294967295), hp_m) := by
  refine am_enter (n := 4) tk_204.2.1 (by simp [Value.category]) (Nat.le_of_ble_eq_true rfl) ?_
  show am_Good mi_204 0 [some (.ref 66), some (.retAddr (a1)), none, none, none, none] [] hp_m _
  refine g_aload_n (i := 0) dd_204_0 rfl ?_
  refine g_iload_n (i := 1) dd_204_1 rfl ?_
  refine g_virtual (M' := mi_164) (n := 1) (ci := 12) (b := 66) (as := [.retAddr (a1)]) (st := []) w_1226 w_1228 ps_164 ⟨lk_164.1, lk_164.2.1, lk_164.2.2, by decide, by decide⟩ rfl gm_66 rfl (by simp [Value.category]) dd_204_2 (em_isWatcher_0 (a1) (by omega) (by omega)) ?_
  refine g_if_ne_f (t := 10) dd_204_5 (by decide) (by decide) ?_
  refine g_iconst dd_204_8 ic_m1 ?_
  exact g_ireturn rfl dd_204_9
theorem bb_matters_0 (a1 : Nat) (h_a1 : 4 ≤ a1) (k_a1 : a1 < 4294967296) : Both 121 204 [.retAddr a1] := ⟨4294967295, hp_0, hp_m, bx_matters_0 a1 h_a1 k_a1, bm_matters_0 a1 h_a1 k_a1, ⟨rfl, rfl, rfl⟩, rfl, rfl⟩
theorem bx_night_0 (a1 : Nat) (h_a1 : 10000 ≤ a1) (k_a1 : a1 < 4294967296) (a2 : Nat) (h_a2 : 0 ≤ a2) (k_a2 : a2 < 4294967296) (a3 : Nat) (h_a3 : 0 ≤ a3) (k_a3 : a3 < 4294967296) : am_EG mi_122 [.ref 0, .retAddr (a1), .retAddr (a2), .retAddr (a3)] hp_0 (some (.retAddr 4294967295), hp_0) := by
  refine am_enter (n := 0) tk_122.2.1 (by simp [Value.category]) (Nat.le_of_ble_eq_true rfl) ?_
  show am_Good mi_122 0 [some (.ref 0), some (.retAddr (a1)), some (.retAddr (a2)), some (.retAddr (a3))] [] hp_0 _
  refine g_iload_n (i := 1) dd_122_0 rfl ?_
  by_cases hs1 : a1 < 2147483648
  · refine g_if_lt_f (t := 28) dd_122_1 (by decide) (tk_lt_f (by omega)) ?_
    refine g_iload_n (i := 1) dd_122_4 rfl ?_
    refine g_sipush dd_122_5 si_10000 ?_
    refine g_icmp_ge_t (t := 28) dd_122_8 (by decide) (tk_ge_t (by omega)) ?_
    refine g_iconst dd_122_28 ic_m1 ?_
    exact g_ireturn rfl dd_122_29
  · refine g_if_lt_t (t := 28) dd_122_1 (by decide) (tk_lt_t (by omega)) ?_
    refine g_iconst dd_122_28 ic_m1 ?_
    exact g_ireturn rfl dd_122_29
theorem bm_night_0 (a1 : Nat) (h_a1 : 10000 ≤ a1) (k_a1 : a1 < 4294967296) (a2 : Nat) (h_a2 : 0 ≤ a2) (k_a2 : a2 < 4294967296) (a3 : Nat) (h_a3 : 0 ≤ a3) (k_a3 : a3 < 4294967296) : am_EG mi_205 [.ref 66, .retAddr (a1), .retAddr (a2), .retAddr (a3)] hp_m (some (.retAddr 4294967295), hp_m) := by
  refine am_enter (n := 0) tk_205.2.1 (by simp [Value.category]) (Nat.le_of_ble_eq_true rfl) ?_
  show am_Good mi_205 0 [some (.ref 66), some (.retAddr (a1)), some (.retAddr (a2)), some (.retAddr (a3))] [] hp_m _
  refine g_iload_n (i := 1) dd_205_0 rfl ?_
  refine g_iconst dd_205_1 ic_0 ?_
  refine g_sipush dd_205_2 si_9999 ?_
  refine g_static (M' := mi_133) (n := 3) (as := [.retAddr (a1), .retAddr 0, .retAddr 9999]) (st := []) w_1106 w_1107 ⟨lk_133.1, lk_133.2.1, lk_133.2.2, by decide, by decide⟩ rfl (by simp [Value.category]) dd_205_5 (em_in_0 (a1) 0 9999 (by omega) (by decide) (by decide) (by omega)) ?_
  refine g_if_eq_t (t := 28) dd_205_8 (by decide) (by decide) ?_
  refine g_iconst dd_205_28 ic_m1 ?_
  exact g_ireturn rfl dd_205_29
theorem bb_night_0 (a1 : Nat) (h_a1 : 10000 ≤ a1) (k_a1 : a1 < 4294967296) (a2 : Nat) (h_a2 : 0 ≤ a2) (k_a2 : a2 < 4294967296) (a3 : Nat) (h_a3 : 0 ≤ a3) (k_a3 : a3 < 4294967296) : Both 122 205 [.retAddr a1, .retAddr a2, .retAddr a3] := ⟨4294967295, hp_0, hp_m, bx_night_0 a1 h_a1 k_a1 a2 h_a2 k_a2 a3 h_a3 k_a3, bm_night_0 a1 h_a1 k_a1 a2 h_a2 k_a2 a3 h_a3 k_a3, ⟨rfl, rfl, rfl⟩, rfl, rfl⟩
theorem bx_night_1 (a1 : Nat) (h_a1 : 0 ≤ a1) (k_a1 : a1 < 10000) (a2 : Nat) (h_a2 : 4 ≤ a2) (k_a2 : a2 < 4294967296) (a3 : Nat) (h_a3 : 0 ≤ a3) (k_a3 : a3 < 4294967296) : am_EG mi_122 [.ref 0, .retAddr (a1), .retAddr (a2), .retAddr (a3)] hp_0 (some (.retAddr 4294967295), hp_0) := by
  refine am_enter (n := 0) tk_122.2.1 (by simp [Value.category]) (Nat.le_of_ble_eq_true rfl) ?_
  show am_Good mi_122 0 [some (.ref 0), some (.retAddr (a1)), some (.retAddr (a2)), some (.retAddr (a3))] [] hp_0 _
  refine g_iload_n (i := 1) dd_122_0 rfl ?_
  refine g_if_lt_f (t := 28) dd_122_1 (by decide) (tk_lt_f (by omega)) ?_
  refine g_iload_n (i := 1) dd_122_4 rfl ?_
  refine g_sipush dd_122_5 si_10000 ?_
  refine g_icmp_ge_f (t := 28) dd_122_8 (by decide) (tk_ge_f (by omega)) ?_
  refine g_aload_n (i := 0) dd_122_11 rfl ?_
  refine g_iload_n (i := 2) dd_122_12 rfl ?_
  refine g_virtual (M' := mi_59) (n := 1) (ci := 11) (b := 0) (as := [.retAddr (a2)]) (st := []) w_616 w_618 ps_59 ⟨lk_59.1, lk_59.2.1, lk_59.2.2, by decide, by decide⟩ rfl gx_0 rfl (by simp [Value.category]) dd_122_13 (ex_isWatcher_0 (a2) (by omega) (by omega)) ?_
  refine g_if_eq_t (t := 28) dd_122_16 (by decide) (by decide) ?_
  refine g_iconst dd_122_28 ic_m1 ?_
  exact g_ireturn rfl dd_122_29
theorem bm_night_1 (a1 : Nat) (h_a1 : 0 ≤ a1) (k_a1 : a1 < 10000) (a2 : Nat) (h_a2 : 4 ≤ a2) (k_a2 : a2 < 4294967296) (a3 : Nat) (h_a3 : 0 ≤ a3) (k_a3 : a3 < 4294967296) : am_EG mi_205 [.ref 66, .retAddr (a1), .retAddr (a2), .retAddr (a3)] hp_m (some (.retAddr 4294967295), hp_m) := by
  refine am_enter (n := 0) tk_205.2.1 (by simp [Value.category]) (Nat.le_of_ble_eq_true rfl) ?_
  show am_Good mi_205 0 [some (.ref 66), some (.retAddr (a1)), some (.retAddr (a2)), some (.retAddr (a3))] [] hp_m _
  refine g_iload_n (i := 1) dd_205_0 rfl ?_
  refine g_iconst dd_205_1 ic_0 ?_
  refine g_sipush dd_205_2 si_9999 ?_
  refine g_static (M' := mi_133) (n := 3) (as := [.retAddr (a1), .retAddr 0, .retAddr 9999]) (st := []) w_1106 w_1107 ⟨lk_133.1, lk_133.2.1, lk_133.2.2, by decide, by decide⟩ rfl (by simp [Value.category]) dd_205_5 (em_in_1 (a1) 0 9999 (by decide) (by omega) (by omega)) ?_
  refine g_if_eq_f (t := 28) dd_205_8 (by decide) (by decide) ?_
  refine g_aload_n (i := 0) dd_205_11 rfl ?_
  refine g_iload_n (i := 2) dd_205_12 rfl ?_
  refine g_virtual (M' := mi_164) (n := 1) (ci := 12) (b := 66) (as := [.retAddr (a2)]) (st := []) w_1226 w_1228 ps_164 ⟨lk_164.1, lk_164.2.1, lk_164.2.2, by decide, by decide⟩ rfl gm_66 rfl (by simp [Value.category]) dd_205_13 (em_isWatcher_0 (a2) (by omega) (by omega)) ?_
  refine g_if_eq_t (t := 28) dd_205_16 (by decide) (by decide) ?_
  refine g_iconst dd_205_28 ic_m1 ?_
  exact g_ireturn rfl dd_205_29
theorem bb_night_1 (a1 : Nat) (h_a1 : 0 ≤ a1) (k_a1 : a1 < 10000) (a2 : Nat) (h_a2 : 4 ≤ a2) (k_a2 : a2 < 4294967296) (a3 : Nat) (h_a3 : 0 ≤ a3) (k_a3 : a3 < 4294967296) : Both 122 205 [.retAddr a1, .retAddr a2, .retAddr a3] := ⟨4294967295, hp_0, hp_m, bx_night_1 a1 h_a1 k_a1 a2 h_a2 k_a2 a3 h_a3 k_a3, bm_night_1 a1 h_a1 k_a1 a2 h_a2 k_a2 a3 h_a3 k_a3, ⟨rfl, rfl, rfl⟩, rfl, rfl⟩
theorem bx_night_2 (a1 : Nat) (h_a1 : 0 ≤ a1) (k_a1 : a1 < 10000) (a2 : Nat) (h_a2 : 0 ≤ a2) (k_a2 : a2 < 4) (a3 : Nat) (h_a3 : 2 ≤ a3) (k_a3 : a3 < 4294967296) : am_EG mi_122 [.ref 0, .retAddr (a1), .retAddr (a2), .retAddr (a3)] hp_0 (some (.retAddr 4294967295), hp_0) := by
  refine am_enter (n := 0) tk_122.2.1 (by simp [Value.category]) (Nat.le_of_ble_eq_true rfl) ?_
  show am_Good mi_122 0 [some (.ref 0), some (.retAddr (a1)), some (.retAddr (a2)), some (.retAddr (a3))] [] hp_0 _
  refine g_iload_n (i := 1) dd_122_0 rfl ?_
  refine g_if_lt_f (t := 28) dd_122_1 (by decide) (tk_lt_f (by omega)) ?_
  refine g_iload_n (i := 1) dd_122_4 rfl ?_
  refine g_sipush dd_122_5 si_10000 ?_
  refine g_icmp_ge_f (t := 28) dd_122_8 (by decide) (tk_ge_f (by omega)) ?_
  refine g_aload_n (i := 0) dd_122_11 rfl ?_
  refine g_iload_n (i := 2) dd_122_12 rfl ?_
  refine g_virtual (M' := mi_59) (n := 1) (ci := 11) (b := 0) (as := [.retAddr (a2)]) (st := []) w_616 w_618 ps_59 ⟨lk_59.1, lk_59.2.1, lk_59.2.2, by decide, by decide⟩ rfl gx_0 rfl (by simp [Value.category]) dd_122_13 (ex_isWatcher_1 (a2) (by omega) (by omega)) ?_
  refine g_if_eq_f (t := 28) dd_122_16 (by decide) (by decide) ?_
  refine g_iload_n (i := 3) dd_122_19 rfl ?_
  by_cases hs1 : a3 < 2147483648
  · refine g_if_lt_f (t := 28) dd_122_20 (by decide) (tk_lt_f (by omega)) ?_
    refine g_iload_n (i := 3) dd_122_23 rfl ?_
    refine g_iconst dd_122_24 ic_1 ?_
    refine g_icmp_le_f (t := 30) dd_122_25 (by decide) (tk_le_f (by omega)) ?_
    refine g_iconst dd_122_28 ic_m1 ?_
    exact g_ireturn rfl dd_122_29
  · refine g_if_lt_t (t := 28) dd_122_20 (by decide) (tk_lt_t (by omega)) ?_
    refine g_iconst dd_122_28 ic_m1 ?_
    exact g_ireturn rfl dd_122_29
theorem bm_night_2 (a1 : Nat) (h_a1 : 0 ≤ a1) (k_a1 : a1 < 10000) (a2 : Nat) (h_a2 : 0 ≤ a2) (k_a2 : a2 < 4) (a3 : Nat) (h_a3 : 2 ≤ a3) (k_a3 : a3 < 4294967296) : am_EG mi_205 [.ref 66, .retAddr (a1), .retAddr (a2), .retAddr (a3)] hp_m (some (.retAddr 4294967295), hp_m) := by
  refine am_enter (n := 0) tk_205.2.1 (by simp [Value.category]) (Nat.le_of_ble_eq_true rfl) ?_
  show am_Good mi_205 0 [some (.ref 66), some (.retAddr (a1)), some (.retAddr (a2)), some (.retAddr (a3))] [] hp_m _
  refine g_iload_n (i := 1) dd_205_0 rfl ?_
  refine g_iconst dd_205_1 ic_0 ?_
  refine g_sipush dd_205_2 si_9999 ?_
  refine g_static (M' := mi_133) (n := 3) (as := [.retAddr (a1), .retAddr 0, .retAddr 9999]) (st := []) w_1106 w_1107 ⟨lk_133.1, lk_133.2.1, lk_133.2.2, by decide, by decide⟩ rfl (by simp [Value.category]) dd_205_5 (em_in_1 (a1) 0 9999 (by decide) (by omega) (by omega)) ?_
  refine g_if_eq_f (t := 28) dd_205_8 (by decide) (by decide) ?_
  refine g_aload_n (i := 0) dd_205_11 rfl ?_
  refine g_iload_n (i := 2) dd_205_12 rfl ?_
  refine g_virtual (M' := mi_164) (n := 1) (ci := 12) (b := 66) (as := [.retAddr (a2)]) (st := []) w_1226 w_1228 ps_164 ⟨lk_164.1, lk_164.2.1, lk_164.2.2, by decide, by decide⟩ rfl gm_66 rfl (by simp [Value.category]) dd_205_13 (em_isWatcher_1 (a2) (by omega) (by omega)) ?_
  refine g_if_eq_f (t := 28) dd_205_16 (by decide) (by decide) ?_
  refine g_iload_n (i := 3) dd_205_19 rfl ?_
  refine g_iconst dd_205_20 ic_0 ?_
  refine g_iconst dd_205_21 ic_1 ?_
  refine g_static (M' := mi_133) (n := 3) (as := [.retAddr (a3), .retAddr 0, .retAddr 1]) (st := []) w_1106 w_1107 ⟨lk_133.1, lk_133.2.1, lk_133.2.2, by decide, by decide⟩ rfl (by simp [Value.category]) dd_205_22 (em_in_0 (a3) 0 1 (by omega) (by decide) (by decide) (by omega)) ?_
  refine g_if_ne_f (t := 30) dd_205_25 (by decide) (by decide) ?_
  refine g_iconst dd_205_28 ic_m1 ?_
  exact g_ireturn rfl dd_205_29
theorem bb_night_2 (a1 : Nat) (h_a1 : 0 ≤ a1) (k_a1 : a1 < 10000) (a2 : Nat) (h_a2 : 0 ≤ a2) (k_a2 : a2 < 4) (a3 : Nat) (h_a3 : 2 ≤ a3) (k_a3 : a3 < 4294967296) : Both 122 205 [.retAddr a1, .retAddr a2, .retAddr a3] := ⟨4294967295, hp_0, hp_m, bx_night_2 a1 h_a1 k_a1 a2 h_a2 k_a2 a3 h_a3 k_a3, bm_night_2 a1 h_a1 k_a1 a2 h_a2 k_a2 a3 h_a3 k_a3, ⟨rfl, rfl, rfl⟩, rfl, rfl⟩
theorem bx_count_0 (a1 : Nat) (h_a1 : 10 ≤ a1) (k_a1 : a1 < 4294967296) : am_EG mi_129 [.ref 0, .retAddr (a1)] hp_0 (some (.retAddr 4294967295), hp_0) := by
  refine am_enter (n := 0) tk_129.2.1 (by simp [Value.category]) (Nat.le_of_ble_eq_true rfl) ?_
  show am_Good mi_129 0 [some (.ref 0), some (.retAddr (a1))] [] hp_0 _
  refine g_iload_n (i := 1) dd_129_0 rfl ?_
  refine g_tableOut (t := 145) dd_129_1 (by omega) (by decide) (Or.inr (by omega)) (by decide) ?_
  refine g_iconst dd_129_145 ic_m1 ?_
  exact g_ireturn rfl dd_129_146
theorem bm_count_0 (a1 : Nat) (h_a1 : 10 ≤ a1) (k_a1 : a1 < 4294967296) : am_EG mi_209 [.ref 66, .retAddr (a1)] hp_m (some (.retAddr 4294967295), hp_m) := by
  refine am_enter (n := 0) tk_209.2.1 (by simp [Value.category]) (Nat.le_of_ble_eq_true rfl) ?_
  show am_Good mi_209 0 [some (.ref 66), some (.retAddr (a1))] [] hp_m _
  refine g_iload_n (i := 1) dd_209_0 rfl ?_
  refine g_tableOut (t := 106) dd_209_1 (by omega) (by decide) (Or.inr (by omega)) (by decide) ?_
  refine g_iconst dd_209_106 ic_m1 ?_
  exact g_ireturn rfl dd_209_107
theorem bb_count_0 (a1 : Nat) (h_a1 : 10 ≤ a1) (k_a1 : a1 < 4294967296) : Both 129 209 [.retAddr a1] := ⟨4294967295, hp_0, hp_m, bx_count_0 a1 h_a1 k_a1, bm_count_0 a1 h_a1 k_a1, ⟨rfl, rfl, rfl⟩, rfl, rfl⟩
