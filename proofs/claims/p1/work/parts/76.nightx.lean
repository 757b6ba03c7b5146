/-! ===== night: the class ===== -/
def hn_ (c1 c2 c3 pl he fr wo se go : Nat) : am_H := (93, 71397, [[xc_0, xc_1, xc_2, xc_3, xc_4, xc_5, xc_6, xc_7], [xc_8, xc_9, xc_10, xc_11, xc_12, xc_13, xc_14, xc_15], [xc_16, xc_17, xc_18, xc_19, xc_20, xc_21, xc_22, xc_23], [xc_24, xc_25, xc_26, xc_27, xc_28, xc_29, xc_30, xc_31], [xc_32, xc_33, xc_34, xc_35, xc_36, .inl (0, 240, c1), .inl (0, 240, c2), .inl (0, 240, c3)], [.inr (10, [.ref 41, .ref 42, .retAddr he, .retAddr fr, .retAddr wo, .retAddr se, .retAddr go]), .inl (0, 60, pl), xc_42, xc_43, xc_44, xc_45, xc_46, xc_47], [xc_48, xc_49, xc_50, xc_51, xc_52, xc_53, xc_54, xc_55], [xc_56, xc_57, xc_58, xc_59, xc_60, xc_61, xc_62, xc_63], [xc_64, xc_65, mc_66, mc_67, mc_68, mc_69, mc_70, mc_71], [mc_72, mc_73, mc_74, mc_75, mc_76, mc_77, mc_78, mc_79], [mc_80, mc_81, mc_82, mc_83, mc_84, mc_85, mc_86, mc_87], [mc_88, mc_89, mc_90, mc_91, mc_92]])
theorem ng_there {h : am_H} (s t : Nat) (hs : s < 4) (ht : t < 60) : am_EG mi_35 [.retAddr s, .retAddr t] h (some (.retAddr 1), h) := by
  refine am_enter (n := 0) tk_35.2.1 (by simp [Value.category]) (Nat.le_of_ble_eq_true rfl) ?_
  show am_Good mi_35 0 [some (.retAddr s), some (.retAddr t)] [] h _
  refine g_iload_n (i := 0) dd_35_0 rfl ?_
  refine g_if_lt_f (t := 23) dd_35_1 (by decide) (tk_lt_f (by omega)) ?_
  refine g_iload_n (i := 0) dd_35_4 rfl ?_
  refine g_iconst dd_35_5 ic_4 ?_
  refine g_icmp_ge_f (t := 23) dd_35_6 (by decide) (tk_ge_f (by omega)) ?_
  refine g_iload_n (i := 1) dd_35_9 rfl ?_
  refine g_if_lt_f (t := 23) dd_35_10 (by decide) (tk_lt_f (by omega)) ?_
  refine g_iload_n (i := 1) dd_35_13 rfl ?_
  refine g_bipush dd_35_14 bi_60 ?_
  refine g_icmp_ge_f (t := 23) dd_35_16 (by decide) (tk_ge_f (by omega)) ?_
  refine g_iconst dd_35_19 ic_1 ?_
  refine g_goto (t := 24) dd_35_20 (by decide) ?_
  exact g_zreturn rfl (by first | decide | omega) dd_35_24
theorem ng_ib_t {c1 c2 c3 pl he fr wo se go : Nat} {b : Nat} (s t : Nat) (hs : s < 2) (ht : t < 12) (hv : am_ag c3 (s * 60 + t) = b) (hb : ¬ b = 0) : am_EG mi_53 [.ref 36, .retAddr s, .retAddr t] (hn_ c1 c2 c3 pl he fr wo se go) (some (.retAddr 1), (hn_ c1 c2 c3 pl he fr wo se go)) := by
  refine am_enter (n := 0) tk_53.2.1 (by simp [Value.category]) (Nat.le_of_ble_eq_true rfl) ?_
  show am_Good mi_53 0 [some (.ref 36), some (.retAddr s), some (.retAddr t)] [] (hn_ c1 c2 c3 pl he fr wo se go) _
  refine g_iload_n (i := 1) dd_53_0 rfl ?_
  refine g_iload_n (i := 2) dd_53_1 rfl ?_
  refine g_static (M' := mi_35) (n := 2) (as := [.retAddr s, .retAddr t]) (st := []) (r1 := (some (.retAddr 1), (hn_ c1 c2 c3 pl he fr wo se go))) w_466 w_467 ⟨lk_35.1, lk_35.2.1, lk_35.2.2, by decide, by decide⟩ rfl (by simp [Value.category]) dd_53_2 (ng_there s t (by omega) (by omega)) ?_
  show am_Good mi_53 5 [some (.ref 36), some (.retAddr s), some (.retAddr t)] [.retAddr 1] (hn_ c1 c2 c3 pl he fr wo se go) _
  refine g_if_eq_f (t := 26) dd_53_5 (by decide) (by decide) ?_
  refine g_aload_n (i := 0) dd_53_8 rfl ?_
  refine g_getfield (k := 2) am_ck9 (by decide) (Or.inl w_155) dd_53_9 rfl rfl ?_
  refine g_iload_n (i := 1) dd_53_12 rfl ?_
  refine g_bipush dd_53_13 bi_60 ?_
  refine e_imul (v := s * 60) dd_53_15 (by omega) ?_
  refine g_iload_n (i := 2) dd_53_16 rfl ?_
  refine e_iadd (v := (s * 60) + t) dd_53_17 (by omega) ?_
  refine g_iaload dd_53_18 rfl (by omega) (by decide) ?_
  have hl_1 := am_ag_lt c3 ((s * 60) + t)
  refine g_if_eq_f (t := 26) dd_53_19 (by decide) (tk_eq_f (by omega)) ?_
  refine g_iconst dd_53_22 ic_1 ?_
  refine g_goto (t := 27) dd_53_23 (by decide) ?_
  exact g_zreturn rfl (by first | decide | omega) dd_53_27
theorem ng_ib_f {c1 c2 c3 pl he fr wo se go : Nat} {b : Nat} (s t : Nat) (hs : s < 2) (ht : t < 12) (hv : am_ag c3 (s * 60 + t) = b) (hb : b = 0) : am_EG mi_53 [.ref 36, .retAddr s, .retAddr t] (hn_ c1 c2 c3 pl he fr wo se go) (some (.retAddr 0), (hn_ c1 c2 c3 pl he fr wo se go)) := by
  refine am_enter (n := 0) tk_53.2.1 (by simp [Value.category]) (Nat.le_of_ble_eq_true rfl) ?_
  show am_Good mi_53 0 [some (.ref 36), some (.retAddr s), some (.retAddr t)] [] (hn_ c1 c2 c3 pl he fr wo se go) _
  refine g_iload_n (i := 1) dd_53_0 rfl ?_
  refine g_iload_n (i := 2) dd_53_1 rfl ?_
  refine g_static (M' := mi_35) (n := 2) (as := [.retAddr s, .retAddr t]) (st := []) (r1 := (some (.retAddr 1), (hn_ c1 c2 c3 pl he fr wo se go))) w_466 w_467 ⟨lk_35.1, lk_35.2.1, lk_35.2.2, by decide, by decide⟩ rfl (by simp [Value.category]) dd_53_2 (ng_there s t (by omega) (by omega)) ?_
  show am_Good mi_53 5 [some (.ref 36), some (.retAddr s), some (.retAddr t)] [.retAddr 1] (hn_ c1 c2 c3 pl he fr wo se go) _
  refine g_if_eq_f (t := 26) dd_53_5 (by decide) (by decide) ?_
  refine g_aload_n (i := 0) dd_53_8 rfl ?_
  refine g_getfield (k := 2) am_ck9 (by decide) (Or.inl w_155) dd_53_9 rfl rfl ?_
  refine g_iload_n (i := 1) dd_53_12 rfl ?_
  refine g_bipush dd_53_13 bi_60 ?_
  refine e_imul (v := s * 60) dd_53_15 (by omega) ?_
  refine g_iload_n (i := 2) dd_53_16 rfl ?_
  refine e_iadd (v := (s * 60) + t) dd_53_17 (by omega) ?_
  refine g_iaload dd_53_18 rfl (by omega) (by decide) ?_
  have hl_1 := am_ag_lt c3 ((s * 60) + t)
  refine g_if_eq_t (t := 26) dd_53_19 (by decide) (tk_eq_t (by omega)) ?_
  refine g_iconst dd_53_26 ic_0 ?_
  exact g_zreturn rfl (by first | decide | omega) dd_53_27
theorem ng_wof {c1 c2 c3 pl he fr wo se go : Nat} {w : Nat} (s t : Nat) (hs : s < 2) (ht : t < 12) (hv : am_ag c1 (s * 60 + t) = w) : am_EG mi_41 [.ref 36, .retAddr s, .retAddr t] (hn_ c1 c2 c3 pl he fr wo se go) (some (.retAddr w), (hn_ c1 c2 c3 pl he fr wo se go)) := by
  refine am_enter (n := 0) tk_41.2.1 (by simp [Value.category]) (Nat.le_of_ble_eq_true rfl) ?_
  show am_Good mi_41 0 [some (.ref 36), some (.retAddr s), some (.retAddr t)] [] (hn_ c1 c2 c3 pl he fr wo se go) _
  refine g_iload_n (i := 1) dd_41_0 rfl ?_
  refine g_iload_n (i := 2) dd_41_1 rfl ?_
  refine g_static (M' := mi_35) (n := 2) (as := [.retAddr s, .retAddr t]) (st := []) (r1 := (some (.retAddr 1), (hn_ c1 c2 c3 pl he fr wo se go))) w_466 w_467 ⟨lk_35.1, lk_35.2.1, lk_35.2.2, by decide, by decide⟩ rfl (by simp [Value.category]) dd_41_2 (ng_there s t (by omega) (by omega)) ?_
  show am_Good mi_41 5 [some (.ref 36), some (.retAddr s), some (.retAddr t)] [.retAddr 1] (hn_ c1 c2 c3 pl he fr wo se go) _
  refine g_if_eq_f (t := 22) dd_41_5 (by decide) (by decide) ?_
  refine g_aload_n (i := 0) dd_41_8 rfl ?_
  refine g_getfield (k := 0) am_ck9 (by decide) (Or.inl w_153) dd_41_9 rfl rfl ?_
  refine g_iload_n (i := 1) dd_41_12 rfl ?_
  refine g_bipush dd_41_13 bi_60 ?_
  refine e_imul (v := s * 60) dd_41_15 (by omega) ?_
  refine g_iload_n (i := 2) dd_41_16 rfl ?_
  refine e_iadd (v := (s * 60) + t) dd_41_17 (by omega) ?_
  refine g_iaload dd_41_18 rfl (by omega) (by decide) ?_
  have hl_1 := am_ag_lt c1 ((s * 60) + t)
  refine g_goto (t := 23) dd_41_19 (by decide) ?_
  rw [hv]
  exact g_ireturn rfl dd_41_23
theorem ng_fb {c1 c2 c3 pl he fr wo se go : Nat} (s t : Nat) (hs : s < 2) (ht : t < 12) : am_EG mi_68 [.ref 36, .retAddr s, .retAddr t] (hn_ c1 c2 c3 pl he fr wo se go) (some (.retAddr ((1 <<< (am_ag c2 (s * 60 + t) % 32)) % 4294967296 &&& 255)), (hn_ c1 c2 c3 pl he fr wo se go)) := by
  refine am_enter (n := 0) tk_68.2.1 (by simp [Value.category]) (Nat.le_of_ble_eq_true rfl) ?_
  show am_Good mi_68 0 [some (.ref 36), some (.retAddr s), some (.retAddr t)] [] (hn_ c1 c2 c3 pl he fr wo se go) _
  refine g_iload_n (i := 1) dd_68_0 rfl ?_
  refine g_iload_n (i := 2) dd_68_1 rfl ?_
  refine g_static (M' := mi_35) (n := 2) (as := [.retAddr s, .retAddr t]) (st := []) (r1 := (some (.retAddr 1), (hn_ c1 c2 c3 pl he fr wo se go))) w_466 w_467 ⟨lk_35.1, lk_35.2.1, lk_35.2.2, by decide, by decide⟩ rfl (by simp [Value.category]) dd_68_2 (ng_there s t (by omega) (by omega)) ?_
  show am_Good mi_68 5 [some (.ref 36), some (.retAddr s), some (.retAddr t)] [.retAddr 1] (hn_ c1 c2 c3 pl he fr wo se go) _
  refine g_if_eq_f (t := 28) dd_68_5 (by decide) (by decide) ?_
  refine g_iconst dd_68_8 ic_1 ?_
  refine g_aload_n (i := 0) dd_68_9 rfl ?_
  refine g_getfield (k := 1) am_ck9 (by decide) (Or.inl w_154) dd_68_10 rfl rfl ?_
  refine g_iload_n (i := 1) dd_68_13 rfl ?_
  refine g_bipush dd_68_14 bi_60 ?_
  refine e_imul (v := s * 60) dd_68_16 (by omega) ?_
  refine g_iload_n (i := 2) dd_68_17 rfl ?_
  refine e_iadd (v := (s * 60) + t) dd_68_18 (by omega) ?_
  refine g_iaload dd_68_19 rfl (by omega) (by decide) ?_
  have hl_1 := am_ag_lt c2 ((s * 60) + t)
  refine e_ishl (v := (1 <<< ((am_ag c2 ((s * 60) + t)) % 32)) % 4294967296) dd_68_20 rfl ?_
  refine g_sipush dd_68_21 si_255 ?_
  refine e_iand (v := (1 <<< ((am_ag c2 ((s * 60) + t)) % 32)) % 4294967296 &&& 255) dd_68_24 rfl ?_
  refine g_goto (t := 29) dd_68_25 (by decide) ?_
  exact g_ireturn rfl dd_68_29
theorem ng_put {c1 c2 c3 pl he fr wo se go : Nat} (s t : Nat) (hs : s < 2) (ht : t < 12) : am_EG mi_34 [.ref 36, .retAddr s, .retAddr t, .retAddr 0, .retAddr 8, .retAddr 1] (hn_ c1 c2 c3 pl he fr wo se go) (none, (hn_ (am_as c1 (s * 60 + t) 0) (am_as c2 (s * 60 + t) 8) (am_as c3 (s * 60 + t) 1) pl he fr wo se go)) := by
  refine am_enter (n := 1) tk_34.2.1 (by simp [Value.category]) (Nat.le_of_ble_eq_true rfl) ?_
  show am_Good mi_34 0 [some (.ref 36), some (.retAddr s), some (.retAddr t), some (.retAddr 0), some (.retAddr 8), some (.retAddr 1), none] [] (hn_ c1 c2 c3 pl he fr wo se go) _
  refine g_iload_n (i := 1) dd_34_0 rfl ?_
  refine g_iload_n (i := 2) dd_34_1 rfl ?_
  refine g_static (M' := mi_35) (n := 2) (as := [.retAddr s, .retAddr t]) (st := []) (r1 := (some (.retAddr 1), (hn_ c1 c2 c3 pl he fr wo se go))) w_466 w_467 ⟨lk_35.1, lk_35.2.1, lk_35.2.2, by decide, by decide⟩ rfl (by simp [Value.category]) dd_34_2 (ng_there s t (by omega) (by omega)) ?_
  show am_Good mi_34 5 [some (.ref 36), some (.retAddr s), some (.retAddr t), some (.retAddr 0), some (.retAddr 8), some (.retAddr 1), none] [.retAddr 1] (hn_ c1 c2 c3 pl he fr wo se go) _
  refine g_if_eq_f (t := 42) dd_34_5 (by decide) (by decide) ?_
  refine g_iload_n (i := 1) dd_34_8 rfl ?_
  refine g_bipush dd_34_9 bi_60 ?_
  refine e_imul (v := s * 60) dd_34_11 (by omega) ?_
  refine g_iload_n (i := 2) dd_34_12 rfl ?_
  refine e_iadd (v := (s * 60) + t) dd_34_13 (by omega) ?_
  refine g_istore dd_34_14 (am_nlb_ok rfl) (by decide) ?_
  refine g_aload_n (i := 0) dd_34_16 rfl ?_
  refine g_getfield (k := 0) am_ck9 (by decide) (Or.inl w_153) dd_34_17 rfl rfl ?_
  refine g_iload dd_34_20 rfl ?_
  refine g_iload_n (i := 3) dd_34_22 rfl ?_
  refine g_iastore dd_34_23 rfl (by omega) (by decide) ?_
  show am_Good mi_34 24 [some (.ref 36), some (.retAddr s), some (.retAddr t), some (.retAddr 0), some (.retAddr 8), some (.retAddr 1), some (.retAddr ((s * 60) + t))] [] (hn_ (am_as c1 ((s * 60) + t) 0) c2 c3 pl he fr wo se go) _
  refine g_aload_n (i := 0) dd_34_24 rfl ?_
  refine g_getfield (k := 1) am_ck9 (by decide) (Or.inl w_154) dd_34_25 rfl rfl ?_
  refine g_iload dd_34_28 rfl ?_
  refine g_iload dd_34_30 rfl ?_
  refine g_iastore dd_34_32 rfl (by omega) (by decide) ?_
  show am_Good mi_34 33 [some (.ref 36), some (.retAddr s), some (.retAddr t), some (.retAddr 0), some (.retAddr 8), some (.retAddr 1), some (.retAddr ((s * 60) + t))] [] (hn_ (am_as c1 ((s * 60) + t) 0) (am_as c2 ((s * 60) + t) 8) c3 pl he fr wo se go) _
  refine g_aload_n (i := 0) dd_34_33 rfl ?_
  refine g_getfield (k := 2) am_ck9 (by decide) (Or.inl w_155) dd_34_34 rfl rfl ?_
  refine g_iload dd_34_37 rfl ?_
  refine g_iload dd_34_39 rfl ?_
  refine g_iastore dd_34_41 rfl (by omega) (by decide) ?_
  show am_Good mi_34 42 [some (.ref 36), some (.retAddr s), some (.retAddr t), some (.retAddr 0), some (.retAddr 8), some (.retAddr 1), some (.retAddr ((s * 60) + t))] [] (hn_ (am_as c1 ((s * 60) + t) 0) (am_as c2 ((s * 60) + t) 8) (am_as c3 ((s * 60) + t) 1) pl he fr wo se go) _
  exact g_return rfl dd_34_42
theorem ng_dr_t {h : am_H} (z t s : Nat) (hE : ni_E z t s = 0) : am_EG mi_124 [.retAddr z, .retAddr t, .retAddr s] h (some (.retAddr 1), h) := by
  refine am_enter (n := 2) tk_124.2.1 (by simp [Value.category]) (Nat.le_of_ble_eq_true rfl) ?_
  show am_Good mi_124 0 [some (.retAddr z), some (.retAddr t), some (.retAddr s), none, none] [] h _
  refine g_ldc2 dd_124_0 w_896 ?_
  refine g_iload_n (i := 0) dd_124_3 rfl ?_
  refine g_i2l dd_124_4 ?_
  refine g_lmul dd_124_5 ?_
  refine g_ldc2 dd_124_6 w_897 ?_
  refine g_iload_n (i := 1) dd_124_9 rfl ?_
  refine g_i2l dd_124_10 ?_
  refine g_lmul dd_124_11 ?_
  refine g_ladd dd_124_12 ?_
  refine g_ldc2 dd_124_13 w_898 ?_
  refine g_iload_n (i := 2) dd_124_16 rfl ?_
  refine g_i2l dd_124_17 ?_
  refine g_lmul dd_124_18 ?_
  refine g_ladd dd_124_19 ?_
  refine g_lconst dd_124_20 ?_
  refine g_ladd dd_124_21 ?_
  refine g_lstore_n (i := 3) dd_124_22 (am_nlb_ok rfl) (by decide) ?_
  refine g_lload_n (i := 3) dd_124_23 rfl ?_
  refine g_lload_n (i := 3) dd_124_24 rfl ?_
  refine g_lmul dd_124_25 ?_
  refine g_ldc2 dd_124_26 w_899 ?_
  refine g_lrem dd_124_29 (by decide) ?_
  refine g_ldc2 dd_124_30 w_900 ?_
  refine g_lrem dd_124_33 (by decide) ?_
  refine g_lconst dd_124_34 ?_
  refine g_lcmp (v := 0) dd_124_35 (by show lg_cmp (ni_E z t s) (Int64.ofNat 0) = _; rw [hE]; rfl) ?_
  refine g_if_ne_f (t := 43) dd_124_36 (by decide) (by decide) ?_
  refine g_iconst dd_124_39 ic_1 ?_
  refine g_goto (t := 44) dd_124_40 (by decide) ?_
  exact g_zreturn rfl (by first | decide | omega) dd_124_44
theorem ng_dr_f {h : am_H} (z t s : Nat) (hE : ¬ ni_E z t s = 0) : am_EG mi_124 [.retAddr z, .retAddr t, .retAddr s] h (some (.retAddr 0), h) := by
  refine am_enter (n := 2) tk_124.2.1 (by simp [Value.category]) (Nat.le_of_ble_eq_true rfl) ?_
  show am_Good mi_124 0 [some (.retAddr z), some (.retAddr t), some (.retAddr s), none, none] [] h _
  obtain ⟨v, hv, hv0⟩ := ng_cmp hE
  refine g_ldc2 dd_124_0 w_896 ?_
  refine g_iload_n (i := 0) dd_124_3 rfl ?_
  refine g_i2l dd_124_4 ?_
  refine g_lmul dd_124_5 ?_
  refine g_ldc2 dd_124_6 w_897 ?_
  refine g_iload_n (i := 1) dd_124_9 rfl ?_
  refine g_i2l dd_124_10 ?_
  refine g_lmul dd_124_11 ?_
  refine g_ladd dd_124_12 ?_
  refine g_ldc2 dd_124_13 w_898 ?_
  refine g_iload_n (i := 2) dd_124_16 rfl ?_
  refine g_i2l dd_124_17 ?_
  refine g_lmul dd_124_18 ?_
  refine g_ladd dd_124_19 ?_
  refine g_lconst dd_124_20 ?_
  refine g_ladd dd_124_21 ?_
  refine g_lstore_n (i := 3) dd_124_22 (am_nlb_ok rfl) (by decide) ?_
  refine g_lload_n (i := 3) dd_124_23 rfl ?_
  refine g_lload_n (i := 3) dd_124_24 rfl ?_
  refine g_lmul dd_124_25 ?_
  refine g_ldc2 dd_124_26 w_899 ?_
  refine g_lrem dd_124_29 (by decide) ?_
  refine g_ldc2 dd_124_30 w_900 ?_
  refine g_lrem dd_124_33 (by decide) ?_
  refine g_lconst dd_124_34 ?_
  refine g_lcmp (v := v) dd_124_35 hv ?_
  refine g_if_ne_t (t := 43) dd_124_36 (by decide) (tk_ne_t (by omega)) ?_
  refine g_iconst dd_124_43 ic_0 ?_
  exact g_zreturn rfl (by first | decide | omega) dd_124_44
theorem ng_sn_t {r : am_R} {c1 c2 c3 pl he fr wo se go : Nat} {z s t : Nat} (hs : s < 2) (ht : t < 12) (hE : ni_E z t s = 0) (hg : am_Good mi_123 34 [some (.ref 36), some (.ref 4), some (.retAddr z), some (.retAddr s), some (.retAddr (t + 1))] [] (hn_ (am_as c1 (s * 60 + t) 0) (am_as c2 (s * 60 + t) 8) (am_as c3 (s * 60 + t) 1) pl he fr wo se go) r) : am_Good mi_123 34 [some (.ref 36), some (.ref 4), some (.retAddr z), some (.retAddr s), some (.retAddr t)] [] (hn_ c1 c2 c3 pl he fr wo se go) r := by
  refine g_iload dd_123_34 rfl ?_
  refine g_aload_n (i := 1) dd_123_36 rfl ?_
  refine g_getfield (k := 6) am_ck1 (by decide) (Or.inr ⟨_, w_109⟩) dd_123_37 rfl rfl ?_
  refine g_icmp_ge_f (t := 70) dd_123_40 (by decide) (tk_ge_f (by omega)) ?_
  refine g_iload_n (i := 2) dd_123_43 rfl ?_
  refine g_iload dd_123_44 rfl ?_
  refine g_iload_n (i := 3) dd_123_46 rfl ?_
  refine g_static (M' := mi_124) (n := 3) (as := [.retAddr z, .retAddr t, .retAddr s]) (st := []) (r1 := (some (.retAddr 1), (hn_ c1 c2 c3 pl he fr wo se go))) w_893 w_894 ⟨lk_124.1, lk_124.2.1, lk_124.2.2, by decide, by decide⟩ rfl (by simp [Value.category]) dd_123_47 (ng_dr_t z t s hE) ?_
  show am_Good mi_123 50 [some (.ref 36), some (.ref 4), some (.retAddr z), some (.retAddr s), some (.retAddr t)] [.retAddr 1] (hn_ c1 c2 c3 pl he fr wo se go) _
  refine g_if_eq_f (t := 64) dd_123_50 (by decide) (by decide) ?_
  refine g_aload_n (i := 0) dd_123_53 rfl ?_
  refine g_iload_n (i := 3) dd_123_54 rfl ?_
  refine g_iload dd_123_55 rfl ?_
  refine g_iconst dd_123_57 ic_0 ?_
  refine g_bipush dd_123_58 bi_8 ?_
  refine g_iconst dd_123_60 ic_1 ?_
  refine g_virtual (M' := mi_34) (n := 5) (ci := 9) (b := 36) (as := [.retAddr s, .retAddr t, .retAddr 0, .retAddr 8, .retAddr 1]) (st := []) (r1 := (none, (hn_ (am_as c1 (s * 60 + t) 0) (am_as c2 (s * 60 + t) 8) (am_as c3 (s * 60 + t) 1) pl he fr wo se go))) w_462 w_464 ps_34 ⟨lk_34.1, lk_34.2.1, lk_34.2.2, by decide, by decide⟩ rfl rfl rfl (by simp [Value.category]) dd_123_61 (ng_put s t (by omega) (by omega)) ?_
  show am_Good mi_123 64 [some (.ref 36), some (.ref 4), some (.retAddr z), some (.retAddr s), some (.retAddr t)] [] (hn_ (am_as c1 (s * 60 + t) 0) (am_as c2 (s * 60 + t) 8) (am_as c3 (s * 60 + t) 1) pl he fr wo se go) _
  refine e_iinc (v := 1) (w := t + 1) dd_123_64 rfl ic_1 (am_nlb_ok rfl) (by decide) (by omega) ?_
  refine g_goto (t := 34) dd_123_67 (by decide) ?_
  exact hg
theorem ng_sn_f {r : am_R} {c1 c2 c3 pl he fr wo se go : Nat} {z s t : Nat} (hs : s < 2) (ht : t < 12) (hE : ¬ ni_E z t s = 0) (hg : am_Good mi_123 34 [some (.ref 36), some (.ref 4), some (.retAddr z), some (.retAddr s), some (.retAddr (t + 1))] [] (hn_ c1 c2 c3 pl he fr wo se go) r) : am_Good mi_123 34 [some (.ref 36), some (.ref 4), some (.retAddr z), some (.retAddr s), some (.retAddr t)] [] (hn_ c1 c2 c3 pl he fr wo se go) r := by
  refine g_iload dd_123_34 rfl ?_
  refine g_aload_n (i := 1) dd_123_36 rfl ?_
  refine g_getfield (k := 6) am_ck1 (by decide) (Or.inr ⟨_, w_109⟩) dd_123_37 rfl rfl ?_
  refine g_icmp_ge_f (t := 70) dd_123_40 (by decide) (tk_ge_f (by omega)) ?_
  refine g_iload_n (i := 2) dd_123_43 rfl ?_
  refine g_iload dd_123_44 rfl ?_
  refine g_iload_n (i := 3) dd_123_46 rfl ?_
  refine g_static (M' := mi_124) (n := 3) (as := [.retAddr z, .retAddr t, .retAddr s]) (st := []) (r1 := (some (.retAddr 0), (hn_ c1 c2 c3 pl he fr wo se go))) w_893 w_894 ⟨lk_124.1, lk_124.2.1, lk_124.2.2, by decide, by decide⟩ rfl (by simp [Value.category]) dd_123_47 (ng_dr_f z t s hE) ?_
  show am_Good mi_123 50 [some (.ref 36), some (.ref 4), some (.retAddr z), some (.retAddr s), some (.retAddr t)] [.retAddr 0] (hn_ c1 c2 c3 pl he fr wo se go) _
  refine g_if_eq_t (t := 64) dd_123_50 (by decide) (by decide) ?_
  refine e_iinc (v := 1) (w := t + 1) dd_123_64 rfl ic_1 (am_nlb_ok rfl) (by decide) (by omega) ?_
  refine g_goto (t := 34) dd_123_67 (by decide) ?_
  exact hg
theorem ng_inner {r : am_R} {z s pl he fr wo se go : Nat} (hs : s < 2) : ∀ (m t c1 c2 c3 : Nat), t + m = 12 → am_Good mi_123 70 [some (.ref 36), some (.ref 4), some (.retAddr z), some (.retAddr s), some (.retAddr 12)] [] (hn_ (mp_ (fx_ z s 0) m (s * 60 + t) c1) (mp_ (fx_ z s 8) m (s * 60 + t) c2) (mp_ (fx_ z s 1) m (s * 60 + t) c3) pl he fr wo se go) r → am_Good mi_123 34 [some (.ref 36), some (.ref 4), some (.retAddr z), some (.retAddr s), some (.retAddr t)] [] (hn_ c1 c2 c3 pl he fr wo se go) r
  | 0, t, c1, c2, c3, ht, hg => by
    have e : t = 12 := by omega
    subst e
    refine g_iload dd_123_34 rfl ?_
    refine g_aload_n (i := 1) dd_123_36 rfl ?_
    refine g_getfield (k := 6) am_ck1 (by decide) (Or.inr ⟨_, w_109⟩) dd_123_37 rfl rfl ?_
    refine g_icmp_ge_t (t := 70) dd_123_40 (by decide) (by decide) ?_
    exact hg
  | m + 1, t, c1, c2, c3, ht, hg => by
    by_cases hE : ni_E z t s = 0
    · rw [mpx_t hE, mpx_t hE, mpx_t hE] at hg
      exact ng_sn_t hs (by omega) hE (ng_inner hs m (t + 1) _ _ _ (by omega) hg)
    · rw [mpx_f hE, mpx_f hE, mpx_f hE] at hg
      exact ng_sn_f hs (by omega) hE (ng_inner hs m (t + 1) _ _ _ (by omega) hg)
def hx_3001 : am_H := (93, 71397, [[xc_0, xc_1, xc_2, xc_3, xc_4, xc_5, xc_6, xc_7], [xc_8, xc_9, xc_10, xc_11, xc_12, xc_13, xc_14, xc_15], [xc_16, xc_17, xc_18, xc_19, xc_20, xc_21, xc_22, xc_23], [xc_24, xc_25, xc_26, xc_27, xc_28, xc_29, xc_30, xc_31], [xc_32, xc_33, xc_34, xc_35, xc_36, .inl (0, 240, 0x30000000300000003000000030000000300000003000000030000000300000003000000030000000300000003000000030000000300000003000000030000000300000003000000030000000300000003000000030000000300000003000000030000000300000003000000030000000300000003000000030000000300000003000000030000000300000003000000030000000300000003000000030000000300000003000000030000000300000003000000030000000300000003000000030000000300000003000000030000000300000003000000030000000300000003000000030000000300000003000000020000000200000002000000020000000200000002000000020000000200000002000000020000000200000002000000020000000200000002000000020000000200000002000000020000000200000002000000020000000200000002000000020000000200000002000000020000000200000002000000020000000200000002000000020000000200000002000000020000000200000002000000020000000200000002000000020000000200000002000000020000000200000002000000020000000200000002000000020000000200000002000000020000000200000002000000020000000200000002), .inl (0, 240, 0x80000000800000008000000080000000800000008000000080000000800000008000000080000000800000008000000080000000800000008000000080000000800000008000000080000000800000008000000080000000800000008000000080000000800000008000000080000000800000008000000080000000800000008000000080000000800000008000000080000000800000008000000080000000800000008000000080000000800000008000000080000000800000008000000080000000800000008000000080000000800000008000000080000000800000008000000080000000800000008000000080000000800000008000000080000000800000008000000080000000800000008000000080000000800000008000000080000000800000008000000080000000800000008000000080000000800000008000000080000000800000008000000080000000800000008000000080000000800000008000000080000000800000008000000080000000800000008000000080000000800000008000000080000000800000008000000080000000800000008000000080000000800000008000000080000000800000008000000080000000800000008000000080000000800000008000000080000000800000008), xc_39], [xc_40, xc_41, xc_42, xc_43, xc_44, xc_45, xc_46, xc_47], [xc_48, xc_49, xc_50, xc_51, xc_52, xc_53, xc_54, xc_55], [xc_56, xc_57, xc_58, xc_59, xc_60, xc_61, xc_62, xc_63], [xc_64, xc_65, mc_66, mc_67, mc_68, mc_69, mc_70, mc_71], [mc_72, mc_73, mc_74, mc_75, mc_76, mc_77, mc_78, mc_79], [mc_80, mc_81, mc_82, mc_83, mc_84, mc_85, mc_86, mc_87], [mc_88, mc_89, mc_90, mc_91, mc_92]])
theorem eg_ngst : am_EG mi_33 [.ref 36, .ref 5] hp_0 (none, hx_3001) := am_runs (d := 9) (j := 33) (by decide +kernel)
def hx_3002 : am_H := (93, 71397, [[xc_0, xc_1, xc_2, xc_3, xc_4, xc_5, xc_6, xc_7], [xc_8, xc_9, xc_10, xc_11, xc_12, xc_13, xc_14, xc_15], [xc_16, xc_17, xc_18, xc_19, xc_20, xc_21, xc_22, xc_23], [xc_24, xc_25, xc_26, xc_27, xc_28, xc_29, xc_30, xc_31], [xc_32, xc_33, xc_34, xc_35, xc_36, .inl (0, 240, 0x30000000300000003000000030000000300000003000000030000000300000003000000030000000300000003000000030000000300000003000000030000000300000003000000030000000300000003000000030000000300000003000000030000000300000003000000030000000300000003000000030000000300000003000000030000000300000003000000030000000300000003000000030000000300000003000000030000000300000003000000030000000300000003000000030000000300000003000000030000000300000003000000090000000300000003000000030000000300000003000000020000000200000002000000020000000200000002000000020000000200000002000000020000000200000002000000020000000200000002000000020000000200000002000000020000000200000002000000020000000200000002000000020000000200000002000000020000000200000002000000020000000200000002000000020000000200000002000000020000000200000002000000020000000200000002000000020000000200000002000000020000000200000002000000020000000200000002000000020000000200000002000000020000000700000007000000070000000200000002), .inl (0, 240, 0x80000000800000008000000080000000800000008000000080000000800000008000000080000000800000008000000080000000800000008000000080000000800000008000000080000000800000008000000080000000800000008000000080000000800000008000000080000000800000008000000080000000800000008000000080000000800000008000000080000000800000008000000080000000800000008000000080000000800000008000000080000000800000008000000080000000800000008000000080000000800000008000000010000000800000008000000080000000800000008000000080000000800000008000000080000000800000008000000080000000800000008000000080000000800000008000000080000000800000008000000080000000800000008000000080000000800000008000000080000000800000008000000080000000800000008000000080000000800000008000000080000000800000008000000080000000800000008000000080000000800000008000000080000000800000008000000080000000800000008000000080000000800000008000000080000000800000008000000080000000800000008000000080000000000000000000000000000000800000008), xc_39], [xc_40, xc_41, xc_42, xc_43, xc_44, xc_45, xc_46, xc_47], [xc_48, xc_49, xc_50, xc_51, xc_52, xc_53, xc_54, xc_55], [xc_56, xc_57, xc_58, xc_59, xc_60, xc_61, xc_62, xc_63], [xc_64, xc_65, mc_66, mc_67, mc_68, mc_69, mc_70, mc_71], [mc_72, mc_73, mc_74, mc_75, mc_76, mc_77, mc_78, mc_79], [mc_80, mc_81, mc_82, mc_83, mc_84, mc_85, mc_86, mc_87], [mc_88, mc_89, mc_90, mc_91, mc_92]])
theorem eg_ngsc : am_EG mi_36 [.ref 36, .ref 7, .retAddr 4294967292] hx_3001 (none, hx_3002) := am_runs (d := 9) (j := 36) (by decide +kernel)
def nx_1 : Nat := 0x30000000300000003000000030000000300000003000000030000000300000003000000030000000300000003000000030000000300000003000000030000000300000003000000030000000300000003000000030000000300000003000000030000000300000003000000030000000300000003000000030000000300000003000000030000000300000003000000030000000300000003000000030000000300000003000000030000000300000003000000030000000300000003000000030000000300000003000000030000000300000003000000090000000300000003000000030000000300000003000000020000000200000002000000020000000200000002000000020000000200000002000000020000000200000002000000020000000200000002000000020000000200000002000000020000000200000002000000020000000200000002000000020000000200000002000000020000000200000002000000020000000200000002000000020000000200000002000000020000000200000002000000020000000200000002000000020000000200000002000000020000000200000002000000020000000200000002000000020000000200000002000000020000000700000007000000070000000200000002
def nx_2 : Nat := 0x80000000800000008000000080000000800000008000000080000000800000008000000080000000800000008000000080000000800000008000000080000000800000008000000080000000800000008000000080000000800000008000000080000000800000008000000080000000800000008000000080000000800000008000000080000000800000008000000080000000800000008000000080000000800000008000000080000000800000008000000080000000800000008000000080000000800000008000000080000000800000008000000010000000800000008000000080000000800000008000000080000000800000008000000080000000800000008000000080000000800000008000000080000000800000008000000080000000800000008000000080000000800000008000000080000000800000008000000080000000800000008000000080000000800000008000000080000000800000008000000080000000800000008000000080000000800000008000000080000000800000008000000080000000800000008000000080000000800000008000000080000000800000008000000080000000800000008000000080000000800000008000000080000000000000000000000000000000800000008
def nx_3 : Nat := 0x0
theorem ng_h0 : (hn_ 0 0 0 0 0 0 0 0 0) = hp_0 := rfl
theorem ng_h1 : (hn_ nx_1 nx_2 nx_3 0 0 0 0 0 0) = hx_3002 := rfl
theorem ng_show (z : Nat) : am_EG mi_123 [.ref 36, .ref 4, .retAddr z] hp_0 (none, (hn_ (nz_ z 0 nx_1) (nz_ z 8 nx_2) (nz_ z 1 nx_3) 0 0 0 0 0 0)) := by
  refine am_enter (n := 2) tk_123.2.1 (by simp [Value.category]) (Nat.le_of_ble_eq_true rfl) ?_
  show am_Good mi_123 0 [some (.ref 36), some (.ref 4), some (.retAddr z), none, none] [] hp_0 _
  refine g_aload_n (i := 0) dd_123_0 rfl ?_
  refine g_aload_n (i := 1) dd_123_1 rfl ?_
  refine g_getfield (k := 0) am_ck1 (by decide) (Or.inr ⟨_, w_80⟩) dd_123_2 rfl rfl ?_
  refine g_virtual (M' := mi_33) (n := 1) (ci := 9) (b := 36) (as := [.ref 5]) (st := []) (r1 := (none, hx_3001)) w_457 w_459 ps_33 ⟨lk_33.1, lk_33.2.1, lk_33.2.2, by decide, by decide⟩ rfl rfl rfl (by simp [Value.category]) dd_123_5 (eg_ngst) ?_
  show am_Good mi_123 8 [some (.ref 36), some (.ref 4), some (.retAddr z), none, none] [] hx_3001 _
  refine g_aload_n (i := 0) dd_123_8 rfl ?_
  refine g_aload_n (i := 1) dd_123_9 rfl ?_
  refine g_getfield (k := 1) am_ck1 (by decide) (Or.inr ⟨_, w_87⟩) dd_123_10 rfl rfl ?_
  refine g_bipush dd_123_13 bi_m4 ?_
  refine g_virtual (M' := mi_36) (n := 2) (ci := 9) (b := 36) (as := [.ref 7, .retAddr 4294967292]) (st := []) (r1 := (none, (hn_ nx_1 nx_2 nx_3 0 0 0 0 0 0))) w_469 w_471 ps_36 ⟨lk_36.1, lk_36.2.1, lk_36.2.2, by decide, by decide⟩ rfl rfl rfl (by simp [Value.category]) dd_123_15 (eg_ngsc) ?_
  show am_Good mi_123 18 [some (.ref 36), some (.ref 4), some (.retAddr z), none, none] [] (hn_ nx_1 nx_2 nx_3 0 0 0 0 0 0) _
  refine g_iconst dd_123_18 ic_0 ?_
  refine g_istore_n (i := 3) dd_123_19 (am_nlb_ok rfl) (by decide) ?_
  refine g_iload_n (i := 3) dd_123_20 rfl ?_
  refine g_aload_n (i := 1) dd_123_21 rfl ?_
  refine g_getfield (k := 0) am_ck1 (by decide) (Or.inr ⟨_, w_80⟩) dd_123_22 rfl rfl ?_
  refine g_getfield (k := 3) am_ck8 (by decide) (Or.inr ⟨_, w_63⟩) dd_123_25 rfl rfl ?_
  refine g_icmp_ge_f (t := 76) dd_123_28 (by decide) (by decide) ?_
  refine g_iconst dd_123_31 ic_0 ?_
  refine g_istore dd_123_32 (am_nlb_ok rfl) (by decide) ?_
  refine ng_inner (s := 0) (by decide) 12 0 nx_1 nx_2 nx_3 (by decide) ?_
  refine e_iinc (v := 1) (w := 1) dd_123_70 rfl ic_1 (am_nlb_ok rfl) (by decide) (by omega) ?_
  refine g_goto (t := 20) dd_123_73 (by decide) ?_
  refine g_iload_n (i := 3) dd_123_20 rfl ?_
  refine g_aload_n (i := 1) dd_123_21 rfl ?_
  refine g_getfield (k := 0) am_ck1 (by decide) (Or.inr ⟨_, w_80⟩) dd_123_22 rfl rfl ?_
  refine g_getfield (k := 3) am_ck8 (by decide) (Or.inr ⟨_, w_63⟩) dd_123_25 rfl rfl ?_
  refine g_icmp_ge_f (t := 76) dd_123_28 (by decide) (by decide) ?_
  refine g_iconst dd_123_31 ic_0 ?_
  refine g_istore dd_123_32 (am_nlb_ok rfl) (by decide) ?_
  refine ng_inner (s := 1) (by decide) 12 0 _ _ _ (by decide) ?_
  refine e_iinc (v := 1) (w := 2) dd_123_70 rfl ic_1 (am_nlb_ok rfl) (by decide) (by omega) ?_
  refine g_goto (t := 20) dd_123_73 (by decide) ?_
  refine g_iload_n (i := 3) dd_123_20 rfl ?_
  refine g_aload_n (i := 1) dd_123_21 rfl ?_
  refine g_getfield (k := 0) am_ck1 (by decide) (Or.inr ⟨_, w_80⟩) dd_123_22 rfl rfl ?_
  refine g_getfield (k := 3) am_ck8 (by decide) (Or.inr ⟨_, w_63⟩) dd_123_25 rfl rfl ?_
  refine g_icmp_ge_t (t := 76) dd_123_28 (by decide) (by decide) ?_
  exact g_return rfl dd_123_76
theorem ng_unb0 {c1 c2 c3 pl fr wo se go t b0 b1 : Nat} (ht : t < 12) (hb0 : am_ag c3 (0 * 60 + t) = b0) (hb1 : am_ag c3 (1 * 60 + t) = b1) : am_EG mi_73 [.ref 40, .ref 36, .retAddr 2, .retAddr t] (hn_ c1 c2 c3 pl 0 fr wo se go) (some (.retAddr (ov_ 0 b0 b1)), (hn_ c1 c2 c3 pl 0 fr wo se go)) := by
  refine am_enter (n := 2) tk_73.2.1 (by simp [Value.category]) (Nat.le_of_ble_eq_true rfl) ?_
  show am_Good mi_73 0 [some (.ref 40), some (.ref 36), some (.retAddr 2), some (.retAddr t), none, none] [] (hn_ c1 c2 c3 pl 0 fr wo se go) _
  refine g_aload_n (i := 0) dd_73_0 rfl ?_
  refine g_getfield (k := 2) am_ck10 (by decide) (Or.inl w_171) dd_73_1 rfl rfl ?_
  refine g_istore dd_73_4 (am_nlb_ok rfl) (by decide) ?_
  refine g_iconst dd_73_6 ic_0 ?_
  refine g_istore dd_73_7 (am_nlb_ok rfl) (by decide) ?_
  refine g_iload dd_73_9 rfl ?_
  refine g_iload_n (i := 2) dd_73_11 rfl ?_
  refine g_icmp_ge_f (t := 52) dd_73_12 (by decide) (by decide) ?_
  refine g_aload_n (i := 1) dd_73_15 rfl ?_
  refine g_iload dd_73_16 rfl ?_
  refine g_iload_n (i := 3) dd_73_18 rfl ?_
  by_cases hz0 : b0 = 0
  · refine g_virtual (M' := mi_53) (n := 2) (ci := 9) (b := 36) (as := [.retAddr 0, .retAddr t]) (st := []) (r1 := (some (.retAddr 0), (hn_ c1 c2 c3 pl 0 fr wo se go))) w_679 w_594 w_595 ⟨lk_53.1, lk_53.2.1, lk_53.2.2, by decide, by decide⟩ rfl rfl rfl (by simp [Value.category]) dd_73_19 (ng_ib_f 0 t (by decide) (by omega) hb0 hz0) ?_
    show am_Good mi_73 22 [some (.ref 40), some (.ref 36), some (.retAddr 2), some (.retAddr t), some (.retAddr 0), some (.retAddr 0)] [.retAddr 0] (hn_ c1 c2 c3 pl 0 fr wo se go) _
    refine g_if_ne_f (t := 28) dd_73_22 (by decide) (by decide) ?_
    refine g_iload dd_73_25 rfl ?_
    rw [show ov_ 0 b0 b1 = 0 from by unfold ov_; simp [hz0]]
    exact g_ireturn rfl dd_73_27
  · refine g_virtual (M' := mi_53) (n := 2) (ci := 9) (b := 36) (as := [.retAddr 0, .retAddr t]) (st := []) (r1 := (some (.retAddr 1), (hn_ c1 c2 c3 pl 0 fr wo se go))) w_679 w_594 w_595 ⟨lk_53.1, lk_53.2.1, lk_53.2.2, by decide, by decide⟩ rfl rfl rfl (by simp [Value.category]) dd_73_19 (ng_ib_t 0 t (by decide) (by omega) hb0 hz0) ?_
    show am_Good mi_73 22 [some (.ref 40), some (.ref 36), some (.retAddr 2), some (.retAddr t), some (.retAddr 0), some (.retAddr 0)] [.retAddr 1] (hn_ c1 c2 c3 pl 0 fr wo se go) _
    refine g_if_ne_t (t := 28) dd_73_22 (by decide) (by decide) ?_
    refine g_iload dd_73_28 rfl ?_
    refine g_iconst dd_73_30 ic_1 ?_
    refine e_iadd (v := 1) dd_73_31 (by decide) ?_
    refine g_iload_n (i := 2) dd_73_32 rfl ?_
    refine g_icmp_ge_f (t := 43) dd_73_33 (by decide) (by decide) ?_
    refine g_iload dd_73_36 rfl ?_
    refine g_iconst dd_73_38 ic_1 ?_
    refine e_iadd (v := 1) dd_73_39 (by decide) ?_
    refine g_goto (t := 44) dd_73_40 (by decide) ?_
    refine g_istore dd_73_44 (am_nlb_ok rfl) (by decide) ?_
    refine e_iinc (v := 1) (w := 1) dd_73_46 rfl ic_1 (am_nlb_ok rfl) (by decide) (by omega) ?_
    refine g_goto (t := 9) dd_73_49 (by decide) ?_
    refine g_iload dd_73_9 rfl ?_
    refine g_iload_n (i := 2) dd_73_11 rfl ?_
    refine g_icmp_ge_f (t := 52) dd_73_12 (by decide) (by decide) ?_
    refine g_aload_n (i := 1) dd_73_15 rfl ?_
    refine g_iload dd_73_16 rfl ?_
    refine g_iload_n (i := 3) dd_73_18 rfl ?_
    by_cases hz1 : b1 = 0
    · refine g_virtual (M' := mi_53) (n := 2) (ci := 9) (b := 36) (as := [.retAddr 1, .retAddr t]) (st := []) (r1 := (some (.retAddr 0), (hn_ c1 c2 c3 pl 0 fr wo se go))) w_679 w_594 w_595 ⟨lk_53.1, lk_53.2.1, lk_53.2.2, by decide, by decide⟩ rfl rfl rfl (by simp [Value.category]) dd_73_19 (ng_ib_f 1 t (by decide) (by omega) hb1 hz1) ?_
      show am_Good mi_73 22 [some (.ref 40), some (.ref 36), some (.retAddr 2), some (.retAddr t), some (.retAddr 1), some (.retAddr 1)] [.retAddr 0] (hn_ c1 c2 c3 pl 0 fr wo se go) _
      refine g_if_ne_f (t := 28) dd_73_22 (by decide) (by decide) ?_
      refine g_iload dd_73_25 rfl ?_
      rw [show ov_ 0 b0 b1 = 1 from by unfold ov_; simp [hz0, hz1]]
      exact g_ireturn rfl dd_73_27
    · refine g_virtual (M' := mi_53) (n := 2) (ci := 9) (b := 36) (as := [.retAddr 1, .retAddr t]) (st := []) (r1 := (some (.retAddr 1), (hn_ c1 c2 c3 pl 0 fr wo se go))) w_679 w_594 w_595 ⟨lk_53.1, lk_53.2.1, lk_53.2.2, by decide, by decide⟩ rfl rfl rfl (by simp [Value.category]) dd_73_19 (ng_ib_t 1 t (by decide) (by omega) hb1 hz1) ?_
      show am_Good mi_73 22 [some (.ref 40), some (.ref 36), some (.retAddr 2), some (.retAddr t), some (.retAddr 1), some (.retAddr 1)] [.retAddr 1] (hn_ c1 c2 c3 pl 0 fr wo se go) _
      refine g_if_ne_t (t := 28) dd_73_22 (by decide) (by decide) ?_
      refine g_iload dd_73_28 rfl ?_
      refine g_iconst dd_73_30 ic_1 ?_
      refine e_iadd (v := 2) dd_73_31 (by decide) ?_
      refine g_iload_n (i := 2) dd_73_32 rfl ?_
      refine g_icmp_ge_t (t := 43) dd_73_33 (by decide) (by decide) ?_
      refine g_iconst dd_73_43 ic_0 ?_
      refine g_istore dd_73_44 (am_nlb_ok rfl) (by decide) ?_
      refine e_iinc (v := 1) (w := 2) dd_73_46 rfl ic_1 (am_nlb_ok rfl) (by decide) (by omega) ?_
      refine g_goto (t := 9) dd_73_49 (by decide) ?_
      refine g_iload dd_73_9 rfl ?_
      refine g_iload_n (i := 2) dd_73_11 rfl ?_
      refine g_icmp_ge_t (t := 52) dd_73_12 (by decide) (by decide) ?_
      refine g_aload_n (i := 0) dd_73_52 rfl ?_
      refine g_getfield (k := 2) am_ck10 (by decide) (Or.inl w_171) dd_73_53 rfl rfl ?_
      rw [show ov_ 0 b0 b1 = 0 from by unfold ov_; simp [hz0, hz1]]
      exact g_ireturn rfl dd_73_56
theorem ng_wor0 {c1 c2 c3 pl fr wo se go t w0 w1 : Nat} (ht : t < 12) (hw0 : am_ag c1 (0 * 60 + t) = w0) (hw1 : am_ag c1 (1 * 60 + t) = w1) (h90 : w0 ≤ 9) (h91 : w1 ≤ 9) : am_EG mi_74 [.ref 40, .ref 36, .retAddr 2, .retAddr t] (hn_ c1 c2 c3 pl 0 fr wo se go) (some (.retAddr (be_ 0 w0 w1)), (hn_ c1 c2 c3 pl 0 fr wo se go)) := by
  refine am_enter (n := 2) tk_74.2.1 (by simp [Value.category]) (Nat.le_of_ble_eq_true rfl) ?_
  show am_Good mi_74 0 [some (.ref 40), some (.ref 36), some (.retAddr 2), some (.retAddr t), none, none] [] (hn_ c1 c2 c3 pl 0 fr wo se go) _
  refine g_aload_n (i := 0) dd_74_0 rfl ?_
  refine g_getfield (k := 2) am_ck10 (by decide) (Or.inl w_171) dd_74_1 rfl rfl ?_
  refine g_istore dd_74_4 (am_nlb_ok rfl) (by decide) ?_
  refine g_iconst dd_74_6 ic_0 ?_
  refine g_istore dd_74_7 (am_nlb_ok rfl) (by decide) ?_
  refine g_iload dd_74_9 rfl ?_
  refine g_iload_n (i := 2) dd_74_11 rfl ?_
  refine g_icmp_ge_f (t := 42) dd_74_12 (by decide) (by decide) ?_
  refine g_aload_n (i := 1) dd_74_15 rfl ?_
  refine g_iload dd_74_16 rfl ?_
  refine g_iload_n (i := 3) dd_74_18 rfl ?_
  refine g_virtual (M' := mi_41) (n := 2) (ci := 9) (b := 36) (as := [.retAddr 0, .retAddr t]) (st := []) (r1 := (some (.retAddr w0), (hn_ c1 c2 c3 pl 0 fr wo se go))) w_653 w_491 w_492 ⟨lk_41.1, lk_41.2.1, lk_41.2.2, by decide, by decide⟩ rfl rfl rfl (by simp [Value.category]) dd_74_19 (ng_wof 0 t (by decide) (by omega) hw0) ?_
  show am_Good mi_74 22 [some (.ref 40), some (.ref 36), some (.retAddr 2), some (.retAddr t), some (.retAddr 0), some (.retAddr 0)] [.retAddr w0] (hn_ c1 c2 c3 pl 0 fr wo se go) _
  refine g_aload_n (i := 1) dd_74_22 rfl ?_
  refine g_iload dd_74_23 rfl ?_
  refine g_iload_n (i := 3) dd_74_25 rfl ?_
  refine g_virtual (M' := mi_41) (n := 2) (ci := 9) (b := 36) (as := [.retAddr 0, .retAddr t]) (st := [.retAddr w0]) (r1 := (some (.retAddr w0), (hn_ c1 c2 c3 pl 0 fr wo se go))) w_653 w_491 w_492 ⟨lk_41.1, lk_41.2.1, lk_41.2.2, by decide, by decide⟩ rfl rfl rfl (by simp [Value.category]) dd_74_26 (ng_wof 0 t (by decide) (by omega) hw0) ?_
  show am_Good mi_74 29 [some (.ref 40), some (.ref 36), some (.retAddr 2), some (.retAddr t), some (.retAddr 0), some (.retAddr 0)] [.retAddr w0, .retAddr w0] (hn_ c1 c2 c3 pl 0 fr wo se go) _
  refine g_icmp_le_t (t := 36) dd_74_29 (by decide) (tk_le_t (by omega)) ?_
  refine e_iinc (v := 1) (w := 1) dd_74_36 rfl ic_1 (am_nlb_ok rfl) (by decide) (by omega) ?_
  refine g_goto (t := 9) dd_74_39 (by decide) ?_
  refine g_iload dd_74_9 rfl ?_
  refine g_iload_n (i := 2) dd_74_11 rfl ?_
  refine g_icmp_ge_f (t := 42) dd_74_12 (by decide) (by decide) ?_
  refine g_aload_n (i := 1) dd_74_15 rfl ?_
  refine g_iload dd_74_16 rfl ?_
  refine g_iload_n (i := 3) dd_74_18 rfl ?_
  refine g_virtual (M' := mi_41) (n := 2) (ci := 9) (b := 36) (as := [.retAddr 1, .retAddr t]) (st := []) (r1 := (some (.retAddr w1), (hn_ c1 c2 c3 pl 0 fr wo se go))) w_653 w_491 w_492 ⟨lk_41.1, lk_41.2.1, lk_41.2.2, by decide, by decide⟩ rfl rfl rfl (by simp [Value.category]) dd_74_19 (ng_wof 1 t (by decide) (by omega) hw1) ?_
  show am_Good mi_74 22 [some (.ref 40), some (.ref 36), some (.retAddr 2), some (.retAddr t), some (.retAddr 0), some (.retAddr 1)] [.retAddr w1] (hn_ c1 c2 c3 pl 0 fr wo se go) _
  refine g_aload_n (i := 1) dd_74_22 rfl ?_
  refine g_iload dd_74_23 rfl ?_
  refine g_iload_n (i := 3) dd_74_25 rfl ?_
  refine g_virtual (M' := mi_41) (n := 2) (ci := 9) (b := 36) (as := [.retAddr 0, .retAddr t]) (st := [.retAddr w1]) (r1 := (some (.retAddr w0), (hn_ c1 c2 c3 pl 0 fr wo se go))) w_653 w_491 w_492 ⟨lk_41.1, lk_41.2.1, lk_41.2.2, by decide, by decide⟩ rfl rfl rfl (by simp [Value.category]) dd_74_26 (ng_wof 0 t (by decide) (by omega) hw0) ?_
  show am_Good mi_74 29 [some (.ref 40), some (.ref 36), some (.retAddr 2), some (.retAddr t), some (.retAddr 0), some (.retAddr 1)] [.retAddr w0, .retAddr w1] (hn_ c1 c2 c3 pl 0 fr wo se go) _
  by_cases hc : w0 < w1
  · refine g_icmp_le_f (t := 36) dd_74_29 (by decide) (tk_le_f (by omega)) ?_
    refine g_iload dd_74_32 rfl ?_
    refine g_istore dd_74_34 (am_nlb_ok rfl) (by decide) ?_
    refine e_iinc (v := 1) (w := 2) dd_74_36 rfl ic_1 (am_nlb_ok rfl) (by decide) (by omega) ?_
    refine g_goto (t := 9) dd_74_39 (by decide) ?_
    refine g_iload dd_74_9 rfl ?_
    refine g_iload_n (i := 2) dd_74_11 rfl ?_
    refine g_icmp_ge_t (t := 42) dd_74_12 (by decide) (by decide) ?_
    refine g_iload dd_74_42 rfl ?_
    rw [show be_ 0 w0 w1 = 1 from by unfold be_; simp [hc]]
    exact g_ireturn rfl dd_74_44
  · refine g_icmp_le_t (t := 36) dd_74_29 (by decide) (tk_le_t (by omega)) ?_
    refine e_iinc (v := 1) (w := 2) dd_74_36 rfl ic_1 (am_nlb_ok rfl) (by decide) (by omega) ?_
    refine g_goto (t := 9) dd_74_39 (by decide) ?_
    refine g_iload dd_74_9 rfl ?_
    refine g_iload_n (i := 2) dd_74_11 rfl ?_
    refine g_icmp_ge_t (t := 42) dd_74_12 (by decide) (by decide) ?_
    refine g_iload dd_74_42 rfl ?_
    rw [show be_ 0 w0 w1 = 0 from by unfold be_; simp [hc]]
    exact g_ireturn rfl dd_74_44
theorem ng_unb1 {c1 c2 c3 pl fr wo se go t b0 b1 : Nat} (ht : t < 12) (hb0 : am_ag c3 (0 * 60 + t) = b0) (hb1 : am_ag c3 (1 * 60 + t) = b1) : am_EG mi_73 [.ref 40, .ref 36, .retAddr 2, .retAddr t] (hn_ c1 c2 c3 pl 1 fr wo se go) (some (.retAddr (ov_ 1 b1 b0)), (hn_ c1 c2 c3 pl 1 fr wo se go)) := by
  refine am_enter (n := 2) tk_73.2.1 (by simp [Value.category]) (Nat.le_of_ble_eq_true rfl) ?_
  show am_Good mi_73 0 [some (.ref 40), some (.ref 36), some (.retAddr 2), some (.retAddr t), none, none] [] (hn_ c1 c2 c3 pl 1 fr wo se go) _
  refine g_aload_n (i := 0) dd_73_0 rfl ?_
  refine g_getfield (k := 2) am_ck10 (by decide) (Or.inl w_171) dd_73_1 rfl rfl ?_
  refine g_istore dd_73_4 (am_nlb_ok rfl) (by decide) ?_
  refine g_iconst dd_73_6 ic_0 ?_
  refine g_istore dd_73_7 (am_nlb_ok rfl) (by decide) ?_
  refine g_iload dd_73_9 rfl ?_
  refine g_iload_n (i := 2) dd_73_11 rfl ?_
  refine g_icmp_ge_f (t := 52) dd_73_12 (by decide) (by decide) ?_
  refine g_aload_n (i := 1) dd_73_15 rfl ?_
  refine g_iload dd_73_16 rfl ?_
  refine g_iload_n (i := 3) dd_73_18 rfl ?_
  by_cases hz1 : b1 = 0
  · refine g_virtual (M' := mi_53) (n := 2) (ci := 9) (b := 36) (as := [.retAddr 1, .retAddr t]) (st := []) (r1 := (some (.retAddr 0), (hn_ c1 c2 c3 pl 1 fr wo se go))) w_679 w_594 w_595 ⟨lk_53.1, lk_53.2.1, lk_53.2.2, by decide, by decide⟩ rfl rfl rfl (by simp [Value.category]) dd_73_19 (ng_ib_f 1 t (by decide) (by omega) hb1 hz1) ?_
    show am_Good mi_73 22 [some (.ref 40), some (.ref 36), some (.retAddr 2), some (.retAddr t), some (.retAddr 1), some (.retAddr 0)] [.retAddr 0] (hn_ c1 c2 c3 pl 1 fr wo se go) _
    refine g_if_ne_f (t := 28) dd_73_22 (by decide) (by decide) ?_
    refine g_iload dd_73_25 rfl ?_
    rw [show ov_ 1 b1 b0 = 1 from by unfold ov_; simp [hz1]]
    exact g_ireturn rfl dd_73_27
  · refine g_virtual (M' := mi_53) (n := 2) (ci := 9) (b := 36) (as := [.retAddr 1, .retAddr t]) (st := []) (r1 := (some (.retAddr 1), (hn_ c1 c2 c3 pl 1 fr wo se go))) w_679 w_594 w_595 ⟨lk_53.1, lk_53.2.1, lk_53.2.2, by decide, by decide⟩ rfl rfl rfl (by simp [Value.category]) dd_73_19 (ng_ib_t 1 t (by decide) (by omega) hb1 hz1) ?_
    show am_Good mi_73 22 [some (.ref 40), some (.ref 36), some (.retAddr 2), some (.retAddr t), some (.retAddr 1), some (.retAddr 0)] [.retAddr 1] (hn_ c1 c2 c3 pl 1 fr wo se go) _
    refine g_if_ne_t (t := 28) dd_73_22 (by decide) (by decide) ?_
    refine g_iload dd_73_28 rfl ?_
    refine g_iconst dd_73_30 ic_1 ?_
    refine e_iadd (v := 2) dd_73_31 (by decide) ?_
    refine g_iload_n (i := 2) dd_73_32 rfl ?_
    refine g_icmp_ge_t (t := 43) dd_73_33 (by decide) (by decide) ?_
    refine g_iconst dd_73_43 ic_0 ?_
    refine g_istore dd_73_44 (am_nlb_ok rfl) (by decide) ?_
    refine e_iinc (v := 1) (w := 1) dd_73_46 rfl ic_1 (am_nlb_ok rfl) (by decide) (by omega) ?_
    refine g_goto (t := 9) dd_73_49 (by decide) ?_
    refine g_iload dd_73_9 rfl ?_
    refine g_iload_n (i := 2) dd_73_11 rfl ?_
    refine g_icmp_ge_f (t := 52) dd_73_12 (by decide) (by decide) ?_
    refine g_aload_n (i := 1) dd_73_15 rfl ?_
    refine g_iload dd_73_16 rfl ?_
    refine g_iload_n (i := 3) dd_73_18 rfl ?_
    by_cases hz0 : b0 = 0
    · refine g_virtual (M' := mi_53) (n := 2) (ci := 9) (b := 36) (as := [.retAddr 0, .retAddr t]) (st := []) (r1 := (some (.retAddr 0), (hn_ c1 c2 c3 pl 1 fr wo se go))) w_679 w_594 w_595 ⟨lk_53.1, lk_53.2.1, lk_53.2.2, by decide, by decide⟩ rfl rfl rfl (by simp [Value.category]) dd_73_19 (ng_ib_f 0 t (by decide) (by omega) hb0 hz0) ?_
      show am_Good mi_73 22 [some (.ref 40), some (.ref 36), some (.retAddr 2), some (.retAddr t), some (.retAddr 0), some (.retAddr 1)] [.retAddr 0] (hn_ c1 c2 c3 pl 1 fr wo se go) _
      refine g_if_ne_f (t := 28) dd_73_22 (by decide) (by decide) ?_
      refine g_iload dd_73_25 rfl ?_
      rw [show ov_ 1 b1 b0 = 0 from by unfold ov_; simp [hz1, hz0]]
      exact g_ireturn rfl dd_73_27
    · refine g_virtual (M' := mi_53) (n := 2) (ci := 9) (b := 36) (as := [.retAddr 0, .retAddr t]) (st := []) (r1 := (some (.retAddr 1), (hn_ c1 c2 c3 pl 1 fr wo se go))) w_679 w_594 w_595 ⟨lk_53.1, lk_53.2.1, lk_53.2.2, by decide, by decide⟩ rfl rfl rfl (by simp [Value.category]) dd_73_19 (ng_ib_t 0 t (by decide) (by omega) hb0 hz0) ?_
      show am_Good mi_73 22 [some (.ref 40), some (.ref 36), some (.retAddr 2), some (.retAddr t), some (.retAddr 0), some (.retAddr 1)] [.retAddr 1] (hn_ c1 c2 c3 pl 1 fr wo se go) _
      refine g_if_ne_t (t := 28) dd_73_22 (by decide) (by decide) ?_
      refine g_iload dd_73_28 rfl ?_
      refine g_iconst dd_73_30 ic_1 ?_
      refine e_iadd (v := 1) dd_73_31 (by decide) ?_
      refine g_iload_n (i := 2) dd_73_32 rfl ?_
      refine g_icmp_ge_f (t := 43) dd_73_33 (by decide) (by decide) ?_
      refine g_iload dd_73_36 rfl ?_
      refine g_iconst dd_73_38 ic_1 ?_
      refine e_iadd (v := 1) dd_73_39 (by decide) ?_
      refine g_goto (t := 44) dd_73_40 (by decide) ?_
      refine g_istore dd_73_44 (am_nlb_ok rfl) (by decide) ?_
      refine e_iinc (v := 1) (w := 2) dd_73_46 rfl ic_1 (am_nlb_ok rfl) (by decide) (by omega) ?_
      refine g_goto (t := 9) dd_73_49 (by decide) ?_
      refine g_iload dd_73_9 rfl ?_
      refine g_iload_n (i := 2) dd_73_11 rfl ?_
      refine g_icmp_ge_t (t := 52) dd_73_12 (by decide) (by decide) ?_
      refine g_aload_n (i := 0) dd_73_52 rfl ?_
      refine g_getfield (k := 2) am_ck10 (by decide) (Or.inl w_171) dd_73_53 rfl rfl ?_
      rw [show ov_ 1 b1 b0 = 1 from by unfold ov_; simp [hz1, hz0]]
      exact g_ireturn rfl dd_73_56
theorem ng_wor1 {c1 c2 c3 pl fr wo se go t w0 w1 : Nat} (ht : t < 12) (hw0 : am_ag c1 (0 * 60 + t) = w0) (hw1 : am_ag c1 (1 * 60 + t) = w1) (h90 : w0 ≤ 9) (h91 : w1 ≤ 9) : am_EG mi_74 [.ref 40, .ref 36, .retAddr 2, .retAddr t] (hn_ c1 c2 c3 pl 1 fr wo se go) (some (.retAddr (be_ 1 w0 w1)), (hn_ c1 c2 c3 pl 1 fr wo se go)) := by
  refine am_enter (n := 2) tk_74.2.1 (by simp [Value.category]) (Nat.le_of_ble_eq_true rfl) ?_
  show am_Good mi_74 0 [some (.ref 40), some (.ref 36), some (.retAddr 2), some (.retAddr t), none, none] [] (hn_ c1 c2 c3 pl 1 fr wo se go) _
  refine g_aload_n (i := 0) dd_74_0 rfl ?_
  refine g_getfield (k := 2) am_ck10 (by decide) (Or.inl w_171) dd_74_1 rfl rfl ?_
  refine g_istore dd_74_4 (am_nlb_ok rfl) (by decide) ?_
  refine g_iconst dd_74_6 ic_0 ?_
  refine g_istore dd_74_7 (am_nlb_ok rfl) (by decide) ?_
  refine g_iload dd_74_9 rfl ?_
  refine g_iload_n (i := 2) dd_74_11 rfl ?_
  refine g_icmp_ge_f (t := 42) dd_74_12 (by decide) (by decide) ?_
  refine g_aload_n (i := 1) dd_74_15 rfl ?_
  refine g_iload dd_74_16 rfl ?_
  refine g_iload_n (i := 3) dd_74_18 rfl ?_
  refine g_virtual (M' := mi_41) (n := 2) (ci := 9) (b := 36) (as := [.retAddr 0, .retAddr t]) (st := []) (r1 := (some (.retAddr w0), (hn_ c1 c2 c3 pl 1 fr wo se go))) w_653 w_491 w_492 ⟨lk_41.1, lk_41.2.1, lk_41.2.2, by decide, by decide⟩ rfl rfl rfl (by simp [Value.category]) dd_74_19 (ng_wof 0 t (by decide) (by omega) hw0) ?_
  show am_Good mi_74 22 [some (.ref 40), some (.ref 36), some (.retAddr 2), some (.retAddr t), some (.retAddr 1), some (.retAddr 0)] [.retAddr w0] (hn_ c1 c2 c3 pl 1 fr wo se go) _
  refine g_aload_n (i := 1) dd_74_22 rfl ?_
  refine g_iload dd_74_23 rfl ?_
  refine g_iload_n (i := 3) dd_74_25 rfl ?_
  refine g_virtual (M' := mi_41) (n := 2) (ci := 9) (b := 36) (as := [.retAddr 1, .retAddr t]) (st := [.retAddr w0]) (r1 := (some (.retAddr w1), (hn_ c1 c2 c3 pl 1 fr wo se go))) w_653 w_491 w_492 ⟨lk_41.1, lk_41.2.1, lk_41.2.2, by decide, by decide⟩ rfl rfl rfl (by simp [Value.category]) dd_74_26 (ng_wof 1 t (by decide) (by omega) hw1) ?_
  show am_Good mi_74 29 [some (.ref 40), some (.ref 36), some (.retAddr 2), some (.retAddr t), some (.retAddr 1), some (.retAddr 0)] [.retAddr w1, .retAddr w0] (hn_ c1 c2 c3 pl 1 fr wo se go) _
  by_cases hc : w1 < w0
  · refine g_icmp_le_f (t := 36) dd_74_29 (by decide) (tk_le_f (by omega)) ?_
    refine g_iload dd_74_32 rfl ?_
    refine g_istore dd_74_34 (am_nlb_ok rfl) (by decide) ?_
    refine e_iinc (v := 1) (w := 1) dd_74_36 rfl ic_1 (am_nlb_ok rfl) (by decide) (by omega) ?_
    refine g_goto (t := 9) dd_74_39 (by decide) ?_
    refine g_iload dd_74_9 rfl ?_
    refine g_iload_n (i := 2) dd_74_11 rfl ?_
    refine g_icmp_ge_f (t := 42) dd_74_12 (by decide) (by decide) ?_
    refine g_aload_n (i := 1) dd_74_15 rfl ?_
    refine g_iload dd_74_16 rfl ?_
    refine g_iload_n (i := 3) dd_74_18 rfl ?_
    refine g_virtual (M' := mi_41) (n := 2) (ci := 9) (b := 36) (as := [.retAddr 1, .retAddr t]) (st := []) (r1 := (some (.retAddr w1), (hn_ c1 c2 c3 pl 1 fr wo se go))) w_653 w_491 w_492 ⟨lk_41.1, lk_41.2.1, lk_41.2.2, by decide, by decide⟩ rfl rfl rfl (by simp [Value.category]) dd_74_19 (ng_wof 1 t (by decide) (by omega) hw1) ?_
    show am_Good mi_74 22 [some (.ref 40), some (.ref 36), some (.retAddr 2), some (.retAddr t), some (.retAddr 0), some (.retAddr 1)] [.retAddr w1] (hn_ c1 c2 c3 pl 1 fr wo se go) _
    refine g_aload_n (i := 1) dd_74_22 rfl ?_
    refine g_iload dd_74_23 rfl ?_
    refine g_iload_n (i := 3) dd_74_25 rfl ?_
    refine g_virtual (M' := mi_41) (n := 2) (ci := 9) (b := 36) (as := [.retAddr 0, .retAddr t]) (st := [.retAddr w1]) (r1 := (some (.retAddr w0), (hn_ c1 c2 c3 pl 1 fr wo se go))) w_653 w_491 w_492 ⟨lk_41.1, lk_41.2.1, lk_41.2.2, by decide, by decide⟩ rfl rfl rfl (by simp [Value.category]) dd_74_26 (ng_wof 0 t (by decide) (by omega) hw0) ?_
    show am_Good mi_74 29 [some (.ref 40), some (.ref 36), some (.retAddr 2), some (.retAddr t), some (.retAddr 0), some (.retAddr 1)] [.retAddr w0, .retAddr w1] (hn_ c1 c2 c3 pl 1 fr wo se go) _
    refine g_icmp_le_t (t := 36) dd_74_29 (by decide) (tk_le_t (by omega)) ?_
    refine e_iinc (v := 1) (w := 2) dd_74_36 rfl ic_1 (am_nlb_ok rfl) (by decide) (by omega) ?_
    refine g_goto (t := 9) dd_74_39 (by decide) ?_
    refine g_iload dd_74_9 rfl ?_
    refine g_iload_n (i := 2) dd_74_11 rfl ?_
    refine g_icmp_ge_t (t := 42) dd_74_12 (by decide) (by decide) ?_
    refine g_iload dd_74_42 rfl ?_
    rw [show be_ 1 w0 w1 = 0 from by unfold be_; simp [hc]]
    exact g_ireturn rfl dd_74_44
  · refine g_icmp_le_t (t := 36) dd_74_29 (by decide) (tk_le_t (by omega)) ?_
    refine e_iinc (v := 1) (w := 1) dd_74_36 rfl ic_1 (am_nlb_ok rfl) (by decide) (by omega) ?_
    refine g_goto (t := 9) dd_74_39 (by decide) ?_
    refine g_iload dd_74_9 rfl ?_
    refine g_iload_n (i := 2) dd_74_11 rfl ?_
    refine g_icmp_ge_f (t := 42) dd_74_12 (by decide) (by decide) ?_
    refine g_aload_n (i := 1) dd_74_15 rfl ?_
    refine g_iload dd_74_16 rfl ?_
    refine g_iload_n (i := 3) dd_74_18 rfl ?_
    refine g_virtual (M' := mi_41) (n := 2) (ci := 9) (b := 36) (as := [.retAddr 1, .retAddr t]) (st := []) (r1 := (some (.retAddr w1), (hn_ c1 c2 c3 pl 1 fr wo se go))) w_653 w_491 w_492 ⟨lk_41.1, lk_41.2.1, lk_41.2.2, by decide, by decide⟩ rfl rfl rfl (by simp [Value.category]) dd_74_19 (ng_wof 1 t (by decide) (by omega) hw1) ?_
    show am_Good mi_74 22 [some (.ref 40), some (.ref 36), some (.retAddr 2), some (.retAddr t), some (.retAddr 1), some (.retAddr 1)] [.retAddr w1] (hn_ c1 c2 c3 pl 1 fr wo se go) _
    refine g_aload_n (i := 1) dd_74_22 rfl ?_
    refine g_iload dd_74_23 rfl ?_
    refine g_iload_n (i := 3) dd_74_25 rfl ?_
    refine g_virtual (M' := mi_41) (n := 2) (ci := 9) (b := 36) (as := [.retAddr 1, .retAddr t]) (st := [.retAddr w1]) (r1 := (some (.retAddr w1), (hn_ c1 c2 c3 pl 1 fr wo se go))) w_653 w_491 w_492 ⟨lk_41.1, lk_41.2.1, lk_41.2.2, by decide, by decide⟩ rfl rfl rfl (by simp [Value.category]) dd_74_26 (ng_wof 1 t (by decide) (by omega) hw1) ?_
    show am_Good mi_74 29 [some (.ref 40), some (.ref 36), some (.retAddr 2), some (.retAddr t), some (.retAddr 1), some (.retAddr 1)] [.retAddr w1, .retAddr w1] (hn_ c1 c2 c3 pl 1 fr wo se go) _
    refine g_icmp_le_t (t := 36) dd_74_29 (by decide) (tk_le_t (by omega)) ?_
    refine e_iinc (v := 1) (w := 2) dd_74_36 rfl ic_1 (am_nlb_ok rfl) (by decide) (by omega) ?_
    refine g_goto (t := 9) dd_74_39 (by decide) ?_
    refine g_iload dd_74_9 rfl ?_
    refine g_iload_n (i := 2) dd_74_11 rfl ?_
    refine g_icmp_ge_t (t := 42) dd_74_12 (by decide) (by decide) ?_
    refine g_iload dd_74_42 rfl ?_
    rw [show be_ 1 w0 w1 = 1 from by unfold be_; simp [hc]]
    exact g_ireturn rfl dd_74_44
theorem ng_wish0_0 {c1 c2 c3 pl fr wo se go t : Nat} {b0 b1 w0 w1 : Nat} (ht : t < 12) (hb0 : am_ag c3 (0 * 60 + t) = b0) (hb1 : am_ag c3 (1 * 60 + t) = b1) (hw0 : am_ag c1 (0 * 60 + t) = w0) (hw1 : am_ag c1 (1 * 60 + t) = w1) (h90 : w0 ≤ 9) (h91 : w1 ≤ 9) : am_EG mi_72 [.ref 40, .ref 36, .retAddr 2, .retAddr 0, .retAddr 0, .retAddr t] (hn_ c1 c2 c3 pl 0 fr wo se go) (some (.retAddr 0), (hn_ c1 c2 c3 pl 0 fr wo se go)) := by
  refine am_enter (n := 0) tk_72.2.1 (by simp [Value.category]) (Nat.le_of_ble_eq_true rfl) ?_
  show am_Good mi_72 0 [some (.ref 40), some (.ref 36), some (.retAddr 2), some (.retAddr 0), some (.retAddr 0), some (.retAddr t)] [] (hn_ c1 c2 c3 pl 0 fr wo se go) _
  refine g_iload_n (i := 3) dd_72_0 rfl ?_
  refine g_tableOut (t := 71) dd_72_1 (by decide) (by decide) (by decide) (by decide) ?_
  refine g_aload_n (i := 0) dd_72_71 rfl ?_
  refine g_getfield (k := 2) am_ck10 (by decide) (Or.inl w_171) dd_72_72 rfl rfl ?_
  exact g_ireturn rfl dd_72_75
theorem ng_wish0_1 {c1 c2 c3 pl fr wo se go t : Nat} {b0 b1 w0 w1 : Nat} (ht : t < 12) (hb0 : am_ag c3 (0 * 60 + t) = b0) (hb1 : am_ag c3 (1 * 60 + t) = b1) (hw0 : am_ag c1 (0 * 60 + t) = w0) (hw1 : am_ag c1 (1 * 60 + t) = w1) (h90 : w0 ≤ 9) (h91 : w1 ≤ 9) : am_EG mi_72 [.ref 40, .ref 36, .retAddr 2, .retAddr 0, .retAddr 0, .retAddr t] (hn_ c1 c2 c3 pl 1 fr wo se go) (some (.retAddr 1), (hn_ c1 c2 c3 pl 1 fr wo se go)) := by
  refine am_enter (n := 0) tk_72.2.1 (by simp [Value.category]) (Nat.le_of_ble_eq_true rfl) ?_
  show am_Good mi_72 0 [some (.ref 40), some (.ref 36), some (.retAddr 2), some (.retAddr 0), some (.retAddr 0), some (.retAddr t)] [] (hn_ c1 c2 c3 pl 1 fr wo se go) _
  refine g_iload_n (i := 3) dd_72_0 rfl ?_
  refine g_tableOut (t := 71) dd_72_1 (by decide) (by decide) (by decide) (by decide) ?_
  refine g_aload_n (i := 0) dd_72_71 rfl ?_
  refine g_getfield (k := 2) am_ck10 (by decide) (Or.inl w_171) dd_72_72 rfl rfl ?_
  exact g_ireturn rfl dd_72_75
theorem ng_wish0 {c1 c2 c3 pl he fr wo se go t q : Nat} {b0 b1 w0 w1 : Nat} (hh : he < 2) (ht : t < 12) (hb0 : am_ag c3 (0 * 60 + t) = b0) (hb1 : am_ag c3 (1 * 60 + t) = b1) (hw0 : am_ag c1 (0 * 60 + t) = w0) (hw1 : am_ag c1 (1 * 60 + t) = w1) (h90 : w0 ≤ 9) (h91 : w1 ≤ 9) (hq : wi_ 0 0 he b0 b1 w0 w1 = q) : am_EG mi_72 [.ref 40, .ref 36, .retAddr 2, .retAddr 0, .retAddr 0, .retAddr t] (hn_ c1 c2 c3 pl he fr wo se go) (some (.retAddr q), (hn_ c1 c2 c3 pl he fr wo se go)) := by
  subst hq
  have c : he = 0 ∨ he = 1 := by omega
  rcases c with rfl | rfl
  · exact ng_wish0_0 ht hb0 hb1 hw0 hw1 h90 h91
  · exact ng_wish0_1 ht hb0 hb1 hw0 hw1 h90 h91
theorem ng_wish1_0 {c1 c2 c3 pl fr wo se go t : Nat} {b0 b1 w0 w1 : Nat} (ht : t < 12) (hb0 : am_ag c3 (0 * 60 + t) = b0) (hb1 : am_ag c3 (1 * 60 + t) = b1) (hw0 : am_ag c1 (0 * 60 + t) = w0) (hw1 : am_ag c1 (1 * 60 + t) = w1) (h90 : w0 ≤ 9) (h91 : w1 ≤ 9) : am_EG mi_72 [.ref 40, .ref 36, .retAddr 2, .retAddr 1, .retAddr 0, .retAddr t] (hn_ c1 c2 c3 pl 0 fr wo se go) (some (.retAddr (ov_ 0 b0 b1)), (hn_ c1 c2 c3 pl 0 fr wo se go)) := by
  refine am_enter (n := 0) tk_72.2.1 (by simp [Value.category]) (Nat.le_of_ble_eq_true rfl) ?_
  show am_Good mi_72 0 [some (.ref 40), some (.ref 36), some (.retAddr 2), some (.retAddr 1), some (.retAddr 0), some (.retAddr t)] [] (hn_ c1 c2 c3 pl 0 fr wo se go) _
  refine g_iload_n (i := 3) dd_72_0 rfl ?_
  refine g_tableIn (a := 1) (off := 27) (t := 28) dd_72_1 (by decide) (by decide) (by decide) rfl (by decide) ?_
  refine g_aload_n (i := 0) dd_72_28 rfl ?_
  refine g_aload_n (i := 1) dd_72_29 rfl ?_
  refine g_iload_n (i := 2) dd_72_30 rfl ?_
  refine g_iload dd_72_31 rfl ?_
  refine g_virtual (M' := mi_73) (n := 3) (ci := 10) (b := 40) (as := [.ref 36, .retAddr 2, .retAddr t]) (st := []) (r1 := (some (.retAddr (ov_ 0 b0 b1)), (hn_ c1 c2 c3 pl 0 fr wo se go))) w_675 w_677 ps_73 ⟨lk_73.1, lk_73.2.1, lk_73.2.2, by decide, by decide⟩ rfl rfl rfl (by simp [Value.category]) dd_72_33 (ng_unb0 (by omega) hb0 hb1) ?_
  show am_Good mi_72 36 [some (.ref 40), some (.ref 36), some (.retAddr 2), some (.retAddr 1), some (.retAddr 0), some (.retAddr t)] [.retAddr (ov_ 0 b0 b1)] (hn_ c1 c2 c3 pl 0 fr wo se go) _
  exact g_ireturn rfl dd_72_36
theorem ng_wish1_1 {c1 c2 c3 pl fr wo se go t : Nat} {b0 b1 w0 w1 : Nat} (ht : t < 12) (hb0 : am_ag c3 (0 * 60 + t) = b0) (hb1 : am_ag c3 (1 * 60 + t) = b1) (hw0 : am_ag c1 (0 * 60 + t) = w0) (hw1 : am_ag c1 (1 * 60 + t) = w1) (h90 : w0 ≤ 9) (h91 : w1 ≤ 9) : am_EG mi_72 [.ref 40, .ref 36, .retAddr 2, .retAddr 1, .retAddr 0, .retAddr t] (hn_ c1 c2 c3 pl 1 fr wo se go) (some (.retAddr (ov_ 1 b1 b0)), (hn_ c1 c2 c3 pl 1 fr wo se go)) := by
  refine am_enter (n := 0) tk_72.2.1 (by simp [Value.category]) (Nat.le_of_ble_eq_true rfl) ?_
  show am_Good mi_72 0 [some (.ref 40), some (.ref 36), some (.retAddr 2), some (.retAddr 1), some (.retAddr 0), some (.retAddr t)] [] (hn_ c1 c2 c3 pl 1 fr wo se go) _
  refine g_iload_n (i := 3) dd_72_0 rfl ?_
  refine g_tableIn (a := 1) (off := 27) (t := 28) dd_72_1 (by decide) (by decide) (by decide) rfl (by decide) ?_
  refine g_aload_n (i := 0) dd_72_28 rfl ?_
  refine g_aload_n (i := 1) dd_72_29 rfl ?_
  refine g_iload_n (i := 2) dd_72_30 rfl ?_
  refine g_iload dd_72_31 rfl ?_
  refine g_virtual (M' := mi_73) (n := 3) (ci := 10) (b := 40) (as := [.ref 36, .retAddr 2, .retAddr t]) (st := []) (r1 := (some (.retAddr (ov_ 1 b1 b0)), (hn_ c1 c2 c3 pl 1 fr wo se go))) w_675 w_677 ps_73 ⟨lk_73.1, lk_73.2.1, lk_73.2.2, by decide, by decide⟩ rfl rfl rfl (by simp [Value.category]) dd_72_33 (ng_unb1 (by omega) hb0 hb1) ?_
  show am_Good mi_72 36 [some (.ref 40), some (.ref 36), some (.retAddr 2), some (.retAddr 1), some (.retAddr 0), some (.retAddr t)] [.retAddr (ov_ 1 b1 b0)] (hn_ c1 c2 c3 pl 1 fr wo se go) _
  exact g_ireturn rfl dd_72_36
theorem ng_wish1 {c1 c2 c3 pl he fr wo se go t q : Nat} {b0 b1 w0 w1 : Nat} (hh : he < 2) (ht : t < 12) (hb0 : am_ag c3 (0 * 60 + t) = b0) (hb1 : am_ag c3 (1 * 60 + t) = b1) (hw0 : am_ag c1 (0 * 60 + t) = w0) (hw1 : am_ag c1 (1 * 60 + t) = w1) (h90 : w0 ≤ 9) (h91 : w1 ≤ 9) (hq : wi_ 1 0 he b0 b1 w0 w1 = q) : am_EG mi_72 [.ref 40, .ref 36, .retAddr 2, .retAddr 1, .retAddr 0, .retAddr t] (hn_ c1 c2 c3 pl he fr wo se go) (some (.retAddr q), (hn_ c1 c2 c3 pl he fr wo se go)) := by
  subst hq
  have c : he = 0 ∨ he = 1 := by omega
  rcases c with rfl | rfl
  · exact ng_wish1_0 ht hb0 hb1 hw0 hw1 h90 h91
  · exact ng_wish1_1 ht hb0 hb1 hw0 hw1 h90 h91
theorem ng_wish2_0 {c1 c2 c3 pl fr wo se go t : Nat} {b0 b1 w0 w1 : Nat} (ht : t < 12) (hb0 : am_ag c3 (0 * 60 + t) = b0) (hb1 : am_ag c3 (1 * 60 + t) = b1) (hw0 : am_ag c1 (0 * 60 + t) = w0) (hw1 : am_ag c1 (1 * 60 + t) = w1) (h90 : w0 ≤ 9) (h91 : w1 ≤ 9) : am_EG mi_72 [.ref 40, .ref 36, .retAddr 2, .retAddr 2, .retAddr 0, .retAddr t] (hn_ c1 c2 c3 pl 0 fr wo se go) (some (.retAddr ((if b0 = 0 then 0 else ov_ 0 b0 b1))), (hn_ c1 c2 c3 pl 0 fr wo se go)) := by
  refine am_enter (n := 0) tk_72.2.1 (by simp [Value.category]) (Nat.le_of_ble_eq_true rfl) ?_
  show am_Good mi_72 0 [some (.ref 40), some (.ref 36), some (.retAddr 2), some (.retAddr 2), some (.retAddr 0), some (.retAddr t)] [] (hn_ c1 c2 c3 pl 0 fr wo se go) _
  refine g_iload_n (i := 3) dd_72_0 rfl ?_
  refine g_tableIn (a := 2) (off := 36) (t := 37) dd_72_1 (by decide) (by decide) (by decide) rfl (by decide) ?_
  refine g_aload_n (i := 1) dd_72_37 rfl ?_
  refine g_iload dd_72_38 rfl ?_
  refine g_iload dd_72_40 rfl ?_
  by_cases hz : b0 = 0
  · refine g_virtual (M' := mi_53) (n := 2) (ci := 9) (b := 36) (as := [.retAddr 0, .retAddr t]) (st := []) (r1 := (some (.retAddr 0), (hn_ c1 c2 c3 pl 0 fr wo se go))) w_679 w_594 w_595 ⟨lk_53.1, lk_53.2.1, lk_53.2.2, by decide, by decide⟩ rfl rfl rfl (by simp [Value.category]) dd_72_42 (ng_ib_f 0 t (by decide) (by omega) hb0 hz) ?_
    show am_Good mi_72 45 [some (.ref 40), some (.ref 36), some (.retAddr 2), some (.retAddr 2), some (.retAddr 0), some (.retAddr t)] [.retAddr 0] (hn_ c1 c2 c3 pl 0 fr wo se go) _
    refine g_if_eq_t (t := 59) dd_72_45 (by decide) (by decide) ?_
    refine g_iload dd_72_59 rfl ?_
    rw [if_pos hz]
    exact g_ireturn rfl dd_72_61
  · refine g_virtual (M' := mi_53) (n := 2) (ci := 9) (b := 36) (as := [.retAddr 0, .retAddr t]) (st := []) (r1 := (some (.retAddr 1), (hn_ c1 c2 c3 pl 0 fr wo se go))) w_679 w_594 w_595 ⟨lk_53.1, lk_53.2.1, lk_53.2.2, by decide, by decide⟩ rfl rfl rfl (by simp [Value.category]) dd_72_42 (ng_ib_t 0 t (by decide) (by omega) hb0 hz) ?_
    show am_Good mi_72 45 [some (.ref 40), some (.ref 36), some (.retAddr 2), some (.retAddr 2), some (.retAddr 0), some (.retAddr t)] [.retAddr 1] (hn_ c1 c2 c3 pl 0 fr wo se go) _
    refine g_if_eq_f (t := 59) dd_72_45 (by decide) (by decide) ?_
    refine g_aload_n (i := 0) dd_72_48 rfl ?_
    refine g_aload_n (i := 1) dd_72_49 rfl ?_
    refine g_iload_n (i := 2) dd_72_50 rfl ?_
    refine g_iload dd_72_51 rfl ?_
    refine g_virtual (M' := mi_73) (n := 3) (ci := 10) (b := 40) (as := [.ref 36, .retAddr 2, .retAddr t]) (st := []) (r1 := (some (.retAddr (ov_ 0 b0 b1)), (hn_ c1 c2 c3 pl 0 fr wo se go))) w_675 w_677 ps_73 ⟨lk_73.1, lk_73.2.1, lk_73.2.2, by decide, by decide⟩ rfl rfl rfl (by simp [Value.category]) dd_72_53 (ng_unb0 (by omega) hb0 hb1) ?_
    show am_Good mi_72 56 [some (.ref 40), some (.ref 36), some (.retAddr 2), some (.retAddr 2), some (.retAddr 0), some (.retAddr t)] [.retAddr (ov_ 0 b0 b1)] (hn_ c1 c2 c3 pl 0 fr wo se go) _
    refine g_goto (t := 61) dd_72_56 (by decide) ?_
    rw [if_neg hz]
    exact g_ireturn rfl dd_72_61
theorem ng_wish2_1 {c1 c2 c3 pl fr wo se go t : Nat} {b0 b1 w0 w1 : Nat} (ht : t < 12) (hb0 : am_ag c3 (0 * 60 + t) = b0) (hb1 : am_ag c3 (1 * 60 + t) = b1) (hw0 : am_ag c1 (0 * 60 + t) = w0) (hw1 : am_ag c1 (1 * 60 + t) = w1) (h90 : w0 ≤ 9) (h91 : w1 ≤ 9) : am_EG mi_72 [.ref 40, .ref 36, .retAddr 2, .retAddr 2, .retAddr 0, .retAddr t] (hn_ c1 c2 c3 pl 1 fr wo se go) (some (.retAddr ((if b0 = 0 then 0 else ov_ 1 b1 b0))), (hn_ c1 c2 c3 pl 1 fr wo se go)) := by
  refine am_enter (n := 0) tk_72.2.1 (by simp [Value.category]) (Nat.le_of_ble_eq_true rfl) ?_
  show am_Good mi_72 0 [some (.ref 40), some (.ref 36), some (.retAddr 2), some (.retAddr 2), some (.retAddr 0), some (.retAddr t)] [] (hn_ c1 c2 c3 pl 1 fr wo se go) _
  refine g_iload_n (i := 3) dd_72_0 rfl ?_
  refine g_tableIn (a := 2) (off := 36) (t := 37) dd_72_1 (by decide) (by decide) (by decide) rfl (by decide) ?_
  refine g_aload_n (i := 1) dd_72_37 rfl ?_
  refine g_iload dd_72_38 rfl ?_
  refine g_iload dd_72_40 rfl ?_
  by_cases hz : b0 = 0
  · refine g_virtual (M' := mi_53) (n := 2) (ci := 9) (b := 36) (as := [.retAddr 0, .retAddr t]) (st := []) (r1 := (some (.retAddr 0), (hn_ c1 c2 c3 pl 1 fr wo se go))) w_679 w_594 w_595 ⟨lk_53.1, lk_53.2.1, lk_53.2.2, by decide, by decide⟩ rfl rfl rfl (by simp [Value.category]) dd_72_42 (ng_ib_f 0 t (by decide) (by omega) hb0 hz) ?_
    show am_Good mi_72 45 [some (.ref 40), some (.ref 36), some (.retAddr 2), some (.retAddr 2), some (.retAddr 0), some (.retAddr t)] [.retAddr 0] (hn_ c1 c2 c3 pl 1 fr wo se go) _
    refine g_if_eq_t (t := 59) dd_72_45 (by decide) (by decide) ?_
    refine g_iload dd_72_59 rfl ?_
    rw [if_pos hz]
    exact g_ireturn rfl dd_72_61
  · refine g_virtual (M' := mi_53) (n := 2) (ci := 9) (b := 36) (as := [.retAddr 0, .retAddr t]) (st := []) (r1 := (some (.retAddr 1), (hn_ c1 c2 c3 pl 1 fr wo se go))) w_679 w_594 w_595 ⟨lk_53.1, lk_53.2.1, lk_53.2.2, by decide, by decide⟩ rfl rfl rfl (by simp [Value.category]) dd_72_42 (ng_ib_t 0 t (by decide) (by omega) hb0 hz) ?_
    show am_Good mi_72 45 [some (.ref 40), some (.ref 36), some (.retAddr 2), some (.retAddr 2), some (.retAddr 0), some (.retAddr t)] [.retAddr 1] (hn_ c1 c2 c3 pl 1 fr wo se go) _
    refine g_if_eq_f (t := 59) dd_72_45 (by decide) (by decide) ?_
    refine g_aload_n (i := 0) dd_72_48 rfl ?_
    refine g_aload_n (i := 1) dd_72_49 rfl ?_
    refine g_iload_n (i := 2) dd_72_50 rfl ?_
    refine g_iload dd_72_51 rfl ?_
    refine g_virtual (M' := mi_73) (n := 3) (ci := 10) (b := 40) (as := [.ref 36, .retAddr 2, .retAddr t]) (st := []) (r1 := (some (.retAddr (ov_ 1 b1 b0)), (hn_ c1 c2 c3 pl 1 fr wo se go))) w_675 w_677 ps_73 ⟨lk_73.1, lk_73.2.1, lk_73.2.2, by decide, by decide⟩ rfl rfl rfl (by simp [Value.category]) dd_72_53 (ng_unb1 (by omega) hb0 hb1) ?_
    show am_Good mi_72 56 [some (.ref 40), some (.ref 36), some (.retAddr 2), some (.retAddr 2), some (.retAddr 0), some (.retAddr t)] [.retAddr (ov_ 1 b1 b0)] (hn_ c1 c2 c3 pl 1 fr wo se go) _
    refine g_goto (t := 61) dd_72_56 (by decide) ?_
    rw [if_neg hz]
    exact g_ireturn rfl dd_72_61
theorem ng_wish2 {c1 c2 c3 pl he fr wo se go t q : Nat} {b0 b1 w0 w1 : Nat} (hh : he < 2) (ht : t < 12) (hb0 : am_ag c3 (0 * 60 + t) = b0) (hb1 : am_ag c3 (1 * 60 + t) = b1) (hw0 : am_ag c1 (0 * 60 + t) = w0) (hw1 : am_ag c1 (1 * 60 + t) = w1) (h90 : w0 ≤ 9) (h91 : w1 ≤ 9) (hq : wi_ 2 0 he b0 b1 w0 w1 = q) : am_EG mi_72 [.ref 40, .ref 36, .retAddr 2, .retAddr 2, .retAddr 0, .retAddr t] (hn_ c1 c2 c3 pl he fr wo se go) (some (.retAddr q), (hn_ c1 c2 c3 pl he fr wo se go)) := by
  subst hq
  have c : he = 0 ∨ he = 1 := by omega
  rcases c with rfl | rfl
  · exact ng_wish2_0 ht hb0 hb1 hw0 hw1 h90 h91
  · exact ng_wish2_1 ht hb0 hb1 hw0 hw1 h90 h91
theorem ng_wish3_0 {c1 c2 c3 pl fr wo se go t : Nat} {b0 b1 w0 w1 : Nat} (ht : t < 12) (hb0 : am_ag c3 (0 * 60 + t) = b0) (hb1 : am_ag c3 (1 * 60 + t) = b1) (hw0 : am_ag c1 (0 * 60 + t) = w0) (hw1 : am_ag c1 (1 * 60 + t) = w1) (h90 : w0 ≤ 9) (h91 : w1 ≤ 9) : am_EG mi_72 [.ref 40, .ref 36, .retAddr 2, .retAddr 3, .retAddr 1, .retAddr t] (hn_ c1 c2 c3 pl 0 fr wo se go) (some (.retAddr (be_ 0 w0 w1)), (hn_ c1 c2 c3 pl 0 fr wo se go)) := by
  refine am_enter (n := 0) tk_72.2.1 (by simp [Value.category]) (Nat.le_of_ble_eq_true rfl) ?_
  show am_Good mi_72 0 [some (.ref 40), some (.ref 36), some (.retAddr 2), some (.retAddr 3), some (.retAddr 1), some (.retAddr t)] [] (hn_ c1 c2 c3 pl 0 fr wo se go) _
  refine g_iload_n (i := 3) dd_72_0 rfl ?_
  refine g_tableIn (a := 3) (off := 61) (t := 62) dd_72_1 (by decide) (by decide) (by decide) rfl (by decide) ?_
  refine g_aload_n (i := 0) dd_72_62 rfl ?_
  refine g_aload_n (i := 1) dd_72_63 rfl ?_
  refine g_iload_n (i := 2) dd_72_64 rfl ?_
  refine g_iload dd_72_65 rfl ?_
  refine g_virtual (M' := mi_74) (n := 3) (ci := 10) (b := 40) (as := [.ref 36, .retAddr 2, .retAddr t]) (st := []) (r1 := (some (.retAddr (be_ 0 w0 w1)), (hn_ c1 c2 c3 pl 0 fr wo se go))) w_680 w_682 ps_74 ⟨lk_74.1, lk_74.2.1, lk_74.2.2, by decide, by decide⟩ rfl rfl rfl (by simp [Value.category]) dd_72_67 (ng_wor0 (by omega) hw0 hw1 h90 h91) ?_
  show am_Good mi_72 70 [some (.ref 40), some (.ref 36), some (.retAddr 2), some (.retAddr 3), some (.retAddr 1), some (.retAddr t)] [.retAddr (be_ 0 w0 w1)] (hn_ c1 c2 c3 pl 0 fr wo se go) _
  exact g_ireturn rfl dd_72_70
theorem ng_wish3_1 {c1 c2 c3 pl fr wo se go t : Nat} {b0 b1 w0 w1 : Nat} (ht : t < 12) (hb0 : am_ag c3 (0 * 60 + t) = b0) (hb1 : am_ag c3 (1 * 60 + t) = b1) (hw0 : am_ag c1 (0 * 60 + t) = w0) (hw1 : am_ag c1 (1 * 60 + t) = w1) (h90 : w0 ≤ 9) (h91 : w1 ≤ 9) : am_EG mi_72 [.ref 40, .ref 36, .retAddr 2, .retAddr 3, .retAddr 1, .retAddr t] (hn_ c1 c2 c3 pl 1 fr wo se go) (some (.retAddr (be_ 1 w0 w1)), (hn_ c1 c2 c3 pl 1 fr wo se go)) := by
  refine am_enter (n := 0) tk_72.2.1 (by simp [Value.category]) (Nat.le_of_ble_eq_true rfl) ?_
  show am_Good mi_72 0 [some (.ref 40), some (.ref 36), some (.retAddr 2), some (.retAddr 3), some (.retAddr 1), some (.retAddr t)] [] (hn_ c1 c2 c3 pl 1 fr wo se go) _
  refine g_iload_n (i := 3) dd_72_0 rfl ?_
  refine g_tableIn (a := 3) (off := 61) (t := 62) dd_72_1 (by decide) (by decide) (by decide) rfl (by decide) ?_
  refine g_aload_n (i := 0) dd_72_62 rfl ?_
  refine g_aload_n (i := 1) dd_72_63 rfl ?_
  refine g_iload_n (i := 2) dd_72_64 rfl ?_
  refine g_iload dd_72_65 rfl ?_
  refine g_virtual (M' := mi_74) (n := 3) (ci := 10) (b := 40) (as := [.ref 36, .retAddr 2, .retAddr t]) (st := []) (r1 := (some (.retAddr (be_ 1 w0 w1)), (hn_ c1 c2 c3 pl 1 fr wo se go))) w_680 w_682 ps_74 ⟨lk_74.1, lk_74.2.1, lk_74.2.2, by decide, by decide⟩ rfl rfl rfl (by simp [Value.category]) dd_72_67 (ng_wor1 (by omega) hw0 hw1 h90 h91) ?_
  show am_Good mi_72 70 [some (.ref 40), some (.ref 36), some (.retAddr 2), some (.retAddr 3), some (.retAddr 1), some (.retAddr t)] [.retAddr (be_ 1 w0 w1)] (hn_ c1 c2 c3 pl 1 fr wo se go) _
  exact g_ireturn rfl dd_72_70
theorem ng_wish3 {c1 c2 c3 pl he fr wo se go t q : Nat} {b0 b1 w0 w1 : Nat} (hh : he < 2) (ht : t < 12) (hb0 : am_ag c3 (0 * 60 + t) = b0) (hb1 : am_ag c3 (1 * 60 + t) = b1) (hw0 : am_ag c1 (0 * 60 + t) = w0) (hw1 : am_ag c1 (1 * 60 + t) = w1) (h90 : w0 ≤ 9) (h91 : w1 ≤ 9) (hq : wi_ 3 1 he b0 b1 w0 w1 = q) : am_EG mi_72 [.ref 40, .ref 36, .retAddr 2, .retAddr 3, .retAddr 1, .retAddr t] (hn_ c1 c2 c3 pl he fr wo se go) (some (.retAddr q), (hn_ c1 c2 c3 pl he fr wo se go)) := by
  subst hq
  have c : he = 0 ∨ he = 1 := by omega
  rcases c with rfl | rfl
  · exact ng_wish3_0 ht hb0 hb1 hw0 hw1 h90 h91
  · exact ng_wish3_1 ht hb0 hb1 hw0 hw1 h90 h91
theorem ng_go_s {c1 c2 c3 pl he fr wo se go : Nat} (t q : Nat) (hh : he < 2) (hq : q = he) : am_EG mi_66 [.ref 40, .retAddr t, .retAddr q, .retAddr 1] (hn_ c1 c2 c3 pl he fr wo se go) (none, (hn_ c1 c2 c3 pl he fr wo se go)) := by
  refine am_enter (n := 0) tk_66.2.1 (by simp [Value.category]) (Nat.le_of_ble_eq_true rfl) ?_
  show am_Good mi_66 0 [some (.ref 40), some (.retAddr t), some (.retAddr q), some (.retAddr 1)] [] (hn_ c1 c2 c3 pl he fr wo se go) _
  refine g_iload_n (i := 2) dd_66_0 rfl ?_
  refine g_aload_n (i := 0) dd_66_1 rfl ?_
  refine g_getfield (k := 2) am_ck10 (by decide) (Or.inl w_171) dd_66_2 rfl rfl ?_
  refine g_icmp_eq_t (t := 30) dd_66_5 (by decide) (tk_eq_t (by omega)) ?_
  exact g_return rfl dd_66_30
theorem ng_go_d {c1 c2 c3 pl he fr wo se go : Nat} (t q : Nat) (ht : t < 12) (hh : he < 2) (h2 : q < 2) (hq : ¬ q = he) : am_EG mi_66 [.ref 40, .retAddr t, .retAddr q, .retAddr 1] (hn_ c1 c2 c3 pl he fr wo se go) (none, (hn_ c1 c2 c3 pl q (t + 1) wo se ((go + 1) % 4294967296))) := by
  refine am_enter (n := 0) tk_66.2.1 (by simp [Value.category]) (Nat.le_of_ble_eq_true rfl) ?_
  show am_Good mi_66 0 [some (.ref 40), some (.retAddr t), some (.retAddr q), some (.retAddr 1)] [] (hn_ c1 c2 c3 pl he fr wo se go) _
  refine g_iload_n (i := 2) dd_66_0 rfl ?_
  refine g_aload_n (i := 0) dd_66_1 rfl ?_
  refine g_getfield (k := 2) am_ck10 (by decide) (Or.inl w_171) dd_66_2 rfl rfl ?_
  refine g_icmp_eq_f (t := 30) dd_66_5 (by decide) (tk_eq_f (by omega)) ?_
  refine g_aload_n (i := 0) dd_66_8 rfl ?_
  refine g_iload_n (i := 2) dd_66_9 rfl ?_
  refine g_putfield (k := 2) am_ck10 (by decide) (Or.inl w_171) (Or.inl rfl) dd_66_10 rfl (Nat.le_of_ble_eq_true rfl) trivial ?_
  show am_Good mi_66 13 [some (.ref 40), some (.retAddr t), some (.retAddr q), some (.retAddr 1)] [] (hn_ c1 c2 c3 pl q fr wo se go) _
  refine g_aload_n (i := 0) dd_66_13 rfl ?_
  refine g_iload_n (i := 1) dd_66_14 rfl ?_
  refine g_iload_n (i := 3) dd_66_15 rfl ?_
  refine e_iadd (v := t + 1) dd_66_16 (by omega) ?_
  refine g_putfield (k := 3) am_ck10 (by decide) (Or.inl w_172) (Or.inl rfl) dd_66_17 rfl (Nat.le_of_ble_eq_true rfl) trivial ?_
  show am_Good mi_66 20 [some (.ref 40), some (.retAddr t), some (.retAddr q), some (.retAddr 1)] [] (hn_ c1 c2 c3 pl q (t + 1) wo se go) _
  refine g_aload_n (i := 0) dd_66_20 rfl ?_
  refine g_dup dd_66_21 rfl ?_
  refine g_getfield (k := 6) am_ck10 (by decide) (Or.inl w_177) dd_66_22 rfl rfl ?_
  refine g_iconst dd_66_25 ic_1 ?_
  refine e_iadd (v := (go + 1) % 4294967296) dd_66_26 rfl ?_
  refine g_putfield (k := 6) am_ck10 (by decide) (Or.inl w_177) (Or.inl rfl) dd_66_27 rfl (Nat.le_of_ble_eq_true rfl) trivial ?_
  show am_Good mi_66 30 [some (.ref 40), some (.retAddr t), some (.retAddr q), some (.retAddr 1)] [] (hn_ c1 c2 c3 pl q (t + 1) wo se ((go + 1) % 4294967296)) _
  exact g_return rfl dd_66_30
theorem ng_look_s {c1 c2 c3 pl he fr wo se go : Nat} {w : Nat} (t : Nat) (ht : t < 12) (hh : he < 2) (hf : fr ≤ t) (hv : am_ag c1 (he * 60 + t) = w) : am_EG mi_67 [.ref 40, .ref 36, .retAddr t] (hn_ c1 c2 c3 pl he fr wo se go) (none, (hn_ c1 c2 c3 (am_as pl t he) he fr ((wo + w) % 4294967296) (se ||| ((1 <<< (am_ag c2 (he * 60 + t) % 32)) % 4294967296 &&& 255)) go)) := by
  refine am_enter (n := 0) tk_67.2.1 (by simp [Value.category]) (Nat.le_of_ble_eq_true rfl) ?_
  show am_Good mi_67 0 [some (.ref 40), some (.ref 36), some (.retAddr t)] [] (hn_ c1 c2 c3 pl he fr wo se go) _
  refine g_iload_n (i := 2) dd_67_0 rfl ?_
  refine g_if_lt_f (t := 10) dd_67_1 (by decide) (tk_lt_f (by omega)) ?_
  refine g_iload_n (i := 2) dd_67_4 rfl ?_
  refine g_bipush dd_67_5 bi_60 ?_
  refine g_icmp_lt_t (t := 11) dd_67_7 (by decide) (tk_lt_t (by omega)) ?_
  refine g_iload_n (i := 2) dd_67_11 rfl ?_
  refine g_aload_n (i := 0) dd_67_12 rfl ?_
  refine g_getfield (k := 3) am_ck10 (by decide) (Or.inl w_172) dd_67_13 rfl rfl ?_
  refine g_icmp_ge_t (t := 28) dd_67_16 (by decide) (tk_ge_t (by omega)) ?_
  refine g_aload_n (i := 0) dd_67_28 rfl ?_
  refine g_getfield (k := 0) am_ck10 (by decide) (Or.inl w_169) dd_67_29 rfl rfl ?_
  refine g_iload_n (i := 2) dd_67_32 rfl ?_
  refine g_aload_n (i := 0) dd_67_33 rfl ?_
  refine g_getfield (k := 2) am_ck10 (by decide) (Or.inl w_171) dd_67_34 rfl rfl ?_
  refine g_iastore dd_67_37 rfl (by omega) (by decide) ?_
  show am_Good mi_67 38 [some (.ref 40), some (.ref 36), some (.retAddr t)] [] (hn_ c1 c2 c3 (am_as pl t he) he fr wo se go) _
  refine g_aload_n (i := 0) dd_67_38 rfl ?_
  refine g_dup dd_67_39 rfl ?_
  refine g_getfield (k := 4) am_ck10 (by decide) (Or.inl w_173) dd_67_40 rfl rfl ?_
  refine g_aload_n (i := 1) dd_67_43 rfl ?_
  refine g_aload_n (i := 0) dd_67_44 rfl ?_
  refine g_getfield (k := 2) am_ck10 (by decide) (Or.inl w_171) dd_67_45 rfl rfl ?_
  refine g_iload_n (i := 2) dd_67_48 rfl ?_
  refine g_virtual (M' := mi_41) (n := 2) (ci := 9) (b := 36) (as := [.retAddr he, .retAddr t]) (st := [.retAddr wo, .ref 40]) (r1 := (some (.retAddr w), (hn_ c1 c2 c3 (am_as pl t he) he fr wo se go))) w_653 w_491 w_492 ⟨lk_41.1, lk_41.2.1, lk_41.2.2, by decide, by decide⟩ rfl rfl rfl (by simp [Value.category]) dd_67_49 (ng_wof he t hh (by omega) hv) ?_
  show am_Good mi_67 52 [some (.ref 40), some (.ref 36), some (.retAddr t)] [.retAddr w, .retAddr wo, .ref 40] (hn_ c1 c2 c3 (am_as pl t he) he fr wo se go) _
  refine e_iadd (v := (wo + w) % 4294967296) dd_67_52 rfl ?_
  refine g_putfield (k := 4) am_ck10 (by decide) (Or.inl w_173) (Or.inl rfl) dd_67_53 rfl (Nat.le_of_ble_eq_true rfl) trivial ?_
  show am_Good mi_67 56 [some (.ref 40), some (.ref 36), some (.retAddr t)] [] (hn_ c1 c2 c3 (am_as pl t he) he fr ((wo + w) % 4294967296) se go) _
  refine g_aload_n (i := 0) dd_67_56 rfl ?_
  refine g_dup dd_67_57 rfl ?_
  refine g_getfield (k := 5) am_ck10 (by decide) (Or.inl w_175) dd_67_58 rfl rfl ?_
  refine g_aload_n (i := 1) dd_67_61 rfl ?_
  refine g_aload_n (i := 0) dd_67_62 rfl ?_
  refine g_getfield (k := 2) am_ck10 (by decide) (Or.inl w_171) dd_67_63 rfl rfl ?_
  refine g_iload_n (i := 2) dd_67_66 rfl ?_
  refine g_virtual (M' := mi_68) (n := 2) (ci := 9) (b := 36) (as := [.retAddr he, .retAddr t]) (st := [.retAddr se, .ref 40]) (r1 := (some (.retAddr ((1 <<< (am_ag c2 (he * 60 + t) % 32)) % 4294967296 &&& 255)), (hn_ c1 c2 c3 (am_as pl t he) he fr ((wo + w) % 4294967296) se go))) w_654 w_655 w_656 ⟨lk_68.1, lk_68.2.1, lk_68.2.2, by decide, by decide⟩ rfl rfl rfl (by simp [Value.category]) dd_67_67 (ng_fb he t hh (by omega)) ?_
  show am_Good mi_67 70 [some (.ref 40), some (.ref 36), some (.retAddr t)] [.retAddr ((1 <<< (am_ag c2 (he * 60 + t) % 32)) % 4294967296 &&& 255), .retAddr se, .ref 40] (hn_ c1 c2 c3 (am_as pl t he) he fr ((wo + w) % 4294967296) se go) _
  refine e_ior (v := se ||| ((1 <<< (am_ag c2 (he * 60 + t) % 32)) % 4294967296 &&& 255)) dd_67_70 rfl ?_
  refine g_putfield (k := 5) am_ck10 (by decide) (Or.inl w_175) (Or.inl rfl) dd_67_71 rfl (Nat.le_of_ble_eq_true rfl) trivial ?_
  show am_Good mi_67 74 [some (.ref 40), some (.ref 36), some (.retAddr t)] [] (hn_ c1 c2 c3 (am_as pl t he) he fr ((wo + w) % 4294967296) (se ||| ((1 <<< (am_ag c2 (he * 60 + t) % 32)) % 4294967296 &&& 255)) go) _
  exact g_return rfl dd_67_74
theorem ng_look_d {c1 c2 c3 pl he fr wo se go : Nat} (t : Nat) (ht : t < 12) (hf : t < fr) (hf2 : fr < 60) : am_EG mi_67 [.ref 40, .ref 36, .retAddr t] (hn_ c1 c2 c3 pl he fr wo se go) (none, (hn_ c1 c2 c3 (am_as pl t 4294967292) he fr wo se go)) := by
  refine am_enter (n := 0) tk_67.2.1 (by simp [Value.category]) (Nat.le_of_ble_eq_true rfl) ?_
  show am_Good mi_67 0 [some (.ref 40), some (.ref 36), some (.retAddr t)] [] (hn_ c1 c2 c3 pl he fr wo se go) _
  refine g_iload_n (i := 2) dd_67_0 rfl ?_
  refine g_if_lt_f (t := 10) dd_67_1 (by decide) (tk_lt_f (by omega)) ?_
  refine g_iload_n (i := 2) dd_67_4 rfl ?_
  refine g_bipush dd_67_5 bi_60 ?_
  refine g_icmp_lt_t (t := 11) dd_67_7 (by decide) (tk_lt_t (by omega)) ?_
  refine g_iload_n (i := 2) dd_67_11 rfl ?_
  refine g_aload_n (i := 0) dd_67_12 rfl ?_
  refine g_getfield (k := 3) am_ck10 (by decide) (Or.inl w_172) dd_67_13 rfl rfl ?_
  refine g_icmp_ge_f (t := 28) dd_67_16 (by decide) (tk_ge_f (by omega)) ?_
  refine g_aload_n (i := 0) dd_67_19 rfl ?_
  refine g_getfield (k := 0) am_ck10 (by decide) (Or.inl w_169) dd_67_20 rfl rfl ?_
  refine g_iload_n (i := 2) dd_67_23 rfl ?_
  refine g_bipush dd_67_24 bi_m4 ?_
  refine g_iastore dd_67_26 rfl (by omega) (by decide) ?_
  show am_Good mi_67 27 [some (.ref 40), some (.ref 36), some (.retAddr t)] [] (hn_ c1 c2 c3 (am_as pl t 4294967292) he fr wo se go) _
  exact g_return rfl dd_67_27
theorem ng_start {c1 c2 c3 pl he fr wo se go : Nat} (o : Nat) : am_EG mi_63 [.ref 40, .retAddr o] (hn_ c1 c2 c3 pl he fr wo se go) (none, (hn_ c1 c2 c3 pl o 0 0 0 0)) := by
  refine am_enter (n := 0) tk_63.2.1 (by simp [Value.category]) (Nat.le_of_ble_eq_true rfl) ?_
  show am_Good mi_63 0 [some (.ref 40), some (.retAddr o)] [] (hn_ c1 c2 c3 pl he fr wo se go) _
  refine g_aload_n (i := 0) dd_63_0 rfl ?_
  refine g_iload_n (i := 1) dd_63_1 rfl ?_
  refine g_putfield (k := 2) am_ck10 (by decide) (Or.inl w_171) (Or.inl rfl) dd_63_2 rfl (Nat.le_of_ble_eq_true rfl) trivial ?_
  show am_Good mi_63 5 [some (.ref 40), some (.retAddr o)] [] (hn_ c1 c2 c3 pl o fr wo se go) _
  refine g_aload_n (i := 0) dd_63_5 rfl ?_
  refine g_iconst dd_63_6 ic_0 ?_
  refine g_putfield (k := 3) am_ck10 (by decide) (Or.inl w_172) (Or.inl rfl) dd_63_7 rfl (Nat.le_of_ble_eq_true rfl) trivial ?_
  show am_Good mi_63 10 [some (.ref 40), some (.retAddr o)] [] (hn_ c1 c2 c3 pl o 0 wo se go) _
  refine g_aload_n (i := 0) dd_63_10 rfl ?_
  refine g_iconst dd_63_11 ic_0 ?_
  refine g_putfield (k := 4) am_ck10 (by decide) (Or.inl w_173) (Or.inl rfl) dd_63_12 rfl (Nat.le_of_ble_eq_true rfl) trivial ?_
  show am_Good mi_63 15 [some (.ref 40), some (.retAddr o)] [] (hn_ c1 c2 c3 pl o 0 0 se go) _
  refine g_aload_n (i := 0) dd_63_15 rfl ?_
  refine g_iconst dd_63_16 ic_0 ?_
  refine g_putfield (k := 5) am_ck10 (by decide) (Or.inl w_175) (Or.inl rfl) dd_63_17 rfl (Nat.le_of_ble_eq_true rfl) trivial ?_
  show am_Good mi_63 20 [some (.ref 40), some (.retAddr o)] [] (hn_ c1 c2 c3 pl o 0 0 0 go) _
  refine g_aload_n (i := 0) dd_63_20 rfl ?_
  refine g_iconst dd_63_21 ic_0 ?_
  refine g_putfield (k := 6) am_ck10 (by decide) (Or.inl w_177) (Or.inl rfl) dd_63_22 rfl (Nat.le_of_ble_eq_true rfl) trivial ?_
  show am_Good mi_63 25 [some (.ref 40), some (.retAddr o)] [] (hn_ c1 c2 c3 pl o 0 0 0 0) _
  exact g_return rfl dd_63_25
theorem ng_st0_s {r : am_R} {c1 c2 c3 pl he fr wo se go : Nat} {t w : Nat} {b0 b1 w0 w1 : Nat} (ht : t < 12) (hh : he < 2) (hf : fr ≤ t) (hv : am_ag c1 (he * 60 + t) = w) (hb0 : am_ag c3 (0 * 60 + t) = b0) (hb1 : am_ag c3 (1 * 60 + t) = b1) (hw0 : am_ag c1 (0 * 60 + t) = w0) (hw1 : am_ag c1 (1 * 60 + t) = w1) (h90 : w0 ≤ 9) (h91 : w1 ≤ 9) (hq : wi_ 0 0 he b0 b1 w0 w1 = he) (hg : am_Good mi_71 18 [some (.ref 40), some (.ref 4), some (.ref 36), some (.retAddr 0), some (.retAddr 0), some (.retAddr 2), some (.retAddr (t + 1))] [] (hn_ c1 c2 c3 (am_as pl t he) he fr ((wo + w) % 4294967296) (se ||| ((1 <<< (am_ag c2 (he * 60 + t) % 32)) % 4294967296 &&& 255)) go) r) : am_Good mi_71 18 [some (.ref 40), some (.ref 4), some (.ref 36), some (.retAddr 0), some (.retAddr 0), some (.retAddr 2), some (.retAddr t)] [] (hn_ c1 c2 c3 pl he fr wo se go) r := by
  refine g_iload dd_71_18 rfl ?_
  refine g_aload_n (i := 1) dd_71_20 rfl ?_
  refine g_getfield (k := 6) am_ck1 (by decide) (Or.inr ⟨_, w_107⟩) dd_71_21 rfl rfl ?_
  refine g_icmp_ge_f (t := 71) dd_71_24 (by decide) (tk_ge_f (by omega)) ?_
  refine g_iload dd_71_27 rfl ?_
  refine g_aload_n (i := 0) dd_71_29 rfl ?_
  refine g_getfield (k := 3) am_ck10 (by decide) (Or.inl w_172) dd_71_30 rfl rfl ?_
  refine g_icmp_lt_f (t := 58) dd_71_33 (by decide) (tk_lt_f (by omega)) ?_
  refine g_aload_n (i := 0) dd_71_36 rfl ?_
  refine g_iload dd_71_37 rfl ?_
  refine g_aload_n (i := 0) dd_71_39 rfl ?_
  refine g_aload_n (i := 2) dd_71_40 rfl ?_
  refine g_iload dd_71_41 rfl ?_
  refine g_iload_n (i := 3) dd_71_43 rfl ?_
  refine g_iload dd_71_44 rfl ?_
  refine g_iload dd_71_46 rfl ?_
  refine g_virtual (M' := mi_72) (n := 5) (ci := 10) (b := 40) (as := [.ref 36, .retAddr 2, .retAddr 0, .retAddr 0, .retAddr t]) (st := [.retAddr t, .ref 40]) (r1 := (some (.retAddr he), (hn_ c1 c2 c3 pl he fr wo se go))) w_671 w_673 ps_72 ⟨lk_72.1, lk_72.2.1, lk_72.2.2, by decide, by decide⟩ rfl rfl rfl (by simp [Value.category]) dd_71_48 (ng_wish0 hh ht hb0 hb1 hw0 hw1 h90 h91 hq) ?_
  show am_Good mi_71 51 [some (.ref 40), some (.ref 4), some (.ref 36), some (.retAddr 0), some (.retAddr 0), some (.retAddr 2), some (.retAddr t)] [.retAddr he, .retAddr t, .ref 40] (hn_ c1 c2 c3 pl he fr wo se go) _
  refine g_aload_n (i := 1) dd_71_51 rfl ?_
  refine g_getfield (k := 7) am_ck1 (by decide) (Or.inr ⟨_, w_115⟩) dd_71_52 rfl rfl ?_
  refine g_virtual (M' := mi_66) (n := 3) (ci := 10) (b := 40) (as := [.retAddr t, .retAddr he, .retAddr 1]) (st := []) (r1 := (none, (hn_ c1 c2 c3 pl he fr wo se go))) w_645 w_647 ps_66 ⟨lk_66.1, lk_66.2.1, lk_66.2.2, by decide, by decide⟩ rfl rfl rfl (by simp [Value.category]) dd_71_55 (ng_go_s t he hh rfl) ?_
  show am_Good mi_71 58 [some (.ref 40), some (.ref 4), some (.ref 36), some (.retAddr 0), some (.retAddr 0), some (.retAddr 2), some (.retAddr t)] [] (hn_ c1 c2 c3 pl he fr wo se go) _
  refine g_aload_n (i := 0) dd_71_58 rfl ?_
  refine g_aload_n (i := 2) dd_71_59 rfl ?_
  refine g_iload dd_71_60 rfl ?_
  refine g_virtual (M' := mi_67) (n := 2) (ci := 10) (b := 40) (as := [.ref 36, .retAddr t]) (st := []) (r1 := (none, (hn_ c1 c2 c3 (am_as pl t he) he fr ((wo + w) % 4294967296) (se ||| ((1 <<< (am_ag c2 (he * 60 + t) % 32)) % 4294967296 &&& 255)) go))) w_649 w_651 ps_67 ⟨lk_67.1, lk_67.2.1, lk_67.2.2, by decide, by decide⟩ rfl rfl rfl (by simp [Value.category]) dd_71_62 (ng_look_s t ht hh hf hv) ?_
  show am_Good mi_71 65 [some (.ref 40), some (.ref 4), some (.ref 36), some (.retAddr 0), some (.retAddr 0), some (.retAddr 2), some (.retAddr t)] [] (hn_ c1 c2 c3 (am_as pl t he) he fr ((wo + w) % 4294967296) (se ||| ((1 <<< (am_ag c2 (he * 60 + t) % 32)) % 4294967296 &&& 255)) go) _
  refine e_iinc (v := 1) (w := t + 1) dd_71_65 rfl ic_1 (am_nlb_ok rfl) (by decide) (by omega) ?_
  refine g_goto (t := 18) dd_71_68 (by decide) ?_
  exact hg
theorem ng_st0_d {r : am_R} {c1 c2 c3 pl he fr wo se go : Nat} {t : Nat} {b0 b1 w0 w1 : Nat} {q : Nat} (ht : t < 12) (hh : he < 2) (hf : fr ≤ t) (h2 : q < 2) (hne : ¬ q = he) (hb0 : am_ag c3 (0 * 60 + t) = b0) (hb1 : am_ag c3 (1 * 60 + t) = b1) (hw0 : am_ag c1 (0 * 60 + t) = w0) (hw1 : am_ag c1 (1 * 60 + t) = w1) (h90 : w0 ≤ 9) (h91 : w1 ≤ 9) (hq : wi_ 0 0 he b0 b1 w0 w1 = q) (hg : am_Good mi_71 18 [some (.ref 40), some (.ref 4), some (.ref 36), some (.retAddr 0), some (.retAddr 0), some (.retAddr 2), some (.retAddr (t + 1))] [] (hn_ c1 c2 c3 (am_as pl t 4294967292) q (t + 1) wo se ((go + 1) % 4294967296)) r) : am_Good mi_71 18 [some (.ref 40), some (.ref 4), some (.ref 36), some (.retAddr 0), some (.retAddr 0), some (.retAddr 2), some (.retAddr t)] [] (hn_ c1 c2 c3 pl he fr wo se go) r := by
  refine g_iload dd_71_18 rfl ?_
  refine g_aload_n (i := 1) dd_71_20 rfl ?_
  refine g_getfield (k := 6) am_ck1 (by decide) (Or.inr ⟨_, w_107⟩) dd_71_21 rfl rfl ?_
  refine g_icmp_ge_f (t := 71) dd_71_24 (by decide) (tk_ge_f (by omega)) ?_
  refine g_iload dd_71_27 rfl ?_
  refine g_aload_n (i := 0) dd_71_29 rfl ?_
  refine g_getfield (k := 3) am_ck10 (by decide) (Or.inl w_172) dd_71_30 rfl rfl ?_
  refine g_icmp_lt_f (t := 58) dd_71_33 (by decide) (tk_lt_f (by omega)) ?_
  refine g_aload_n (i := 0) dd_71_36 rfl ?_
  refine g_iload dd_71_37 rfl ?_
  refine g_aload_n (i := 0) dd_71_39 rfl ?_
  refine g_aload_n (i := 2) dd_71_40 rfl ?_
  refine g_iload dd_71_41 rfl ?_
  refine g_iload_n (i := 3) dd_71_43 rfl ?_
  refine g_iload dd_71_44 rfl ?_
  refine g_iload dd_71_46 rfl ?_
  refine g_virtual (M' := mi_72) (n := 5) (ci := 10) (b := 40) (as := [.ref 36, .retAddr 2, .retAddr 0, .retAddr 0, .retAddr t]) (st := [.retAddr t, .ref 40]) (r1 := (some (.retAddr q), (hn_ c1 c2 c3 pl he fr wo se go))) w_671 w_673 ps_72 ⟨lk_72.1, lk_72.2.1, lk_72.2.2, by decide, by decide⟩ rfl rfl rfl (by simp [Value.category]) dd_71_48 (ng_wish0 hh ht hb0 hb1 hw0 hw1 h90 h91 hq) ?_
  show am_Good mi_71 51 [some (.ref 40), some (.ref 4), some (.ref 36), some (.retAddr 0), some (.retAddr 0), some (.retAddr 2), some (.retAddr t)] [.retAddr q, .retAddr t, .ref 40] (hn_ c1 c2 c3 pl he fr wo se go) _
  refine g_aload_n (i := 1) dd_71_51 rfl ?_
  refine g_getfield (k := 7) am_ck1 (by decide) (Or.inr ⟨_, w_115⟩) dd_71_52 rfl rfl ?_
  refine g_virtual (M' := mi_66) (n := 3) (ci := 10) (b := 40) (as := [.retAddr t, .retAddr q, .retAddr 1]) (st := []) (r1 := (none, (hn_ c1 c2 c3 pl q (t + 1) wo se ((go + 1) % 4294967296)))) w_645 w_647 ps_66 ⟨lk_66.1, lk_66.2.1, lk_66.2.2, by decide, by decide⟩ rfl rfl rfl (by simp [Value.category]) dd_71_55 (ng_go_d t q ht hh h2 hne) ?_
  show am_Good mi_71 58 [some (.ref 40), some (.ref 4), some (.ref 36), some (.retAddr 0), some (.retAddr 0), some (.retAddr 2), some (.retAddr t)] [] (hn_ c1 c2 c3 pl q (t + 1) wo se ((go + 1) % 4294967296)) _
  refine g_aload_n (i := 0) dd_71_58 rfl ?_
  refine g_aload_n (i := 2) dd_71_59 rfl ?_
  refine g_iload dd_71_60 rfl ?_
  refine g_virtual (M' := mi_67) (n := 2) (ci := 10) (b := 40) (as := [.ref 36, .retAddr t]) (st := []) (r1 := (none, (hn_ c1 c2 c3 (am_as pl t 4294967292) q (t + 1) wo se ((go + 1) % 4294967296)))) w_649 w_651 ps_67 ⟨lk_67.1, lk_67.2.1, lk_67.2.2, by decide, by decide⟩ rfl rfl rfl (by simp [Value.category]) dd_71_62 (ng_look_d t ht (by omega) (by omega)) ?_
  show am_Good mi_71 65 [some (.ref 40), some (.ref 4), some (.ref 36), some (.retAddr 0), some (.retAddr 0), some (.retAddr 2), some (.retAddr t)] [] (hn_ c1 c2 c3 (am_as pl t 4294967292) q (t + 1) wo se ((go + 1) % 4294967296)) _
  refine e_iinc (v := 1) (w := t + 1) dd_71_65 rfl ic_1 (am_nlb_ok rfl) (by decide) (by omega) ?_
  refine g_goto (t := 18) dd_71_68 (by decide) ?_
  exact hg
theorem ng_lp0 {c1 c2 c3 : Nat} {w b : Nat → Nat → Nat} (hw : ∀ s t, s < 2 → t < 12 → am_ag c1 (s * 60 + t) = w s t) (hb : ∀ s t, s < 2 → t < 12 → am_ag c3 (s * 60 + t) = b s t) (h9 : ∀ s t, s < 2 → t < 12 → w s t ≤ 9) : ∀ (m t pl he fr wo se go : Nat), t + m = 12 → he < 2 → fr ≤ t → ∃ pl' he' fr' se', am_Good mi_71 18 [some (.ref 40), some (.ref 4), some (.ref 36), some (.retAddr 0), some (.retAddr 0), some (.retAddr 2), some (.retAddr t)] [] (hn_ c1 c2 c3 pl he fr wo se go) (none, hn_ c1 c2 c3 pl' he' fr' (ws_ w b 0 0 m t he wo go).1 se' (ws_ w b 0 0 m t he wo go).2)
  | 0, t, pl, he, fr, wo, se, go, ht, hh, hf => by
    have e : t = 12 := by omega
    subst e
    refine ⟨pl, he, fr, se, ?_⟩
    show am_Good mi_71 18 [some (.ref 40), some (.ref 4), some (.ref 36), some (.retAddr 0), some (.retAddr 0), some (.retAddr 2), some (.retAddr 12)] [] (hn_ c1 c2 c3 pl he fr wo se go) (none, (hn_ c1 c2 c3 pl he fr wo se go))
    refine g_iload dd_71_18 rfl ?_
    refine g_aload_n (i := 1) dd_71_20 rfl ?_
    refine g_getfield (k := 6) am_ck1 (by decide) (Or.inr ⟨_, w_107⟩) dd_71_21 rfl rfl ?_
    refine g_icmp_ge_t (t := 71) dd_71_24 (by decide) (by decide) ?_
    exact g_return rfl dd_71_71
  | m + 1, t, pl, he, fr, wo, se, go, ht, hh, hf => by
    have b0 := hb 0 t (by omega) (by omega)
    have b1 := hb 1 t (by omega) (by omega)
    have w0 := hw 0 t (by omega) (by omega)
    have w1 := hw 1 t (by omega) (by omega)
    have h90 := h9 0 t (by omega) (by omega)
    have h91 := h9 1 t (by omega) (by omega)
    by_cases hq : wi_ 0 0 he (b 0 t) (b 1 t) (w 0 t) (w 1 t) = he
    · obtain ⟨p1, p2, p3, p4, hg⟩ := ng_lp0 hw hb h9 m (t + 1) (am_as pl t he) he fr ((wo + w he t) % 4294967296) (se ||| ((1 <<< (am_ag c2 (he * 60 + t) % 32)) % 4294967296 &&& 255)) go (by omega) hh (by omega)
      refine ⟨p1, p2, p3, p4, ?_⟩
      rw [ws_s hq]
      exact ng_st0_s (by omega) hh hf (hw he t hh (by omega)) b0 b1 w0 w1 h90 h91 hq hg
    · have h2 := wi_lt (K := 0) (own := 0) (by decide) hh (b 0 t) (b 1 t) (w 0 t) (w 1 t)
      obtain ⟨p1, p2, p3, p4, hg⟩ := ng_lp0 hw hb h9 m (t + 1) (am_as pl t 4294967292) (wi_ 0 0 he (b 0 t) (b 1 t) (w 0 t) (w 1 t)) (t + 1) wo se ((go + 1) % 4294967296) (by omega) h2 (by omega)
      refine ⟨p1, p2, p3, p4, ?_⟩
      rw [ws_d hq]
      exact ng_st0_d (by omega) hh hf h2 hq b0 b1 w0 w1 h90 h91 rfl hg
theorem ng_fk0 {c1 c2 c3 pl he fr wo se go : Nat} {w b : Nat → Nat → Nat} (hw : ∀ s t, s < 2 → t < 12 → am_ag c1 (s * 60 + t) = w s t) (hb : ∀ s t, s < 2 → t < 12 → am_ag c3 (s * 60 + t) = b s t) (h9 : ∀ s t, s < 2 → t < 12 → w s t ≤ 9) : ∃ pl' he' fr' se', am_EG mi_71 [.ref 40, .ref 4, .ref 36, .retAddr 0, .retAddr 0] (hn_ c1 c2 c3 pl he fr wo se go) (none, hn_ c1 c2 c3 pl' he' fr' (ws_ w b 0 0 12 0 0 0 0).1 se' (ws_ w b 0 0 12 0 0 0 0).2) := by
  obtain ⟨p1, p2, p3, p4, hg⟩ := ng_lp0 hw hb h9 12 0 pl 0 0 0 0 0 (by decide) (by decide) (by decide)
  refine ⟨p1, p2, p3, p4, ?_⟩
  refine am_enter (n := 2) tk_71.2.1 (by simp [Value.category]) (Nat.le_of_ble_eq_true rfl) ?_
  show am_Good mi_71 0 [some (.ref 40), some (.ref 4), some (.ref 36), some (.retAddr 0), some (.retAddr 0), none, none] [] (hn_ c1 c2 c3 pl he fr wo se go) _
  refine g_aload_n (i := 0) dd_71_0 rfl ?_
  refine g_iload dd_71_1 rfl ?_
  refine g_virtual (M' := mi_63) (n := 1) (ci := 10) (b := 40) (as := [.retAddr 0]) (st := []) (r1 := (none, (hn_ c1 c2 c3 pl 0 0 0 0 0))) w_633 w_635 ps_63 ⟨lk_63.1, lk_63.2.1, lk_63.2.2, by decide, by decide⟩ rfl rfl rfl (by simp [Value.category]) dd_71_3 (ng_start 0) ?_
  show am_Good mi_71 6 [some (.ref 40), some (.ref 4), some (.ref 36), some (.retAddr 0), some (.retAddr 0), none, none] [] (hn_ c1 c2 c3 pl 0 0 0 0 0) _
  refine g_aload_n (i := 1) dd_71_6 rfl ?_
  refine g_getfield (k := 0) am_ck1 (by decide) (Or.inr ⟨_, w_82⟩) dd_71_7 rfl rfl ?_
  refine g_getfield (k := 3) am_ck8 (by decide) (Or.inr ⟨_, w_62⟩) dd_71_10 rfl rfl ?_
  refine g_istore dd_71_13 (am_nlb_ok rfl) (by decide) ?_
  refine g_iconst dd_71_15 ic_0 ?_
  refine g_istore dd_71_16 (am_nlb_ok rfl) (by decide) ?_
  exact hg
theorem ng_cek0 {c1 c2 c3 pl he fr wo se go : Nat} : am_EG mi_31 [.ref 15, .retAddr 0, .retAddr 0] (hn_ c1 c2 c3 pl he fr wo se go) (some (.retAddr 0), (hn_ c1 c2 c3 pl he fr wo se go)) := by
  refine am_enter (n := 0) tk_31.2.1 (by simp [Value.category]) (Nat.le_of_ble_eq_true rfl) ?_
  show am_Good mi_31 0 [some (.ref 15), some (.retAddr 0), some (.retAddr 0)] [] (hn_ c1 c2 c3 pl he fr wo se go) _
  refine g_iload_n (i := 1) dd_31_0 rfl ?_
  refine g_if_lt_f (t := 24) dd_31_1 (by decide) (by decide) ?_
  refine g_iload_n (i := 1) dd_31_4 rfl ?_
  refine g_aload_n (i := 0) dd_31_5 rfl ?_
  refine g_getfield (k := 3) am_ck8 (by decide) (Or.inl w_60) dd_31_6 rfl rfl ?_
  refine g_icmp_ge_f (t := 24) dd_31_9 (by decide) (by decide) ?_
  refine g_iload_n (i := 2) dd_31_12 rfl ?_
  refine g_if_lt_f (t := 24) dd_31_13 (by decide) (by decide) ?_
  refine g_iload_n (i := 2) dd_31_16 rfl ?_
  refine g_aload_n (i := 0) dd_31_17 rfl ?_
  refine g_getfield (k := 1) am_ck8 (by decide) (Or.inl w_58) dd_31_18 rfl rfl ?_
  refine g_icmp_lt_t (t := 26) dd_31_21 (by decide) (by decide) ?_
  refine g_aload_n (i := 0) dd_31_26 rfl ?_
  refine g_getfield (k := 0) am_ck8 (by decide) (Or.inl w_57) dd_31_27 rfl rfl ?_
  refine g_iload_n (i := 1) dd_31_30 rfl ?_
  refine g_aload_n (i := 0) dd_31_31 rfl ?_
  refine g_getfield (k := 1) am_ck8 (by decide) (Or.inl w_58) dd_31_32 rfl rfl ?_
  refine e_imul (v := 0) dd_31_35 (by decide) ?_
  refine g_iload_n (i := 2) dd_31_36 rfl ?_
  refine e_iadd (v := 0) dd_31_37 (by decide) ?_
  refine g_iaload dd_31_38 rfl (by decide) (by decide) ?_
  show am_Good mi_31 39 [some (.ref 15), some (.retAddr 0), some (.retAddr 0)] [.retAddr 0] (hn_ c1 c2 c3 pl he fr wo se go) _
  exact g_ireturn rfl dd_31_39
theorem ng_kof0 {c1 c2 c3 pl he fr wo se go : Nat} : am_EG mi_69 [.ref 4, .retAddr 0] (hn_ c1 c2 c3 pl he fr wo se go) (some (.retAddr 0), (hn_ c1 c2 c3 pl he fr wo se go)) := by
  refine am_enter (n := 0) tk_69.2.1 (by simp [Value.category]) (Nat.le_of_ble_eq_true rfl) ?_
  show am_Good mi_69 0 [some (.ref 4), some (.retAddr 0)] [] (hn_ c1 c2 c3 pl he fr wo se go) _
  refine g_aload_n (i := 0) dd_69_0 rfl ?_
  refine g_getfield (k := 5) am_ck1 (by decide) (Or.inl w_101) dd_69_1 rfl rfl ?_
  refine g_iload_n (i := 1) dd_69_4 rfl ?_
  refine g_iconst dd_69_5 ic_0 ?_
  refine g_virtual (M' := mi_31) (n := 2) (ci := 8) (b := 15) (as := [.retAddr 0, .retAddr 0]) (st := []) (r1 := (some (.retAddr 0), (hn_ c1 c2 c3 pl he fr wo se go))) w_662 w_450 w_451 ⟨lk_31.1, lk_31.2.1, lk_31.2.2, by decide, by decide⟩ rfl rfl rfl (by simp [Value.category]) dd_69_6 (ng_cek0) ?_
  show am_Good mi_69 9 [some (.ref 4), some (.retAddr 0)] [.retAddr 0] (hn_ c1 c2 c3 pl he fr wo se go) _
  exact g_ireturn rfl dd_69_9
theorem ng_ceo0 {c1 c2 c3 pl he fr wo se go : Nat} : am_EG mi_31 [.ref 15, .retAddr 0, .retAddr 1] (hn_ c1 c2 c3 pl he fr wo se go) (some (.retAddr 0), (hn_ c1 c2 c3 pl he fr wo se go)) := by
  refine am_enter (n := 0) tk_31.2.1 (by simp [Value.category]) (Nat.le_of_ble_eq_true rfl) ?_
  show am_Good mi_31 0 [some (.ref 15), some (.retAddr 0), some (.retAddr 1)] [] (hn_ c1 c2 c3 pl he fr wo se go) _
  refine g_iload_n (i := 1) dd_31_0 rfl ?_
  refine g_if_lt_f (t := 24) dd_31_1 (by decide) (by decide) ?_
  refine g_iload_n (i := 1) dd_31_4 rfl ?_
  refine g_aload_n (i := 0) dd_31_5 rfl ?_
  refine g_getfield (k := 3) am_ck8 (by decide) (Or.inl w_60) dd_31_6 rfl rfl ?_
  refine g_icmp_ge_f (t := 24) dd_31_9 (by decide) (by decide) ?_
  refine g_iload_n (i := 2) dd_31_12 rfl ?_
  refine g_if_lt_f (t := 24) dd_31_13 (by decide) (by decide) ?_
  refine g_iload_n (i := 2) dd_31_16 rfl ?_
  refine g_aload_n (i := 0) dd_31_17 rfl ?_
  refine g_getfield (k := 1) am_ck8 (by decide) (Or.inl w_58) dd_31_18 rfl rfl ?_
  refine g_icmp_lt_t (t := 26) dd_31_21 (by decide) (by decide) ?_
  refine g_aload_n (i := 0) dd_31_26 rfl ?_
  refine g_getfield (k := 0) am_ck8 (by decide) (Or.inl w_57) dd_31_27 rfl rfl ?_
  refine g_iload_n (i := 1) dd_31_30 rfl ?_
  refine g_aload_n (i := 0) dd_31_31 rfl ?_
  refine g_getfield (k := 1) am_ck8 (by decide) (Or.inl w_58) dd_31_32 rfl rfl ?_
  refine e_imul (v := 0) dd_31_35 (by decide) ?_
  refine g_iload_n (i := 2) dd_31_36 rfl ?_
  refine e_iadd (v := 1) dd_31_37 (by decide) ?_
  refine g_iaload dd_31_38 rfl (by decide) (by decide) ?_
  show am_Good mi_31 39 [some (.ref 15), some (.retAddr 0), some (.retAddr 1)] [.retAddr 0] (hn_ c1 c2 c3 pl he fr wo se go) _
  exact g_ireturn rfl dd_31_39
theorem ng_oof0 {c1 c2 c3 pl he fr wo se go : Nat} : am_EG mi_70 [.ref 4, .retAddr 0] (hn_ c1 c2 c3 pl he fr wo se go) (some (.retAddr 0), (hn_ c1 c2 c3 pl he fr wo se go)) := by
  refine am_enter (n := 0) tk_70.2.1 (by simp [Value.category]) (Nat.le_of_ble_eq_true rfl) ?_
  show am_Good mi_70 0 [some (.ref 4), some (.retAddr 0)] [] (hn_ c1 c2 c3 pl he fr wo se go) _
  refine g_aload_n (i := 0) dd_70_0 rfl ?_
  refine g_getfield (k := 5) am_ck1 (by decide) (Or.inl w_101) dd_70_1 rfl rfl ?_
  refine g_iload_n (i := 1) dd_70_4 rfl ?_
  refine g_iconst dd_70_5 ic_1 ?_
  refine g_virtual (M' := mi_31) (n := 2) (ci := 8) (b := 15) (as := [.retAddr 0, .retAddr 1]) (st := []) (r1 := (some (.retAddr 0), (hn_ c1 c2 c3 pl he fr wo se go))) w_662 w_450 w_451 ⟨lk_31.1, lk_31.2.1, lk_31.2.2, by decide, by decide⟩ rfl rfl rfl (by simp [Value.category]) dd_70_6 (ng_ceo0) ?_
  show am_Good mi_70 9 [some (.ref 4), some (.retAddr 0)] [.retAddr 0] (hn_ c1 c2 c3 pl he fr wo se go) _
  exact g_ireturn rfl dd_70_9
theorem ng_fo0 {c1 c2 c3 pl he fr wo se go : Nat} {w b : Nat → Nat → Nat} (hw : ∀ s t, s < 2 → t < 12 → am_ag c1 (s * 60 + t) = w s t) (hb : ∀ s t, s < 2 → t < 12 → am_ag c3 (s * 60 + t) = b s t) (h9 : ∀ s t, s < 2 → t < 12 → w s t ≤ 9) : ∃ pl' he' fr' se', am_EG mi_60 [.ref 0, .retAddr 0, .ref 36] (hn_ c1 c2 c3 pl he fr wo se go) (none, hn_ c1 c2 c3 pl' he' fr' (ws_ w b 0 0 12 0 0 0 0).1 se' (ws_ w b 0 0 12 0 0 0 0).2) := by
  obtain ⟨p1, p2, p3, p4, hg⟩ := ng_fk0 (pl := pl) (he := he) (fr := fr) (wo := wo) (se := se) (go := go) hw hb h9
  refine ⟨p1, p2, p3, p4, ?_⟩
  refine am_enter (n := 0) tk_60.2.1 (by simp [Value.category]) (Nat.le_of_ble_eq_true rfl) ?_
  show am_Good mi_60 0 [some (.ref 0), some (.retAddr 0), some (.ref 36)] [] (hn_ c1 c2 c3 pl he fr wo se go) _
  refine g_iload_n (i := 1) dd_60_0 rfl ?_
  refine g_iconst dd_60_1 ic_m1 ?_
  refine g_icmp_ne_t (t := 24) dd_60_2 (by decide) (by decide) ?_
  refine g_aload_n (i := 0) dd_60_24 rfl ?_
  refine g_getfield (k := 8) am_ck11 (by decide) (Or.inl w_519) dd_60_25 rfl rfl ?_
  refine g_aload_n (i := 0) dd_60_28 rfl ?_
  refine g_getfield (k := 3) am_ck11 (by decide) (Or.inl w_514) dd_60_29 rfl rfl ?_
  refine g_aload_n (i := 2) dd_60_32 rfl ?_
  refine g_aload_n (i := 0) dd_60_33 rfl ?_
  refine g_getfield (k := 3) am_ck11 (by decide) (Or.inl w_514) dd_60_34 rfl rfl ?_
  refine g_iload_n (i := 1) dd_60_37 rfl ?_
  refine g_virtual (M' := mi_69) (n := 1) (ci := 1) (b := 4) (as := [.retAddr 0]) (st := [.ref 36, .ref 4, .ref 40]) (r1 := (some (.retAddr 0), (hn_ c1 c2 c3 pl he fr wo se go))) w_658 w_659 w_660 ⟨lk_69.1, lk_69.2.1, lk_69.2.2, by decide, by decide⟩ rfl rfl rfl (by simp [Value.category]) dd_60_38 (ng_kof0) ?_
  show am_Good mi_60 41 [some (.ref 0), some (.retAddr 0), some (.ref 36)] [.retAddr 0, .ref 36, .ref 4, .ref 40] (hn_ c1 c2 c3 pl he fr wo se go) _
  refine g_aload_n (i := 0) dd_60_41 rfl ?_
  refine g_getfield (k := 3) am_ck11 (by decide) (Or.inl w_514) dd_60_42 rfl rfl ?_
  refine g_iload_n (i := 1) dd_60_45 rfl ?_
  refine g_virtual (M' := mi_70) (n := 1) (ci := 1) (b := 4) (as := [.retAddr 0]) (st := [.retAddr 0, .ref 36, .ref 4, .ref 40]) (r1 := (some (.retAddr 0), (hn_ c1 c2 c3 pl he fr wo se go))) w_663 w_664 w_665 ⟨lk_70.1, lk_70.2.1, lk_70.2.2, by decide, by decide⟩ rfl rfl rfl (by simp [Value.category]) dd_60_46 (ng_oof0) ?_
  show am_Good mi_60 49 [some (.ref 0), some (.retAddr 0), some (.ref 36)] [.retAddr 0, .retAddr 0, .ref 36, .ref 4, .ref 40] (hn_ c1 c2 c3 pl he fr wo se go) _
  refine g_virtual (M' := mi_71) (n := 4) (ci := 10) (b := 40) (as := [.ref 4, .ref 36, .retAddr 0, .retAddr 0]) (st := []) (r1 := (none, (hn_ c1 c2 c3 p1 p2 p3 ((ws_ w b 0 0 12 0 0 0 0).1) p4 ((ws_ w b 0 0 12 0 0 0 0).2)))) w_667 w_668 w_669 ⟨lk_71.1, lk_71.2.1, lk_71.2.2, by decide, by decide⟩ rfl rfl rfl (by simp [Value.category]) dd_60_49 (hg) ?_
  show am_Good mi_60 52 [some (.ref 0), some (.retAddr 0), some (.ref 36)] [] (hn_ c1 c2 c3 p1 p2 p3 ((ws_ w b 0 0 12 0 0 0 0).1) p4 ((ws_ w b 0 0 12 0 0 0 0).2)) _
  exact g_return rfl dd_60_52
theorem ng_st1_s {r : am_R} {c1 c2 c3 pl he fr wo se go : Nat} {t w : Nat} {b0 b1 w0 w1 : Nat} (ht : t < 12) (hh : he < 2) (hf : fr ≤ t) (hv : am_ag c1 (he * 60 + t) = w) (hb0 : am_ag c3 (0 * 60 + t) = b0) (hb1 : am_ag c3 (1 * 60 + t) = b1) (hw0 : am_ag c1 (0 * 60 + t) = w0) (hw1 : am_ag c1 (1 * 60 + t) = w1) (h90 : w0 ≤ 9) (h91 : w1 ≤ 9) (hq : wi_ 1 0 he b0 b1 w0 w1 = he) (hg : am_Good mi_71 18 [some (.ref 40), some (.ref 4), some (.ref 36), some (.retAddr 1), some (.retAddr 0), some (.retAddr 2), some (.retAddr (t + 1))] [] (hn_ c1 c2 c3 (am_as pl t he) he fr ((wo + w) % 4294967296) (se ||| ((1 <<< (am_ag c2 (he * 60 + t) % 32)) % 4294967296 &&& 255)) go) r) : am_Good mi_71 18 [some (.ref 40), some (.ref 4), some (.ref 36), some (.retAddr 1), some (.retAddr 0), some (.retAddr 2), some (.retAddr t)] [] (hn_ c1 c2 c3 pl he fr wo se go) r := by
  refine g_iload dd_71_18 rfl ?_
  refine g_aload_n (i := 1) dd_71_20 rfl ?_
  refine g_getfield (k := 6) am_ck1 (by decide) (Or.inr ⟨_, w_107⟩) dd_71_21 rfl rfl ?_
  refine g_icmp_ge_f (t := 71) dd_71_24 (by decide) (tk_ge_f (by omega)) ?_
  refine g_iload dd_71_27 rfl ?_
  refine g_aload_n (i := 0) dd_71_29 rfl ?_
  refine g_getfield (k := 3) am_ck10 (by decide) (Or.inl w_172) dd_71_30 rfl rfl ?_
  refine g_icmp_lt_f (t := 58) dd_71_33 (by decide) (tk_lt_f (by omega)) ?_
  refine g_aload_n (i := 0) dd_71_36 rfl ?_
  refine g_iload dd_71_37 rfl ?_
  refine g_aload_n (i := 0) dd_71_39 rfl ?_
  refine g_aload_n (i := 2) dd_71_40 rfl ?_
  refine g_iload dd_71_41 rfl ?_
  refine g_iload_n (i := 3) dd_71_43 rfl ?_
  refine g_iload dd_71_44 rfl ?_
  refine g_iload dd_71_46 rfl ?_
  refine g_virtual (M' := mi_72) (n := 5) (ci := 10) (b := 40) (as := [.ref 36, .retAddr 2, .retAddr 1, .retAddr 0, .retAddr t]) (st := [.retAddr t, .ref 40]) (r1 := (some (.retAddr he), (hn_ c1 c2 c3 pl he fr wo se go))) w_671 w_673 ps_72 ⟨lk_72.1, lk_72.2.1, lk_72.2.2, by decide, by decide⟩ rfl rfl rfl (by simp [Value.category]) dd_71_48 (ng_wish1 hh ht hb0 hb1 hw0 hw1 h90 h91 hq) ?_
  show am_Good mi_71 51 [some (.ref 40), some (.ref 4), some (.ref 36), some (.retAddr 1), some (.retAddr 0), some (.retAddr 2), some (.retAddr t)] [.retAddr he, .retAddr t, .ref 40] (hn_ c1 c2 c3 pl he fr wo se go) _
  refine g_aload_n (i := 1) dd_71_51 rfl ?_
  refine g_getfield (k := 7) am_ck1 (by decide) (Or.inr ⟨_, w_115⟩) dd_71_52 rfl rfl ?_
  refine g_virtual (M' := mi_66) (n := 3) (ci := 10) (b := 40) (as := [.retAddr t, .retAddr he, .retAddr 1]) (st := []) (r1 := (none, (hn_ c1 c2 c3 pl he fr wo se go))) w_645 w_647 ps_66 ⟨lk_66.1, lk_66.2.1, lk_66.2.2, by decide, by decide⟩ rfl rfl rfl (by simp [Value.category]) dd_71_55 (ng_go_s t he hh rfl) ?_
  show am_Good mi_71 58 [some (.ref 40), some (.ref 4), some (.ref 36), some (.retAddr 1), some (.retAddr 0), some (.retAddr 2), some (.retAddr t)] [] (hn_ c1 c2 c3 pl he fr wo se go) _
  refine g_aload_n (i := 0) dd_71_58 rfl ?_
  refine g_aload_n (i := 2) dd_71_59 rfl ?_
  refine g_iload dd_71_60 rfl ?_
  refine g_virtual (M' := mi_67) (n := 2) (ci := 10) (b := 40) (as := [.ref 36, .retAddr t]) (st := []) (r1 := (none, (hn_ c1 c2 c3 (am_as pl t he) he fr ((wo + w) % 4294967296) (se ||| ((1 <<< (am_ag c2 (he * 60 + t) % 32)) % 4294967296 &&& 255)) go))) w_649 w_651 ps_67 ⟨lk_67.1, lk_67.2.1, lk_67.2.2, by decide, by decide⟩ rfl rfl rfl (by simp [Value.category]) dd_71_62 (ng_look_s t ht hh hf hv) ?_
  show am_Good mi_71 65 [some (.ref 40), some (.ref 4), some (.ref 36), some (.retAddr 1), some (.retAddr 0), some (.retAddr 2), some (.retAddr t)] [] (hn_ c1 c2 c3 (am_as pl t he) he fr ((wo + w) % 4294967296) (se ||| ((1 <<< (am_ag c2 (he * 60 + t) % 32)) % 4294967296 &&& 255)) go) _
  refine e_iinc (v := 1) (w := t + 1) dd_71_65 rfl ic_1 (am_nlb_ok rfl) (by decide) (by omega) ?_
  refine g_goto (t := 18) dd_71_68 (by decide) ?_
  exact hg
theorem ng_st1_d {r : am_R} {c1 c2 c3 pl he fr wo se go : Nat} {t : Nat} {b0 b1 w0 w1 : Nat} {q : Nat} (ht : t < 12) (hh : he < 2) (hf : fr ≤ t) (h2 : q < 2) (hne : ¬ q = he) (hb0 : am_ag c3 (0 * 60 + t) = b0) (hb1 : am_ag c3 (1 * 60 + t) = b1) (hw0 : am_ag c1 (0 * 60 + t) = w0) (hw1 : am_ag c1 (1 * 60 + t) = w1) (h90 : w0 ≤ 9) (h91 : w1 ≤ 9) (hq : wi_ 1 0 he b0 b1 w0 w1 = q) (hg : am_Good mi_71 18 [some (.ref 40), some (.ref 4), some (.ref 36), some (.retAddr 1), some (.retAddr 0), some (.retAddr 2), some (.retAddr (t + 1))] [] (hn_ c1 c2 c3 (am_as pl t 4294967292) q (t + 1) wo se ((go + 1) % 4294967296)) r) : am_Good mi_71 18 [some (.ref 40), some (.ref 4), some (.ref 36), some (.retAddr 1), some (.retAddr 0), some (.retAddr 2), some (.retAddr t)] [] (hn_ c1 c2 c3 pl he fr wo se go) r := by
  refine g_iload dd_71_18 rfl ?_
  refine g_aload_n (i := 1) dd_71_20 rfl ?_
  refine g_getfield (k := 6) am_ck1 (by decide) (Or.inr ⟨_, w_107⟩) dd_71_21 rfl rfl ?_
  refine g_icmp_ge_f (t := 71) dd_71_24 (by decide) (tk_ge_f (by omega)) ?_
  refine g_iload dd_71_27 rfl ?_
  refine g_aload_n (i := 0) dd_71_29 rfl ?_
  refine g_getfield (k := 3) am_ck10 (by decide) (Or.inl w_172) dd_71_30 rfl rfl ?_
  refine g_icmp_lt_f (t := 58) dd_71_33 (by decide) (tk_lt_f (by omega)) ?_
  refine g_aload_n (i := 0) dd_71_36 rfl ?_
  refine g_iload dd_71_37 rfl ?_
  refine g_aload_n (i := 0) dd_71_39 rfl ?_
  refine g_aload_n (i := 2) dd_71_40 rfl ?_
  refine g_iload dd_71_41 rfl ?_
  refine g_iload_n (i := 3) dd_71_43 rfl ?_
  refine g_iload dd_71_44 rfl ?_
  refine g_iload dd_71_46 rfl ?_
  refine g_virtual (M' := mi_72) (n := 5) (ci := 10) (b := 40) (as := [.ref 36, .retAddr 2, .retAddr 1, .retAddr 0, .retAddr t]) (st := [.retAddr t, .ref 40]) (r1 := (some (.retAddr q), (hn_ c1 c2 c3 pl he fr wo se go))) w_671 w_673 ps_72 ⟨lk_72.1, lk_72.2.1, lk_72.2.2, by decide, by decide⟩ rfl rfl rfl (by simp [Value.category]) dd_71_48 (ng_wish1 hh ht hb0 hb1 hw0 hw1 h90 h91 hq) ?_
  show am_Good mi_71 51 [some (.ref 40), some (.ref 4), some (.ref 36), some (.retAddr 1), some (.retAddr 0), some (.retAddr 2), some (.retAddr t)] [.retAddr q, .retAddr t, .ref 40] (hn_ c1 c2 c3 pl he fr wo se go) _
  refine g_aload_n (i := 1) dd_71_51 rfl ?_
  refine g_getfield (k := 7) am_ck1 (by decide) (Or.inr ⟨_, w_115⟩) dd_71_52 rfl rfl ?_
  refine g_virtual (M' := mi_66) (n := 3) (ci := 10) (b := 40) (as := [.retAddr t, .retAddr q, .retAddr 1]) (st := []) (r1 := (none, (hn_ c1 c2 c3 pl q (t + 1) wo se ((go + 1) % 4294967296)))) w_645 w_647 ps_66 ⟨lk_66.1, lk_66.2.1, lk_66.2.2, by decide, by decide⟩ rfl rfl rfl (by simp [Value.category]) dd_71_55 (ng_go_d t q ht hh h2 hne) ?_
  show am_Good mi_71 58 [some (.ref 40), some (.ref 4), some (.ref 36), some (.retAddr 1), some (.retAddr 0), some (.retAddr 2), some (.retAddr t)] [] (hn_ c1 c2 c3 pl q (t + 1) wo se ((go + 1) % 4294967296)) _
  refine g_aload_n (i := 0) dd_71_58 rfl ?_
  refine g_aload_n (i := 2) dd_71_59 rfl ?_
  refine g_iload dd_71_60 rfl ?_
  refine g_virtual (M' := mi_67) (n := 2) (ci := 10) (b := 40) (as := [.ref 36, .retAddr t]) (st := []) (r1 := (none, (hn_ c1 c2 c3 (am_as pl t 4294967292) q (t + 1) wo se ((go + 1) % 4294967296)))) w_649 w_651 ps_67 ⟨lk_67.1, lk_67.2.1, lk_67.2.2, by decide, by decide⟩ rfl rfl rfl (by simp [Value.category]) dd_71_62 (ng_look_d t ht (by omega) (by omega)) ?_
  show am_Good mi_71 65 [some (.ref 40), some (.ref 4), some (.ref 36), some (.retAddr 1), some (.retAddr 0), some (.retAddr 2), some (.retAddr t)] [] (hn_ c1 c2 c3 (am_as pl t 4294967292) q (t + 1) wo se ((go + 1) % 4294967296)) _
  refine e_iinc (v := 1) (w := t + 1) dd_71_65 rfl ic_1 (am_nlb_ok rfl) (by decide) (by omega) ?_
  refine g_goto (t := 18) dd_71_68 (by decide) ?_
  exact hg
theorem ng_lp1 {c1 c2 c3 : Nat} {w b : Nat → Nat → Nat} (hw : ∀ s t, s < 2 → t < 12 → am_ag c1 (s * 60 + t) = w s t) (hb : ∀ s t, s < 2 → t < 12 → am_ag c3 (s * 60 + t) = b s t) (h9 : ∀ s t, s < 2 → t < 12 → w s t ≤ 9) : ∀ (m t pl he fr wo se go : Nat), t + m = 12 → he < 2 → fr ≤ t → ∃ pl' he' fr' se', am_Good mi_71 18 [some (.ref 40), some (.ref 4), some (.ref 36), some (.retAddr 1), some (.retAddr 0), some (.retAddr 2), some (.retAddr t)] [] (hn_ c1 c2 c3 pl he fr wo se go) (none, hn_ c1 c2 c3 pl' he' fr' (ws_ w b 1 0 m t he wo go).1 se' (ws_ w b 1 0 m t he wo go).2)
  | 0, t, pl, he, fr, wo, se, go, ht, hh, hf => by
    have e : t = 12 := by omega
    subst e
    refine ⟨pl, he, fr, se, ?_⟩
    show am_Good mi_71 18 [some (.ref 40), some (.ref 4), some (.ref 36), some (.retAddr 1), some (.retAddr 0), some (.retAddr 2), some (.retAddr 12)] [] (hn_ c1 c2 c3 pl he fr wo se go) (none, (hn_ c1 c2 c3 pl he fr wo se go))
    refine g_iload dd_71_18 rfl ?_
    refine g_aload_n (i := 1) dd_71_20 rfl ?_
    refine g_getfield (k := 6) am_ck1 (by decide) (Or.inr ⟨_, w_107⟩) dd_71_21 rfl rfl ?_
    refine g_icmp_ge_t (t := 71) dd_71_24 (by decide) (by decide) ?_
    exact g_return rfl dd_71_71
  | m + 1, t, pl, he, fr, wo, se, go, ht, hh, hf => by
    have b0 := hb 0 t (by omega) (by omega)
    have b1 := hb 1 t (by omega) (by omega)
    have w0 := hw 0 t (by omega) (by omega)
    have w1 := hw 1 t (by omega) (by omega)
    have h90 := h9 0 t (by omega) (by omega)
    have h91 := h9 1 t (by omega) (by omega)
    by_cases hq : wi_ 1 0 he (b 0 t) (b 1 t) (w 0 t) (w 1 t) = he
    · obtain ⟨p1, p2, p3, p4, hg⟩ := ng_lp1 hw hb h9 m (t + 1) (am_as pl t he) he fr ((wo + w he t) % 4294967296) (se ||| ((1 <<< (am_ag c2 (he * 60 + t) % 32)) % 4294967296 &&& 255)) go (by omega) hh (by omega)
      refine ⟨p1, p2, p3, p4, ?_⟩
      rw [ws_s hq]
      exact ng_st1_s (by omega) hh hf (hw he t hh (by omega)) b0 b1 w0 w1 h90 h91 hq hg
    · have h2 := wi_lt (K := 1) (own := 0) (by decide) hh (b 0 t) (b 1 t) (w 0 t) (w 1 t)
      obtain ⟨p1, p2, p3, p4, hg⟩ := ng_lp1 hw hb h9 m (t + 1) (am_as pl t 4294967292) (wi_ 1 0 he (b 0 t) (b 1 t) (w 0 t) (w 1 t)) (t + 1) wo se ((go + 1) % 4294967296) (by omega) h2 (by omega)
      refine ⟨p1, p2, p3, p4, ?_⟩
      rw [ws_d hq]
      exact ng_st1_d (by omega) hh hf h2 hq b0 b1 w0 w1 h90 h91 rfl hg
theorem ng_fk1 {c1 c2 c3 pl he fr wo se go : Nat} {w b : Nat → Nat → Nat} (hw : ∀ s t, s < 2 → t < 12 → am_ag c1 (s * 60 + t) = w s t) (hb : ∀ s t, s < 2 → t < 12 → am_ag c3 (s * 60 + t) = b s t) (h9 : ∀ s t, s < 2 → t < 12 → w s t ≤ 9) : ∃ pl' he' fr' se', am_EG mi_71 [.ref 40, .ref 4, .ref 36, .retAddr 1, .retAddr 0] (hn_ c1 c2 c3 pl he fr wo se go) (none, hn_ c1 c2 c3 pl' he' fr' (ws_ w b 1 0 12 0 0 0 0).1 se' (ws_ w b 1 0 12 0 0 0 0).2) := by
  obtain ⟨p1, p2, p3, p4, hg⟩ := ng_lp1 hw hb h9 12 0 pl 0 0 0 0 0 (by decide) (by decide) (by decide)
  refine ⟨p1, p2, p3, p4, ?_⟩
  refine am_enter (n := 2) tk_71.2.1 (by simp [Value.category]) (Nat.le_of_ble_eq_true rfl) ?_
  show am_Good mi_71 0 [some (.ref 40), some (.ref 4), some (.ref 36), some (.retAddr 1), some (.retAddr 0), none, none] [] (hn_ c1 c2 c3 pl he fr wo se go) _
  refine g_aload_n (i := 0) dd_71_0 rfl ?_
  refine g_iload dd_71_1 rfl ?_
  refine g_virtual (M' := mi_63) (n := 1) (ci := 10) (b := 40) (as := [.retAddr 0]) (st := []) (r1 := (none, (hn_ c1 c2 c3 pl 0 0 0 0 0))) w_633 w_635 ps_63 ⟨lk_63.1, lk_63.2.1, lk_63.2.2, by decide, by decide⟩ rfl rfl rfl (by simp [Value.category]) dd_71_3 (ng_start 0) ?_
  show am_Good mi_71 6 [some (.ref 40), some (.ref 4), some (.ref 36), some (.retAddr 1), some (.retAddr 0), none, none] [] (hn_ c1 c2 c3 pl 0 0 0 0 0) _
  refine g_aload_n (i := 1) dd_71_6 rfl ?_
  refine g_getfield (k := 0) am_ck1 (by decide) (Or.inr ⟨_, w_82⟩) dd_71_7 rfl rfl ?_
  refine g_getfield (k := 3) am_ck8 (by decide) (Or.inr ⟨_, w_62⟩) dd_71_10 rfl rfl ?_
  refine g_istore dd_71_13 (am_nlb_ok rfl) (by decide) ?_
  refine g_iconst dd_71_15 ic_0 ?_
  refine g_istore dd_71_16 (am_nlb_ok rfl) (by decide) ?_
  exact hg
theorem ng_cek1 {c1 c2 c3 pl he fr wo se go : Nat} : am_EG mi_31 [.ref 15, .retAddr 1, .retAddr 0] (hn_ c1 c2 c3 pl he fr wo se go) (some (.retAddr 1), (hn_ c1 c2 c3 pl he fr wo se go)) := by
  refine am_enter (n := 0) tk_31.2.1 (by simp [Value.category]) (Nat.le_of_ble_eq_true rfl) ?_
  show am_Good mi_31 0 [some (.ref 15), some (.retAddr 1), some (.retAddr 0)] [] (hn_ c1 c2 c3 pl he fr wo se go) _
  refine g_iload_n (i := 1) dd_31_0 rfl ?_
  refine g_if_lt_f (t := 24) dd_31_1 (by decide) (by decide) ?_
  refine g_iload_n (i := 1) dd_31_4 rfl ?_
  refine g_aload_n (i := 0) dd_31_5 rfl ?_
  refine g_getfield (k := 3) am_ck8 (by decide) (Or.inl w_60) dd_31_6 rfl rfl ?_
  refine g_icmp_ge_f (t := 24) dd_31_9 (by decide) (by decide) ?_
  refine g_iload_n (i := 2) dd_31_12 rfl ?_
  refine g_if_lt_f (t := 24) dd_31_13 (by decide) (by decide) ?_
  refine g_iload_n (i := 2) dd_31_16 rfl ?_
  refine g_aload_n (i := 0) dd_31_17 rfl ?_
  refine g_getfield (k := 1) am_ck8 (by decide) (Or.inl w_58) dd_31_18 rfl rfl ?_
  refine g_icmp_lt_t (t := 26) dd_31_21 (by decide) (by decide) ?_
  refine g_aload_n (i := 0) dd_31_26 rfl ?_
  refine g_getfield (k := 0) am_ck8 (by decide) (Or.inl w_57) dd_31_27 rfl rfl ?_
  refine g_iload_n (i := 1) dd_31_30 rfl ?_
  refine g_aload_n (i := 0) dd_31_31 rfl ?_
  refine g_getfield (k := 1) am_ck8 (by decide) (Or.inl w_58) dd_31_32 rfl rfl ?_
  refine e_imul (v := 2) dd_31_35 (by decide) ?_
  refine g_iload_n (i := 2) dd_31_36 rfl ?_
  refine e_iadd (v := 2) dd_31_37 (by decide) ?_
  refine g_iaload dd_31_38 rfl (by decide) (by decide) ?_
  show am_Good mi_31 39 [some (.ref 15), some (.retAddr 1), some (.retAddr 0)] [.retAddr 1] (hn_ c1 c2 c3 pl he fr wo se go) _
  exact g_ireturn rfl dd_31_39
theorem ng_kof1 {c1 c2 c3 pl he fr wo se go : Nat} : am_EG mi_69 [.ref 4, .retAddr 1] (hn_ c1 c2 c3 pl he fr wo se go) (some (.retAddr 1), (hn_ c1 c2 c3 pl he fr wo se go)) := by
  refine am_enter (n := 0) tk_69.2.1 (by simp [Value.category]) (Nat.le_of_ble_eq_true rfl) ?_
  show am_Good mi_69 0 [some (.ref 4), some (.retAddr 1)] [] (hn_ c1 c2 c3 pl he fr wo se go) _
  refine g_aload_n (i := 0) dd_69_0 rfl ?_
  refine g_getfield (k := 5) am_ck1 (by decide) (Or.inl w_101) dd_69_1 rfl rfl ?_
  refine g_iload_n (i := 1) dd_69_4 rfl ?_
  refine g_iconst dd_69_5 ic_0 ?_
  refine g_virtual (M' := mi_31) (n := 2) (ci := 8) (b := 15) (as := [.retAddr 1, .retAddr 0]) (st := []) (r1 := (some (.retAddr 1), (hn_ c1 c2 c3 pl he fr wo se go))) w_662 w_450 w_451 ⟨lk_31.1, lk_31.2.1, lk_31.2.2, by decide, by decide⟩ rfl rfl rfl (by simp [Value.category]) dd_69_6 (ng_cek1) ?_
  show am_Good mi_69 9 [some (.ref 4), some (.retAddr 1)] [.retAddr 1] (hn_ c1 c2 c3 pl he fr wo se go) _
  exact g_ireturn rfl dd_69_9
theorem ng_ceo1 {c1 c2 c3 pl he fr wo se go : Nat} : am_EG mi_31 [.ref 15, .retAddr 1, .retAddr 1] (hn_ c1 c2 c3 pl he fr wo se go) (some (.retAddr 0), (hn_ c1 c2 c3 pl he fr wo se go)) := by
  refine am_enter (n := 0) tk_31.2.1 (by simp [Value.category]) (Nat.le_of_ble_eq_true rfl) ?_
  show am_Good mi_31 0 [some (.ref 15), some (.retAddr 1), some (.retAddr 1)] [] (hn_ c1 c2 c3 pl he fr wo se go) _
  refine g_iload_n (i := 1) dd_31_0 rfl ?_
  refine g_if_lt_f (t := 24) dd_31_1 (by decide) (by decide) ?_
  refine g_iload_n (i := 1) dd_31_4 rfl ?_
  refine g_aload_n (i := 0) dd_31_5 rfl ?_
  refine g_getfield (k := 3) am_ck8 (by decide) (Or.inl w_60) dd_31_6 rfl rfl ?_
  refine g_icmp_ge_f (t := 24) dd_31_9 (by decide) (by decide) ?_
  refine g_iload_n (i := 2) dd_31_12 rfl ?_
  refine g_if_lt_f (t := 24) dd_31_13 (by decide) (by decide) ?_
  refine g_iload_n (i := 2) dd_31_16 rfl ?_
  refine g_aload_n (i := 0) dd_31_17 rfl ?_
  refine g_getfield (k := 1) am_ck8 (by decide) (Or.inl w_58) dd_31_18 rfl rfl ?_
  refine g_icmp_lt_t (t := 26) dd_31_21 (by decide) (by decide) ?_
  refine g_aload_n (i := 0) dd_31_26 rfl ?_
  refine g_getfield (k := 0) am_ck8 (by decide) (Or.inl w_57) dd_31_27 rfl rfl ?_
  refine g_iload_n (i := 1) dd_31_30 rfl ?_
  refine g_aload_n (i := 0) dd_31_31 rfl ?_
  refine g_getfield (k := 1) am_ck8 (by decide) (Or.inl w_58) dd_31_32 rfl rfl ?_
  refine e_imul (v := 2) dd_31_35 (by decide) ?_
  refine g_iload_n (i := 2) dd_31_36 rfl ?_
  refine e_iadd (v := 3) dd_31_37 (by decide) ?_
  refine g_iaload dd_31_38 rfl (by decide) (by decide) ?_
  show am_Good mi_31 39 [some (.ref 15), some (.retAddr 1), some (.retAddr 1)] [.retAddr 0] (hn_ c1 c2 c3 pl he fr wo se go) _
  exact g_ireturn rfl dd_31_39
theorem ng_oof1 {c1 c2 c3 pl he fr wo se go : Nat} : am_EG mi_70 [.ref 4, .retAddr 1] (hn_ c1 c2 c3 pl he fr wo se go) (some (.retAddr 0), (hn_ c1 c2 c3 pl he fr wo se go)) := by
  refine am_enter (n := 0) tk_70.2.1 (by simp [Value.category]) (Nat.le_of_ble_eq_true rfl) ?_
  show am_Good mi_70 0 [some (.ref 4), some (.retAddr 1)] [] (hn_ c1 c2 c3 pl he fr wo se go) _
  refine g_aload_n (i := 0) dd_70_0 rfl ?_
  refine g_getfield (k := 5) am_ck1 (by decide) (Or.inl w_101) dd_70_1 rfl rfl ?_
  refine g_iload_n (i := 1) dd_70_4 rfl ?_
  refine g_iconst dd_70_5 ic_1 ?_
  refine g_virtual (M' := mi_31) (n := 2) (ci := 8) (b := 15) (as := [.retAddr 1, .retAddr 1]) (st := []) (r1 := (some (.retAddr 0), (hn_ c1 c2 c3 pl he fr wo se go))) w_662 w_450 w_451 ⟨lk_31.1, lk_31.2.1, lk_31.2.2, by decide, by decide⟩ rfl rfl rfl (by simp [Value.category]) dd_70_6 (ng_ceo1) ?_
  show am_Good mi_70 9 [some (.ref 4), some (.retAddr 1)] [.retAddr 0] (hn_ c1 c2 c3 pl he fr wo se go) _
  exact g_ireturn rfl dd_70_9
theorem ng_fo1 {c1 c2 c3 pl he fr wo se go : Nat} {w b : Nat → Nat → Nat} (hw : ∀ s t, s < 2 → t < 12 → am_ag c1 (s * 60 + t) = w s t) (hb : ∀ s t, s < 2 → t < 12 → am_ag c3 (s * 60 + t) = b s t) (h9 : ∀ s t, s < 2 → t < 12 → w s t ≤ 9) : ∃ pl' he' fr' se', am_EG mi_60 [.ref 0, .retAddr 1, .ref 36] (hn_ c1 c2 c3 pl he fr wo se go) (none, hn_ c1 c2 c3 pl' he' fr' (ws_ w b 1 0 12 0 0 0 0).1 se' (ws_ w b 1 0 12 0 0 0 0).2) := by
  obtain ⟨p1, p2, p3, p4, hg⟩ := ng_fk1 (pl := pl) (he := he) (fr := fr) (wo := wo) (se := se) (go := go) hw hb h9
  refine ⟨p1, p2, p3, p4, ?_⟩
  refine am_enter (n := 0) tk_60.2.1 (by simp [Value.category]) (Nat.le_of_ble_eq_true rfl) ?_
  show am_Good mi_60 0 [some (.ref 0), some (.retAddr 1), some (.ref 36)] [] (hn_ c1 c2 c3 pl he fr wo se go) _
  refine g_iload_n (i := 1) dd_60_0 rfl ?_
  refine g_iconst dd_60_1 ic_m1 ?_
  refine g_icmp_ne_t (t := 24) dd_60_2 (by decide) (by decide) ?_
  refine g_aload_n (i := 0) dd_60_24 rfl ?_
  refine g_getfield (k := 8) am_ck11 (by decide) (Or.inl w_519) dd_60_25 rfl rfl ?_
  refine g_aload_n (i := 0) dd_60_28 rfl ?_
  refine g_getfield (k := 3) am_ck11 (by decide) (Or.inl w_514) dd_60_29 rfl rfl ?_
  refine g_aload_n (i := 2) dd_60_32 rfl ?_
  refine g_aload_n (i := 0) dd_60_33 rfl ?_
  refine g_getfield (k := 3) am_ck11 (by decide) (Or.inl w_514) dd_60_34 rfl rfl ?_
  refine g_iload_n (i := 1) dd_60_37 rfl ?_
  refine g_virtual (M' := mi_69) (n := 1) (ci := 1) (b := 4) (as := [.retAddr 1]) (st := [.ref 36, .ref 4, .ref 40]) (r1 := (some (.retAddr 1), (hn_ c1 c2 c3 pl he fr wo se go))) w_658 w_659 w_660 ⟨lk_69.1, lk_69.2.1, lk_69.2.2, by decide, by decide⟩ rfl rfl rfl (by simp [Value.category]) dd_60_38 (ng_kof1) ?_
  show am_Good mi_60 41 [some (.ref 0), some (.retAddr 1), some (.ref 36)] [.retAddr 1, .ref 36, .ref 4, .ref 40] (hn_ c1 c2 c3 pl he fr wo se go) _
  refine g_aload_n (i := 0) dd_60_41 rfl ?_
  refine g_getfield (k := 3) am_ck11 (by decide) (Or.inl w_514) dd_60_42 rfl rfl ?_
  refine g_iload_n (i := 1) dd_60_45 rfl ?_
  refine g_virtual (M' := mi_70) (n := 1) (ci := 1) (b := 4) (as := [.retAddr 1]) (st := [.retAddr 1, .ref 36, .ref 4, .ref 40]) (r1 := (some (.retAddr 0), (hn_ c1 c2 c3 pl he fr wo se go))) w_663 w_664 w_665 ⟨lk_70.1, lk_70.2.1, lk_70.2.2, by decide, by decide⟩ rfl rfl rfl (by simp [Value.category]) dd_60_46 (ng_oof1) ?_
  show am_Good mi_60 49 [some (.ref 0), some (.retAddr 1), some (.ref 36)] [.retAddr 0, .retAddr 1, .ref 36, .ref 4, .ref 40] (hn_ c1 c2 c3 pl he fr wo se go) _
  refine g_virtual (M' := mi_71) (n := 4) (ci := 10) (b := 40) (as := [.ref 4, .ref 36, .retAddr 1, .retAddr 0]) (st := []) (r1 := (none, (hn_ c1 c2 c3 p1 p2 p3 ((ws_ w b 1 0 12 0 0 0 0).1) p4 ((ws_ w b 1 0 12 0 0 0 0).2)))) w_667 w_668 w_669 ⟨lk_71.1, lk_71.2.1, lk_71.2.2, by decide, by decide⟩ rfl rfl rfl (by simp [Value.category]) dd_60_49 (hg) ?_
  show am_Good mi_60 52 [some (.ref 0), some (.retAddr 1), some (.ref 36)] [] (hn_ c1 c2 c3 p1 p2 p3 ((ws_ w b 1 0 12 0 0 0 0).1) p4 ((ws_ w b 1 0 12 0 0 0 0).2)) _
  exact g_return rfl dd_60_52
theorem ng_st2_s {r : am_R} {c1 c2 c3 pl he fr wo se go : Nat} {t w : Nat} {b0 b1 w0 w1 : Nat} (ht : t < 12) (hh : he < 2) (hf : fr ≤ t) (hv : am_ag c1 (he * 60 + t) = w) (hb0 : am_ag c3 (0 * 60 + t) = b0) (hb1 : am_ag c3 (1 * 60 + t) = b1) (hw0 : am_ag c1 (0 * 60 + t) = w0) (hw1 : am_ag c1 (1 * 60 + t) = w1) (h90 : w0 ≤ 9) (h91 : w1 ≤ 9) (hq : wi_ 2 0 he b0 b1 w0 w1 = he) (hg : am_Good mi_71 18 [some (.ref 40), some (.ref 4), some (.ref 36), some (.retAddr 2), some (.retAddr 0), some (.retAddr 2), some (.retAddr (t + 1))] [] (hn_ c1 c2 c3 (am_as pl t he) he fr ((wo + w) % 4294967296) (se ||| ((1 <<< (am_ag c2 (he * 60 + t) % 32)) % 4294967296 &&& 255)) go) r) : am_Good mi_71 18 [some (.ref 40), some (.ref 4), some (.ref 36), some (.retAddr 2), some (.retAddr 0), some (.retAddr 2), some (.retAddr t)] [] (hn_ c1 c2 c3 pl he fr wo se go) r := by
  refine g_iload dd_71_18 rfl ?_
  refine g_aload_n (i := 1) dd_71_20 rfl ?_
  refine g_getfield (k := 6) am_ck1 (by decide) (Or.inr ⟨_, w_107⟩) dd_71_21 rfl rfl ?_
  refine g_icmp_ge_f (t := 71) dd_71_24 (by decide) (tk_ge_f (by omega)) ?_
  refine g_iload dd_71_27 rfl ?_
  refine g_aload_n (i := 0) dd_71_29 rfl ?_
  refine g_getfield (k := 3) am_ck10 (by decide) (Or.inl w_172) dd_71_30 rfl rfl ?_
  refine g_icmp_lt_f (t := 58) dd_71_33 (by decide) (tk_lt_f (by omega)) ?_
  refine g_aload_n (i := 0) dd_71_36 rfl ?_
  refine g_iload dd_71_37 rfl ?_
  refine g_aload_n (i := 0) dd_71_39 rfl ?_
  refine g_aload_n (i := 2) dd_71_40 rfl ?_
  refine g_iload dd_71_41 rfl ?_
  refine g_iload_n (i := 3) dd_71_43 rfl ?_
  refine g_iload dd_71_44 rfl ?_
  refine g_iload dd_71_46 rfl ?_
  refine g_virtual (M' := mi_72) (n := 5) (ci := 10) (b := 40) (as := [.ref 36, .retAddr 2, .retAddr 2, .retAddr 0, .retAddr t]) (st := [.retAddr t, .ref 40]) (r1 := (some (.retAddr he), (hn_ c1 c2 c3 pl he fr wo se go))) w_671 w_673 ps_72 ⟨lk_72.1, lk_72.2.1, lk_72.2.2, by decide, by decide⟩ rfl rfl rfl (by simp [Value.category]) dd_71_48 (ng_wish2 hh ht hb0 hb1 hw0 hw1 h90 h91 hq) ?_
  show am_Good mi_71 51 [some (.ref 40), some (.ref 4), some (.ref 36), some (.retAddr 2), some (.retAddr 0), some (.retAddr 2), some (.retAddr t)] [.retAddr he, .retAddr t, .ref 40] (hn_ c1 c2 c3 pl he fr wo se go) _
  refine g_aload_n (i := 1) dd_71_51 rfl ?_
  refine g_getfield (k := 7) am_ck1 (by decide) (Or.inr ⟨_, w_115⟩) dd_71_52 rfl rfl ?_
  refine g_virtual (M' := mi_66) (n := 3) (ci := 10) (b := 40) (as := [.retAddr t, .retAddr he, .retAddr 1]) (st := []) (r1 := (none, (hn_ c1 c2 c3 pl he fr wo se go))) w_645 w_647 ps_66 ⟨lk_66.1, lk_66.2.1, lk_66.2.2, by decide, by decide⟩ rfl rfl rfl (by simp [Value.category]) dd_71_55 (ng_go_s t he hh rfl) ?_
  show am_Good mi_71 58 [some (.ref 40), some (.ref 4), some (.ref 36), some (.retAddr 2), some (.retAddr 0), some (.retAddr 2), some (.retAddr t)] [] (hn_ c1 c2 c3 pl he fr wo se go) _
  refine g_aload_n (i := 0) dd_71_58 rfl ?_
  refine g_aload_n (i := 2) dd_71_59 rfl ?_
  refine g_iload dd_71_60 rfl ?_
  refine g_virtual (M' := mi_67) (n := 2) (ci := 10) (b := 40) (as := [.ref 36, .retAddr t]) (st := []) (r1 := (none, (hn_ c1 c2 c3 (am_as pl t he) he fr ((wo + w) % 4294967296) (se ||| ((1 <<< (am_ag c2 (he * 60 + t) % 32)) % 4294967296 &&& 255)) go))) w_649 w_651 ps_67 ⟨lk_67.1, lk_67.2.1, lk_67.2.2, by decide, by decide⟩ rfl rfl rfl (by simp [Value.category]) dd_71_62 (ng_look_s t ht hh hf hv) ?_
  show am_Good mi_71 65 [some (.ref 40), some (.ref 4), some (.ref 36), some (.retAddr 2), some (.retAddr 0), some (.retAddr 2), some (.retAddr t)] [] (hn_ c1 c2 c3 (am_as pl t he) he fr ((wo + w) % 4294967296) (se ||| ((1 <<< (am_ag c2 (he * 60 + t) % 32)) % 4294967296 &&& 255)) go) _
  refine e_iinc (v := 1) (w := t + 1) dd_71_65 rfl ic_1 (am_nlb_ok rfl) (by decide) (by omega) ?_
  refine g_goto (t := 18) dd_71_68 (by decide) ?_
  exact hg
theorem ng_st2_d {r : am_R} {c1 c2 c3 pl he fr wo se go : Nat} {t : Nat} {b0 b1 w0 w1 : Nat} {q : Nat} (ht : t < 12) (hh : he < 2) (hf : fr ≤ t) (h2 : q < 2) (hne : ¬ q = he) (hb0 : am_ag c3 (0 * 60 + t) = b0) (hb1 : am_ag c3 (1 * 60 + t) = b1) (hw0 : am_ag c1 (0 * 60 + t) = w0) (hw1 : am_ag c1 (1 * 60 + t) = w1) (h90 : w0 ≤ 9) (h91 : w1 ≤ 9) (hq : wi_ 2 0 he b0 b1 w0 w1 = q) (hg : am_Good mi_71 18 [some (.ref 40), some (.ref 4), some (.ref 36), some (.retAddr 2), some (.retAddr 0), some (.retAddr 2), some (.retAddr (t + 1))] [] (hn_ c1 c2 c3 (am_as pl t 4294967292) q (t + 1) wo se ((go + 1) % 4294967296)) r) : am_Good mi_71 18 [some (.ref 40), some (.ref 4), some (.ref 36), some (.retAddr 2), some (.retAddr 0), some (.retAddr 2), some (.retAddr t)] [] (hn_ c1 c2 c3 pl he fr wo se go) r := by
  refine g_iload dd_71_18 rfl ?_
  refine g_aload_n (i := 1) dd_71_20 rfl ?_
  refine g_getfield (k := 6) am_ck1 (by decide) (Or.inr ⟨_, w_107⟩) dd_71_21 rfl rfl ?_
  refine g_icmp_ge_f (t := 71) dd_71_24 (by decide) (tk_ge_f (by omega)) ?_
  refine g_iload dd_71_27 rfl ?_
  refine g_aload_n (i := 0) dd_71_29 rfl ?_
  refine g_getfield (k := 3) am_ck10 (by decide) (Or.inl w_172) dd_71_30 rfl rfl ?_
  refine g_icmp_lt_f (t := 58) dd_71_33 (by decide) (tk_lt_f (by omega)) ?_
  refine g_aload_n (i := 0) dd_71_36 rfl ?_
  refine g_iload dd_71_37 rfl ?_
  refine g_aload_n (i := 0) dd_71_39 rfl ?_
  refine g_aload_n (i := 2) dd_71_40 rfl ?_
  refine g_iload dd_71_41 rfl ?_
  refine g_iload_n (i := 3) dd_71_43 rfl ?_
  refine g_iload dd_71_44 rfl ?_
  refine g_iload dd_71_46 rfl ?_
  refine g_virtual (M' := mi_72) (n := 5) (ci := 10) (b := 40) (as := [.ref 36, .retAddr 2, .retAddr 2, .retAddr 0, .retAddr t]) (st := [.retAddr t, .ref 40]) (r1 := (some (.retAddr q), (hn_ c1 c2 c3 pl he fr wo se go))) w_671 w_673 ps_72 ⟨lk_72.1, lk_72.2.1, lk_72.2.2, by decide, by decide⟩ rfl rfl rfl (by simp [Value.category]) dd_71_48 (ng_wish2 hh ht hb0 hb1 hw0 hw1 h90 h91 hq) ?_
  show am_Good mi_71 51 [some (.ref 40), some (.ref 4), some (.ref 36), some (.retAddr 2), some (.retAddr 0), some (.retAddr 2), some (.retAddr t)] [.retAddr q, .retAddr t, .ref 40] (hn_ c1 c2 c3 pl he fr wo se go) _
  refine g_aload_n (i := 1) dd_71_51 rfl ?_
  refine g_getfield (k := 7) am_ck1 (by decide) (Or.inr ⟨_, w_115⟩) dd_71_52 rfl rfl ?_
  refine g_virtual (M' := mi_66) (n := 3) (ci := 10) (b := 40) (as := [.retAddr t, .retAddr q, .retAddr 1]) (st := []) (r1 := (none, (hn_ c1 c2 c3 pl q (t + 1) wo se ((go + 1) % 4294967296)))) w_645 w_647 ps_66 ⟨lk_66.1, lk_66.2.1, lk_66.2.2, by decide, by decide⟩ rfl rfl rfl (by simp [Value.category]) dd_71_55 (ng_go_d t q ht hh h2 hne) ?_
  show am_Good mi_71 58 [some (.ref 40), some (.ref 4), some (.ref 36), some (.retAddr 2), some (.retAddr 0), some (.retAddr 2), some (.retAddr t)] [] (hn_ c1 c2 c3 pl q (t + 1) wo se ((go + 1) % 4294967296)) _
  refine g_aload_n (i := 0) dd_71_58 rfl ?_
  refine g_aload_n (i := 2) dd_71_59 rfl ?_
  refine g_iload dd_71_60 rfl ?_
  refine g_virtual (M' := mi_67) (n := 2) (ci := 10) (b := 40) (as := [.ref 36, .retAddr t]) (st := []) (r1 := (none, (hn_ c1 c2 c3 (am_as pl t 4294967292) q (t + 1) wo se ((go + 1) % 4294967296)))) w_649 w_651 ps_67 ⟨lk_67.1, lk_67.2.1, lk_67.2.2, by decide, by decide⟩ rfl rfl rfl (by simp [Value.category]) dd_71_62 (ng_look_d t ht (by omega) (by omega)) ?_
  show am_Good mi_71 65 [some (.ref 40), some (.ref 4), some (.ref 36), some (.retAddr 2), some (.retAddr 0), some (.retAddr 2), some (.retAddr t)] [] (hn_ c1 c2 c3 (am_as pl t 4294967292) q (t + 1) wo se ((go + 1) % 4294967296)) _
  refine e_iinc (v := 1) (w := t + 1) dd_71_65 rfl ic_1 (am_nlb_ok rfl) (by decide) (by omega) ?_
  refine g_goto (t := 18) dd_71_68 (by decide) ?_
  exact hg
theorem ng_lp2 {c1 c2 c3 : Nat} {w b : Nat → Nat → Nat} (hw : ∀ s t, s < 2 → t < 12 → am_ag c1 (s * 60 + t) = w s t) (hb : ∀ s t, s < 2 → t < 12 → am_ag c3 (s * 60 + t) = b s t) (h9 : ∀ s t, s < 2 → t < 12 → w s t ≤ 9) : ∀ (m t pl he fr wo se go : Nat), t + m = 12 → he < 2 → fr ≤ t → ∃ pl' he' fr' se', am_Good mi_71 18 [some (.ref 40), some (.ref 4), some (.ref 36), some (.retAddr 2), some (.retAddr 0), some (.retAddr 2), some (.retAddr t)] [] (hn_ c1 c2 c3 pl he fr wo se go) (none, hn_ c1 c2 c3 pl' he' fr' (ws_ w b 2 0 m t he wo go).1 se' (ws_ w b 2 0 m t he wo go).2)
  | 0, t, pl, he, fr, wo, se, go, ht, hh, hf => by
    have e : t = 12 := by omega
    subst e
    refine ⟨pl, he, fr, se, ?_⟩
    show am_Good mi_71 18 [some (.ref 40), some (.ref 4), some (.ref 36), some (.retAddr 2), some (.retAddr 0), some (.retAddr 2), some (.retAddr 12)] [] (hn_ c1 c2 c3 pl he fr wo se go) (none, (hn_ c1 c2 c3 pl he fr wo se go))
    refine g_iload dd_71_18 rfl ?_
    refine g_aload_n (i := 1) dd_71_20 rfl ?_
    refine g_getfield (k := 6) am_ck1 (by decide) (Or.inr ⟨_, w_107⟩) dd_71_21 rfl rfl ?_
    refine g_icmp_ge_t (t := 71) dd_71_24 (by decide) (by decide) ?_
    exact g_return rfl dd_71_71
  | m + 1, t, pl, he, fr, wo, se, go, ht, hh, hf => by
    have b0 := hb 0 t (by omega) (by omega)
    have b1 := hb 1 t (by omega) (by omega)
    have w0 := hw 0 t (by omega) (by omega)
    have w1 := hw 1 t (by omega) (by omega)
    have h90 := h9 0 t (by omega) (by omega)
    have h91 := h9 1 t (by omega) (by omega)
    by_cases hq : wi_ 2 0 he (b 0 t) (b 1 t) (w 0 t) (w 1 t) = he
    · obtain ⟨p1, p2, p3, p4, hg⟩ := ng_lp2 hw hb h9 m (t + 1) (am_as pl t he) he fr ((wo + w he t) % 4294967296) (se ||| ((1 <<< (am_ag c2 (he * 60 + t) % 32)) % 4294967296 &&& 255)) go (by omega) hh (by omega)
      refine ⟨p1, p2, p3, p4, ?_⟩
      rw [ws_s hq]
      exact ng_st2_s (by omega) hh hf (hw he t hh (by omega)) b0 b1 w0 w1 h90 h91 hq hg
    · have h2 := wi_lt (K := 2) (own := 0) (by decide) hh (b 0 t) (b 1 t) (w 0 t) (w 1 t)
      obtain ⟨p1, p2, p3, p4, hg⟩ := ng_lp2 hw hb h9 m (t + 1) (am_as pl t 4294967292) (wi_ 2 0 he (b 0 t) (b 1 t) (w 0 t) (w 1 t)) (t + 1) wo se ((go + 1) % 4294967296) (by omega) h2 (by omega)
      refine ⟨p1, p2, p3, p4, ?_⟩
      rw [ws_d hq]
      exact ng_st2_d (by omega) hh hf h2 hq b0 b1 w0 w1 h90 h91 rfl hg
theorem ng_fk2 {c1 c2 c3 pl he fr wo se go : Nat} {w b : Nat → Nat → Nat} (hw : ∀ s t, s < 2 → t < 12 → am_ag c1 (s * 60 + t) = w s t) (hb : ∀ s t, s < 2 → t < 12 → am_ag c3 (s * 60 + t) = b s t) (h9 : ∀ s t, s < 2 → t < 12 → w s t ≤ 9) : ∃ pl' he' fr' se', am_EG mi_71 [.ref 40, .ref 4, .ref 36, .retAddr 2, .retAddr 0] (hn_ c1 c2 c3 pl he fr wo se go) (none, hn_ c1 c2 c3 pl' he' fr' (ws_ w b 2 0 12 0 0 0 0).1 se' (ws_ w b 2 0 12 0 0 0 0).2) := by
  obtain ⟨p1, p2, p3, p4, hg⟩ := ng_lp2 hw hb h9 12 0 pl 0 0 0 0 0 (by decide) (by decide) (by decide)
  refine ⟨p1, p2, p3, p4, ?_⟩
  refine am_enter (n := 2) tk_71.2.1 (by simp [Value.category]) (Nat.le_of_ble_eq_true rfl) ?_
  show am_Good mi_71 0 [some (.ref 40), some (.ref 4), some (.ref 36), some (.retAddr 2), some (.retAddr 0), none, none] [] (hn_ c1 c2 c3 pl he fr wo se go) _
  refine g_aload_n (i := 0) dd_71_0 rfl ?_
  refine g_iload dd_71_1 rfl ?_
  refine g_virtual (M' := mi_63) (n := 1) (ci := 10) (b := 40) (as := [.retAddr 0]) (st := []) (r1 := (none, (hn_ c1 c2 c3 pl 0 0 0 0 0))) w_633 w_635 ps_63 ⟨lk_63.1, lk_63.2.1, lk_63.2.2, by decide, by decide⟩ rfl rfl rfl (by simp [Value.category]) dd_71_3 (ng_start 0) ?_
  show am_Good mi_71 6 [some (.ref 40), some (.ref 4), some (.ref 36), some (.retAddr 2), some (.retAddr 0), none, none] [] (hn_ c1 c2 c3 pl 0 0 0 0 0) _
  refine g_aload_n (i := 1) dd_71_6 rfl ?_
  refine g_getfield (k := 0) am_ck1 (by decide) (Or.inr ⟨_, w_82⟩) dd_71_7 rfl rfl ?_
  refine g_getfield (k := 3) am_ck8 (by decide) (Or.inr ⟨_, w_62⟩) dd_71_10 rfl rfl ?_
  refine g_istore dd_71_13 (am_nlb_ok rfl) (by decide) ?_
  refine g_iconst dd_71_15 ic_0 ?_
  refine g_istore dd_71_16 (am_nlb_ok rfl) (by decide) ?_
  exact hg
theorem ng_cek2 {c1 c2 c3 pl he fr wo se go : Nat} : am_EG mi_31 [.ref 15, .retAddr 2, .retAddr 0] (hn_ c1 c2 c3 pl he fr wo se go) (some (.retAddr 2), (hn_ c1 c2 c3 pl he fr wo se go)) := by
  refine am_enter (n := 0) tk_31.2.1 (by simp [Value.category]) (Nat.le_of_ble_eq_true rfl) ?_
  show am_Good mi_31 0 [some (.ref 15), some (.retAddr 2), some (.retAddr 0)] [] (hn_ c1 c2 c3 pl he fr wo se go) _
  refine g_iload_n (i := 1) dd_31_0 rfl ?_
  refine g_if_lt_f (t := 24) dd_31_1 (by decide) (by decide) ?_
  refine g_iload_n (i := 1) dd_31_4 rfl ?_
  refine g_aload_n (i := 0) dd_31_5 rfl ?_
  refine g_getfield (k := 3) am_ck8 (by decide) (Or.inl w_60) dd_31_6 rfl rfl ?_
  refine g_icmp_ge_f (t := 24) dd_31_9 (by decide) (by decide) ?_
  refine g_iload_n (i := 2) dd_31_12 rfl ?_
  refine g_if_lt_f (t := 24) dd_31_13 (by decide) (by decide) ?_
  refine g_iload_n (i := 2) dd_31_16 rfl ?_
  refine g_aload_n (i := 0) dd_31_17 rfl ?_
  refine g_getfield (k := 1) am_ck8 (by decide) (Or.inl w_58) dd_31_18 rfl rfl ?_
  refine g_icmp_lt_t (t := 26) dd_31_21 (by decide) (by decide) ?_
  refine g_aload_n (i := 0) dd_31_26 rfl ?_
  refine g_getfield (k := 0) am_ck8 (by decide) (Or.inl w_57) dd_31_27 rfl rfl ?_
  refine g_iload_n (i := 1) dd_31_30 rfl ?_
  refine g_aload_n (i := 0) dd_31_31 rfl ?_
  refine g_getfield (k := 1) am_ck8 (by decide) (Or.inl w_58) dd_31_32 rfl rfl ?_
  refine e_imul (v := 4) dd_31_35 (by decide) ?_
  refine g_iload_n (i := 2) dd_31_36 rfl ?_
  refine e_iadd (v := 4) dd_31_37 (by decide) ?_
  refine g_iaload dd_31_38 rfl (by decide) (by decide) ?_
  show am_Good mi_31 39 [some (.ref 15), some (.retAddr 2), some (.retAddr 0)] [.retAddr 2] (hn_ c1 c2 c3 pl he fr wo se go) _
  exact g_ireturn rfl dd_31_39
theorem ng_kof2 {c1 c2 c3 pl he fr wo se go : Nat} : am_EG mi_69 [.ref 4, .retAddr 2] (hn_ c1 c2 c3 pl he fr wo se go) (some (.retAddr 2), (hn_ c1 c2 c3 pl he fr wo se go)) := by
  refine am_enter (n := 0) tk_69.2.1 (by simp [Value.category]) (Nat.le_of_ble_eq_true rfl) ?_
  show am_Good mi_69 0 [some (.ref 4), some (.retAddr 2)] [] (hn_ c1 c2 c3 pl he fr wo se go) _
  refine g_aload_n (i := 0) dd_69_0 rfl ?_
  refine g_getfield (k := 5) am_ck1 (by decide) (Or.inl w_101) dd_69_1 rfl rfl ?_
  refine g_iload_n (i := 1) dd_69_4 rfl ?_
  refine g_iconst dd_69_5 ic_0 ?_
  refine g_virtual (M' := mi_31) (n := 2) (ci := 8) (b := 15) (as := [.retAddr 2, .retAddr 0]) (st := []) (r1 := (some (.retAddr 2), (hn_ c1 c2 c3 pl he fr wo se go))) w_662 w_450 w_451 ⟨lk_31.1, lk_31.2.1, lk_31.2.2, by decide, by decide⟩ rfl rfl rfl (by simp [Value.category]) dd_69_6 (ng_cek2) ?_
  show am_Good mi_69 9 [some (.ref 4), some (.retAddr 2)] [.retAddr 2] (hn_ c1 c2 c3 pl he fr wo se go) _
  exact g_ireturn rfl dd_69_9
theorem ng_ceo2 {c1 c2 c3 pl he fr wo se go : Nat} : am_EG mi_31 [.ref 15, .retAddr 2, .retAddr 1] (hn_ c1 c2 c3 pl he fr wo se go) (some (.retAddr 0), (hn_ c1 c2 c3 pl he fr wo se go)) := by
  refine am_enter (n := 0) tk_31.2.1 (by simp [Value.category]) (Nat.le_of_ble_eq_true rfl) ?_
  show am_Good mi_31 0 [some (.ref 15), some (.retAddr 2), some (.retAddr 1)] [] (hn_ c1 c2 c3 pl he fr wo se go) _
  refine g_iload_n (i := 1) dd_31_0 rfl ?_
  refine g_if_lt_f (t := 24) dd_31_1 (by decide) (by decide) ?_
  refine g_iload_n (i := 1) dd_31_4 rfl ?_
  refine g_aload_n (i := 0) dd_31_5 rfl ?_
  refine g_getfield (k := 3) am_ck8 (by decide) (Or.inl w_60) dd_31_6 rfl rfl ?_
  refine g_icmp_ge_f (t := 24) dd_31_9 (by decide) (by decide) ?_
  refine g_iload_n (i := 2) dd_31_12 rfl ?_
  refine g_if_lt_f (t := 24) dd_31_13 (by decide) (by decide) ?_
  refine g_iload_n (i := 2) dd_31_16 rfl ?_
  refine g_aload_n (i := 0) dd_31_17 rfl ?_
  refine g_getfield (k := 1) am_ck8 (by decide) (Or.inl w_58) dd_31_18 rfl rfl ?_
  refine g_icmp_lt_t (t := 26) dd_31_21 (by decide) (by decide) ?_
  refine g_aload_n (i := 0) dd_31_26 rfl ?_
  refine g_getfield (k := 0) am_ck8 (by decide) (Or.inl w_57) dd_31_27 rfl rfl ?_
  refine g_iload_n (i := 1) dd_31_30 rfl ?_
  refine g_aload_n (i := 0) dd_31_31 rfl ?_
  refine g_getfield (k := 1) am_ck8 (by decide) (Or.inl w_58) dd_31_32 rfl rfl ?_
  refine e_imul (v := 4) dd_31_35 (by decide) ?_
  refine g_iload_n (i := 2) dd_31_36 rfl ?_
  refine e_iadd (v := 5) dd_31_37 (by decide) ?_
  refine g_iaload dd_31_38 rfl (by decide) (by decide) ?_
  show am_Good mi_31 39 [some (.ref 15), some (.retAddr 2), some (.retAddr 1)] [.retAddr 0] (hn_ c1 c2 c3 pl he fr wo se go) _
  exact g_ireturn rfl dd_31_39
theorem ng_oof2 {c1 c2 c3 pl he fr wo se go : Nat} : am_EG mi_70 [.ref 4, .retAddr 2] (hn_ c1 c2 c3 pl he fr wo se go) (some (.retAddr 0), (hn_ c1 c2 c3 pl he fr wo se go)) := by
  refine am_enter (n := 0) tk_70.2.1 (by simp [Value.category]) (Nat.le_of_ble_eq_true rfl) ?_
  show am_Good mi_70 0 [some (.ref 4), some (.retAddr 2)] [] (hn_ c1 c2 c3 pl he fr wo se go) _
  refine g_aload_n (i := 0) dd_70_0 rfl ?_
  refine g_getfield (k := 5) am_ck1 (by decide) (Or.inl w_101) dd_70_1 rfl rfl ?_
  refine g_iload_n (i := 1) dd_70_4 rfl ?_
  refine g_iconst dd_70_5 ic_1 ?_
  refine g_virtual (M' := mi_31) (n := 2) (ci := 8) (b := 15) (as := [.retAddr 2, .retAddr 1]) (st := []) (r1 := (some (.retAddr 0), (hn_ c1 c2 c3 pl he fr wo se go))) w_662 w_450 w_451 ⟨lk_31.1, lk_31.2.1, lk_31.2.2, by decide, by decide⟩ rfl rfl rfl (by simp [Value.category]) dd_70_6 (ng_ceo2) ?_
  show am_Good mi_70 9 [some (.ref 4), some (.retAddr 2)] [.retAddr 0] (hn_ c1 c2 c3 pl he fr wo se go) _
  exact g_ireturn rfl dd_70_9
theorem ng_fo2 {c1 c2 c3 pl he fr wo se go : Nat} {w b : Nat → Nat → Nat} (hw : ∀ s t, s < 2 → t < 12 → am_ag c1 (s * 60 + t) = w s t) (hb : ∀ s t, s < 2 → t < 12 → am_ag c3 (s * 60 + t) = b s t) (h9 : ∀ s t, s < 2 → t < 12 → w s t ≤ 9) : ∃ pl' he' fr' se', am_EG mi_60 [.ref 0, .retAddr 2, .ref 36] (hn_ c1 c2 c3 pl he fr wo se go) (none, hn_ c1 c2 c3 pl' he' fr' (ws_ w b 2 0 12 0 0 0 0).1 se' (ws_ w b 2 0 12 0 0 0 0).2) := by
  obtain ⟨p1, p2, p3, p4, hg⟩ := ng_fk2 (pl := pl) (he := he) (fr := fr) (wo := wo) (se := se) (go := go) hw hb h9
  refine ⟨p1, p2, p3, p4, ?_⟩
  refine am_enter (n := 0) tk_60.2.1 (by simp [Value.category]) (Nat.le_of_ble_eq_true rfl) ?_
  show am_Good mi_60 0 [some (.ref 0), some (.retAddr 2), some (.ref 36)] [] (hn_ c1 c2 c3 pl he fr wo se go) _
  refine g_iload_n (i := 1) dd_60_0 rfl ?_
  refine g_iconst dd_60_1 ic_m1 ?_
  refine g_icmp_ne_t (t := 24) dd_60_2 (by decide) (by decide) ?_
  refine g_aload_n (i := 0) dd_60_24 rfl ?_
  refine g_getfield (k := 8) am_ck11 (by decide) (Or.inl w_519) dd_60_25 rfl rfl ?_
  refine g_aload_n (i := 0) dd_60_28 rfl ?_
  refine g_getfield (k := 3) am_ck11 (by decide) (Or.inl w_514) dd_60_29 rfl rfl ?_
  refine g_aload_n (i := 2) dd_60_32 rfl ?_
  refine g_aload_n (i := 0) dd_60_33 rfl ?_
  refine g_getfield (k := 3) am_ck11 (by decide) (Or.inl w_514) dd_60_34 rfl rfl ?_
  refine g_iload_n (i := 1) dd_60_37 rfl ?_
  refine g_virtual (M' := mi_69) (n := 1) (ci := 1) (b := 4) (as := [.retAddr 2]) (st := [.ref 36, .ref 4, .ref 40]) (r1 := (some (.retAddr 2), (hn_ c1 c2 c3 pl he fr wo se go))) w_658 w_659 w_660 ⟨lk_69.1, lk_69.2.1, lk_69.2.2, by decide, by decide⟩ rfl rfl rfl (by simp [Value.category]) dd_60_38 (ng_kof2) ?_
  show am_Good mi_60 41 [some (.ref 0), some (.retAddr 2), some (.ref 36)] [.retAddr 2, .ref 36, .ref 4, .ref 40] (hn_ c1 c2 c3 pl he fr wo se go) _
  refine g_aload_n (i := 0) dd_60_41 rfl ?_
  refine g_getfield (k := 3) am_ck11 (by decide) (Or.inl w_514) dd_60_42 rfl rfl ?_
  refine g_iload_n (i := 1) dd_60_45 rfl ?_
  refine g_virtual (M' := mi_70) (n := 1) (ci := 1) (b := 4) (as := [.retAddr 2]) (st := [.retAddr 2, .ref 36, .ref 4, .ref 40]) (r1 := (some (.retAddr 0), (hn_ c1 c2 c3 pl he fr wo se go))) w_663 w_664 w_665 ⟨lk_70.1, lk_70.2.1, lk_70.2.2, by decide, by decide⟩ rfl rfl rfl (by simp [Value.category]) dd_60_46 (ng_oof2) ?_
  show am_Good mi_60 49 [some (.ref 0), some (.retAddr 2), some (.ref 36)] [.retAddr 0, .retAddr 2, .ref 36, .ref 4, .ref 40] (hn_ c1 c2 c3 pl he fr wo se go) _
  refine g_virtual (M' := mi_71) (n := 4) (ci := 10) (b := 40) (as := [.ref 4, .ref 36, .retAddr 2, .retAddr 0]) (st := []) (r1 := (none, (hn_ c1 c2 c3 p1 p2 p3 ((ws_ w b 2 0 12 0 0 0 0).1) p4 ((ws_ w b 2 0 12 0 0 0 0).2)))) w_667 w_668 w_669 ⟨lk_71.1, lk_71.2.1, lk_71.2.2, by decide, by decide⟩ rfl rfl rfl (by simp [Value.category]) dd_60_49 (hg) ?_
  show am_Good mi_60 52 [some (.ref 0), some (.retAddr 2), some (.ref 36)] [] (hn_ c1 c2 c3 p1 p2 p3 ((ws_ w b 2 0 12 0 0 0 0).1) p4 ((ws_ w b 2 0 12 0 0 0 0).2)) _
  exact g_return rfl dd_60_52
theorem ng_st3_s {r : am_R} {c1 c2 c3 pl he fr wo se go : Nat} {t w : Nat} {b0 b1 w0 w1 : Nat} (ht : t < 12) (hh : he < 2) (hf : fr ≤ t) (hv : am_ag c1 (he * 60 + t) = w) (hb0 : am_ag c3 (0 * 60 + t) = b0) (hb1 : am_ag c3 (1 * 60 + t) = b1) (hw0 : am_ag c1 (0 * 60 + t) = w0) (hw1 : am_ag c1 (1 * 60 + t) = w1) (h90 : w0 ≤ 9) (h91 : w1 ≤ 9) (hq : wi_ 3 1 he b0 b1 w0 w1 = he) (hg : am_Good mi_71 18 [some (.ref 40), some (.ref 4), some (.ref 36), some (.retAddr 3), some (.retAddr 1), some (.retAddr 2), some (.retAddr (t + 1))] [] (hn_ c1 c2 c3 (am_as pl t he) he fr ((wo + w) % 4294967296) (se ||| ((1 <<< (am_ag c2 (he * 60 + t) % 32)) % 4294967296 &&& 255)) go) r) : am_Good mi_71 18 [some (.ref 40), some (.ref 4), some (.ref 36), some (.retAddr 3), some (.retAddr 1), some (.retAddr 2), some (.retAddr t)] [] (hn_ c1 c2 c3 pl he fr wo se go) r := by
  refine g_iload dd_71_18 rfl ?_
  refine g_aload_n (i := 1) dd_71_20 rfl ?_
  refine g_getfield (k := 6) am_ck1 (by decide) (Or.inr ⟨_, w_107⟩) dd_71_21 rfl rfl ?_
  refine g_icmp_ge_f (t := 71) dd_71_24 (by decide) (tk_ge_f (by omega)) ?_
  refine g_iload dd_71_27 rfl ?_
  refine g_aload_n (i := 0) dd_71_29 rfl ?_
  refine g_getfield (k := 3) am_ck10 (by decide) (Or.inl w_172) dd_71_30 rfl rfl ?_
  refine g_icmp_lt_f (t := 58) dd_71_33 (by decide) (tk_lt_f (by omega)) ?_
  refine g_aload_n (i := 0) dd_71_36 rfl ?_
  refine g_iload dd_71_37 rfl ?_
  refine g_aload_n (i := 0) dd_71_39 rfl ?_
  refine g_aload_n (i := 2) dd_71_40 rfl ?_
  refine g_iload dd_71_41 rfl ?_
  refine g_iload_n (i := 3) dd_71_43 rfl ?_
  refine g_iload dd_71_44 rfl ?_
  refine g_iload dd_71_46 rfl ?_
  refine g_virtual (M' := mi_72) (n := 5) (ci := 10) (b := 40) (as := [.ref 36, .retAddr 2, .retAddr 3, .retAddr 1, .retAddr t]) (st := [.retAddr t, .ref 40]) (r1 := (some (.retAddr he), (hn_ c1 c2 c3 pl he fr wo se go))) w_671 w_673 ps_72 ⟨lk_72.1, lk_72.2.1, lk_72.2.2, by decide, by decide⟩ rfl rfl rfl (by simp [Value.category]) dd_71_48 (ng_wish3 hh ht hb0 hb1 hw0 hw1 h90 h91 hq) ?_
  show am_Good mi_71 51 [some (.ref 40), some (.ref 4), some (.ref 36), some (.retAddr 3), some (.retAddr 1), some (.retAddr 2), some (.retAddr t)] [.retAddr he, .retAddr t, .ref 40] (hn_ c1 c2 c3 pl he fr wo se go) _
  refine g_aload_n (i := 1) dd_71_51 rfl ?_
  refine g_getfield (k := 7) am_ck1 (by decide) (Or.inr ⟨_, w_115⟩) dd_71_52 rfl rfl ?_
  refine g_virtual (M' := mi_66) (n := 3) (ci := 10) (b := 40) (as := [.retAddr t, .retAddr he, .retAddr 1]) (st := []) (r1 := (none, (hn_ c1 c2 c3 pl he fr wo se go))) w_645 w_647 ps_66 ⟨lk_66.1, lk_66.2.1, lk_66.2.2, by decide, by decide⟩ rfl rfl rfl (by simp [Value.category]) dd_71_55 (ng_go_s t he hh rfl) ?_
  show am_Good mi_71 58 [some (.ref 40), some (.ref 4), some (.ref 36), some (.retAddr 3), some (.retAddr 1), some (.retAddr 2), some (.retAddr t)] [] (hn_ c1 c2 c3 pl he fr wo se go) _
  refine g_aload_n (i := 0) dd_71_58 rfl ?_
  refine g_aload_n (i := 2) dd_71_59 rfl ?_
  refine g_iload dd_71_60 rfl ?_
  refine g_virtual (M' := mi_67) (n := 2) (ci := 10) (b := 40) (as := [.ref 36, .retAddr t]) (st := []) (r1 := (none, (hn_ c1 c2 c3 (am_as pl t he) he fr ((wo + w) % 4294967296) (se ||| ((1 <<< (am_ag c2 (he * 60 + t) % 32)) % 4294967296 &&& 255)) go))) w_649 w_651 ps_67 ⟨lk_67.1, lk_67.2.1, lk_67.2.2, by decide, by decide⟩ rfl rfl rfl (by simp [Value.category]) dd_71_62 (ng_look_s t ht hh hf hv) ?_
  show am_Good mi_71 65 [some (.ref 40), some (.ref 4), some (.ref 36), some (.retAddr 3), some (.retAddr 1), some (.retAddr 2), some (.retAddr t)] [] (hn_ c1 c2 c3 (am_as pl t he) he fr ((wo + w) % 4294967296) (se ||| ((1 <<< (am_ag c2 (he * 60 + t) % 32)) % 4294967296 &&& 255)) go) _
  refine e_iinc (v := 1) (w := t + 1) dd_71_65 rfl ic_1 (am_nlb_ok rfl) (by decide) (by omega) ?_
  refine g_goto (t := 18) dd_71_68 (by decide) ?_
  exact hg
theorem ng_st3_d {r : am_R} {c1 c2 c3 pl he fr wo se go : Nat} {t : Nat} {b0 b1 w0 w1 : Nat} {q : Nat} (ht : t < 12) (hh : he < 2) (hf : fr ≤ t) (h2 : q < 2) (hne : ¬ q = he) (hb0 : am_ag c3 (0 * 60 + t) = b0) (hb1 : am_ag c3 (1 * 60 + t) = b1) (hw0 : am_ag c1 (0 * 60 + t) = w0) (hw1 : am_ag c1 (1 * 60 + t) = w1) (h90 : w0 ≤ 9) (h91 : w1 ≤ 9) (hq : wi_ 3 1 he b0 b1 w0 w1 = q) (hg : am_Good mi_71 18 [some (.ref 40), some (.ref 4), some (.ref 36), some (.retAddr 3), some (.retAddr 1), some (.retAddr 2), some (.retAddr (t + 1))] [] (hn_ c1 c2 c3 (am_as pl t 4294967292) q (t + 1) wo se ((go + 1) % 4294967296)) r) : am_Good mi_71 18 [some (.ref 40), some (.ref 4), some (.ref 36), some (.retAddr 3), some (.retAddr 1), some (.retAddr 2), some (.retAddr t)] [] (hn_ c1 c2 c3 pl he fr wo se go) r := by
  refine g_iload dd_71_18 rfl ?_
  refine g_aload_n (i := 1) dd_71_20 rfl ?_
  refine g_getfield (k := 6) am_ck1 (by decide) (Or.inr ⟨_, w_107⟩) dd_71_21 rfl rfl ?_
  refine g_icmp_ge_f (t := 71) dd_71_24 (by decide) (tk_ge_f (by omega)) ?_
  refine g_iload dd_71_27 rfl ?_
  refine g_aload_n (i := 0) dd_71_29 rfl ?_
  refine g_getfield (k := 3) am_ck10 (by decide) (Or.inl w_172) dd_71_30 rfl rfl ?_
  refine g_icmp_lt_f (t := 58) dd_71_33 (by decide) (tk_lt_f (by omega)) ?_
  refine g_aload_n (i := 0) dd_71_36 rfl ?_
  refine g_iload dd_71_37 rfl ?_
  refine g_aload_n (i := 0) dd_71_39 rfl ?_
  refine g_aload_n (i := 2) dd_71_40 rfl ?_
  refine g_iload dd_71_41 rfl ?_
  refine g_iload_n (i := 3) dd_71_43 rfl ?_
  refine g_iload dd_71_44 rfl ?_
  refine g_iload dd_71_46 rfl ?_
  refine g_virtual (M' := mi_72) (n := 5) (ci := 10) (b := 40) (as := [.ref 36, .retAddr 2, .retAddr 3, .retAddr 1, .retAddr t]) (st := [.retAddr t, .ref 40]) (r1 := (some (.retAddr q), (hn_ c1 c2 c3 pl he fr wo se go))) w_671 w_673 ps_72 ⟨lk_72.1, lk_72.2.1, lk_72.2.2, by decide, by decide⟩ rfl rfl rfl (by simp [Value.category]) dd_71_48 (ng_wish3 hh ht hb0 hb1 hw0 hw1 h90 h91 hq) ?_
  show am_Good mi_71 51 [some (.ref 40), some (.ref 4), some (.ref 36), some (.retAddr 3), some (.retAddr 1), some (.retAddr 2), some (.retAddr t)] [.retAddr q, .retAddr t, .ref 40] (hn_ c1 c2 c3 pl he fr wo se go) _
  refine g_aload_n (i := 1) dd_71_51 rfl ?_
  refine g_getfield (k := 7) am_ck1 (by decide) (Or.inr ⟨_, w_115⟩) dd_71_52 rfl rfl ?_
  refine g_virtual (M' := mi_66) (n := 3) (ci := 10) (b := 40) (as := [.retAddr t, .retAddr q, .retAddr 1]) (st := []) (r1 := (none, (hn_ c1 c2 c3 pl q (t + 1) wo se ((go + 1) % 4294967296)))) w_645 w_647 ps_66 ⟨lk_66.1, lk_66.2.1, lk_66.2.2, by decide, by decide⟩ rfl rfl rfl (by simp [Value.category]) dd_71_55 (ng_go_d t q ht hh h2 hne) ?_
  show am_Good mi_71 58 [some (.ref 40), some (.ref 4), some (.ref 36), some (.retAddr 3), some (.retAddr 1), some (.retAddr 2), some (.retAddr t)] [] (hn_ c1 c2 c3 pl q (t + 1) wo se ((go + 1) % 4294967296)) _
  refine g_aload_n (i := 0) dd_71_58 rfl ?_
  refine g_aload_n (i := 2) dd_71_59 rfl ?_
  refine g_iload dd_71_60 rfl ?_
  refine g_virtual (M' := mi_67) (n := 2) (ci := 10) (b := 40) (as := [.ref 36, .retAddr t]) (st := []) (r1 := (none, (hn_ c1 c2 c3 (am_as pl t 4294967292) q (t + 1) wo se ((go + 1) % 4294967296)))) w_649 w_651 ps_67 ⟨lk_67.1, lk_67.2.1, lk_67.2.2, by decide, by decide⟩ rfl rfl rfl (by simp [Value.category]) dd_71_62 (ng_look_d t ht (by omega) (by omega)) ?_
  show am_Good mi_71 65 [some (.ref 40), some (.ref 4), some (.ref 36), some (.retAddr 3), some (.retAddr 1), some (.retAddr 2), some (.retAddr t)] [] (hn_ c1 c2 c3 (am_as pl t 4294967292) q (t + 1) wo se ((go + 1) % 4294967296)) _
  refine e_iinc (v := 1) (w := t + 1) dd_71_65 rfl ic_1 (am_nlb_ok rfl) (by decide) (by omega) ?_
  refine g_goto (t := 18) dd_71_68 (by decide) ?_
  exact hg
theorem ng_lp3 {c1 c2 c3 : Nat} {w b : Nat → Nat → Nat} (hw : ∀ s t, s < 2 → t < 12 → am_ag c1 (s * 60 + t) = w s t) (hb : ∀ s t, s < 2 → t < 12 → am_ag c3 (s * 60 + t) = b s t) (h9 : ∀ s t, s < 2 → t < 12 → w s t ≤ 9) : ∀ (m t pl he fr wo se go : Nat), t + m = 12 → he < 2 → fr ≤ t → ∃ pl' he' fr' se', am_Good mi_71 18 [some (.ref 40), some (.ref 4), some (.ref 36), some (.retAddr 3), some (.retAddr 1), some (.retAddr 2), some (.retAddr t)] [] (hn_ c1 c2 c3 pl he fr wo se go) (none, hn_ c1 c2 c3 pl' he' fr' (ws_ w b 3 1 m t he wo go).1 se' (ws_ w b 3 1 m t he wo go).2)
  | 0, t, pl, he, fr, wo, se, go, ht, hh, hf => by
    have e : t = 12 := by omega
    subst e
    refine ⟨pl, he, fr, se, ?_⟩
    show am_Good mi_71 18 [some (.ref 40), some (.ref 4), some (.ref 36), some (.retAddr 3), some (.retAddr 1), some (.retAddr 2), some (.retAddr 12)] [] (hn_ c1 c2 c3 pl he fr wo se go) (none, (hn_ c1 c2 c3 pl he fr wo se go))
    refine g_iload dd_71_18 rfl ?_
    refine g_aload_n (i := 1) dd_71_20 rfl ?_
    refine g_getfield (k := 6) am_ck1 (by decide) (Or.inr ⟨_, w_107⟩) dd_71_21 rfl rfl ?_
    refine g_icmp_ge_t (t := 71) dd_71_24 (by decide) (by decide) ?_
    exact g_return rfl dd_71_71
  | m + 1, t, pl, he, fr, wo, se, go, ht, hh, hf => by
    have b0 := hb 0 t (by omega) (by omega)
    have b1 := hb 1 t (by omega) (by omega)
    have w0 := hw 0 t (by omega) (by omega)
    have w1 := hw 1 t (by omega) (by omega)
    have h90 := h9 0 t (by omega) (by omega)
    have h91 := h9 1 t (by omega) (by omega)
    by_cases hq : wi_ 3 1 he (b 0 t) (b 1 t) (w 0 t) (w 1 t) = he
    · obtain ⟨p1, p2, p3, p4, hg⟩ := ng_lp3 hw hb h9 m (t + 1) (am_as pl t he) he fr ((wo + w he t) % 4294967296) (se ||| ((1 <<< (am_ag c2 (he * 60 + t) % 32)) % 4294967296 &&& 255)) go (by omega) hh (by omega)
      refine ⟨p1, p2, p3, p4, ?_⟩
      rw [ws_s hq]
      exact ng_st3_s (by omega) hh hf (hw he t hh (by omega)) b0 b1 w0 w1 h90 h91 hq hg
    · have h2 := wi_lt (K := 3) (own := 1) (by decide) hh (b 0 t) (b 1 t) (w 0 t) (w 1 t)
      obtain ⟨p1, p2, p3, p4, hg⟩ := ng_lp3 hw hb h9 m (t + 1) (am_as pl t 4294967292) (wi_ 3 1 he (b 0 t) (b 1 t) (w 0 t) (w 1 t)) (t + 1) wo se ((go + 1) % 4294967296) (by omega) h2 (by omega)
      refine ⟨p1, p2, p3, p4, ?_⟩
      rw [ws_d hq]
      exact ng_st3_d (by omega) hh hf h2 hq b0 b1 w0 w1 h90 h91 rfl hg
theorem ng_fk3 {c1 c2 c3 pl he fr wo se go : Nat} {w b : Nat → Nat → Nat} (hw : ∀ s t, s < 2 → t < 12 → am_ag c1 (s * 60 + t) = w s t) (hb : ∀ s t, s < 2 → t < 12 → am_ag c3 (s * 60 + t) = b s t) (h9 : ∀ s t, s < 2 → t < 12 → w s t ≤ 9) : ∃ pl' he' fr' se', am_EG mi_71 [.ref 40, .ref 4, .ref 36, .retAddr 3, .retAddr 1] (hn_ c1 c2 c3 pl he fr wo se go) (none, hn_ c1 c2 c3 pl' he' fr' (ws_ w b 3 1 12 0 1 0 0).1 se' (ws_ w b 3 1 12 0 1 0 0).2) := by
  obtain ⟨p1, p2, p3, p4, hg⟩ := ng_lp3 hw hb h9 12 0 pl 1 0 0 0 0 (by decide) (by decide) (by decide)
  refine ⟨p1, p2, p3, p4, ?_⟩
  refine am_enter (n := 2) tk_71.2.1 (by simp [Value.category]) (Nat.le_of_ble_eq_true rfl) ?_
  show am_Good mi_71 0 [some (.ref 40), some (.ref 4), some (.ref 36), some (.retAddr 3), some (.retAddr 1), none, none] [] (hn_ c1 c2 c3 pl he fr wo se go) _
  refine g_aload_n (i := 0) dd_71_0 rfl ?_
  refine g_iload dd_71_1 rfl ?_
  refine g_virtual (M' := mi_63) (n := 1) (ci := 10) (b := 40) (as := [.retAddr 1]) (st := []) (r1 := (none, (hn_ c1 c2 c3 pl 1 0 0 0 0))) w_633 w_635 ps_63 ⟨lk_63.1, lk_63.2.1, lk_63.2.2, by decide, by decide⟩ rfl rfl rfl (by simp [Value.category]) dd_71_3 (ng_start 1) ?_
  show am_Good mi_71 6 [some (.ref 40), some (.ref 4), some (.ref 36), some (.retAddr 3), some (.retAddr 1), none, none] [] (hn_ c1 c2 c3 pl 1 0 0 0 0) _
  refine g_aload_n (i := 1) dd_71_6 rfl ?_
  refine g_getfield (k := 0) am_ck1 (by decide) (Or.inr ⟨_, w_82⟩) dd_71_7 rfl rfl ?_
  refine g_getfield (k := 3) am_ck8 (by decide) (Or.inr ⟨_, w_62⟩) dd_71_10 rfl rfl ?_
  refine g_istore dd_71_13 (am_nlb_ok rfl) (by decide) ?_
  refine g_iconst dd_71_15 ic_0 ?_
  refine g_istore dd_71_16 (am_nlb_ok rfl) (by decide) ?_
  exact hg
theorem ng_cek3 {c1 c2 c3 pl he fr wo se go : Nat} : am_EG mi_31 [.ref 15, .retAddr 3, .retAddr 0] (hn_ c1 c2 c3 pl he fr wo se go) (some (.retAddr 3), (hn_ c1 c2 c3 pl he fr wo se go)) := by
  refine am_enter (n := 0) tk_31.2.1 (by simp [Value.category]) (Nat.le_of_ble_eq_true rfl) ?_
  show am_Good mi_31 0 [some (.ref 15), some (.retAddr 3), some (.retAddr 0)] [] (hn_ c1 c2 c3 pl he fr wo se go) _
  refine g_iload_n (i := 1) dd_31_0 rfl ?_
  refine g_if_lt_f (t := 24) dd_31_1 (by decide) (by decide) ?_
  refine g_iload_n (i := 1) dd_31_4 rfl ?_
  refine g_aload_n (i := 0) dd_31_5 rfl ?_
  refine g_getfield (k := 3) am_ck8 (by decide) (Or.inl w_60) dd_31_6 rfl rfl ?_
  refine g_icmp_ge_f (t := 24) dd_31_9 (by decide) (by decide) ?_
  refine g_iload_n (i := 2) dd_31_12 rfl ?_
  refine g_if_lt_f (t := 24) dd_31_13 (by decide) (by decide) ?_
  refine g_iload_n (i := 2) dd_31_16 rfl ?_
  refine g_aload_n (i := 0) dd_31_17 rfl ?_
  refine g_getfield (k := 1) am_ck8 (by decide) (Or.inl w_58) dd_31_18 rfl rfl ?_
  refine g_icmp_lt_t (t := 26) dd_31_21 (by decide) (by decide) ?_
  refine g_aload_n (i := 0) dd_31_26 rfl ?_
  refine g_getfield (k := 0) am_ck8 (by decide) (Or.inl w_57) dd_31_27 rfl rfl ?_
  refine g_iload_n (i := 1) dd_31_30 rfl ?_
  refine g_aload_n (i := 0) dd_31_31 rfl ?_
  refine g_getfield (k := 1) am_ck8 (by decide) (Or.inl w_58) dd_31_32 rfl rfl ?_
  refine e_imul (v := 6) dd_31_35 (by decide) ?_
  refine g_iload_n (i := 2) dd_31_36 rfl ?_
  refine e_iadd (v := 6) dd_31_37 (by decide) ?_
  refine g_iaload dd_31_38 rfl (by decide) (by decide) ?_
  show am_Good mi_31 39 [some (.ref 15), some (.retAddr 3), some (.retAddr 0)] [.retAddr 3] (hn_ c1 c2 c3 pl he fr wo se go) _
  exact g_ireturn rfl dd_31_39
theorem ng_kof3 {c1 c2 c3 pl he fr wo se go : Nat} : am_EG mi_69 [.ref 4, .retAddr 3] (hn_ c1 c2 c3 pl he fr wo se go) (some (.retAddr 3), (hn_ c1 c2 c3 pl he fr wo se go)) := by
  refine am_enter (n := 0) tk_69.2.1 (by simp [Value.category]) (Nat.le_of_ble_eq_true rfl) ?_
  show am_Good mi_69 0 [some (.ref 4), some (.retAddr 3)] [] (hn_ c1 c2 c3 pl he fr wo se go) _
  refine g_aload_n (i := 0) dd_69_0 rfl ?_
  refine g_getfield (k := 5) am_ck1 (by decide) (Or.inl w_101) dd_69_1 rfl rfl ?_
  refine g_iload_n (i := 1) dd_69_4 rfl ?_
  refine g_iconst dd_69_5 ic_0 ?_
  refine g_virtual (M' := mi_31) (n := 2) (ci := 8) (b := 15) (as := [.retAddr 3, .retAddr 0]) (st := []) (r1 := (some (.retAddr 3), (hn_ c1 c2 c3 pl he fr wo se go))) w_662 w_450 w_451 ⟨lk_31.1, lk_31.2.1, lk_31.2.2, by decide, by decide⟩ rfl rfl rfl (by simp [Value.category]) dd_69_6 (ng_cek3) ?_
  show am_Good mi_69 9 [some (.ref 4), some (.retAddr 3)] [.retAddr 3] (hn_ c1 c2 c3 pl he fr wo se go) _
  exact g_ireturn rfl dd_69_9
theorem ng_ceo3 {c1 c2 c3 pl he fr wo se go : Nat} : am_EG mi_31 [.ref 15, .retAddr 3, .retAddr 1] (hn_ c1 c2 c3 pl he fr wo se go) (some (.retAddr 1), (hn_ c1 c2 c3 pl he fr wo se go)) := by
  refine am_enter (n := 0) tk_31.2.1 (by simp [Value.category]) (Nat.le_of_ble_eq_true rfl) ?_
  show am_Good mi_31 0 [some (.ref 15), some (.retAddr 3), some (.retAddr 1)] [] (hn_ c1 c2 c3 pl he fr wo se go) _
  refine g_iload_n (i := 1) dd_31_0 rfl ?_
  refine g_if_lt_f (t := 24) dd_31_1 (by decide) (by decide) ?_
  refine g_iload_n (i := 1) dd_31_4 rfl ?_
  refine g_aload_n (i := 0) dd_31_5 rfl ?_
  refine g_getfield (k := 3) am_ck8 (by decide) (Or.inl w_60) dd_31_6 rfl rfl ?_
  refine g_icmp_ge_f (t := 24) dd_31_9 (by decide) (by decide) ?_
  refine g_iload_n (i := 2) dd_31_12 rfl ?_
  refine g_if_lt_f (t := 24) dd_31_13 (by decide) (by decide) ?_
  refine g_iload_n (i := 2) dd_31_16 rfl ?_
  refine g_aload_n (i := 0) dd_31_17 rfl ?_
  refine g_getfield (k := 1) am_ck8 (by decide) (Or.inl w_58) dd_31_18 rfl rfl ?_
  refine g_icmp_lt_t (t := 26) dd_31_21 (by decide) (by decide) ?_
  refine g_aload_n (i := 0) dd_31_26 rfl ?_
  refine g_getfield (k := 0) am_ck8 (by decide) (Or.inl w_57) dd_31_27 rfl rfl ?_
  refine g_iload_n (i := 1) dd_31_30 rfl ?_
  refine g_aload_n (i := 0) dd_31_31 rfl ?_
  refine g_getfield (k := 1) am_ck8 (by decide) (Or.inl w_58) dd_31_32 rfl rfl ?_
  refine e_imul (v := 6) dd_31_35 (by decide) ?_
  refine g_iload_n (i := 2) dd_31_36 rfl ?_
  refine e_iadd (v := 7) dd_31_37 (by decide) ?_
  refine g_iaload dd_31_38 rfl (by decide) (by decide) ?_
  show am_Good mi_31 39 [some (.ref 15), some (.retAddr 3), some (.retAddr 1)] [.retAddr 1] (hn_ c1 c2 c3 pl he fr wo se go) _
  exact g_ireturn rfl dd_31_39
theorem ng_oof3 {c1 c2 c3 pl he fr wo se go : Nat} : am_EG mi_70 [.ref 4, .retAddr 3] (hn_ c1 c2 c3 pl he fr wo se go) (some (.retAddr 1), (hn_ c1 c2 c3 pl he fr wo se go)) := by
  refine am_enter (n := 0) tk_70.2.1 (by simp [Value.category]) (Nat.le_of_ble_eq_true rfl) ?_
  show am_Good mi_70 0 [some (.ref 4), some (.retAddr 3)] [] (hn_ c1 c2 c3 pl he fr wo se go) _
  refine g_aload_n (i := 0) dd_70_0 rfl ?_
  refine g_getfield (k := 5) am_ck1 (by decide) (Or.inl w_101) dd_70_1 rfl rfl ?_
  refine g_iload_n (i := 1) dd_70_4 rfl ?_
  refine g_iconst dd_70_5 ic_1 ?_
  refine g_virtual (M' := mi_31) (n := 2) (ci := 8) (b := 15) (as := [.retAddr 3, .retAddr 1]) (st := []) (r1 := (some (.retAddr 1), (hn_ c1 c2 c3 pl he fr wo se go))) w_662 w_450 w_451 ⟨lk_31.1, lk_31.2.1, lk_31.2.2, by decide, by decide⟩ rfl rfl rfl (by simp [Value.category]) dd_70_6 (ng_ceo3) ?_
  show am_Good mi_70 9 [some (.ref 4), some (.retAddr 3)] [.retAddr 1] (hn_ c1 c2 c3 pl he fr wo se go) _
  exact g_ireturn rfl dd_70_9
theorem ng_fo3 {c1 c2 c3 pl he fr wo se go : Nat} {w b : Nat → Nat → Nat} (hw : ∀ s t, s < 2 → t < 12 → am_ag c1 (s * 60 + t) = w s t) (hb : ∀ s t, s < 2 → t < 12 → am_ag c3 (s * 60 + t) = b s t) (h9 : ∀ s t, s < 2 → t < 12 → w s t ≤ 9) : ∃ pl' he' fr' se', am_EG mi_60 [.ref 0, .retAddr 3, .ref 36] (hn_ c1 c2 c3 pl he fr wo se go) (none, hn_ c1 c2 c3 pl' he' fr' (ws_ w b 3 1 12 0 1 0 0).1 se' (ws_ w b 3 1 12 0 1 0 0).2) := by
  obtain ⟨p1, p2, p3, p4, hg⟩ := ng_fk3 (pl := pl) (he := he) (fr := fr) (wo := wo) (se := se) (go := go) hw hb h9
  refine ⟨p1, p2, p3, p4, ?_⟩
  refine am_enter (n := 0) tk_60.2.1 (by simp [Value.category]) (Nat.le_of_ble_eq_true rfl) ?_
  show am_Good mi_60 0 [some (.ref 0), some (.retAddr 3), some (.ref 36)] [] (hn_ c1 c2 c3 pl he fr wo se go) _
  refine g_iload_n (i := 1) dd_60_0 rfl ?_
  refine g_iconst dd_60_1 ic_m1 ?_
  refine g_icmp_ne_t (t := 24) dd_60_2 (by decide) (by decide) ?_
  refine g_aload_n (i := 0) dd_60_24 rfl ?_
  refine g_getfield (k := 8) am_ck11 (by decide) (Or.inl w_519) dd_60_25 rfl rfl ?_
  refine g_aload_n (i := 0) dd_60_28 rfl ?_
  refine g_getfield (k := 3) am_ck11 (by decide) (Or.inl w_514) dd_60_29 rfl rfl ?_
  refine g_aload_n (i := 2) dd_60_32 rfl ?_
  refine g_aload_n (i := 0) dd_60_33 rfl ?_
  refine g_getfield (k := 3) am_ck11 (by decide) (Or.inl w_514) dd_60_34 rfl rfl ?_
  refine g_iload_n (i := 1) dd_60_37 rfl ?_
  refine g_virtual (M' := mi_69) (n := 1) (ci := 1) (b := 4) (as := [.retAddr 3]) (st := [.ref 36, .ref 4, .ref 40]) (r1 := (some (.retAddr 3), (hn_ c1 c2 c3 pl he fr wo se go))) w_658 w_659 w_660 ⟨lk_69.1, lk_69.2.1, lk_69.2.2, by decide, by decide⟩ rfl rfl rfl (by simp [Value.category]) dd_60_38 (ng_kof3) ?_
  show am_Good mi_60 41 [some (.ref 0), some (.retAddr 3), some (.ref 36)] [.retAddr 3, .ref 36, .ref 4, .ref 40] (hn_ c1 c2 c3 pl he fr wo se go) _
  refine g_aload_n (i := 0) dd_60_41 rfl ?_
  refine g_getfield (k := 3) am_ck11 (by decide) (Or.inl w_514) dd_60_42 rfl rfl ?_
  refine g_iload_n (i := 1) dd_60_45 rfl ?_
  refine g_virtual (M' := mi_70) (n := 1) (ci := 1) (b := 4) (as := [.retAddr 3]) (st := [.retAddr 3, .ref 36, .ref 4, .ref 40]) (r1 := (some (.retAddr 1), (hn_ c1 c2 c3 pl he fr wo se go))) w_663 w_664 w_665 ⟨lk_70.1, lk_70.2.1, lk_70.2.2, by decide, by decide⟩ rfl rfl rfl (by simp [Value.category]) dd_60_46 (ng_oof3) ?_
  show am_Good mi_60 49 [some (.ref 0), some (.retAddr 3), some (.ref 36)] [.retAddr 1, .retAddr 3, .ref 36, .ref 4, .ref 40] (hn_ c1 c2 c3 pl he fr wo se go) _
  refine g_virtual (M' := mi_71) (n := 4) (ci := 10) (b := 40) (as := [.ref 4, .ref 36, .retAddr 3, .retAddr 1]) (st := []) (r1 := (none, (hn_ c1 c2 c3 p1 p2 p3 ((ws_ w b 3 1 12 0 1 0 0).1) p4 ((ws_ w b 3 1 12 0 1 0 0).2)))) w_667 w_668 w_669 ⟨lk_71.1, lk_71.2.1, lk_71.2.2, by decide, by decide⟩ rfl rfl rfl (by simp [Value.category]) dd_60_49 (hg) ?_
  show am_Good mi_60 52 [some (.ref 0), some (.retAddr 3), some (.ref 36)] [] (hn_ c1 c2 c3 p1 p2 p3 ((ws_ w b 3 1 12 0 1 0 0).1) p4 ((ws_ w b 3 1 12 0 1 0 0).2)) _
  exact g_return rfl dd_60_52
def nw_ (z s t : Nat) : Nat := if ni_E z t s = 0 then 0 else am_ag nx_1 (s * 60 + t)
def nb_ (z s t : Nat) : Nat := if ni_E z t s = 0 then 1 else 0
theorem nw_x (z s t : Nat) (hs : s < 2) (ht : t < 12) : am_ag (nz_ z 0 nx_1) (s * 60 + t) = nw_ z s t := nz_at z 0 nx_1 s t hs ht (by decide)
theorem ng_e3 : am_all 2 (fun s => am_all 12 (fun t => Nat.beq (am_ag nx_3 (s * 60 + t)) 0 && Nat.ble (am_ag nx_1 (s * 60 + t)) 9)) = true := by decide +kernel
theorem nb_x (z s t : Nat) (hs : s < 2) (ht : t < 12) : am_ag (nz_ z 1 nx_3) (s * 60 + t) = nb_ z s t := by
  have h := am_all_ok (am_all_ok ng_e3 s hs) t ht
  rw [Bool.and_eq_true] at h
  rw [nz_at z 1 nx_3 s t hs ht (by decide), Nat.eq_of_beq_eq_true h.1]
  rfl
theorem nw_9 (z s t : Nat) (hs : s < 2) (ht : t < 12) : nw_ z s t ≤ 9 := by
  have h := am_all_ok (am_all_ok ng_e3 s hs) t ht
  rw [Bool.and_eq_true] at h
  unfold nw_
  split
  · decide
  · exact Nat.le_of_ble_eq_true h.2
theorem ng_x0_0 (z : Nat) (hz : z < 10000) : HX 122 [.retAddr z, .retAddr 0, .retAddr 0] (ws_ (nw_ z) (nb_ z) 0 0 12 0 0 0 0).1 := by
  obtain ⟨p1, p2, p3, p4, hg⟩ := ng_fo0 (c1 := nz_ z 0 nx_1) (c2 := nz_ z 8 nx_2) (c3 := nz_ z 1 nx_3) (pl := 0) (he := 0) (fr := 0) (wo := 0) (se := 0) (go := 0) (w := nw_ z) (b := nb_ z) (nw_x z) (nb_x z) (nw_9 z)
  refine ⟨(hn_ (nz_ z 0 nx_1) (nz_ z 8 nx_2) (nz_ z 1 nx_3) p1 p2 p3 ((ws_ (nw_ z) (nb_ z) 0 0 12 0 0 0 0).1) p4 ((ws_ (nw_ z) (nb_ z) 0 0 12 0 0 0 0).2)), ?_, rfl, rfl, rfl⟩
  refine am_enter (n := 0) tk_122.2.1 (by simp [Value.category]) (Nat.le_of_ble_eq_true rfl) ?_
  show am_Good mi_122 0 [some (.ref 0), some (.retAddr z), some (.retAddr 0), some (.retAddr 0)] [] hp_0 _
  refine g_iload_n (i := 1) dd_122_0 rfl ?_
  refine g_if_lt_f (t := 28) dd_122_1 (by decide) (tk_lt_f (by omega)) ?_
  refine g_iload_n (i := 1) dd_122_4 rfl ?_
  refine g_sipush dd_122_5 si_10000 ?_
  refine g_icmp_ge_f (t := 28) dd_122_8 (by decide) (tk_ge_f (by omega)) ?_
  refine g_aload_n (i := 0) dd_122_11 rfl ?_
  refine g_iload_n (i := 2) dd_122_12 rfl ?_
  refine g_virtual (M' := mi_59) (n := 1) (ci := 11) (b := 0) (as := [.retAddr 0]) (st := []) (r1 := (some (.retAddr 1), hp_0)) w_616 w_618 ps_59 ⟨lk_59.1, lk_59.2.1, lk_59.2.2, by decide, by decide⟩ rfl rfl rfl (by simp [Value.category]) dd_122_13 (ex_isWatcher_1 0 (by decide) (by decide)) ?_
  show am_Good mi_122 16 [some (.ref 0), some (.retAddr z), some (.retAddr 0), some (.retAddr 0)] [.retAddr 1] hp_0 _
  refine g_if_eq_f (t := 28) dd_122_16 (by decide) (by decide) ?_
  refine g_iload_n (i := 3) dd_122_19 rfl ?_
  refine g_if_lt_f (t := 28) dd_122_20 (by decide) (by decide) ?_
  refine g_iload_n (i := 3) dd_122_23 rfl ?_
  refine g_iconst dd_122_24 ic_1 ?_
  refine g_icmp_le_t (t := 30) dd_122_25 (by decide) (by decide) ?_
  refine g_aload_n (i := 0) dd_122_30 rfl ?_
  refine g_getfield (k := 7) am_ck11 (by decide) (Or.inl w_518) dd_122_31 rfl rfl ?_
  refine g_aload_n (i := 0) dd_122_34 rfl ?_
  refine g_getfield (k := 3) am_ck11 (by decide) (Or.inl w_514) dd_122_35 rfl rfl ?_
  refine g_iload_n (i := 1) dd_122_38 rfl ?_
  refine g_virtual (M' := mi_123) (n := 2) (ci := 9) (b := 36) (as := [.ref 4, .retAddr z]) (st := []) (r1 := (none, (hn_ (nz_ z 0 nx_1) (nz_ z 8 nx_2) (nz_ z 1 nx_3) 0 0 0 0 0 0))) w_889 w_890 w_891 ⟨lk_123.1, lk_123.2.1, lk_123.2.2, by decide, by decide⟩ rfl rfl rfl (by simp [Value.category]) dd_122_39 (ng_show z) ?_
  show am_Good mi_122 42 [some (.ref 0), some (.retAddr z), some (.retAddr 0), some (.retAddr 0)] [] (hn_ (nz_ z 0 nx_1) (nz_ z 8 nx_2) (nz_ z 1 nx_3) 0 0 0 0 0 0) _
  refine g_aload_n (i := 0) dd_122_42 rfl ?_
  refine g_iload_n (i := 2) dd_122_43 rfl ?_
  refine g_aload_n (i := 0) dd_122_44 rfl ?_
  refine g_getfield (k := 7) am_ck11 (by decide) (Or.inl w_518) dd_122_45 rfl rfl ?_
  refine g_virtual (M' := mi_60) (n := 2) (ci := 11) (b := 0) (as := [.retAddr 0, .ref 36]) (st := []) (r1 := (none, (hn_ (nz_ z 0 nx_1) (nz_ z 8 nx_2) (nz_ z 1 nx_3) p1 p2 p3 ((ws_ (nw_ z) (nb_ z) 0 0 12 0 0 0 0).1) p4 ((ws_ (nw_ z) (nb_ z) 0 0 12 0 0 0 0).2)))) w_620 w_622 ps_60 ⟨lk_60.1, lk_60.2.1, lk_60.2.2, by decide, by decide⟩ rfl rfl rfl (by simp [Value.category]) dd_122_48 (hg) ?_
  show am_Good mi_122 51 [some (.ref 0), some (.retAddr z), some (.retAddr 0), some (.retAddr 0)] [] (hn_ (nz_ z 0 nx_1) (nz_ z 8 nx_2) (nz_ z 1 nx_3) p1 p2 p3 ((ws_ (nw_ z) (nb_ z) 0 0 12 0 0 0 0).1) p4 ((ws_ (nw_ z) (nb_ z) 0 0 12 0 0 0 0).2)) _
  refine g_iload_n (i := 3) dd_122_51 rfl ?_
  refine g_if_ne_f (t := 65) dd_122_52 (by decide) (by decide) ?_
  refine g_aload_n (i := 0) dd_122_55 rfl ?_
  refine g_getfield (k := 8) am_ck11 (by decide) (Or.inl w_519) dd_122_56 rfl rfl ?_
  refine g_getfield (k := 4) am_ck10 (by decide) (Or.inr ⟨_, w_174⟩) dd_122_59 rfl rfl ?_
  refine g_goto (t := 72) dd_122_62 (by decide) ?_
  exact g_ireturn rfl dd_122_72
theorem ng_x0_1 (z : Nat) (hz : z < 10000) : HX 122 [.retAddr z, .retAddr 0, .retAddr 1] (ws_ (nw_ z) (nb_ z) 0 0 12 0 0 0 0).2 := by
  obtain ⟨p1, p2, p3, p4, hg⟩ := ng_fo0 (c1 := nz_ z 0 nx_1) (c2 := nz_ z 8 nx_2) (c3 := nz_ z 1 nx_3) (pl := 0) (he := 0) (fr := 0) (wo := 0) (se := 0) (go := 0) (w := nw_ z) (b := nb_ z) (nw_x z) (nb_x z) (nw_9 z)
  refine ⟨(hn_ (nz_ z 0 nx_1) (nz_ z 8 nx_2) (nz_ z 1 nx_3) p1 p2 p3 ((ws_ (nw_ z) (nb_ z) 0 0 12 0 0 0 0).1) p4 ((ws_ (nw_ z) (nb_ z) 0 0 12 0 0 0 0).2)), ?_, rfl, rfl, rfl⟩
  refine am_enter (n := 0) tk_122.2.1 (by simp [Value.category]) (Nat.le_of_ble_eq_true rfl) ?_
  show am_Good mi_122 0 [some (.ref 0), some (.retAddr z), some (.retAddr 0), some (.retAddr 1)] [] hp_0 _
  refine g_iload_n (i := 1) dd_122_0 rfl ?_
  refine g_if_lt_f (t := 28) dd_122_1 (by decide) (tk_lt_f (by omega)) ?_
  refine g_iload_n (i := 1) dd_122_4 rfl ?_
  refine g_sipush dd_122_5 si_10000 ?_
  refine g_icmp_ge_f (t := 28) dd_122_8 (by decide) (tk_ge_f (by omega)) ?_
  refine g_aload_n (i := 0) dd_122_11 rfl ?_
  refine g_iload_n (i := 2) dd_122_12 rfl ?_
  refine g_virtual (M' := mi_59) (n := 1) (ci := 11) (b := 0) (as := [.retAddr 0]) (st := []) (r1 := (some (.retAddr 1), hp_0)) w_616 w_618 ps_59 ⟨lk_59.1, lk_59.2.1, lk_59.2.2, by decide, by decide⟩ rfl rfl rfl (by simp [Value.category]) dd_122_13 (ex_isWatcher_1 0 (by decide) (by decide)) ?_
  show am_Good mi_122 16 [some (.ref 0), some (.retAddr z), some (.retAddr 0), some (.retAddr 1)] [.retAddr 1] hp_0 _
  refine g_if_eq_f (t := 28) dd_122_16 (by decide) (by decide) ?_
  refine g_iload_n (i := 3) dd_122_19 rfl ?_
  refine g_if_lt_f (t := 28) dd_122_20 (by decide) (by decide) ?_
  refine g_iload_n (i := 3) dd_122_23 rfl ?_
  refine g_iconst dd_122_24 ic_1 ?_
  refine g_icmp_le_t (t := 30) dd_122_25 (by decide) (by decide) ?_
  refine g_aload_n (i := 0) dd_122_30 rfl ?_
  refine g_getfield (k := 7) am_ck11 (by decide) (Or.inl w_518) dd_122_31 rfl rfl ?_
  refine g_aload_n (i := 0) dd_122_34 rfl ?_
  refine g_getfield (k := 3) am_ck11 (by decide) (Or.inl w_514) dd_122_35 rfl rfl ?_
  refine g_iload_n (i := 1) dd_122_38 rfl ?_
  refine g_virtual (M' := mi_123) (n := 2) (ci := 9) (b := 36) (as := [.ref 4, .retAddr z]) (st := []) (r1 := (none, (hn_ (nz_ z 0 nx_1) (nz_ z 8 nx_2) (nz_ z 1 nx_3) 0 0 0 0 0 0))) w_889 w_890 w_891 ⟨lk_123.1, lk_123.2.1, lk_123.2.2, by decide, by decide⟩ rfl rfl rfl (by simp [Value.category]) dd_122_39 (ng_show z) ?_
  show am_Good mi_122 42 [some (.ref 0), some (.retAddr z), some (.retAddr 0), some (.retAddr 1)] [] (hn_ (nz_ z 0 nx_1) (nz_ z 8 nx_2) (nz_ z 1 nx_3) 0 0 0 0 0 0) _
  refine g_aload_n (i := 0) dd_122_42 rfl ?_
  refine g_iload_n (i := 2) dd_122_43 rfl ?_
  refine g_aload_n (i := 0) dd_122_44 rfl ?_
  refine g_getfield (k := 7) am_ck11 (by decide) (Or.inl w_518) dd_122_45 rfl rfl ?_
  refine g_virtual (M' := mi_60) (n := 2) (ci := 11) (b := 0) (as := [.retAddr 0, .ref 36]) (st := []) (r1 := (none, (hn_ (nz_ z 0 nx_1) (nz_ z 8 nx_2) (nz_ z 1 nx_3) p1 p2 p3 ((ws_ (nw_ z) (nb_ z) 0 0 12 0 0 0 0).1) p4 ((ws_ (nw_ z) (nb_ z) 0 0 12 0 0 0 0).2)))) w_620 w_622 ps_60 ⟨lk_60.1, lk_60.2.1, lk_60.2.2, by decide, by decide⟩ rfl rfl rfl (by simp [Value.category]) dd_122_48 (hg) ?_
  show am_Good mi_122 51 [some (.ref 0), some (.retAddr z), some (.retAddr 0), some (.retAddr 1)] [] (hn_ (nz_ z 0 nx_1) (nz_ z 8 nx_2) (nz_ z 1 nx_3) p1 p2 p3 ((ws_ (nw_ z) (nb_ z) 0 0 12 0 0 0 0).1) p4 ((ws_ (nw_ z) (nb_ z) 0 0 12 0 0 0 0).2)) _
  refine g_iload_n (i := 3) dd_122_51 rfl ?_
  refine g_if_ne_t (t := 65) dd_122_52 (by decide) (by decide) ?_
  refine g_aload_n (i := 0) dd_122_65 rfl ?_
  refine g_getfield (k := 8) am_ck11 (by decide) (Or.inl w_519) dd_122_66 rfl rfl ?_
  refine g_getfield (k := 6) am_ck10 (by decide) (Or.inr ⟨_, w_178⟩) dd_122_69 rfl rfl ?_
  exact g_ireturn rfl dd_122_72
theorem ng_x1_0 (z : Nat) (hz : z < 10000) : HX 122 [.retAddr z, .retAddr 1, .retAddr 0] (ws_ (nw_ z) (nb_ z) 1 0 12 0 0 0 0).1 := by
  obtain ⟨p1, p2, p3, p4, hg⟩ := ng_fo1 (c1 := nz_ z 0 nx_1) (c2 := nz_ z 8 nx_2) (c3 := nz_ z 1 nx_3) (pl := 0) (he := 0) (fr := 0) (wo := 0) (se := 0) (go := 0) (w := nw_ z) (b := nb_ z) (nw_x z) (nb_x z) (nw_9 z)
  refine ⟨(hn_ (nz_ z 0 nx_1) (nz_ z 8 nx_2) (nz_ z 1 nx_3) p1 p2 p3 ((ws_ (nw_ z) (nb_ z) 1 0 12 0 0 0 0).1) p4 ((ws_ (nw_ z) (nb_ z) 1 0 12 0 0 0 0).2)), ?_, rfl, rfl, rfl⟩
  refine am_enter (n := 0) tk_122.2.1 (by simp [Value.category]) (Nat.le_of_ble_eq_true rfl) ?_
  show am_Good mi_122 0 [some (.ref 0), some (.retAddr z), some (.retAddr 1), some (.retAddr 0)] [] hp_0 _
  refine g_iload_n (i := 1) dd_122_0 rfl ?_
  refine g_if_lt_f (t := 28) dd_122_1 (by decide) (tk_lt_f (by omega)) ?_
  refine g_iload_n (i := 1) dd_122_4 rfl ?_
  refine g_sipush dd_122_5 si_10000 ?_
  refine g_icmp_ge_f (t := 28) dd_122_8 (by decide) (tk_ge_f (by omega)) ?_
  refine g_aload_n (i := 0) dd_122_11 rfl ?_
  refine g_iload_n (i := 2) dd_122_12 rfl ?_
  refine g_virtual (M' := mi_59) (n := 1) (ci := 11) (b := 0) (as := [.retAddr 1]) (st := []) (r1 := (some (.retAddr 1), hp_0)) w_616 w_618 ps_59 ⟨lk_59.1, lk_59.2.1, lk_59.2.2, by decide, by decide⟩ rfl rfl rfl (by simp [Value.category]) dd_122_13 (ex_isWatcher_1 1 (by decide) (by decide)) ?_
  show am_Good mi_122 16 [some (.ref 0), some (.retAddr z), some (.retAddr 1), some (.retAddr 0)] [.retAddr 1] hp_0 _
  refine g_if_eq_f (t := 28) dd_122_16 (by decide) (by decide) ?_
  refine g_iload_n (i := 3) dd_122_19 rfl ?_
  refine g_if_lt_f (t := 28) dd_122_20 (by decide) (by decide) ?_
  refine g_iload_n (i := 3) dd_122_23 rfl ?_
  refine g_iconst dd_122_24 ic_1 ?_
  refine g_icmp_le_t (t := 30) dd_122_25 (by decide) (by decide) ?_
  refine g_aload_n (i := 0) dd_122_30 rfl ?_
  refine g_getfield (k := 7) am_ck11 (by decide) (Or.inl w_518) dd_122_31 rfl rfl ?_
  refine g_aload_n (i := 0) dd_122_34 rfl ?_
  refine g_getfield (k := 3) am_ck11 (by decide) (Or.inl w_514) dd_122_35 rfl rfl ?_
  refine g_iload_n (i := 1) dd_122_38 rfl ?_
  refine g_virtual (M' := mi_123) (n := 2) (ci := 9) (b := 36) (as := [.ref 4, .retAddr z]) (st := []) (r1 := (none, (hn_ (nz_ z 0 nx_1) (nz_ z 8 nx_2) (nz_ z 1 nx_3) 0 0 0 0 0 0))) w_889 w_890 w_891 ⟨lk_123.1, lk_123.2.1, lk_123.2.2, by decide, by decide⟩ rfl rfl rfl (by simp [Value.category]) dd_122_39 (ng_show z) ?_
  show am_Good mi_122 42 [some (.ref 0), some (.retAddr z), some (.retAddr 1), some (.retAddr 0)] [] (hn_ (nz_ z 0 nx_1) (nz_ z 8 nx_2) (nz_ z 1 nx_3) 0 0 0 0 0 0) _
  refine g_aload_n (i := 0) dd_122_42 rfl ?_
  refine g_iload_n (i := 2) dd_122_43 rfl ?_
  refine g_aload_n (i := 0) dd_122_44 rfl ?_
  refine g_getfield (k := 7) am_ck11 (by decide) (Or.inl w_518) dd_122_45 rfl rfl ?_
  refine g_virtual (M' := mi_60) (n := 2) (ci := 11) (b := 0) (as := [.retAddr 1, .ref 36]) (st := []) (r1 := (none, (hn_ (nz_ z 0 nx_1) (nz_ z 8 nx_2) (nz_ z 1 nx_3) p1 p2 p3 ((ws_ (nw_ z) (nb_ z) 1 0 12 0 0 0 0).1) p4 ((ws_ (nw_ z) (nb_ z) 1 0 12 0 0 0 0).2)))) w_620 w_622 ps_60 ⟨lk_60.1, lk_60.2.1, lk_60.2.2, by decide, by decide⟩ rfl rfl rfl (by simp [Value.category]) dd_122_48 (hg) ?_
  show am_Good mi_122 51 [some (.ref 0), some (.retAddr z), some (.retAddr 1), some (.retAddr 0)] [] (hn_ (nz_ z 0 nx_1) (nz_ z 8 nx_2) (nz_ z 1 nx_3) p1 p2 p3 ((ws_ (nw_ z) (nb_ z) 1 0 12 0 0 0 0).1) p4 ((ws_ (nw_ z) (nb_ z) 1 0 12 0 0 0 0).2)) _
  refine g_iload_n (i := 3) dd_122_51 rfl ?_
  refine g_if_ne_f (t := 65) dd_122_52 (by decide) (by decide) ?_
  refine g_aload_n (i := 0) dd_122_55 rfl ?_
  refine g_getfield (k := 8) am_ck11 (by decide) (Or.inl w_519) dd_122_56 rfl rfl ?_
  refine g_getfield (k := 4) am_ck10 (by decide) (Or.inr ⟨_, w_174⟩) dd_122_59 rfl rfl ?_
  refine g_goto (t := 72) dd_122_62 (by decide) ?_
  exact g_ireturn rfl dd_122_72
theorem ng_x1_1 (z : Nat) (hz : z < 10000) : HX 122 [.retAddr z, .retAddr 1, .retAddr 1] (ws_ (nw_ z) (nb_ z) 1 0 12 0 0 0 0).2 := by
  obtain ⟨p1, p2, p3, p4, hg⟩ := ng_fo1 (c1 := nz_ z 0 nx_1) (c2 := nz_ z 8 nx_2) (c3 := nz_ z 1 nx_3) (pl := 0) (he := 0) (fr := 0) (wo := 0) (se := 0) (go := 0) (w := nw_ z) (b := nb_ z) (nw_x z) (nb_x z) (nw_9 z)
  refine ⟨(hn_ (nz_ z 0 nx_1) (nz_ z 8 nx_2) (nz_ z 1 nx_3) p1 p2 p3 ((ws_ (nw_ z) (nb_ z) 1 0 12 0 0 0 0).1) p4 ((ws_ (nw_ z) (nb_ z) 1 0 12 0 0 0 0).2)), ?_, rfl, rfl, rfl⟩
  refine am_enter (n := 0) tk_122.2.1 (by simp [Value.category]) (Nat.le_of_ble_eq_true rfl) ?_
  show am_Good mi_122 0 [some (.ref 0), some (.retAddr z), some (.retAddr 1), some (.retAddr 1)] [] hp_0 _
  refine g_iload_n (i := 1) dd_122_0 rfl ?_
  refine g_if_lt_f (t := 28) dd_122_1 (by decide) (tk_lt_f (by omega)) ?_
  refine g_iload_n (i := 1) dd_122_4 rfl ?_
  refine g_sipush dd_122_5 si_10000 ?_
  refine g_icmp_ge_f (t := 28) dd_122_8 (by decide) (tk_ge_f (by omega)) ?_
  refine g_aload_n (i := 0) dd_122_11 rfl ?_
  refine g_iload_n (i := 2) dd_122_12 rfl ?_
  refine g_virtual (M' := mi_59) (n := 1) (ci := 11) (b := 0) (as := [.retAddr 1]) (st := []) (r1 := (some (.retAddr 1), hp_0)) w_616 w_618 ps_59 ⟨lk_59.1, lk_59.2.1, lk_59.2.2, by decide, by decide⟩ rfl rfl rfl (by simp [Value.category]) dd_122_13 (ex_isWatcher_1 1 (by decide) (by decide)) ?_
  show am_Good mi_122 16 [some (.ref 0), some (.retAddr z), some (.retAddr 1), some (.retAddr 1)] [.retAddr 1] hp_0 _
  refine g_if_eq_f (t := 28) dd_122_16 (by decide) (by decide) ?_
  refine g_iload_n (i := 3) dd_122_19 rfl ?_
  refine g_if_lt_f (t := 28) dd_122_20 (by decide) (by decide) ?_
  refine g_iload_n (i := 3) dd_122_23 rfl ?_
  refine g_iconst dd_122_24 ic_1 ?_
  refine g_icmp_le_t (t := 30) dd_122_25 (by decide) (by decide) ?_
  refine g_aload_n (i := 0) dd_122_30 rfl ?_
  refine g_getfield (k := 7) am_ck11 (by decide) (Or.inl w_518) dd_122_31 rfl rfl ?_
  refine g_aload_n (i := 0) dd_122_34 rfl ?_
  refine g_getfield (k := 3) am_ck11 (by decide) (Or.inl w_514) dd_122_35 rfl rfl ?_
  refine g_iload_n (i := 1) dd_122_38 rfl ?_
  refine g_virtual (M' := mi_123) (n := 2) (ci := 9) (b := 36) (as := [.ref 4, .retAddr z]) (st := []) (r1 := (none, (hn_ (nz_ z 0 nx_1) (nz_ z 8 nx_2) (nz_ z 1 nx_3) 0 0 0 0 0 0))) w_889 w_890 w_891 ⟨lk_123.1, lk_123.2.1, lk_123.2.2, by decide, by decide⟩ rfl rfl rfl (by simp [Value.category]) dd_122_39 (ng_show z) ?_
  show am_Good mi_122 42 [some (.ref 0), some (.retAddr z), some (.retAddr 1), some (.retAddr 1)] [] (hn_ (nz_ z 0 nx_1) (nz_ z 8 nx_2) (nz_ z 1 nx_3) 0 0 0 0 0 0) _
  refine g_aload_n (i := 0) dd_122_42 rfl ?_
  refine g_iload_n (i := 2) dd_122_43 rfl ?_
  refine g_aload_n (i := 0) dd_122_44 rfl ?_
  refine g_getfield (k := 7) am_ck11 (by decide) (Or.inl w_518) dd_122_45 rfl rfl ?_
  refine g_virtual (M' := mi_60) (n := 2) (ci := 11) (b := 0) (as := [.retAddr 1, .ref 36]) (st := []) (r1 := (none, (hn_ (nz_ z 0 nx_1) (nz_ z 8 nx_2) (nz_ z 1 nx_3) p1 p2 p3 ((ws_ (nw_ z) (nb_ z) 1 0 12 0 0 0 0).1) p4 ((ws_ (nw_ z) (nb_ z) 1 0 12 0 0 0 0).2)))) w_620 w_622 ps_60 ⟨lk_60.1, lk_60.2.1, lk_60.2.2, by decide, by decide⟩ rfl rfl rfl (by simp [Value.category]) dd_122_48 (hg) ?_
  show am_Good mi_122 51 [some (.ref 0), some (.retAddr z), some (.retAddr 1), some (.retAddr 1)] [] (hn_ (nz_ z 0 nx_1) (nz_ z 8 nx_2) (nz_ z 1 nx_3) p1 p2 p3 ((ws_ (nw_ z) (nb_ z) 1 0 12 0 0 0 0).1) p4 ((ws_ (nw_ z) (nb_ z) 1 0 12 0 0 0 0).2)) _
  refine g_iload_n (i := 3) dd_122_51 rfl ?_
  refine g_if_ne_t (t := 65) dd_122_52 (by decide) (by decide) ?_
  refine g_aload_n (i := 0) dd_122_65 rfl ?_
  refine g_getfield (k := 8) am_ck11 (by decide) (Or.inl w_519) dd_122_66 rfl rfl ?_
  refine g_getfield (k := 6) am_ck10 (by decide) (Or.inr ⟨_, w_178⟩) dd_122_69 rfl rfl ?_
  exact g_ireturn rfl dd_122_72
theorem ng_x2_0 (z : Nat) (hz : z < 10000) : HX 122 [.retAddr z, .retAddr 2, .retAddr 0] (ws_ (nw_ z) (nb_ z) 2 0 12 0 0 0 0).1 := by
  obtain ⟨p1, p2, p3, p4, hg⟩ := ng_fo2 (c1 := nz_ z 0 nx_1) (c2 := nz_ z 8 nx_2) (c3 := nz_ z 1 nx_3) (pl := 0) (he := 0) (fr := 0) (wo := 0) (se := 0) (go := 0) (w := nw_ z) (b := nb_ z) (nw_x z) (nb_x z) (nw_9 z)
  refine ⟨(hn_ (nz_ z 0 nx_1) (nz_ z 8 nx_2) (nz_ z 1 nx_3) p1 p2 p3 ((ws_ (nw_ z) (nb_ z) 2 0 12 0 0 0 0).1) p4 ((ws_ (nw_ z) (nb_ z) 2 0 12 0 0 0 0).2)), ?_, rfl, rfl, rfl⟩
  refine am_enter (n := 0) tk_122.2.1 (by simp [Value.category]) (Nat.le_of_ble_eq_true rfl) ?_
  show am_Good mi_122 0 [some (.ref 0), some (.retAddr z), some (.retAddr 2), some (.retAddr 0)] [] hp_0 _
  refine g_iload_n (i := 1) dd_122_0 rfl ?_
  refine g_if_lt_f (t := 28) dd_122_1 (by decide) (tk_lt_f (by omega)) ?_
  refine g_iload_n (i := 1) dd_122_4 rfl ?_
  refine g_sipush dd_122_5 si_10000 ?_
  refine g_icmp_ge_f (t := 28) dd_122_8 (by decide) (tk_ge_f (by omega)) ?_
  refine g_aload_n (i := 0) dd_122_11 rfl ?_
  refine g_iload_n (i := 2) dd_122_12 rfl ?_
  refine g_virtual (M' := mi_59) (n := 1) (ci := 11) (b := 0) (as := [.retAddr 2]) (st := []) (r1 := (some (.retAddr 1), hp_0)) w_616 w_618 ps_59 ⟨lk_59.1, lk_59.2.1, lk_59.2.2, by decide, by decide⟩ rfl rfl rfl (by simp [Value.category]) dd_122_13 (ex_isWatcher_1 2 (by decide) (by decide)) ?_
  show am_Good mi_122 16 [some (.ref 0), some (.retAddr z), some (.retAddr 2), some (.retAddr 0)] [.retAddr 1] hp_0 _
  refine g_if_eq_f (t := 28) dd_122_16 (by decide) (by decide) ?_
  refine g_iload_n (i := 3) dd_122_19 rfl ?_
  refine g_if_lt_f (t := 28) dd_122_20 (by decide) (by decide) ?_
  refine g_iload_n (i := 3) dd_122_23 rfl ?_
  refine g_iconst dd_122_24 ic_1 ?_
  refine g_icmp_le_t (t := 30) dd_122_25 (by decide) (by decide) ?_
  refine g_aload_n (i := 0) dd_122_30 rfl ?_
  refine g_getfield (k := 7) am_ck11 (by decide) (Or.inl w_518) dd_122_31 rfl rfl ?_
  refine g_aload_n (i := 0) dd_122_34 rfl ?_
  refine g_getfield (k := 3) am_ck11 (by decide) (Or.inl w_514) dd_122_35 rfl rfl ?_
  refine g_iload_n (i := 1) dd_122_38 rfl ?_
  refine g_virtual (M' := mi_123) (n := 2) (ci := 9) (b := 36) (as := [.ref 4, .retAddr z]) (st := []) (r1 := (none, (hn_ (nz_ z 0 nx_1) (nz_ z 8 nx_2) (nz_ z 1 nx_3) 0 0 0 0 0 0))) w_889 w_890 w_891 ⟨lk_123.1, lk_123.2.1, lk_123.2.2, by decide, by decide⟩ rfl rfl rfl (by simp [Value.category]) dd_122_39 (ng_show z) ?_
  show am_Good mi_122 42 [some (.ref 0), some (.retAddr z), some (.retAddr 2), some (.retAddr 0)] [] (hn_ (nz_ z 0 nx_1) (nz_ z 8 nx_2) (nz_ z 1 nx_3) 0 0 0 0 0 0) _
  refine g_aload_n (i := 0) dd_122_42 rfl ?_
  refine g_iload_n (i := 2) dd_122_43 rfl ?_
  refine g_aload_n (i := 0) dd_122_44 rfl ?_
  refine g_getfield (k := 7) am_ck11 (by decide) (Or.inl w_518) dd_122_45 rfl rfl ?_
  refine g_virtual (M' := mi_60) (n := 2) (ci := 11) (b := 0) (as := [.retAddr 2, .ref 36]) (st := []) (r1 := (none, (hn_ (nz_ z 0 nx_1) (nz_ z 8 nx_2) (nz_ z 1 nx_3) p1 p2 p3 ((ws_ (nw_ z) (nb_ z) 2 0 12 0 0 0 0).1) p4 ((ws_ (nw_ z) (nb_ z) 2 0 12 0 0 0 0).2)))) w_620 w_622 ps_60 ⟨lk_60.1, lk_60.2.1, lk_60.2.2, by decide, by decide⟩ rfl rfl rfl (by simp [Value.category]) dd_122_48 (hg) ?_
  show am_Good mi_122 51 [some (.ref 0), some (.retAddr z), some (.retAddr 2), some (.retAddr 0)] [] (hn_ (nz_ z 0 nx_1) (nz_ z 8 nx_2) (nz_ z 1 nx_3) p1 p2 p3 ((ws_ (nw_ z) (nb_ z) 2 0 12 0 0 0 0).1) p4 ((ws_ (nw_ z) (nb_ z) 2 0 12 0 0 0 0).2)) _
  refine g_iload_n (i := 3) dd_122_51 rfl ?_
  refine g_if_ne_f (t := 65) dd_122_52 (by decide) (by decide) ?_
  refine g_aload_n (i := 0) dd_122_55 rfl ?_
  refine g_getfield (k := 8) am_ck11 (by decide) (Or.inl w_519) dd_122_56 rfl rfl ?_
  refine g_getfield (k := 4) am_ck10 (by decide) (Or.inr ⟨_, w_174⟩) dd_122_59 rfl rfl ?_
  refine g_goto (t := 72) dd_122_62 (by decide) ?_
  exact g_ireturn rfl dd_122_72
theorem ng_x2_1 (z : Nat) (hz : z < 10000) : HX 122 [.retAddr z, .retAddr 2, .retAddr 1] (ws_ (nw_ z) (nb_ z) 2 0 12 0 0 0 0).2 := by
  obtain ⟨p1, p2, p3, p4, hg⟩ := ng_fo2 (c1 := nz_ z 0 nx_1) (c2 := nz_ z 8 nx_2) (c3 := nz_ z 1 nx_3) (pl := 0) (he := 0) (fr := 0) (wo := 0) (se := 0) (go := 0) (w := nw_ z) (b := nb_ z) (nw_x z) (nb_x z) (nw_9 z)
  refine ⟨(hn_ (nz_ z 0 nx_1) (nz_ z 8 nx_2) (nz_ z 1 nx_3) p1 p2 p3 ((ws_ (nw_ z) (nb_ z) 2 0 12 0 0 0 0).1) p4 ((ws_ (nw_ z) (nb_ z) 2 0 12 0 0 0 0).2)), ?_, rfl, rfl, rfl⟩
  refine am_enter (n := 0) tk_122.2.1 (by simp [Value.category]) (Nat.le_of_ble_eq_true rfl) ?_
  show am_Good mi_122 0 [some (.ref 0), some (.retAddr z), some (.retAddr 2), some (.retAddr 1)] [] hp_0 _
  refine g_iload_n (i := 1) dd_122_0 rfl ?_
  refine g_if_lt_f (t := 28) dd_122_1 (by decide) (tk_lt_f (by omega)) ?_
  refine g_iload_n (i := 1) dd_122_4 rfl ?_
  refine g_sipush dd_122_5 si_10000 ?_
  refine g_icmp_ge_f (t := 28) dd_122_8 (by decide) (tk_ge_f (by omega)) ?_
  refine g_aload_n (i := 0) dd_122_11 rfl ?_
  refine g_iload_n (i := 2) dd_122_12 rfl ?_
  refine g_virtual (M' := mi_59) (n := 1) (ci := 11) (b := 0) (as := [.retAddr 2]) (st := []) (r1 := (some (.retAddr 1), hp_0)) w_616 w_618 ps_59 ⟨lk_59.1, lk_59.2.1, lk_59.2.2, by decide, by decide⟩ rfl rfl rfl (by simp [Value.category]) dd_122_13 (ex_isWatcher_1 2 (by decide) (by decide)) ?_
  show am_Good mi_122 16 [some (.ref 0), some (.retAddr z), some (.retAddr 2), some (.retAddr 1)] [.retAddr 1] hp_0 _
  refine g_if_eq_f (t := 28) dd_122_16 (by decide) (by decide) ?_
  refine g_iload_n (i := 3) dd_122_19 rfl ?_
  refine g_if_lt_f (t := 28) dd_122_20 (by decide) (by decide) ?_
  refine g_iload_n (i := 3) dd_122_23 rfl ?_
  refine g_iconst dd_122_24 ic_1 ?_
  refine g_icmp_le_t (t := 30) dd_122_25 (by decide) (by decide) ?_
  refine g_aload_n (i := 0) dd_122_30 rfl ?_
  refine g_getfield (k := 7) am_ck11 (by decide) (Or.inl w_518) dd_122_31 rfl rfl ?_
  refine g_aload_n (i := 0) dd_122_34 rfl ?_
  refine g_getfield (k := 3) am_ck11 (by decide) (Or.inl w_514) dd_122_35 rfl rfl ?_
  refine g_iload_n (i := 1) dd_122_38 rfl ?_
  refine g_virtual (M' := mi_123) (n := 2) (ci := 9) (b := 36) (as := [.ref 4, .retAddr z]) (st := []) (r1 := (none, (hn_ (nz_ z 0 nx_1) (nz_ z 8 nx_2) (nz_ z 1 nx_3) 0 0 0 0 0 0))) w_889 w_890 w_891 ⟨lk_123.1, lk_123.2.1, lk_123.2.2, by decide, by decide⟩ rfl rfl rfl (by simp [Value.category]) dd_122_39 (ng_show z) ?_
  show am_Good mi_122 42 [some (.ref 0), some (.retAddr z), some (.retAddr 2), some (.retAddr 1)] [] (hn_ (nz_ z 0 nx_1) (nz_ z 8 nx_2) (nz_ z 1 nx_3) 0 0 0 0 0 0) _
  refine g_aload_n (i := 0) dd_122_42 rfl ?_
  refine g_iload_n (i := 2) dd_122_43 rfl ?_
  refine g_aload_n (i := 0) dd_122_44 rfl ?_
  refine g_getfield (k := 7) am_ck11 (by decide) (Or.inl w_518) dd_122_45 rfl rfl ?_
  refine g_virtual (M' := mi_60) (n := 2) (ci := 11) (b := 0) (as := [.retAddr 2, .ref 36]) (st := []) (r1 := (none, (hn_ (nz_ z 0 nx_1) (nz_ z 8 nx_2) (nz_ z 1 nx_3) p1 p2 p3 ((ws_ (nw_ z) (nb_ z) 2 0 12 0 0 0 0).1) p4 ((ws_ (nw_ z) (nb_ z) 2 0 12 0 0 0 0).2)))) w_620 w_622 ps_60 ⟨lk_60.1, lk_60.2.1, lk_60.2.2, by decide, by decide⟩ rfl rfl rfl (by simp [Value.category]) dd_122_48 (hg) ?_
  show am_Good mi_122 51 [some (.ref 0), some (.retAddr z), some (.retAddr 2), some (.retAddr 1)] [] (hn_ (nz_ z 0 nx_1) (nz_ z 8 nx_2) (nz_ z 1 nx_3) p1 p2 p3 ((ws_ (nw_ z) (nb_ z) 2 0 12 0 0 0 0).1) p4 ((ws_ (nw_ z) (nb_ z) 2 0 12 0 0 0 0).2)) _
  refine g_iload_n (i := 3) dd_122_51 rfl ?_
  refine g_if_ne_t (t := 65) dd_122_52 (by decide) (by decide) ?_
  refine g_aload_n (i := 0) dd_122_65 rfl ?_
  refine g_getfield (k := 8) am_ck11 (by decide) (Or.inl w_519) dd_122_66 rfl rfl ?_
  refine g_getfield (k := 6) am_ck10 (by decide) (Or.inr ⟨_, w_178⟩) dd_122_69 rfl rfl ?_
  exact g_ireturn rfl dd_122_72
theorem ng_x3_0 (z : Nat) (hz : z < 10000) : HX 122 [.retAddr z, .retAddr 3, .retAddr 0] (ws_ (nw_ z) (nb_ z) 3 1 12 0 1 0 0).1 := by
  obtain ⟨p1, p2, p3, p4, hg⟩ := ng_fo3 (c1 := nz_ z 0 nx_1) (c2 := nz_ z 8 nx_2) (c3 := nz_ z 1 nx_3) (pl := 0) (he := 0) (fr := 0) (wo := 0) (se := 0) (go := 0) (w := nw_ z) (b := nb_ z) (nw_x z) (nb_x z) (nw_9 z)
  refine ⟨(hn_ (nz_ z 0 nx_1) (nz_ z 8 nx_2) (nz_ z 1 nx_3) p1 p2 p3 ((ws_ (nw_ z) (nb_ z) 3 1 12 0 1 0 0).1) p4 ((ws_ (nw_ z) (nb_ z) 3 1 12 0 1 0 0).2)), ?_, rfl, rfl, rfl⟩
  refine am_enter (n := 0) tk_122.2.1 (by simp [Value.category]) (Nat.le_of_ble_eq_true rfl) ?_
  show am_Good mi_122 0 [some (.ref 0), some (.retAddr z), some (.retAddr 3), some (.retAddr 0)] [] hp_0 _
  refine g_iload_n (i := 1) dd_122_0 rfl ?_
  refine g_if_lt_f (t := 28) dd_122_1 (by decide) (tk_lt_f (by omega)) ?_
  refine g_iload_n (i := 1) dd_122_4 rfl ?_
  refine g_sipush dd_122_5 si_10000 ?_
  refine g_icmp_ge_f (t := 28) dd_122_8 (by decide) (tk_ge_f (by omega)) ?_
  refine g_aload_n (i := 0) dd_122_11 rfl ?_
  refine g_iload_n (i := 2) dd_122_12 rfl ?_
  refine g_virtual (M' := mi_59) (n := 1) (ci := 11) (b := 0) (as := [.retAddr 3]) (st := []) (r1 := (some (.retAddr 1), hp_0)) w_616 w_618 ps_59 ⟨lk_59.1, lk_59.2.1, lk_59.2.2, by decide, by decide⟩ rfl rfl rfl (by simp [Value.category]) dd_122_13 (ex_isWatcher_1 3 (by decide) (by decide)) ?_
  show am_Good mi_122 16 [some (.ref 0), some (.retAddr z), some (.retAddr 3), some (.retAddr 0)] [.retAddr 1] hp_0 _
  refine g_if_eq_f (t := 28) dd_122_16 (by decide) (by decide) ?_
  refine g_iload_n (i := 3) dd_122_19 rfl ?_
  refine g_if_lt_f (t := 28) dd_122_20 (by decide) (by decide) ?_
  refine g_iload_n (i := 3) dd_122_23 rfl ?_
  refine g_iconst dd_122_24 ic_1 ?_
  refine g_icmp_le_t (t := 30) dd_122_25 (by decide) (by decide) ?_
  refine g_aload_n (i := 0) dd_122_30 rfl ?_
  refine g_getfield (k := 7) am_ck11 (by decide) (Or.inl w_518) dd_122_31 rfl rfl ?_
  refine g_aload_n (i := 0) dd_122_34 rfl ?_
  refine g_getfield (k := 3) am_ck11 (by decide) (Or.inl w_514) dd_122_35 rfl rfl ?_
  refine g_iload_n (i := 1) dd_122_38 rfl ?_
  refine g_virtual (M' := mi_123) (n := 2) (ci := 9) (b := 36) (as := [.ref 4, .retAddr z]) (st := []) (r1 := (none, (hn_ (nz_ z 0 nx_1) (nz_ z 8 nx_2) (nz_ z 1 nx_3) 0 0 0 0 0 0))) w_889 w_890 w_891 ⟨lk_123.1, lk_123.2.1, lk_123.2.2, by decide, by decide⟩ rfl rfl rfl (by simp [Value.category]) dd_122_39 (ng_show z) ?_
  show am_Good mi_122 42 [some (.ref 0), some (.retAddr z), some (.retAddr 3), some (.retAddr 0)] [] (hn_ (nz_ z 0 nx_1) (nz_ z 8 nx_2) (nz_ z 1 nx_3) 0 0 0 0 0 0) _
  refine g_aload_n (i := 0) dd_122_42 rfl ?_
  refine g_iload_n (i := 2) dd_122_43 rfl ?_
  refine g_aload_n (i := 0) dd_122_44 rfl ?_
  refine g_getfield (k := 7) am_ck11 (by decide) (Or.inl w_518) dd_122_45 rfl rfl ?_
  refine g_virtual (M' := mi_60) (n := 2) (ci := 11) (b := 0) (as := [.retAddr 3, .ref 36]) (st := []) (r1 := (none, (hn_ (nz_ z 0 nx_1) (nz_ z 8 nx_2) (nz_ z 1 nx_3) p1 p2 p3 ((ws_ (nw_ z) (nb_ z) 3 1 12 0 1 0 0).1) p4 ((ws_ (nw_ z) (nb_ z) 3 1 12 0 1 0 0).2)))) w_620 w_622 ps_60 ⟨lk_60.1, lk_60.2.1, lk_60.2.2, by decide, by decide⟩ rfl rfl rfl (by simp [Value.category]) dd_122_48 (hg) ?_
  show am_Good mi_122 51 [some (.ref 0), some (.retAddr z), some (.retAddr 3), some (.retAddr 0)] [] (hn_ (nz_ z 0 nx_1) (nz_ z 8 nx_2) (nz_ z 1 nx_3) p1 p2 p3 ((ws_ (nw_ z) (nb_ z) 3 1 12 0 1 0 0).1) p4 ((ws_ (nw_ z) (nb_ z) 3 1 12 0 1 0 0).2)) _
  refine g_iload_n (i := 3) dd_122_51 rfl ?_
  refine g_if_ne_f (t := 65) dd_122_52 (by decide) (by decide) ?_
  refine g_aload_n (i := 0) dd_122_55 rfl ?_
  refine g_getfield (k := 8) am_ck11 (by decide) (Or.inl w_519) dd_122_56 rfl rfl ?_
  refine g_getfield (k := 4) am_ck10 (by decide) (Or.inr ⟨_, w_174⟩) dd_122_59 rfl rfl ?_
  refine g_goto (t := 72) dd_122_62 (by decide) ?_
  exact g_ireturn rfl dd_122_72
theorem ng_x3_1 (z : Nat) (hz : z < 10000) : HX 122 [.retAddr z, .retAddr 3, .retAddr 1] (ws_ (nw_ z) (nb_ z) 3 1 12 0 1 0 0).2 := by
  obtain ⟨p1, p2, p3, p4, hg⟩ := ng_fo3 (c1 := nz_ z 0 nx_1) (c2 := nz_ z 8 nx_2) (c3 := nz_ z 1 nx_3) (pl := 0) (he := 0) (fr := 0) (wo := 0) (se := 0) (go := 0) (w := nw_ z) (b := nb_ z) (nw_x z) (nb_x z) (nw_9 z)
  refine ⟨(hn_ (nz_ z 0 nx_1) (nz_ z 8 nx_2) (nz_ z 1 nx_3) p1 p2 p3 ((ws_ (nw_ z) (nb_ z) 3 1 12 0 1 0 0).1) p4 ((ws_ (nw_ z) (nb_ z) 3 1 12 0 1 0 0).2)), ?_, rfl, rfl, rfl⟩
  refine am_enter (n := 0) tk_122.2.1 (by simp [Value.category]) (Nat.le_of_ble_eq_true rfl) ?_
  show am_Good mi_122 0 [some (.ref 0), some (.retAddr z), some (.retAddr 3), some (.retAddr 1)] [] hp_0 _
  refine g_iload_n (i := 1) dd_122_0 rfl ?_
  refine g_if_lt_f (t := 28) dd_122_1 (by decide) (tk_lt_f (by omega)) ?_
  refine g_iload_n (i := 1) dd_122_4 rfl ?_
  refine g_sipush dd_122_5 si_10000 ?_
  refine g_icmp_ge_f (t := 28) dd_122_8 (by decide) (tk_ge_f (by omega)) ?_
  refine g_aload_n (i := 0) dd_122_11 rfl ?_
  refine g_iload_n (i := 2) dd_122_12 rfl ?_
  refine g_virtual (M' := mi_59) (n := 1) (ci := 11) (b := 0) (as := [.retAddr 3]) (st := []) (r1 := (some (.retAddr 1), hp_0)) w_616 w_618 ps_59 ⟨lk_59.1, lk_59.2.1, lk_59.2.2, by decide, by decide⟩ rfl rfl rfl (by simp [Value.category]) dd_122_13 (ex_isWatcher_1 3 (by decide) (by decide)) ?_
  show am_Good mi_122 16 [some (.ref 0), some (.retAddr z), some (.retAddr 3), some (.retAddr 1)] [.retAddr 1] hp_0 _
  refine g_if_eq_f (t := 28) dd_122_16 (by decide) (by decide) ?_
  refine g_iload_n (i := 3) dd_122_19 rfl ?_
  refine g_if_lt_f (t := 28) dd_122_20 (by decide) (by decide) ?_
  refine g_iload_n (i := 3) dd_122_23 rfl ?_
  refine g_iconst dd_122_24 ic_1 ?_
  refine g_icmp_le_t (t := 30) dd_122_25 (by decide) (by decide) ?_
  refine g_aload_n (i := 0) dd_122_30 rfl ?_
  refine g_getfield (k := 7) am_ck11 (by decide) (Or.inl w_518) dd_122_31 rfl rfl ?_
  refine g_aload_n (i := 0) dd_122_34 rfl ?_
  refine g_getfield (k := 3) am_ck11 (by decide) (Or.inl w_514) dd_122_35 rfl rfl ?_
  refine g_iload_n (i := 1) dd_122_38 rfl ?_
  refine g_virtual (M' := mi_123) (n := 2) (ci := 9) (b := 36) (as := [.ref 4, .retAddr z]) (st := []) (r1 := (none, (hn_ (nz_ z 0 nx_1) (nz_ z 8 nx_2) (nz_ z 1 nx_3) 0 0 0 0 0 0))) w_889 w_890 w_891 ⟨lk_123.1, lk_123.2.1, lk_123.2.2, by decide, by decide⟩ rfl rfl rfl (by simp [Value.category]) dd_122_39 (ng_show z) ?_
  show am_Good mi_122 42 [some (.ref 0), some (.retAddr z), some (.retAddr 3), some (.retAddr 1)] [] (hn_ (nz_ z 0 nx_1) (nz_ z 8 nx_2) (nz_ z 1 nx_3) 0 0 0 0 0 0) _
  refine g_aload_n (i := 0) dd_122_42 rfl ?_
  refine g_iload_n (i := 2) dd_122_43 rfl ?_
  refine g_aload_n (i := 0) dd_122_44 rfl ?_
  refine g_getfield (k := 7) am_ck11 (by decide) (Or.inl w_518) dd_122_45 rfl rfl ?_
  refine g_virtual (M' := mi_60) (n := 2) (ci := 11) (b := 0) (as := [.retAddr 3, .ref 36]) (st := []) (r1 := (none, (hn_ (nz_ z 0 nx_1) (nz_ z 8 nx_2) (nz_ z 1 nx_3) p1 p2 p3 ((ws_ (nw_ z) (nb_ z) 3 1 12 0 1 0 0).1) p4 ((ws_ (nw_ z) (nb_ z) 3 1 12 0 1 0 0).2)))) w_620 w_622 ps_60 ⟨lk_60.1, lk_60.2.1, lk_60.2.2, by decide, by decide⟩ rfl rfl rfl (by simp [Value.category]) dd_122_48 (hg) ?_
  show am_Good mi_122 51 [some (.ref 0), some (.retAddr z), some (.retAddr 3), some (.retAddr 1)] [] (hn_ (nz_ z 0 nx_1) (nz_ z 8 nx_2) (nz_ z 1 nx_3) p1 p2 p3 ((ws_ (nw_ z) (nb_ z) 3 1 12 0 1 0 0).1) p4 ((ws_ (nw_ z) (nb_ z) 3 1 12 0 1 0 0).2)) _
  refine g_iload_n (i := 3) dd_122_51 rfl ?_
  refine g_if_ne_t (t := 65) dd_122_52 (by decide) (by decide) ?_
  refine g_aload_n (i := 0) dd_122_65 rfl ?_
  refine g_getfield (k := 8) am_ck11 (by decide) (Or.inl w_519) dd_122_66 rfl rfl ?_
  refine g_getfield (k := 6) am_ck10 (by decide) (Or.inr ⟨_, w_178⟩) dd_122_69 rfl rfl ?_
  exact g_ireturn rfl dd_122_72
