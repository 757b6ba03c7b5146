/-! ===== understand, soonest: the class ===== -/
def HX (j : Nat) (as : List Value) (v : Nat) : Prop := ∃ h1, am_EG (am_mi j) (.ref 0 :: as) hp_0 (some (.retAddr v), h1) ∧ (h1.1 = 93 ∧ h1.2.1 = 71397 ∧ h1.2.2.drop 8 = am_tl)
def HM (j : Nat) (as : List Value) (v : Nat) : Prop := ∃ h2, am_EG (am_mi j) (.ref 66 :: as) hp_m (some (.retAddr v), h2) ∧ h2.1 = 93 ∧ h2.2.1 = 71397
theorem HX.both {jx jm : Nat} {as : List Value} {v : Nat} (hx : HX jx as v) (hm : HM jm as v) : Both jx jm as := by
  obtain ⟨h1, e1, k1⟩ := hx
  obtain ⟨h2, e2, k2⟩ := hm
  exact ⟨v, h1, h2, e1, e2, k1, k2⟩
theorem am_hx {mx : am_Mo} (hm : am_MoOk mx) {j v : Nat} {as : List Value} (h : am_b1 (am_evr mx 9 j (.ref 0 :: as) hp_0) (fun w => Nat.beq w v) = true) : HX j as v := by
  obtain ⟨w, h1, e1, k1, h'⟩ := am_b1_ok h
  have e := Nat.eq_of_beq_eq_true h'
  subst e
  exact ⟨h1, am_evr_ok hm 9 _ _ _ _ e1, k1⟩
def hx_1001 : am_H := (93, 71397, [[xc_0, xc_1, xc_2, xc_3, xc_4, xc_5, xc_6, xc_7], [xc_8, xc_9, xc_10, xc_11, xc_12, xc_13, xc_14, xc_15], [xc_16, xc_17, xc_18, xc_19, xc_20, xc_21, xc_22, xc_23], [xc_24, xc_25, xc_26, xc_27, xc_28, xc_29, xc_30, xc_31], [xc_32, xc_33, xc_34, xc_35, xc_36, xc_37, xc_38, xc_39], [xc_40, xc_41, xc_42, xc_43, xc_44, .inr (3, [.ref 46, .ref 32, .ref 30, .retAddr 2, .retAddr 1, .retAddr 7, .retAddr 6, .retAddr 0, .retAddr 0, .retAddr 0, .retAddr 0]), xc_46, xc_47], [xc_48, xc_49, xc_50, xc_51, xc_52, xc_53, xc_54, xc_55], [xc_56, xc_57, xc_58, xc_59, xc_60, xc_61, xc_62, xc_63], [xc_64, xc_65, mc_66, mc_67, mc_68, mc_69, mc_70, mc_71], [mc_72, mc_73, mc_74, mc_75, mc_76, mc_77, mc_78, mc_79], [mc_80, mc_81, mc_82, mc_83, mc_84, mc_85, mc_86, mc_87], [mc_88, mc_89, mc_90, mc_91, mc_92]])
theorem eg_le0_0 : am_EG mi_91 [.ref 45, .ref 4, .retAddr 0, .retAddr 0] hp_0 (none, hx_1001) := am_runs (d := 9) (j := 91) (by decide +kernel)
def hx_1002 : am_H := (93, 71397, [[xc_0, xc_1, xc_2, xc_3, xc_4, xc_5, xc_6, xc_7], [xc_8, xc_9, xc_10, xc_11, xc_12, xc_13, xc_14, xc_15], [xc_16, xc_17, xc_18, xc_19, xc_20, xc_21, xc_22, xc_23], [xc_24, xc_25, xc_26, xc_27, xc_28, xc_29, xc_30, xc_31], [xc_32, xc_33, xc_34, xc_35, xc_36, xc_37, xc_38, xc_39], [xc_40, xc_41, xc_42, xc_43, xc_44, .inr (3, [.ref 46, .ref 32, .ref 30, .retAddr 2, .retAddr 1, .retAddr 7, .retAddr 6, .retAddr 0, .retAddr 3, .retAddr 3, .retAddr 0]), xc_46, xc_47], [xc_48, xc_49, xc_50, xc_51, xc_52, xc_53, xc_54, xc_55], [xc_56, xc_57, xc_58, xc_59, xc_60, xc_61, xc_62, xc_63], [xc_64, xc_65, mc_66, mc_67, mc_68, mc_69, mc_70, mc_71], [mc_72, mc_73, mc_74, mc_75, mc_76, mc_77, mc_78, mc_79], [mc_80, mc_81, mc_82, mc_83, mc_84, mc_85, mc_86, mc_87], [mc_88, mc_89, mc_90, mc_91, mc_92]])
theorem eg_le0_1 : am_EG mi_91 [.ref 45, .ref 4, .retAddr 0, .retAddr 1] hp_0 (none, hx_1002) := am_runs (d := 9) (j := 91) (by decide +kernel)
def hx_1003 : am_H := (93, 71397, [[xc_0, xc_1, xc_2, xc_3, xc_4, xc_5, xc_6, xc_7], [xc_8, xc_9, xc_10, xc_11, xc_12, xc_13, xc_14, xc_15], [xc_16, xc_17, xc_18, xc_19, xc_20, xc_21, xc_22, xc_23], [xc_24, xc_25, xc_26, xc_27, xc_28, xc_29, xc_30, xc_31], [xc_32, xc_33, xc_34, xc_35, xc_36, xc_37, xc_38, xc_39], [xc_40, xc_41, xc_42, xc_43, xc_44, .inr (3, [.ref 46, .ref 32, .ref 30, .retAddr 2, .retAddr 1, .retAddr 7, .retAddr 6, .retAddr 1, .retAddr 6, .retAddr 6, .retAddr 1]), xc_46, xc_47], [xc_48, xc_49, xc_50, xc_51, xc_52, xc_53, xc_54, xc_55], [xc_56, xc_57, xc_58, xc_59, xc_60, xc_61, xc_62, xc_63], [xc_64, xc_65, mc_66, mc_67, mc_68, mc_69, mc_70, mc_71], [mc_72, mc_73, mc_74, mc_75, mc_76, mc_77, mc_78, mc_79], [mc_80, mc_81, mc_82, mc_83, mc_84, mc_85, mc_86, mc_87], [mc_88, mc_89, mc_90, mc_91, mc_92]])
theorem eg_le0_2 : am_EG mi_91 [.ref 45, .ref 4, .retAddr 0, .retAddr 2] hp_0 (none, hx_1003) := am_runs (d := 9) (j := 91) (by decide +kernel)
theorem eg_le0_3 : am_EG mi_91 [.ref 45, .ref 4, .retAddr 0, .retAddr 3] hp_0 (none, hx_1003) := am_runs (d := 9) (j := 91) (by decide +kernel)
theorem eg_le0_4 : am_EG mi_91 [.ref 45, .ref 4, .retAddr 0, .retAddr 4] hp_0 (none, hx_1003) := am_runs (d := 9) (j := 91) (by decide +kernel)
theorem eg_le0_5 : am_EG mi_91 [.ref 45, .ref 4, .retAddr 0, .retAddr 5] hp_0 (none, hx_1003) := am_runs (d := 9) (j := 91) (by decide +kernel)
theorem eg_le0_6 : am_EG mi_91 [.ref 45, .ref 4, .retAddr 0, .retAddr 6] hp_0 (none, hx_1003) := am_runs (d := 9) (j := 91) (by decide +kernel)
theorem eg_le0_7 : am_EG mi_91 [.ref 45, .ref 4, .retAddr 0, .retAddr 7] hp_0 (none, hx_1003) := am_runs (d := 9) (j := 91) (by decide +kernel)
theorem eg_le1_0 : am_EG mi_91 [.ref 45, .ref 4, .retAddr 1, .retAddr 0] hp_0 (none, hx_1001) := am_runs (d := 9) (j := 91) (by decide +kernel)
def hx_1004 : am_H := (93, 71397, [[xc_0, xc_1, xc_2, xc_3, xc_4, xc_5, xc_6, xc_7], [xc_8, xc_9, xc_10, xc_11, xc_12, xc_13, xc_14, xc_15], [xc_16, xc_17, xc_18, xc_19, xc_20, xc_21, xc_22, xc_23], [xc_24, xc_25, xc_26, xc_27, xc_28, xc_29, xc_30, xc_31], [xc_32, xc_33, xc_34, xc_35, xc_36, xc_37, xc_38, xc_39], [xc_40, xc_41, xc_42, xc_43, xc_44, .inr (3, [.ref 46, .ref 32, .ref 30, .retAddr 2, .retAddr 1, .retAddr 7, .retAddr 6, .retAddr 1, .retAddr 3, .retAddr 3, .retAddr 1]), xc_46, xc_47], [xc_48, xc_49, xc_50, xc_51, xc_52, xc_53, xc_54, xc_55], [xc_56, xc_57, xc_58, xc_59, xc_60, xc_61, xc_62, xc_63], [xc_64, xc_65, mc_66, mc_67, mc_68, mc_69, mc_70, mc_71], [mc_72, mc_73, mc_74, mc_75, mc_76, mc_77, mc_78, mc_79], [mc_80, mc_81, mc_82, mc_83, mc_84, mc_85, mc_86, mc_87], [mc_88, mc_89, mc_90, mc_91, mc_92]])
theorem eg_le1_1 : am_EG mi_91 [.ref 45, .ref 4, .retAddr 1, .retAddr 1] hp_0 (none, hx_1004) := am_runs (d := 9) (j := 91) (by decide +kernel)
def hx_1005 : am_H := (93, 71397, [[xc_0, xc_1, xc_2, xc_3, xc_4, xc_5, xc_6, xc_7], [xc_8, xc_9, xc_10, xc_11, xc_12, xc_13, xc_14, xc_15], [xc_16, xc_17, xc_18, xc_19, xc_20, xc_21, xc_22, xc_23], [xc_24, xc_25, xc_26, xc_27, xc_28, xc_29, xc_30, xc_31], [xc_32, xc_33, xc_34, xc_35, xc_36, xc_37, xc_38, xc_39], [xc_40, xc_41, xc_42, xc_43, xc_44, .inr (3, [.ref 46, .ref 32, .ref 30, .retAddr 2, .retAddr 1, .retAddr 7, .retAddr 6, .retAddr 0, .retAddr 6, .retAddr 6, .retAddr 0]), xc_46, xc_47], [xc_48, xc_49, xc_50, xc_51, xc_52, xc_53, xc_54, xc_55], [xc_56, xc_57, xc_58, xc_59, xc_60, xc_61, xc_62, xc_63], [xc_64, xc_65, mc_66, mc_67, mc_68, mc_69, mc_70, mc_71], [mc_72, mc_73, mc_74, mc_75, mc_76, mc_77, mc_78, mc_79], [mc_80, mc_81, mc_82, mc_83, mc_84, mc_85, mc_86, mc_87], [mc_88, mc_89, mc_90, mc_91, mc_92]])
theorem eg_le1_2 : am_EG mi_91 [.ref 45, .ref 4, .retAddr 1, .retAddr 2] hp_0 (none, hx_1005) := am_runs (d := 9) (j := 91) (by decide +kernel)
def hx_1006 : am_H := (93, 71397, [[xc_0, xc_1, xc_2, xc_3, xc_4, xc_5, xc_6, xc_7], [xc_8, xc_9, xc_10, xc_11, xc_12, xc_13, xc_14, xc_15], [xc_16, xc_17, xc_18, xc_19, xc_20, xc_21, xc_22, xc_23], [xc_24, xc_25, xc_26, xc_27, xc_28, xc_29, xc_30, xc_31], [xc_32, xc_33, xc_34, xc_35, xc_36, xc_37, xc_38, xc_39], [xc_40, xc_41, xc_42, xc_43, xc_44, .inr (3, [.ref 46, .ref 32, .ref 30, .retAddr 2, .retAddr 1, .retAddr 7, .retAddr 6, .retAddr 2, .retAddr 6, .retAddr 6, .retAddr 2]), xc_46, xc_47], [xc_48, xc_49, xc_50, xc_51, xc_52, xc_53, xc_54, xc_55], [xc_56, xc_57, xc_58, xc_59, xc_60, xc_61, xc_62, xc_63], [xc_64, xc_65, mc_66, mc_67, mc_68, mc_69, mc_70, mc_71], [mc_72, mc_73, mc_74, mc_75, mc_76, mc_77, mc_78, mc_79], [mc_80, mc_81, mc_82, mc_83, mc_84, mc_85, mc_86, mc_87], [mc_88, mc_89, mc_90, mc_91, mc_92]])
theorem eg_le1_3 : am_EG mi_91 [.ref 45, .ref 4, .retAddr 1, .retAddr 3] hp_0 (none, hx_1006) := am_runs (d := 9) (j := 91) (by decide +kernel)
theorem eg_le1_4 : am_EG mi_91 [.ref 45, .ref 4, .retAddr 1, .retAddr 4] hp_0 (none, hx_1006) := am_runs (d := 9) (j := 91) (by decide +kernel)
theorem eg_le1_5 : am_EG mi_91 [.ref 45, .ref 4, .retAddr 1, .retAddr 5] hp_0 (none, hx_1006) := am_runs (d := 9) (j := 91) (by decide +kernel)
theorem eg_le1_6 : am_EG mi_91 [.ref 45, .ref 4, .retAddr 1, .retAddr 6] hp_0 (none, hx_1006) := am_runs (d := 9) (j := 91) (by decide +kernel)
theorem eg_le1_7 : am_EG mi_91 [.ref 45, .ref 4, .retAddr 1, .retAddr 7] hp_0 (none, hx_1006) := am_runs (d := 9) (j := 91) (by decide +kernel)
def mu_0 : am_Mo := [(91, [.ref 45, .ref 4, .retAddr 0, .retAddr 0], hp_0, (none, hx_1001)), (91, [.ref 45, .ref 4, .retAddr 0, .retAddr 1], hp_0, (none, hx_1002)), (91, [.ref 45, .ref 4, .retAddr 0, .retAddr 2], hp_0, (none, hx_1003)), (91, [.ref 45, .ref 4, .retAddr 0, .retAddr 3], hp_0, (none, hx_1003)), (91, [.ref 45, .ref 4, .retAddr 0, .retAddr 4], hp_0, (none, hx_1003)), (91, [.ref 45, .ref 4, .retAddr 0, .retAddr 5], hp_0, (none, hx_1003)), (91, [.ref 45, .ref 4, .retAddr 0, .retAddr 6], hp_0, (none, hx_1003)), (91, [.ref 45, .ref 4, .retAddr 0, .retAddr 7], hp_0, (none, hx_1003))]
theorem mu_0_ok : am_MoOk mu_0 := am_MoOk.cons (j := 91) eg_le0_0 (am_MoOk.cons (j := 91) eg_le0_1 (am_MoOk.cons (j := 91) eg_le0_2 (am_MoOk.cons (j := 91) eg_le0_3 (am_MoOk.cons (j := 91) eg_le0_4 (am_MoOk.cons (j := 91) eg_le0_5 (am_MoOk.cons (j := 91) eg_le0_6 (am_MoOk.cons (j := 91) eg_le0_7 (am_MoOk.nil))))))))
def mu_1 : am_Mo := [(91, [.ref 45, .ref 4, .retAddr 1, .retAddr 0], hp_0, (none, hx_1001)), (91, [.ref 45, .ref 4, .retAddr 1, .retAddr 1], hp_0, (none, hx_1004)), (91, [.ref 45, .ref 4, .retAddr 1, .retAddr 2], hp_0, (none, hx_1005)), (91, [.ref 45, .ref 4, .retAddr 1, .retAddr 3], hp_0, (none, hx_1006)), (91, [.ref 45, .ref 4, .retAddr 1, .retAddr 4], hp_0, (none, hx_1006)), (91, [.ref 45, .ref 4, .retAddr 1, .retAddr 5], hp_0, (none, hx_1006)), (91, [.ref 45, .ref 4, .retAddr 1, .retAddr 6], hp_0, (none, hx_1006)), (91, [.ref 45, .ref 4, .retAddr 1, .retAddr 7], hp_0, (none, hx_1006))]
theorem mu_1_ok : am_MoOk mu_1 := am_MoOk.cons (j := 91) eg_le1_0 (am_MoOk.cons (j := 91) eg_le1_1 (am_MoOk.cons (j := 91) eg_le1_2 (am_MoOk.cons (j := 91) eg_le1_3 (am_MoOk.cons (j := 91) eg_le1_4 (am_MoOk.cons (j := 91) eg_le1_5 (am_MoOk.cons (j := 91) eg_le1_6 (am_MoOk.cons (j := 91) eg_le1_7 (am_MoOk.nil))))))))
def tb_U : Nat := 0x600000002000000060000000200000006000000020000000600000002000000060000000200000006000000000000000300000001000000000000000000000006000000010000000600000001000000060000000100000006000000010000000600000001000000060000000100000003000000000000000000000000
def tb_S : Nat := 0x6000000060000000600000006000000060000000600000003000000000000000600000006000000060000000600000006000000060000000300000000
theorem en_ux0 : am_all 8 (fun a => am_all 2 (fun w => am_b1 (am_evr mu_0 9 90 [.ref 0, .retAddr 0, .retAddr a, .retAddr w] hp_0) (fun v => Nat.beq v (am_ag tb_U (0 + 2 * a + w))))) = true := by decide +kernel
theorem en_sx0 : am_all 8 (fun a => am_b1 (am_evr mu_0 9 100 [.ref 0, .retAddr 0, .retAddr a] hp_0) (fun v => Nat.beq v (am_ag tb_S (0 + a)))) = true := by decide +kernel
theorem en_ux1 : am_all 8 (fun a => am_all 2 (fun w => am_b1 (am_evr mu_1 9 90 [.ref 0, .retAddr 1, .retAddr a, .retAddr w] hp_0) (fun v => Nat.beq v (am_ag tb_U (16 + 2 * a + w))))) = true := by decide +kernel
theorem en_sx1 : am_all 8 (fun a => am_b1 (am_evr mu_1 9 100 [.ref 0, .retAddr 1, .retAddr a] hp_0) (fun v => Nat.beq v (am_ag tb_S (8 + a)))) = true := by decide +kernel
theorem hx_u (s a w : Nat) (h1 : s < 2) (h2 : a < 8) (h3 : w < 2) : HX 90 [.retAddr s, .retAddr a, .retAddr w] (am_ag tb_U (16 * s + 2 * a + w)) := by
  have c : s = 0 ∨ s = 1 := by omega
  rcases c with rfl | rfl
  · exact am_hx mu_0_ok (am_all_ok (am_all_ok en_ux0 a h2) w h3)
  · exact am_hx mu_1_ok (am_all_ok (am_all_ok en_ux1 a h2) w h3)
theorem hx_s (s a : Nat) (h1 : s < 2) (h2 : a < 8) : HX 100 [.retAddr s, .retAddr a] (am_ag tb_S (8 * s + a)) := by
  have c : s = 0 ∨ s = 1 := by omega
  rcases c with rfl | rfl
  · exact am_hx mu_0_ok (am_all_ok en_sx0 a h2)
  · exact am_hx mu_1_ok (am_all_ok en_sx1 a h2)
def hx_1007 : am_H := (93, 71397, [[xc_0, xc_1, xc_2, xc_3, xc_4, xc_5, xc_6, xc_7], [xc_8, xc_9, xc_10, xc_11, xc_12, xc_13, xc_14, xc_15], [xc_16, xc_17, xc_18, xc_19, xc_20, xc_21, xc_22, xc_23], [xc_24, xc_25, xc_26, xc_27, xc_28, xc_29, xc_30, xc_31], [xc_32, xc_33, xc_34, xc_35, xc_36, xc_37, xc_38, xc_39], [xc_40, xc_41, xc_42, xc_43, xc_44, .inr (3, [.ref 46, .ref 32, .ref 30, .retAddr 2, .retAddr 1, .retAddr 0, .retAddr 0, .retAddr 4294967292, .retAddr 4294967292, .retAddr 4294967292, .retAddr 7]), xc_46, xc_47], [xc_48, xc_49, xc_50, xc_51, xc_52, xc_53, xc_54, xc_55], [xc_56, xc_57, xc_58, xc_59, xc_60, xc_61, xc_62, xc_63], [xc_64, xc_65, mc_66, mc_67, mc_68, mc_69, mc_70, mc_71], [mc_72, mc_73, mc_74, mc_75, mc_76, mc_77, mc_78, mc_79], [mc_80, mc_81, mc_82, mc_83, mc_84, mc_85, mc_86, mc_87], [mc_88, mc_89, mc_90, mc_91, mc_92]])
def hx_1008 : am_H := (93, 71397, [[xc_0, xc_1, xc_2, xc_3, xc_4, xc_5, xc_6, xc_7], [xc_8, xc_9, xc_10, xc_11, xc_12, xc_13, xc_14, xc_15], [xc_16, xc_17, xc_18, xc_19, xc_20, xc_21, xc_22, xc_23], [xc_24, xc_25, xc_26, xc_27, xc_28, xc_29, xc_30, xc_31], [xc_32, xc_33, xc_34, xc_35, xc_36, xc_37, xc_38, xc_39], [xc_40, xc_41, xc_42, xc_43, xc_44, .inr (3, [.ref 46, .ref 32, .ref 30, .retAddr 2, .retAddr 1, .retAddr 7, .retAddr 6, .retAddr 4294967292, .retAddr 4294967292, .retAddr 4294967292, .retAddr 7]), xc_46, xc_47], [xc_48, xc_49, xc_50, xc_51, xc_52, xc_53, xc_54, xc_55], [xc_56, xc_57, xc_58, xc_59, xc_60, xc_61, xc_62, xc_63], [xc_64, xc_65, mc_66, mc_67, mc_68, mc_69, mc_70, mc_71], [mc_72, mc_73, mc_74, mc_75, mc_76, mc_77, mc_78, mc_79], [mc_80, mc_81, mc_82, mc_83, mc_84, mc_85, mc_86, mc_87], [mc_88, mc_89, mc_90, mc_91, mc_92]])
theorem eg_survey8 : am_EG mi_92 [.ref 45, .retAddr 12] hx_1007 (none, hx_1008) := am_runs (d := 9) (j := 92) (by decide +kernel)
def hx_1009 : am_H := (93, 71397, [[xc_0, xc_1, xc_2, xc_3, xc_4, xc_5, xc_6, xc_7], [xc_8, xc_9, xc_10, xc_11, xc_12, xc_13, xc_14, xc_15], [xc_16, xc_17, xc_18, xc_19, xc_20, xc_21, xc_22, xc_23], [xc_24, xc_25, xc_26, xc_27, xc_28, xc_29, xc_30, xc_31], [xc_32, xc_33, xc_34, xc_35, xc_36, xc_37, xc_38, xc_39], [xc_40, xc_41, xc_42, xc_43, xc_44, .inr (3, [.ref 46, .ref 32, .ref 30, .retAddr 2, .retAddr 0, .retAddr 0, .retAddr 0, .retAddr 4294967292, .retAddr 4294967292, .retAddr 4294967292, .retAddr 0]), xc_46, xc_47], [xc_48, xc_49, xc_50, xc_51, xc_52, xc_53, xc_54, xc_55], [xc_56, xc_57, xc_58, xc_59, xc_60, xc_61, xc_62, xc_63], [xc_64, xc_65, mc_66, mc_67, mc_68, mc_69, mc_70, mc_71], [mc_72, mc_73, mc_74, mc_75, mc_76, mc_77, mc_78, mc_79], [mc_80, mc_81, mc_82, mc_83, mc_84, mc_85, mc_86, mc_87], [mc_88, mc_89, mc_90, mc_91, mc_92]])
def hx_1010 : am_H := (93, 71397, [[xc_0, xc_1, xc_2, xc_3, xc_4, xc_5, xc_6, xc_7], [xc_8, xc_9, xc_10, xc_11, xc_12, xc_13, xc_14, xc_15], [xc_16, xc_17, xc_18, xc_19, xc_20, xc_21, xc_22, xc_23], [xc_24, xc_25, xc_26, xc_27, xc_28, xc_29, xc_30, xc_31], [xc_32, xc_33, xc_34, xc_35, xc_36, xc_37, xc_38, xc_39], [xc_40, xc_41, xc_42, xc_43, xc_44, .inr (3, [.ref 46, .ref 32, .ref 30, .retAddr 2, .retAddr 1, .retAddr 0, .retAddr 0, .retAddr 4294967292, .retAddr 4294967292, .retAddr 4294967292, .retAddr 0]), xc_46, xc_47], [xc_48, xc_49, xc_50, xc_51, xc_52, xc_53, xc_54, xc_55], [xc_56, xc_57, xc_58, xc_59, xc_60, xc_61, xc_62, xc_63], [xc_64, xc_65, mc_66, mc_67, mc_68, mc_69, mc_70, mc_71], [mc_72, mc_73, mc_74, mc_75, mc_76, mc_77, mc_78, mc_79], [mc_80, mc_81, mc_82, mc_83, mc_84, mc_85, mc_86, mc_87], [mc_88, mc_89, mc_90, mc_91, mc_92]])
theorem eg_learn8 (a1 : Nat) (h_a1 : 0 ≤ a1) (k_a1 : a1 < 2) (a2 : Nat) (h_a2 : 8 ≤ a2) (k_a2 : a2 < 256) : am_EG mi_91 [.ref 45, .ref 4, .retAddr (a1), .retAddr (a2)] hp_0 (none, hx_1008) := by
  refine am_enter (n := 2) tk_91.2.1 (by simp [Value.category]) (Nat.le_of_ble_eq_true rfl) ?_
  show am_Good mi_91 0 [some (.ref 45), some (.ref 4), some (.retAddr (a1)), some (.retAddr (a2)), none, none] [] hp_0 _
  have hand : 7 &&& a2 ≤ 7 := Nat.and_le_left
  refine g_aload_n (i := 0) dd_91_0 rfl ?_
  refine g_aload_n (i := 1) dd_91_1 rfl ?_
  refine g_getfield (k := 0) am_ck1 (by decide) (Or.inr ⟨_, w_81⟩) dd_91_2 rfl rfl ?_
  refine g_getfield (k := 3) am_ck8 (by decide) (Or.inr ⟨_, w_61⟩) dd_91_5 rfl rfl ?_
  refine g_iconst dd_91_8 ic_4 ?_
  refine g_mmin w_756 w_393 w_18 w_394 ⟨by decide, by decide⟩ (by simp [Value.category]) dd_91_9 ?_
  refine g_putfield (k := 3) am_ck3 (by decide) (Or.inl w_227) (Or.inl rfl) dd_91_12 rfl (by decide) trivial ?_
  show am_Good mi_91 15 [some (.ref 45), some (.ref 4), some (.retAddr (a1)), some (.retAddr (a2)), none, none] [] hx_1009 _
  refine g_aload_n (i := 0) dd_91_15 rfl ?_
  refine g_aload_n (i := 1) dd_91_16 rfl ?_
  refine g_getfield (k := 7) am_ck1 (by decide) (Or.inr ⟨_, w_114⟩) dd_91_17 rfl rfl ?_
  refine g_putfield (k := 4) am_ck3 (by decide) (Or.inl w_228) (Or.inl rfl) dd_91_20 rfl (by decide) trivial ?_
  show am_Good mi_91 23 [some (.ref 45), some (.ref 4), some (.retAddr (a1)), some (.retAddr (a2)), none, none] [] hx_1010 _
  refine g_aload_n (i := 0) dd_91_23 rfl ?_
  refine g_bipush dd_91_24 bi_m4 ?_
  refine g_putfield (k := 7) am_ck3 (by decide) (Or.inl w_231) (Or.inl rfl) dd_91_26 rfl (by decide) trivial ?_
  show am_Good mi_91 29 [some (.ref 45), some (.ref 4), some (.retAddr (a1)), some (.retAddr (a2)), none, none] [] hx_1010 _
  refine g_aload_n (i := 0) dd_91_29 rfl ?_
  refine g_bipush dd_91_30 bi_m4 ?_
  refine g_putfield (k := 8) am_ck3 (by decide) (Or.inl w_233) (Or.inl rfl) dd_91_32 rfl (by decide) trivial ?_
  show am_Good mi_91 35 [some (.ref 45), some (.ref 4), some (.retAddr (a1)), some (.retAddr (a2)), none, none] [] hx_1010 _
  refine g_aload_n (i := 0) dd_91_35 rfl ?_
  refine g_bipush dd_91_36 bi_m4 ?_
  refine g_putfield (k := 9) am_ck3 (by decide) (Or.inl w_235) (Or.inl rfl) dd_91_38 rfl (by decide) trivial ?_
  show am_Good mi_91 41 [some (.ref 45), some (.ref 4), some (.retAddr (a1)), some (.retAddr (a2)), none, none] [] hx_1010 _
  refine g_aload_n (i := 0) dd_91_41 rfl ?_
  refine g_bipush dd_91_42 bi_7 ?_
  refine g_putfield (k := 10) am_ck3 (by decide) (Or.inl w_237) (Or.inl rfl) dd_91_44 rfl (by decide) trivial ?_
  show am_Good mi_91 47 [some (.ref 45), some (.ref 4), some (.retAddr (a1)), some (.retAddr (a2)), none, none] [] hx_1007 _
  refine g_aload_n (i := 0) dd_91_47 rfl ?_
  refine g_aload_n (i := 1) dd_91_48 rfl ?_
  refine g_getfield (k := 6) am_ck1 (by decide) (Or.inr ⟨_, w_108⟩) dd_91_49 rfl rfl ?_
  refine g_virtual (M' := mi_92) (n := 1) (ci := 3) (b := 45) (as := [.retAddr 12]) (st := []) w_757 w_759 ps_92 ⟨lk_92.1, lk_92.2.1, lk_92.2.2, by decide, by decide⟩ rfl rfl rfl (by simp [Value.category]) dd_91_52 (eg_survey8) ?_
  refine g_aload_n (i := 0) dd_91_55 rfl ?_
  refine g_getfield (k := 5) am_ck3 (by decide) (Or.inl w_229) dd_91_56 rfl rfl ?_
  refine g_iload_n (i := 3) dd_91_59 rfl ?_
  refine g_iand dd_91_60 ?_
  refine g_iload_n (i := 3) dd_91_61 rfl ?_
  refine g_icmp_eq_f (t := 66) dd_91_62 (by decide) (tk_eq_f (by omega)) ?_
  exact g_return rfl dd_91_65
theorem ex_understand8 (a1 : Nat) (h_a1 : 0 ≤ a1) (k_a1 : a1 < 2) (a2 : Nat) (h_a2 : 8 ≤ a2) (k_a2 : a2 < 256) (a3 : Nat) (h_a3 : 0 ≤ a3) (k_a3 : a3 < 2) : am_EG mi_90 [.ref 0, .retAddr (a1), .retAddr (a2), .retAddr (a3)] hp_0 (some (.retAddr 4294967292), hx_1008) := by
  refine am_enter (n := 0) tk_90.2.1 (by simp [Value.category]) (Nat.le_of_ble_eq_true rfl) ?_
  show am_Good mi_90 0 [some (.ref 0), some (.retAddr (a1)), some (.retAddr (a2)), some (.retAddr (a3))] [] hp_0 _
  refine g_aload_n (i := 0) dd_90_0 rfl ?_
  refine g_iload_n (i := 1) dd_90_1 rfl ?_
  refine g_virtual (M' := mi_51) (n := 1) (ci := 11) (b := 0) (as := [.retAddr (a1)]) (st := []) w_584 w_586 ps_51 ⟨lk_51.1, lk_51.2.1, lk_51.2.2, by decide, by decide⟩ rfl rfl rfl (by simp [Value.category]) dd_90_2 (ex_isStation_1 (a1) (by omega) (by omega)) ?_
  refine g_if_eq_f (t := 24) dd_90_5 (by decide) (by decide) ?_
  refine g_iload_n (i := 2) dd_90_8 rfl ?_
  refine g_static (M' := mi_56) (n := 1) (as := [.retAddr (a2)]) (st := []) w_605 w_606 ⟨lk_56.1, lk_56.2.1, lk_56.2.2, by decide, by decide⟩ rfl (by simp [Value.category]) dd_90_9 (ex_isSet_1 (a2) (by omega) (by omega)) ?_
  refine g_if_eq_f (t := 24) dd_90_12 (by decide) (by decide) ?_
  refine g_iload_n (i := 3) dd_90_15 rfl ?_
  refine g_if_lt_f (t := 24) dd_90_16 (by decide) (tk_lt_f (by omega)) ?_
  refine g_iload_n (i := 3) dd_90_19 rfl ?_
  refine g_iconst dd_90_20 ic_1 ?_
  refine g_icmp_le_t (t := 26) dd_90_21 (by decide) (tk_le_t (by omega)) ?_
  refine g_aload_n (i := 0) dd_90_26 rfl ?_
  refine g_getfield (k := 10) am_ck11 (by decide) (Or.inl w_521) dd_90_27 rfl rfl ?_
  refine g_aload_n (i := 0) dd_90_30 rfl ?_
  refine g_getfield (k := 3) am_ck11 (by decide) (Or.inl w_514) dd_90_31 rfl rfl ?_
  refine g_iload_n (i := 1) dd_90_34 rfl ?_
  refine g_iload_n (i := 2) dd_90_35 rfl ?_
  refine g_virtual (M' := mi_91) (n := 3) (ci := 3) (b := 45) (as := [.ref 4, .retAddr (a1), .retAddr (a2)]) (st := []) w_752 w_753 w_754 ⟨lk_91.1, lk_91.2.1, lk_91.2.2, by decide, by decide⟩ rfl rfl rfl (by simp [Value.category]) dd_90_36 (eg_learn8 a1 (by omega) (by omega) a2 (by omega) (by omega)) ?_
  refine g_iload_n (i := 3) dd_90_39 rfl ?_
  by_cases hs1 : a3 < 1
  · refine g_if_ne_f (t := 53) dd_90_40 (by decide) (tk_ne_f (by omega)) ?_
    refine g_aload_n (i := 0) dd_90_43 rfl ?_
    refine g_getfield (k := 10) am_ck11 (by decide) (Or.inl w_521) dd_90_44 rfl rfl ?_
    refine g_getfield (k := 7) am_ck3 (by decide) (Or.inr ⟨_, w_232⟩) dd_90_47 rfl rfl ?_
    refine g_goto (t := 60) dd_90_50 (by decide) ?_
    exact g_ireturn rfl dd_90_60
  · refine g_if_ne_t (t := 53) dd_90_40 (by decide) (tk_ne_t (by omega)) ?_
    refine g_aload_n (i := 0) dd_90_53 rfl ?_
    refine g_getfield (k := 10) am_ck11 (by decide) (Or.inl w_521) dd_90_54 rfl rfl ?_
    refine g_getfield (k := 8) am_ck3 (by decide) (Or.inr ⟨_, w_234⟩) dd_90_57 rfl rfl ?_
    exact g_ireturn rfl dd_90_60
theorem hx_understand8 (a1 : Nat) (h_a1 : 0 ≤ a1) (k_a1 : a1 < 2) (a2 : Nat) (h_a2 : 8 ≤ a2) (k_a2 : a2 < 256) (a3 : Nat) (h_a3 : 0 ≤ a3) (k_a3 : a3 < 2) : HX 90 [.retAddr a1, .retAddr a2, .retAddr a3] 4294967292 := ⟨hx_1008, ex_understand8 a1 h_a1 k_a1 a2 h_a2 k_a2 a3 h_a3 k_a3, rfl, rfl, rfl⟩
theorem ex_soonest8 (a1 : Nat) (h_a1 : 0 ≤ a1) (k_a1 : a1 < 2) (a2 : Nat) (h_a2 : 8 ≤ a2) (k_a2 : a2 < 256) : am_EG mi_100 [.ref 0, .retAddr (a1), .retAddr (a2)] hp_0 (some (.retAddr 4294967292), hx_1008) := by
  refine am_enter (n := 0) tk_100.2.1 (by simp [Value.category]) (Nat.le_of_ble_eq_true rfl) ?_
  show am_Good mi_100 0 [some (.ref 0), some (.retAddr (a1)), some (.retAddr (a2))] [] hp_0 _
  refine g_aload_n (i := 0) dd_100_0 rfl ?_
  refine g_iload_n (i := 1) dd_100_1 rfl ?_
  refine g_virtual (M' := mi_51) (n := 1) (ci := 11) (b := 0) (as := [.retAddr (a1)]) (st := []) w_584 w_586 ps_51 ⟨lk_51.1, lk_51.2.1, lk_51.2.2, by decide, by decide⟩ rfl rfl rfl (by simp [Value.category]) dd_100_2 (ex_isStation_1 (a1) (by omega) (by omega)) ?_
  refine g_if_eq_f (t := 15) dd_100_5 (by decide) (by decide) ?_
  refine g_iload_n (i := 2) dd_100_8 rfl ?_
  refine g_static (M' := mi_56) (n := 1) (as := [.retAddr (a2)]) (st := []) w_605 w_606 ⟨lk_56.1, lk_56.2.1, lk_56.2.2, by decide, by decide⟩ rfl (by simp [Value.category]) dd_100_9 (ex_isSet_1 (a2) (by omega) (by omega)) ?_
  refine g_if_ne_t (t := 17) dd_100_12 (by decide) (by decide) ?_
  refine g_aload_n (i := 0) dd_100_17 rfl ?_
  refine g_getfield (k := 10) am_ck11 (by decide) (Or.inl w_521) dd_100_18 rfl rfl ?_
  refine g_aload_n (i := 0) dd_100_21 rfl ?_
  refine g_getfield (k := 3) am_ck11 (by decide) (Or.inl w_514) dd_100_22 rfl rfl ?_
  refine g_iload_n (i := 1) dd_100_25 rfl ?_
  refine g_iload_n (i := 2) dd_100_26 rfl ?_
  refine g_virtual (M' := mi_91) (n := 3) (ci := 3) (b := 45) (as := [.ref 4, .retAddr (a1), .retAddr (a2)]) (st := []) w_752 w_753 w_754 ⟨lk_91.1, lk_91.2.1, lk_91.2.2, by decide, by decide⟩ rfl rfl rfl (by simp [Value.category]) dd_100_27 (eg_learn8 a1 (by omega) (by omega) a2 (by omega) (by omega)) ?_
  refine g_aload_n (i := 0) dd_100_30 rfl ?_
  refine g_getfield (k := 10) am_ck11 (by decide) (Or.inl w_521) dd_100_31 rfl rfl ?_
  refine g_getfield (k := 9) am_ck3 (by decide) (Or.inr ⟨_, w_236⟩) dd_100_34 rfl rfl ?_
  exact g_ireturn rfl dd_100_37
theorem hx_soonest8 (a1 : Nat) (h_a1 : 0 ≤ a1) (k_a1 : a1 < 2) (a2 : Nat) (h_a2 : 8 ≤ a2) (k_a2 : a2 < 256) : HX 100 [.retAddr a1, .retAddr a2] 4294967292 := ⟨hx_1008, ex_soonest8 a1 h_a1 k_a1 a2 h_a2 k_a2, rfl, rfl, rfl⟩
