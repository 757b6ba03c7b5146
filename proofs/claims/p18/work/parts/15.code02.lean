/-- OverAndBack$Screen.factBit(II)I -/
noncomputable def kr_68_0 : List (Option am_Op) := [some (am_ild 1 1), some (am_ild 2 2), some (am_cs 35 2 5), none, none, some (am_br1 .eq 28 8), none, none]
noncomputable def kr_68_1 : List (Option am_Op) := [some (am_psh (.retAddr 1) 9), some (am_ald0 0 10), some (am_gf 9 1 13), none, none, some (am_ild 1 14), some (am_psh (.retAddr 60) 16), none]
noncomputable def kr_68_2 : List (Option am_Op) := [some (am_bin am_mul 17), some (am_ild 2 18), some (am_bin am_add 19), some (am_ald 0 20), some (am_bin am_shl 21), some (am_psh (.retAddr 255) 24), none, none]
noncomputable def kr_68_3 : List (Option am_Op) := [some (am_bin Nat.land 25), some (am_jmp 29), none, none, some (am_psh (.retAddr 0) 29), some (am_iret)]
noncomputable def cd_68 : am_Cd := [kr_68_0, kr_68_1, kr_68_2, kr_68_3]
theorem dd_68_0 : decode prog_11_method_13_code 0 = .ok (.iload_n 1, 1) := by decide +kernel
theorem dd_68_1 : decode prog_11_method_13_code 1 = .ok (.iload_n 2, 1) := by decide +kernel
theorem dd_68_2 : decode prog_11_method_13_code 2 = .ok (.invokestatic 81, 3) := by decide +kernel
theorem dd_68_5 : decode prog_11_method_13_code 5 = .ok (.ifCond .eq 23, 3) := by decide +kernel
theorem dd_68_8 : decode prog_11_method_13_code 8 = .ok (.iconst 1, 1) := by decide +kernel
theorem dd_68_9 : decode prog_11_method_13_code 9 = .ok (.aload_n 0, 1) := by decide +kernel
theorem dd_68_10 : decode prog_11_method_13_code 10 = .ok (.getfield 15, 3) := by decide +kernel
theorem dd_68_13 : decode prog_11_method_13_code 13 = .ok (.iload_n 1, 1) := by decide +kernel
theorem dd_68_14 : decode prog_11_method_13_code 14 = .ok (.bipush 60, 2) := by decide +kernel
theorem dd_68_16 : decode prog_11_method_13_code 16 = .ok (.imul, 1) := by decide +kernel
theorem dd_68_17 : decode prog_11_method_13_code 17 = .ok (.iload_n 2, 1) := by decide +kernel
theorem dd_68_18 : decode prog_11_method_13_code 18 = .ok (.iadd, 1) := by decide +kernel
theorem dd_68_19 : decode prog_11_method_13_code 19 = .ok (.iaload, 1) := by decide +kernel
theorem dd_68_20 : decode prog_11_method_13_code 20 = .ok (.ishl, 1) := by decide +kernel
theorem dd_68_21 : decode prog_11_method_13_code 21 = .ok (.sipush 255, 3) := by decide +kernel
theorem dd_68_24 : decode prog_11_method_13_code 24 = .ok (.iand, 1) := by decide +kernel
theorem dd_68_25 : decode prog_11_method_13_code 25 = .ok (.goto 4, 3) := by decide +kernel
theorem dd_68_28 : decode prog_11_method_13_code 28 = .ok (.iconst 0, 1) := by decide +kernel
theorem dd_68_29 : decode prog_11_method_13_code 29 = .ok (.ireturn, 1) := by decide +kernel
theorem kb_68_0 : am_row mi_68 0 kr_68_0 := am_rs rfl (ok_iload_n (k := 1) dd_68_0 rfl rfl) (am_rs rfl (ok_iload_n (k := 2) dd_68_1 rfl rfl) (am_rs rfl (ok_cs (M' := mi_35) dd_68_2 rfl rfl w_466 w_467 ⟨lk_35.1, lk_35.2.1, lk_35.2.2, by decide, by decide⟩) (am_rn rfl (am_rn rfl (am_rs rfl (ok_ifc dd_68_5 (by decide) rfl) (am_rn rfl (am_rn rfl (am_rz))))))))
theorem kb_68_1 : am_row mi_68 8 kr_68_1 := am_rs rfl (ok_iconst dd_68_8 ic_1 rfl) (am_rs rfl (ok_aload_n (k := 0) dd_68_9 rfl rfl) (am_rs rfl (ok_gf dd_68_10 rfl am_ck9 (by decide) (Or.inl w_154)) (am_rn rfl (am_rn rfl (am_rs rfl (ok_iload_n (k := 1) dd_68_13 rfl rfl) (am_rs rfl (ok_bipush dd_68_14 bi_60 rfl) (am_rn rfl (am_rz))))))))
theorem kb_68_2 : am_row mi_68 16 kr_68_2 := am_rs rfl (ok_imul dd_68_16 rfl) (am_rs rfl (ok_iload_n (k := 2) dd_68_17 rfl rfl) (am_rs rfl (ok_iadd dd_68_18 rfl) (am_rs rfl (ok_iald dd_68_19 rfl) (am_rs rfl (ok_ishl dd_68_20 rfl) (am_rs rfl (ok_sipush dd_68_21 si_255 rfl) (am_rn rfl (am_rn rfl (am_rz))))))))
theorem kb_68_3 : am_row mi_68 24 kr_68_3 := am_rs rfl (ok_iand dd_68_24 rfl) (am_rs rfl (ok_goto dd_68_25 (by decide)) (am_rn rfl (am_rn rfl (am_rs rfl (ok_iconst dd_68_28 ic_0 rfl) (am_rs rfl (ok_iret dd_68_29 rfl) (am_rz))))))
theorem ck_68 : am_rows mi_68 0 cd_68 := am_bs rfl kb_68_0 (am_bs rfl kb_68_1 (am_bs rfl kb_68_2 (am_bs rfl kb_68_3 (am_bz))))
/-- OverAndBack$Evening.kindOf(I)I -/
noncomputable def kr_69_0 : List (Option am_Op) := [some (am_ald0 0 1), some (am_gf 1 5 4), none, none, some (am_ild 1 5), some (am_psh (.retAddr 0) 6), some (am_cv 31 2 8 9), none]
noncomputable def kr_69_1 : List (Option am_Op) := [none, some (am_iret)]
noncomputable def cd_69 : am_Cd := [kr_69_0, kr_69_1]
theorem dd_69_0 : decode prog_3_method_3_code 0 = .ok (.aload_n 0, 1) := by decide +kernel
theorem dd_69_1 : decode prog_3_method_3_code 1 = .ok (.getfield 32, 3) := by decide +kernel
theorem dd_69_4 : decode prog_3_method_3_code 4 = .ok (.iload_n 1, 1) := by decide +kernel
theorem dd_69_5 : decode prog_3_method_3_code 5 = .ok (.iconst 0, 1) := by decide +kernel
theorem dd_69_6 : decode prog_3_method_3_code 6 = .ok (.invokevirtual 45, 3) := by decide +kernel
theorem dd_69_9 : decode prog_3_method_3_code 9 = .ok (.ireturn, 1) := by decide +kernel
theorem kb_69_0 : am_row mi_69 0 kr_69_0 := am_rs rfl (ok_aload_n (k := 0) dd_69_0 rfl rfl) (am_rs rfl (ok_gf dd_69_1 rfl am_ck1 (by decide) (Or.inl w_101)) (am_rn rfl (am_rn rfl (am_rs rfl (ok_iload_n (k := 1) dd_69_4 rfl rfl) (am_rs rfl (ok_iconst dd_69_5 ic_0 rfl) (am_rs rfl (ok_cv (M' := mi_31) dd_69_6 rfl rfl w_662 w_450 w_451 ⟨lk_31.1, lk_31.2.1, lk_31.2.2, by decide, by decide⟩ rfl) (am_rn rfl (am_rz))))))))
theorem kb_69_1 : am_row mi_69 8 kr_69_1 := am_rn rfl (am_rs rfl (ok_iret dd_69_9 rfl) (am_rz))
theorem ck_69 : am_rows mi_69 0 cd_69 := am_bs rfl kb_69_0 (am_bs rfl kb_69_1 (am_bz))
/-- OverAndBack$Evening.ownOf(I)I -/
noncomputable def kr_70_0 : List (Option am_Op) := [some (am_ald0 0 1), some (am_gf 1 5 4), none, none, some (am_ild 1 5), some (am_psh (.retAddr 1) 6), some (am_cv 31 2 8 9), none]
noncomputable def kr_70_1 : List (Option am_Op) := [none, some (am_iret)]
noncomputable def cd_70 : am_Cd := [kr_70_0, kr_70_1]
theorem dd_70_0 : decode prog_3_method_4_code 0 = .ok (.aload_n 0, 1) := by decide +kernel
theorem dd_70_1 : decode prog_3_method_4_code 1 = .ok (.getfield 32, 3) := by decide +kernel
theorem dd_70_4 : decode prog_3_method_4_code 4 = .ok (.iload_n 1, 1) := by decide +kernel
theorem dd_70_5 : decode prog_3_method_4_code 5 = .ok (.iconst 1, 1) := by decide +kernel
theorem dd_70_6 : decode prog_3_method_4_code 6 = .ok (.invokevirtual 45, 3) := by decide +kernel
theorem dd_70_9 : decode prog_3_method_4_code 9 = .ok (.ireturn, 1) := by decide +kernel
theorem kb_70_0 : am_row mi_70 0 kr_70_0 := am_rs rfl (ok_aload_n (k := 0) dd_70_0 rfl rfl) (am_rs rfl (ok_gf dd_70_1 rfl am_ck1 (by decide) (Or.inl w_101)) (am_rn rfl (am_rn rfl (am_rs rfl (ok_iload_n (k := 1) dd_70_4 rfl rfl) (am_rs rfl (ok_iconst dd_70_5 ic_1 rfl) (am_rs rfl (ok_cv (M' := mi_31) dd_70_6 rfl rfl w_662 w_450 w_451 ⟨lk_31.1, lk_31.2.1, lk_31.2.2, by decide, by decide⟩ rfl) (am_rn rfl (am_rz))))))))
theorem kb_70_1 : am_row mi_70 8 kr_70_1 := am_rn rfl (am_rs rfl (ok_iret dd_70_9 rfl) (am_rz))
theorem ck_70 : am_rows mi_70 0 cd_70 := am_bs rfl kb_70_0 (am_bs rfl kb_70_1 (am_bz))
/-- OverAndBack$Walk.followKind(LOverAndBack$Evening;LOverAndBack$Screen;II)V -/
noncomputable def kr_71_0 : List (Option am_Op) := [some (am_ald0 0 1), some (am_ild 4 3), none, some (am_cv 63 1 10 6), none, none, some (am_ald0 1 7), some (am_gf 1 0 10)]
noncomputable def kr_71_1 : List (Option am_Op) := [none, none, some (am_gf 8 3 13), none, none, some (am_ist 5 15), none, some (am_psh (.retAddr 0) 16)]
noncomputable def kr_71_2 : List (Option am_Op) := [some (am_ist 6 18), none, some (am_ild 6 20), none, some (am_ald0 1 21), some (am_gf 1 6 24), none, none]
noncomputable def kr_71_3 : List (Option am_Op) := [some (am_br2 .ge 71 27), none, none, some (am_ild 6 29), none, some (am_ald0 0 30), some (am_gf 10 3 33), none]
noncomputable def kr_71_4 : List (Option am_Op) := [none, some (am_br2 .lt 58 36), none, none, some (am_ald0 0 37), some (am_ild 6 39), none, some (am_ald0 0 40)]
noncomputable def kr_71_5 : List (Option am_Op) := [some (am_ald0 2 41), some (am_ild 5 43), none, some (am_ild 3 44), some (am_ild 4 46), none, some (am_ild 6 48), none]
noncomputable def kr_71_6 : List (Option am_Op) := [some (am_cv 72 5 10 51), none, none, some (am_ald0 1 52), some (am_gf 1 7 55), none, none, some (am_cv 66 3 10 58)]
noncomputable def kr_71_7 : List (Option am_Op) := [none, none, some (am_ald0 0 59), some (am_ald0 2 60), some (am_ild 6 62), none, some (am_cv 67 2 10 65), none]
noncomputable def kr_71_8 : List (Option am_Op) := [none, some (am_inc 6 1 68), none, none, some (am_jmp 18), none, none, some (am_vret)]
noncomputable def cd_71 : am_Cd := [kr_71_0, kr_71_1, kr_71_2, kr_71_3, kr_71_4, kr_71_5, kr_71_6, kr_71_7, kr_71_8]
theorem dd_71_0 : decode prog_12_method_2_code 0 = .ok (.aload_n 0, 1) := by decide +kernel
theorem dd_71_1 : decode prog_12_method_2_code 1 = .ok (.iload 4, 2) := by decide +kernel
theorem dd_71_3 : decode prog_12_method_2_code 3 = .ok (.invokevirtual 34, 3) := by decide +kernel
theorem dd_71_6 : decode prog_12_method_2_code 6 = .ok (.aload_n 1, 1) := by decide +kernel
theorem dd_71_7 : decode prog_12_method_2_code 7 = .ok (.getfield 38, 3) := by decide +kernel
theorem dd_71_10 : decode prog_12_method_2_code 10 = .ok (.getfield 44, 3) := by decide +kernel
theorem dd_71_13 : decode prog_12_method_2_code 13 = .ok (.istore 5, 2) := by decide +kernel
theorem dd_71_15 : decode prog_12_method_2_code 15 = .ok (.iconst 0, 1) := by decide +kernel
theorem dd_71_16 : decode prog_12_method_2_code 16 = .ok (.istore 6, 2) := by decide +kernel
theorem dd_71_18 : decode prog_12_method_2_code 18 = .ok (.iload 6, 2) := by decide +kernel
theorem dd_71_20 : decode prog_12_method_2_code 20 = .ok (.aload_n 1, 1) := by decide +kernel
theorem dd_71_21 : decode prog_12_method_2_code 21 = .ok (.getfield 49, 3) := by decide +kernel
theorem dd_71_24 : decode prog_12_method_2_code 24 = .ok (.if_icmp .ge 47, 3) := by decide +kernel
theorem dd_71_27 : decode prog_12_method_2_code 27 = .ok (.iload 6, 2) := by decide +kernel
theorem dd_71_29 : decode prog_12_method_2_code 29 = .ok (.aload_n 0, 1) := by decide +kernel
theorem dd_71_30 : decode prog_12_method_2_code 30 = .ok (.getfield 22, 3) := by decide +kernel
theorem dd_71_33 : decode prog_12_method_2_code 33 = .ok (.if_icmp .lt 25, 3) := by decide +kernel
theorem dd_71_36 : decode prog_12_method_2_code 36 = .ok (.aload_n 0, 1) := by decide +kernel
theorem dd_71_37 : decode prog_12_method_2_code 37 = .ok (.iload 6, 2) := by decide +kernel
theorem dd_71_39 : decode prog_12_method_2_code 39 = .ok (.aload_n 0, 1) := by decide +kernel
theorem dd_71_40 : decode prog_12_method_2_code 40 = .ok (.aload_n 2, 1) := by decide +kernel
theorem dd_71_41 : decode prog_12_method_2_code 41 = .ok (.iload 5, 2) := by decide +kernel
theorem dd_71_43 : decode prog_12_method_2_code 43 = .ok (.iload_n 3, 1) := by decide +kernel
theorem dd_71_44 : decode prog_12_method_2_code 44 = .ok (.iload 4, 2) := by decide +kernel
theorem dd_71_46 : decode prog_12_method_2_code 46 = .ok (.iload 6, 2) := by decide +kernel
theorem dd_71_48 : decode prog_12_method_2_code 48 = .ok (.invokevirtual 52, 3) := by decide +kernel
theorem dd_71_51 : decode prog_12_method_2_code 51 = .ok (.aload_n 1, 1) := by decide +kernel
theorem dd_71_52 : decode prog_12_method_2_code 52 = .ok (.getfield 56, 3) := by decide +kernel
theorem dd_71_55 : decode prog_12_method_2_code 55 = .ok (.invokevirtual 59, 3) := by decide +kernel
theorem dd_71_58 : decode prog_12_method_2_code 58 = .ok (.aload_n 0, 1) := by decide +kernel
theorem dd_71_59 : decode prog_12_method_2_code 59 = .ok (.aload_n 2, 1) := by decide +kernel
theorem dd_71_60 : decode prog_12_method_2_code 60 = .ok (.iload 6, 2) := by decide +kernel
theorem dd_71_62 : decode prog_12_method_2_code 62 = .ok (.invokevirtual 63, 3) := by decide +kernel
theorem dd_71_65 : decode prog_12_method_2_code 65 = .ok (.iinc 6 1, 3) := by decide +kernel
theorem dd_71_68 : decode prog_12_method_2_code 68 = .ok (.goto (-50), 3) := by decide +kernel
theorem dd_71_71 : decode prog_12_method_2_code 71 = .ok (.return_, 1) := by decide +kernel
theorem kb_71_0 : am_row mi_71 0 kr_71_0 := am_rs rfl (ok_aload_n (k := 0) dd_71_0 rfl rfl) (am_rs rfl (ok_iload dd_71_1 rfl) (am_rn rfl (am_rs rfl (ok_cv (M' := mi_63) dd_71_3 rfl rfl w_633 w_635 ps_63 ⟨lk_63.1, lk_63.2.1, lk_63.2.2, by decide, by decide⟩ rfl) (am_rn rfl (am_rn rfl (am_rs rfl (ok_aload_n (k := 1) dd_71_6 rfl rfl) (am_rs rfl (ok_gf dd_71_7 rfl am_ck1 (by decide) (Or.inr ⟨_, w_82⟩)) (am_rz))))))))
theorem kb_71_1 : am_row mi_71 8 kr_71_1 := am_rn rfl (am_rn rfl (am_rs rfl (ok_gf dd_71_10 rfl am_ck8 (by decide) (Or.inr ⟨_, w_62⟩)) (am_rn rfl (am_rn rfl (am_rs rfl (ok_istore dd_71_13 rfl (by decide)) (am_rn rfl (am_rs rfl (ok_iconst dd_71_15 ic_0 rfl) (am_rz))))))))
theorem kb_71_2 : am_row mi_71 16 kr_71_2 := am_rs rfl (ok_istore dd_71_16 rfl (by decide)) (am_rn rfl (am_rs rfl (ok_iload dd_71_18 rfl) (am_rn rfl (am_rs rfl (ok_aload_n (k := 1) dd_71_20 rfl rfl) (am_rs rfl (ok_gf dd_71_21 rfl am_ck1 (by decide) (Or.inr ⟨_, w_107⟩)) (am_rn rfl (am_rn rfl (am_rz))))))))
theorem kb_71_3 : am_row mi_71 24 kr_71_3 := am_rs rfl (ok_icmp dd_71_24 (by decide) rfl) (am_rn rfl (am_rn rfl (am_rs rfl (ok_iload dd_71_27 rfl) (am_rn rfl (am_rs rfl (ok_aload_n (k := 0) dd_71_29 rfl rfl) (am_rs rfl (ok_gf dd_71_30 rfl am_ck10 (by decide) (Or.inl w_172)) (am_rn rfl (am_rz))))))))
theorem kb_71_4 : am_row mi_71 32 kr_71_4 := am_rn rfl (am_rs rfl (ok_icmp dd_71_33 (by decide) rfl) (am_rn rfl (am_rn rfl (am_rs rfl (ok_aload_n (k := 0) dd_71_36 rfl rfl) (am_rs rfl (ok_iload dd_71_37 rfl) (am_rn rfl (am_rs rfl (ok_aload_n (k := 0) dd_71_39 rfl rfl) (am_rz))))))))
theorem kb_71_5 : am_row mi_71 40 kr_71_5 := am_rs rfl (ok_aload_n (k := 2) dd_71_40 rfl rfl) (am_rs rfl (ok_iload dd_71_41 rfl) (am_rn rfl (am_rs rfl (ok_iload_n (k := 3) dd_71_43 rfl rfl) (am_rs rfl (ok_iload dd_71_44 rfl) (am_rn rfl (am_rs rfl (ok_iload dd_71_46 rfl) (am_rn rfl (am_rz))))))))
theorem kb_71_6 : am_row mi_71 48 kr_71_6 := am_rs rfl (ok_cv (M' := mi_72) dd_71_48 rfl rfl w_671 w_673 ps_72 ⟨lk_72.1, lk_72.2.1, lk_72.2.2, by decide, by decide⟩ rfl) (am_rn rfl (am_rn rfl (am_rs rfl (ok_aload_n (k := 1) dd_71_51 rfl rfl) (am_rs rfl (ok_gf dd_71_52 rfl am_ck1 (by decide) (Or.inr ⟨_, w_115⟩)) (am_rn rfl (am_rn rfl (am_rs rfl (ok_cv (M' := mi_66) dd_71_55 rfl rfl w_645 w_647 ps_66 ⟨lk_66.1, lk_66.2.1, lk_66.2.2, by decide, by decide⟩ rfl) (am_rz))))))))
theorem kb_71_7 : am_row mi_71 56 kr_71_7 := am_rn rfl (am_rn rfl (am_rs rfl (ok_aload_n (k := 0) dd_71_58 rfl rfl) (am_rs rfl (ok_aload_n (k := 2) dd_71_59 rfl rfl) (am_rs rfl (ok_iload dd_71_60 rfl) (am_rn rfl (am_rs rfl (ok_cv (M' := mi_67) dd_71_62 rfl rfl w_649 w_651 ps_67 ⟨lk_67.1, lk_67.2.1, lk_67.2.2, by decide, by decide⟩ rfl) (am_rn rfl (am_rz))))))))
theorem kb_71_8 : am_row mi_71 64 kr_71_8 := am_rn rfl (am_rs rfl (ok_iinc dd_71_65 ic_1 rfl (by decide)) (am_rn rfl (am_rn rfl (am_rs rfl (ok_goto dd_71_68 (by decide)) (am_rn rfl (am_rn rfl (am_rs rfl (ok_vret dd_71_71 rfl) (am_rz))))))))
theorem ck_71 : am_rows mi_71 0 cd_71 := am_bs rfl kb_71_0 (am_bs rfl kb_71_1 (am_bs rfl kb_71_2 (am_bs rfl kb_71_3 (am_bs rfl kb_71_4 (am_bs rfl kb_71_5 (am_bs rfl kb_71_6 (am_bs rfl kb_71_7 (am_bs rfl kb_71_8 (am_bz)))))))))
/-- OverAndBack$Walk.wish(LOverAndBack$Screen;IIII)I -/
noncomputable def kr_72_0 : List (Option am_Op) := [some (am_ild 3 1), some (am_tsw 1 [28, 37, 62] 71), none, none, none, none, none, none]
noncomputable def kr_72_1 : List (Option am_Op) := [none, none, none, none, none, none, none, none]
noncomputable def kr_72_2 : List (Option am_Op) := [none, none, none, none, none, none, none, none]
noncomputable def kr_72_3 : List (Option am_Op) := [none, none, none, none, some (am_ald0 0 29), some (am_ald0 1 30), some (am_ild 2 31), some (am_ild 5 33)]
noncomputable def kr_72_4 : List (Option am_Op) := [none, some (am_cv 73 3 10 36), none, none, some (am_iret), some (am_ald0 1 38), some (am_ild 4 40), none]
noncomputable def kr_72_5 : List (Option am_Op) := [some (am_ild 5 42), none, some (am_cv 53 2 9 45), none, none, some (am_br1 .eq 59 48), none, none]
noncomputable def kr_72_6 : List (Option am_Op) := [some (am_ald0 0 49), some (am_ald0 1 50), some (am_ild 2 51), some (am_ild 5 53), none, some (am_cv 73 3 10 56), none, none]
noncomputable def kr_72_7 : List (Option am_Op) := [some (am_jmp 61), none, none, some (am_ild 4 61), none, some (am_iret), some (am_ald0 0 63), some (am_ald0 1 64)]
noncomputable def kr_72_8 : List (Option am_Op) := [some (am_ild 2 65), some (am_ild 5 67), none, some (am_cv 74 3 10 70), none, none, some (am_iret), some (am_ald0 0 72)]
noncomputable def kr_72_9 : List (Option am_Op) := [some (am_gf 10 2 75), none, none, some (am_iret)]
noncomputable def cd_72 : am_Cd := [kr_72_0, kr_72_1, kr_72_2, kr_72_3, kr_72_4, kr_72_5, kr_72_6, kr_72_7, kr_72_8, kr_72_9]
theorem dd_72_0 : decode prog_12_method_9_code 0 = .ok (.iload_n 3, 1) := by decide +kernel
theorem dd_72_1 : decode prog_12_method_9_code 1 = .ok (.tableswitch 70 ((1 : Nat) : Int) 3 #[27, 36, 61], 27) := by decide +kernel
theorem dd_72_28 : decode prog_12_method_9_code 28 = .ok (.aload_n 0, 1) := by decide +kernel
theorem dd_72_29 : decode prog_12_method_9_code 29 = .ok (.aload_n 1, 1) := by decide +kernel
theorem dd_72_30 : decode prog_12_method_9_code 30 = .ok (.iload_n 2, 1) := by decide +kernel
theorem dd_72_31 : decode prog_12_method_9_code 31 = .ok (.iload 5, 2) := by decide +kernel
theorem dd_72_33 : decode prog_12_method_9_code 33 = .ok (.invokevirtual 98, 3) := by decide +kernel
theorem dd_72_36 : decode prog_12_method_9_code 36 = .ok (.ireturn, 1) := by decide +kernel
theorem dd_72_37 : decode prog_12_method_9_code 37 = .ok (.aload_n 1, 1) := by decide +kernel
theorem dd_72_38 : decode prog_12_method_9_code 38 = .ok (.iload 4, 2) := by decide +kernel
theorem dd_72_40 : decode prog_12_method_9_code 40 = .ok (.iload 5, 2) := by decide +kernel
theorem dd_72_42 : decode prog_12_method_9_code 42 = .ok (.invokevirtual 102, 3) := by decide +kernel
theorem dd_72_45 : decode prog_12_method_9_code 45 = .ok (.ifCond .eq 14, 3) := by decide +kernel
theorem dd_72_48 : decode prog_12_method_9_code 48 = .ok (.aload_n 0, 1) := by decide +kernel
theorem dd_72_49 : decode prog_12_method_9_code 49 = .ok (.aload_n 1, 1) := by decide +kernel
theorem dd_72_50 : decode prog_12_method_9_code 50 = .ok (.iload_n 2, 1) := by decide +kernel
theorem dd_72_51 : decode prog_12_method_9_code 51 = .ok (.iload 5, 2) := by decide +kernel
theorem dd_72_53 : decode prog_12_method_9_code 53 = .ok (.invokevirtual 98, 3) := by decide +kernel
theorem dd_72_56 : decode prog_12_method_9_code 56 = .ok (.goto 5, 3) := by decide +kernel
theorem dd_72_59 : decode prog_12_method_9_code 59 = .ok (.iload 4, 2) := by decide +kernel
theorem dd_72_61 : decode prog_12_method_9_code 61 = .ok (.ireturn, 1) := by decide +kernel
theorem dd_72_62 : decode prog_12_method_9_code 62 = .ok (.aload_n 0, 1) := by decide +kernel
theorem dd_72_63 : decode prog_12_method_9_code 63 = .ok (.aload_n 1, 1) := by decide +kernel
theorem dd_72_64 : decode prog_12_method_9_code 64 = .ok (.iload_n 2, 1) := by decide +kernel
theorem dd_72_65 : decode prog_12_method_9_code 65 = .ok (.iload 5, 2) := by decide +kernel
theorem dd_72_67 : decode prog_12_method_9_code 67 = .ok (.invokevirtual 106, 3) := by decide +kernel
theorem dd_72_70 : decode prog_12_method_9_code 70 = .ok (.ireturn, 1) := by decide +kernel
theorem dd_72_71 : decode prog_12_method_9_code 71 = .ok (.aload_n 0, 1) := by decide +kernel
theorem dd_72_72 : decode prog_12_method_9_code 72 = .ok (.getfield 18, 3) := by decide +kernel
theorem dd_72_75 : decode prog_12_method_9_code 75 = .ok (.ireturn, 1) := by decide +kernel
theorem kb_72_0 : am_row mi_72 0 kr_72_0 := am_rs rfl (ok_iload_n (k := 3) dd_72_0 rfl rfl) (am_rs rfl (ok_tsw dd_72_1 (by decide) (by decide) (by decide) (by decide)) (am_rn rfl (am_rn rfl (am_rn rfl (am_rn rfl (am_rn rfl (am_rn rfl (am_rz))))))))
theorem kb_72_1 : am_row mi_72 8 kr_72_1 := am_rn rfl (am_rn rfl (am_rn rfl (am_rn rfl (am_rn rfl (am_rn rfl (am_rn rfl (am_rn rfl (am_rz))))))))
theorem kb_72_2 : am_row mi_72 16 kr_72_2 := am_rn rfl (am_rn rfl (am_rn rfl (am_rn rfl (am_rn rfl (am_rn rfl (am_rn rfl (am_rn rfl (am_rz))))))))
theorem kb_72_3 : am_row mi_72 24 kr_72_3 := am_rn rfl (am_rn rfl (am_rn rfl (am_rn rfl (am_rs rfl (ok_aload_n (k := 0) dd_72_28 rfl rfl) (am_rs rfl (ok_aload_n (k := 1) dd_72_29 rfl rfl) (am_rs rfl (ok_iload_n (k := 2) dd_72_30 rfl rfl) (am_rs rfl (ok_iload dd_72_31 rfl) (am_rz))))))))
theorem kb_72_4 : am_row mi_72 32 kr_72_4 := am_rn rfl (am_rs rfl (ok_cv (M' := mi_73) dd_72_33 rfl rfl w_675 w_677 ps_73 ⟨lk_73.1, lk_73.2.1, lk_73.2.2, by decide, by decide⟩ rfl) (am_rn rfl (am_rn rfl (am_rs rfl (ok_iret dd_72_36 rfl) (am_rs rfl (ok_aload_n (k := 1) dd_72_37 rfl rfl) (am_rs rfl (ok_iload dd_72_38 rfl) (am_rn rfl (am_rz))))))))
theorem kb_72_5 : am_row mi_72 40 kr_72_5 := am_rs rfl (ok_iload dd_72_40 rfl) (am_rn rfl (am_rs rfl (ok_cv (M' := mi_53) dd_72_42 rfl rfl w_679 w_594 w_595 ⟨lk_53.1, lk_53.2.1, lk_53.2.2, by decide, by decide⟩ rfl) (am_rn rfl (am_rn rfl (am_rs rfl (ok_ifc dd_72_45 (by decide) rfl) (am_rn rfl (am_rn rfl (am_rz))))))))
theorem kb_72_6 : am_row mi_72 48 kr_72_6 := am_rs rfl (ok_aload_n (k := 0) dd_72_48 rfl rfl) (am_rs rfl (ok_aload_n (k := 1) dd_72_49 rfl rfl) (am_rs rfl (ok_iload_n (k := 2) dd_72_50 rfl rfl) (am_rs rfl (ok_iload dd_72_51 rfl) (am_rn rfl (am_rs rfl (ok_cv (M' := mi_73) dd_72_53 rfl rfl w_675 w_677 ps_73 ⟨lk_73.1, lk_73.2.1, lk_73.2.2, by decide, by decide⟩ rfl) (am_rn rfl (am_rn rfl (am_rz))))))))
theorem kb_72_7 : am_row mi_72 56 kr_72_7 := am_rs rfl (ok_goto dd_72_56 (by decide)) (am_rn rfl (am_rn rfl (am_rs rfl (ok_iload dd_72_59 rfl) (am_rn rfl (am_rs rfl (ok_iret dd_72_61 rfl) (am_rs rfl (ok_aload_n (k := 0) dd_72_62 rfl rfl) (am_rs rfl (ok_aload_n (k := 1) dd_72_63 rfl rfl) (am_rz))))))))
theorem kb_72_8 : am_row mi_72 64 kr_72_8 := am_rs rfl (ok_iload_n (k := 2) dd_72_64 rfl rfl) (am_rs rfl (ok_iload dd_72_65 rfl) (am_rn rfl (am_rs rfl (ok_cv (M' := mi_74) dd_72_67 rfl rfl w_680 w_682 ps_74 ⟨lk_74.1, lk_74.2.1, lk_74.2.2, by decide, by decide⟩ rfl) (am_rn rfl (am_rn rfl (am_rs rfl (ok_iret dd_72_70 rfl) (am_rs rfl (ok_aload_n (k := 0) dd_72_71 rfl rfl) (am_rz))))))))
theorem kb_72_9 : am_row mi_72 72 kr_72_9 := am_rs rfl (ok_gf dd_72_72 rfl am_ck10 (by decide) (Or.inl w_171)) (am_rn rfl (am_rn rfl (am_rs rfl (ok_iret dd_72_75 rfl) (am_rz))))
theorem ck_72 : am_rows mi_72 0 cd_72 := am_bs rfl kb_72_0 (am_bs rfl kb_72_1 (am_bs rfl kb_72_2 (am_bs rfl kb_72_3 (am_bs rfl kb_72_4 (am_bs rfl kb_72_5 (am_bs rfl kb_72_6 (am_bs rfl kb_72_7 (am_bs rfl kb_72_8 (am_bs rfl kb_72_9 (am_bz))))))))))
/-- OverAndBack$Walk.unbroken(LOverAndBack$Screen;II)I -/
noncomputable def kr_73_0 : List (Option am_Op) := [some (am_ald0 0 1), some (am_gf 10 2 4), none, none, some (am_ist 4 6), none, some (am_psh (.retAddr 0) 7), some (am_ist 5 9)]
noncomputable def kr_73_1 : List (Option am_Op) := [none, some (am_ild 5 11), none, some (am_ild 2 12), some (am_br2 .ge 52 15), none, none, some (am_ald0 1 16)]
noncomputable def kr_73_2 : List (Option am_Op) := [some (am_ild 4 18), none, some (am_ild 3 19), some (am_cv 53 2 9 22), none, none, some (am_br1 .ne 28 25), none]
noncomputable def kr_73_3 : List (Option am_Op) := [none, some (am_ild 4 27), none, some (am_iret), some (am_ild 4 30), none, some (am_psh (.retAddr 1) 31), some (am_bin am_add 32)]
noncomputable def kr_73_4 : List (Option am_Op) := [some (am_ild 2 33), some (am_br2 .ge 43 36), none, none, some (am_ild 4 38), none, some (am_psh (.retAddr 1) 39), some (am_bin am_add 40)]
noncomputable def kr_73_5 : List (Option am_Op) := [some (am_jmp 44), none, none, some (am_psh (.retAddr 0) 44), some (am_ist 4 46), none, some (am_inc 5 1 49), none]
noncomputable def kr_73_6 : List (Option am_Op) := [none, some (am_jmp 9), none, none, some (am_ald0 0 53), some (am_gf 10 2 56), none, none]
noncomputable def kr_73_7 : List (Option am_Op) := [some (am_iret)]
noncomputable def cd_73 : am_Cd := [kr_73_0, kr_73_1, kr_73_2, kr_73_3, kr_73_4, kr_73_5, kr_73_6, kr_73_7]
theorem dd_73_0 : decode prog_12_method_10_code 0 = .ok (.aload_n 0, 1) := by decide +kernel
theorem dd_73_1 : decode prog_12_method_10_code 1 = .ok (.getfield 18, 3) := by decide +kernel
theorem dd_73_4 : decode prog_12_method_10_code 4 = .ok (.istore 4, 2) := by decide +kernel
theorem dd_73_6 : decode prog_12_method_10_code 6 = .ok (.iconst 0, 1) := by decide +kernel
theorem dd_73_7 : decode prog_12_method_10_code 7 = .ok (.istore 5, 2) := by decide +kernel
theorem dd_73_9 : decode prog_12_method_10_code 9 = .ok (.iload 5, 2) := by decide +kernel
theorem dd_73_11 : decode prog_12_method_10_code 11 = .ok (.iload_n 2, 1) := by decide +kernel
theorem dd_73_12 : decode prog_12_method_10_code 12 = .ok (.if_icmp .ge 40, 3) := by decide +kernel
theorem dd_73_15 : decode prog_12_method_10_code 15 = .ok (.aload_n 1, 1) := by decide +kernel
theorem dd_73_16 : decode prog_12_method_10_code 16 = .ok (.iload 4, 2) := by decide +kernel
theorem dd_73_18 : decode prog_12_method_10_code 18 = .ok (.iload_n 3, 1) := by decide +kernel
theorem dd_73_19 : decode prog_12_method_10_code 19 = .ok (.invokevirtual 102, 3) := by decide +kernel
theorem dd_73_22 : decode prog_12_method_10_code 22 = .ok (.ifCond .ne 6, 3) := by decide +kernel
theorem dd_73_25 : decode prog_12_method_10_code 25 = .ok (.iload 4, 2) := by decide +kernel
theorem dd_73_27 : decode prog_12_method_10_code 27 = .ok (.ireturn, 1) := by decide +kernel
theorem dd_73_28 : decode prog_12_method_10_code 28 = .ok (.iload 4, 2) := by decide +kernel
theorem dd_73_30 : decode prog_12_method_10_code 30 = .ok (.iconst 1, 1) := by decide +kernel
theorem dd_73_31 : decode prog_12_method_10_code 31 = .ok (.iadd, 1) := by decide +kernel
theorem dd_73_32 : decode prog_12_method_10_code 32 = .ok (.iload_n 2, 1) := by decide +kernel
theorem dd_73_33 : decode prog_12_method_10_code 33 = .ok (.if_icmp .ge 10, 3) := by decide +kernel
theorem dd_73_36 : decode prog_12_method_10_code 36 = .ok (.iload 4, 2) := by decide +kernel
theorem dd_73_38 : decode prog_12_method_10_code 38 = .ok (.iconst 1, 1) := by decide +kernel
theorem dd_73_39 : decode prog_12_method_10_code 39 = .ok (.iadd, 1) := by decide +kernel
theorem dd_73_40 : decode prog_12_method_10_code 40 = .ok (.goto 4, 3) := by decide +kernel
theorem dd_73_43 : decode prog_12_method_10_code 43 = .ok (.iconst 0, 1) := by decide +kernel
theorem dd_73_44 : decode prog_12_method_10_code 44 = .ok (.istore 4, 2) := by decide +kernel
theorem dd_73_46 : decode prog_12_method_10_code 46 = .ok (.iinc 5 1, 3) := by decide +kernel
theorem dd_73_49 : decode prog_12_method_10_code 49 = .ok (.goto (-40), 3) := by decide +kernel
theorem dd_73_52 : decode prog_12_method_10_code 52 = .ok (.aload_n 0, 1) := by decide +kernel
theorem dd_73_53 : decode prog_12_method_10_code 53 = .ok (.getfield 18, 3) := by decide +kernel
theorem dd_73_56 : decode prog_12_method_10_code 56 = .ok (.ireturn, 1) := by decide +kernel
theorem kb_73_0 : am_row mi_73 0 kr_73_0 := am_rs rfl (ok_aload_n (k := 0) dd_73_0 rfl rfl) (am_rs rfl (ok_gf dd_73_1 rfl am_ck10 (by decide) (Or.inl w_171)) (am_rn rfl (am_rn rfl (am_rs rfl (ok_istore dd_73_4 rfl (by decide)) (am_rn rfl (am_rs rfl (ok_iconst dd_73_6 ic_0 rfl) (am_rs rfl (ok_istore dd_73_7 rfl (by decide)) (am_rz))))))))
theorem kb_73_1 : am_row mi_73 8 kr_73_1 := am_rn rfl (am_rs rfl (ok_iload dd_73_9 rfl) (am_rn rfl (am_rs rfl (ok_iload_n (k := 2) dd_73_11 rfl rfl) (am_rs rfl (ok_icmp dd_73_12 (by decide) rfl) (am_rn rfl (am_rn rfl (am_rs rfl (ok_aload_n (k := 1) dd_73_15 rfl rfl) (am_rz))))))))
theorem kb_73_2 : am_row mi_73 16 kr_73_2 := am_rs rfl (ok_iload dd_73_16 rfl) (am_rn rfl (am_rs rfl (ok_iload_n (k := 3) dd_73_18 rfl rfl) (am_rs rfl (ok_cv (M' := mi_53) dd_73_19 rfl rfl w_679 w_594 w_595 ⟨lk_53.1, lk_53.2.1, lk_53.2.2, by decide, by decide⟩ rfl) (am_rn rfl (am_rn rfl (am_rs rfl (ok_ifc dd_73_22 (by decide) rfl) (am_rn rfl (am_rz))))))))
theorem kb_73_3 : am_row mi_73 24 kr_73_3 := am_rn rfl (am_rs rfl (ok_iload dd_73_25 rfl) (am_rn rfl (am_rs rfl (ok_iret dd_73_27 rfl) (am_rs rfl (ok_iload dd_73_28 rfl) (am_rn rfl (am_rs rfl (ok_iconst dd_73_30 ic_1 rfl) (am_rs rfl (ok_iadd dd_73_31 rfl) (am_rz))))))))
theorem kb_73_4 : am_row mi_73 32 kr_73_4 := am_rs rfl (ok_iload_n (k := 2) dd_73_32 rfl rfl) (am_rs rfl (ok_icmp dd_73_33 (by decide) rfl) (am_rn rfl (am_rn rfl (am_rs rfl (ok_iload dd_73_36 rfl) (am_rn rfl (am_rs rfl (ok_iconst dd_73_38 ic_1 rfl) (am_rs rfl (ok_iadd dd_73_39 rfl) (am_rz))))))))
theorem kb_73_5 : am_row mi_73 40 kr_73_5 := am_rs rfl (ok_goto dd_73_40 (by decide)) (am_rn rfl (am_rn rfl (am_rs rfl (ok_iconst dd_73_43 ic_0 rfl) (am_rs rfl (ok_istore dd_73_44 rfl (by decide)) (am_rn rfl (am_rs rfl (ok_iinc dd_73_46 ic_1 rfl (by decide)) (am_rn rfl (am_rz))))))))
theorem kb_73_6 : am_row mi_73 48 kr_73_6 := am_rn rfl (am_rs rfl (ok_goto dd_73_49 (by decide)) (am_rn rfl (am_rn rfl (am_rs rfl (ok_aload_n (k := 0) dd_73_52 rfl rfl) (am_rs rfl (ok_gf dd_73_53 rfl am_ck10 (by decide) (Or.inl w_171)) (am_rn rfl (am_rn rfl (am_rz))))))))
theorem kb_73_7 : am_row mi_73 56 kr_73_7 := am_rs rfl (ok_iret dd_73_56 rfl) (am_rz)
theorem ck_73 : am_rows mi_73 0 cd_73 := am_bs rfl kb_73_0 (am_bs rfl kb_73_1 (am_bs rfl kb_73_2 (am_bs rfl kb_73_3 (am_bs rfl kb_73_4 (am_bs rfl kb_73_5 (am_bs rfl kb_73_6 (am_bs rfl kb_73_7 (am_bz))))))))
/-- OverAndBack$Walk.worthiest(LOverAndBack$Screen;II)I -/
noncomputable def kr_74_0 : List (Option am_Op) := [some (am_ald0 0 1), some (am_gf 10 2 4), none, none, some (am_ist 4 6), none, some (am_psh (.retAddr 0) 7), some (am_ist 5 9)]
noncomputable def kr_74_1 : List (Option am_Op) := [none, some (am_ild 5 11), none, some (am_ild 2 12), some (am_br2 .ge 42 15), none, none, some (am_ald0 1 16)]
noncomputable def kr_74_2 : List (Option am_Op) := [some (am_ild 5 18), none, some (am_ild 3 19), some (am_cv 41 2 9 22), none, none, some (am_ald0 1 23), some (am_ild 4 25)]
noncomputable def kr_74_3 : List (Option am_Op) := [none, some (am_ild 3 26), some (am_cv 41 2 9 29), none, none, some (am_br2 .le 36 32), none, none]
noncomputable def kr_74_4 : List (Option am_Op) := [some (am_ild 5 34), none, some (am_ist 4 36), none, some (am_inc 5 1 39), none, none, some (am_jmp 9)]
noncomputable def kr_74_5 : List (Option am_Op) := [none, none, some (am_ild 4 44), none, some (am_iret)]
noncomputable def cd_74 : am_Cd := [kr_74_0, kr_74_1, kr_74_2, kr_74_3, kr_74_4, kr_74_5]
theorem dd_74_0 : decode prog_12_method_11_code 0 = .ok (.aload_n 0, 1) := by decide +kernel
theorem dd_74_1 : decode prog_12_method_11_code 1 = .ok (.getfield 18, 3) := by decide +kernel
theorem dd_74_4 : decode prog_12_method_11_code 4 = .ok (.istore 4, 2) := by decide +kernel
theorem dd_74_6 : decode prog_12_method_11_code 6 = .ok (.iconst 0, 1) := by decide +kernel
theorem dd_74_7 : decode prog_12_method_11_code 7 = .ok (.istore 5, 2) := by decide +kernel
theorem dd_74_9 : decode prog_12_method_11_code 9 = .ok (.iload 5, 2) := by decide +kernel
theorem dd_74_11 : decode prog_12_method_11_code 11 = .ok (.iload_n 2, 1) := by decide +kernel
theorem dd_74_12 : decode prog_12_method_11_code 12 = .ok (.if_icmp .ge 30, 3) := by decide +kernel
theorem dd_74_15 : decode prog_12_method_11_code 15 = .ok (.aload_n 1, 1) := by decide +kernel
theorem dd_74_16 : decode prog_12_method_11_code 16 = .ok (.iload 5, 2) := by decide +kernel
theorem dd_74_18 : decode prog_12_method_11_code 18 = .ok (.iload_n 3, 1) := by decide +kernel
theorem dd_74_19 : decode prog_12_method_11_code 19 = .ok (.invokevirtual 89, 3) := by decide +kernel
theorem dd_74_22 : decode prog_12_method_11_code 22 = .ok (.aload_n 1, 1) := by decide +kernel
theorem dd_74_23 : decode prog_12_method_11_code 23 = .ok (.iload 4, 2) := by decide +kernel
theorem dd_74_25 : decode prog_12_method_11_code 25 = .ok (.iload_n 3, 1) := by decide +kernel
theorem dd_74_26 : decode prog_12_method_11_code 26 = .ok (.invokevirtual 89, 3) := by decide +kernel
theorem dd_74_29 : decode prog_12_method_11_code 29 = .ok (.if_icmp .le 7, 3) := by decide +kernel
theorem dd_74_32 : decode prog_12_method_11_code 32 = .ok (.iload 5, 2) := by decide +kernel
theorem dd_74_34 : decode prog_12_method_11_code 34 = .ok (.istore 4, 2) := by decide +kernel
theorem dd_74_36 : decode prog_12_method_11_code 36 = .ok (.iinc 5 1, 3) := by decide +kernel
theorem dd_74_39 : decode prog_12_method_11_code 39 = .ok (.goto (-30), 3) := by decide +kernel
theorem dd_74_42 : decode prog_12_method_11_code 42 = .ok (.iload 4, 2) := by decide +kernel
theorem dd_74_44 : decode prog_12_method_11_code 44 = .ok (.ireturn, 1) := by decide +kernel
theorem kb_74_0 : am_row mi_74 0 kr_74_0 := am_rs rfl (ok_aload_n (k := 0) dd_74_0 rfl rfl) (am_rs rfl (ok_gf dd_74_1 rfl am_ck10 (by decide) (Or.inl w_171)) (am_rn rfl (am_rn rfl (am_rs rfl (ok_istore dd_74_4 rfl (by decide)) (am_rn rfl (am_rs rfl (ok_iconst dd_74_6 ic_0 rfl) (am_rs rfl (ok_istore dd_74_7 rfl (by decide)) (am_rz))))))))
theorem kb_74_1 : am_row mi_74 8 kr_74_1 := am_rn rfl (am_rs rfl (ok_iload dd_74_9 rfl) (am_rn rfl (am_rs rfl (ok_iload_n (k := 2) dd_74_11 rfl rfl) (am_rs rfl (ok_icmp dd_74_12 (by decide) rfl) (am_rn rfl (am_rn rfl (am_rs rfl (ok_aload_n (k := 1) dd_74_15 rfl rfl) (am_rz))))))))
theorem kb_74_2 : am_row mi_74 16 kr_74_2 := am_rs rfl (ok_iload dd_74_16 rfl) (am_rn rfl (am_rs rfl (ok_iload_n (k := 3) dd_74_18 rfl rfl) (am_rs rfl (ok_cv (M' := mi_41) dd_74_19 rfl rfl w_653 w_491 w_492 ⟨lk_41.1, lk_41.2.1, lk_41.2.2, by decide, by decide⟩ rfl) (am_rn rfl (am_rn rfl (am_rs rfl (ok_aload_n (k := 1) dd_74_22 rfl rfl) (am_rs rfl (ok_iload dd_74_23 rfl) (am_rz))))))))
theorem kb_74_3 : am_row mi_74 24 kr_74_3 := am_rn rfl (am_rs rfl (ok_iload_n (k := 3) dd_74_25 rfl rfl) (am_rs rfl (ok_cv (M' := mi_41) dd_74_26 rfl rfl w_653 w_491 w_492 ⟨lk_41.1, lk_41.2.1, lk_41.2.2, by decide, by decide⟩ rfl) (am_rn rfl (am_rn rfl (am_rs rfl (ok_icmp dd_74_29 (by decide) rfl) (am_rn rfl (am_rn rfl (am_rz))))))))
theorem kb_74_4 : am_row mi_74 32 kr_74_4 := am_rs rfl (ok_iload dd_74_32 rfl) (am_rn rfl (am_rs rfl (ok_istore dd_74_34 rfl (by decide)) (am_rn rfl (am_rs rfl (ok_iinc dd_74_36 ic_1 rfl (by decide)) (am_rn rfl (am_rn rfl (am_rs rfl (ok_goto dd_74_39 (by decide)) (am_rz))))))))
theorem kb_74_5 : am_row mi_74 40 kr_74_5 := am_rn rfl (am_rn rfl (am_rs rfl (ok_iload dd_74_42 rfl) (am_rn rfl (am_rs rfl (ok_iret dd_74_44 rfl) (am_rz)))))
theorem ck_74 : am_rows mi_74 0 cd_74 := am_bs rfl kb_74_0 (am_bs rfl kb_74_1 (am_bs rfl kb_74_2 (am_bs rfl kb_74_3 (am_bs rfl kb_74_4 (am_bs rfl kb_74_5 (am_bz))))))
/-- OverAndBack.where(II)I -/
noncomputable def kr_75_0 : List (Option am_Op) := [some (am_ald0 0 1), some (am_ild 1 2), some (am_cv 59 1 11 5), none, none, some (am_br1 .eq 16 8), none, none]
noncomputable def kr_75_1 : List (Option am_Op) := [some (am_ald0 0 9), some (am_ild 2 10), some (am_cv 52 1 11 13), none, none, some (am_br1 .ne 18 16), none, none]
noncomputable def kr_75_2 : List (Option am_Op) := [some (am_psh (.retAddr 4294967295) 17), some (am_iret), some (am_ald0 0 19), some (am_ild 1 20), some (am_ald0 0 21), some (am_gf 11 6 24), none, none]
noncomputable def kr_75_3 : List (Option am_Op) := [some (am_cv 60 2 11 27), none, none, some (am_ald0 0 28), some (am_gf 11 8 31), none, none, some (am_ild 2 32)]
noncomputable def kr_75_4 : List (Option am_Op) := [some (am_cv 76 1 10 35), none, none, some (am_iret)]
noncomputable def cd_75 : am_Cd := [kr_75_0, kr_75_1, kr_75_2, kr_75_3, kr_75_4]
theorem dd_75_0 : decode prog_1_method_9_code 0 = .ok (.aload_n 0, 1) := by decide +kernel
theorem dd_75_1 : decode prog_1_method_9_code 1 = .ok (.iload_n 1, 1) := by decide +kernel
theorem dd_75_2 : decode prog_1_method_9_code 2 = .ok (.invokevirtual 153, 3) := by decide +kernel
theorem dd_75_5 : decode prog_1_method_9_code 5 = .ok (.ifCond .eq 11, 3) := by decide +kernel
theorem dd_75_8 : decode prog_1_method_9_code 8 = .ok (.aload_n 0, 1) := by decide +kernel
theorem dd_75_9 : decode prog_1_method_9_code 9 = .ok (.iload_n 2, 1) := by decide +kernel
theorem dd_75_10 : decode prog_1_method_9_code 10 = .ok (.invokevirtual 132, 3) := by decide +kernel
theorem dd_75_13 : decode prog_1_method_9_code 13 = .ok (.ifCond .ne 5, 3) := by decide +kernel
theorem dd_75_16 : decode prog_1_method_9_code 16 = .ok (.iconst (-1), 1) := by decide +kernel
theorem dd_75_17 : decode prog_1_method_9_code 17 = .ok (.ireturn, 1) := by decide +kernel
theorem dd_75_18 : decode prog_1_method_9_code 18 = .ok (.aload_n 0, 1) := by decide +kernel
theorem dd_75_19 : decode prog_1_method_9_code 19 = .ok (.iload_n 1, 1) := by decide +kernel
theorem dd_75_20 : decode prog_1_method_9_code 20 = .ok (.aload_n 0, 1) := by decide +kernel
theorem dd_75_21 : decode prog_1_method_9_code 21 = .ok (.getfield 44, 3) := by decide +kernel
theorem dd_75_24 : decode prog_1_method_9_code 24 = .ok (.invokevirtual 156, 3) := by decide +kernel
theorem dd_75_27 : decode prog_1_method_9_code 27 = .ok (.aload_n 0, 1) := by decide +kernel
theorem dd_75_28 : decode prog_1_method_9_code 28 = .ok (.getfield 54, 3) := by decide +kernel
theorem dd_75_31 : decode prog_1_method_9_code 31 = .ok (.iload_n 2, 1) := by decide +kernel
theorem dd_75_32 : decode prog_1_method_9_code 32 = .ok (.invokevirtual 178, 3) := by decide +kernel
theorem dd_75_35 : decode prog_1_method_9_code 35 = .ok (.ireturn, 1) := by decide +kernel
theorem kb_75_0 : am_row mi_75 0 kr_75_0 := am_rs rfl (ok_aload_n (k := 0) dd_75_0 rfl rfl) (am_rs rfl (ok_iload_n (k := 1) dd_75_1 rfl rfl) (am_rs rfl (ok_cv (M' := mi_59) dd_75_2 rfl rfl w_616 w_618 ps_59 ⟨lk_59.1, lk_59.2.1, lk_59.2.2, by decide, by decide⟩ rfl) (am_rn rfl (am_rn rfl (am_rs rfl (ok_ifc dd_75_5 (by decide) rfl) (am_rn rfl (am_rn rfl (am_rz))))))))
theorem kb_75_1 : am_row mi_75 8 kr_75_1 := am_rs rfl (ok_aload_n (k := 0) dd_75_8 rfl rfl) (am_rs rfl (ok_iload_n (k := 2) dd_75_9 rfl rfl) (am_rs rfl (ok_cv (M' := mi_52) dd_75_10 rfl rfl w_588 w_590 ps_52 ⟨lk_52.1, lk_52.2.1, lk_52.2.2, by decide, by decide⟩ rfl) (am_rn rfl (am_rn rfl (am_rs rfl (ok_ifc dd_75_13 (by decide) rfl) (am_rn rfl (am_rn rfl (am_rz))))))))
theorem kb_75_2 : am_row mi_75 16 kr_75_2 := am_rs rfl (ok_iconst dd_75_16 ic_m1 rfl) (am_rs rfl (ok_iret dd_75_17 rfl) (am_rs rfl (ok_aload_n (k := 0) dd_75_18 rfl rfl) (am_rs rfl (ok_iload_n (k := 1) dd_75_19 rfl rfl) (am_rs rfl (ok_aload_n (k := 0) dd_75_20 rfl rfl) (am_rs rfl (ok_gf dd_75_21 rfl am_ck11 (by decide) (Or.inl w_517)) (am_rn rfl (am_rn rfl (am_rz))))))))
theorem kb_75_3 : am_row mi_75 24 kr_75_3 := am_rs rfl (ok_cv (M' := mi_60) dd_75_24 rfl rfl w_620 w_622 ps_60 ⟨lk_60.1, lk_60.2.1, lk_60.2.2, by decide, by decide⟩ rfl) (am_rn rfl (am_rn rfl (am_rs rfl (ok_aload_n (k := 0) dd_75_27 rfl rfl) (am_rs rfl (ok_gf dd_75_28 rfl am_ck11 (by decide) (Or.inl w_519)) (am_rn rfl (am_rn rfl (am_rs rfl (ok_iload_n (k := 2) dd_75_31 rfl rfl) (am_rz))))))))
theorem kb_75_4 : am_row mi_75 32 kr_75_4 := am_rs rfl (ok_cv (M' := mi_76) dd_75_32 rfl rfl w_689 w_690 w_691 ⟨lk_76.1, lk_76.2.1, lk_76.2.2, by decide, by decide⟩ rfl) (am_rn rfl (am_rn rfl (am_rs rfl (ok_iret dd_75_35 rfl) (am_rz))))
theorem ck_75 : am_rows mi_75 0 cd_75 := am_bs rfl kb_75_0 (am_bs rfl kb_75_1 (am_bs rfl kb_75_2 (am_bs rfl kb_75_3 (am_bs rfl kb_75_4 (am_bz)))))
/-- OverAndBack$Walk.placeAt(I)I -/
noncomputable def kr_76_0 : List (Option am_Op) := [some (am_ild 1 1), some (am_br1 .lt 19 4), none, none, some (am_ild 1 5), some (am_psh (.retAddr 60) 7), none, some (am_br2 .ge 19 10)]
noncomputable def kr_76_1 : List (Option am_Op) := [none, none, some (am_ald0 0 11), some (am_gf 10 0 14), none, none, some (am_ild 1 15), some (am_ald 0 16)]
noncomputable def kr_76_2 : List (Option am_Op) := [some (am_jmp 21), none, none, some (am_psh (.retAddr 4294967292) 21), none, some (am_iret)]
noncomputable def cd_76 : am_Cd := [kr_76_0, kr_76_1, kr_76_2]
theorem dd_76_0 : decode prog_12_method_5_code 0 = .ok (.iload_n 1, 1) := by decide +kernel
theorem dd_76_1 : decode prog_12_method_5_code 1 = .ok (.ifCond .lt 18, 3) := by decide +kernel
theorem dd_76_4 : decode prog_12_method_5_code 4 = .ok (.iload_n 1, 1) := by decide +kernel
theorem dd_76_5 : decode prog_12_method_5_code 5 = .ok (.bipush 60, 2) := by decide +kernel
theorem dd_76_7 : decode prog_12_method_5_code 7 = .ok (.if_icmp .ge 12, 3) := by decide +kernel
theorem dd_76_10 : decode prog_12_method_5_code 10 = .ok (.aload_n 0, 1) := by decide +kernel
theorem dd_76_11 : decode prog_12_method_5_code 11 = .ok (.getfield 9, 3) := by decide +kernel
theorem dd_76_14 : decode prog_12_method_5_code 14 = .ok (.iload_n 1, 1) := by decide +kernel
theorem dd_76_15 : decode prog_12_method_5_code 15 = .ok (.iaload, 1) := by decide +kernel
theorem dd_76_16 : decode prog_12_method_5_code 16 = .ok (.goto 5, 3) := by decide +kernel
theorem dd_76_19 : decode prog_12_method_5_code 19 = .ok (.bipush (-4), 2) := by decide +kernel
theorem dd_76_21 : decode prog_12_method_5_code 21 = .ok (.ireturn, 1) := by decide +kernel
theorem kb_76_0 : am_row mi_76 0 kr_76_0 := am_rs rfl (ok_iload_n (k := 1) dd_76_0 rfl rfl) (am_rs rfl (ok_ifc dd_76_1 (by decide) rfl) (am_rn rfl (am_rn rfl (am_rs rfl (ok_iload_n (k := 1) dd_76_4 rfl rfl) (am_rs rfl (ok_bipush dd_76_5 bi_60 rfl) (am_rn rfl (am_rs rfl (ok_icmp dd_76_7 (by decide) rfl) (am_rz))))))))
theorem kb_76_1 : am_row mi_76 8 kr_76_1 := am_rn rfl (am_rn rfl (am_rs rfl (ok_aload_n (k := 0) dd_76_10 rfl rfl) (am_rs rfl (ok_gf dd_76_11 rfl am_ck10 (by decide) (Or.inl w_169)) (am_rn rfl (am_rn rfl (am_rs rfl (ok_iload_n (k := 1) dd_76_14 rfl rfl) (am_rs rfl (ok_iald dd_76_15 rfl) (am_rz))))))))
theorem kb_76_2 : am_row mi_76 16 kr_76_2 := am_rs rfl (ok_goto dd_76_16 (by decide)) (am_rn rfl (am_rn rfl (am_rs rfl (ok_bipush dd_76_19 bi_m4 rfl) (am_rn rfl (am_rs rfl (ok_iret dd_76_21 rfl) (am_rz))))))
theorem ck_76 : am_rows mi_76 0 cd_76 := am_bs rfl kb_76_0 (am_bs rfl kb_76_1 (am_bs rfl kb_76_2 (am_bz)))
/-- OverAndBack.begin(I)I -/
noncomputable def kr_77_0 : List (Option am_Op) := [some (am_ald0 0 1), some (am_ild 1 2), some (am_cv 51 1 11 5), none, none, some (am_br1 .ne 10 8), none, none]
noncomputable def kr_77_1 : List (Option am_Op) := [some (am_psh (.retAddr 4294967295) 9), some (am_iret), some (am_ald0 0 11), some (am_gf 11 12 14), none, none, some (am_gf 5 3 17), none]
noncomputable def kr_77_2 : List (Option am_Op) := [none, some (am_ist 2 18), some (am_ild 1 19), some (am_ild 2 20), some (am_br2 .eq 39 23), none, none, some (am_ald0 0 24)]
noncomputable def kr_77_3 : List (Option am_Op) := [some (am_gf 11 13 27), none, none, some (am_ild 2 28), some (am_cv 78 1 4 31), none, none, some (am_ald0 0 32)]
noncomputable def kr_77_4 : List (Option am_Op) := [some (am_gf 11 12 35), none, none, some (am_ild 1 36), some (am_pf 5 3 0 39), none, none, some (am_ild 2 40)]
noncomputable def kr_77_5 : List (Option am_Op) := [some (am_iret)]
noncomputable def cd_77 : am_Cd := [kr_77_0, kr_77_1, kr_77_2, kr_77_3, kr_77_4, kr_77_5]
theorem dd_77_0 : decode prog_1_method_10_code 0 = .ok (.aload_n 0, 1) := by decide +kernel
theorem dd_77_1 : decode prog_1_method_10_code 1 = .ok (.iload_n 1, 1) := by decide +kernel
theorem dd_77_2 : decode prog_1_method_10_code 2 = .ok (.invokevirtual 128, 3) := by decide +kernel
theorem dd_77_5 : decode prog_1_method_10_code 5 = .ok (.ifCond .ne 5, 3) := by decide +kernel
theorem dd_77_8 : decode prog_1_method_10_code 8 = .ok (.iconst (-1), 1) := by decide +kernel
theorem dd_77_9 : decode prog_1_method_10_code 9 = .ok (.ireturn, 1) := by decide +kernel
theorem dd_77_10 : decode prog_1_method_10_code 10 = .ok (.aload_n 0, 1) := by decide +kernel
theorem dd_77_11 : decode prog_1_method_10_code 11 = .ok (.getfield 84, 3) := by decide +kernel
theorem dd_77_14 : decode prog_1_method_10_code 14 = .ok (.getfield 181, 3) := by decide +kernel
theorem dd_77_17 : decode prog_1_method_10_code 17 = .ok (.istore_n 2, 1) := by decide +kernel
theorem dd_77_18 : decode prog_1_method_10_code 18 = .ok (.iload_n 1, 1) := by decide +kernel
theorem dd_77_19 : decode prog_1_method_10_code 19 = .ok (.iload_n 2, 1) := by decide +kernel
theorem dd_77_20 : decode prog_1_method_10_code 20 = .ok (.if_icmp .eq 19, 3) := by decide +kernel
theorem dd_77_23 : decode prog_1_method_10_code 23 = .ok (.aload_n 0, 1) := by decide +kernel
theorem dd_77_24 : decode prog_1_method_10_code 24 = .ok (.getfield 91, 3) := by decide +kernel
theorem dd_77_27 : decode prog_1_method_10_code 27 = .ok (.iload_n 2, 1) := by decide +kernel
theorem dd_77_28 : decode prog_1_method_10_code 28 = .ok (.invokevirtual 184, 3) := by decide +kernel
theorem dd_77_31 : decode prog_1_method_10_code 31 = .ok (.aload_n 0, 1) := by decide +kernel
theorem dd_77_32 : decode prog_1_method_10_code 32 = .ok (.getfield 84, 3) := by decide +kernel
theorem dd_77_35 : decode prog_1_method_10_code 35 = .ok (.iload_n 1, 1) := by decide +kernel
theorem dd_77_36 : decode prog_1_method_10_code 36 = .ok (.putfield 181, 3) := by decide +kernel
theorem dd_77_39 : decode prog_1_method_10_code 39 = .ok (.iload_n 2, 1) := by decide +kernel
theorem dd_77_40 : decode prog_1_method_10_code 40 = .ok (.ireturn, 1) := by decide +kernel
theorem kb_77_0 : am_row mi_77 0 kr_77_0 := am_rs rfl (ok_aload_n (k := 0) dd_77_0 rfl rfl) (am_rs rfl (ok_iload_n (k := 1) dd_77_1 rfl rfl) (am_rs rfl (ok_cv (M' := mi_51) dd_77_2 rfl rfl w_584 w_586 ps_51 ⟨lk_51.1, lk_51.2.1, lk_51.2.2, by decide, by decide⟩ rfl) (am_rn rfl (am_rn rfl (am_rs rfl (ok_ifc dd_77_5 (by decide) rfl) (am_rn rfl (am_rn rfl (am_rz))))))))
theorem kb_77_1 : am_row mi_77 8 kr_77_1 := am_rs rfl (ok_iconst dd_77_8 ic_m1 rfl) (am_rs rfl (ok_iret dd_77_9 rfl) (am_rs rfl (ok_aload_n (k := 0) dd_77_10 rfl rfl) (am_rs rfl (ok_gf dd_77_11 rfl am_ck11 (by decide) (Or.inl w_523)) (am_rn rfl (am_rn rfl (am_rs rfl (ok_gf dd_77_14 rfl am_ck5 (by decide) (Or.inr ⟨_, w_310⟩)) (am_rn rfl (am_rz))))))))
theorem kb_77_2 : am_row mi_77 16 kr_77_2 := am_rn rfl (am_rs rfl (ok_istore_n (k := 2) dd_77_17 rfl rfl (by decide)) (am_rs rfl (ok_iload_n (k := 1) dd_77_18 rfl rfl) (am_rs rfl (ok_iload_n (k := 2) dd_77_19 rfl rfl) (am_rs rfl (ok_icmp dd_77_20 (by decide) rfl) (am_rn rfl (am_rn rfl (am_rs rfl (ok_aload_n (k := 0) dd_77_23 rfl rfl) (am_rz))))))))
theorem kb_77_3 : am_row mi_77 24 kr_77_3 := am_rs rfl (ok_gf dd_77_24 rfl am_ck11 (by decide) (Or.inl w_524)) (am_rn rfl (am_rn rfl (am_rs rfl (ok_iload_n (k := 2) dd_77_27 rfl rfl) (am_rs rfl (ok_cv (M' := mi_78) dd_77_28 rfl rfl w_697 w_698 w_699 ⟨lk_78.1, lk_78.2.1, lk_78.2.2, by decide, by decide⟩ rfl) (am_rn rfl (am_rn rfl (am_rs rfl (ok_aload_n (k := 0) dd_77_31 rfl rfl) (am_rz))))))))
theorem kb_77_4 : am_row mi_77 32 kr_77_4 := am_rs rfl (ok_gf dd_77_32 rfl am_ck11 (by decide) (Or.inl w_523)) (am_rn rfl (am_rn rfl (am_rs rfl (ok_iload_n (k := 1) dd_77_35 rfl rfl) (am_rs rfl (ok_pf dd_77_36 rfl am_ck5 (by decide) (Or.inr ⟨_, w_310⟩) (Or.inl rfl) rfl) (am_rn rfl (am_rn rfl (am_rs rfl (ok_iload_n (k := 2) dd_77_39 rfl rfl) (am_rz))))))))
theorem kb_77_5 : am_row mi_77 40 kr_77_5 := am_rs rfl (ok_iret dd_77_40 rfl) (am_rz)
theorem ck_77 : am_rows mi_77 0 cd_77 := am_bs rfl kb_77_0 (am_bs rfl kb_77_1 (am_bs rfl kb_77_2 (am_bs rfl kb_77_3 (am_bs rfl kb_77_4 (am_bs rfl kb_77_5 (am_bz))))))
/-- OverAndBack$Past.push(I)V -/
noncomputable def kr_78_0 : List (Option am_Op) := [some (am_ald0 0 1), some (am_gf 4 1 4), none, none, some (am_psh (.retAddr 8) 6), none, some (am_br2 .lt 30 9), none]
noncomputable def kr_78_1 : List (Option am_Op) := [none, some (am_ald0 0 10), some (am_gf 4 0 13), none, none, some (am_psh (.retAddr 1) 14), some (am_ald0 0 15), some (am_gf 4 0 18)]
noncomputable def kr_78_2 : List (Option am_Op) := [none, none, some (am_psh (.retAddr 0) 19), some (am_psh (.retAddr 7) 21), none, some (am_acp 24), none, none]
noncomputable def kr_78_3 : List (Option am_Op) := [some (am_ald0 0 25), some (am_psh (.retAddr 7) 27), none, some (am_pf 4 1 0 30), none, none, some (am_ald0 0 31), some (am_gf 4 1 34)]
noncomputable def kr_78_4 : List (Option am_Op) := [none, none, some (am_br1 .lt 57 37), none, none, some (am_ald0 0 38), some (am_gf 4 0 41), none]
noncomputable def kr_78_5 : List (Option am_Op) := [none, some (am_ald0 0 42), some (am_gf 4 1 45), none, none, some (am_ild 1 46), some (am_ast 0 (fun v => v) 47), some (am_ald0 0 48)]
noncomputable def kr_78_6 : List (Option am_Op) := [some (am_dup 49), some (am_gf 4 1 52), none, none, some (am_psh (.retAddr 1) 53), some (am_bin am_add 54), some (am_pf 4 1 0 57), none]
noncomputable def kr_78_7 : List (Option am_Op) := [none, some (am_vret)]
noncomputable def cd_78 : am_Cd := [kr_78_0, kr_78_1, kr_78_2, kr_78_3, kr_78_4, kr_78_5, kr_78_6, kr_78_7]
theorem dd_78_0 : decode prog_6_method_3_code 0 = .ok (.aload_n 0, 1) := by decide +kernel
theorem dd_78_1 : decode prog_6_method_3_code 1 = .ok (.getfield 15, 3) := by decide +kernel
theorem dd_78_4 : decode prog_6_method_3_code 4 = .ok (.bipush 8, 2) := by decide +kernel
theorem dd_78_6 : decode prog_6_method_3_code 6 = .ok (.if_icmp .lt 24, 3) := by decide +kernel
theorem dd_78_9 : decode prog_6_method_3_code 9 = .ok (.aload_n 0, 1) := by decide +kernel
theorem dd_78_10 : decode prog_6_method_3_code 10 = .ok (.getfield 9, 3) := by decide +kernel
theorem dd_78_13 : decode prog_6_method_3_code 13 = .ok (.iconst 1, 1) := by decide +kernel
theorem dd_78_14 : decode prog_6_method_3_code 14 = .ok (.aload_n 0, 1) := by decide +kernel
theorem dd_78_15 : decode prog_6_method_3_code 15 = .ok (.getfield 9, 3) := by decide +kernel
theorem dd_78_18 : decode prog_6_method_3_code 18 = .ok (.iconst 0, 1) := by decide +kernel
theorem dd_78_19 : decode prog_6_method_3_code 19 = .ok (.bipush 7, 2) := by decide +kernel
theorem dd_78_21 : decode prog_6_method_3_code 21 = .ok (.invokestatic 19, 3) := by decide +kernel
theorem dd_78_24 : decode prog_6_method_3_code 24 = .ok (.aload_n 0, 1) := by decide +kernel
theorem dd_78_25 : decode prog_6_method_3_code 25 = .ok (.bipush 7, 2) := by decide +kernel
theorem dd_78_27 : decode prog_6_method_3_code 27 = .ok (.putfield 15, 3) := by decide +kernel
theorem dd_78_30 : decode prog_6_method_3_code 30 = .ok (.aload_n 0, 1) := by decide +kernel
theorem dd_78_31 : decode prog_6_method_3_code 31 = .ok (.getfield 15, 3) := by decide +kernel
theorem dd_78_34 : decode prog_6_method_3_code 34 = .ok (.ifCond .lt 23, 3) := by decide +kernel
theorem dd_78_37 : decode prog_6_method_3_code 37 = .ok (.aload_n 0, 1) := by decide +kernel
theorem dd_78_38 : decode prog_6_method_3_code 38 = .ok (.getfield 9, 3) := by decide +kernel
theorem dd_78_41 : decode prog_6_method_3_code 41 = .ok (.aload_n 0, 1) := by decide +kernel
theorem dd_78_42 : decode prog_6_method_3_code 42 = .ok (.getfield 15, 3) := by decide +kernel
theorem dd_78_45 : decode prog_6_method_3_code 45 = .ok (.iload_n 1, 1) := by decide +kernel
theorem dd_78_46 : decode prog_6_method_3_code 46 = .ok (.iastore, 1) := by decide +kernel
theorem dd_78_47 : decode prog_6_method_3_code 47 = .ok (.aload_n 0, 1) := by decide +kernel
theorem dd_78_48 : decode prog_6_method_3_code 48 = .ok (.dup, 1) := by decide +kernel
theorem dd_78_49 : decode prog_6_method_3_code 49 = .ok (.getfield 15, 3) := by decide +kernel
theorem dd_78_52 : decode prog_6_method_3_code 52 = .ok (.iconst 1, 1) := by decide +kernel
theorem dd_78_53 : decode prog_6_method_3_code 53 = .ok (.iadd, 1) := by decide +kernel
theorem dd_78_54 : decode prog_6_method_3_code 54 = .ok (.putfield 15, 3) := by decide +kernel
theorem dd_78_57 : decode prog_6_method_3_code 57 = .ok (.return_, 1) := by decide +kernel
theorem kb_78_0 : am_row mi_78 0 kr_78_0 := am_rs rfl (ok_aload_n (k := 0) dd_78_0 rfl rfl) (am_rs rfl (ok_gf dd_78_1 rfl am_ck4 (by decide) (Or.inl w_327)) (am_rn rfl (am_rn rfl (am_rs rfl (ok_bipush dd_78_4 bi_8 rfl) (am_rn rfl (am_rs rfl (ok_icmp dd_78_6 (by decide) rfl) (am_rn rfl (am_rz))))))))
theorem kb_78_1 : am_row mi_78 8 kr_78_1 := am_rn rfl (am_rs rfl (ok_aload_n (k := 0) dd_78_9 rfl rfl) (am_rs rfl (ok_gf dd_78_10 rfl am_ck4 (by decide) (Or.inl w_326)) (am_rn rfl (am_rn rfl (am_rs rfl (ok_iconst dd_78_13 ic_1 rfl) (am_rs rfl (ok_aload_n (k := 0) dd_78_14 rfl rfl) (am_rs rfl (ok_gf dd_78_15 rfl am_ck4 (by decide) (Or.inl w_326)) (am_rz))))))))
theorem kb_78_2 : am_row mi_78 16 kr_78_2 := am_rn rfl (am_rn rfl (am_rs rfl (ok_iconst dd_78_18 ic_0 rfl) (am_rs rfl (ok_bipush dd_78_19 bi_7 rfl) (am_rn rfl (am_rs rfl (ok_acp dd_78_21 rfl w_701 w_433 w_432 w_19 ⟨by decide, by decide⟩) (am_rn rfl (am_rn rfl (am_rz))))))))
theorem kb_78_3 : am_row mi_78 24 kr_78_3 := am_rs rfl (ok_aload_n (k := 0) dd_78_24 rfl rfl) (am_rs rfl (ok_bipush dd_78_25 bi_7 rfl) (am_rn rfl (am_rs rfl (ok_pf dd_78_27 rfl am_ck4 (by decide) (Or.inl w_327) (Or.inl rfl) rfl) (am_rn rfl (am_rn rfl (am_rs rfl (ok_aload_n (k := 0) dd_78_30 rfl rfl) (am_rs rfl (ok_gf dd_78_31 rfl am_ck4 (by decide) (Or.inl w_327)) (am_rz))))))))
theorem kb_78_4 : am_row mi_78 32 kr_78_4 := am_rn rfl (am_rn rfl (am_rs rfl (ok_ifc dd_78_34 (by decide) rfl) (am_rn rfl (am_rn rfl (am_rs rfl (ok_aload_n (k := 0) dd_78_37 rfl rfl) (am_rs rfl (ok_gf dd_78_38 rfl am_ck4 (by decide) (Or.inl w_326)) (am_rn rfl (am_rz))))))))
theorem kb_78_5 : am_row mi_78 40 kr_78_5 := am_rn rfl (am_rs rfl (ok_aload_n (k := 0) dd_78_41 rfl rfl) (am_rs rfl (ok_gf dd_78_42 rfl am_ck4 (by decide) (Or.inl w_327)) (am_rn rfl (am_rn rfl (am_rs rfl (ok_iload_n (k := 1) dd_78_45 rfl rfl) (am_rs rfl (ok_iast dd_78_46 rfl) (am_rs rfl (ok_aload_n (k := 0) dd_78_47 rfl rfl) (am_rz))))))))
theorem kb_78_6 : am_row mi_78 48 kr_78_6 := am_rs rfl (ok_dup dd_78_48 rfl) (am_rs rfl (ok_gf dd_78_49 rfl am_ck4 (by decide) (Or.inl w_327)) (am_rn rfl (am_rn rfl (am_rs rfl (ok_iconst dd_78_52 ic_1 rfl) (am_rs rfl (ok_iadd dd_78_53 rfl) (am_rs rfl (ok_pf dd_78_54 rfl am_ck4 (by decide) (Or.inl w_327) (Or.inl rfl) rfl) (am_rn rfl (am_rz))))))))
theorem kb_78_7 : am_row mi_78 56 kr_78_7 := am_rn rfl (am_rs rfl (ok_vret dd_78_57 rfl) (am_rz))
theorem ck_78 : am_rows mi_78 0 cd_78 := am_bs rfl kb_78_0 (am_bs rfl kb_78_1 (am_bs rfl kb_78_2 (am_bs rfl kb_78_3 (am_bs rfl kb_78_4 (am_bs rfl kb_78_5 (am_bs rfl kb_78_6 (am_bs rfl kb_78_7 (am_bz))))))))
/-- OverAndBack.over(II)I -/
noncomputable def kr_79_0 : List (Option am_Op) := [some (am_ald0 0 1), some (am_ild 1 2), some (am_cv 52 1 11 5), none, none, some (am_br1 .eq 16 8), none, none]
noncomputable def kr_79_1 : List (Option am_Op) := [some (am_ald0 0 9), some (am_ild 2 10), some (am_cv 51 1 11 13), none, none, some (am_br1 .ne 18 16), none, none]
noncomputable def kr_79_2 : List (Option am_Op) := [some (am_psh (.retAddr 4294967295) 17), some (am_iret), some (am_ald0 0 19), some (am_gf 11 12 22), none, none, some (am_ild 1 23), some (am_ild 2 24)]
noncomputable def kr_79_3 : List (Option am_Op) := [some (am_cv 80 2 5 27), none, none, some (am_br1 .ne 33 30), none, none, some (am_psh (.retAddr 4294967293) 32), none]
noncomputable def kr_79_4 : List (Option am_Op) := [some (am_iret), some (am_ald0 0 34), some (am_gf 11 13 37), none, none, some (am_psh (.retAddr 4294967295) 38), some (am_cv 78 1 4 41), none]
noncomputable def kr_79_5 : List (Option am_Op) := [none, some (am_ald0 0 42), some (am_gf 11 12 45), none, none, some (am_gf 5 2 48), none, none]
noncomputable def kr_79_6 : List (Option am_Op) := [some (am_iret)]
noncomputable def cd_79 : am_Cd := [kr_79_0, kr_79_1, kr_79_2, kr_79_3, kr_79_4, kr_79_5, kr_79_6]
theorem dd_79_0 : decode prog_1_method_11_code 0 = .ok (.aload_n 0, 1) := by decide +kernel
theorem dd_79_1 : decode prog_1_method_11_code 1 = .ok (.iload_n 1, 1) := by decide +kernel
theorem dd_79_2 : decode prog_1_method_11_code 2 = .ok (.invokevirtual 132, 3) := by decide +kernel
theorem dd_79_5 : decode prog_1_method_11_code 5 = .ok (.ifCond .eq 11, 3) := by decide +kernel
theorem dd_79_8 : decode prog_1_method_11_code 8 = .ok (.aload_n 0, 1) := by decide +kernel
theorem dd_79_9 : decode prog_1_method_11_code 9 = .ok (.iload_n 2, 1) := by decide +kernel
theorem dd_79_10 : decode prog_1_method_11_code 10 = .ok (.invokevirtual 128, 3) := by decide +kernel
theorem dd_79_13 : decode prog_1_method_11_code 13 = .ok (.ifCond .ne 5, 3) := by decide +kernel
theorem dd_79_16 : decode prog_1_method_11_code 16 = .ok (.iconst (-1), 1) := by decide +kernel
theorem dd_79_17 : decode prog_1_method_11_code 17 = .ok (.ireturn, 1) := by decide +kernel
theorem dd_79_18 : decode prog_1_method_11_code 18 = .ok (.aload_n 0, 1) := by decide +kernel
theorem dd_79_19 : decode prog_1_method_11_code 19 = .ok (.getfield 84, 3) := by decide +kernel
theorem dd_79_22 : decode prog_1_method_11_code 22 = .ok (.iload_n 1, 1) := by decide +kernel
theorem dd_79_23 : decode prog_1_method_11_code 23 = .ok (.iload_n 2, 1) := by decide +kernel
theorem dd_79_24 : decode prog_1_method_11_code 24 = .ok (.invokevirtual 188, 3) := by decide +kernel
theorem dd_79_27 : decode prog_1_method_11_code 27 = .ok (.ifCond .ne 6, 3) := by decide +kernel
theorem dd_79_30 : decode prog_1_method_11_code 30 = .ok (.bipush (-3), 2) := by decide +kernel
theorem dd_79_32 : decode prog_1_method_11_code 32 = .ok (.ireturn, 1) := by decide +kernel
theorem dd_79_33 : decode prog_1_method_11_code 33 = .ok (.aload_n 0, 1) := by decide +kernel
theorem dd_79_34 : decode prog_1_method_11_code 34 = .ok (.getfield 91, 3) := by decide +kernel
theorem dd_79_37 : decode prog_1_method_11_code 37 = .ok (.iconst (-1), 1) := by decide +kernel
theorem dd_79_38 : decode prog_1_method_11_code 38 = .ok (.invokevirtual 184, 3) := by decide +kernel
theorem dd_79_41 : decode prog_1_method_11_code 41 = .ok (.aload_n 0, 1) := by decide +kernel
theorem dd_79_42 : decode prog_1_method_11_code 42 = .ok (.getfield 84, 3) := by decide +kernel
theorem dd_79_45 : decode prog_1_method_11_code 45 = .ok (.getfield 191, 3) := by decide +kernel
theorem dd_79_48 : decode prog_1_method_11_code 48 = .ok (.ireturn, 1) := by decide +kernel
theorem kb_79_0 : am_row mi_79 0 kr_79_0 := am_rs rfl (ok_aload_n (k := 0) dd_79_0 rfl rfl) (am_rs rfl (ok_iload_n (k := 1) dd_79_1 rfl rfl) (am_rs rfl (ok_cv (M' := mi_52) dd_79_2 rfl rfl w_588 w_590 ps_52 ⟨lk_52.1, lk_52.2.1, lk_52.2.2, by decide, by decide⟩ rfl) (am_rn rfl (am_rn rfl (am_rs rfl (ok_ifc dd_79_5 (by decide) rfl) (am_rn rfl (am_rn rfl (am_rz))))))))
theorem kb_79_1 : am_row mi_79 8 kr_79_1 := am_rs rfl (ok_aload_n (k := 0) dd_79_8 rfl rfl) (am_rs rfl (ok_iload_n (k := 2) dd_79_9 rfl rfl) (am_rs rfl (ok_cv (M' := mi_51) dd_79_10 rfl rfl w_584 w_586 ps_51 ⟨lk_51.1, lk_51.2.1, lk_51.2.2, by decide, by decide⟩ rfl) (am_rn rfl (am_rn rfl (am_rs rfl (ok_ifc dd_79_13 (by decide) rfl) (am_rn rfl (am_rn rfl (am_rz))))))))
theorem kb_79_2 : am_row mi_79 16 kr_79_2 := am_rs rfl (ok_iconst dd_79_16 ic_m1 rfl) (am_rs rfl (ok_iret dd_79_17 rfl) (am_rs rfl (ok_aload_n (k := 0) dd_79_18 rfl rfl) (am_rs rfl (ok_gf dd_79_19 rfl am_ck11 (by decide) (Or.inl w_523)) (am_rn rfl (am_rn rfl (am_rs rfl (ok_iload_n (k := 1) dd_79_22 rfl rfl) (am_rs rfl (ok_iload_n (k := 2) dd_79_23 rfl rfl) (am_rz))))))))
theorem kb_79_3 : am_row mi_79 24 kr_79_3 := am_rs rfl (ok_cv (M' := mi_80) dd_79_24 rfl rfl w_706 w_707 w_708 ⟨lk_80.1, lk_80.2.1, lk_80.2.2, by decide, by decide⟩ rfl) (am_rn rfl (am_rn rfl (am_rs rfl (ok_ifc dd_79_27 (by decide) rfl) (am_rn rfl (am_rn rfl (am_rs rfl (ok_bipush dd_79_30 bi_m3 rfl) (am_rn rfl (am_rz))))))))
theorem kb_79_4 : am_row mi_79 32 kr_79_4 := am_rs rfl (ok_iret dd_79_32 rfl) (am_rs rfl (ok_aload_n (k := 0) dd_79_33 rfl rfl) (am_rs rfl (ok_gf dd_79_34 rfl am_ck11 (by decide) (Or.inl w_524)) (am_rn rfl (am_rn rfl (am_rs rfl (ok_iconst dd_79_37 ic_m1 rfl) (am_rs rfl (ok_cv (M' := mi_78) dd_79_38 rfl rfl w_697 w_698 w_699 ⟨lk_78.1, lk_78.2.1, lk_78.2.2, by decide, by decide⟩ rfl) (am_rn rfl (am_rz))))))))
theorem kb_79_5 : am_row mi_79 40 kr_79_5 := am_rn rfl (am_rs rfl (ok_aload_n (k := 0) dd_79_41 rfl rfl) (am_rs rfl (ok_gf dd_79_42 rfl am_ck11 (by decide) (Or.inl w_523)) (am_rn rfl (am_rn rfl (am_rs rfl (ok_gf dd_79_45 rfl am_ck5 (by decide) (Or.inr ⟨_, w_307⟩)) (am_rn rfl (am_rn rfl (am_rz))))))))
theorem kb_79_6 : am_row mi_79 48 kr_79_6 := am_rs rfl (ok_iret dd_79_48 rfl) (am_rz)
theorem ck_79 : am_rows mi_79 0 cd_79 := am_bs rfl kb_79_0 (am_bs rfl kb_79_1 (am_bs rfl kb_79_2 (am_bs rfl kb_79_3 (am_bs rfl kb_79_4 (am_bs rfl kb_79_5 (am_bs rfl kb_79_6 (am_bz)))))))
/-- OverAndBack$Plan.add(II)Z -/
noncomputable def kr_80_0 : List (Option am_Op) := [some (am_ald0 0 1), some (am_gf 5 2 4), none, none, some (am_br1 .lt 16 7), none, none, some (am_ald0 0 8)]
noncomputable def kr_80_1 : List (Option am_Op) := [some (am_gf 5 2 11), none, none, some (am_psh (.retAddr 9) 13), none, some (am_br2 .lt 18 16), none, none]
noncomputable def kr_80_2 : List (Option am_Op) := [some (am_psh (.retAddr 0) 17), some (am_zret), some (am_ald0 0 19), some (am_gf 5 0 22), none, none, some (am_ald0 0 23), some (am_gf 5 2 26)]
noncomputable def kr_80_3 : List (Option am_Op) := [none, none, some (am_ild 1 27), some (am_ast 0 (fun v => v) 28), some (am_ald0 0 29), some (am_gf 5 1 32), none, none]
noncomputable def kr_80_4 : List (Option am_Op) := [some (am_ald0 0 33), some (am_gf 5 2 36), none, none, some (am_ild 2 37), some (am_ast 0 (fun v => v) 38), some (am_ald0 0 39), some (am_dup 40)]
noncomputable def kr_80_5 : List (Option am_Op) := [some (am_gf 5 2 43), none, none, some (am_psh (.retAddr 1) 44), some (am_bin am_add 45), some (am_pf 5 2 0 48), none, none]
noncomputable def kr_80_6 : List (Option am_Op) := [some (am_psh (.retAddr 1) 49), some (am_zret)]
noncomputable def cd_80 : am_Cd := [kr_80_0, kr_80_1, kr_80_2, kr_80_3, kr_80_4, kr_80_5, kr_80_6]
theorem dd_80_0 : decode prog_7_method_3_code 0 = .ok (.aload_n 0, 1) := by decide +kernel
theorem dd_80_1 : decode prog_7_method_3_code 1 = .ok (.getfield 18, 3) := by decide +kernel
theorem dd_80_4 : decode prog_7_method_3_code 4 = .ok (.ifCond .lt 12, 3) := by decide +kernel
theorem dd_80_7 : decode prog_7_method_3_code 7 = .ok (.aload_n 0, 1) := by decide +kernel
theorem dd_80_8 : decode prog_7_method_3_code 8 = .ok (.getfield 18, 3) := by decide +kernel
theorem dd_80_11 : decode prog_7_method_3_code 11 = .ok (.bipush 9, 2) := by decide +kernel
theorem dd_80_13 : decode prog_7_method_3_code 13 = .ok (.if_icmp .lt 5, 3) := by decide +kernel
theorem dd_80_16 : decode prog_7_method_3_code 16 = .ok (.iconst 0, 1) := by decide +kernel
theorem dd_80_17 : decode prog_7_method_3_code 17 = .ok (.ireturn, 1) := by decide +kernel
theorem dd_80_18 : decode prog_7_method_3_code 18 = .ok (.aload_n 0, 1) := by decide +kernel
theorem dd_80_19 : decode prog_7_method_3_code 19 = .ok (.getfield 9, 3) := by decide +kernel
theorem dd_80_22 : decode prog_7_method_3_code 22 = .ok (.aload_n 0, 1) := by decide +kernel
theorem dd_80_23 : decode prog_7_method_3_code 23 = .ok (.getfield 18, 3) := by decide +kernel
theorem dd_80_26 : decode prog_7_method_3_code 26 = .ok (.iload_n 1, 1) := by decide +kernel
theorem dd_80_27 : decode prog_7_method_3_code 27 = .ok (.iastore, 1) := by decide +kernel
theorem dd_80_28 : decode prog_7_method_3_code 28 = .ok (.aload_n 0, 1) := by decide +kernel
theorem dd_80_29 : decode prog_7_method_3_code 29 = .ok (.getfield 15, 3) := by decide +kernel
theorem dd_80_32 : decode prog_7_method_3_code 32 = .ok (.aload_n 0, 1) := by decide +kernel
theorem dd_80_33 : decode prog_7_method_3_code 33 = .ok (.getfield 18, 3) := by decide +kernel
theorem dd_80_36 : decode prog_7_method_3_code 36 = .ok (.iload_n 2, 1) := by decide +kernel
theorem dd_80_37 : decode prog_7_method_3_code 37 = .ok (.iastore, 1) := by decide +kernel
theorem dd_80_38 : decode prog_7_method_3_code 38 = .ok (.aload_n 0, 1) := by decide +kernel
theorem dd_80_39 : decode prog_7_method_3_code 39 = .ok (.dup, 1) := by decide +kernel
theorem dd_80_40 : decode prog_7_method_3_code 40 = .ok (.getfield 18, 3) := by decide +kernel
theorem dd_80_43 : decode prog_7_method_3_code 43 = .ok (.iconst 1, 1) := by decide +kernel
theorem dd_80_44 : decode prog_7_method_3_code 44 = .ok (.iadd, 1) := by decide +kernel
theorem dd_80_45 : decode prog_7_method_3_code 45 = .ok (.putfield 18, 3) := by decide +kernel
theorem dd_80_48 : decode prog_7_method_3_code 48 = .ok (.iconst 1, 1) := by decide +kernel
theorem dd_80_49 : decode prog_7_method_3_code 49 = .ok (.ireturn, 1) := by decide +kernel
theorem kb_80_0 : am_row mi_80 0 kr_80_0 := am_rs rfl (ok_aload_n (k := 0) dd_80_0 rfl rfl) (am_rs rfl (ok_gf dd_80_1 rfl am_ck5 (by decide) (Or.inl w_305)) (am_rn rfl (am_rn rfl (am_rs rfl (ok_ifc dd_80_4 (by decide) rfl) (am_rn rfl (am_rn rfl (am_rs rfl (ok_aload_n (k := 0) dd_80_7 rfl rfl) (am_rz))))))))
theorem kb_80_1 : am_row mi_80 8 kr_80_1 := am_rs rfl (ok_gf dd_80_8 rfl am_ck5 (by decide) (Or.inl w_305)) (am_rn rfl (am_rn rfl (am_rs rfl (ok_bipush dd_80_11 bi_9 rfl) (am_rn rfl (am_rs rfl (ok_icmp dd_80_13 (by decide) rfl) (am_rn rfl (am_rn rfl (am_rz))))))))
theorem kb_80_2 : am_row mi_80 16 kr_80_2 := am_rs rfl (ok_iconst dd_80_16 ic_0 rfl) (am_rs rfl (ok_zret dd_80_17 rfl) (am_rs rfl (ok_aload_n (k := 0) dd_80_18 rfl rfl) (am_rs rfl (ok_gf dd_80_19 rfl am_ck5 (by decide) (Or.inl w_303)) (am_rn rfl (am_rn rfl (am_rs rfl (ok_aload_n (k := 0) dd_80_22 rfl rfl) (am_rs rfl (ok_gf dd_80_23 rfl am_ck5 (by decide) (Or.inl w_305)) (am_rz))))))))
theorem kb_80_3 : am_row mi_80 24 kr_80_3 := am_rn rfl (am_rn rfl (am_rs rfl (ok_iload_n (k := 1) dd_80_26 rfl rfl) (am_rs rfl (ok_iast dd_80_27 rfl) (am_rs rfl (ok_aload_n (k := 0) dd_80_28 rfl rfl) (am_rs rfl (ok_gf dd_80_29 rfl am_ck5 (by decide) (Or.inl w_304)) (am_rn rfl (am_rn rfl (am_rz))))))))
theorem kb_80_4 : am_row mi_80 32 kr_80_4 := am_rs rfl (ok_aload_n (k := 0) dd_80_32 rfl rfl) (am_rs rfl (ok_gf dd_80_33 rfl am_ck5 (by decide) (Or.inl w_305)) (am_rn rfl (am_rn rfl (am_rs rfl (ok_iload_n (k := 2) dd_80_36 rfl rfl) (am_rs rfl (ok_iast dd_80_37 rfl) (am_rs rfl (ok_aload_n (k := 0) dd_80_38 rfl rfl) (am_rs rfl (ok_dup dd_80_39 rfl) (am_rz))))))))
theorem kb_80_5 : am_row mi_80 40 kr_80_5 := am_rs rfl (ok_gf dd_80_40 rfl am_ck5 (by decide) (Or.inl w_305)) (am_rn rfl (am_rn rfl (am_rs rfl (ok_iconst dd_80_43 ic_1 rfl) (am_rs rfl (ok_iadd dd_80_44 rfl) (am_rs rfl (ok_pf dd_80_45 rfl am_ck5 (by decide) (Or.inl w_305) (Or.inl rfl) rfl) (am_rn rfl (am_rn rfl (am_rz))))))))
theorem kb_80_6 : am_row mi_80 48 kr_80_6 := am_rs rfl (ok_iconst dd_80_48 ic_1 rfl) (am_rs rfl (ok_zret dd_80_49 rfl) (am_rz))
theorem ck_80 : am_rows mi_80 0 cd_80 := am_bs rfl kb_80_0 (am_bs rfl kb_80_1 (am_bs rfl kb_80_2 (am_bs rfl kb_80_3 (am_bs rfl kb_80_4 (am_bs rfl kb_80_5 (am_bs rfl kb_80_6 (am_bz)))))))
/-- OverAndBack.undo()I -/
noncomputable def kr_81_0 : List (Option am_Op) := [some (am_ald0 0 1), some (am_gf 11 13 4), none, none, some (am_gf 4 1 7), none, none, some (am_br1 .ne 13 10)]
noncomputable def kr_81_1 : List (Option am_Op) := [none, none, some (am_psh (.retAddr 4294967294) 12), none, some (am_iret), some (am_ald0 0 14), some (am_gf 11 13 17), none]
noncomputable def kr_81_2 : List (Option am_Op) := [none, some (am_cv 82 0 4 20), none, none, some (am_ist 1 21), some (am_ild 1 22), some (am_psh (.retAddr 4294967295) 23), some (am_br2 .ne 36 26)]
noncomputable def kr_81_3 : List (Option am_Op) := [none, none, some (am_ald0 0 27), some (am_gf 11 12 30), none, none, some (am_cv 83 0 5 33), none]
noncomputable def kr_81_4 : List (Option am_Op) := [none, some (am_jmp 44), none, none, some (am_ald0 0 37), some (am_gf 11 12 40), none, none]
noncomputable def kr_81_5 : List (Option am_Op) := [some (am_ild 1 41), some (am_pf 5 3 0 44), none, none, some (am_ald0 0 45), some (am_gf 11 13 48), none, none]
noncomputable def kr_81_6 : List (Option am_Op) := [some (am_gf 4 1 51), none, none, some (am_iret)]
noncomputable def cd_81 : am_Cd := [kr_81_0, kr_81_1, kr_81_2, kr_81_3, kr_81_4, kr_81_5, kr_81_6]
theorem dd_81_0 : decode prog_1_method_12_code 0 = .ok (.aload_n 0, 1) := by decide +kernel
theorem dd_81_1 : decode prog_1_method_12_code 1 = .ok (.getfield 91, 3) := by decide +kernel
theorem dd_81_4 : decode prog_1_method_12_code 4 = .ok (.getfield 192, 3) := by decide +kernel
theorem dd_81_7 : decode prog_1_method_12_code 7 = .ok (.ifCond .ne 6, 3) := by decide +kernel
theorem dd_81_10 : decode prog_1_method_12_code 10 = .ok (.bipush (-2), 2) := by decide +kernel
theorem dd_81_12 : decode prog_1_method_12_code 12 = .ok (.ireturn, 1) := by decide +kernel
theorem dd_81_13 : decode prog_1_method_12_code 13 = .ok (.aload_n 0, 1) := by decide +kernel
theorem dd_81_14 : decode prog_1_method_12_code 14 = .ok (.getfield 91, 3) := by decide +kernel
theorem dd_81_17 : decode prog_1_method_12_code 17 = .ok (.invokevirtual 193, 3) := by decide +kernel
theorem dd_81_20 : decode prog_1_method_12_code 20 = .ok (.istore_n 1, 1) := by decide +kernel
theorem dd_81_21 : decode prog_1_method_12_code 21 = .ok (.iload_n 1, 1) := by decide +kernel
theorem dd_81_22 : decode prog_1_method_12_code 22 = .ok (.iconst (-1), 1) := by decide +kernel
theorem dd_81_23 : decode prog_1_method_12_code 23 = .ok (.if_icmp .ne 13, 3) := by decide +kernel
theorem dd_81_26 : decode prog_1_method_12_code 26 = .ok (.aload_n 0, 1) := by decide +kernel
theorem dd_81_27 : decode prog_1_method_12_code 27 = .ok (.getfield 84, 3) := by decide +kernel
theorem dd_81_30 : decode prog_1_method_12_code 30 = .ok (.invokevirtual 197, 3) := by decide +kernel
theorem dd_81_33 : decode prog_1_method_12_code 33 = .ok (.goto 11, 3) := by decide +kernel
theorem dd_81_36 : decode prog_1_method_12_code 36 = .ok (.aload_n 0, 1) := by decide +kernel
theorem dd_81_37 : decode prog_1_method_12_code 37 = .ok (.getfield 84, 3) := by decide +kernel
theorem dd_81_40 : decode prog_1_method_12_code 40 = .ok (.iload_n 1, 1) := by decide +kernel
theorem dd_81_41 : decode prog_1_method_12_code 41 = .ok (.putfield 181, 3) := by decide +kernel
theorem dd_81_44 : decode prog_1_method_12_code 44 = .ok (.aload_n 0, 1) := by decide +kernel
theorem dd_81_45 : decode prog_1_method_12_code 45 = .ok (.getfield 91, 3) := by decide +kernel
theorem dd_81_48 : decode prog_1_method_12_code 48 = .ok (.getfield 192, 3) := by decide +kernel
theorem dd_81_51 : decode prog_1_method_12_code 51 = .ok (.ireturn, 1) := by decide +kernel
theorem kb_81_0 : am_row mi_81 0 kr_81_0 := am_rs rfl (ok_aload_n (k := 0) dd_81_0 rfl rfl) (am_rs rfl (ok_gf dd_81_1 rfl am_ck11 (by decide) (Or.inl w_524)) (am_rn rfl (am_rn rfl (am_rs rfl (ok_gf dd_81_4 rfl am_ck4 (by decide) (Or.inr ⟨_, w_328⟩)) (am_rn rfl (am_rn rfl (am_rs rfl (ok_ifc dd_81_7 (by decide) rfl) (am_rz))))))))
theorem kb_81_1 : am_row mi_81 8 kr_81_1 := am_rn rfl (am_rn rfl (am_rs rfl (ok_bipush dd_81_10 bi_m2 rfl) (am_rn rfl (am_rs rfl (ok_iret dd_81_12 rfl) (am_rs rfl (ok_aload_n (k := 0) dd_81_13 rfl rfl) (am_rs rfl (ok_gf dd_81_14 rfl am_ck11 (by decide) (Or.inl w_524)) (am_rn rfl (am_rz))))))))
theorem kb_81_2 : am_row mi_81 16 kr_81_2 := am_rn rfl (am_rs rfl (ok_cv (M' := mi_82) dd_81_17 rfl rfl w_714 w_715 w_716 ⟨lk_82.1, lk_82.2.1, lk_82.2.2, by decide, by decide⟩ rfl) (am_rn rfl (am_rn rfl (am_rs rfl (ok_istore_n (k := 1) dd_81_20 rfl rfl (by decide)) (am_rs rfl (ok_iload_n (k := 1) dd_81_21 rfl rfl) (am_rs rfl (ok_iconst dd_81_22 ic_m1 rfl) (am_rs rfl (ok_icmp dd_81_23 (by decide) rfl) (am_rz))))))))
theorem kb_81_3 : am_row mi_81 24 kr_81_3 := am_rn rfl (am_rn rfl (am_rs rfl (ok_aload_n (k := 0) dd_81_26 rfl rfl) (am_rs rfl (ok_gf dd_81_27 rfl am_ck11 (by decide) (Or.inl w_523)) (am_rn rfl (am_rn rfl (am_rs rfl (ok_cv (M' := mi_83) dd_81_30 rfl rfl w_718 w_719 w_720 ⟨lk_83.1, lk_83.2.1, lk_83.2.2, by decide, by decide⟩ rfl) (am_rn rfl (am_rz))))))))
theorem kb_81_4 : am_row mi_81 32 kr_81_4 := am_rn rfl (am_rs rfl (ok_goto dd_81_33 (by decide)) (am_rn rfl (am_rn rfl (am_rs rfl (ok_aload_n (k := 0) dd_81_36 rfl rfl) (am_rs rfl (ok_gf dd_81_37 rfl am_ck11 (by decide) (Or.inl w_523)) (am_rn rfl (am_rn rfl (am_rz))))))))
theorem kb_81_5 : am_row mi_81 40 kr_81_5 := am_rs rfl (ok_iload_n (k := 1) dd_81_40 rfl rfl) (am_rs rfl (ok_pf dd_81_41 rfl am_ck5 (by decide) (Or.inr ⟨_, w_310⟩) (Or.inl rfl) rfl) (am_rn rfl (am_rn rfl (am_rs rfl (ok_aload_n (k := 0) dd_81_44 rfl rfl) (am_rs rfl (ok_gf dd_81_45 rfl am_ck11 (by decide) (Or.inl w_524)) (am_rn rfl (am_rn rfl (am_rz))))))))
theorem kb_81_6 : am_row mi_81 48 kr_81_6 := am_rs rfl (ok_gf dd_81_48 rfl am_ck4 (by decide) (Or.inr ⟨_, w_328⟩)) (am_rn rfl (am_rn rfl (am_rs rfl (ok_iret dd_81_51 rfl) (am_rz))))
theorem ck_81 : am_rows mi_81 0 cd_81 := am_bs rfl kb_81_0 (am_bs rfl kb_81_1 (am_bs rfl kb_81_2 (am_bs rfl kb_81_3 (am_bs rfl kb_81_4 (am_bs rfl kb_81_5 (am_bs rfl kb_81_6 (am_bz)))))))
/-- OverAndBack$Past.pop()I -/
noncomputable def kr_82_0 : List (Option am_Op) := [some (am_ald0 0 1), some (am_gf 4 1 4), none, none, some (am_br1 .le 16 7), none, none, some (am_ald0 0 8)]
noncomputable def kr_82_1 : List (Option am_Op) := [some (am_gf 4 1 11), none, none, some (am_psh (.retAddr 8) 13), none, some (am_br2 .le 18 16), none, none]
noncomputable def kr_82_2 : List (Option am_Op) := [some (am_psh (.retAddr 4294967295) 17), some (am_iret), some (am_ald0 0 19), some (am_dup 20), some (am_gf 4 1 23), none, none, some (am_psh (.retAddr 1) 24)]
noncomputable def kr_82_3 : List (Option am_Op) := [some (am_bin am_sub 25), some (am_pf 4 1 0 28), none, none, some (am_ald0 0 29), some (am_gf 4 0 32), none, none]
noncomputable def kr_82_4 : List (Option am_Op) := [some (am_ald0 0 33), some (am_gf 4 1 36), none, none, some (am_ald 0 37), some (am_iret)]
noncomputable def cd_82 : am_Cd := [kr_82_0, kr_82_1, kr_82_2, kr_82_3, kr_82_4]
theorem dd_82_0 : decode prog_6_method_4_code 0 = .ok (.aload_n 0, 1) := by decide +kernel
theorem dd_82_1 : decode prog_6_method_4_code 1 = .ok (.getfield 15, 3) := by decide +kernel
theorem dd_82_4 : decode prog_6_method_4_code 4 = .ok (.ifCond .le 12, 3) := by decide +kernel
theorem dd_82_7 : decode prog_6_method_4_code 7 = .ok (.aload_n 0, 1) := by decide +kernel
theorem dd_82_8 : decode prog_6_method_4_code 8 = .ok (.getfield 15, 3) := by decide +kernel
theorem dd_82_11 : decode prog_6_method_4_code 11 = .ok (.bipush 8, 2) := by decide +kernel
theorem dd_82_13 : decode prog_6_method_4_code 13 = .ok (.if_icmp .le 5, 3) := by decide +kernel
theorem dd_82_16 : decode prog_6_method_4_code 16 = .ok (.iconst (-1), 1) := by decide +kernel
theorem dd_82_17 : decode prog_6_method_4_code 17 = .ok (.ireturn, 1) := by decide +kernel
theorem dd_82_18 : decode prog_6_method_4_code 18 = .ok (.aload_n 0, 1) := by decide +kernel
theorem dd_82_19 : decode prog_6_method_4_code 19 = .ok (.dup, 1) := by decide +kernel
theorem dd_82_20 : decode prog_6_method_4_code 20 = .ok (.getfield 15, 3) := by decide +kernel
theorem dd_82_23 : decode prog_6_method_4_code 23 = .ok (.iconst 1, 1) := by decide +kernel
theorem dd_82_24 : decode prog_6_method_4_code 24 = .ok (.isub, 1) := by decide +kernel
theorem dd_82_25 : decode prog_6_method_4_code 25 = .ok (.putfield 15, 3) := by decide +kernel
theorem dd_82_28 : decode prog_6_method_4_code 28 = .ok (.aload_n 0, 1) := by decide +kernel
theorem dd_82_29 : decode prog_6_method_4_code 29 = .ok (.getfield 9, 3) := by decide +kernel
theorem dd_82_32 : decode prog_6_method_4_code 32 = .ok (.aload_n 0, 1) := by decide +kernel
theorem dd_82_33 : decode prog_6_method_4_code 33 = .ok (.getfield 15, 3) := by decide +kernel
theorem dd_82_36 : decode prog_6_method_4_code 36 = .ok (.iaload, 1) := by decide +kernel
theorem dd_82_37 : decode prog_6_method_4_code 37 = .ok (.ireturn, 1) := by decide +kernel
theorem kb_82_0 : am_row mi_82 0 kr_82_0 := am_rs rfl (ok_aload_n (k := 0) dd_82_0 rfl rfl) (am_rs rfl (ok_gf dd_82_1 rfl am_ck4 (by decide) (Or.inl w_327)) (am_rn rfl (am_rn rfl (am_rs rfl (ok_ifc dd_82_4 (by decide) rfl) (am_rn rfl (am_rn rfl (am_rs rfl (ok_aload_n (k := 0) dd_82_7 rfl rfl) (am_rz))))))))
theorem kb_82_1 : am_row mi_82 8 kr_82_1 := am_rs rfl (ok_gf dd_82_8 rfl am_ck4 (by decide) (Or.inl w_327)) (am_rn rfl (am_rn rfl (am_rs rfl (ok_bipush dd_82_11 bi_8 rfl) (am_rn rfl (am_rs rfl (ok_icmp dd_82_13 (by decide) rfl) (am_rn rfl (am_rn rfl (am_rz))))))))
theorem kb_82_2 : am_row mi_82 16 kr_82_2 := am_rs rfl (ok_iconst dd_82_16 ic_m1 rfl) (am_rs rfl (ok_iret dd_82_17 rfl) (am_rs rfl (ok_aload_n (k := 0) dd_82_18 rfl rfl) (am_rs rfl (ok_dup dd_82_19 rfl) (am_rs rfl (ok_gf dd_82_20 rfl am_ck4 (by decide) (Or.inl w_327)) (am_rn rfl (am_rn rfl (am_rs rfl (ok_iconst dd_82_23 ic_1 rfl) (am_rz))))))))
theorem kb_82_3 : am_row mi_82 24 kr_82_3 := am_rs rfl (ok_isub dd_82_24 rfl) (am_rs rfl (ok_pf dd_82_25 rfl am_ck4 (by decide) (Or.inl w_327) (Or.inl rfl) rfl) (am_rn rfl (am_rn rfl (am_rs rfl (ok_aload_n (k := 0) dd_82_28 rfl rfl) (am_rs rfl (ok_gf dd_82_29 rfl am_ck4 (by decide) (Or.inl w_326)) (am_rn rfl (am_rn rfl (am_rz))))))))
theorem kb_82_4 : am_row mi_82 32 kr_82_4 := am_rs rfl (ok_aload_n (k := 0) dd_82_32 rfl rfl) (am_rs rfl (ok_gf dd_82_33 rfl am_ck4 (by decide) (Or.inl w_327)) (am_rn rfl (am_rn rfl (am_rs rfl (ok_iald dd_82_36 rfl) (am_rs rfl (ok_iret dd_82_37 rfl) (am_rz))))))
theorem ck_82 : am_rows mi_82 0 cd_82 := am_bs rfl kb_82_0 (am_bs rfl kb_82_1 (am_bs rfl kb_82_2 (am_bs rfl kb_82_3 (am_bs rfl kb_82_4 (am_bz)))))
/-- OverAndBack$Plan.dropLast()V -/
noncomputable def kr_83_0 : List (Option am_Op) := [some (am_ald0 0 1), some (am_psh (.retAddr 0) 2), some (am_ald0 0 3), some (am_gf 5 2 6), none, none, some (am_psh (.retAddr 1) 7), some (am_bin am_sub 8)]
noncomputable def kr_83_1 : List (Option am_Op) := [some (am_mmax 11), none, none, some (am_pf 5 2 0 14), none, none, some (am_vret)]
noncomputable def cd_83 : am_Cd := [kr_83_0, kr_83_1]
theorem dd_83_0 : decode prog_7_method_4_code 0 = .ok (.aload_n 0, 1) := by decide +kernel
theorem dd_83_1 : decode prog_7_method_4_code 1 = .ok (.iconst 0, 1) := by decide +kernel
theorem dd_83_2 : decode prog_7_method_4_code 2 = .ok (.aload_n 0, 1) := by decide +kernel
theorem dd_83_3 : decode prog_7_method_4_code 3 = .ok (.getfield 18, 3) := by decide +kernel
theorem dd_83_6 : decode prog_7_method_4_code 6 = .ok (.iconst 1, 1) := by decide +kernel
theorem dd_83_7 : decode prog_7_method_4_code 7 = .ok (.isub, 1) := by decide +kernel
theorem dd_83_8 : decode prog_7_method_4_code 8 = .ok (.invokestatic 25, 3) := by decide +kernel
theorem dd_83_11 : decode prog_7_method_4_code 11 = .ok (.putfield 18, 3) := by decide +kernel
theorem dd_83_14 : decode prog_7_method_4_code 14 = .ok (.return_, 1) := by decide +kernel
theorem kb_83_0 : am_row mi_83 0 kr_83_0 := am_rs rfl (ok_aload_n (k := 0) dd_83_0 rfl rfl) (am_rs rfl (ok_iconst dd_83_1 ic_0 rfl) (am_rs rfl (ok_aload_n (k := 0) dd_83_2 rfl rfl) (am_rs rfl (ok_gf dd_83_3 rfl am_ck5 (by decide) (Or.inl w_305)) (am_rn rfl (am_rn rfl (am_rs rfl (ok_iconst dd_83_6 ic_1 rfl) (am_rs rfl (ok_isub dd_83_7 rfl) (am_rz))))))))
theorem kb_83_1 : am_row mi_83 8 kr_83_1 := am_rs rfl (ok_mmax dd_83_8 rfl w_722 w_409 w_18 w_410 ⟨by decide, by decide⟩) (am_rn rfl (am_rn rfl (am_rs rfl (ok_pf dd_83_11 rfl am_ck5 (by decide) (Or.inl w_305) (Or.inl rfl) rfl) (am_rn rfl (am_rn rfl (am_rs rfl (ok_vret dd_83_14 rfl) (am_rz)))))))
theorem ck_83 : am_rows mi_83 0 cd_83 := am_bs rfl kb_83_0 (am_bs rfl kb_83_1 (am_bz))
/-- OverAndBack.judge()I -/
noncomputable def kr_84_0 : List (Option am_Op) := [some (am_ald0 0 1), some (am_gf 11 8 4), none, none, some (am_ald0 0 5), some (am_gf 11 12 8), none, none]
noncomputable def kr_84_1 : List (Option am_Op) := [some (am_ald0 0 9), some (am_gf 11 3 12), none, none, some (am_gf 1 7 15), none, none, some (am_cv 62 2 10 18)]
noncomputable def kr_84_2 : List (Option am_Op) := [none, none, some (am_iret)]
noncomputable def cd_84 : am_Cd := [kr_84_0, kr_84_1, kr_84_2]
theorem dd_84_0 : decode prog_1_method_13_code 0 = .ok (.aload_n 0, 1) := by decide +kernel
theorem dd_84_1 : decode prog_1_method_13_code 1 = .ok (.getfield 54, 3) := by decide +kernel
theorem dd_84_4 : decode prog_1_method_13_code 4 = .ok (.aload_n 0, 1) := by decide +kernel
theorem dd_84_5 : decode prog_1_method_13_code 5 = .ok (.getfield 84, 3) := by decide +kernel
theorem dd_84_8 : decode prog_1_method_13_code 8 = .ok (.aload_n 0, 1) := by decide +kernel
theorem dd_84_9 : decode prog_1_method_13_code 9 = .ok (.getfield 27, 3) := by decide +kernel
theorem dd_84_12 : decode prog_1_method_13_code 12 = .ok (.getfield 200, 3) := by decide +kernel
theorem dd_84_15 : decode prog_1_method_13_code 15 = .ok (.invokevirtual 203, 3) := by decide +kernel
theorem dd_84_18 : decode prog_1_method_13_code 18 = .ok (.ireturn, 1) := by decide +kernel
theorem kb_84_0 : am_row mi_84 0 kr_84_0 := am_rs rfl (ok_aload_n (k := 0) dd_84_0 rfl rfl) (am_rs rfl (ok_gf dd_84_1 rfl am_ck11 (by decide) (Or.inl w_519)) (am_rn rfl (am_rn rfl (am_rs rfl (ok_aload_n (k := 0) dd_84_4 rfl rfl) (am_rs rfl (ok_gf dd_84_5 rfl am_ck11 (by decide) (Or.inl w_523)) (am_rn rfl (am_rn rfl (am_rz))))))))
theorem kb_84_1 : am_row mi_84 8 kr_84_1 := am_rs rfl (ok_aload_n (k := 0) dd_84_8 rfl rfl) (am_rs rfl (ok_gf dd_84_9 rfl am_ck11 (by decide) (Or.inl w_514)) (am_rn rfl (am_rn rfl (am_rs rfl (ok_gf dd_84_12 rfl am_ck1 (by decide) (Or.inr ⟨_, w_119⟩)) (am_rn rfl (am_rn rfl (am_rs rfl (ok_cv (M' := mi_62) dd_84_15 rfl rfl w_727 w_629 w_630 ⟨lk_62.1, lk_62.2.1, lk_62.2.2, by decide, by decide⟩ rfl) (am_rz))))))))
theorem kb_84_2 : am_row mi_84 16 kr_84_2 := am_rn rfl (am_rn rfl (am_rs rfl (ok_iret dd_84_18 rfl) (am_rz)))
theorem ck_84 : am_rows mi_84 0 cd_84 := am_bs rfl kb_84_0 (am_bs rfl kb_84_1 (am_bs rfl kb_84_2 (am_bz)))
/-- OverAndBack.plan(I)I -/
noncomputable def kr_85_0 : List (Option am_Op) := [some (am_ild 1 1), some (am_br1 .lt 9 4), none, none, some (am_ild 1 5), some (am_psh (.retAddr 2) 6), some (am_br2 .le 11 9), none]
noncomputable def kr_85_1 : List (Option am_Op) := [none, some (am_psh (.retAddr 4294967295) 10), some (am_iret), some (am_ald0 0 12), some (am_psh (.retAddr 4294967295) 13), some (am_ald0 0 14), some (am_gf 11 6 17), none]
noncomputable def kr_85_2 : List (Option am_Op) := [none, some (am_cv 60 2 11 20), none, none, some (am_ild 1 21), some (am_lsw 48 56 71), none, none]
noncomputable def kr_85_3 : List (Option am_Op) := [none, none, none, none, none, none, none, none]
noncomputable def kr_85_4 : List (Option am_Op) := [none, none, none, none, none, none, none, none]
noncomputable def kr_85_5 : List (Option am_Op) := [none, none, none, none, none, none, none, none]
noncomputable def kr_85_6 : List (Option am_Op) := [some (am_ald0 0 49), some (am_gf 11 8 52), none, none, some (am_gf 10 4 55), none, none, some (am_iret)]
noncomputable def kr_85_7 : List (Option am_Op) := [some (am_ald0 0 57), some (am_gf 11 5 60), none, none, some (am_ald0 0 61), some (am_gf 11 8 64), none, none]
noncomputable def kr_85_8 : List (Option am_Op) := [some (am_gf 10 5 67), none, none, some (am_cv 57 1 2 70), none, none, some (am_iret), some (am_ald0 0 72)]
noncomputable def kr_85_9 : List (Option am_Op) := [some (am_gf 11 8 75), none, none, some (am_gf 10 6 78), none, none, some (am_iret)]
noncomputable def cd_85 : am_Cd := [kr_85_0, kr_85_1, kr_85_2, kr_85_3, kr_85_4, kr_85_5, kr_85_6, kr_85_7, kr_85_8, kr_85_9]
theorem dd_85_0 : decode prog_1_method_14_code 0 = .ok (.iload_n 1, 1) := by decide +kernel
theorem dd_85_1 : decode prog_1_method_14_code 1 = .ok (.ifCond .lt 8, 3) := by decide +kernel
theorem dd_85_4 : decode prog_1_method_14_code 4 = .ok (.iload_n 1, 1) := by decide +kernel
theorem dd_85_5 : decode prog_1_method_14_code 5 = .ok (.iconst 2, 1) := by decide +kernel
theorem dd_85_6 : decode prog_1_method_14_code 6 = .ok (.if_icmp .le 5, 3) := by decide +kernel
theorem dd_85_9 : decode prog_1_method_14_code 9 = .ok (.iconst (-1), 1) := by decide +kernel
theorem dd_85_10 : decode prog_1_method_14_code 10 = .ok (.ireturn, 1) := by decide +kernel
theorem dd_85_11 : decode prog_1_method_14_code 11 = .ok (.aload_n 0, 1) := by decide +kernel
theorem dd_85_12 : decode prog_1_method_14_code 12 = .ok (.iconst (-1), 1) := by decide +kernel
theorem dd_85_13 : decode prog_1_method_14_code 13 = .ok (.aload_n 0, 1) := by decide +kernel
theorem dd_85_14 : decode prog_1_method_14_code 14 = .ok (.getfield 44, 3) := by decide +kernel
theorem dd_85_17 : decode prog_1_method_14_code 17 = .ok (.invokevirtual 156, 3) := by decide +kernel
theorem dd_85_20 : decode prog_1_method_14_code 20 = .ok (.iload_n 1, 1) := by decide +kernel
theorem dd_85_21 : decode prog_1_method_14_code 21 = .ok (.lookupswitch 50 #[(0, 27), (1, 35)], 27) := by decide +kernel
theorem dd_85_48 : decode prog_1_method_14_code 48 = .ok (.aload_n 0, 1) := by decide +kernel
theorem dd_85_49 : decode prog_1_method_14_code 49 = .ok (.getfield 54, 3) := by decide +kernel
theorem dd_85_52 : decode prog_1_method_14_code 52 = .ok (.getfield 166, 3) := by decide +kernel
theorem dd_85_55 : decode prog_1_method_14_code 55 = .ok (.ireturn, 1) := by decide +kernel
theorem dd_85_56 : decode prog_1_method_14_code 56 = .ok (.aload_n 0, 1) := by decide +kernel
theorem dd_85_57 : decode prog_1_method_14_code 57 = .ok (.getfield 37, 3) := by decide +kernel
theorem dd_85_60 : decode prog_1_method_14_code 60 = .ok (.aload_n 0, 1) := by decide +kernel
theorem dd_85_61 : decode prog_1_method_14_code 61 = .ok (.getfield 54, 3) := by decide +kernel
theorem dd_85_64 : decode prog_1_method_14_code 64 = .ok (.getfield 169, 3) := by decide +kernel
theorem dd_85_67 : decode prog_1_method_14_code 67 = .ok (.invokevirtual 149, 3) := by decide +kernel
theorem dd_85_70 : decode prog_1_method_14_code 70 = .ok (.ireturn, 1) := by decide +kernel
theorem dd_85_71 : decode prog_1_method_14_code 71 = .ok (.aload_n 0, 1) := by decide +kernel
theorem dd_85_72 : decode prog_1_method_14_code 72 = .ok (.getfield 54, 3) := by decide +kernel
theorem dd_85_75 : decode prog_1_method_14_code 75 = .ok (.getfield 172, 3) := by decide +kernel
theorem dd_85_78 : decode prog_1_method_14_code 78 = .ok (.ireturn, 1) := by decide +kernel
theorem kb_85_0 : am_row mi_85 0 kr_85_0 := am_rs rfl (ok_iload_n (k := 1) dd_85_0 rfl rfl) (am_rs rfl (ok_ifc dd_85_1 (by decide) rfl) (am_rn rfl (am_rn rfl (am_rs rfl (ok_iload_n (k := 1) dd_85_4 rfl rfl) (am_rs rfl (ok_iconst dd_85_5 ic_2 rfl) (am_rs rfl (ok_icmp dd_85_6 (by decide) rfl) (am_rn rfl (am_rz))))))))
theorem kb_85_1 : am_row mi_85 8 kr_85_1 := am_rn rfl (am_rs rfl (ok_iconst dd_85_9 ic_m1 rfl) (am_rs rfl (ok_iret dd_85_10 rfl) (am_rs rfl (ok_aload_n (k := 0) dd_85_11 rfl rfl) (am_rs rfl (ok_iconst dd_85_12 ic_m1 rfl) (am_rs rfl (ok_aload_n (k := 0) dd_85_13 rfl rfl) (am_rs rfl (ok_gf dd_85_14 rfl am_ck11 (by decide) (Or.inl w_517)) (am_rn rfl (am_rz))))))))
theorem kb_85_2 : am_row mi_85 16 kr_85_2 := am_rn rfl (am_rs rfl (ok_cv (M' := mi_60) dd_85_17 rfl rfl w_620 w_622 ps_60 ⟨lk_60.1, lk_60.2.1, lk_60.2.2, by decide, by decide⟩ rfl) (am_rn rfl (am_rn rfl (am_rs rfl (ok_iload_n (k := 1) dd_85_20 rfl rfl) (am_rs rfl (ok_lsw dd_85_21 (by decide) (by decide) (by decide)) (am_rn rfl (am_rn rfl (am_rz))))))))
theorem kb_85_3 : am_row mi_85 24 kr_85_3 := am_rn rfl (am_rn rfl (am_rn rfl (am_rn rfl (am_rn rfl (am_rn rfl (am_rn rfl (am_rn rfl (am_rz))))))))
theorem kb_85_4 : am_row mi_85 32 kr_85_4 := am_rn rfl (am_rn rfl (am_rn rfl (am_rn rfl (am_rn rfl (am_rn rfl (am_rn rfl (am_rn rfl (am_rz))))))))
theorem kb_85_5 : am_row mi_85 40 kr_85_5 := am_rn rfl (am_rn rfl (am_rn rfl (am_rn rfl (am_rn rfl (am_rn rfl (am_rn rfl (am_rn rfl (am_rz))))))))
theorem kb_85_6 : am_row mi_85 48 kr_85_6 := am_rs rfl (ok_aload_n (k := 0) dd_85_48 rfl rfl) (am_rs rfl (ok_gf dd_85_49 rfl am_ck11 (by decide) (Or.inl w_519)) (am_rn rfl (am_rn rfl (am_rs rfl (ok_gf dd_85_52 rfl am_ck10 (by decide) (Or.inr ⟨_, w_174⟩)) (am_rn rfl (am_rn rfl (am_rs rfl (ok_iret dd_85_55 rfl) (am_rz))))))))
theorem kb_85_7 : am_row mi_85 56 kr_85_7 := am_rs rfl (ok_aload_n (k := 0) dd_85_56 rfl rfl) (am_rs rfl (ok_gf dd_85_57 rfl am_ck11 (by decide) (Or.inl w_516)) (am_rn rfl (am_rn rfl (am_rs rfl (ok_aload_n (k := 0) dd_85_60 rfl rfl) (am_rs rfl (ok_gf dd_85_61 rfl am_ck11 (by decide) (Or.inl w_519)) (am_rn rfl (am_rn rfl (am_rz))))))))
theorem kb_85_8 : am_row mi_85 64 kr_85_8 := am_rs rfl (ok_gf dd_85_64 rfl am_ck10 (by decide) (Or.inr ⟨_, w_176⟩)) (am_rn rfl (am_rn rfl (am_rs rfl (ok_cv (M' := mi_57) dd_85_67 rfl rfl w_608 w_609 w_610 ⟨lk_57.1, lk_57.2.1, lk_57.2.2, by decide, by decide⟩ rfl) (am_rn rfl (am_rn rfl (am_rs rfl (ok_iret dd_85_70 rfl) (am_rs rfl (ok_aload_n (k := 0) dd_85_71 rfl rfl) (am_rz))))))))
theorem kb_85_9 : am_row mi_85 72 kr_85_9 := am_rs rfl (ok_gf dd_85_72 rfl am_ck11 (by decide) (Or.inl w_519)) (am_rn rfl (am_rn rfl (am_rs rfl (ok_gf dd_85_75 rfl am_ck10 (by decide) (Or.inr ⟨_, w_178⟩)) (am_rn rfl (am_rn rfl (am_rs rfl (ok_iret dd_85_78 rfl) (am_rz)))))))
theorem ck_85 : am_rows mi_85 0 cd_85 := am_bs rfl kb_85_0 (am_bs rfl kb_85_1 (am_bs rfl kb_85_2 (am_bs rfl kb_85_3 (am_bs rfl kb_85_4 (am_bs rfl kb_85_5 (am_bs rfl kb_85_6 (am_bs rfl kb_85_7 (am_bs rfl kb_85_8 (am_bs rfl kb_85_9 (am_bz))))))))))
/-- OverAndBack.at(I)I -/
noncomputable def kr_86_0 : List (Option am_Op) := [some (am_ald0 0 1), some (am_ild 1 2), some (am_cv 52 1 11 5), none, none, some (am_br1 .ne 10 8), none, none]
noncomputable def kr_86_1 : List (Option am_Op) := [some (am_psh (.retAddr 4294967295) 9), some (am_iret), some (am_ald0 0 11), some (am_psh (.retAddr 4294967295) 12), some (am_ald0 0 13), some (am_gf 11 6 16), none, none]
noncomputable def kr_86_2 : List (Option am_Op) := [some (am_cv 60 2 11 19), none, none, some (am_ald0 0 20), some (am_gf 11 8 23), none, none, some (am_ild 1 24)]
noncomputable def kr_86_3 : List (Option am_Op) := [some (am_cv 76 1 10 27), none, none, some (am_iret)]
noncomputable def cd_86 : am_Cd := [kr_86_0, kr_86_1, kr_86_2, kr_86_3]
theorem dd_86_0 : decode prog_1_method_15_code 0 = .ok (.aload_n 0, 1) := by decide +kernel
theorem dd_86_1 : decode prog_1_method_15_code 1 = .ok (.iload_n 1, 1) := by decide +kernel
theorem dd_86_2 : decode prog_1_method_15_code 2 = .ok (.invokevirtual 132, 3) := by decide +kernel
theorem dd_86_5 : decode prog_1_method_15_code 5 = .ok (.ifCond .ne 5, 3) := by decide +kernel
theorem dd_86_8 : decode prog_1_method_15_code 8 = .ok (.iconst (-1), 1) := by decide +kernel
theorem dd_86_9 : decode prog_1_method_15_code 9 = .ok (.ireturn, 1) := by decide +kernel
theorem dd_86_10 : decode prog_1_method_15_code 10 = .ok (.aload_n 0, 1) := by decide +kernel
theorem dd_86_11 : decode prog_1_method_15_code 11 = .ok (.iconst (-1), 1) := by decide +kernel
theorem dd_86_12 : decode prog_1_method_15_code 12 = .ok (.aload_n 0, 1) := by decide +kernel
theorem dd_86_13 : decode prog_1_method_15_code 13 = .ok (.getfield 44, 3) := by decide +kernel
theorem dd_86_16 : decode prog_1_method_15_code 16 = .ok (.invokevirtual 156, 3) := by decide +kernel
theorem dd_86_19 : decode prog_1_method_15_code 19 = .ok (.aload_n 0, 1) := by decide +kernel
theorem dd_86_20 : decode prog_1_method_15_code 20 = .ok (.getfield 54, 3) := by decide +kernel
theorem dd_86_23 : decode prog_1_method_15_code 23 = .ok (.iload_n 1, 1) := by decide +kernel
theorem dd_86_24 : decode prog_1_method_15_code 24 = .ok (.invokevirtual 178, 3) := by decide +kernel
theorem dd_86_27 : decode prog_1_method_15_code 27 = .ok (.ireturn, 1) := by decide +kernel
theorem kb_86_0 : am_row mi_86 0 kr_86_0 := am_rs rfl (ok_aload_n (k := 0) dd_86_0 rfl rfl) (am_rs rfl (ok_iload_n (k := 1) dd_86_1 rfl rfl) (am_rs rfl (ok_cv (M' := mi_52) dd_86_2 rfl rfl w_588 w_590 ps_52 ⟨lk_52.1, lk_52.2.1, lk_52.2.2, by decide, by decide⟩ rfl) (am_rn rfl (am_rn rfl (am_rs rfl (ok_ifc dd_86_5 (by decide) rfl) (am_rn rfl (am_rn rfl (am_rz))))))))
theorem kb_86_1 : am_row mi_86 8 kr_86_1 := am_rs rfl (ok_iconst dd_86_8 ic_m1 rfl) (am_rs rfl (ok_iret dd_86_9 rfl) (am_rs rfl (ok_aload_n (k := 0) dd_86_10 rfl rfl) (am_rs rfl (ok_iconst dd_86_11 ic_m1 rfl) (am_rs rfl (ok_aload_n (k := 0) dd_86_12 rfl rfl) (am_rs rfl (ok_gf dd_86_13 rfl am_ck11 (by decide) (Or.inl w_517)) (am_rn rfl (am_rn rfl (am_rz))))))))
theorem kb_86_2 : am_row mi_86 16 kr_86_2 := am_rs rfl (ok_cv (M' := mi_60) dd_86_16 rfl rfl w_620 w_622 ps_60 ⟨lk_60.1, lk_60.2.1, lk_60.2.2, by decide, by decide⟩ rfl) (am_rn rfl (am_rn rfl (am_rs rfl (ok_aload_n (k := 0) dd_86_19 rfl rfl) (am_rs rfl (ok_gf dd_86_20 rfl am_ck11 (by decide) (Or.inl w_519)) (am_rn rfl (am_rn rfl (am_rs rfl (ok_iload_n (k := 1) dd_86_23 rfl rfl) (am_rz))))))))
theorem kb_86_3 : am_row mi_86 24 kr_86_3 := am_rs rfl (ok_cv (M' := mi_76) dd_86_24 rfl rfl w_689 w_690 w_691 ⟨lk_76.1, lk_76.2.1, lk_76.2.2, by decide, by decide⟩ rfl) (am_rn rfl (am_rn rfl (am_rs rfl (ok_iret dd_86_27 rfl) (am_rz))))
theorem ck_86 : am_rows mi_86 0 cd_86 := am_bs rfl kb_86_0 (am_bs rfl kb_86_1 (am_bs rfl kb_86_2 (am_bs rfl kb_86_3 (am_bz))))
/-- OverAndBack.most(III)I -/
noncomputable def kr_87_0 : List (Option am_Op) := [some (am_ald0 0 1), some (am_ild 1 2), some (am_cv 51 1 11 5), none, none, some (am_br1 .eq 25 8), none, none]
noncomputable def kr_87_1 : List (Option am_Op) := [some (am_ald0 0 9), some (am_ild 2 10), some (am_cv 52 1 11 13), none, none, some (am_br1 .eq 25 16), none, none]
noncomputable def kr_87_2 : List (Option am_Op) := [some (am_ild 3 17), some (am_br1 .lt 25 20), none, none, some (am_ild 3 21), some (am_psh (.retAddr 2) 22), some (am_br2 .le 27 25), none]
noncomputable def kr_87_3 : List (Option am_Op) := [none, some (am_psh (.retAddr 4294967295) 26), some (am_iret), some (am_ild 3 28), some (am_br1 .ne 41 31), none, none, some (am_ald0 0 32)]
noncomputable def kr_87_4 : List (Option am_Op) := [some (am_gf 11 9 35), none, none, some (am_ild 1 36), some (am_ild 2 37), some (am_cv 42 2 7 40), none, none]
noncomputable def kr_87_5 : List (Option am_Op) := [some (am_iret), some (am_ald0 0 42), some (am_gf 11 9 45), none, none, some (am_ald0 0 46), some (am_gf 11 3 49), none]
noncomputable def kr_87_6 : List (Option am_Op) := [none, some (am_ald0 0 50), some (am_gf 11 6 53), none, none, some (am_ild 1 54), some (am_ild 2 55), some (am_cv 88 4 7 58)]
noncomputable def kr_87_7 : List (Option am_Op) := [none, none, some (am_ild 3 59), some (am_psh (.retAddr 1) 60), some (am_br2 .ne 73 63), none, none, some (am_ald0 0 64)]
noncomputable def kr_87_8 : List (Option am_Op) := [some (am_gf 11 9 67), none, none, some (am_gf 7 2 70), none, none, some (am_jmp 80), none]
noncomputable def kr_87_9 : List (Option am_Op) := [none, some (am_ald0 0 74), some (am_gf 11 9 77), none, none, some (am_gf 7 3 80), none, none]
noncomputable def kr_87_10 : List (Option am_Op) := [some (am_iret)]
noncomputable def cd_87 : am_Cd := [kr_87_0, kr_87_1, kr_87_2, kr_87_3, kr_87_4, kr_87_5, kr_87_6, kr_87_7, kr_87_8, kr_87_9, kr_87_10]
theorem dd_87_0 : decode prog_1_method_16_code 0 = .ok (.aload_n 0, 1) := by decide +kernel
theorem dd_87_1 : decode prog_1_method_16_code 1 = .ok (.iload_n 1, 1) := by decide +kernel
theorem dd_87_2 : decode prog_1_method_16_code 2 = .ok (.invokevirtual 128, 3) := by decide +kernel
theorem dd_87_5 : decode prog_1_method_16_code 5 = .ok (.ifCond .eq 20, 3) := by decide +kernel
theorem dd_87_8 : decode prog_1_method_16_code 8 = .ok (.aload_n 0, 1) := by decide +kernel
theorem dd_87_9 : decode prog_1_method_16_code 9 = .ok (.iload_n 2, 1) := by decide +kernel
theorem dd_87_10 : decode prog_1_method_16_code 10 = .ok (.invokevirtual 132, 3) := by decide +kernel
theorem dd_87_13 : decode prog_1_method_16_code 13 = .ok (.ifCond .eq 12, 3) := by decide +kernel
theorem dd_87_16 : decode prog_1_method_16_code 16 = .ok (.iload_n 3, 1) := by decide +kernel
theorem dd_87_17 : decode prog_1_method_16_code 17 = .ok (.ifCond .lt 8, 3) := by decide +kernel
theorem dd_87_20 : decode prog_1_method_16_code 20 = .ok (.iload_n 3, 1) := by decide +kernel
theorem dd_87_21 : decode prog_1_method_16_code 21 = .ok (.iconst 2, 1) := by decide +kernel
theorem dd_87_22 : decode prog_1_method_16_code 22 = .ok (.if_icmp .le 5, 3) := by decide +kernel
theorem dd_87_25 : decode prog_1_method_16_code 25 = .ok (.iconst (-1), 1) := by decide +kernel
theorem dd_87_26 : decode prog_1_method_16_code 26 = .ok (.ireturn, 1) := by decide +kernel
theorem dd_87_27 : decode prog_1_method_16_code 27 = .ok (.iload_n 3, 1) := by decide +kernel
theorem dd_87_28 : decode prog_1_method_16_code 28 = .ok (.ifCond .ne 13, 3) := by decide +kernel
theorem dd_87_31 : decode prog_1_method_16_code 31 = .ok (.aload_n 0, 1) := by decide +kernel
theorem dd_87_32 : decode prog_1_method_16_code 32 = .ok (.getfield 61, 3) := by decide +kernel
theorem dd_87_35 : decode prog_1_method_16_code 35 = .ok (.iload_n 1, 1) := by decide +kernel
theorem dd_87_36 : decode prog_1_method_16_code 36 = .ok (.iload_n 2, 1) := by decide +kernel
theorem dd_87_37 : decode prog_1_method_16_code 37 = .ok (.invokevirtual 175, 3) := by decide +kernel
theorem dd_87_40 : decode prog_1_method_16_code 40 = .ok (.ireturn, 1) := by decide +kernel
theorem dd_87_41 : decode prog_1_method_16_code 41 = .ok (.aload_n 0, 1) := by decide +kernel
theorem dd_87_42 : decode prog_1_method_16_code 42 = .ok (.getfield 61, 3) := by decide +kernel
theorem dd_87_45 : decode prog_1_method_16_code 45 = .ok (.aload_n 0, 1) := by decide +kernel
theorem dd_87_46 : decode prog_1_method_16_code 46 = .ok (.getfield 27, 3) := by decide +kernel
theorem dd_87_49 : decode prog_1_method_16_code 49 = .ok (.aload_n 0, 1) := by decide +kernel
theorem dd_87_50 : decode prog_1_method_16_code 50 = .ok (.getfield 44, 3) := by decide +kernel
theorem dd_87_53 : decode prog_1_method_16_code 53 = .ok (.iload_n 1, 1) := by decide +kernel
theorem dd_87_54 : decode prog_1_method_16_code 54 = .ok (.iload_n 2, 1) := by decide +kernel
theorem dd_87_55 : decode prog_1_method_16_code 55 = .ok (.invokevirtual 207, 3) := by decide +kernel
theorem dd_87_58 : decode prog_1_method_16_code 58 = .ok (.iload_n 3, 1) := by decide +kernel
theorem dd_87_59 : decode prog_1_method_16_code 59 = .ok (.iconst 1, 1) := by decide +kernel
theorem dd_87_60 : decode prog_1_method_16_code 60 = .ok (.if_icmp .ne 13, 3) := by decide +kernel
theorem dd_87_63 : decode prog_1_method_16_code 63 = .ok (.aload_n 0, 1) := by decide +kernel
theorem dd_87_64 : decode prog_1_method_16_code 64 = .ok (.getfield 61, 3) := by decide +kernel
theorem dd_87_67 : decode prog_1_method_16_code 67 = .ok (.getfield 211, 3) := by decide +kernel
theorem dd_87_70 : decode prog_1_method_16_code 70 = .ok (.goto 10, 3) := by decide +kernel
theorem dd_87_73 : decode prog_1_method_16_code 73 = .ok (.aload_n 0, 1) := by decide +kernel
theorem dd_87_74 : decode prog_1_method_16_code 74 = .ok (.getfield 61, 3) := by decide +kernel
theorem dd_87_77 : decode prog_1_method_16_code 77 = .ok (.getfield 214, 3) := by decide +kernel
theorem dd_87_80 : decode prog_1_method_16_code 80 = .ok (.ireturn, 1) := by decide +kernel
theorem kb_87_0 : am_row mi_87 0 kr_87_0 := am_rs rfl (ok_aload_n (k := 0) dd_87_0 rfl rfl) (am_rs rfl (ok_iload_n (k := 1) dd_87_1 rfl rfl) (am_rs rfl (ok_cv (M' := mi_51) dd_87_2 rfl rfl w_584 w_586 ps_51 ⟨lk_51.1, lk_51.2.1, lk_51.2.2, by decide, by decide⟩ rfl) (am_rn rfl (am_rn rfl (am_rs rfl (ok_ifc dd_87_5 (by decide) rfl) (am_rn rfl (am_rn rfl (am_rz))))))))
theorem kb_87_1 : am_row mi_87 8 kr_87_1 := am_rs rfl (ok_aload_n (k := 0) dd_87_8 rfl rfl) (am_rs rfl (ok_iload_n (k := 2) dd_87_9 rfl rfl) (am_rs rfl (ok_cv (M' := mi_52) dd_87_10 rfl rfl w_588 w_590 ps_52 ⟨lk_52.1, lk_52.2.1, lk_52.2.2, by decide, by decide⟩ rfl) (am_rn rfl (am_rn rfl (am_rs rfl (ok_ifc dd_87_13 (by decide) rfl) (am_rn rfl (am_rn rfl (am_rz))))))))
theorem kb_87_2 : am_row mi_87 16 kr_87_2 := am_rs rfl (ok_iload_n (k := 3) dd_87_16 rfl rfl) (am_rs rfl (ok_ifc dd_87_17 (by decide) rfl) (am_rn rfl (am_rn rfl (am_rs rfl (ok_iload_n (k := 3) dd_87_20 rfl rfl) (am_rs rfl (ok_iconst dd_87_21 ic_2 rfl) (am_rs rfl (ok_icmp dd_87_22 (by decide) rfl) (am_rn rfl (am_rz))))))))
theorem kb_87_3 : am_row mi_87 24 kr_87_3 := am_rn rfl (am_rs rfl (ok_iconst dd_87_25 ic_m1 rfl) (am_rs rfl (ok_iret dd_87_26 rfl) (am_rs rfl (ok_iload_n (k := 3) dd_87_27 rfl rfl) (am_rs rfl (ok_ifc dd_87_28 (by decide) rfl) (am_rn rfl (am_rn rfl (am_rs rfl (ok_aload_n (k := 0) dd_87_31 rfl rfl) (am_rz))))))))
theorem kb_87_4 : am_row mi_87 32 kr_87_4 := am_rs rfl (ok_gf dd_87_32 rfl am_ck11 (by decide) (Or.inl w_520)) (am_rn rfl (am_rn rfl (am_rs rfl (ok_iload_n (k := 1) dd_87_35 rfl rfl) (am_rs rfl (ok_iload_n (k := 2) dd_87_36 rfl rfl) (am_rs rfl (ok_cv (M' := mi_42) dd_87_37 rfl rfl w_684 w_495 w_496 ⟨lk_42.1, lk_42.2.1, lk_42.2.2, by decide, by decide⟩ rfl) (am_rn rfl (am_rn rfl (am_rz))))))))
theorem kb_87_5 : am_row mi_87 40 kr_87_5 := am_rs rfl (ok_iret dd_87_40 rfl) (am_rs rfl (ok_aload_n (k := 0) dd_87_41 rfl rfl) (am_rs rfl (ok_gf dd_87_42 rfl am_ck11 (by decide) (Or.inl w_520)) (am_rn rfl (am_rn rfl (am_rs rfl (ok_aload_n (k := 0) dd_87_45 rfl rfl) (am_rs rfl (ok_gf dd_87_46 rfl am_ck11 (by decide) (Or.inl w_514)) (am_rn rfl (am_rz))))))))
theorem kb_87_6 : am_row mi_87 48 kr_87_6 := am_rn rfl (am_rs rfl (ok_aload_n (k := 0) dd_87_49 rfl rfl) (am_rs rfl (ok_gf dd_87_50 rfl am_ck11 (by decide) (Or.inl w_517)) (am_rn rfl (am_rn rfl (am_rs rfl (ok_iload_n (k := 1) dd_87_53 rfl rfl) (am_rs rfl (ok_iload_n (k := 2) dd_87_54 rfl rfl) (am_rs rfl (ok_cv (M' := mi_88) dd_87_55 rfl rfl w_740 w_741 w_742 ⟨lk_88.1, lk_88.2.1, lk_88.2.2, by decide, by decide⟩ rfl) (am_rz))))))))
theorem kb_87_7 : am_row mi_87 56 kr_87_7 := am_rn rfl (am_rn rfl (am_rs rfl (ok_iload_n (k := 3) dd_87_58 rfl rfl) (am_rs rfl (ok_iconst dd_87_59 ic_1 rfl) (am_rs rfl (ok_icmp dd_87_60 (by decide) rfl) (am_rn rfl (am_rn rfl (am_rs rfl (ok_aload_n (k := 0) dd_87_63 rfl rfl) (am_rz))))))))
theorem kb_87_8 : am_row mi_87 64 kr_87_8 := am_rs rfl (ok_gf dd_87_64 rfl am_ck11 (by decide) (Or.inl w_520)) (am_rn rfl (am_rn rfl (am_rs rfl (ok_gf dd_87_67 rfl am_ck7 (by decide) (Or.inr ⟨_, w_203⟩)) (am_rn rfl (am_rn rfl (am_rs rfl (ok_goto dd_87_70 (by decide)) (am_rn rfl (am_rz))))))))
theorem kb_87_9 : am_row mi_87 72 kr_87_9 := am_rn rfl (am_rs rfl (ok_aload_n (k := 0) dd_87_73 rfl rfl) (am_rs rfl (ok_gf dd_87_74 rfl am_ck11 (by decide) (Or.inl w_520)) (am_rn rfl (am_rn rfl (am_rs rfl (ok_gf dd_87_77 rfl am_ck7 (by decide) (Or.inr ⟨_, w_205⟩)) (am_rn rfl (am_rn rfl (am_rz))))))))
theorem kb_87_10 : am_row mi_87 80 kr_87_10 := am_rs rfl (ok_iret dd_87_80 rfl) (am_rz)
theorem ck_87 : am_rows mi_87 0 cd_87 := am_bs rfl kb_87_0 (am_bs rfl kb_87_1 (am_bs rfl kb_87_2 (am_bs rfl kb_87_3 (am_bs rfl kb_87_4 (am_bs rfl kb_87_5 (am_bs rfl kb_87_6 (am_bs rfl kb_87_7 (am_bs rfl kb_87_8 (am_bs rfl kb_87_9 (am_bs rfl kb_87_10 (am_bz)))))))))))
/-- OverAndBack$Routes.findFirstGoing(LOverAndBack$Evening;LOverAndBack$Screen;II)V -/
noncomputable def kr_88_0 : List (Option am_Op) := [some (am_ald0 0 1), some (am_psh (.retAddr 4294967292) 3), none, some (am_pf 7 2 0 6), none, none, some (am_ald0 0 7), some (am_psh (.retAddr 4294967292) 9)]
noncomputable def kr_88_1 : List (Option am_Op) := [none, some (am_pf 7 3 0 12), none, none, some (am_ald0 0 13), some (am_ild 3 14), some (am_ild 4 16), none]
noncomputable def kr_88_2 : List (Option am_Op) := [some (am_cv 42 2 7 19), none, none, some (am_ist 5 21), none, some (am_ild 4 23), none, some (am_ist 6 25)]
noncomputable def kr_88_3 : List (Option am_Op) := [none, some (am_ild 6 27), none, some (am_ald0 0 28), some (am_gf 7 1 31), none, none, some (am_br2 .ge 84 34)]
noncomputable def kr_88_4 : List (Option am_Op) := [none, none, some (am_ald0 0 35), some (am_ald0 1 36), some (am_ald0 2 37), some (am_ild 3 38), some (am_ild 6 40), none]
noncomputable def kr_88_5 : List (Option am_Op) := [some (am_ild 5 42), none, some (am_cv 89 5 7 45), none, none, some (am_ist 7 47), none, some (am_ild 7 49)]
noncomputable def kr_88_6 : List (Option am_Op) := [none, some (am_psh (.retAddr 4294967292) 51), none, some (am_br2 .eq 66 54), none, none, some (am_ald0 0 55), some (am_ild 6 57)]
noncomputable def kr_88_7 : List (Option am_Op) := [none, some (am_pf 7 2 0 60), none, none, some (am_ald0 0 61), some (am_ild 7 63), none, some (am_pf 7 3 0 66)]
noncomputable def kr_88_8 : List (Option am_Op) := [none, none, some (am_ild 5 68), none, some (am_ald0 2 69), some (am_ild 3 70), some (am_ild 6 72), none]
noncomputable def kr_88_9 : List (Option am_Op) := [some (am_cv 41 2 9 75), none, none, some (am_bin am_sub 76), some (am_ist 5 78), none, some (am_inc 6 1 81), none]
noncomputable def kr_88_10 : List (Option am_Op) := [none, some (am_jmp 25), none, none, some (am_ild 5 86), none, some (am_br1 .ne 101 89), none]
noncomputable def kr_88_11 : List (Option am_Op) := [none, some (am_ald0 0 90), some (am_psh (.retAddr 4294967292) 92), none, some (am_pf 7 2 0 95), none, none, some (am_ald0 0 96)]
noncomputable def kr_88_12 : List (Option am_Op) := [some (am_psh (.retAddr 4294967292) 98), none, some (am_pf 7 3 0 101), none, none, some (am_vret)]
noncomputable def cd_88 : am_Cd := [kr_88_0, kr_88_1, kr_88_2, kr_88_3, kr_88_4, kr_88_5, kr_88_6, kr_88_7, kr_88_8, kr_88_9, kr_88_10, kr_88_11, kr_88_12]
theorem dd_88_0 : decode prog_9_method_4_code 0 = .ok (.aload_n 0, 1) := by decide +kernel
theorem dd_88_1 : decode prog_9_method_4_code 1 = .ok (.bipush (-4), 2) := by decide +kernel
theorem dd_88_3 : decode prog_9_method_4_code 3 = .ok (.putfield 19, 3) := by decide +kernel
theorem dd_88_6 : decode prog_9_method_4_code 6 = .ok (.aload_n 0, 1) := by decide +kernel
theorem dd_88_7 : decode prog_9_method_4_code 7 = .ok (.bipush (-4), 2) := by decide +kernel
theorem dd_88_9 : decode prog_9_method_4_code 9 = .ok (.putfield 22, 3) := by decide +kernel
theorem dd_88_12 : decode prog_9_method_4_code 12 = .ok (.aload_n 0, 1) := by decide +kernel
theorem dd_88_13 : decode prog_9_method_4_code 13 = .ok (.iload_n 3, 1) := by decide +kernel
theorem dd_88_14 : decode prog_9_method_4_code 14 = .ok (.iload 4, 2) := by decide +kernel
theorem dd_88_16 : decode prog_9_method_4_code 16 = .ok (.invokevirtual 47, 3) := by decide +kernel
theorem dd_88_19 : decode prog_9_method_4_code 19 = .ok (.istore 5, 2) := by decide +kernel
theorem dd_88_21 : decode prog_9_method_4_code 21 = .ok (.iload 4, 2) := by decide +kernel
theorem dd_88_23 : decode prog_9_method_4_code 23 = .ok (.istore 6, 2) := by decide +kernel
theorem dd_88_25 : decode prog_9_method_4_code 25 = .ok (.iload 6, 2) := by decide +kernel
theorem dd_88_27 : decode prog_9_method_4_code 27 = .ok (.aload_n 0, 1) := by decide +kernel
theorem dd_88_28 : decode prog_9_method_4_code 28 = .ok (.getfield 15, 3) := by decide +kernel
theorem dd_88_31 : decode prog_9_method_4_code 31 = .ok (.if_icmp .ge 53, 3) := by decide +kernel
theorem dd_88_34 : decode prog_9_method_4_code 34 = .ok (.aload_n 0, 1) := by decide +kernel
theorem dd_88_35 : decode prog_9_method_4_code 35 = .ok (.aload_n 1, 1) := by decide +kernel
theorem dd_88_36 : decode prog_9_method_4_code 36 = .ok (.aload_n 2, 1) := by decide +kernel
theorem dd_88_37 : decode prog_9_method_4_code 37 = .ok (.iload_n 3, 1) := by decide +kernel
theorem dd_88_38 : decode prog_9_method_4_code 38 = .ok (.iload 6, 2) := by decide +kernel
theorem dd_88_40 : decode prog_9_method_4_code 40 = .ok (.iload 5, 2) := by decide +kernel
theorem dd_88_42 : decode prog_9_method_4_code 42 = .ok (.invokevirtual 50, 3) := by decide +kernel
theorem dd_88_45 : decode prog_9_method_4_code 45 = .ok (.istore 7, 2) := by decide +kernel
theorem dd_88_47 : decode prog_9_method_4_code 47 = .ok (.iload 7, 2) := by decide +kernel
theorem dd_88_49 : decode prog_9_method_4_code 49 = .ok (.bipush (-4), 2) := by decide +kernel
theorem dd_88_51 : decode prog_9_method_4_code 51 = .ok (.if_icmp .eq 15, 3) := by decide +kernel
theorem dd_88_54 : decode prog_9_method_4_code 54 = .ok (.aload_n 0, 1) := by decide +kernel
theorem dd_88_55 : decode prog_9_method_4_code 55 = .ok (.iload 6, 2) := by decide +kernel
theorem dd_88_57 : decode prog_9_method_4_code 57 = .ok (.putfield 19, 3) := by decide +kernel
theorem dd_88_60 : decode prog_9_method_4_code 60 = .ok (.aload_n 0, 1) := by decide +kernel
theorem dd_88_61 : decode prog_9_method_4_code 61 = .ok (.iload 7, 2) := by decide +kernel
theorem dd_88_63 : decode prog_9_method_4_code 63 = .ok (.putfield 22, 3) := by decide +kernel
theorem dd_88_66 : decode prog_9_method_4_code 66 = .ok (.iload 5, 2) := by decide +kernel
theorem dd_88_68 : decode prog_9_method_4_code 68 = .ok (.aload_n 2, 1) := by decide +kernel
theorem dd_88_69 : decode prog_9_method_4_code 69 = .ok (.iload_n 3, 1) := by decide +kernel
theorem dd_88_70 : decode prog_9_method_4_code 70 = .ok (.iload 6, 2) := by decide +kernel
theorem dd_88_72 : decode prog_9_method_4_code 72 = .ok (.invokevirtual 54, 3) := by decide +kernel
theorem dd_88_75 : decode prog_9_method_4_code 75 = .ok (.isub, 1) := by decide +kernel
theorem dd_88_76 : decode prog_9_method_4_code 76 = .ok (.istore 5, 2) := by decide +kernel
theorem dd_88_78 : decode prog_9_method_4_code 78 = .ok (.iinc 6 1, 3) := by decide +kernel
theorem dd_88_81 : decode prog_9_method_4_code 81 = .ok (.goto (-56), 3) := by decide +kernel
theorem dd_88_84 : decode prog_9_method_4_code 84 = .ok (.iload 5, 2) := by decide +kernel
theorem dd_88_86 : decode prog_9_method_4_code 86 = .ok (.ifCond .ne 15, 3) := by decide +kernel
theorem dd_88_89 : decode prog_9_method_4_code 89 = .ok (.aload_n 0, 1) := by decide +kernel
theorem dd_88_90 : decode prog_9_method_4_code 90 = .ok (.bipush (-4), 2) := by decide +kernel
theorem dd_88_92 : decode prog_9_method_4_code 92 = .ok (.putfield 19, 3) := by decide +kernel
theorem dd_88_95 : decode prog_9_method_4_code 95 = .ok (.aload_n 0, 1) := by decide +kernel
theorem dd_88_96 : decode prog_9_method_4_code 96 = .ok (.bipush (-4), 2) := by decide +kernel
theorem dd_88_98 : decode prog_9_method_4_code 98 = .ok (.putfield 22, 3) := by decide +kernel
theorem dd_88_101 : decode prog_9_method_4_code 101 = .ok (.return_, 1) := by decide +kernel
theorem kb_88_0 : am_row mi_88 0 kr_88_0 := am_rs rfl (ok_aload_n (k := 0) dd_88_0 rfl rfl) (am_rs rfl (ok_bipush dd_88_1 bi_m4 rfl) (am_rn rfl (am_rs rfl (ok_pf dd_88_3 rfl am_ck7 (by decide) (Or.inl w_202) (Or.inl rfl) rfl) (am_rn rfl (am_rn rfl (am_rs rfl (ok_aload_n (k := 0) dd_88_6 rfl rfl) (am_rs rfl (ok_bipush dd_88_7 bi_m4 rfl) (am_rz))))))))
theorem kb_88_1 : am_row mi_88 8 kr_88_1 := am_rn rfl (am_rs rfl (ok_pf dd_88_9 rfl am_ck7 (by decide) (Or.inl w_204) (Or.inl rfl) rfl) (am_rn rfl (am_rn rfl (am_rs rfl (ok_aload_n (k := 0) dd_88_12 rfl rfl) (am_rs rfl (ok_iload_n (k := 3) dd_88_13 rfl rfl) (am_rs rfl (ok_iload dd_88_14 rfl) (am_rn rfl (am_rz))))))))
theorem kb_88_2 : am_row mi_88 16 kr_88_2 := am_rs rfl (ok_cv (M' := mi_42) dd_88_16 rfl rfl w_494 w_495 w_496 ⟨lk_42.1, lk_42.2.1, lk_42.2.2, by decide, by decide⟩ rfl) (am_rn rfl (am_rn rfl (am_rs rfl (ok_istore dd_88_19 rfl (by decide)) (am_rn rfl (am_rs rfl (ok_iload dd_88_21 rfl) (am_rn rfl (am_rs rfl (ok_istore dd_88_23 rfl (by decide)) (am_rz))))))))
theorem kb_88_3 : am_row mi_88 24 kr_88_3 := am_rn rfl (am_rs rfl (ok_iload dd_88_25 rfl) (am_rn rfl (am_rs rfl (ok_aload_n (k := 0) dd_88_27 rfl rfl) (am_rs rfl (ok_gf dd_88_28 rfl am_ck7 (by decide) (Or.inl w_201)) (am_rn rfl (am_rn rfl (am_rs rfl (ok_icmp dd_88_31 (by decide) rfl) (am_rz))))))))
theorem kb_88_4 : am_row mi_88 32 kr_88_4 := am_rn rfl (am_rn rfl (am_rs rfl (ok_aload_n (k := 0) dd_88_34 rfl rfl) (am_rs rfl (ok_aload_n (k := 1) dd_88_35 rfl rfl) (am_rs rfl (ok_aload_n (k := 2) dd_88_36 rfl rfl) (am_rs rfl (ok_iload_n (k := 3) dd_88_37 rfl rfl) (am_rs rfl (ok_iload dd_88_38 rfl) (am_rn rfl (am_rz))))))))
theorem kb_88_5 : am_row mi_88 40 kr_88_5 := am_rs rfl (ok_iload dd_88_40 rfl) (am_rn rfl (am_rs rfl (ok_cv (M' := mi_89) dd_88_42 rfl rfl w_744 w_746 ps_89 ⟨lk_89.1, lk_89.2.1, lk_89.2.2, by decide, by decide⟩ rfl) (am_rn rfl (am_rn rfl (am_rs rfl (ok_istore dd_88_45 rfl (by decide)) (am_rn rfl (am_rs rfl (ok_iload dd_88_47 rfl) (am_rz))))))))
theorem kb_88_6 : am_row mi_88 48 kr_88_6 := am_rn rfl (am_rs rfl (ok_bipush dd_88_49 bi_m4 rfl) (am_rn rfl (am_rs rfl (ok_icmp dd_88_51 (by decide) rfl) (am_rn rfl (am_rn rfl (am_rs rfl (ok_aload_n (k := 0) dd_88_54 rfl rfl) (am_rs rfl (ok_iload dd_88_55 rfl) (am_rz))))))))
theorem kb_88_7 : am_row mi_88 56 kr_88_7 := am_rn rfl (am_rs rfl (ok_pf dd_88_57 rfl am_ck7 (by decide) (Or.inl w_202) (Or.inl rfl) rfl) (am_rn rfl (am_rn rfl (am_rs rfl (ok_aload_n (k := 0) dd_88_60 rfl rfl) (am_rs rfl (ok_iload dd_88_61 rfl) (am_rn rfl (am_rs rfl (ok_pf dd_88_63 rfl am_ck7 (by decide) (Or.inl w_204) (Or.inl rfl) rfl) (am_rz))))))))
theorem kb_88_8 : am_row mi_88 64 kr_88_8 := am_rn rfl (am_rn rfl (am_rs rfl (ok_iload dd_88_66 rfl) (am_rn rfl (am_rs rfl (ok_aload_n (k := 2) dd_88_68 rfl rfl) (am_rs rfl (ok_iload_n (k := 3) dd_88_69 rfl rfl) (am_rs rfl (ok_iload dd_88_70 rfl) (am_rn rfl (am_rz))))))))
theorem kb_88_9 : am_row mi_88 72 kr_88_9 := am_rs rfl (ok_cv (M' := mi_41) dd_88_72 rfl rfl w_490 w_491 w_492 ⟨lk_41.1, lk_41.2.1, lk_41.2.2, by decide, by decide⟩ rfl) (am_rn rfl (am_rn rfl (am_rs rfl (ok_isub dd_88_75 rfl) (am_rs rfl (ok_istore dd_88_76 rfl (by decide)) (am_rn rfl (am_rs rfl (ok_iinc dd_88_78 ic_1 rfl (by decide)) (am_rn rfl (am_rz))))))))
theorem kb_88_10 : am_row mi_88 80 kr_88_10 := am_rn rfl (am_rs rfl (ok_goto dd_88_81 (by decide)) (am_rn rfl (am_rn rfl (am_rs rfl (ok_iload dd_88_84 rfl) (am_rn rfl (am_rs rfl (ok_ifc dd_88_86 (by decide) rfl) (am_rn rfl (am_rz))))))))
theorem kb_88_11 : am_row mi_88 88 kr_88_11 := am_rn rfl (am_rs rfl (ok_aload_n (k := 0) dd_88_89 rfl rfl) (am_rs rfl (ok_bipush dd_88_90 bi_m4 rfl) (am_rn rfl (am_rs rfl (ok_pf dd_88_92 rfl am_ck7 (by decide) (Or.inl w_202) (Or.inl rfl) rfl) (am_rn rfl (am_rn rfl (am_rs rfl (ok_aload_n (k := 0) dd_88_95 rfl rfl) (am_rz))))))))
theorem kb_88_12 : am_row mi_88 96 kr_88_12 := am_rs rfl (ok_bipush dd_88_96 bi_m4 rfl) (am_rn rfl (am_rs rfl (ok_pf dd_88_98 rfl am_ck7 (by decide) (Or.inl w_204) (Or.inl rfl) rfl) (am_rn rfl (am_rn rfl (am_rs rfl (ok_vret dd_88_101 rfl) (am_rz))))))
theorem ck_88 : am_rows mi_88 0 cd_88 := am_bs rfl kb_88_0 (am_bs rfl kb_88_1 (am_bs rfl kb_88_2 (am_bs rfl kb_88_3 (am_bs rfl kb_88_4 (am_bs rfl kb_88_5 (am_bs rfl kb_88_6 (am_bs rfl kb_88_7 (am_bs rfl kb_88_8 (am_bs rfl kb_88_9 (am_bs rfl kb_88_10 (am_bs rfl kb_88_11 (am_bs rfl kb_88_12 (am_bz)))))))))))))
/-- OverAndBack$Routes.goalWorth(LOverAndBack$Evening;LOverAndBack$Screen;III)I -/
noncomputable def kr_89_0 : List (Option am_Op) := [some (am_psh (.retAddr 0) 1), some (am_ist 6 3), none, some (am_ild 6 5), none, some (am_ald0 1 6), some (am_gf 1 0 9), none]
noncomputable def kr_89_1 : List (Option am_Op) := [none, some (am_gf 8 3 12), none, none, some (am_br2 .ge 48 15), none, none, some (am_ild 6 17)]
noncomputable def kr_89_2 : List (Option am_Op) := [none, some (am_ild 3 18), some (am_br2 .eq 42 21), none, none, some (am_ald0 0 22), some (am_ald0 2 23), some (am_ild 6 25)]
noncomputable def kr_89_3 : List (Option am_Op) := [none, some (am_ild 4 27), none, some (am_ald0 1 28), some (am_gf 1 7 31), none, none, some (am_cv 43 4 7 34)]
noncomputable def kr_89_4 : List (Option am_Op) := [none, none, some (am_ild 5 36), none, some (am_br2 .ne 42 39), none, none, some (am_ild 6 41)]
noncomputable def kr_89_5 : List (Option am_Op) := [none, some (am_iret), some (am_inc 6 1 45), none, none, some (am_jmp 3), none, none]
noncomputable def kr_89_6 : List (Option am_Op) := [some (am_psh (.retAddr 4294967292) 50), none, some (am_iret)]
noncomputable def cd_89 : am_Cd := [kr_89_0, kr_89_1, kr_89_2, kr_89_3, kr_89_4, kr_89_5, kr_89_6]
theorem dd_89_0 : decode prog_9_method_7_code 0 = .ok (.iconst 0, 1) := by decide +kernel
theorem dd_89_1 : decode prog_9_method_7_code 1 = .ok (.istore 6, 2) := by decide +kernel
theorem dd_89_3 : decode prog_9_method_7_code 3 = .ok (.iload 6, 2) := by decide +kernel
theorem dd_89_5 : decode prog_9_method_7_code 5 = .ok (.aload_n 1, 1) := by decide +kernel
theorem dd_89_6 : decode prog_9_method_7_code 6 = .ok (.getfield 34, 3) := by decide +kernel
theorem dd_89_9 : decode prog_9_method_7_code 9 = .ok (.getfield 38, 3) := by decide +kernel
theorem dd_89_12 : decode prog_9_method_7_code 12 = .ok (.if_icmp .ge 36, 3) := by decide +kernel
theorem dd_89_15 : decode prog_9_method_7_code 15 = .ok (.iload 6, 2) := by decide +kernel
theorem dd_89_17 : decode prog_9_method_7_code 17 = .ok (.iload_n 3, 1) := by decide +kernel
theorem dd_89_18 : decode prog_9_method_7_code 18 = .ok (.if_icmp .eq 24, 3) := by decide +kernel
theorem dd_89_21 : decode prog_9_method_7_code 21 = .ok (.aload_n 0, 1) := by decide +kernel
theorem dd_89_22 : decode prog_9_method_7_code 22 = .ok (.aload_n 2, 1) := by decide +kernel
theorem dd_89_23 : decode prog_9_method_7_code 23 = .ok (.iload 6, 2) := by decide +kernel
theorem dd_89_25 : decode prog_9_method_7_code 25 = .ok (.iload 4, 2) := by decide +kernel
theorem dd_89_27 : decode prog_9_method_7_code 27 = .ok (.aload_n 1, 1) := by decide +kernel
theorem dd_89_28 : decode prog_9_method_7_code 28 = .ok (.getfield 59, 3) := by decide +kernel
theorem dd_89_31 : decode prog_9_method_7_code 31 = .ok (.invokevirtual 62, 3) := by decide +kernel
theorem dd_89_34 : decode prog_9_method_7_code 34 = .ok (.iload 5, 2) := by decide +kernel
theorem dd_89_36 : decode prog_9_method_7_code 36 = .ok (.if_icmp .ne 6, 3) := by decide +kernel
theorem dd_89_39 : decode prog_9_method_7_code 39 = .ok (.iload 6, 2) := by decide +kernel
theorem dd_89_41 : decode prog_9_method_7_code 41 = .ok (.ireturn, 1) := by decide +kernel
theorem dd_89_42 : decode prog_9_method_7_code 42 = .ok (.iinc 6 1, 3) := by decide +kernel
theorem dd_89_45 : decode prog_9_method_7_code 45 = .ok (.goto (-42), 3) := by decide +kernel
theorem dd_89_48 : decode prog_9_method_7_code 48 = .ok (.bipush (-4), 2) := by decide +kernel
theorem dd_89_50 : decode prog_9_method_7_code 50 = .ok (.ireturn, 1) := by decide +kernel
theorem kb_89_0 : am_row mi_89 0 kr_89_0 := am_rs rfl (ok_iconst dd_89_0 ic_0 rfl) (am_rs rfl (ok_istore dd_89_1 rfl (by decide)) (am_rn rfl (am_rs rfl (ok_iload dd_89_3 rfl) (am_rn rfl (am_rs rfl (ok_aload_n (k := 1) dd_89_5 rfl rfl) (am_rs rfl (ok_gf dd_89_6 rfl am_ck1 (by decide) (Or.inr ⟨_, w_83⟩)) (am_rn rfl (am_rz))))))))
theorem kb_89_1 : am_row mi_89 8 kr_89_1 := am_rn rfl (am_rs rfl (ok_gf dd_89_9 rfl am_ck8 (by decide) (Or.inr ⟨_, w_64⟩)) (am_rn rfl (am_rn rfl (am_rs rfl (ok_icmp dd_89_12 (by decide) rfl) (am_rn rfl (am_rn rfl (am_rs rfl (ok_iload dd_89_15 rfl) (am_rz))))))))
theorem kb_89_2 : am_row mi_89 16 kr_89_2 := am_rn rfl (am_rs rfl (ok_iload_n (k := 3) dd_89_17 rfl rfl) (am_rs rfl (ok_icmp dd_89_18 (by decide) rfl) (am_rn rfl (am_rn rfl (am_rs rfl (ok_aload_n (k := 0) dd_89_21 rfl rfl) (am_rs rfl (ok_aload_n (k := 2) dd_89_22 rfl rfl) (am_rs rfl (ok_iload dd_89_23 rfl) (am_rz))))))))
theorem kb_89_3 : am_row mi_89 24 kr_89_3 := am_rn rfl (am_rs rfl (ok_iload dd_89_25 rfl) (am_rn rfl (am_rs rfl (ok_aload_n (k := 1) dd_89_27 rfl rfl) (am_rs rfl (ok_gf dd_89_28 rfl am_ck1 (by decide) (Or.inr ⟨_, w_116⟩)) (am_rn rfl (am_rn rfl (am_rs rfl (ok_cv (M' := mi_43) dd_89_31 rfl rfl w_498 w_500 ps_43 ⟨lk_43.1, lk_43.2.1, lk_43.2.2, by decide, by decide⟩ rfl) (am_rz))))))))
theorem kb_89_4 : am_row mi_89 32 kr_89_4 := am_rn rfl (am_rn rfl (am_rs rfl (ok_iload dd_89_34 rfl) (am_rn rfl (am_rs rfl (ok_icmp dd_89_36 (by decide) rfl) (am_rn rfl (am_rn rfl (am_rs rfl (ok_iload dd_89_39 rfl) (am_rz))))))))
theorem kb_89_5 : am_row mi_89 40 kr_89_5 := am_rn rfl (am_rs rfl (ok_iret dd_89_41 rfl) (am_rs rfl (ok_iinc dd_89_42 ic_1 rfl (by decide)) (am_rn rfl (am_rn rfl (am_rs rfl (ok_goto dd_89_45 (by decide)) (am_rn rfl (am_rn rfl (am_rz))))))))
theorem kb_89_6 : am_row mi_89 48 kr_89_6 := am_rs rfl (ok_bipush dd_89_48 bi_m4 rfl) (am_rn rfl (am_rs rfl (ok_iret dd_89_50 rfl) (am_rz)))
theorem ck_89 : am_rows mi_89 0 cd_89 := am_bs rfl kb_89_0 (am_bs rfl kb_89_1 (am_bs rfl kb_89_2 (am_bs rfl kb_89_3 (am_bs rfl kb_89_4 (am_bs rfl kb_89_5 (am_bs rfl kb_89_6 (am_bz)))))))
/-- OverAndBack.understand(III)I -/
noncomputable def kr_90_0 : List (Option am_Op) := [some (am_ald0 0 1), some (am_ild 1 2), some (am_cv 51 1 11 5), none, none, some (am_br1 .eq 24 8), none, none]
noncomputable def kr_90_1 : List (Option am_Op) := [some (am_ild 2 9), some (am_cs 56 1 12), none, none, some (am_br1 .eq 24 15), none, none, some (am_ild 3 16)]
noncomputable def kr_90_2 : List (Option am_Op) := [some (am_br1 .lt 24 19), none, none, some (am_ild 3 20), some (am_psh (.retAddr 1) 21), some (am_br2 .le 26 24), none, none]
noncomputable def kr_90_3 : List (Option am_Op) := [some (am_psh (.retAddr 4294967295) 25), some (am_iret), some (am_ald0 0 27), some (am_gf 11 10 30), none, none, some (am_ald0 0 31), some (am_gf 11 3 34)]
noncomputable def kr_90_4 : List (Option am_Op) := [none, none, some (am_ild 1 35), some (am_ild 2 36), some (am_cv 91 3 3 39), none, none, some (am_ild 3 40)]
noncomputable def kr_90_5 : List (Option am_Op) := [some (am_br1 .ne 53 43), none, none, some (am_ald0 0 44), some (am_gf 11 10 47), none, none, some (am_gf 3 7 50)]
noncomputable def kr_90_6 : List (Option am_Op) := [none, none, some (am_jmp 60), none, none, some (am_ald0 0 54), some (am_gf 11 10 57), none]
noncomputable def kr_90_7 : List (Option am_Op) := [none, some (am_gf 3 8 60), none, none, some (am_iret)]
noncomputable def cd_90 : am_Cd := [kr_90_0, kr_90_1, kr_90_2, kr_90_3, kr_90_4, kr_90_5, kr_90_6, kr_90_7]
theorem dd_90_0 : decode prog_1_method_17_code 0 = .ok (.aload_n 0, 1) := by decide +kernel
theorem dd_90_1 : decode prog_1_method_17_code 1 = .ok (.iload_n 1, 1) := by decide +kernel
theorem dd_90_2 : decode prog_1_method_17_code 2 = .ok (.invokevirtual 128, 3) := by decide +kernel
theorem dd_90_5 : decode prog_1_method_17_code 5 = .ok (.ifCond .eq 19, 3) := by decide +kernel
theorem dd_90_8 : decode prog_1_method_17_code 8 = .ok (.iload_n 2, 1) := by decide +kernel
theorem dd_90_9 : decode prog_1_method_17_code 9 = .ok (.invokestatic 146, 3) := by decide +kernel
theorem dd_90_12 : decode prog_1_method_17_code 12 = .ok (.ifCond .eq 12, 3) := by decide +kernel
theorem dd_90_15 : decode prog_1_method_17_code 15 = .ok (.iload_n 3, 1) := by decide +kernel
theorem dd_90_16 : decode prog_1_method_17_code 16 = .ok (.ifCond .lt 8, 3) := by decide +kernel
theorem dd_90_19 : decode prog_1_method_17_code 19 = .ok (.iload_n 3, 1) := by decide +kernel
theorem dd_90_20 : decode prog_1_method_17_code 20 = .ok (.iconst 1, 1) := by decide +kernel
theorem dd_90_21 : decode prog_1_method_17_code 21 = .ok (.if_icmp .le 5, 3) := by decide +kernel
theorem dd_90_24 : decode prog_1_method_17_code 24 = .ok (.iconst (-1), 1) := by decide +kernel
theorem dd_90_25 : decode prog_1_method_17_code 25 = .ok (.ireturn, 1) := by decide +kernel
theorem dd_90_26 : decode prog_1_method_17_code 26 = .ok (.aload_n 0, 1) := by decide +kernel
theorem dd_90_27 : decode prog_1_method_17_code 27 = .ok (.getfield 70, 3) := by decide +kernel
theorem dd_90_30 : decode prog_1_method_17_code 30 = .ok (.aload_n 0, 1) := by decide +kernel
theorem dd_90_31 : decode prog_1_method_17_code 31 = .ok (.getfield 27, 3) := by decide +kernel
theorem dd_90_34 : decode prog_1_method_17_code 34 = .ok (.iload_n 1, 1) := by decide +kernel
theorem dd_90_35 : decode prog_1_method_17_code 35 = .ok (.iload_n 2, 1) := by decide +kernel
theorem dd_90_36 : decode prog_1_method_17_code 36 = .ok (.invokevirtual 217, 3) := by decide +kernel
theorem dd_90_39 : decode prog_1_method_17_code 39 = .ok (.iload_n 3, 1) := by decide +kernel
theorem dd_90_40 : decode prog_1_method_17_code 40 = .ok (.ifCond .ne 13, 3) := by decide +kernel
theorem dd_90_43 : decode prog_1_method_17_code 43 = .ok (.aload_n 0, 1) := by decide +kernel
theorem dd_90_44 : decode prog_1_method_17_code 44 = .ok (.getfield 70, 3) := by decide +kernel
theorem dd_90_47 : decode prog_1_method_17_code 47 = .ok (.getfield 221, 3) := by decide +kernel
theorem dd_90_50 : decode prog_1_method_17_code 50 = .ok (.goto 10, 3) := by decide +kernel
theorem dd_90_53 : decode prog_1_method_17_code 53 = .ok (.aload_n 0, 1) := by decide +kernel
theorem dd_90_54 : decode prog_1_method_17_code 54 = .ok (.getfield 70, 3) := by decide +kernel
theorem dd_90_57 : decode prog_1_method_17_code 57 = .ok (.getfield 224, 3) := by decide +kernel
theorem dd_90_60 : decode prog_1_method_17_code 60 = .ok (.ireturn, 1) := by decide +kernel
theorem kb_90_0 : am_row mi_90 0 kr_90_0 := am_rs rfl (ok_aload_n (k := 0) dd_90_0 rfl rfl) (am_rs rfl (ok_iload_n (k := 1) dd_90_1 rfl rfl) (am_rs rfl (ok_cv (M' := mi_51) dd_90_2 rfl rfl w_584 w_586 ps_51 ⟨lk_51.1, lk_51.2.1, lk_51.2.2, by decide, by decide⟩ rfl) (am_rn rfl (am_rn rfl (am_rs rfl (ok_ifc dd_90_5 (by decide) rfl) (am_rn rfl (am_rn rfl (am_rz))))))))
theorem kb_90_1 : am_row mi_90 8 kr_90_1 := am_rs rfl (ok_iload_n (k := 2) dd_90_8 rfl rfl) (am_rs rfl (ok_cs (M' := mi_56) dd_90_9 rfl rfl w_605 w_606 ⟨lk_56.1, lk_56.2.1, lk_56.2.2, by decide, by decide⟩) (am_rn rfl (am_rn rfl (am_rs rfl (ok_ifc dd_90_12 (by decide) rfl) (am_rn rfl (am_rn rfl (am_rs rfl (ok_iload_n (k := 3) dd_90_15 rfl rfl) (am_rz))))))))
theorem kb_90_2 : am_row mi_90 16 kr_90_2 := am_rs rfl (ok_ifc dd_90_16 (by decide) rfl) (am_rn rfl (am_rn rfl (am_rs rfl (ok_iload_n (k := 3) dd_90_19 rfl rfl) (am_rs rfl (ok_iconst dd_90_20 ic_1 rfl) (am_rs rfl (ok_icmp dd_90_21 (by decide) rfl) (am_rn rfl (am_rn rfl (am_rz))))))))
theorem kb_90_3 : am_row mi_90 24 kr_90_3 := am_rs rfl (ok_iconst dd_90_24 ic_m1 rfl) (am_rs rfl (ok_iret dd_90_25 rfl) (am_rs rfl (ok_aload_n (k := 0) dd_90_26 rfl rfl) (am_rs rfl (ok_gf dd_90_27 rfl am_ck11 (by decide) (Or.inl w_521)) (am_rn rfl (am_rn rfl (am_rs rfl (ok_aload_n (k := 0) dd_90_30 rfl rfl) (am_rs rfl (ok_gf dd_90_31 rfl am_ck11 (by decide) (Or.inl w_514)) (am_rz))))))))
theorem kb_90_4 : am_row mi_90 32 kr_90_4 := am_rn rfl (am_rn rfl (am_rs rfl (ok_iload_n (k := 1) dd_90_34 rfl rfl) (am_rs rfl (ok_iload_n (k := 2) dd_90_35 rfl rfl) (am_rs rfl (ok_cv (M' := mi_91) dd_90_36 rfl rfl w_752 w_753 w_754 ⟨lk_91.1, lk_91.2.1, lk_91.2.2, by decide, by decide⟩ rfl) (am_rn rfl (am_rn rfl (am_rs rfl (ok_iload_n (k := 3) dd_90_39 rfl rfl) (am_rz))))))))
theorem kb_90_5 : am_row mi_90 40 kr_90_5 := am_rs rfl (ok_ifc dd_90_40 (by decide) rfl) (am_rn rfl (am_rn rfl (am_rs rfl (ok_aload_n (k := 0) dd_90_43 rfl rfl) (am_rs rfl (ok_gf dd_90_44 rfl am_ck11 (by decide) (Or.inl w_521)) (am_rn rfl (am_rn rfl (am_rs rfl (ok_gf dd_90_47 rfl am_ck3 (by decide) (Or.inr ⟨_, w_232⟩)) (am_rz))))))))
theorem kb_90_6 : am_row mi_90 48 kr_90_6 := am_rn rfl (am_rn rfl (am_rs rfl (ok_goto dd_90_50 (by decide)) (am_rn rfl (am_rn rfl (am_rs rfl (ok_aload_n (k := 0) dd_90_53 rfl rfl) (am_rs rfl (ok_gf dd_90_54 rfl am_ck11 (by decide) (Or.inl w_521)) (am_rn rfl (am_rz))))))))
theorem kb_90_7 : am_row mi_90 56 kr_90_7 := am_rn rfl (am_rs rfl (ok_gf dd_90_57 rfl am_ck3 (by decide) (Or.inr ⟨_, w_234⟩)) (am_rn rfl (am_rn rfl (am_rs rfl (ok_iret dd_90_60 rfl) (am_rz)))))
theorem ck_90 : am_rows mi_90 0 cd_90 := am_bs rfl kb_90_0 (am_bs rfl kb_90_1 (am_bs rfl kb_90_2 (am_bs rfl kb_90_3 (am_bs rfl kb_90_4 (am_bs rfl kb_90_5 (am_bs rfl kb_90_6 (am_bs rfl kb_90_7 (am_bz))))))))
/-- OverAndBack$Learning.learn(LOverAndBack$Evening;II)V -/
noncomputable def kr_91_0 : List (Option am_Op) := [some (am_ald0 0 1), some (am_ald0 1 2), some (am_gf 1 0 5), none, none, some (am_gf 8 3 8), none, none]
noncomputable def kr_91_1 : List (Option am_Op) := [some (am_psh (.retAddr 4) 9), some (am_mmin 12), none, none, some (am_pf 3 3 0 15), none, none, some (am_ald0 0 16)]
noncomputable def kr_91_2 : List (Option am_Op) := [some (am_ald0 1 17), some (am_gf 1 7 20), none, none, some (am_pf 3 4 0 23), none, none, some (am_ald0 0 24)]
noncomputable def kr_91_3 : List (Option am_Op) := [some (am_psh (.retAddr 4294967292) 26), none, some (am_pf 3 7 0 29), none, none, some (am_ald0 0 30), some (am_psh (.retAddr 4294967292) 32), none]
noncomputable def kr_91_4 : List (Option am_Op) := [some (am_pf 3 8 0 35), none, none, some (am_ald0 0 36), some (am_psh (.retAddr 4294967292) 38), none, some (am_pf 3 9 0 41), none]
noncomputable def kr_91_5 : List (Option am_Op) := [none, some (am_ald0 0 42), some (am_psh (.retAddr 7) 44), none, some (am_pf 3 10 0 47), none, none, some (am_ald0 0 48)]
noncomputable def kr_91_6 : List (Option am_Op) := [some (am_ald0 1 49), some (am_gf 1 6 52), none, none, some (am_cv 92 1 3 55), none, none, some (am_ald0 0 56)]
noncomputable def kr_91_7 : List (Option am_Op) := [some (am_gf 3 5 59), none, none, some (am_ild 3 60), some (am_bin Nat.land 61), some (am_ild 3 62), some (am_br2 .eq 66 65), none]
noncomputable def kr_91_8 : List (Option am_Op) := [none, some (am_vret), some (am_ald0 0 67), some (am_psh (.retAddr 0) 68), some (am_ild 2 69), some (am_psh (.retAddr 0) 70), some (am_psh (.retAddr 0) 71), some (am_cv 93 4 3 74)]
noncomputable def kr_91_9 : List (Option am_Op) := [none, none, some (am_psh (.retAddr 0) 75), some (am_ist 4 77), none, some (am_ild 4 79), none, some (am_ald0 0 80)]
noncomputable def kr_91_10 : List (Option am_Op) := [some (am_gf 3 6 83), none, none, some (am_br2 .gt 119 86), none, none, some (am_psh (.retAddr 0) 87), some (am_ist 5 89)]
noncomputable def kr_91_11 : List (Option am_Op) := [none, some (am_ild 5 91), none, some (am_ald0 0 92), some (am_gf 3 3 95), none, none, some (am_br2 .ge 113 98)]
noncomputable def kr_91_12 : List (Option am_Op) := [none, none, some (am_ald0 0 99), some (am_ild 4 101), none, some (am_ild 5 103), none, some (am_ild 3 104)]
noncomputable def kr_91_13 : List (Option am_Op) := [some (am_cv 96 3 3 107), none, none, some (am_inc 5 1 110), none, none, some (am_jmp 89), none]
noncomputable def kr_91_14 : List (Option am_Op) := [none, some (am_inc 4 1 116), none, none, some (am_jmp 77), none, none, some (am_vret)]
noncomputable def cd_91 : am_Cd := [kr_91_0, kr_91_1, kr_91_2, kr_91_3, kr_91_4, kr_91_5, kr_91_6, kr_91_7, kr_91_8, kr_91_9, kr_91_10, kr_91_11, kr_91_12, kr_91_13, kr_91_14]
theorem dd_91_0 : decode prog_5_method_2_code 0 = .ok (.aload_n 0, 1) := by decide +kernel
theorem dd_91_1 : decode prog_5_method_2_code 1 = .ok (.aload_n 1, 1) := by decide +kernel
theorem dd_91_2 : decode prog_5_method_2_code 2 = .ok (.getfield 54, 3) := by decide +kernel
theorem dd_91_5 : decode prog_5_method_2_code 5 = .ok (.getfield 59, 3) := by decide +kernel
theorem dd_91_8 : decode prog_5_method_2_code 8 = .ok (.iconst 4, 1) := by decide +kernel
theorem dd_91_9 : decode prog_5_method_2_code 9 = .ok (.invokestatic 64, 3) := by decide +kernel
theorem dd_91_12 : decode prog_5_method_2_code 12 = .ok (.putfield 15, 3) := by decide +kernel
theorem dd_91_15 : decode prog_5_method_2_code 15 = .ok (.aload_n 0, 1) := by decide +kernel
theorem dd_91_16 : decode prog_5_method_2_code 16 = .ok (.aload_n 1, 1) := by decide +kernel
theorem dd_91_17 : decode prog_5_method_2_code 17 = .ok (.getfield 70, 3) := by decide +kernel
theorem dd_91_20 : decode prog_5_method_2_code 20 = .ok (.putfield 19, 3) := by decide +kernel
theorem dd_91_23 : decode prog_5_method_2_code 23 = .ok (.aload_n 0, 1) := by decide +kernel
theorem dd_91_24 : decode prog_5_method_2_code 24 = .ok (.bipush (-4), 2) := by decide +kernel
theorem dd_91_26 : decode prog_5_method_2_code 26 = .ok (.putfield 28, 3) := by decide +kernel
theorem dd_91_29 : decode prog_5_method_2_code 29 = .ok (.aload_n 0, 1) := by decide +kernel
theorem dd_91_30 : decode prog_5_method_2_code 30 = .ok (.bipush (-4), 2) := by decide +kernel
theorem dd_91_32 : decode prog_5_method_2_code 32 = .ok (.putfield 31, 3) := by decide +kernel
theorem dd_91_35 : decode prog_5_method_2_code 35 = .ok (.aload_n 0, 1) := by decide +kernel
theorem dd_91_36 : decode prog_5_method_2_code 36 = .ok (.bipush (-4), 2) := by decide +kernel
theorem dd_91_38 : decode prog_5_method_2_code 38 = .ok (.putfield 34, 3) := by decide +kernel
theorem dd_91_41 : decode prog_5_method_2_code 41 = .ok (.aload_n 0, 1) := by decide +kernel
theorem dd_91_42 : decode prog_5_method_2_code 42 = .ok (.bipush 7, 2) := by decide +kernel
theorem dd_91_44 : decode prog_5_method_2_code 44 = .ok (.putfield 37, 3) := by decide +kernel
theorem dd_91_47 : decode prog_5_method_2_code 47 = .ok (.aload_n 0, 1) := by decide +kernel
theorem dd_91_48 : decode prog_5_method_2_code 48 = .ok (.aload_n 1, 1) := by decide +kernel
theorem dd_91_49 : decode prog_5_method_2_code 49 = .ok (.getfield 71, 3) := by decide +kernel
theorem dd_91_52 : decode prog_5_method_2_code 52 = .ok (.invokevirtual 74, 3) := by decide +kernel
theorem dd_91_55 : decode prog_5_method_2_code 55 = .ok (.aload_n 0, 1) := by decide +kernel
theorem dd_91_56 : decode prog_5_method_2_code 56 = .ok (.getfield 22, 3) := by decide +kernel
theorem dd_91_59 : decode prog_5_method_2_code 59 = .ok (.iload_n 3, 1) := by decide +kernel
theorem dd_91_60 : decode prog_5_method_2_code 60 = .ok (.iand, 1) := by decide +kernel
theorem dd_91_61 : decode prog_5_method_2_code 61 = .ok (.iload_n 3, 1) := by decide +kernel
theorem dd_91_62 : decode prog_5_method_2_code 62 = .ok (.if_icmp .eq 4, 3) := by decide +kernel
theorem dd_91_65 : decode prog_5_method_2_code 65 = .ok (.return_, 1) := by decide +kernel
theorem dd_91_66 : decode prog_5_method_2_code 66 = .ok (.aload_n 0, 1) := by decide +kernel
theorem dd_91_67 : decode prog_5_method_2_code 67 = .ok (.iconst 0, 1) := by decide +kernel
theorem dd_91_68 : decode prog_5_method_2_code 68 = .ok (.iload_n 2, 1) := by decide +kernel
theorem dd_91_69 : decode prog_5_method_2_code 69 = .ok (.iconst 0, 1) := by decide +kernel
theorem dd_91_70 : decode prog_5_method_2_code 70 = .ok (.iconst 0, 1) := by decide +kernel
theorem dd_91_71 : decode prog_5_method_2_code 71 = .ok (.invokevirtual 78, 3) := by decide +kernel
theorem dd_91_74 : decode prog_5_method_2_code 74 = .ok (.iconst 0, 1) := by decide +kernel
theorem dd_91_75 : decode prog_5_method_2_code 75 = .ok (.istore 4, 2) := by decide +kernel
theorem dd_91_77 : decode prog_5_method_2_code 77 = .ok (.iload 4, 2) := by decide +kernel
theorem dd_91_79 : decode prog_5_method_2_code 79 = .ok (.aload_n 0, 1) := by decide +kernel
theorem dd_91_80 : decode prog_5_method_2_code 80 = .ok (.getfield 25, 3) := by decide +kernel
theorem dd_91_83 : decode prog_5_method_2_code 83 = .ok (.if_icmp .gt 36, 3) := by decide +kernel
theorem dd_91_86 : decode prog_5_method_2_code 86 = .ok (.iconst 0, 1) := by decide +kernel
theorem dd_91_87 : decode prog_5_method_2_code 87 = .ok (.istore 5, 2) := by decide +kernel
theorem dd_91_89 : decode prog_5_method_2_code 89 = .ok (.iload 5, 2) := by decide +kernel
theorem dd_91_91 : decode prog_5_method_2_code 91 = .ok (.aload_n 0, 1) := by decide +kernel
theorem dd_91_92 : decode prog_5_method_2_code 92 = .ok (.getfield 15, 3) := by decide +kernel
theorem dd_91_95 : decode prog_5_method_2_code 95 = .ok (.if_icmp .ge 18, 3) := by decide +kernel
theorem dd_91_98 : decode prog_5_method_2_code 98 = .ok (.aload_n 0, 1) := by decide +kernel
theorem dd_91_99 : decode prog_5_method_2_code 99 = .ok (.iload 4, 2) := by decide +kernel
theorem dd_91_101 : decode prog_5_method_2_code 101 = .ok (.iload 5, 2) := by decide +kernel
theorem dd_91_103 : decode prog_5_method_2_code 103 = .ok (.iload_n 3, 1) := by decide +kernel
theorem dd_91_104 : decode prog_5_method_2_code 104 = .ok (.invokevirtual 82, 3) := by decide +kernel
theorem dd_91_107 : decode prog_5_method_2_code 107 = .ok (.iinc 5 1, 3) := by decide +kernel
theorem dd_91_110 : decode prog_5_method_2_code 110 = .ok (.goto (-21), 3) := by decide +kernel
theorem dd_91_113 : decode prog_5_method_2_code 113 = .ok (.iinc 4 1, 3) := by decide +kernel
theorem dd_91_116 : decode prog_5_method_2_code 116 = .ok (.goto (-39), 3) := by decide +kernel
theorem dd_91_119 : decode prog_5_method_2_code 119 = .ok (.return_, 1) := by decide +kernel
theorem kb_91_0 : am_row mi_91 0 kr_91_0 := am_rs rfl (ok_aload_n (k := 0) dd_91_0 rfl rfl) (am_rs rfl (ok_aload_n (k := 1) dd_91_1 rfl rfl) (am_rs rfl (ok_gf dd_91_2 rfl am_ck1 (by decide) (Or.inr ⟨_, w_81⟩)) (am_rn rfl (am_rn rfl (am_rs rfl (ok_gf dd_91_5 rfl am_ck8 (by decide) (Or.inr ⟨_, w_61⟩)) (am_rn rfl (am_rn rfl (am_rz))))))))
theorem kb_91_1 : am_row mi_91 8 kr_91_1 := am_rs rfl (ok_iconst dd_91_8 ic_4 rfl) (am_rs rfl (ok_mmin dd_91_9 rfl w_756 w_393 w_18 w_394 ⟨by decide, by decide⟩) (am_rn rfl (am_rn rfl (am_rs rfl (ok_pf dd_91_12 rfl am_ck3 (by decide) (Or.inl w_227) (Or.inl rfl) rfl) (am_rn rfl (am_rn rfl (am_rs rfl (ok_aload_n (k := 0) dd_91_15 rfl rfl) (am_rz))))))))
theorem kb_91_2 : am_row mi_91 16 kr_91_2 := am_rs rfl (ok_aload_n (k := 1) dd_91_16 rfl rfl) (am_rs rfl (ok_gf dd_91_17 rfl am_ck1 (by decide) (Or.inr ⟨_, w_114⟩)) (am_rn rfl (am_rn rfl (am_rs rfl (ok_pf dd_91_20 rfl am_ck3 (by decide) (Or.inl w_228) (Or.inl rfl) rfl) (am_rn rfl (am_rn rfl (am_rs rfl (ok_aload_n (k := 0) dd_91_23 rfl rfl) (am_rz))))))))
theorem kb_91_3 : am_row mi_91 24 kr_91_3 := am_rs rfl (ok_bipush dd_91_24 bi_m4 rfl) (am_rn rfl (am_rs rfl (ok_pf dd_91_26 rfl am_ck3 (by decide) (Or.inl w_231) (Or.inl rfl) rfl) (am_rn rfl (am_rn rfl (am_rs rfl (ok_aload_n (k := 0) dd_91_29 rfl rfl) (am_rs rfl (ok_bipush dd_91_30 bi_m4 rfl) (am_rn rfl (am_rz))))))))
theorem kb_91_4 : am_row mi_91 32 kr_91_4 := am_rs rfl (ok_pf dd_91_32 rfl am_ck3 (by decide) (Or.inl w_233) (Or.inl rfl) rfl) (am_rn rfl (am_rn rfl (am_rs rfl (ok_aload_n (k := 0) dd_91_35 rfl rfl) (am_rs rfl (ok_bipush dd_91_36 bi_m4 rfl) (am_rn rfl (am_rs rfl (ok_pf dd_91_38 rfl am_ck3 (by decide) (Or.inl w_235) (Or.inl rfl) rfl) (am_rn rfl (am_rz))))))))
theorem kb_91_5 : am_row mi_91 40 kr_91_5 := am_rn rfl (am_rs rfl (ok_aload_n (k := 0) dd_91_41 rfl rfl) (am_rs rfl (ok_bipush dd_91_42 bi_7 rfl) (am_rn rfl (am_rs rfl (ok_pf dd_91_44 rfl am_ck3 (by decide) (Or.inl w_237) (Or.inl rfl) rfl) (am_rn rfl (am_rn rfl (am_rs rfl (ok_aload_n (k := 0) dd_91_47 rfl rfl) (am_rz))))))))
theorem kb_91_6 : am_row mi_91 48 kr_91_6 := am_rs rfl (ok_aload_n (k := 1) dd_91_48 rfl rfl) (am_rs rfl (ok_gf dd_91_49 rfl am_ck1 (by decide) (Or.inr ⟨_, w_108⟩)) (am_rn rfl (am_rn rfl (am_rs rfl (ok_cv (M' := mi_92) dd_91_52 rfl rfl w_757 w_759 ps_92 ⟨lk_92.1, lk_92.2.1, lk_92.2.2, by decide, by decide⟩ rfl) (am_rn rfl (am_rn rfl (am_rs rfl (ok_aload_n (k := 0) dd_91_55 rfl rfl) (am_rz))))))))
theorem kb_91_7 : am_row mi_91 56 kr_91_7 := am_rs rfl (ok_gf dd_91_56 rfl am_ck3 (by decide) (Or.inl w_229)) (am_rn rfl (am_rn rfl (am_rs rfl (ok_iload_n (k := 3) dd_91_59 rfl rfl) (am_rs rfl (ok_iand dd_91_60 rfl) (am_rs rfl (ok_iload_n (k := 3) dd_91_61 rfl rfl) (am_rs rfl (ok_icmp dd_91_62 (by decide) rfl) (am_rn rfl (am_rz))))))))
theorem kb_91_8 : am_row mi_91 64 kr_91_8 := am_rn rfl (am_rs rfl (ok_vret dd_91_65 rfl) (am_rs rfl (ok_aload_n (k := 0) dd_91_66 rfl rfl) (am_rs rfl (ok_iconst dd_91_67 ic_0 rfl) (am_rs rfl (ok_iload_n (k := 2) dd_91_68 rfl rfl) (am_rs rfl (ok_iconst dd_91_69 ic_0 rfl) (am_rs rfl (ok_iconst dd_91_70 ic_0 rfl) (am_rs rfl (ok_cv (M' := mi_93) dd_91_71 rfl rfl w_763 w_765 ps_93 ⟨lk_93.1, lk_93.2.1, lk_93.2.2, by decide, by decide⟩ rfl) (am_rz))))))))
theorem kb_91_9 : am_row mi_91 72 kr_91_9 := am_rn rfl (am_rn rfl (am_rs rfl (ok_iconst dd_91_74 ic_0 rfl) (am_rs rfl (ok_istore dd_91_75 rfl (by decide)) (am_rn rfl (am_rs rfl (ok_iload dd_91_77 rfl) (am_rn rfl (am_rs rfl (ok_aload_n (k := 0) dd_91_79 rfl rfl) (am_rz))))))))
theorem kb_91_10 : am_row mi_91 80 kr_91_10 := am_rs rfl (ok_gf dd_91_80 rfl am_ck3 (by decide) (Or.inl w_230)) (am_rn rfl (am_rn rfl (am_rs rfl (ok_icmp dd_91_83 (by decide) rfl) (am_rn rfl (am_rn rfl (am_rs rfl (ok_iconst dd_91_86 ic_0 rfl) (am_rs rfl (ok_istore dd_91_87 rfl (by decide)) (am_rz))))))))
theorem kb_91_11 : am_row mi_91 88 kr_91_11 := am_rn rfl (am_rs rfl (ok_iload dd_91_89 rfl) (am_rn rfl (am_rs rfl (ok_aload_n (k := 0) dd_91_91 rfl rfl) (am_rs rfl (ok_gf dd_91_92 rfl am_ck3 (by decide) (Or.inl w_227)) (am_rn rfl (am_rn rfl (am_rs rfl (ok_icmp dd_91_95 (by decide) rfl) (am_rz))))))))
theorem kb_91_12 : am_row mi_91 96 kr_91_12 := am_rn rfl (am_rn rfl (am_rs rfl (ok_aload_n (k := 0) dd_91_98 rfl rfl) (am_rs rfl (ok_iload dd_91_99 rfl) (am_rn rfl (am_rs rfl (ok_iload dd_91_101 rfl) (am_rn rfl (am_rs rfl (ok_iload_n (k := 3) dd_91_103 rfl rfl) (am_rz))))))))
theorem kb_91_13 : am_row mi_91 104 kr_91_13 := am_rs rfl (ok_cv (M' := mi_96) dd_91_104 rfl rfl w_773 w_775 ps_96 ⟨lk_96.1, lk_96.2.1, lk_96.2.2, by decide, by decide⟩ rfl) (am_rn rfl (am_rn rfl (am_rs rfl (ok_iinc dd_91_107 ic_1 rfl (by decide)) (am_rn rfl (am_rn rfl (am_rs rfl (ok_goto dd_91_110 (by decide)) (am_rn rfl (am_rz))))))))
theorem kb_91_14 : am_row mi_91 112 kr_91_14 := am_rn rfl (am_rs rfl (ok_iinc dd_91_113 ic_1 rfl (by decide)) (am_rn rfl (am_rn rfl (am_rs rfl (ok_goto dd_91_116 (by decide)) (am_rn rfl (am_rn rfl (am_rs rfl (ok_vret dd_91_119 rfl) (am_rz))))))))
theorem ck_91 : am_rows mi_91 0 cd_91 := am_bs rfl kb_91_0 (am_bs rfl kb_91_1 (am_bs rfl kb_91_2 (am_bs rfl kb_91_3 (am_bs rfl kb_91_4 (am_bs rfl kb_91_5 (am_bs rfl kb_91_6 (am_bs rfl kb_91_7 (am_bs rfl kb_91_8 (am_bs rfl kb_91_9 (am_bs rfl kb_91_10 (am_bs rfl kb_91_11 (am_bs rfl kb_91_12 (am_bs rfl kb_91_13 (am_bs rfl kb_91_14 (am_bz)))))))))))))))
/-- OverAndBack$Learning.survey(I)V -/
noncomputable def kr_92_0 : List (Option am_Op) := [some (am_ald0 0 1), some (am_psh (.retAddr 0) 2), some (am_pf 3 5 0 5), none, none, some (am_ald0 0 6), some (am_psh (.retAddr 0) 7), some (am_pf 3 6 0 10)]
noncomputable def kr_92_1 : List (Option am_Op) := [none, none, some (am_psh (.retAddr 0) 11), some (am_ist 2 12), some (am_ild 2 13), some (am_ild 1 14), some (am_br2 .ge 76 17), none]
noncomputable def kr_92_2 : List (Option am_Op) := [none, some (am_psh (.retAddr 0) 18), some (am_ist 3 19), some (am_ild 3 20), some (am_ald0 0 21), some (am_gf 3 3 24), none, none]
noncomputable def kr_92_3 : List (Option am_Op) := [some (am_br2 .ge 70 27), none, none, some (am_ald0 0 28), some (am_gf 3 1 31), none, none, some (am_ild 3 32)]
noncomputable def kr_92_4 : List (Option am_Op) := [some (am_ild 2 33), some (am_cv 68 2 9 36), none, none, some (am_br1 .eq 64 39), none, none, some (am_ald0 0 40)]
noncomputable def kr_92_5 : List (Option am_Op) := [some (am_dup 41), some (am_gf 3 5 44), none, none, some (am_ald0 0 45), some (am_gf 3 1 48), none, none]
noncomputable def kr_92_6 : List (Option am_Op) := [some (am_ild 3 49), some (am_ild 2 50), some (am_cv 68 2 9 53), none, none, some (am_bin Nat.lor 54), some (am_pf 3 5 0 57), none]
noncomputable def kr_92_7 : List (Option am_Op) := [none, some (am_ald0 0 58), some (am_ild 2 59), some (am_psh (.retAddr 1) 60), some (am_bin am_add 61), some (am_pf 3 6 0 64), none, none]
noncomputable def kr_92_8 : List (Option am_Op) := [some (am_inc 3 1 67), none, none, some (am_jmp 19), none, none, some (am_inc 2 1 73), none]
noncomputable def kr_92_9 : List (Option am_Op) := [none, some (am_jmp 12), none, none, some (am_ald0 0 77), some (am_ald0 0 78), some (am_gf 3 2 81), none]
noncomputable def kr_92_10 : List (Option am_Op) := [none, some (am_ald0 0 82), some (am_gf 3 5 85), none, none, some (am_cv 57 1 2 88), none, none]
noncomputable def kr_92_11 : List (Option am_Op) := [some (am_pf 3 5 0 91), none, none, some (am_vret)]
noncomputable def cd_92 : am_Cd := [kr_92_0, kr_92_1, kr_92_2, kr_92_3, kr_92_4, kr_92_5, kr_92_6, kr_92_7, kr_92_8, kr_92_9, kr_92_10, kr_92_11]
theorem dd_92_0 : decode prog_5_method_3_code 0 = .ok (.aload_n 0, 1) := by decide +kernel
theorem dd_92_1 : decode prog_5_method_3_code 1 = .ok (.iconst 0, 1) := by decide +kernel
theorem dd_92_2 : decode prog_5_method_3_code 2 = .ok (.putfield 22, 3) := by decide +kernel
theorem dd_92_5 : decode prog_5_method_3_code 5 = .ok (.aload_n 0, 1) := by decide +kernel
theorem dd_92_6 : decode prog_5_method_3_code 6 = .ok (.iconst 0, 1) := by decide +kernel
theorem dd_92_7 : decode prog_5_method_3_code 7 = .ok (.putfield 25, 3) := by decide +kernel
theorem dd_92_10 : decode prog_5_method_3_code 10 = .ok (.iconst 0, 1) := by decide +kernel
theorem dd_92_11 : decode prog_5_method_3_code 11 = .ok (.istore_n 2, 1) := by decide +kernel
theorem dd_92_12 : decode prog_5_method_3_code 12 = .ok (.iload_n 2, 1) := by decide +kernel
theorem dd_92_13 : decode prog_5_method_3_code 13 = .ok (.iload_n 1, 1) := by decide +kernel
theorem dd_92_14 : decode prog_5_method_3_code 14 = .ok (.if_icmp .ge 62, 3) := by decide +kernel
theorem dd_92_17 : decode prog_5_method_3_code 17 = .ok (.iconst 0, 1) := by decide +kernel
theorem dd_92_18 : decode prog_5_method_3_code 18 = .ok (.istore_n 3, 1) := by decide +kernel
theorem dd_92_19 : decode prog_5_method_3_code 19 = .ok (.iload_n 3, 1) := by decide +kernel
theorem dd_92_20 : decode prog_5_method_3_code 20 = .ok (.aload_n 0, 1) := by decide +kernel
theorem dd_92_21 : decode prog_5_method_3_code 21 = .ok (.getfield 15, 3) := by decide +kernel
theorem dd_92_24 : decode prog_5_method_3_code 24 = .ok (.if_icmp .ge 46, 3) := by decide +kernel
theorem dd_92_27 : decode prog_5_method_3_code 27 = .ok (.aload_n 0, 1) := by decide +kernel
theorem dd_92_28 : decode prog_5_method_3_code 28 = .ok (.getfield 40, 3) := by decide +kernel
theorem dd_92_31 : decode prog_5_method_3_code 31 = .ok (.iload_n 3, 1) := by decide +kernel
theorem dd_92_32 : decode prog_5_method_3_code 32 = .ok (.iload_n 2, 1) := by decide +kernel
theorem dd_92_33 : decode prog_5_method_3_code 33 = .ok (.invokevirtual 86, 3) := by decide +kernel
theorem dd_92_36 : decode prog_5_method_3_code 36 = .ok (.ifCond .eq 28, 3) := by decide +kernel
theorem dd_92_39 : decode prog_5_method_3_code 39 = .ok (.aload_n 0, 1) := by decide +kernel
theorem dd_92_40 : decode prog_5_method_3_code 40 = .ok (.dup, 1) := by decide +kernel
theorem dd_92_41 : decode prog_5_method_3_code 41 = .ok (.getfield 22, 3) := by decide +kernel
theorem dd_92_44 : decode prog_5_method_3_code 44 = .ok (.aload_n 0, 1) := by decide +kernel
theorem dd_92_45 : decode prog_5_method_3_code 45 = .ok (.getfield 40, 3) := by decide +kernel
theorem dd_92_48 : decode prog_5_method_3_code 48 = .ok (.iload_n 3, 1) := by decide +kernel
theorem dd_92_49 : decode prog_5_method_3_code 49 = .ok (.iload_n 2, 1) := by decide +kernel
theorem dd_92_50 : decode prog_5_method_3_code 50 = .ok (.invokevirtual 86, 3) := by decide +kernel
theorem dd_92_53 : decode prog_5_method_3_code 53 = .ok (.ior, 1) := by decide +kernel
theorem dd_92_54 : decode prog_5_method_3_code 54 = .ok (.putfield 22, 3) := by decide +kernel
theorem dd_92_57 : decode prog_5_method_3_code 57 = .ok (.aload_n 0, 1) := by decide +kernel
theorem dd_92_58 : decode prog_5_method_3_code 58 = .ok (.iload_n 2, 1) := by decide +kernel
theorem dd_92_59 : decode prog_5_method_3_code 59 = .ok (.iconst 1, 1) := by decide +kernel
theorem dd_92_60 : decode prog_5_method_3_code 60 = .ok (.iadd, 1) := by decide +kernel
theorem dd_92_61 : decode prog_5_method_3_code 61 = .ok (.putfield 25, 3) := by decide +kernel
theorem dd_92_64 : decode prog_5_method_3_code 64 = .ok (.iinc 3 1, 3) := by decide +kernel
theorem dd_92_67 : decode prog_5_method_3_code 67 = .ok (.goto (-48), 3) := by decide +kernel
theorem dd_92_70 : decode prog_5_method_3_code 70 = .ok (.iinc 2 1, 3) := by decide +kernel
theorem dd_92_73 : decode prog_5_method_3_code 73 = .ok (.goto (-61), 3) := by decide +kernel
theorem dd_92_76 : decode prog_5_method_3_code 76 = .ok (.aload_n 0, 1) := by decide +kernel
theorem dd_92_77 : decode prog_5_method_3_code 77 = .ok (.aload_n 0, 1) := by decide +kernel
theorem dd_92_78 : decode prog_5_method_3_code 78 = .ok (.getfield 44, 3) := by decide +kernel
theorem dd_92_81 : decode prog_5_method_3_code 81 = .ok (.aload_n 0, 1) := by decide +kernel
theorem dd_92_82 : decode prog_5_method_3_code 82 = .ok (.getfield 22, 3) := by decide +kernel
theorem dd_92_85 : decode prog_5_method_3_code 85 = .ok (.invokevirtual 91, 3) := by decide +kernel
theorem dd_92_88 : decode prog_5_method_3_code 88 = .ok (.putfield 22, 3) := by decide +kernel
theorem dd_92_91 : decode prog_5_method_3_code 91 = .ok (.return_, 1) := by decide +kernel
theorem kb_92_0 : am_row mi_92 0 kr_92_0 := am_rs rfl (ok_aload_n (k := 0) dd_92_0 rfl rfl) (am_rs rfl (ok_iconst dd_92_1 ic_0 rfl) (am_rs rfl (ok_pf dd_92_2 rfl am_ck3 (by decide) (Or.inl w_229) (Or.inl rfl) rfl) (am_rn rfl (am_rn rfl (am_rs rfl (ok_aload_n (k := 0) dd_92_5 rfl rfl) (am_rs rfl (ok_iconst dd_92_6 ic_0 rfl) (am_rs rfl (ok_pf dd_92_7 rfl am_ck3 (by decide) (Or.inl w_230) (Or.inl rfl) rfl) (am_rz))))))))
theorem kb_92_1 : am_row mi_92 8 kr_92_1 := am_rn rfl (am_rn rfl (am_rs rfl (ok_iconst dd_92_10 ic_0 rfl) (am_rs rfl (ok_istore_n (k := 2) dd_92_11 rfl rfl (by decide)) (am_rs rfl (ok_iload_n (k := 2) dd_92_12 rfl rfl) (am_rs rfl (ok_iload_n (k := 1) dd_92_13 rfl rfl) (am_rs rfl (ok_icmp dd_92_14 (by decide) rfl) (am_rn rfl (am_rz))))))))
theorem kb_92_2 : am_row mi_92 16 kr_92_2 := am_rn rfl (am_rs rfl (ok_iconst dd_92_17 ic_0 rfl) (am_rs rfl (ok_istore_n (k := 3) dd_92_18 rfl rfl (by decide)) (am_rs rfl (ok_iload_n (k := 3) dd_92_19 rfl rfl) (am_rs rfl (ok_aload_n (k := 0) dd_92_20 rfl rfl) (am_rs rfl (ok_gf dd_92_21 rfl am_ck3 (by decide) (Or.inl w_227)) (am_rn rfl (am_rn rfl (am_rz))))))))
theorem kb_92_3 : am_row mi_92 24 kr_92_3 := am_rs rfl (ok_icmp dd_92_24 (by decide) rfl) (am_rn rfl (am_rn rfl (am_rs rfl (ok_aload_n (k := 0) dd_92_27 rfl rfl) (am_rs rfl (ok_gf dd_92_28 rfl am_ck3 (by decide) (Or.inl w_225)) (am_rn rfl (am_rn rfl (am_rs rfl (ok_iload_n (k := 3) dd_92_31 rfl rfl) (am_rz))))))))
theorem kb_92_4 : am_row mi_92 32 kr_92_4 := am_rs rfl (ok_iload_n (k := 2) dd_92_32 rfl rfl) (am_rs rfl (ok_cv (M' := mi_68) dd_92_33 rfl rfl w_761 w_655 w_656 ⟨lk_68.1, lk_68.2.1, lk_68.2.2, by decide, by decide⟩ rfl) (am_rn rfl (am_rn rfl (am_rs rfl (ok_ifc dd_92_36 (by decide) rfl) (am_rn rfl (am_rn rfl (am_rs rfl (ok_aload_n (k := 0) dd_92_39 rfl rfl) (am_rz))))))))
theorem kb_92_5 : am_row mi_92 40 kr_92_5 := am_rs rfl (ok_dup dd_92_40 rfl) (am_rs rfl (ok_gf dd_92_41 rfl am_ck3 (by decide) (Or.inl w_229)) (am_rn rfl (am_rn rfl (am_rs rfl (ok_aload_n (k := 0) dd_92_44 rfl rfl) (am_rs rfl (ok_gf dd_92_45 rfl am_ck3 (by decide) (Or.inl w_225)) (am_rn rfl (am_rn rfl (am_rz))))))))
theorem kb_92_6 : am_row mi_92 48 kr_92_6 := am_rs rfl (ok_iload_n (k := 3) dd_92_48 rfl rfl) (am_rs rfl (ok_iload_n (k := 2) dd_92_49 rfl rfl) (am_rs rfl (ok_cv (M' := mi_68) dd_92_50 rfl rfl w_761 w_655 w_656 ⟨lk_68.1, lk_68.2.1, lk_68.2.2, by decide, by decide⟩ rfl) (am_rn rfl (am_rn rfl (am_rs rfl (ok_ior dd_92_53 rfl) (am_rs rfl (ok_pf dd_92_54 rfl am_ck3 (by decide) (Or.inl w_229) (Or.inl rfl) rfl) (am_rn rfl (am_rz))))))))
theorem kb_92_7 : am_row mi_92 56 kr_92_7 := am_rn rfl (am_rs rfl (ok_aload_n (k := 0) dd_92_57 rfl rfl) (am_rs rfl (ok_iload_n (k := 2) dd_92_58 rfl rfl) (am_rs rfl (ok_iconst dd_92_59 ic_1 rfl) (am_rs rfl (ok_iadd dd_92_60 rfl) (am_rs rfl (ok_pf dd_92_61 rfl am_ck3 (by decide) (Or.inl w_230) (Or.inl rfl) rfl) (am_rn rfl (am_rn rfl (am_rz))))))))
theorem kb_92_8 : am_row mi_92 64 kr_92_8 := am_rs rfl (ok_iinc dd_92_64 ic_1 rfl (by decide)) (am_rn rfl (am_rn rfl (am_rs rfl (ok_goto dd_92_67 (by decide)) (am_rn rfl (am_rn rfl (am_rs rfl (ok_iinc dd_92_70 ic_1 rfl (by decide)) (am_rn rfl (am_rz))))))))
theorem kb_92_9 : am_row mi_92 72 kr_92_9 := am_rn rfl (am_rs rfl (ok_goto dd_92_73 (by decide)) (am_rn rfl (am_rn rfl (am_rs rfl (ok_aload_n (k := 0) dd_92_76 rfl rfl) (am_rs rfl (ok_aload_n (k := 0) dd_92_77 rfl rfl) (am_rs rfl (ok_gf dd_92_78 rfl am_ck3 (by decide) (Or.inl w_226)) (am_rn rfl (am_rz))))))))
theorem kb_92_10 : am_row mi_92 80 kr_92_10 := am_rn rfl (am_rs rfl (ok_aload_n (k := 0) dd_92_81 rfl rfl) (am_rs rfl (ok_gf dd_92_82 rfl am_ck3 (by decide) (Or.inl w_229)) (am_rn rfl (am_rn rfl (am_rs rfl (ok_cv (M' := mi_57) dd_92_85 rfl rfl w_762 w_609 w_610 ⟨lk_57.1, lk_57.2.1, lk_57.2.2, by decide, by decide⟩ rfl) (am_rn rfl (am_rn rfl (am_rz))))))))
theorem kb_92_11 : am_row mi_92 88 kr_92_11 := am_rs rfl (ok_pf dd_92_88 rfl am_ck3 (by decide) (Or.inl w_229) (Or.inl rfl) rfl) (am_rn rfl (am_rn rfl (am_rs rfl (ok_vret dd_92_91 rfl) (am_rz))))
theorem ck_92 : am_rows mi_92 0 cd_92 := am_bs rfl kb_92_0 (am_bs rfl kb_92_1 (am_bs rfl kb_92_2 (am_bs rfl kb_92_3 (am_bs rfl kb_92_4 (am_bs rfl kb_92_5 (am_bs rfl kb_92_6 (am_bs rfl kb_92_7 (am_bs rfl kb_92_8 (am_bs rfl kb_92_9 (am_bs rfl kb_92_10 (am_bs rfl kb_92_11 (am_bz))))))))))))
/-- OverAndBack$Learning.reach(IIII)V -/
noncomputable def kr_93_0 : List (Option am_Op) := [some (am_ild 1 1), some (am_ald0 0 2), some (am_gf 3 6 5), none, none, some (am_br2 .gt 53 8), none, none]
noncomputable def kr_93_1 : List (Option am_Op) := [some (am_ild 4 10), none, some (am_ald0 0 11), some (am_gf 3 10 14), none, none, some (am_br2 .ge 53 17), none]
noncomputable def kr_93_2 : List (Option am_Op) := [none, some (am_ild 1 18), some (am_ild 2 19), some (am_ild 3 20), some (am_cs 94 3 23), none, none, some (am_br1 .eq 53 26)]
noncomputable def kr_93_3 : List (Option am_Op) := [none, none, some (am_ild 1 27), some (am_ild 2 28), some (am_ild 3 29), some (am_cs 95 3 32), none, none]
noncomputable def kr_93_4 : List (Option am_Op) := [some (am_ist 5 34), none, some (am_ald0 0 35), some (am_gf 3 0 38), none, none, some (am_ild 5 40), none]
noncomputable def kr_93_5 : List (Option am_Op) := [some (am_ald0 0 41), some (am_gf 3 0 44), none, none, some (am_ild 5 46), none, some (am_ald 0 47), some (am_ild 4 49)]
noncomputable def kr_93_6 : List (Option am_Op) := [none, some (am_mmin 52), none, none, some (am_ast 0 (fun v => v) 53), some (am_vret)]
noncomputable def cd_93 : am_Cd := [kr_93_0, kr_93_1, kr_93_2, kr_93_3, kr_93_4, kr_93_5, kr_93_6]
theorem dd_93_0 : decode prog_5_method_8_code 0 = .ok (.iload_n 1, 1) := by decide +kernel
theorem dd_93_1 : decode prog_5_method_8_code 1 = .ok (.aload_n 0, 1) := by decide +kernel
theorem dd_93_2 : decode prog_5_method_8_code 2 = .ok (.getfield 25, 3) := by decide +kernel
theorem dd_93_5 : decode prog_5_method_8_code 5 = .ok (.if_icmp .gt 48, 3) := by decide +kernel
theorem dd_93_8 : decode prog_5_method_8_code 8 = .ok (.iload 4, 2) := by decide +kernel
theorem dd_93_10 : decode prog_5_method_8_code 10 = .ok (.aload_n 0, 1) := by decide +kernel
theorem dd_93_11 : decode prog_5_method_8_code 11 = .ok (.getfield 37, 3) := by decide +kernel
theorem dd_93_14 : decode prog_5_method_8_code 14 = .ok (.if_icmp .ge 39, 3) := by decide +kernel
theorem dd_93_17 : decode prog_5_method_8_code 17 = .ok (.iload_n 1, 1) := by decide +kernel
theorem dd_93_18 : decode prog_5_method_8_code 18 = .ok (.iload_n 2, 1) := by decide +kernel
theorem dd_93_19 : decode prog_5_method_8_code 19 = .ok (.iload_n 3, 1) := by decide +kernel
theorem dd_93_20 : decode prog_5_method_8_code 20 = .ok (.invokestatic 112, 3) := by decide +kernel
theorem dd_93_23 : decode prog_5_method_8_code 23 = .ok (.ifCond .eq 30, 3) := by decide +kernel
theorem dd_93_26 : decode prog_5_method_8_code 26 = .ok (.iload_n 1, 1) := by decide +kernel
theorem dd_93_27 : decode prog_5_method_8_code 27 = .ok (.iload_n 2, 1) := by decide +kernel
theorem dd_93_28 : decode prog_5_method_8_code 28 = .ok (.iload_n 3, 1) := by decide +kernel
theorem dd_93_29 : decode prog_5_method_8_code 29 = .ok (.invokestatic 97, 3) := by decide +kernel
theorem dd_93_32 : decode prog_5_method_8_code 32 = .ok (.istore 5, 2) := by decide +kernel
theorem dd_93_34 : decode prog_5_method_8_code 34 = .ok (.aload_n 0, 1) := by decide +kernel
theorem dd_93_35 : decode prog_5_method_8_code 35 = .ok (.getfield 11, 3) := by decide +kernel
theorem dd_93_38 : decode prog_5_method_8_code 38 = .ok (.iload 5, 2) := by decide +kernel
theorem dd_93_40 : decode prog_5_method_8_code 40 = .ok (.aload_n 0, 1) := by decide +kernel
theorem dd_93_41 : decode prog_5_method_8_code 41 = .ok (.getfield 11, 3) := by decide +kernel
theorem dd_93_44 : decode prog_5_method_8_code 44 = .ok (.iload 5, 2) := by decide +kernel
theorem dd_93_46 : decode prog_5_method_8_code 46 = .ok (.iaload, 1) := by decide +kernel
theorem dd_93_47 : decode prog_5_method_8_code 47 = .ok (.iload 4, 2) := by decide +kernel
theorem dd_93_49 : decode prog_5_method_8_code 49 = .ok (.invokestatic 64, 3) := by decide +kernel
theorem dd_93_52 : decode prog_5_method_8_code 52 = .ok (.iastore, 1) := by decide +kernel
theorem dd_93_53 : decode prog_5_method_8_code 53 = .ok (.return_, 1) := by decide +kernel
theorem kb_93_0 : am_row mi_93 0 kr_93_0 := am_rs rfl (ok_iload_n (k := 1) dd_93_0 rfl rfl) (am_rs rfl (ok_aload_n (k := 0) dd_93_1 rfl rfl) (am_rs rfl (ok_gf dd_93_2 rfl am_ck3 (by decide) (Or.inl w_230)) (am_rn rfl (am_rn rfl (am_rs rfl (ok_icmp dd_93_5 (by decide) rfl) (am_rn rfl (am_rn rfl (am_rz))))))))
theorem kb_93_1 : am_row mi_93 8 kr_93_1 := am_rs rfl (ok_iload dd_93_8 rfl) (am_rn rfl (am_rs rfl (ok_aload_n (k := 0) dd_93_10 rfl rfl) (am_rs rfl (ok_gf dd_93_11 rfl am_ck3 (by decide) (Or.inl w_237)) (am_rn rfl (am_rn rfl (am_rs rfl (ok_icmp dd_93_14 (by decide) rfl) (am_rn rfl (am_rz))))))))
theorem kb_93_2 : am_row mi_93 16 kr_93_2 := am_rn rfl (am_rs rfl (ok_iload_n (k := 1) dd_93_17 rfl rfl) (am_rs rfl (ok_iload_n (k := 2) dd_93_18 rfl rfl) (am_rs rfl (ok_iload_n (k := 3) dd_93_19 rfl rfl) (am_rs rfl (ok_cs (M' := mi_94) dd_93_20 rfl rfl w_767 w_768 ⟨lk_94.1, lk_94.2.1, lk_94.2.2, by decide, by decide⟩) (am_rn rfl (am_rn rfl (am_rs rfl (ok_ifc dd_93_23 (by decide) rfl) (am_rz))))))))
theorem kb_93_3 : am_row mi_93 24 kr_93_3 := am_rn rfl (am_rn rfl (am_rs rfl (ok_iload_n (k := 1) dd_93_26 rfl rfl) (am_rs rfl (ok_iload_n (k := 2) dd_93_27 rfl rfl) (am_rs rfl (ok_iload_n (k := 3) dd_93_28 rfl rfl) (am_rs rfl (ok_cs (M' := mi_95) dd_93_29 rfl rfl w_770 w_771 ⟨lk_95.1, lk_95.2.1, lk_95.2.2, by decide, by decide⟩) (am_rn rfl (am_rn rfl (am_rz))))))))
theorem kb_93_4 : am_row mi_93 32 kr_93_4 := am_rs rfl (ok_istore dd_93_32 rfl (by decide)) (am_rn rfl (am_rs rfl (ok_aload_n (k := 0) dd_93_34 rfl rfl) (am_rs rfl (ok_gf dd_93_35 rfl am_ck3 (by decide) (Or.inl w_224)) (am_rn rfl (am_rn rfl (am_rs rfl (ok_iload dd_93_38 rfl) (am_rn rfl (am_rz))))))))
theorem kb_93_5 : am_row mi_93 40 kr_93_5 := am_rs rfl (ok_aload_n (k := 0) dd_93_40 rfl rfl) (am_rs rfl (ok_gf dd_93_41 rfl am_ck3 (by decide) (Or.inl w_224)) (am_rn rfl (am_rn rfl (am_rs rfl (ok_iload dd_93_44 rfl) (am_rn rfl (am_rs rfl (ok_iald dd_93_46 rfl) (am_rs rfl (ok_iload dd_93_47 rfl) (am_rz))))))))
theorem kb_93_6 : am_row mi_93 48 kr_93_6 := am_rn rfl (am_rs rfl (ok_mmin dd_93_49 rfl w_756 w_393 w_18 w_394 ⟨by decide, by decide⟩) (am_rn rfl (am_rn rfl (am_rs rfl (ok_iast dd_93_52 rfl) (am_rs rfl (ok_vret dd_93_53 rfl) (am_rz))))))
theorem ck_93 : am_rows mi_93 0 cd_93 := am_bs rfl kb_93_0 (am_bs rfl kb_93_1 (am_bs rfl kb_93_2 (am_bs rfl kb_93_3 (am_bs rfl kb_93_4 (am_bs rfl kb_93_5 (am_bs rfl kb_93_6 (am_bz)))))))
/-- OverAndBack$Learning.isThere(III)Z -/
noncomputable def kr_94_0 : List (Option am_Op) := [some (am_ild 0 1), some (am_br1 .lt 28 4), none, none, some (am_ild 1 5), some (am_br1 .lt 28 8), none, none]
noncomputable def kr_94_1 : List (Option am_Op) := [some (am_ild 1 9), some (am_psh (.retAddr 4) 10), some (am_br2 .ge 28 13), none, none, some (am_ild 2 14), some (am_br1 .lt 28 17), none]
noncomputable def kr_94_2 : List (Option am_Op) := [none, some (am_ild 2 18), some (am_psh (.retAddr 256) 21), none, none, some (am_br2 .ge 28 24), none, none]
noncomputable def kr_94_3 : List (Option am_Op) := [some (am_psh (.retAddr 1) 25), some (am_jmp 29), none, none, some (am_psh (.retAddr 0) 29), some (am_zret)]
noncomputable def cd_94 : am_Cd := [kr_94_0, kr_94_1, kr_94_2, kr_94_3]
theorem dd_94_0 : decode prog_5_method_9_code 0 = .ok (.iload_n 0, 1) := by decide +kernel
theorem dd_94_1 : decode prog_5_method_9_code 1 = .ok (.ifCond .lt 27, 3) := by decide +kernel
theorem dd_94_4 : decode prog_5_method_9_code 4 = .ok (.iload_n 1, 1) := by decide +kernel
theorem dd_94_5 : decode prog_5_method_9_code 5 = .ok (.ifCond .lt 23, 3) := by decide +kernel
theorem dd_94_8 : decode prog_5_method_9_code 8 = .ok (.iload_n 1, 1) := by decide +kernel
theorem dd_94_9 : decode prog_5_method_9_code 9 = .ok (.iconst 4, 1) := by decide +kernel
theorem dd_94_10 : decode prog_5_method_9_code 10 = .ok (.if_icmp .ge 18, 3) := by decide +kernel
theorem dd_94_13 : decode prog_5_method_9_code 13 = .ok (.iload_n 2, 1) := by decide +kernel
theorem dd_94_14 : decode prog_5_method_9_code 14 = .ok (.ifCond .lt 14, 3) := by decide +kernel
theorem dd_94_17 : decode prog_5_method_9_code 17 = .ok (.iload_n 2, 1) := by decide +kernel
theorem dd_94_18 : decode prog_5_method_9_code 18 = .ok (.sipush 256, 3) := by decide +kernel
theorem dd_94_21 : decode prog_5_method_9_code 21 = .ok (.if_icmp .ge 7, 3) := by decide +kernel
theorem dd_94_24 : decode prog_5_method_9_code 24 = .ok (.iconst 1, 1) := by decide +kernel
theorem dd_94_25 : decode prog_5_method_9_code 25 = .ok (.goto 4, 3) := by decide +kernel
theorem dd_94_28 : decode prog_5_method_9_code 28 = .ok (.iconst 0, 1) := by decide +kernel
theorem dd_94_29 : decode prog_5_method_9_code 29 = .ok (.ireturn, 1) := by decide +kernel
theorem kb_94_0 : am_row mi_94 0 kr_94_0 := am_rs rfl (ok_iload_n (k := 0) dd_94_0 rfl rfl) (am_rs rfl (ok_ifc dd_94_1 (by decide) rfl) (am_rn rfl (am_rn rfl (am_rs rfl (ok_iload_n (k := 1) dd_94_4 rfl rfl) (am_rs rfl (ok_ifc dd_94_5 (by decide) rfl) (am_rn rfl (am_rn rfl (am_rz))))))))
theorem kb_94_1 : am_row mi_94 8 kr_94_1 := am_rs rfl (ok_iload_n (k := 1) dd_94_8 rfl rfl) (am_rs rfl (ok_iconst dd_94_9 ic_4 rfl) (am_rs rfl (ok_icmp dd_94_10 (by decide) rfl) (am_rn rfl (am_rn rfl (am_rs rfl (ok_iload_n (k := 2) dd_94_13 rfl rfl) (am_rs rfl (ok_ifc dd_94_14 (by decide) rfl) (am_rn rfl (am_rz))))))))
theorem kb_94_2 : am_row mi_94 16 kr_94_2 := am_rn rfl (am_rs rfl (ok_iload_n (k := 2) dd_94_17 rfl rfl) (am_rs rfl (ok_sipush dd_94_18 si_256 rfl) (am_rn rfl (am_rn rfl (am_rs rfl (ok_icmp dd_94_21 (by decide) rfl) (am_rn rfl (am_rn rfl (am_rz))))))))
theorem kb_94_3 : am_row mi_94 24 kr_94_3 := am_rs rfl (ok_iconst dd_94_24 ic_1 rfl) (am_rs rfl (ok_goto dd_94_25 (by decide)) (am_rn rfl (am_rn rfl (am_rs rfl (ok_iconst dd_94_28 ic_0 rfl) (am_rs rfl (ok_zret dd_94_29 rfl) (am_rz))))))
theorem ck_94 : am_rows mi_94 0 cd_94 := am_bs rfl kb_94_0 (am_bs rfl kb_94_1 (am_bs rfl kb_94_2 (am_bs rfl kb_94_3 (am_bz))))
/-- OverAndBack$Learning.placeOf(III)I -/
noncomputable def kr_95_0 : List (Option am_Op) := [some (am_ild 0 1), some (am_psh (.retAddr 4) 2), some (am_bin2 Nat.mod 3), some (am_psh (.retAddr 4) 4), some (am_bin am_mul 5), some (am_ild 1 6), some (am_bin am_add 7), some (am_psh (.retAddr 256) 10)]
noncomputable def kr_95_1 : List (Option am_Op) := [none, none, some (am_bin am_mul 11), some (am_ild 2 12), some (am_bin am_add 13), some (am_iret)]
noncomputable def cd_95 : am_Cd := [kr_95_0, kr_95_1]
theorem dd_95_0 : decode prog_5_method_10_code 0 = .ok (.iload_n 0, 1) := by decide +kernel
theorem dd_95_1 : decode prog_5_method_10_code 1 = .ok (.iconst 4, 1) := by decide +kernel
theorem dd_95_2 : decode prog_5_method_10_code 2 = .ok (.irem, 1) := by decide +kernel
theorem dd_95_3 : decode prog_5_method_10_code 3 = .ok (.iconst 4, 1) := by decide +kernel
theorem dd_95_4 : decode prog_5_method_10_code 4 = .ok (.imul, 1) := by decide +kernel
theorem dd_95_5 : decode prog_5_method_10_code 5 = .ok (.iload_n 1, 1) := by decide +kernel
theorem dd_95_6 : decode prog_5_method_10_code 6 = .ok (.iadd, 1) := by decide +kernel
theorem dd_95_7 : decode prog_5_method_10_code 7 = .ok (.sipush 256, 3) := by decide +kernel
theorem dd_95_10 : decode prog_5_method_10_code 10 = .ok (.imul, 1) := by decide +kernel
theorem dd_95_11 : decode prog_5_method_10_code 11 = .ok (.iload_n 2, 1) := by decide +kernel
theorem dd_95_12 : decode prog_5_method_10_code 12 = .ok (.iadd, 1) := by decide +kernel
theorem dd_95_13 : decode prog_5_method_10_code 13 = .ok (.ireturn, 1) := by decide +kernel
theorem kb_95_0 : am_row mi_95 0 kr_95_0 := am_rs rfl (ok_iload_n (k := 0) dd_95_0 rfl rfl) (am_rs rfl (ok_iconst dd_95_1 ic_4 rfl) (am_rs rfl (ok_irem dd_95_2 rfl) (am_rs rfl (ok_iconst dd_95_3 ic_4 rfl) (am_rs rfl (ok_imul dd_95_4 rfl) (am_rs rfl (ok_iload_n (k := 1) dd_95_5 rfl rfl) (am_rs rfl (ok_iadd dd_95_6 rfl) (am_rs rfl (ok_sipush dd_95_7 si_256 rfl) (am_rz))))))))
theorem kb_95_1 : am_row mi_95 8 kr_95_1 := am_rn rfl (am_rn rfl (am_rs rfl (ok_imul dd_95_10 rfl) (am_rs rfl (ok_iload_n (k := 2) dd_95_11 rfl rfl) (am_rs rfl (ok_iadd dd_95_12 rfl) (am_rs rfl (ok_iret dd_95_13 rfl) (am_rz))))))
theorem ck_95 : am_rows mi_95 0 cd_95 := am_bs rfl kb_95_0 (am_bs rfl kb_95_1 (am_bz))
/-- OverAndBack$Learning.takeOut(III)V -/
noncomputable def kr_96_0 : List (Option am_Op) := [some (am_ild 1 1), some (am_ild 2 2), some (am_psh (.retAddr 0) 3), some (am_cs 95 3 6), none, none, some (am_ist 4 8), none]
noncomputable def kr_96_1 : List (Option am_Op) := [some (am_psh (.retAddr 0) 9), some (am_ist 5 11), none, some (am_ild 5 13), none, some (am_ald0 0 14), some (am_gf 3 5 17), none]
noncomputable def kr_96_2 : List (Option am_Op) := [none, some (am_br2 .gt 81 20), none, none, some (am_ild 4 22), none, some (am_ild 5 24), none]
noncomputable def kr_96_3 : List (Option am_Op) := [some (am_bin am_add 25), some (am_ald0 0 26), some (am_gf 3 0 29), none, none, some (am_len 30), some (am_br2 .ge 81 33), none]
noncomputable def kr_96_4 : List (Option am_Op) := [none, some (am_ald0 0 34), some (am_gf 3 0 37), none, none, some (am_ild 4 39), none, some (am_ild 5 41)]
noncomputable def kr_96_5 : List (Option am_Op) := [none, some (am_bin am_add 42), some (am_ald 0 43), some (am_ist 6 45), none, some (am_ild 6 47), none, some (am_psh (.retAddr 99) 49)]
noncomputable def kr_96_6 : List (Option am_Op) := [none, some (am_br2 .eq 75 52), none, none, some (am_ald0 0 53), some (am_gf 3 0 56), none, none]
noncomputable def kr_96_7 : List (Option am_Op) := [some (am_ild 4 58), none, some (am_ild 5 60), none, some (am_bin am_add 61), some (am_psh (.retAddr 99) 63), none, some (am_ast 0 (fun v => v) 64)]
noncomputable def kr_96_8 : List (Option am_Op) := [some (am_ald0 0 65), some (am_ild 1 66), some (am_ild 2 67), some (am_ild 5 69), none, some (am_ild 6 71), none, some (am_ild 3 72)]
noncomputable def kr_96_9 : List (Option am_Op) := [some (am_cv 97 5 3 75), none, none, some (am_inc 5 1 78), none, none, some (am_jmp 11), none]
noncomputable def kr_96_10 : List (Option am_Op) := [none, some (am_vret)]
noncomputable def cd_96 : am_Cd := [kr_96_0, kr_96_1, kr_96_2, kr_96_3, kr_96_4, kr_96_5, kr_96_6, kr_96_7, kr_96_8, kr_96_9, kr_96_10]
theorem dd_96_0 : decode prog_5_method_4_code 0 = .ok (.iload_n 1, 1) := by decide +kernel
theorem dd_96_1 : decode prog_5_method_4_code 1 = .ok (.iload_n 2, 1) := by decide +kernel
theorem dd_96_2 : decode prog_5_method_4_code 2 = .ok (.iconst 0, 1) := by decide +kernel
theorem dd_96_3 : decode prog_5_method_4_code 3 = .ok (.invokestatic 97, 3) := by decide +kernel
theorem dd_96_6 : decode prog_5_method_4_code 6 = .ok (.istore 4, 2) := by decide +kernel
theorem dd_96_8 : decode prog_5_method_4_code 8 = .ok (.iconst 0, 1) := by decide +kernel
theorem dd_96_9 : decode prog_5_method_4_code 9 = .ok (.istore 5, 2) := by decide +kernel
theorem dd_96_11 : decode prog_5_method_4_code 11 = .ok (.iload 5, 2) := by decide +kernel
theorem dd_96_13 : decode prog_5_method_4_code 13 = .ok (.aload_n 0, 1) := by decide +kernel
theorem dd_96_14 : decode prog_5_method_4_code 14 = .ok (.getfield 22, 3) := by decide +kernel
theorem dd_96_17 : decode prog_5_method_4_code 17 = .ok (.if_icmp .gt 64, 3) := by decide +kernel
theorem dd_96_20 : decode prog_5_method_4_code 20 = .ok (.iload 4, 2) := by decide +kernel
theorem dd_96_22 : decode prog_5_method_4_code 22 = .ok (.iload 5, 2) := by decide +kernel
theorem dd_96_24 : decode prog_5_method_4_code 24 = .ok (.iadd, 1) := by decide +kernel
theorem dd_96_25 : decode prog_5_method_4_code 25 = .ok (.aload_n 0, 1) := by decide +kernel
theorem dd_96_26 : decode prog_5_method_4_code 26 = .ok (.getfield 11, 3) := by decide +kernel
theorem dd_96_29 : decode prog_5_method_4_code 29 = .ok (.arraylength, 1) := by decide +kernel
theorem dd_96_30 : decode prog_5_method_4_code 30 = .ok (.if_icmp .ge 51, 3) := by decide +kernel
theorem dd_96_33 : decode prog_5_method_4_code 33 = .ok (.aload_n 0, 1) := by decide +kernel
theorem dd_96_34 : decode prog_5_method_4_code 34 = .ok (.getfield 11, 3) := by decide +kernel
theorem dd_96_37 : decode prog_5_method_4_code 37 = .ok (.iload 4, 2) := by decide +kernel
theorem dd_96_39 : decode prog_5_method_4_code 39 = .ok (.iload 5, 2) := by decide +kernel
theorem dd_96_41 : decode prog_5_method_4_code 41 = .ok (.iadd, 1) := by decide +kernel
theorem dd_96_42 : decode prog_5_method_4_code 42 = .ok (.iaload, 1) := by decide +kernel
theorem dd_96_43 : decode prog_5_method_4_code 43 = .ok (.istore 6, 2) := by decide +kernel
theorem dd_96_45 : decode prog_5_method_4_code 45 = .ok (.iload 6, 2) := by decide +kernel
theorem dd_96_47 : decode prog_5_method_4_code 47 = .ok (.bipush 99, 2) := by decide +kernel
theorem dd_96_49 : decode prog_5_method_4_code 49 = .ok (.if_icmp .eq 26, 3) := by decide +kernel
theorem dd_96_52 : decode prog_5_method_4_code 52 = .ok (.aload_n 0, 1) := by decide +kernel
theorem dd_96_53 : decode prog_5_method_4_code 53 = .ok (.getfield 11, 3) := by decide +kernel
theorem dd_96_56 : decode prog_5_method_4_code 56 = .ok (.iload 4, 2) := by decide +kernel
theorem dd_96_58 : decode prog_5_method_4_code 58 = .ok (.iload 5, 2) := by decide +kernel
theorem dd_96_60 : decode prog_5_method_4_code 60 = .ok (.iadd, 1) := by decide +kernel
theorem dd_96_61 : decode prog_5_method_4_code 61 = .ok (.bipush 99, 2) := by decide +kernel
theorem dd_96_63 : decode prog_5_method_4_code 63 = .ok (.iastore, 1) := by decide +kernel
theorem dd_96_64 : decode prog_5_method_4_code 64 = .ok (.aload_n 0, 1) := by decide +kernel
theorem dd_96_65 : decode prog_5_method_4_code 65 = .ok (.iload_n 1, 1) := by decide +kernel
theorem dd_96_66 : decode prog_5_method_4_code 66 = .ok (.iload_n 2, 1) := by decide +kernel
theorem dd_96_67 : decode prog_5_method_4_code 67 = .ok (.iload 5, 2) := by decide +kernel
theorem dd_96_69 : decode prog_5_method_4_code 69 = .ok (.iload 6, 2) := by decide +kernel
theorem dd_96_71 : decode prog_5_method_4_code 71 = .ok (.iload_n 3, 1) := by decide +kernel
theorem dd_96_72 : decode prog_5_method_4_code 72 = .ok (.invokevirtual 101, 3) := by decide +kernel
theorem dd_96_75 : decode prog_5_method_4_code 75 = .ok (.iinc 5 1, 3) := by decide +kernel
theorem dd_96_78 : decode prog_5_method_4_code 78 = .ok (.goto (-67), 3) := by decide +kernel
theorem dd_96_81 : decode prog_5_method_4_code 81 = .ok (.return_, 1) := by decide +kernel
theorem kb_96_0 : am_row mi_96 0 kr_96_0 := am_rs rfl (ok_iload_n (k := 1) dd_96_0 rfl rfl) (am_rs rfl (ok_iload_n (k := 2) dd_96_1 rfl rfl) (am_rs rfl (ok_iconst dd_96_2 ic_0 rfl) (am_rs rfl (ok_cs (M' := mi_95) dd_96_3 rfl rfl w_770 w_771 ⟨lk_95.1, lk_95.2.1, lk_95.2.2, by decide, by decide⟩) (am_rn rfl (am_rn rfl (am_rs rfl (ok_istore dd_96_6 rfl (by decide)) (am_rn rfl (am_rz))))))))
theorem kb_96_1 : am_row mi_96 8 kr_96_1 := am_rs rfl (ok_iconst dd_96_8 ic_0 rfl) (am_rs rfl (ok_istore dd_96_9 rfl (by decide)) (am_rn rfl (am_rs rfl (ok_iload dd_96_11 rfl) (am_rn rfl (am_rs rfl (ok_aload_n (k := 0) dd_96_13 rfl rfl) (am_rs rfl (ok_gf dd_96_14 rfl am_ck3 (by decide) (Or.inl w_229)) (am_rn rfl (am_rz))))))))
theorem kb_96_2 : am_row mi_96 16 kr_96_2 := am_rn rfl (am_rs rfl (ok_icmp dd_96_17 (by decide) rfl) (am_rn rfl (am_rn rfl (am_rs rfl (ok_iload dd_96_20 rfl) (am_rn rfl (am_rs rfl (ok_iload dd_96_22 rfl) (am_rn rfl (am_rz))))))))
theorem kb_96_3 : am_row mi_96 24 kr_96_3 := am_rs rfl (ok_iadd dd_96_24 rfl) (am_rs rfl (ok_aload_n (k := 0) dd_96_25 rfl rfl) (am_rs rfl (ok_gf dd_96_26 rfl am_ck3 (by decide) (Or.inl w_224)) (am_rn rfl (am_rn rfl (am_rs rfl (ok_len dd_96_29 rfl) (am_rs rfl (ok_icmp dd_96_30 (by decide) rfl) (am_rn rfl (am_rz))))))))
theorem kb_96_4 : am_row mi_96 32 kr_96_4 := am_rn rfl (am_rs rfl (ok_aload_n (k := 0) dd_96_33 rfl rfl) (am_rs rfl (ok_gf dd_96_34 rfl am_ck3 (by decide) (Or.inl w_224)) (am_rn rfl (am_rn rfl (am_rs rfl (ok_iload dd_96_37 rfl) (am_rn rfl (am_rs rfl (ok_iload dd_96_39 rfl) (am_rz))))))))
theorem kb_96_5 : am_row mi_96 40 kr_96_5 := am_rn rfl (am_rs rfl (ok_iadd dd_96_41 rfl) (am_rs rfl (ok_iald dd_96_42 rfl) (am_rs rfl (ok_istore dd_96_43 rfl (by decide)) (am_rn rfl (am_rs rfl (ok_iload dd_96_45 rfl) (am_rn rfl (am_rs rfl (ok_bipush dd_96_47 bi_99 rfl) (am_rz))))))))
theorem kb_96_6 : am_row mi_96 48 kr_96_6 := am_rn rfl (am_rs rfl (ok_icmp dd_96_49 (by decide) rfl) (am_rn rfl (am_rn rfl (am_rs rfl (ok_aload_n (k := 0) dd_96_52 rfl rfl) (am_rs rfl (ok_gf dd_96_53 rfl am_ck3 (by decide) (Or.inl w_224)) (am_rn rfl (am_rn rfl (am_rz))))))))
theorem kb_96_7 : am_row mi_96 56 kr_96_7 := am_rs rfl (ok_iload dd_96_56 rfl) (am_rn rfl (am_rs rfl (ok_iload dd_96_58 rfl) (am_rn rfl (am_rs rfl (ok_iadd dd_96_60 rfl) (am_rs rfl (ok_bipush dd_96_61 bi_99 rfl) (am_rn rfl (am_rs rfl (ok_iast dd_96_63 rfl) (am_rz))))))))
theorem kb_96_8 : am_row mi_96 64 kr_96_8 := am_rs rfl (ok_aload_n (k := 0) dd_96_64 rfl rfl) (am_rs rfl (ok_iload_n (k := 1) dd_96_65 rfl rfl) (am_rs rfl (ok_iload_n (k := 2) dd_96_66 rfl rfl) (am_rs rfl (ok_iload dd_96_67 rfl) (am_rn rfl (am_rs rfl (ok_iload dd_96_69 rfl) (am_rn rfl (am_rs rfl (ok_iload_n (k := 3) dd_96_71 rfl rfl) (am_rz))))))))
theorem kb_96_9 : am_row mi_96 72 kr_96_9 := am_rs rfl (ok_cv (M' := mi_97) dd_96_72 rfl rfl w_777 w_779 ps_97 ⟨lk_97.1, lk_97.2.1, lk_97.2.2, by decide, by decide⟩ rfl) (am_rn rfl (am_rn rfl (am_rs rfl (ok_iinc dd_96_75 ic_1 rfl (by decide)) (am_rn rfl (am_rn rfl (am_rs rfl (ok_goto dd_96_78 (by decide)) (am_rn rfl (am_rz))))))))
theorem kb_96_10 : am_row mi_96 80 kr_96_10 := am_rn rfl (am_rs rfl (ok_vret dd_96_81 rfl) (am_rz))
theorem ck_96 : am_rows mi_96 0 cd_96 := am_bs rfl kb_96_0 (am_bs rfl kb_96_1 (am_bs rfl kb_96_2 (am_bs rfl kb_96_3 (am_bs rfl kb_96_4 (am_bs rfl kb_96_5 (am_bs rfl kb_96_6 (am_bs rfl kb_96_7 (am_bs rfl kb_96_8 (am_bs rfl kb_96_9 (am_bs rfl kb_96_10 (am_bz)))))))))))
/-- OverAndBack$Learning.passOn(IIIII)V -/
noncomputable def kr_97_0 : List (Option am_Op) := [some (am_ild 3 1), some (am_ild 5 3), none, some (am_bin Nat.land 4), some (am_ild 5 6), none, some (am_br2 .ne 17 9), none]
noncomputable def kr_97_1 : List (Option am_Op) := [none, some (am_ald0 0 10), some (am_ild 1 11), some (am_ild 4 13), none, some (am_cv 98 2 3 16), none, none]
noncomputable def kr_97_2 : List (Option am_Op) := [some (am_vret), some (am_ald0 0 18), some (am_ild 1 19), some (am_ild 2 20), some (am_ild 3 21), some (am_ild 4 23), none, some (am_cv 99 4 3 26)]
noncomputable def kr_97_3 : List (Option am_Op) := [none, none, some (am_psh (.retAddr 0) 27), some (am_ist 6 29), none, some (am_ild 6 31), none, some (am_ald0 0 32)]
noncomputable def kr_97_4 : List (Option am_Op) := [some (am_gf 3 3 35), none, none, some (am_br2 .ge 95 38), none, none, some (am_ild 6 40), none]
noncomputable def kr_97_5 : List (Option am_Op) := [some (am_ild 2 41), some (am_br2 .eq 66 44), none, none, some (am_ald0 0 45), some (am_gf 3 4 48), none, none]
noncomputable def kr_97_6 : List (Option am_Op) := [some (am_br1 .ne 66 51), none, none, some (am_ald0 0 52), some (am_ild 1 53), some (am_ild 6 55), none, some (am_ild 3 56)]
noncomputable def kr_97_7 : List (Option am_Op) := [some (am_ild 4 58), none, some (am_psh (.retAddr 1) 59), some (am_bin am_add 60), some (am_cv 99 4 3 63), none, none, some (am_jmp 89)]
noncomputable def kr_97_8 : List (Option am_Op) := [none, none, some (am_ild 6 68), none, some (am_ild 2 69), some (am_br2 .eq 89 72), none, none]
noncomputable def kr_97_9 : List (Option am_Op) := [some (am_ald0 0 73), some (am_ild 1 74), some (am_ald0 0 75), some (am_gf 3 4 78), none, none, some (am_bin am_add 79), some (am_ild 6 81)]
noncomputable def kr_97_10 : List (Option am_Op) := [none, some (am_ild 3 82), some (am_ild 4 84), none, some (am_psh (.retAddr 1) 85), some (am_bin am_add 86), some (am_cv 93 4 3 89), none]
noncomputable def kr_97_11 : List (Option am_Op) := [none, some (am_inc 6 1 92), none, none, some (am_jmp 29), none, none, some (am_vret)]
noncomputable def cd_97 : am_Cd := [kr_97_0, kr_97_1, kr_97_2, kr_97_3, kr_97_4, kr_97_5, kr_97_6, kr_97_7, kr_97_8, kr_97_9, kr_97_10, kr_97_11]
theorem dd_97_0 : decode prog_5_method_5_code 0 = .ok (.iload_n 3, 1) := by decide +kernel
theorem dd_97_1 : decode prog_5_method_5_code 1 = .ok (.iload 5, 2) := by decide +kernel
theorem dd_97_3 : decode prog_5_method_5_code 3 = .ok (.iand, 1) := by decide +kernel
theorem dd_97_4 : decode prog_5_method_5_code 4 = .ok (.iload 5, 2) := by decide +kernel
theorem dd_97_6 : decode prog_5_method_5_code 6 = .ok (.if_icmp .ne 11, 3) := by decide +kernel
theorem dd_97_9 : decode prog_5_method_5_code 9 = .ok (.aload_n 0, 1) := by decide +kernel
theorem dd_97_10 : decode prog_5_method_5_code 10 = .ok (.iload_n 1, 1) := by decide +kernel
theorem dd_97_11 : decode prog_5_method_5_code 11 = .ok (.iload 4, 2) := by decide +kernel
theorem dd_97_13 : decode prog_5_method_5_code 13 = .ok (.invokevirtual 105, 3) := by decide +kernel
theorem dd_97_16 : decode prog_5_method_5_code 16 = .ok (.return_, 1) := by decide +kernel
theorem dd_97_17 : decode prog_5_method_5_code 17 = .ok (.aload_n 0, 1) := by decide +kernel
theorem dd_97_18 : decode prog_5_method_5_code 18 = .ok (.iload_n 1, 1) := by decide +kernel
theorem dd_97_19 : decode prog_5_method_5_code 19 = .ok (.iload_n 2, 1) := by decide +kernel
theorem dd_97_20 : decode prog_5_method_5_code 20 = .ok (.iload_n 3, 1) := by decide +kernel
theorem dd_97_21 : decode prog_5_method_5_code 21 = .ok (.iload 4, 2) := by decide +kernel
theorem dd_97_23 : decode prog_5_method_5_code 23 = .ok (.invokevirtual 109, 3) := by decide +kernel
theorem dd_97_26 : decode prog_5_method_5_code 26 = .ok (.iconst 0, 1) := by decide +kernel
theorem dd_97_27 : decode prog_5_method_5_code 27 = .ok (.istore 6, 2) := by decide +kernel
theorem dd_97_29 : decode prog_5_method_5_code 29 = .ok (.iload 6, 2) := by decide +kernel
theorem dd_97_31 : decode prog_5_method_5_code 31 = .ok (.aload_n 0, 1) := by decide +kernel
theorem dd_97_32 : decode prog_5_method_5_code 32 = .ok (.getfield 15, 3) := by decide +kernel
theorem dd_97_35 : decode prog_5_method_5_code 35 = .ok (.if_icmp .ge 60, 3) := by decide +kernel
theorem dd_97_38 : decode prog_5_method_5_code 38 = .ok (.iload 6, 2) := by decide +kernel
theorem dd_97_40 : decode prog_5_method_5_code 40 = .ok (.iload_n 2, 1) := by decide +kernel
theorem dd_97_41 : decode prog_5_method_5_code 41 = .ok (.if_icmp .eq 25, 3) := by decide +kernel
theorem dd_97_44 : decode prog_5_method_5_code 44 = .ok (.aload_n 0, 1) := by decide +kernel
theorem dd_97_45 : decode prog_5_method_5_code 45 = .ok (.getfield 19, 3) := by decide +kernel
theorem dd_97_48 : decode prog_5_method_5_code 48 = .ok (.ifCond .ne 18, 3) := by decide +kernel
theorem dd_97_51 : decode prog_5_method_5_code 51 = .ok (.aload_n 0, 1) := by decide +kernel
theorem dd_97_52 : decode prog_5_method_5_code 52 = .ok (.iload_n 1, 1) := by decide +kernel
theorem dd_97_53 : decode prog_5_method_5_code 53 = .ok (.iload 6, 2) := by decide +kernel
theorem dd_97_55 : decode prog_5_method_5_code 55 = .ok (.iload_n 3, 1) := by decide +kernel
theorem dd_97_56 : decode prog_5_method_5_code 56 = .ok (.iload 4, 2) := by decide +kernel
theorem dd_97_58 : decode prog_5_method_5_code 58 = .ok (.iconst 1, 1) := by decide +kernel
theorem dd_97_59 : decode prog_5_method_5_code 59 = .ok (.iadd, 1) := by decide +kernel
theorem dd_97_60 : decode prog_5_method_5_code 60 = .ok (.invokevirtual 109, 3) := by decide +kernel
theorem dd_97_63 : decode prog_5_method_5_code 63 = .ok (.goto 26, 3) := by decide +kernel
theorem dd_97_66 : decode prog_5_method_5_code 66 = .ok (.iload 6, 2) := by decide +kernel
theorem dd_97_68 : decode prog_5_method_5_code 68 = .ok (.iload_n 2, 1) := by decide +kernel
theorem dd_97_69 : decode prog_5_method_5_code 69 = .ok (.if_icmp .eq 20, 3) := by decide +kernel
theorem dd_97_72 : decode prog_5_method_5_code 72 = .ok (.aload_n 0, 1) := by decide +kernel
theorem dd_97_73 : decode prog_5_method_5_code 73 = .ok (.iload_n 1, 1) := by decide +kernel
theorem dd_97_74 : decode prog_5_method_5_code 74 = .ok (.aload_n 0, 1) := by decide +kernel
theorem dd_97_75 : decode prog_5_method_5_code 75 = .ok (.getfield 19, 3) := by decide +kernel
theorem dd_97_78 : decode prog_5_method_5_code 78 = .ok (.iadd, 1) := by decide +kernel
theorem dd_97_79 : decode prog_5_method_5_code 79 = .ok (.iload 6, 2) := by decide +kernel
theorem dd_97_81 : decode prog_5_method_5_code 81 = .ok (.iload_n 3, 1) := by decide +kernel
theorem dd_97_82 : decode prog_5_method_5_code 82 = .ok (.iload 4, 2) := by decide +kernel
theorem dd_97_84 : decode prog_5_method_5_code 84 = .ok (.iconst 1, 1) := by decide +kernel
theorem dd_97_85 : decode prog_5_method_5_code 85 = .ok (.iadd, 1) := by decide +kernel
theorem dd_97_86 : decode prog_5_method_5_code 86 = .ok (.invokevirtual 78, 3) := by decide +kernel
theorem dd_97_89 : decode prog_5_method_5_code 89 = .ok (.iinc 6 1, 3) := by decide +kernel
theorem dd_97_92 : decode prog_5_method_5_code 92 = .ok (.goto (-63), 3) := by decide +kernel
theorem dd_97_95 : decode prog_5_method_5_code 95 = .ok (.return_, 1) := by decide +kernel
theorem kb_97_0 : am_row mi_97 0 kr_97_0 := am_rs rfl (ok_iload_n (k := 3) dd_97_0 rfl rfl) (am_rs rfl (ok_iload dd_97_1 rfl) (am_rn rfl (am_rs rfl (ok_iand dd_97_3 rfl) (am_rs rfl (ok_iload dd_97_4 rfl) (am_rn rfl (am_rs rfl (ok_icmp dd_97_6 (by decide) rfl) (am_rn rfl (am_rz))))))))
theorem kb_97_1 : am_row mi_97 8 kr_97_1 := am_rn rfl (am_rs rfl (ok_aload_n (k := 0) dd_97_9 rfl rfl) (am_rs rfl (ok_iload_n (k := 1) dd_97_10 rfl rfl) (am_rs rfl (ok_iload dd_97_11 rfl) (am_rn rfl (am_rs rfl (ok_cv (M' := mi_98) dd_97_13 rfl rfl w_781 w_783 ps_98 ⟨lk_98.1, lk_98.2.1, lk_98.2.2, by decide, by decide⟩ rfl) (am_rn rfl (am_rn rfl (am_rz))))))))
theorem kb_97_2 : am_row mi_97 16 kr_97_2 := am_rs rfl (ok_vret dd_97_16 rfl) (am_rs rfl (ok_aload_n (k := 0) dd_97_17 rfl rfl) (am_rs rfl (ok_iload_n (k := 1) dd_97_18 rfl rfl) (am_rs rfl (ok_iload_n (k := 2) dd_97_19 rfl rfl) (am_rs rfl (ok_iload_n (k := 3) dd_97_20 rfl rfl) (am_rs rfl (ok_iload dd_97_21 rfl) (am_rn rfl (am_rs rfl (ok_cv (M' := mi_99) dd_97_23 rfl rfl w_785 w_787 ps_99 ⟨lk_99.1, lk_99.2.1, lk_99.2.2, by decide, by decide⟩ rfl) (am_rz))))))))
theorem kb_97_3 : am_row mi_97 24 kr_97_3 := am_rn rfl (am_rn rfl (am_rs rfl (ok_iconst dd_97_26 ic_0 rfl) (am_rs rfl (ok_istore dd_97_27 rfl (by decide)) (am_rn rfl (am_rs rfl (ok_iload dd_97_29 rfl) (am_rn rfl (am_rs rfl (ok_aload_n (k := 0) dd_97_31 rfl rfl) (am_rz))))))))
theorem kb_97_4 : am_row mi_97 32 kr_97_4 := am_rs rfl (ok_gf dd_97_32 rfl am_ck3 (by decide) (Or.inl w_227)) (am_rn rfl (am_rn rfl (am_rs rfl (ok_icmp dd_97_35 (by decide) rfl) (am_rn rfl (am_rn rfl (am_rs rfl (ok_iload dd_97_38 rfl) (am_rn rfl (am_rz))))))))
theorem kb_97_5 : am_row mi_97 40 kr_97_5 := am_rs rfl (ok_iload_n (k := 2) dd_97_40 rfl rfl) (am_rs rfl (ok_icmp dd_97_41 (by decide) rfl) (am_rn rfl (am_rn rfl (am_rs rfl (ok_aload_n (k := 0) dd_97_44 rfl rfl) (am_rs rfl (ok_gf dd_97_45 rfl am_ck3 (by decide) (Or.inl w_228)) (am_rn rfl (am_rn rfl (am_rz))))))))
theorem kb_97_6 : am_row mi_97 48 kr_97_6 := am_rs rfl (ok_ifc dd_97_48 (by decide) rfl) (am_rn rfl (am_rn rfl (am_rs rfl (ok_aload_n (k := 0) dd_97_51 rfl rfl) (am_rs rfl (ok_iload_n (k := 1) dd_97_52 rfl rfl) (am_rs rfl (ok_iload dd_97_53 rfl) (am_rn rfl (am_rs rfl (ok_iload_n (k := 3) dd_97_55 rfl rfl) (am_rz))))))))
theorem kb_97_7 : am_row mi_97 56 kr_97_7 := am_rs rfl (ok_iload dd_97_56 rfl) (am_rn rfl (am_rs rfl (ok_iconst dd_97_58 ic_1 rfl) (am_rs rfl (ok_iadd dd_97_59 rfl) (am_rs rfl (ok_cv (M' := mi_99) dd_97_60 rfl rfl w_785 w_787 ps_99 ⟨lk_99.1, lk_99.2.1, lk_99.2.2, by decide, by decide⟩ rfl) (am_rn rfl (am_rn rfl (am_rs rfl (ok_goto dd_97_63 (by decide)) (am_rz))))))))
theorem kb_97_8 : am_row mi_97 64 kr_97_8 := am_rn rfl (am_rn rfl (am_rs rfl (ok_iload dd_97_66 rfl) (am_rn rfl (am_rs rfl (ok_iload_n (k := 2) dd_97_68 rfl rfl) (am_rs rfl (ok_icmp dd_97_69 (by decide) rfl) (am_rn rfl (am_rn rfl (am_rz))))))))
theorem kb_97_9 : am_row mi_97 72 kr_97_9 := am_rs rfl (ok_aload_n (k := 0) dd_97_72 rfl rfl) (am_rs rfl (ok_iload_n (k := 1) dd_97_73 rfl rfl) (am_rs rfl (ok_aload_n (k := 0) dd_97_74 rfl rfl) (am_rs rfl (ok_gf dd_97_75 rfl am_ck3 (by decide) (Or.inl w_228)) (am_rn rfl (am_rn rfl (am_rs rfl (ok_iadd dd_97_78 rfl) (am_rs rfl (ok_iload dd_97_79 rfl) (am_rz))))))))
theorem kb_97_10 : am_row mi_97 80 kr_97_10 := am_rn rfl (am_rs rfl (ok_iload_n (k := 3) dd_97_81 rfl rfl) (am_rs rfl (ok_iload dd_97_82 rfl) (am_rn rfl (am_rs rfl (ok_iconst dd_97_84 ic_1 rfl) (am_rs rfl (ok_iadd dd_97_85 rfl) (am_rs rfl (ok_cv (M' := mi_93) dd_97_86 rfl rfl w_763 w_765 ps_93 ⟨lk_93.1, lk_93.2.1, lk_93.2.2, by decide, by decide⟩ rfl) (am_rn rfl (am_rz))))))))
theorem kb_97_11 : am_row mi_97 88 kr_97_11 := am_rn rfl (am_rs rfl (ok_iinc dd_97_89 ic_1 rfl (by decide)) (am_rn rfl (am_rn rfl (am_rs rfl (ok_goto dd_97_92 (by decide)) (am_rn rfl (am_rn rfl (am_rs rfl (ok_vret dd_97_95 rfl) (am_rz))))))))
theorem ck_97 : am_rows mi_97 0 cd_97 := am_bs rfl kb_97_0 (am_bs rfl kb_97_1 (am_bs rfl kb_97_2 (am_bs rfl kb_97_3 (am_bs rfl kb_97_4 (am_bs rfl kb_97_5 (am_bs rfl kb_97_6 (am_bs rfl kb_97_7 (am_bs rfl kb_97_8 (am_bs rfl kb_97_9 (am_bs rfl kb_97_10 (am_bs rfl kb_97_11 (am_bz))))))))))))
/-- OverAndBack$Learning.note(II)V -/
noncomputable def kr_98_0 : List (Option am_Op) := [some (am_ald0 0 1), some (am_gf 3 9 4), none, none, some (am_psh (.retAddr 4294967292) 6), none, some (am_br2 .ne 14 9), none]
noncomputable def kr_98_1 : List (Option am_Op) := [none, some (am_ald0 0 10), some (am_ild 1 11), some (am_pf 3 9 0 14), none, none, some (am_ild 2 15), some (am_ald0 0 16)]
noncomputable def kr_98_2 : List (Option am_Op) := [some (am_gf 3 10 19), none, none, some (am_br2 .ge 37 22), none, none, some (am_ald0 0 23), some (am_ild 2 24)]
noncomputable def kr_98_3 : List (Option am_Op) := [some (am_pf 3 10 0 27), none, none, some (am_ald0 0 28), some (am_ild 2 29), some (am_pf 3 7 0 32), none, none]
noncomputable def kr_98_4 : List (Option am_Op) := [some (am_ald0 0 33), some (am_ild 1 34), some (am_pf 3 8 0 37), none, none, some (am_vret)]
noncomputable def cd_98 : am_Cd := [kr_98_0, kr_98_1, kr_98_2, kr_98_3, kr_98_4]
theorem dd_98_0 : decode prog_5_method_6_code 0 = .ok (.aload_n 0, 1) := by decide +kernel
theorem dd_98_1 : decode prog_5_method_6_code 1 = .ok (.getfield 34, 3) := by decide +kernel
theorem dd_98_4 : decode prog_5_method_6_code 4 = .ok (.bipush (-4), 2) := by decide +kernel
theorem dd_98_6 : decode prog_5_method_6_code 6 = .ok (.if_icmp .ne 8, 3) := by decide +kernel
theorem dd_98_9 : decode prog_5_method_6_code 9 = .ok (.aload_n 0, 1) := by decide +kernel
theorem dd_98_10 : decode prog_5_method_6_code 10 = .ok (.iload_n 1, 1) := by decide +kernel
theorem dd_98_11 : decode prog_5_method_6_code 11 = .ok (.putfield 34, 3) := by decide +kernel
theorem dd_98_14 : decode prog_5_method_6_code 14 = .ok (.iload_n 2, 1) := by decide +kernel
theorem dd_98_15 : decode prog_5_method_6_code 15 = .ok (.aload_n 0, 1) := by decide +kernel
theorem dd_98_16 : decode prog_5_method_6_code 16 = .ok (.getfield 37, 3) := by decide +kernel
theorem dd_98_19 : decode prog_5_method_6_code 19 = .ok (.if_icmp .ge 18, 3) := by decide +kernel
theorem dd_98_22 : decode prog_5_method_6_code 22 = .ok (.aload_n 0, 1) := by decide +kernel
theorem dd_98_23 : decode prog_5_method_6_code 23 = .ok (.iload_n 2, 1) := by decide +kernel
theorem dd_98_24 : decode prog_5_method_6_code 24 = .ok (.putfield 37, 3) := by decide +kernel
theorem dd_98_27 : decode prog_5_method_6_code 27 = .ok (.aload_n 0, 1) := by decide +kernel
theorem dd_98_28 : decode prog_5_method_6_code 28 = .ok (.iload_n 2, 1) := by decide +kernel
theorem dd_98_29 : decode prog_5_method_6_code 29 = .ok (.putfield 28, 3) := by decide +kernel
theorem dd_98_32 : decode prog_5_method_6_code 32 = .ok (.aload_n 0, 1) := by decide +kernel
theorem dd_98_33 : decode prog_5_method_6_code 33 = .ok (.iload_n 1, 1) := by decide +kernel
theorem dd_98_34 : decode prog_5_method_6_code 34 = .ok (.putfield 31, 3) := by decide +kernel
theorem dd_98_37 : decode prog_5_method_6_code 37 = .ok (.return_, 1) := by decide +kernel
theorem kb_98_0 : am_row mi_98 0 kr_98_0 := am_rs rfl (ok_aload_n (k := 0) dd_98_0 rfl rfl) (am_rs rfl (ok_gf dd_98_1 rfl am_ck3 (by decide) (Or.inl w_235)) (am_rn rfl (am_rn rfl (am_rs rfl (ok_bipush dd_98_4 bi_m4 rfl) (am_rn rfl (am_rs rfl (ok_icmp dd_98_6 (by decide) rfl) (am_rn rfl (am_rz))))))))
theorem kb_98_1 : am_row mi_98 8 kr_98_1 := am_rn rfl (am_rs rfl (ok_aload_n (k := 0) dd_98_9 rfl rfl) (am_rs rfl (ok_iload_n (k := 1) dd_98_10 rfl rfl) (am_rs rfl (ok_pf dd_98_11 rfl am_ck3 (by decide) (Or.inl w_235) (Or.inl rfl) rfl) (am_rn rfl (am_rn rfl (am_rs rfl (ok_iload_n (k := 2) dd_98_14 rfl rfl) (am_rs rfl (ok_aload_n (k := 0) dd_98_15 rfl rfl) (am_rz))))))))
theorem kb_98_2 : am_row mi_98 16 kr_98_2 := am_rs rfl (ok_gf dd_98_16 rfl am_ck3 (by decide) (Or.inl w_237)) (am_rn rfl (am_rn rfl (am_rs rfl (ok_icmp dd_98_19 (by decide) rfl) (am_rn rfl (am_rn rfl (am_rs rfl (ok_aload_n (k := 0) dd_98_22 rfl rfl) (am_rs rfl (ok_iload_n (k := 2) dd_98_23 rfl rfl) (am_rz))))))))
theorem kb_98_3 : am_row mi_98 24 kr_98_3 := am_rs rfl (ok_pf dd_98_24 rfl am_ck3 (by decide) (Or.inl w_237) (Or.inl rfl) rfl) (am_rn rfl (am_rn rfl (am_rs rfl (ok_aload_n (k := 0) dd_98_27 rfl rfl) (am_rs rfl (ok_iload_n (k := 2) dd_98_28 rfl rfl) (am_rs rfl (ok_pf dd_98_29 rfl am_ck3 (by decide) (Or.inl w_231) (Or.inl rfl) rfl) (am_rn rfl (am_rn rfl (am_rz))))))))
theorem kb_98_4 : am_row mi_98 32 kr_98_4 := am_rs rfl (ok_aload_n (k := 0) dd_98_32 rfl rfl) (am_rs rfl (ok_iload_n (k := 1) dd_98_33 rfl rfl) (am_rs rfl (ok_pf dd_98_34 rfl am_ck3 (by decide) (Or.inl w_233) (Or.inl rfl) rfl) (am_rn rfl (am_rn rfl (am_rs rfl (ok_vret dd_98_37 rfl) (am_rz))))))
theorem ck_98 : am_rows mi_98 0 cd_98 := am_bs rfl kb_98_0 (am_bs rfl kb_98_1 (am_bs rfl kb_98_2 (am_bs rfl kb_98_3 (am_bs rfl kb_98_4 (am_bz)))))
/-- OverAndBack$Learning.see(IIII)V -/
noncomputable def kr_99_0 : List (Option am_Op) := [some (am_ald0 0 1), some (am_ild 1 2), some (am_psh (.retAddr 1) 3), some (am_bin am_add 4), some (am_ild 2 5), some (am_ald0 0 6), some (am_gf 3 2 9), none]
noncomputable def kr_99_1 : List (Option am_Op) := [none, some (am_ild 3 10), some (am_ald0 0 11), some (am_gf 3 1 14), none, none, some (am_ild 2 15), some (am_ild 1 16)]
noncomputable def kr_99_2 : List (Option am_Op) := [some (am_cv 68 2 9 19), none, none, some (am_bin Nat.lor 20), some (am_cv 57 1 2 23), none, none, some (am_ild 4 25)]
noncomputable def kr_99_3 : List (Option am_Op) := [none, some (am_cv 93 4 3 28), none, none, some (am_vret)]
noncomputable def cd_99 : am_Cd := [kr_99_0, kr_99_1, kr_99_2, kr_99_3]
theorem dd_99_0 : decode prog_5_method_7_code 0 = .ok (.aload_n 0, 1) := by decide +kernel
theorem dd_99_1 : decode prog_5_method_7_code 1 = .ok (.iload_n 1, 1) := by decide +kernel
theorem dd_99_2 : decode prog_5_method_7_code 2 = .ok (.iconst 1, 1) := by decide +kernel
theorem dd_99_3 : decode prog_5_method_7_code 3 = .ok (.iadd, 1) := by decide +kernel
theorem dd_99_4 : decode prog_5_method_7_code 4 = .ok (.iload_n 2, 1) := by decide +kernel
theorem dd_99_5 : decode prog_5_method_7_code 5 = .ok (.aload_n 0, 1) := by decide +kernel
theorem dd_99_6 : decode prog_5_method_7_code 6 = .ok (.getfield 44, 3) := by decide +kernel
theorem dd_99_9 : decode prog_5_method_7_code 9 = .ok (.iload_n 3, 1) := by decide +kernel
theorem dd_99_10 : decode prog_5_method_7_code 10 = .ok (.aload_n 0, 1) := by decide +kernel
theorem dd_99_11 : decode prog_5_method_7_code 11 = .ok (.getfield 40, 3) := by decide +kernel
theorem dd_99_14 : decode prog_5_method_7_code 14 = .ok (.iload_n 2, 1) := by decide +kernel
theorem dd_99_15 : decode prog_5_method_7_code 15 = .ok (.iload_n 1, 1) := by decide +kernel
theorem dd_99_16 : decode prog_5_method_7_code 16 = .ok (.invokevirtual 86, 3) := by decide +kernel
theorem dd_99_19 : decode prog_5_method_7_code 19 = .ok (.ior, 1) := by decide +kernel
theorem dd_99_20 : decode prog_5_method_7_code 20 = .ok (.invokevirtual 91, 3) := by decide +kernel
theorem dd_99_23 : decode prog_5_method_7_code 23 = .ok (.iload 4, 2) := by decide +kernel
theorem dd_99_25 : decode prog_5_method_7_code 25 = .ok (.invokevirtual 78, 3) := by decide +kernel
theorem dd_99_28 : decode prog_5_method_7_code 28 = .ok (.return_, 1) := by decide +kernel
theorem kb_99_0 : am_row mi_99 0 kr_99_0 := am_rs rfl (ok_aload_n (k := 0) dd_99_0 rfl rfl) (am_rs rfl (ok_iload_n (k := 1) dd_99_1 rfl rfl) (am_rs rfl (ok_iconst dd_99_2 ic_1 rfl) (am_rs rfl (ok_iadd dd_99_3 rfl) (am_rs rfl (ok_iload_n (k := 2) dd_99_4 rfl rfl) (am_rs rfl (ok_aload_n (k := 0) dd_99_5 rfl rfl) (am_rs rfl (ok_gf dd_99_6 rfl am_ck3 (by decide) (Or.inl w_226)) (am_rn rfl (am_rz))))))))
theorem kb_99_1 : am_row mi_99 8 kr_99_1 := am_rn rfl (am_rs rfl (ok_iload_n (k := 3) dd_99_9 rfl rfl) (am_rs rfl (ok_aload_n (k := 0) dd_99_10 rfl rfl) (am_rs rfl (ok_gf dd_99_11 rfl am_ck3 (by decide) (Or.inl w_225)) (am_rn rfl (am_rn rfl (am_rs rfl (ok_iload_n (k := 2) dd_99_14 rfl rfl) (am_rs rfl (ok_iload_n (k := 1) dd_99_15 rfl rfl) (am_rz))))))))
theorem kb_99_2 : am_row mi_99 16 kr_99_2 := am_rs rfl (ok_cv (M' := mi_68) dd_99_16 rfl rfl w_761 w_655 w_656 ⟨lk_68.1, lk_68.2.1, lk_68.2.2, by decide, by decide⟩ rfl) (am_rn rfl (am_rn rfl (am_rs rfl (ok_ior dd_99_19 rfl) (am_rs rfl (ok_cv (M' := mi_57) dd_99_20 rfl rfl w_762 w_609 w_610 ⟨lk_57.1, lk_57.2.1, lk_57.2.2, by decide, by decide⟩ rfl) (am_rn rfl (am_rn rfl (am_rs rfl (ok_iload dd_99_23 rfl) (am_rz))))))))
theorem kb_99_3 : am_row mi_99 24 kr_99_3 := am_rn rfl (am_rs rfl (ok_cv (M' := mi_93) dd_99_25 rfl rfl w_763 w_765 ps_93 ⟨lk_93.1, lk_93.2.1, lk_93.2.2, by decide, by decide⟩ rfl) (am_rn rfl (am_rn rfl (am_rs rfl (ok_vret dd_99_28 rfl) (am_rz)))))
theorem ck_99 : am_rows mi_99 0 cd_99 := am_bs rfl kb_99_0 (am_bs rfl kb_99_1 (am_bs rfl kb_99_2 (am_bs rfl kb_99_3 (am_bz))))
/-- OverAndBack.soonest(II)I -/
noncomputable def kr_100_0 : List (Option am_Op) := [some (am_ald0 0 1), some (am_ild 1 2), some (am_cv 51 1 11 5), none, none, some (am_br1 .eq 15 8), none, none]
noncomputable def kr_100_1 : List (Option am_Op) := [some (am_ild 2 9), some (am_cs 56 1 12), none, none, some (am_br1 .ne 17 15), none, none, some (am_psh (.retAddr 4294967295) 16)]
noncomputable def kr_100_2 : List (Option am_Op) := [some (am_iret), some (am_ald0 0 18), some (am_gf 11 10 21), none, none, some (am_ald0 0 22), some (am_gf 11 3 25), none]
noncomputable def kr_100_3 : List (Option am_Op) := [none, some (am_ild 1 26), some (am_ild 2 27), some (am_cv 91 3 3 30), none, none, some (am_ald0 0 31), some (am_gf 11 10 34)]
noncomputable def kr_100_4 : List (Option am_Op) := [none, none, some (am_gf 3 9 37), none, none, some (am_iret)]
noncomputable def cd_100 : am_Cd := [kr_100_0, kr_100_1, kr_100_2, kr_100_3, kr_100_4]
theorem dd_100_0 : decode prog_1_method_18_code 0 = .ok (.aload_n 0, 1) := by decide +kernel
theorem dd_100_1 : decode prog_1_method_18_code 1 = .ok (.iload_n 1, 1) := by decide +kernel
theorem dd_100_2 : decode prog_1_method_18_code 2 = .ok (.invokevirtual 128, 3) := by decide +kernel
theorem dd_100_5 : decode prog_1_method_18_code 5 = .ok (.ifCond .eq 10, 3) := by decide +kernel
theorem dd_100_8 : decode prog_1_method_18_code 8 = .ok (.iload_n 2, 1) := by decide +kernel
theorem dd_100_9 : decode prog_1_method_18_code 9 = .ok (.invokestatic 146, 3) := by decide +kernel
theorem dd_100_12 : decode prog_1_method_18_code 12 = .ok (.ifCond .ne 5, 3) := by decide +kernel
theorem dd_100_15 : decode prog_1_method_18_code 15 = .ok (.iconst (-1), 1) := by decide +kernel
theorem dd_100_16 : decode prog_1_method_18_code 16 = .ok (.ireturn, 1) := by decide +kernel
theorem dd_100_17 : decode prog_1_method_18_code 17 = .ok (.aload_n 0, 1) := by decide +kernel
theorem dd_100_18 : decode prog_1_method_18_code 18 = .ok (.getfield 70, 3) := by decide +kernel
theorem dd_100_21 : decode prog_1_method_18_code 21 = .ok (.aload_n 0, 1) := by decide +kernel
theorem dd_100_22 : decode prog_1_method_18_code 22 = .ok (.getfield 27, 3) := by decide +kernel
theorem dd_100_25 : decode prog_1_method_18_code 25 = .ok (.iload_n 1, 1) := by decide +kernel
theorem dd_100_26 : decode prog_1_method_18_code 26 = .ok (.iload_n 2, 1) := by decide +kernel
theorem dd_100_27 : decode prog_1_method_18_code 27 = .ok (.invokevirtual 217, 3) := by decide +kernel
theorem dd_100_30 : decode prog_1_method_18_code 30 = .ok (.aload_n 0, 1) := by decide +kernel
theorem dd_100_31 : decode prog_1_method_18_code 31 = .ok (.getfield 70, 3) := by decide +kernel
theorem dd_100_34 : decode prog_1_method_18_code 34 = .ok (.getfield 227, 3) := by decide +kernel
theorem dd_100_37 : decode prog_1_method_18_code 37 = .ok (.ireturn, 1) := by decide +kernel
theorem kb_100_0 : am_row mi_100 0 kr_100_0 := am_rs rfl (ok_aload_n (k := 0) dd_100_0 rfl rfl) (am_rs rfl (ok_iload_n (k := 1) dd_100_1 rfl rfl) (am_rs rfl (ok_cv (M' := mi_51) dd_100_2 rfl rfl w_584 w_586 ps_51 ⟨lk_51.1, lk_51.2.1, lk_51.2.2, by decide, by decide⟩ rfl) (am_rn rfl (am_rn rfl (am_rs rfl (ok_ifc dd_100_5 (by decide) rfl) (am_rn rfl (am_rn rfl (am_rz))))))))
theorem kb_100_1 : am_row mi_100 8 kr_100_1 := am_rs rfl (ok_iload_n (k := 2) dd_100_8 rfl rfl) (am_rs rfl (ok_cs (M' := mi_56) dd_100_9 rfl rfl w_605 w_606 ⟨lk_56.1, lk_56.2.1, lk_56.2.2, by decide, by decide⟩) (am_rn rfl (am_rn rfl (am_rs rfl (ok_ifc dd_100_12 (by decide) rfl) (am_rn rfl (am_rn rfl (am_rs rfl (ok_iconst dd_100_15 ic_m1 rfl) (am_rz))))))))
theorem kb_100_2 : am_row mi_100 16 kr_100_2 := am_rs rfl (ok_iret dd_100_16 rfl) (am_rs rfl (ok_aload_n (k := 0) dd_100_17 rfl rfl) (am_rs rfl (ok_gf dd_100_18 rfl am_ck11 (by decide) (Or.inl w_521)) (am_rn rfl (am_rn rfl (am_rs rfl (ok_aload_n (k := 0) dd_100_21 rfl rfl) (am_rs rfl (ok_gf dd_100_22 rfl am_ck11 (by decide) (Or.inl w_514)) (am_rn rfl (am_rz))))))))
theorem kb_100_3 : am_row mi_100 24 kr_100_3 := am_rn rfl (am_rs rfl (ok_iload_n (k := 1) dd_100_25 rfl rfl) (am_rs rfl (ok_iload_n (k := 2) dd_100_26 rfl rfl) (am_rs rfl (ok_cv (M' := mi_91) dd_100_27 rfl rfl w_752 w_753 w_754 ⟨lk_91.1, lk_91.2.1, lk_91.2.2, by decide, by decide⟩ rfl) (am_rn rfl (am_rn rfl (am_rs rfl (ok_aload_n (k := 0) dd_100_30 rfl rfl) (am_rs rfl (ok_gf dd_100_31 rfl am_ck11 (by decide) (Or.inl w_521)) (am_rz))))))))
theorem kb_100_4 : am_row mi_100 32 kr_100_4 := am_rn rfl (am_rn rfl (am_rs rfl (ok_gf dd_100_34 rfl am_ck3 (by decide) (Or.inr ⟨_, w_236⟩)) (am_rn rfl (am_rn rfl (am_rs rfl (ok_iret dd_100_37 rfl) (am_rz))))))
theorem ck_100 : am_rows mi_100 0 cd_100 := am_bs rfl kb_100_0 (am_bs rfl kb_100_1 (am_bs rfl kb_100_2 (am_bs rfl kb_100_3 (am_bs rfl kb_100_4 (am_bz)))))
/-- OverAndBack.ask(II)I -/
noncomputable def kr_101_0 : List (Option am_Op) := [some (am_ild 1 1), some (am_cs 56 1 4), none, none, some (am_br1 .eq 14 7), none, none, some (am_ild 2 8)]
noncomputable def kr_101_1 : List (Option am_Op) := [some (am_cs 56 1 11), none, none, some (am_br1 .ne 16 14), none, none, some (am_psh (.retAddr 4294967295) 15), some (am_iret)]
noncomputable def kr_101_2 : List (Option am_Op) := [some (am_ald0 0 17), some (am_gf 11 5 20), none, none, some (am_ald0 0 21), some (am_gf 11 5 24), none, none]
noncomputable def kr_101_3 : List (Option am_Op) := [some (am_ild 1 25), some (am_cv 57 1 2 28), none, none, some (am_ild 2 29), some (am_cv 102 2 2 32), none, none]
noncomputable def kr_101_4 : List (Option am_Op) := [some (am_iret)]
noncomputable def cd_101 : am_Cd := [kr_101_0, kr_101_1, kr_101_2, kr_101_3, kr_101_4]
theorem dd_101_0 : decode prog_1_method_19_code 0 = .ok (.iload_n 1, 1) := by decide +kernel
theorem dd_101_1 : decode prog_1_method_19_code 1 = .ok (.invokestatic 146, 3) := by decide +kernel
theorem dd_101_4 : decode prog_1_method_19_code 4 = .ok (.ifCond .eq 10, 3) := by decide +kernel
theorem dd_101_7 : decode prog_1_method_19_code 7 = .ok (.iload_n 2, 1) := by decide +kernel
theorem dd_101_8 : decode prog_1_method_19_code 8 = .ok (.invokestatic 146, 3) := by decide +kernel
theorem dd_101_11 : decode prog_1_method_19_code 11 = .ok (.ifCond .ne 5, 3) := by decide +kernel
theorem dd_101_14 : decode prog_1_method_19_code 14 = .ok (.iconst (-1), 1) := by decide +kernel
theorem dd_101_15 : decode prog_1_method_19_code 15 = .ok (.ireturn, 1) := by decide +kernel
theorem dd_101_16 : decode prog_1_method_19_code 16 = .ok (.aload_n 0, 1) := by decide +kernel
theorem dd_101_17 : decode prog_1_method_19_code 17 = .ok (.getfield 37, 3) := by decide +kernel
theorem dd_101_20 : decode prog_1_method_19_code 20 = .ok (.aload_n 0, 1) := by decide +kernel
theorem dd_101_21 : decode prog_1_method_19_code 21 = .ok (.getfield 37, 3) := by decide +kernel
theorem dd_101_24 : decode prog_1_method_19_code 24 = .ok (.iload_n 1, 1) := by decide +kernel
theorem dd_101_25 : decode prog_1_method_19_code 25 = .ok (.invokevirtual 149, 3) := by decide +kernel
theorem dd_101_28 : decode prog_1_method_19_code 28 = .ok (.iload_n 2, 1) := by decide +kernel
theorem dd_101_29 : decode prog_1_method_19_code 29 = .ok (.invokevirtual 230, 3) := by decide +kernel
theorem dd_101_32 : decode prog_1_method_19_code 32 = .ok (.ireturn, 1) := by decide +kernel
theorem kb_101_0 : am_row mi_101 0 kr_101_0 := am_rs rfl (ok_iload_n (k := 1) dd_101_0 rfl rfl) (am_rs rfl (ok_cs (M' := mi_56) dd_101_1 rfl rfl w_605 w_606 ⟨lk_56.1, lk_56.2.1, lk_56.2.2, by decide, by decide⟩) (am_rn rfl (am_rn rfl (am_rs rfl (ok_ifc dd_101_4 (by decide) rfl) (am_rn rfl (am_rn rfl (am_rs rfl (ok_iload_n (k := 2) dd_101_7 rfl rfl) (am_rz))))))))
theorem kb_101_1 : am_row mi_101 8 kr_101_1 := am_rs rfl (ok_cs (M' := mi_56) dd_101_8 rfl rfl w_605 w_606 ⟨lk_56.1, lk_56.2.1, lk_56.2.2, by decide, by decide⟩) (am_rn rfl (am_rn rfl (am_rs rfl (ok_ifc dd_101_11 (by decide) rfl) (am_rn rfl (am_rn rfl (am_rs rfl (ok_iconst dd_101_14 ic_m1 rfl) (am_rs rfl (ok_iret dd_101_15 rfl) (am_rz))))))))
theorem kb_101_2 : am_row mi_101 16 kr_101_2 := am_rs rfl (ok_aload_n (k := 0) dd_101_16 rfl rfl) (am_rs rfl (ok_gf dd_101_17 rfl am_ck11 (by decide) (Or.inl w_516)) (am_rn rfl (am_rn rfl (am_rs rfl (ok_aload_n (k := 0) dd_101_20 rfl rfl) (am_rs rfl (ok_gf dd_101_21 rfl am_ck11 (by decide) (Or.inl w_516)) (am_rn rfl (am_rn rfl (am_rz))))))))
theorem kb_101_3 : am_row mi_101 24 kr_101_3 := am_rs rfl (ok_iload_n (k := 1) dd_101_24 rfl rfl) (am_rs rfl (ok_cv (M' := mi_57) dd_101_25 rfl rfl w_608 w_609 w_610 ⟨lk_57.1, lk_57.2.1, lk_57.2.2, by decide, by decide⟩ rfl) (am_rn rfl (am_rn rfl (am_rs rfl (ok_iload_n (k := 2) dd_101_28 rfl rfl) (am_rs rfl (ok_cv (M' := mi_102) dd_101_29 rfl rfl w_797 w_798 w_799 ⟨lk_102.1, lk_102.2.1, lk_102.2.2, by decide, by decide⟩ rfl) (am_rn rfl (am_rn rfl (am_rz))))))))
theorem kb_101_4 : am_row mi_101 32 kr_101_4 := am_rs rfl (ok_iret dd_101_32 rfl) (am_rz)
theorem ck_101 : am_rows mi_101 0 cd_101 := am_bs rfl kb_101_0 (am_bs rfl kb_101_1 (am_bs rfl kb_101_2 (am_bs rfl kb_101_3 (am_bs rfl kb_101_4 (am_bz)))))
/-- OverAndBack$Facts.fewestToAsk(II)I -/
noncomputable def kr_102_0 : List (Option am_Op) := [some (am_ild 2 1), some (am_ild 1 2), some (am_psh (.retAddr 4294967295) 3), some (am_bin Nat.xor 4), some (am_bin Nat.land 5), some (am_ist 3 6), some (am_psh (.retAddr 255) 9), none]
noncomputable def kr_102_1 : List (Option am_Op) := [none, some (am_ist 4 11), none, some (am_ild 4 13), none, some (am_br1 .lt 70 16), none, none]
noncomputable def kr_102_2 : List (Option am_Op) := [some (am_ild 4 18), none, some (am_ild 1 19), some (am_bin Nat.land 20), some (am_br1 .ne 41 23), none, none, some (am_ald0 0 24)]
noncomputable def kr_102_3 : List (Option am_Op) := [some (am_ild 1 25), some (am_ild 4 27), none, some (am_bin Nat.lor 28), some (am_cv 57 1 2 31), none, none, some (am_ild 2 32)]
noncomputable def kr_102_4 : List (Option am_Op) := [some (am_bin Nat.land 33), some (am_ild 2 34), some (am_br2 .ne 41 37), none, none, some (am_psh (.retAddr 1) 38), some (am_jmp 42), none]
noncomputable def kr_102_5 : List (Option am_Op) := [none, some (am_psh (.retAddr 0) 42), some (am_ist 5 44), none, some (am_ild 5 46), none, some (am_br1 .eq 64 49), none]
noncomputable def kr_102_6 : List (Option am_Op) := [none, some (am_ild 4 51), none, some (am_cs 103 1 54), none, none, some (am_ild 3 55), some (am_cs 103 1 58)]
noncomputable def kr_102_7 : List (Option am_Op) := [none, none, some (am_br2 .gt 64 61), none, none, some (am_ild 4 63), none, some (am_ist 3 64)]
noncomputable def kr_102_8 : List (Option am_Op) := [some (am_inc 4 4294967295 67), none, none, some (am_jmp 11), none, none, some (am_ild 3 71), some (am_iret)]
noncomputable def cd_102 : am_Cd := [kr_102_0, kr_102_1, kr_102_2, kr_102_3, kr_102_4, kr_102_5, kr_102_6, kr_102_7, kr_102_8]
theorem dd_102_0 : decode prog_4_method_5_code 0 = .ok (.iload_n 2, 1) := by decide +kernel
theorem dd_102_1 : decode prog_4_method_5_code 1 = .ok (.iload_n 1, 1) := by decide +kernel
theorem dd_102_2 : decode prog_4_method_5_code 2 = .ok (.iconst (-1), 1) := by decide +kernel
theorem dd_102_3 : decode prog_4_method_5_code 3 = .ok (.ixor, 1) := by decide +kernel
theorem dd_102_4 : decode prog_4_method_5_code 4 = .ok (.iand, 1) := by decide +kernel
theorem dd_102_5 : decode prog_4_method_5_code 5 = .ok (.istore_n 3, 1) := by decide +kernel
theorem dd_102_6 : decode prog_4_method_5_code 6 = .ok (.sipush 255, 3) := by decide +kernel
theorem dd_102_9 : decode prog_4_method_5_code 9 = .ok (.istore 4, 2) := by decide +kernel
theorem dd_102_11 : decode prog_4_method_5_code 11 = .ok (.iload 4, 2) := by decide +kernel
theorem dd_102_13 : decode prog_4_method_5_code 13 = .ok (.ifCond .lt 57, 3) := by decide +kernel
theorem dd_102_16 : decode prog_4_method_5_code 16 = .ok (.iload 4, 2) := by decide +kernel
theorem dd_102_18 : decode prog_4_method_5_code 18 = .ok (.iload_n 1, 1) := by decide +kernel
theorem dd_102_19 : decode prog_4_method_5_code 19 = .ok (.iand, 1) := by decide +kernel
theorem dd_102_20 : decode prog_4_method_5_code 20 = .ok (.ifCond .ne 21, 3) := by decide +kernel
theorem dd_102_23 : decode prog_4_method_5_code 23 = .ok (.aload_n 0, 1) := by decide +kernel
theorem dd_102_24 : decode prog_4_method_5_code 24 = .ok (.iload_n 1, 1) := by decide +kernel
theorem dd_102_25 : decode prog_4_method_5_code 25 = .ok (.iload 4, 2) := by decide +kernel
theorem dd_102_27 : decode prog_4_method_5_code 27 = .ok (.ior, 1) := by decide +kernel
theorem dd_102_28 : decode prog_4_method_5_code 28 = .ok (.invokevirtual 35, 3) := by decide +kernel
theorem dd_102_31 : decode prog_4_method_5_code 31 = .ok (.iload_n 2, 1) := by decide +kernel
theorem dd_102_32 : decode prog_4_method_5_code 32 = .ok (.iand, 1) := by decide +kernel
theorem dd_102_33 : decode prog_4_method_5_code 33 = .ok (.iload_n 2, 1) := by decide +kernel
theorem dd_102_34 : decode prog_4_method_5_code 34 = .ok (.if_icmp .ne 7, 3) := by decide +kernel
theorem dd_102_37 : decode prog_4_method_5_code 37 = .ok (.iconst 1, 1) := by decide +kernel
theorem dd_102_38 : decode prog_4_method_5_code 38 = .ok (.goto 4, 3) := by decide +kernel
theorem dd_102_41 : decode prog_4_method_5_code 41 = .ok (.iconst 0, 1) := by decide +kernel
theorem dd_102_42 : decode prog_4_method_5_code 42 = .ok (.istore 5, 2) := by decide +kernel
theorem dd_102_44 : decode prog_4_method_5_code 44 = .ok (.iload 5, 2) := by decide +kernel
theorem dd_102_46 : decode prog_4_method_5_code 46 = .ok (.ifCond .eq 18, 3) := by decide +kernel
theorem dd_102_49 : decode prog_4_method_5_code 49 = .ok (.iload 4, 2) := by decide +kernel
theorem dd_102_51 : decode prog_4_method_5_code 51 = .ok (.invokestatic 39, 3) := by decide +kernel
theorem dd_102_54 : decode prog_4_method_5_code 54 = .ok (.iload_n 3, 1) := by decide +kernel
theorem dd_102_55 : decode prog_4_method_5_code 55 = .ok (.invokestatic 39, 3) := by decide +kernel
theorem dd_102_58 : decode prog_4_method_5_code 58 = .ok (.if_icmp .gt 6, 3) := by decide +kernel
theorem dd_102_61 : decode prog_4_method_5_code 61 = .ok (.iload 4, 2) := by decide +kernel
theorem dd_102_63 : decode prog_4_method_5_code 63 = .ok (.istore_n 3, 1) := by decide +kernel
theorem dd_102_64 : decode prog_4_method_5_code 64 = .ok (.iinc 4 (-1), 3) := by decide +kernel
theorem dd_102_67 : decode prog_4_method_5_code 67 = .ok (.goto (-56), 3) := by decide +kernel
theorem dd_102_70 : decode prog_4_method_5_code 70 = .ok (.iload_n 3, 1) := by decide +kernel
theorem dd_102_71 : decode prog_4_method_5_code 71 = .ok (.ireturn, 1) := by decide +kernel
theorem kb_102_0 : am_row mi_102 0 kr_102_0 := am_rs rfl (ok_iload_n (k := 2) dd_102_0 rfl rfl) (am_rs rfl (ok_iload_n (k := 1) dd_102_1 rfl rfl) (am_rs rfl (ok_iconst dd_102_2 ic_m1 rfl) (am_rs rfl (ok_ixor dd_102_3 rfl) (am_rs rfl (ok_iand dd_102_4 rfl) (am_rs rfl (ok_istore_n (k := 3) dd_102_5 rfl rfl (by decide)) (am_rs rfl (ok_sipush dd_102_6 si_255 rfl) (am_rn rfl (am_rz))))))))
theorem kb_102_1 : am_row mi_102 8 kr_102_1 := am_rn rfl (am_rs rfl (ok_istore dd_102_9 rfl (by decide)) (am_rn rfl (am_rs rfl (ok_iload dd_102_11 rfl) (am_rn rfl (am_rs rfl (ok_ifc dd_102_13 (by decide) rfl) (am_rn rfl (am_rn rfl (am_rz))))))))
theorem kb_102_2 : am_row mi_102 16 kr_102_2 := am_rs rfl (ok_iload dd_102_16 rfl) (am_rn rfl (am_rs rfl (ok_iload_n (k := 1) dd_102_18 rfl rfl) (am_rs rfl (ok_iand dd_102_19 rfl) (am_rs rfl (ok_ifc dd_102_20 (by decide) rfl) (am_rn rfl (am_rn rfl (am_rs rfl (ok_aload_n (k := 0) dd_102_23 rfl rfl) (am_rz))))))))
theorem kb_102_3 : am_row mi_102 24 kr_102_3 := am_rs rfl (ok_iload_n (k := 1) dd_102_24 rfl rfl) (am_rs rfl (ok_iload dd_102_25 rfl) (am_rn rfl (am_rs rfl (ok_ior dd_102_27 rfl) (am_rs rfl (ok_cv (M' := mi_57) dd_102_28 rfl rfl w_801 w_609 w_610 ⟨lk_57.1, lk_57.2.1, lk_57.2.2, by decide, by decide⟩ rfl) (am_rn rfl (am_rn rfl (am_rs rfl (ok_iload_n (k := 2) dd_102_31 rfl rfl) (am_rz))))))))
theorem kb_102_4 : am_row mi_102 32 kr_102_4 := am_rs rfl (ok_iand dd_102_32 rfl) (am_rs rfl (ok_iload_n (k := 2) dd_102_33 rfl rfl) (am_rs rfl (ok_icmp dd_102_34 (by decide) rfl) (am_rn rfl (am_rn rfl (am_rs rfl (ok_iconst dd_102_37 ic_1 rfl) (am_rs rfl (ok_goto dd_102_38 (by decide)) (am_rn rfl (am_rz))))))))
theorem kb_102_5 : am_row mi_102 40 kr_102_5 := am_rn rfl (am_rs rfl (ok_iconst dd_102_41 ic_0 rfl) (am_rs rfl (ok_istore dd_102_42 rfl (by decide)) (am_rn rfl (am_rs rfl (ok_iload dd_102_44 rfl) (am_rn rfl (am_rs rfl (ok_ifc dd_102_46 (by decide) rfl) (am_rn rfl (am_rz))))))))
theorem kb_102_6 : am_row mi_102 48 kr_102_6 := am_rn rfl (am_rs rfl (ok_iload dd_102_49 rfl) (am_rn rfl (am_rs rfl (ok_cs (M' := mi_103) dd_102_51 rfl rfl w_802 w_803 ⟨lk_103.1, lk_103.2.1, lk_103.2.2, by decide, by decide⟩) (am_rn rfl (am_rn rfl (am_rs rfl (ok_iload_n (k := 3) dd_102_54 rfl rfl) (am_rs rfl (ok_cs (M' := mi_103) dd_102_55 rfl rfl w_802 w_803 ⟨lk_103.1, lk_103.2.1, lk_103.2.2, by decide, by decide⟩) (am_rz))))))))
theorem kb_102_7 : am_row mi_102 56 kr_102_7 := am_rn rfl (am_rn rfl (am_rs rfl (ok_icmp dd_102_58 (by decide) rfl) (am_rn rfl (am_rn rfl (am_rs rfl (ok_iload dd_102_61 rfl) (am_rn rfl (am_rs rfl (ok_istore_n (k := 3) dd_102_63 rfl rfl (by decide)) (am_rz))))))))
theorem kb_102_8 : am_row mi_102 64 kr_102_8 := am_rs rfl (ok_iinc dd_102_64 ic_m1 rfl (by decide)) (am_rn rfl (am_rn rfl (am_rs rfl (ok_goto dd_102_67 (by decide)) (am_rn rfl (am_rn rfl (am_rs rfl (ok_iload_n (k := 3) dd_102_70 rfl rfl) (am_rs rfl (ok_iret dd_102_71 rfl) (am_rz))))))))
theorem ck_102 : am_rows mi_102 0 cd_102 := am_bs rfl kb_102_0 (am_bs rfl kb_102_1 (am_bs rfl kb_102_2 (am_bs rfl kb_102_3 (am_bs rfl kb_102_4 (am_bs rfl kb_102_5 (am_bs rfl kb_102_6 (am_bs rfl kb_102_7 (am_bs rfl kb_102_8 (am_bz)))))))))
