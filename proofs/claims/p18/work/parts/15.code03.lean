/-- java/lang/Integer.bitCount(I)I -/
noncomputable def kr_103_0 : List (Option am_Op) := [some (am_ild 0 1), some (am_ild 0 2), some (am_psh (.retAddr 1) 3), some (am_bin am_ushr 4), some (am_psh (.retAddr 1431655765) 7), none, none, some (am_bin Nat.land 8)]
noncomputable def kr_103_1 : List (Option am_Op) := [some (am_bin am_sub 9), some (am_ist 0 10), some (am_ild 0 11), some (am_psh (.retAddr 858993459) 14), none, none, some (am_bin Nat.land 15), some (am_ild 0 16)]
noncomputable def kr_103_2 : List (Option am_Op) := [some (am_psh (.retAddr 2) 17), some (am_bin am_ushr 18), some (am_psh (.retAddr 858993459) 21), none, none, some (am_bin Nat.land 22), some (am_bin am_add 23), some (am_ist 0 24)]
noncomputable def kr_103_3 : List (Option am_Op) := [some (am_ild 0 25), some (am_ild 0 26), some (am_psh (.retAddr 4) 27), some (am_bin am_ushr 28), some (am_bin am_add 29), some (am_psh (.retAddr 252645135) 32), none, none]
noncomputable def kr_103_4 : List (Option am_Op) := [some (am_bin Nat.land 33), some (am_ist 0 34), some (am_ild 0 35), some (am_ild 0 36), some (am_psh (.retAddr 8) 38), none, some (am_bin am_ushr 39), some (am_bin am_add 40)]
noncomputable def kr_103_5 : List (Option am_Op) := [some (am_ist 0 41), some (am_ild 0 42), some (am_ild 0 43), some (am_psh (.retAddr 16) 45), none, some (am_bin am_ushr 46), some (am_bin am_add 47), some (am_ist 0 48)]
noncomputable def kr_103_6 : List (Option am_Op) := [some (am_ild 0 49), some (am_psh (.retAddr 63) 51), none, some (am_bin Nat.land 52), some (am_iret)]
noncomputable def cd_103 : am_Cd := [kr_103_0, kr_103_1, kr_103_2, kr_103_3, kr_103_4, kr_103_5, kr_103_6]
theorem dd_103_0 : decode prog_15_method_49_code 0 = .ok (.iload_n 0, 1) := by decide +kernel
theorem dd_103_1 : decode prog_15_method_49_code 1 = .ok (.iload_n 0, 1) := by decide +kernel
theorem dd_103_2 : decode prog_15_method_49_code 2 = .ok (.iconst 1, 1) := by decide +kernel
theorem dd_103_3 : decode prog_15_method_49_code 3 = .ok (.iushr, 1) := by decide +kernel
theorem dd_103_4 : decode prog_15_method_49_code 4 = .ok (.ldc_w 265, 3) := by decide +kernel
theorem dd_103_7 : decode prog_15_method_49_code 7 = .ok (.iand, 1) := by decide +kernel
theorem dd_103_8 : decode prog_15_method_49_code 8 = .ok (.isub, 1) := by decide +kernel
theorem dd_103_9 : decode prog_15_method_49_code 9 = .ok (.istore_n 0, 1) := by decide +kernel
theorem dd_103_10 : decode prog_15_method_49_code 10 = .ok (.iload_n 0, 1) := by decide +kernel
theorem dd_103_11 : decode prog_15_method_49_code 11 = .ok (.ldc_w 266, 3) := by decide +kernel
theorem dd_103_14 : decode prog_15_method_49_code 14 = .ok (.iand, 1) := by decide +kernel
theorem dd_103_15 : decode prog_15_method_49_code 15 = .ok (.iload_n 0, 1) := by decide +kernel
theorem dd_103_16 : decode prog_15_method_49_code 16 = .ok (.iconst 2, 1) := by decide +kernel
theorem dd_103_17 : decode prog_15_method_49_code 17 = .ok (.iushr, 1) := by decide +kernel
theorem dd_103_18 : decode prog_15_method_49_code 18 = .ok (.ldc_w 266, 3) := by decide +kernel
theorem dd_103_21 : decode prog_15_method_49_code 21 = .ok (.iand, 1) := by decide +kernel
theorem dd_103_22 : decode prog_15_method_49_code 22 = .ok (.iadd, 1) := by decide +kernel
theorem dd_103_23 : decode prog_15_method_49_code 23 = .ok (.istore_n 0, 1) := by decide +kernel
theorem dd_103_24 : decode prog_15_method_49_code 24 = .ok (.iload_n 0, 1) := by decide +kernel
theorem dd_103_25 : decode prog_15_method_49_code 25 = .ok (.iload_n 0, 1) := by decide +kernel
theorem dd_103_26 : decode prog_15_method_49_code 26 = .ok (.iconst 4, 1) := by decide +kernel
theorem dd_103_27 : decode prog_15_method_49_code 27 = .ok (.iushr, 1) := by decide +kernel
theorem dd_103_28 : decode prog_15_method_49_code 28 = .ok (.iadd, 1) := by decide +kernel
theorem dd_103_29 : decode prog_15_method_49_code 29 = .ok (.ldc_w 267, 3) := by decide +kernel
theorem dd_103_32 : decode prog_15_method_49_code 32 = .ok (.iand, 1) := by decide +kernel
theorem dd_103_33 : decode prog_15_method_49_code 33 = .ok (.istore_n 0, 1) := by decide +kernel
theorem dd_103_34 : decode prog_15_method_49_code 34 = .ok (.iload_n 0, 1) := by decide +kernel
theorem dd_103_35 : decode prog_15_method_49_code 35 = .ok (.iload_n 0, 1) := by decide +kernel
theorem dd_103_36 : decode prog_15_method_49_code 36 = .ok (.bipush 8, 2) := by decide +kernel
theorem dd_103_38 : decode prog_15_method_49_code 38 = .ok (.iushr, 1) := by decide +kernel
theorem dd_103_39 : decode prog_15_method_49_code 39 = .ok (.iadd, 1) := by decide +kernel
theorem dd_103_40 : decode prog_15_method_49_code 40 = .ok (.istore_n 0, 1) := by decide +kernel
theorem dd_103_41 : decode prog_15_method_49_code 41 = .ok (.iload_n 0, 1) := by decide +kernel
theorem dd_103_42 : decode prog_15_method_49_code 42 = .ok (.iload_n 0, 1) := by decide +kernel
theorem dd_103_43 : decode prog_15_method_49_code 43 = .ok (.bipush 16, 2) := by decide +kernel
theorem dd_103_45 : decode prog_15_method_49_code 45 = .ok (.iushr, 1) := by decide +kernel
theorem dd_103_46 : decode prog_15_method_49_code 46 = .ok (.iadd, 1) := by decide +kernel
theorem dd_103_47 : decode prog_15_method_49_code 47 = .ok (.istore_n 0, 1) := by decide +kernel
theorem dd_103_48 : decode prog_15_method_49_code 48 = .ok (.iload_n 0, 1) := by decide +kernel
theorem dd_103_49 : decode prog_15_method_49_code 49 = .ok (.bipush 63, 2) := by decide +kernel
theorem dd_103_51 : decode prog_15_method_49_code 51 = .ok (.iand, 1) := by decide +kernel
theorem dd_103_52 : decode prog_15_method_49_code 52 = .ok (.ireturn, 1) := by decide +kernel
theorem kb_103_0 : am_row mi_103 0 kr_103_0 := am_rs rfl (ok_iload_n (k := 0) dd_103_0 rfl rfl) (am_rs rfl (ok_iload_n (k := 0) dd_103_1 rfl rfl) (am_rs rfl (ok_iconst dd_103_2 ic_1 rfl) (am_rs rfl (ok_iushr dd_103_3 rfl) (am_rs rfl (ok_ldcw dd_103_4 w_805 rfl) (am_rn rfl (am_rn rfl (am_rs rfl (ok_iand dd_103_7 rfl) (am_rz))))))))
theorem kb_103_1 : am_row mi_103 8 kr_103_1 := am_rs rfl (ok_isub dd_103_8 rfl) (am_rs rfl (ok_istore_n (k := 0) dd_103_9 rfl rfl (by decide)) (am_rs rfl (ok_iload_n (k := 0) dd_103_10 rfl rfl) (am_rs rfl (ok_ldcw dd_103_11 w_806 rfl) (am_rn rfl (am_rn rfl (am_rs rfl (ok_iand dd_103_14 rfl) (am_rs rfl (ok_iload_n (k := 0) dd_103_15 rfl rfl) (am_rz))))))))
theorem kb_103_2 : am_row mi_103 16 kr_103_2 := am_rs rfl (ok_iconst dd_103_16 ic_2 rfl) (am_rs rfl (ok_iushr dd_103_17 rfl) (am_rs rfl (ok_ldcw dd_103_18 w_806 rfl) (am_rn rfl (am_rn rfl (am_rs rfl (ok_iand dd_103_21 rfl) (am_rs rfl (ok_iadd dd_103_22 rfl) (am_rs rfl (ok_istore_n (k := 0) dd_103_23 rfl rfl (by decide)) (am_rz))))))))
theorem kb_103_3 : am_row mi_103 24 kr_103_3 := am_rs rfl (ok_iload_n (k := 0) dd_103_24 rfl rfl) (am_rs rfl (ok_iload_n (k := 0) dd_103_25 rfl rfl) (am_rs rfl (ok_iconst dd_103_26 ic_4 rfl) (am_rs rfl (ok_iushr dd_103_27 rfl) (am_rs rfl (ok_iadd dd_103_28 rfl) (am_rs rfl (ok_ldcw dd_103_29 w_807 rfl) (am_rn rfl (am_rn rfl (am_rz))))))))
theorem kb_103_4 : am_row mi_103 32 kr_103_4 := am_rs rfl (ok_iand dd_103_32 rfl) (am_rs rfl (ok_istore_n (k := 0) dd_103_33 rfl rfl (by decide)) (am_rs rfl (ok_iload_n (k := 0) dd_103_34 rfl rfl) (am_rs rfl (ok_iload_n (k := 0) dd_103_35 rfl rfl) (am_rs rfl (ok_bipush dd_103_36 bi_8 rfl) (am_rn rfl (am_rs rfl (ok_iushr dd_103_38 rfl) (am_rs rfl (ok_iadd dd_103_39 rfl) (am_rz))))))))
theorem kb_103_5 : am_row mi_103 40 kr_103_5 := am_rs rfl (ok_istore_n (k := 0) dd_103_40 rfl rfl (by decide)) (am_rs rfl (ok_iload_n (k := 0) dd_103_41 rfl rfl) (am_rs rfl (ok_iload_n (k := 0) dd_103_42 rfl rfl) (am_rs rfl (ok_bipush dd_103_43 bi_16 rfl) (am_rn rfl (am_rs rfl (ok_iushr dd_103_45 rfl) (am_rs rfl (ok_iadd dd_103_46 rfl) (am_rs rfl (ok_istore_n (k := 0) dd_103_47 rfl rfl (by decide)) (am_rz))))))))
theorem kb_103_6 : am_row mi_103 48 kr_103_6 := am_rs rfl (ok_iload_n (k := 0) dd_103_48 rfl rfl) (am_rs rfl (ok_bipush dd_103_49 bi_63 rfl) (am_rn rfl (am_rs rfl (ok_iand dd_103_51 rfl) (am_rs rfl (ok_iret dd_103_52 rfl) (am_rz)))))
theorem ck_103 : am_rows mi_103 0 cd_103 := am_bs rfl kb_103_0 (am_bs rfl kb_103_1 (am_bs rfl kb_103_2 (am_bs rfl kb_103_3 (am_bs rfl kb_103_4 (am_bs rfl kb_103_5 (am_bs rfl kb_103_6 (am_bz)))))))
/-- OverAndBack.fair(II)I -/
noncomputable def kr_104_0 : List (Option am_Op) := [some (am_ild 2 1), some (am_br1 .lt 22 4), none, none, some (am_ild 2 5), some (am_psh (.retAddr 2) 6), some (am_br2 .gt 22 9), none]
noncomputable def kr_104_1 : List (Option am_Op) := [none, some (am_ild 1 10), some (am_br1 .lt 22 13), none, none, some (am_ild 1 14), some (am_ald0 0 15), some (am_ild 2 16)]
noncomputable def kr_104_2 : List (Option am_Op) := [some (am_cv 105 1 11 19), none, none, some (am_br2 .lt 24 22), none, none, some (am_psh (.retAddr 4294967295) 23), some (am_iret)]
noncomputable def kr_104_3 : List (Option am_Op) := [some (am_ald0 0 25), some (am_gf 11 3 28), none, none, some (am_gf 1 5 31), none, none, some (am_gf 8 3 34)]
noncomputable def kr_104_4 : List (Option am_Op) := [none, none, some (am_br1 .ne 40 37), none, none, some (am_psh (.retAddr 4294967292) 39), none, some (am_iret)]
noncomputable def kr_104_5 : List (Option am_Op) := [some (am_ald0 0 41), some (am_gf 11 11 44), none, none, some (am_ald0 0 45), some (am_gf 11 3 48), none, none]
noncomputable def kr_104_6 : List (Option am_Op) := [some (am_ald0 0 49), some (am_gf 11 6 52), none, none, some (am_cv 107 2 0 55), none, none, some (am_ild 2 56)]
noncomputable def kr_104_7 : List (Option am_Op) := [some (am_lsw 84 92 101), none, none, none, none, none, none, none]
noncomputable def kr_104_8 : List (Option am_Op) := [none, none, none, none, none, none, none, none]
noncomputable def kr_104_9 : List (Option am_Op) := [none, none, none, none, none, none, none, none]
noncomputable def kr_104_10 : List (Option am_Op) := [none, none, none, none, some (am_ald0 0 85), some (am_gf 11 11 88), none, none]
noncomputable def kr_104_11 : List (Option am_Op) := [some (am_gf 0 7 91), none, none, some (am_iret), some (am_ald0 0 93), some (am_gf 11 11 96), none, none]
noncomputable def kr_104_12 : List (Option am_Op) := [some (am_ild 1 97), some (am_cv 113 1 0 100), none, none, some (am_iret), some (am_ald0 0 102), some (am_gf 11 11 105), none]
noncomputable def kr_104_13 : List (Option am_Op) := [none, some (am_ald0 0 106), some (am_gf 11 3 109), none, none, some (am_ild 1 110), some (am_cv 70 1 1 113), none]
noncomputable def kr_104_14 : List (Option am_Op) := [none, some (am_cv 114 1 0 116), none, none, some (am_iret)]
noncomputable def cd_104 : am_Cd := [kr_104_0, kr_104_1, kr_104_2, kr_104_3, kr_104_4, kr_104_5, kr_104_6, kr_104_7, kr_104_8, kr_104_9, kr_104_10, kr_104_11, kr_104_12, kr_104_13, kr_104_14]
theorem dd_104_0 : decode prog_1_method_20_code 0 = .ok (.iload_n 2, 1) := by decide +kernel
theorem dd_104_1 : decode prog_1_method_20_code 1 = .ok (.ifCond .lt 21, 3) := by decide +kernel
theorem dd_104_4 : decode prog_1_method_20_code 4 = .ok (.iload_n 2, 1) := by decide +kernel
theorem dd_104_5 : decode prog_1_method_20_code 5 = .ok (.iconst 2, 1) := by decide +kernel
theorem dd_104_6 : decode prog_1_method_20_code 6 = .ok (.if_icmp .gt 16, 3) := by decide +kernel
theorem dd_104_9 : decode prog_1_method_20_code 9 = .ok (.iload_n 1, 1) := by decide +kernel
theorem dd_104_10 : decode prog_1_method_20_code 10 = .ok (.ifCond .lt 12, 3) := by decide +kernel
theorem dd_104_13 : decode prog_1_method_20_code 13 = .ok (.iload_n 1, 1) := by decide +kernel
theorem dd_104_14 : decode prog_1_method_20_code 14 = .ok (.aload_n 0, 1) := by decide +kernel
theorem dd_104_15 : decode prog_1_method_20_code 15 = .ok (.iload_n 2, 1) := by decide +kernel
theorem dd_104_16 : decode prog_1_method_20_code 16 = .ok (.invokevirtual 233, 3) := by decide +kernel
theorem dd_104_19 : decode prog_1_method_20_code 19 = .ok (.if_icmp .lt 5, 3) := by decide +kernel
theorem dd_104_22 : decode prog_1_method_20_code 22 = .ok (.iconst (-1), 1) := by decide +kernel
theorem dd_104_23 : decode prog_1_method_20_code 23 = .ok (.ireturn, 1) := by decide +kernel
theorem dd_104_24 : decode prog_1_method_20_code 24 = .ok (.aload_n 0, 1) := by decide +kernel
theorem dd_104_25 : decode prog_1_method_20_code 25 = .ok (.getfield 27, 3) := by decide +kernel
theorem dd_104_28 : decode prog_1_method_20_code 28 = .ok (.getfield 236, 3) := by decide +kernel
theorem dd_104_31 : decode prog_1_method_20_code 31 = .ok (.getfield 123, 3) := by decide +kernel
theorem dd_104_34 : decode prog_1_method_20_code 34 = .ok (.ifCond .ne 6, 3) := by decide +kernel
theorem dd_104_37 : decode prog_1_method_20_code 37 = .ok (.bipush (-4), 2) := by decide +kernel
theorem dd_104_39 : decode prog_1_method_20_code 39 = .ok (.ireturn, 1) := by decide +kernel
theorem dd_104_40 : decode prog_1_method_20_code 40 = .ok (.aload_n 0, 1) := by decide +kernel
theorem dd_104_41 : decode prog_1_method_20_code 41 = .ok (.getfield 77, 3) := by decide +kernel
theorem dd_104_44 : decode prog_1_method_20_code 44 = .ok (.aload_n 0, 1) := by decide +kernel
theorem dd_104_45 : decode prog_1_method_20_code 45 = .ok (.getfield 27, 3) := by decide +kernel
theorem dd_104_48 : decode prog_1_method_20_code 48 = .ok (.aload_n 0, 1) := by decide +kernel
theorem dd_104_49 : decode prog_1_method_20_code 49 = .ok (.getfield 44, 3) := by decide +kernel
theorem dd_104_52 : decode prog_1_method_20_code 52 = .ok (.invokevirtual 239, 3) := by decide +kernel
theorem dd_104_55 : decode prog_1_method_20_code 55 = .ok (.iload_n 2, 1) := by decide +kernel
theorem dd_104_56 : decode prog_1_method_20_code 56 = .ok (.lookupswitch 45 #[(0, 28), (1, 36)], 28) := by decide +kernel
theorem dd_104_84 : decode prog_1_method_20_code 84 = .ok (.aload_n 0, 1) := by decide +kernel
theorem dd_104_85 : decode prog_1_method_20_code 85 = .ok (.getfield 77, 3) := by decide +kernel
theorem dd_104_88 : decode prog_1_method_20_code 88 = .ok (.getfield 243, 3) := by decide +kernel
theorem dd_104_91 : decode prog_1_method_20_code 91 = .ok (.ireturn, 1) := by decide +kernel
theorem dd_104_92 : decode prog_1_method_20_code 92 = .ok (.aload_n 0, 1) := by decide +kernel
theorem dd_104_93 : decode prog_1_method_20_code 93 = .ok (.getfield 77, 3) := by decide +kernel
theorem dd_104_96 : decode prog_1_method_20_code 96 = .ok (.iload_n 1, 1) := by decide +kernel
theorem dd_104_97 : decode prog_1_method_20_code 97 = .ok (.invokevirtual 246, 3) := by decide +kernel
theorem dd_104_100 : decode prog_1_method_20_code 100 = .ok (.ireturn, 1) := by decide +kernel
theorem dd_104_101 : decode prog_1_method_20_code 101 = .ok (.aload_n 0, 1) := by decide +kernel
theorem dd_104_102 : decode prog_1_method_20_code 102 = .ok (.getfield 77, 3) := by decide +kernel
theorem dd_104_105 : decode prog_1_method_20_code 105 = .ok (.aload_n 0, 1) := by decide +kernel
theorem dd_104_106 : decode prog_1_method_20_code 106 = .ok (.getfield 27, 3) := by decide +kernel
theorem dd_104_109 : decode prog_1_method_20_code 109 = .ok (.iload_n 1, 1) := by decide +kernel
theorem dd_104_110 : decode prog_1_method_20_code 110 = .ok (.invokevirtual 163, 3) := by decide +kernel
theorem dd_104_113 : decode prog_1_method_20_code 113 = .ok (.invokevirtual 249, 3) := by decide +kernel
theorem dd_104_116 : decode prog_1_method_20_code 116 = .ok (.ireturn, 1) := by decide +kernel
theorem kb_104_0 : am_row mi_104 0 kr_104_0 := am_rs rfl (ok_iload_n (k := 2) dd_104_0 rfl rfl) (am_rs rfl (ok_ifc dd_104_1 (by decide) rfl) (am_rn rfl (am_rn rfl (am_rs rfl (ok_iload_n (k := 2) dd_104_4 rfl rfl) (am_rs rfl (ok_iconst dd_104_5 ic_2 rfl) (am_rs rfl (ok_icmp dd_104_6 (by decide) rfl) (am_rn rfl (am_rz))))))))
theorem kb_104_1 : am_row mi_104 8 kr_104_1 := am_rn rfl (am_rs rfl (ok_iload_n (k := 1) dd_104_9 rfl rfl) (am_rs rfl (ok_ifc dd_104_10 (by decide) rfl) (am_rn rfl (am_rn rfl (am_rs rfl (ok_iload_n (k := 1) dd_104_13 rfl rfl) (am_rs rfl (ok_aload_n (k := 0) dd_104_14 rfl rfl) (am_rs rfl (ok_iload_n (k := 2) dd_104_15 rfl rfl) (am_rz))))))))
theorem kb_104_2 : am_row mi_104 16 kr_104_2 := am_rs rfl (ok_cv (M' := mi_105) dd_104_16 rfl rfl w_812 w_814 ps_105 ⟨lk_105.1, lk_105.2.1, lk_105.2.2, by decide, by decide⟩ rfl) (am_rn rfl (am_rn rfl (am_rs rfl (ok_icmp dd_104_19 (by decide) rfl) (am_rn rfl (am_rn rfl (am_rs rfl (ok_iconst dd_104_22 ic_m1 rfl) (am_rs rfl (ok_iret dd_104_23 rfl) (am_rz))))))))
theorem kb_104_3 : am_row mi_104 24 kr_104_3 := am_rs rfl (ok_aload_n (k := 0) dd_104_24 rfl rfl) (am_rs rfl (ok_gf dd_104_25 rfl am_ck11 (by decide) (Or.inl w_514)) (am_rn rfl (am_rn rfl (am_rs rfl (ok_gf dd_104_28 rfl am_ck1 (by decide) (Or.inr ⟨_, w_104⟩)) (am_rn rfl (am_rn rfl (am_rs rfl (ok_gf dd_104_31 rfl am_ck8 (by decide) (Or.inr ⟨_, w_67⟩)) (am_rz))))))))
theorem kb_104_4 : am_row mi_104 32 kr_104_4 := am_rn rfl (am_rn rfl (am_rs rfl (ok_ifc dd_104_34 (by decide) rfl) (am_rn rfl (am_rn rfl (am_rs rfl (ok_bipush dd_104_37 bi_m4 rfl) (am_rn rfl (am_rs rfl (ok_iret dd_104_39 rfl) (am_rz))))))))
theorem kb_104_5 : am_row mi_104 40 kr_104_5 := am_rs rfl (ok_aload_n (k := 0) dd_104_40 rfl rfl) (am_rs rfl (ok_gf dd_104_41 rfl am_ck11 (by decide) (Or.inl w_522)) (am_rn rfl (am_rn rfl (am_rs rfl (ok_aload_n (k := 0) dd_104_44 rfl rfl) (am_rs rfl (ok_gf dd_104_45 rfl am_ck11 (by decide) (Or.inl w_514)) (am_rn rfl (am_rn rfl (am_rz))))))))
theorem kb_104_6 : am_row mi_104 48 kr_104_6 := am_rs rfl (ok_aload_n (k := 0) dd_104_48 rfl rfl) (am_rs rfl (ok_gf dd_104_49 rfl am_ck11 (by decide) (Or.inl w_517)) (am_rn rfl (am_rn rfl (am_rs rfl (ok_cv (M' := mi_107) dd_104_52 rfl rfl w_821 w_822 w_823 ⟨lk_107.1, lk_107.2.1, lk_107.2.2, by decide, by decide⟩ rfl) (am_rn rfl (am_rn rfl (am_rs rfl (ok_iload_n (k := 2) dd_104_55 rfl rfl) (am_rz))))))))
theorem kb_104_7 : am_row mi_104 56 kr_104_7 := am_rs rfl (ok_lsw dd_104_56 (by decide) (by decide) (by decide)) (am_rn rfl (am_rn rfl (am_rn rfl (am_rn rfl (am_rn rfl (am_rn rfl (am_rn rfl (am_rz))))))))
theorem kb_104_8 : am_row mi_104 64 kr_104_8 := am_rn rfl (am_rn rfl (am_rn rfl (am_rn rfl (am_rn rfl (am_rn rfl (am_rn rfl (am_rn rfl (am_rz))))))))
theorem kb_104_9 : am_row mi_104 72 kr_104_9 := am_rn rfl (am_rn rfl (am_rn rfl (am_rn rfl (am_rn rfl (am_rn rfl (am_rn rfl (am_rn rfl (am_rz))))))))
theorem kb_104_10 : am_row mi_104 80 kr_104_10 := am_rn rfl (am_rn rfl (am_rn rfl (am_rn rfl (am_rs rfl (ok_aload_n (k := 0) dd_104_84 rfl rfl) (am_rs rfl (ok_gf dd_104_85 rfl am_ck11 (by decide) (Or.inl w_522)) (am_rn rfl (am_rn rfl (am_rz))))))))
theorem kb_104_11 : am_row mi_104 88 kr_104_11 := am_rs rfl (ok_gf dd_104_88 rfl am_ck0 (by decide) (Or.inr ⟨_, w_275⟩)) (am_rn rfl (am_rn rfl (am_rs rfl (ok_iret dd_104_91 rfl) (am_rs rfl (ok_aload_n (k := 0) dd_104_92 rfl rfl) (am_rs rfl (ok_gf dd_104_93 rfl am_ck11 (by decide) (Or.inl w_522)) (am_rn rfl (am_rn rfl (am_rz))))))))
theorem kb_104_12 : am_row mi_104 96 kr_104_12 := am_rs rfl (ok_iload_n (k := 1) dd_104_96 rfl rfl) (am_rs rfl (ok_cv (M' := mi_113) dd_104_97 rfl rfl w_850 w_851 w_852 ⟨lk_113.1, lk_113.2.1, lk_113.2.2, by decide, by decide⟩ rfl) (am_rn rfl (am_rn rfl (am_rs rfl (ok_iret dd_104_100 rfl) (am_rs rfl (ok_aload_n (k := 0) dd_104_101 rfl rfl) (am_rs rfl (ok_gf dd_104_102 rfl am_ck11 (by decide) (Or.inl w_522)) (am_rn rfl (am_rz))))))))
theorem kb_104_13 : am_row mi_104 104 kr_104_13 := am_rn rfl (am_rs rfl (ok_aload_n (k := 0) dd_104_105 rfl rfl) (am_rs rfl (ok_gf dd_104_106 rfl am_ck11 (by decide) (Or.inl w_514)) (am_rn rfl (am_rn rfl (am_rs rfl (ok_iload_n (k := 1) dd_104_109 rfl rfl) (am_rs rfl (ok_cv (M' := mi_70) dd_104_110 rfl rfl w_663 w_664 w_665 ⟨lk_70.1, lk_70.2.1, lk_70.2.2, by decide, by decide⟩ rfl) (am_rn rfl (am_rz))))))))
theorem kb_104_14 : am_row mi_104 112 kr_104_14 := am_rn rfl (am_rs rfl (ok_cv (M' := mi_114) dd_104_113 rfl rfl w_854 w_855 w_856 ⟨lk_114.1, lk_114.2.1, lk_114.2.2, by decide, by decide⟩ rfl) (am_rn rfl (am_rn rfl (am_rs rfl (ok_iret dd_104_116 rfl) (am_rz)))))
theorem ck_104 : am_rows mi_104 0 cd_104 := am_bs rfl kb_104_0 (am_bs rfl kb_104_1 (am_bs rfl kb_104_2 (am_bs rfl kb_104_3 (am_bs rfl kb_104_4 (am_bs rfl kb_104_5 (am_bs rfl kb_104_6 (am_bs rfl kb_104_7 (am_bs rfl kb_104_8 (am_bs rfl kb_104_9 (am_bs rfl kb_104_10 (am_bs rfl kb_104_11 (am_bs rfl kb_104_12 (am_bs rfl kb_104_13 (am_bs rfl kb_104_14 (am_bz)))))))))))))))
/-- OverAndBack.fairBound(I)I -/
noncomputable def kr_105_0 : List (Option am_Op) := [some (am_ild 1 1), some (am_br1 .ne 6 4), none, none, some (am_psh (.retAddr 1) 5), some (am_iret), some (am_ild 1 7), some (am_psh (.retAddr 1) 8)]
noncomputable def kr_105_1 : List (Option am_Op) := [some (am_br2 .ne 19 11), none, none, some (am_ald0 0 12), some (am_gf 11 3 15), none, none, some (am_cv 106 0 1 18)]
noncomputable def kr_105_2 : List (Option am_Op) := [none, none, some (am_iret), some (am_psh (.retAddr 1) 20), some (am_ald0 0 21), some (am_gf 11 3 24), none, none]
noncomputable def kr_105_3 : List (Option am_Op) := [some (am_gf 1 5 27), none, none, some (am_gf 8 3 30), none, none, some (am_mmax 33), none]
noncomputable def kr_105_4 : List (Option am_Op) := [none, some (am_iret)]
noncomputable def cd_105 : am_Cd := [kr_105_0, kr_105_1, kr_105_2, kr_105_3, kr_105_4]
theorem dd_105_0 : decode prog_1_method_34_code 0 = .ok (.iload_n 1, 1) := by decide +kernel
theorem dd_105_1 : decode prog_1_method_34_code 1 = .ok (.ifCond .ne 5, 3) := by decide +kernel
theorem dd_105_4 : decode prog_1_method_34_code 4 = .ok (.iconst 1, 1) := by decide +kernel
theorem dd_105_5 : decode prog_1_method_34_code 5 = .ok (.ireturn, 1) := by decide +kernel
theorem dd_105_6 : decode prog_1_method_34_code 6 = .ok (.iload_n 1, 1) := by decide +kernel
theorem dd_105_7 : decode prog_1_method_34_code 7 = .ok (.iconst 1, 1) := by decide +kernel
theorem dd_105_8 : decode prog_1_method_34_code 8 = .ok (.if_icmp .ne 11, 3) := by decide +kernel
theorem dd_105_11 : decode prog_1_method_34_code 11 = .ok (.aload_n 0, 1) := by decide +kernel
theorem dd_105_12 : decode prog_1_method_34_code 12 = .ok (.getfield 27, 3) := by decide +kernel
theorem dd_105_15 : decode prog_1_method_34_code 15 = .ok (.invokevirtual 294, 3) := by decide +kernel
theorem dd_105_18 : decode prog_1_method_34_code 18 = .ok (.ireturn, 1) := by decide +kernel
theorem dd_105_19 : decode prog_1_method_34_code 19 = .ok (.iconst 1, 1) := by decide +kernel
theorem dd_105_20 : decode prog_1_method_34_code 20 = .ok (.aload_n 0, 1) := by decide +kernel
theorem dd_105_21 : decode prog_1_method_34_code 21 = .ok (.getfield 27, 3) := by decide +kernel
theorem dd_105_24 : decode prog_1_method_34_code 24 = .ok (.getfield 236, 3) := by decide +kernel
theorem dd_105_27 : decode prog_1_method_34_code 27 = .ok (.getfield 123, 3) := by decide +kernel
theorem dd_105_30 : decode prog_1_method_34_code 30 = .ok (.invokestatic 297, 3) := by decide +kernel
theorem dd_105_33 : decode prog_1_method_34_code 33 = .ok (.ireturn, 1) := by decide +kernel
theorem kb_105_0 : am_row mi_105 0 kr_105_0 := am_rs rfl (ok_iload_n (k := 1) dd_105_0 rfl rfl) (am_rs rfl (ok_ifc dd_105_1 (by decide) rfl) (am_rn rfl (am_rn rfl (am_rs rfl (ok_iconst dd_105_4 ic_1 rfl) (am_rs rfl (ok_iret dd_105_5 rfl) (am_rs rfl (ok_iload_n (k := 1) dd_105_6 rfl rfl) (am_rs rfl (ok_iconst dd_105_7 ic_1 rfl) (am_rz))))))))
theorem kb_105_1 : am_row mi_105 8 kr_105_1 := am_rs rfl (ok_icmp dd_105_8 (by decide) rfl) (am_rn rfl (am_rn rfl (am_rs rfl (ok_aload_n (k := 0) dd_105_11 rfl rfl) (am_rs rfl (ok_gf dd_105_12 rfl am_ck11 (by decide) (Or.inl w_514)) (am_rn rfl (am_rn rfl (am_rs rfl (ok_cv (M' := mi_106) dd_105_15 rfl rfl w_816 w_817 w_818 ⟨lk_106.1, lk_106.2.1, lk_106.2.2, by decide, by decide⟩ rfl) (am_rz))))))))
theorem kb_105_2 : am_row mi_105 16 kr_105_2 := am_rn rfl (am_rn rfl (am_rs rfl (ok_iret dd_105_18 rfl) (am_rs rfl (ok_iconst dd_105_19 ic_1 rfl) (am_rs rfl (ok_aload_n (k := 0) dd_105_20 rfl rfl) (am_rs rfl (ok_gf dd_105_21 rfl am_ck11 (by decide) (Or.inl w_514)) (am_rn rfl (am_rn rfl (am_rz))))))))
theorem kb_105_3 : am_row mi_105 24 kr_105_3 := am_rs rfl (ok_gf dd_105_24 rfl am_ck1 (by decide) (Or.inr ⟨_, w_104⟩)) (am_rn rfl (am_rn rfl (am_rs rfl (ok_gf dd_105_27 rfl am_ck8 (by decide) (Or.inr ⟨_, w_67⟩)) (am_rn rfl (am_rn rfl (am_rs rfl (ok_mmax dd_105_30 rfl w_820 w_409 w_18 w_410 ⟨by decide, by decide⟩) (am_rn rfl (am_rz))))))))
theorem kb_105_4 : am_row mi_105 32 kr_105_4 := am_rn rfl (am_rs rfl (ok_iret dd_105_33 rfl) (am_rz))
theorem ck_105 : am_rows mi_105 0 cd_105 := am_bs rfl kb_105_0 (am_bs rfl kb_105_1 (am_bs rfl kb_105_2 (am_bs rfl kb_105_3 (am_bs rfl kb_105_4 (am_bz)))))
/-- OverAndBack$Evening.turns()I -/
noncomputable def kr_106_0 : List (Option am_Op) := [some (am_ald0 0 1), some (am_gf 1 6 4), none, none, some (am_psh (.retAddr 10) 6), none, some (am_bin am_add 7), some (am_psh (.retAddr 1) 8)]
noncomputable def kr_106_1 : List (Option am_Op) := [some (am_bin am_sub 9), some (am_psh (.retAddr 10) 11), none, some (am_bin2 Nat.div 12), some (am_iret)]
noncomputable def cd_106 : am_Cd := [kr_106_0, kr_106_1]
theorem dd_106_0 : decode prog_3_method_5_code 0 = .ok (.aload_n 0, 1) := by decide +kernel
theorem dd_106_1 : decode prog_3_method_5_code 1 = .ok (.getfield 35, 3) := by decide +kernel
theorem dd_106_4 : decode prog_3_method_5_code 4 = .ok (.bipush 10, 2) := by decide +kernel
theorem dd_106_6 : decode prog_3_method_5_code 6 = .ok (.iadd, 1) := by decide +kernel
theorem dd_106_7 : decode prog_3_method_5_code 7 = .ok (.iconst 1, 1) := by decide +kernel
theorem dd_106_8 : decode prog_3_method_5_code 8 = .ok (.isub, 1) := by decide +kernel
theorem dd_106_9 : decode prog_3_method_5_code 9 = .ok (.bipush 10, 2) := by decide +kernel
theorem dd_106_11 : decode prog_3_method_5_code 11 = .ok (.idiv, 1) := by decide +kernel
theorem dd_106_12 : decode prog_3_method_5_code 12 = .ok (.ireturn, 1) := by decide +kernel
theorem kb_106_0 : am_row mi_106 0 kr_106_0 := am_rs rfl (ok_aload_n (k := 0) dd_106_0 rfl rfl) (am_rs rfl (ok_gf dd_106_1 rfl am_ck1 (by decide) (Or.inl w_105)) (am_rn rfl (am_rn rfl (am_rs rfl (ok_bipush dd_106_4 bi_10 rfl) (am_rn rfl (am_rs rfl (ok_iadd dd_106_6 rfl) (am_rs rfl (ok_iconst dd_106_7 ic_1 rfl) (am_rz))))))))
theorem kb_106_1 : am_row mi_106 8 kr_106_1 := am_rs rfl (ok_isub dd_106_8 rfl) (am_rs rfl (ok_bipush dd_106_9 bi_10 rfl) (am_rn rfl (am_rs rfl (ok_idiv dd_106_11 rfl) (am_rs rfl (ok_iret dd_106_12 rfl) (am_rz)))))
theorem ck_106 : am_rows mi_106 0 cd_106 := am_bs rfl kb_106_0 (am_bs rfl kb_106_1 (am_bz))
/-- OverAndBack$Box.share(LOverAndBack$Evening;LOverAndBack$Screen;)V -/
noncomputable def kr_107_0 : List (Option am_Op) := [some (am_ald0 0 1), some (am_gf 0 8 4), none, none, some (am_br1 .eq 8 7), none, none, some (am_vret)]
noncomputable def kr_107_1 : List (Option am_Op) := [some (am_ald0 0 9), some (am_psh (.retAddr 1) 10), some (am_pf 0 8 1 13), none, none, some (am_ald0 0 14), some (am_ald0 1 15), some (am_cv 106 0 1 18)]
noncomputable def kr_107_2 : List (Option am_Op) := [none, none, some (am_psh (.retAddr 6) 20), none, some (am_mmin 23), none, none, some (am_pf 0 6 0 26)]
noncomputable def kr_107_3 : List (Option am_Op) := [none, none, some (am_ald0 0 27), some (am_ald0 1 28), some (am_ald0 2 29), some (am_cv 108 2 0 32), none, none]
noncomputable def kr_107_4 : List (Option am_Op) := [some (am_ald0 0 33), some (am_psh (.retAddr 4294967292) 35), none, some (am_pf 0 7 0 38), none, none, some (am_ald0 0 39), some (am_gf 0 2 42)]
noncomputable def kr_107_5 : List (Option am_Op) := [none, none, some (am_psh (.retAddr 0) 43), some (am_cs 9 2 46), none, none, some (am_psh (.retAddr 1) 47), some (am_ist 3 48)]
noncomputable def kr_107_6 : List (Option am_Op) := [some (am_psh (.retAddr 0) 49), some (am_ist 4 51), none, some (am_ild 4 53), none, some (am_psh (.retAddr 4096) 56), none, none]
noncomputable def kr_107_7 : List (Option am_Op) := [some (am_br2 .ge 86 59), none, none, some (am_ild 3 60), some (am_br1 .eq 86 63), none, none, some (am_ald0 0 64)]
noncomputable def kr_107_8 : List (Option am_Op) := [some (am_ald0 1 65), some (am_cv 110 1 0 68), none, none, some (am_ald0 0 69), some (am_ald0 1 70), some (am_gf 1 5 73), none]
noncomputable def kr_107_9 : List (Option am_Op) := [none, some (am_gf 8 3 76), none, none, some (am_cv 112 1 0 79), none, none, some (am_ist 3 80)]
noncomputable def kr_107_10 : List (Option am_Op) := [some (am_inc 4 1 83), none, none, some (am_jmp 51), none, none, some (am_vret)]
noncomputable def cd_107 : am_Cd := [kr_107_0, kr_107_1, kr_107_2, kr_107_3, kr_107_4, kr_107_5, kr_107_6, kr_107_7, kr_107_8, kr_107_9, kr_107_10]
theorem dd_107_0 : decode prog_2_method_2_code 0 = .ok (.aload_n 0, 1) := by decide +kernel
theorem dd_107_1 : decode prog_2_method_2_code 1 = .ok (.getfield 37, 3) := by decide +kernel
theorem dd_107_4 : decode prog_2_method_2_code 4 = .ok (.ifCond .eq 4, 3) := by decide +kernel
theorem dd_107_7 : decode prog_2_method_2_code 7 = .ok (.return_, 1) := by decide +kernel
theorem dd_107_8 : decode prog_2_method_2_code 8 = .ok (.aload_n 0, 1) := by decide +kernel
theorem dd_107_9 : decode prog_2_method_2_code 9 = .ok (.iconst 1, 1) := by decide +kernel
theorem dd_107_10 : decode prog_2_method_2_code 10 = .ok (.putfield 37, 3) := by decide +kernel
theorem dd_107_13 : decode prog_2_method_2_code 13 = .ok (.aload_n 0, 1) := by decide +kernel
theorem dd_107_14 : decode prog_2_method_2_code 14 = .ok (.aload_n 1, 1) := by decide +kernel
theorem dd_107_15 : decode prog_2_method_2_code 15 = .ok (.invokevirtual 41, 3) := by decide +kernel
theorem dd_107_18 : decode prog_2_method_2_code 18 = .ok (.bipush 6, 2) := by decide +kernel
theorem dd_107_20 : decode prog_2_method_2_code 20 = .ok (.invokestatic 46, 3) := by decide +kernel
theorem dd_107_23 : decode prog_2_method_2_code 23 = .ok (.putfield 30, 3) := by decide +kernel
theorem dd_107_26 : decode prog_2_method_2_code 26 = .ok (.aload_n 0, 1) := by decide +kernel
theorem dd_107_27 : decode prog_2_method_2_code 27 = .ok (.aload_n 1, 1) := by decide +kernel
theorem dd_107_28 : decode prog_2_method_2_code 28 = .ok (.aload_n 2, 1) := by decide +kernel
theorem dd_107_29 : decode prog_2_method_2_code 29 = .ok (.invokevirtual 52, 3) := by decide +kernel
theorem dd_107_32 : decode prog_2_method_2_code 32 = .ok (.aload_n 0, 1) := by decide +kernel
theorem dd_107_33 : decode prog_2_method_2_code 33 = .ok (.bipush (-4), 2) := by decide +kernel
theorem dd_107_35 : decode prog_2_method_2_code 35 = .ok (.putfield 34, 3) := by decide +kernel
theorem dd_107_38 : decode prog_2_method_2_code 38 = .ok (.aload_n 0, 1) := by decide +kernel
theorem dd_107_39 : decode prog_2_method_2_code 39 = .ok (.getfield 18, 3) := by decide +kernel
theorem dd_107_42 : decode prog_2_method_2_code 42 = .ok (.iconst 0, 1) := by decide +kernel
theorem dd_107_43 : decode prog_2_method_2_code 43 = .ok (.invokestatic 56, 3) := by decide +kernel
theorem dd_107_46 : decode prog_2_method_2_code 46 = .ok (.iconst 1, 1) := by decide +kernel
theorem dd_107_47 : decode prog_2_method_2_code 47 = .ok (.istore_n 3, 1) := by decide +kernel
theorem dd_107_48 : decode prog_2_method_2_code 48 = .ok (.iconst 0, 1) := by decide +kernel
theorem dd_107_49 : decode prog_2_method_2_code 49 = .ok (.istore 4, 2) := by decide +kernel
theorem dd_107_51 : decode prog_2_method_2_code 51 = .ok (.iload 4, 2) := by decide +kernel
theorem dd_107_53 : decode prog_2_method_2_code 53 = .ok (.sipush 4096, 3) := by decide +kernel
theorem dd_107_56 : decode prog_2_method_2_code 56 = .ok (.if_icmp .ge 30, 3) := by decide +kernel
theorem dd_107_59 : decode prog_2_method_2_code 59 = .ok (.iload_n 3, 1) := by decide +kernel
theorem dd_107_60 : decode prog_2_method_2_code 60 = .ok (.ifCond .eq 26, 3) := by decide +kernel
theorem dd_107_63 : decode prog_2_method_2_code 63 = .ok (.aload_n 0, 1) := by decide +kernel
theorem dd_107_64 : decode prog_2_method_2_code 64 = .ok (.aload_n 1, 1) := by decide +kernel
theorem dd_107_65 : decode prog_2_method_2_code 65 = .ok (.invokevirtual 62, 3) := by decide +kernel
theorem dd_107_68 : decode prog_2_method_2_code 68 = .ok (.aload_n 0, 1) := by decide +kernel
theorem dd_107_69 : decode prog_2_method_2_code 69 = .ok (.aload_n 1, 1) := by decide +kernel
theorem dd_107_70 : decode prog_2_method_2_code 70 = .ok (.getfield 66, 3) := by decide +kernel
theorem dd_107_73 : decode prog_2_method_2_code 73 = .ok (.getfield 70, 3) := by decide +kernel
theorem dd_107_76 : decode prog_2_method_2_code 76 = .ok (.invokevirtual 75, 3) := by decide +kernel
theorem dd_107_79 : decode prog_2_method_2_code 79 = .ok (.istore_n 3, 1) := by decide +kernel
theorem dd_107_80 : decode prog_2_method_2_code 80 = .ok (.iinc 4 1, 3) := by decide +kernel
theorem dd_107_83 : decode prog_2_method_2_code 83 = .ok (.goto (-32), 3) := by decide +kernel
theorem dd_107_86 : decode prog_2_method_2_code 86 = .ok (.return_, 1) := by decide +kernel
theorem kb_107_0 : am_row mi_107 0 kr_107_0 := am_rs rfl (ok_aload_n (k := 0) dd_107_0 rfl rfl) (am_rs rfl (ok_gf dd_107_1 rfl am_ck0 (by decide) (Or.inl w_276)) (am_rn rfl (am_rn rfl (am_rs rfl (ok_ifc dd_107_4 (by decide) rfl) (am_rn rfl (am_rn rfl (am_rs rfl (ok_vret dd_107_7 rfl) (am_rz))))))))
theorem kb_107_1 : am_row mi_107 8 kr_107_1 := am_rs rfl (ok_aload_n (k := 0) dd_107_8 rfl rfl) (am_rs rfl (ok_iconst dd_107_9 ic_1 rfl) (am_rs rfl (ok_pf dd_107_10 rfl am_ck0 (by decide) (Or.inl w_276) (Or.inl rfl) rfl) (am_rn rfl (am_rn rfl (am_rs rfl (ok_aload_n (k := 0) dd_107_13 rfl rfl) (am_rs rfl (ok_aload_n (k := 1) dd_107_14 rfl rfl) (am_rs rfl (ok_cv (M' := mi_106) dd_107_15 rfl rfl w_825 w_817 w_818 ⟨lk_106.1, lk_106.2.1, lk_106.2.2, by decide, by decide⟩ rfl) (am_rz))))))))
theorem kb_107_2 : am_row mi_107 16 kr_107_2 := am_rn rfl (am_rn rfl (am_rs rfl (ok_bipush dd_107_18 bi_6 rfl) (am_rn rfl (am_rs rfl (ok_mmin dd_107_20 rfl w_826 w_393 w_18 w_394 ⟨by decide, by decide⟩) (am_rn rfl (am_rn rfl (am_rs rfl (ok_pf dd_107_23 rfl am_ck0 (by decide) (Or.inl w_273) (Or.inl rfl) rfl) (am_rz))))))))
theorem kb_107_3 : am_row mi_107 24 kr_107_3 := am_rn rfl (am_rn rfl (am_rs rfl (ok_aload_n (k := 0) dd_107_26 rfl rfl) (am_rs rfl (ok_aload_n (k := 1) dd_107_27 rfl rfl) (am_rs rfl (ok_aload_n (k := 2) dd_107_28 rfl rfl) (am_rs rfl (ok_cv (M' := mi_108) dd_107_29 rfl rfl w_827 w_829 ps_108 ⟨lk_108.1, lk_108.2.1, lk_108.2.2, by decide, by decide⟩ rfl) (am_rn rfl (am_rn rfl (am_rz))))))))
theorem kb_107_4 : am_row mi_107 32 kr_107_4 := am_rs rfl (ok_aload_n (k := 0) dd_107_32 rfl rfl) (am_rs rfl (ok_bipush dd_107_33 bi_m4 rfl) (am_rn rfl (am_rs rfl (ok_pf dd_107_35 rfl am_ck0 (by decide) (Or.inl w_274) (Or.inl rfl) rfl) (am_rn rfl (am_rn rfl (am_rs rfl (ok_aload_n (k := 0) dd_107_38 rfl rfl) (am_rs rfl (ok_gf dd_107_39 rfl am_ck0 (by decide) (Or.inl w_269)) (am_rz))))))))
theorem kb_107_5 : am_row mi_107 40 kr_107_5 := am_rn rfl (am_rn rfl (am_rs rfl (ok_iconst dd_107_42 ic_0 rfl) (am_rs rfl (ok_cs (M' := mi_9) dd_107_43 rfl rfl w_835 w_222 ⟨lk_9.1, lk_9.2.1, lk_9.2.2, by decide, by decide⟩) (am_rn rfl (am_rn rfl (am_rs rfl (ok_iconst dd_107_46 ic_1 rfl) (am_rs rfl (ok_istore_n (k := 3) dd_107_47 rfl rfl (by decide)) (am_rz))))))))
theorem kb_107_6 : am_row mi_107 48 kr_107_6 := am_rs rfl (ok_iconst dd_107_48 ic_0 rfl) (am_rs rfl (ok_istore dd_107_49 rfl (by decide)) (am_rn rfl (am_rs rfl (ok_iload dd_107_51 rfl) (am_rn rfl (am_rs rfl (ok_sipush dd_107_53 si_4096 rfl) (am_rn rfl (am_rn rfl (am_rz))))))))
theorem kb_107_7 : am_row mi_107 56 kr_107_7 := am_rs rfl (ok_icmp dd_107_56 (by decide) rfl) (am_rn rfl (am_rn rfl (am_rs rfl (ok_iload_n (k := 3) dd_107_59 rfl rfl) (am_rs rfl (ok_ifc dd_107_60 (by decide) rfl) (am_rn rfl (am_rn rfl (am_rs rfl (ok_aload_n (k := 0) dd_107_63 rfl rfl) (am_rz))))))))
theorem kb_107_8 : am_row mi_107 64 kr_107_8 := am_rs rfl (ok_aload_n (k := 1) dd_107_64 rfl rfl) (am_rs rfl (ok_cv (M' := mi_110) dd_107_65 rfl rfl w_836 w_838 ps_110 ⟨lk_110.1, lk_110.2.1, lk_110.2.2, by decide, by decide⟩ rfl) (am_rn rfl (am_rn rfl (am_rs rfl (ok_aload_n (k := 0) dd_107_68 rfl rfl) (am_rs rfl (ok_aload_n (k := 1) dd_107_69 rfl rfl) (am_rs rfl (ok_gf dd_107_70 rfl am_ck1 (by decide) (Or.inr ⟨_, w_102⟩)) (am_rn rfl (am_rz))))))))
theorem kb_107_9 : am_row mi_107 72 kr_107_9 := am_rn rfl (am_rs rfl (ok_gf dd_107_73 rfl am_ck8 (by decide) (Or.inr ⟨_, w_65⟩)) (am_rn rfl (am_rn rfl (am_rs rfl (ok_cv (M' := mi_112) dd_107_76 rfl rfl w_846 w_848 ps_112 ⟨lk_112.1, lk_112.2.1, lk_112.2.2, by decide, by decide⟩ rfl) (am_rn rfl (am_rn rfl (am_rs rfl (ok_istore_n (k := 3) dd_107_79 rfl rfl (by decide)) (am_rz))))))))
theorem kb_107_10 : am_row mi_107 80 kr_107_10 := am_rs rfl (ok_iinc dd_107_80 ic_1 rfl (by decide)) (am_rn rfl (am_rn rfl (am_rs rfl (ok_goto dd_107_83 (by decide)) (am_rn rfl (am_rn rfl (am_rs rfl (ok_vret dd_107_86 rfl) (am_rz)))))))
theorem ck_107 : am_rows mi_107 0 cd_107 := am_bs rfl kb_107_0 (am_bs rfl kb_107_1 (am_bs rfl kb_107_2 (am_bs rfl kb_107_3 (am_bs rfl kb_107_4 (am_bs rfl kb_107_5 (am_bs rfl kb_107_6 (am_bs rfl kb_107_7 (am_bs rfl kb_107_8 (am_bs rfl kb_107_9 (am_bs rfl kb_107_10 (am_bz)))))))))))
/-- OverAndBack$Box.weigh(LOverAndBack$Evening;LOverAndBack$Screen;)V -/
noncomputable def kr_108_0 : List (Option am_Op) := [some (am_psh (.retAddr 0) 1), some (am_ist 3 2), some (am_ild 3 3), some (am_ald0 0 4), some (am_gf 0 6 7), none, none, some (am_br2 .ge 98 10)]
noncomputable def kr_108_1 : List (Option am_Op) := [none, none, some (am_ild 3 11), some (am_psh (.retAddr 10) 13), none, some (am_bin am_mul 14), some (am_ist 4 16), none]
noncomputable def kr_108_2 : List (Option am_Op) := [some (am_ild 4 18), none, some (am_psh (.retAddr 10) 20), none, some (am_bin am_add 21), some (am_ald0 1 22), some (am_gf 1 6 25), none]
noncomputable def kr_108_3 : List (Option am_Op) := [none, some (am_mmin 28), none, none, some (am_ist 5 30), none, some (am_psh (.retAddr 0) 31), some (am_ist 6 33)]
noncomputable def kr_108_4 : List (Option am_Op) := [none, some (am_ild 6 35), none, some (am_psh (.retAddr 4) 36), some (am_br2 .ge 92 39), none, none, some (am_ald0 0 40)]
noncomputable def kr_108_5 : List (Option am_Op) := [some (am_gf 0 0 43), none, none, some (am_ild 3 44), some (am_psh (.retAddr 4) 45), some (am_bin am_mul 46), some (am_ild 6 48), none]
noncomputable def kr_108_6 : List (Option am_Op) := [some (am_bin am_add 49), some (am_ald0 2 50), some (am_ild 6 52), none, some (am_ild 4 54), none, some (am_ild 5 56), none]
noncomputable def kr_108_7 : List (Option am_Op) := [some (am_cs 109 4 59), none, none, some (am_ast 0 (fun v => v) 60), some (am_ald0 0 61), some (am_gf 0 1 64), none, none]
noncomputable def kr_108_8 : List (Option am_Op) := [some (am_ild 3 65), some (am_psh (.retAddr 4) 66), some (am_bin am_mul 67), some (am_ild 6 69), none, some (am_bin am_add 70), some (am_ald0 2 71), some (am_ild 6 73)]
noncomputable def kr_108_9 : List (Option am_Op) := [none, some (am_ild 4 75), none, some (am_ald0 1 76), some (am_gf 1 7 79), none, none, some (am_bin am_add 80)]
noncomputable def kr_108_10 : List (Option am_Op) := [some (am_ild 5 82), none, some (am_cs 109 4 85), none, none, some (am_ast 0 (fun v => v) 86), some (am_inc 6 1 89), none]
noncomputable def kr_108_11 : List (Option am_Op) := [none, some (am_jmp 33), none, none, some (am_inc 3 1 95), none, none, some (am_jmp 2)]
noncomputable def kr_108_12 : List (Option am_Op) := [none, none, some (am_vret)]
noncomputable def cd_108 : am_Cd := [kr_108_0, kr_108_1, kr_108_2, kr_108_3, kr_108_4, kr_108_5, kr_108_6, kr_108_7, kr_108_8, kr_108_9, kr_108_10, kr_108_11, kr_108_12]
theorem dd_108_0 : decode prog_2_method_5_code 0 = .ok (.iconst 0, 1) := by decide +kernel
theorem dd_108_1 : decode prog_2_method_5_code 1 = .ok (.istore_n 3, 1) := by decide +kernel
theorem dd_108_2 : decode prog_2_method_5_code 2 = .ok (.iload_n 3, 1) := by decide +kernel
theorem dd_108_3 : decode prog_2_method_5_code 3 = .ok (.aload_n 0, 1) := by decide +kernel
theorem dd_108_4 : decode prog_2_method_5_code 4 = .ok (.getfield 30, 3) := by decide +kernel
theorem dd_108_7 : decode prog_2_method_5_code 7 = .ok (.if_icmp .ge 91, 3) := by decide +kernel
theorem dd_108_10 : decode prog_2_method_5_code 10 = .ok (.iload_n 3, 1) := by decide +kernel
theorem dd_108_11 : decode prog_2_method_5_code 11 = .ok (.bipush 10, 2) := by decide +kernel
theorem dd_108_13 : decode prog_2_method_5_code 13 = .ok (.imul, 1) := by decide +kernel
theorem dd_108_14 : decode prog_2_method_5_code 14 = .ok (.istore 4, 2) := by decide +kernel
theorem dd_108_16 : decode prog_2_method_5_code 16 = .ok (.iload 4, 2) := by decide +kernel
theorem dd_108_18 : decode prog_2_method_5_code 18 = .ok (.bipush 10, 2) := by decide +kernel
theorem dd_108_20 : decode prog_2_method_5_code 20 = .ok (.iadd, 1) := by decide +kernel
theorem dd_108_21 : decode prog_2_method_5_code 21 = .ok (.aload_n 1, 1) := by decide +kernel
theorem dd_108_22 : decode prog_2_method_5_code 22 = .ok (.getfield 79, 3) := by decide +kernel
theorem dd_108_25 : decode prog_2_method_5_code 25 = .ok (.invokestatic 46, 3) := by decide +kernel
theorem dd_108_28 : decode prog_2_method_5_code 28 = .ok (.istore 5, 2) := by decide +kernel
theorem dd_108_30 : decode prog_2_method_5_code 30 = .ok (.iconst 0, 1) := by decide +kernel
theorem dd_108_31 : decode prog_2_method_5_code 31 = .ok (.istore 6, 2) := by decide +kernel
theorem dd_108_33 : decode prog_2_method_5_code 33 = .ok (.iload 6, 2) := by decide +kernel
theorem dd_108_35 : decode prog_2_method_5_code 35 = .ok (.iconst 4, 1) := by decide +kernel
theorem dd_108_36 : decode prog_2_method_5_code 36 = .ok (.if_icmp .ge 56, 3) := by decide +kernel
theorem dd_108_39 : decode prog_2_method_5_code 39 = .ok (.aload_n 0, 1) := by decide +kernel
theorem dd_108_40 : decode prog_2_method_5_code 40 = .ok (.getfield 11, 3) := by decide +kernel
theorem dd_108_43 : decode prog_2_method_5_code 43 = .ok (.iload_n 3, 1) := by decide +kernel
theorem dd_108_44 : decode prog_2_method_5_code 44 = .ok (.iconst 4, 1) := by decide +kernel
theorem dd_108_45 : decode prog_2_method_5_code 45 = .ok (.imul, 1) := by decide +kernel
theorem dd_108_46 : decode prog_2_method_5_code 46 = .ok (.iload 6, 2) := by decide +kernel
theorem dd_108_48 : decode prog_2_method_5_code 48 = .ok (.iadd, 1) := by decide +kernel
theorem dd_108_49 : decode prog_2_method_5_code 49 = .ok (.aload_n 2, 1) := by decide +kernel
theorem dd_108_50 : decode prog_2_method_5_code 50 = .ok (.iload 6, 2) := by decide +kernel
theorem dd_108_52 : decode prog_2_method_5_code 52 = .ok (.iload 4, 2) := by decide +kernel
theorem dd_108_54 : decode prog_2_method_5_code 54 = .ok (.iload 5, 2) := by decide +kernel
theorem dd_108_56 : decode prog_2_method_5_code 56 = .ok (.invokestatic 82, 3) := by decide +kernel
theorem dd_108_59 : decode prog_2_method_5_code 59 = .ok (.iastore, 1) := by decide +kernel
theorem dd_108_60 : decode prog_2_method_5_code 60 = .ok (.aload_n 0, 1) := by decide +kernel
theorem dd_108_61 : decode prog_2_method_5_code 61 = .ok (.getfield 15, 3) := by decide +kernel
theorem dd_108_64 : decode prog_2_method_5_code 64 = .ok (.iload_n 3, 1) := by decide +kernel
theorem dd_108_65 : decode prog_2_method_5_code 65 = .ok (.iconst 4, 1) := by decide +kernel
theorem dd_108_66 : decode prog_2_method_5_code 66 = .ok (.imul, 1) := by decide +kernel
theorem dd_108_67 : decode prog_2_method_5_code 67 = .ok (.iload 6, 2) := by decide +kernel
theorem dd_108_69 : decode prog_2_method_5_code 69 = .ok (.iadd, 1) := by decide +kernel
theorem dd_108_70 : decode prog_2_method_5_code 70 = .ok (.aload_n 2, 1) := by decide +kernel
theorem dd_108_71 : decode prog_2_method_5_code 71 = .ok (.iload 6, 2) := by decide +kernel
theorem dd_108_73 : decode prog_2_method_5_code 73 = .ok (.iload 4, 2) := by decide +kernel
theorem dd_108_75 : decode prog_2_method_5_code 75 = .ok (.aload_n 1, 1) := by decide +kernel
theorem dd_108_76 : decode prog_2_method_5_code 76 = .ok (.getfield 86, 3) := by decide +kernel
theorem dd_108_79 : decode prog_2_method_5_code 79 = .ok (.iadd, 1) := by decide +kernel
theorem dd_108_80 : decode prog_2_method_5_code 80 = .ok (.iload 5, 2) := by decide +kernel
theorem dd_108_82 : decode prog_2_method_5_code 82 = .ok (.invokestatic 82, 3) := by decide +kernel
theorem dd_108_85 : decode prog_2_method_5_code 85 = .ok (.iastore, 1) := by decide +kernel
theorem dd_108_86 : decode prog_2_method_5_code 86 = .ok (.iinc 6 1, 3) := by decide +kernel
theorem dd_108_89 : decode prog_2_method_5_code 89 = .ok (.goto (-56), 3) := by decide +kernel
theorem dd_108_92 : decode prog_2_method_5_code 92 = .ok (.iinc 3 1, 3) := by decide +kernel
theorem dd_108_95 : decode prog_2_method_5_code 95 = .ok (.goto (-93), 3) := by decide +kernel
theorem dd_108_98 : decode prog_2_method_5_code 98 = .ok (.return_, 1) := by decide +kernel
theorem kb_108_0 : am_row mi_108 0 kr_108_0 := am_rs rfl (ok_iconst dd_108_0 ic_0 rfl) (am_rs rfl (ok_istore_n (k := 3) dd_108_1 rfl rfl (by decide)) (am_rs rfl (ok_iload_n (k := 3) dd_108_2 rfl rfl) (am_rs rfl (ok_aload_n (k := 0) dd_108_3 rfl rfl) (am_rs rfl (ok_gf dd_108_4 rfl am_ck0 (by decide) (Or.inl w_273)) (am_rn rfl (am_rn rfl (am_rs rfl (ok_icmp dd_108_7 (by decide) rfl) (am_rz))))))))
theorem kb_108_1 : am_row mi_108 8 kr_108_1 := am_rn rfl (am_rn rfl (am_rs rfl (ok_iload_n (k := 3) dd_108_10 rfl rfl) (am_rs rfl (ok_bipush dd_108_11 bi_10 rfl) (am_rn rfl (am_rs rfl (ok_imul dd_108_13 rfl) (am_rs rfl (ok_istore dd_108_14 rfl (by decide)) (am_rn rfl (am_rz))))))))
theorem kb_108_2 : am_row mi_108 16 kr_108_2 := am_rs rfl (ok_iload dd_108_16 rfl) (am_rn rfl (am_rs rfl (ok_bipush dd_108_18 bi_10 rfl) (am_rn rfl (am_rs rfl (ok_iadd dd_108_20 rfl) (am_rs rfl (ok_aload_n (k := 1) dd_108_21 rfl rfl) (am_rs rfl (ok_gf dd_108_22 rfl am_ck1 (by decide) (Or.inr ⟨_, w_110⟩)) (am_rn rfl (am_rz))))))))
theorem kb_108_3 : am_row mi_108 24 kr_108_3 := am_rn rfl (am_rs rfl (ok_mmin dd_108_25 rfl w_826 w_393 w_18 w_394 ⟨by decide, by decide⟩) (am_rn rfl (am_rn rfl (am_rs rfl (ok_istore dd_108_28 rfl (by decide)) (am_rn rfl (am_rs rfl (ok_iconst dd_108_30 ic_0 rfl) (am_rs rfl (ok_istore dd_108_31 rfl (by decide)) (am_rz))))))))
theorem kb_108_4 : am_row mi_108 32 kr_108_4 := am_rn rfl (am_rs rfl (ok_iload dd_108_33 rfl) (am_rn rfl (am_rs rfl (ok_iconst dd_108_35 ic_4 rfl) (am_rs rfl (ok_icmp dd_108_36 (by decide) rfl) (am_rn rfl (am_rn rfl (am_rs rfl (ok_aload_n (k := 0) dd_108_39 rfl rfl) (am_rz))))))))
theorem kb_108_5 : am_row mi_108 40 kr_108_5 := am_rs rfl (ok_gf dd_108_40 rfl am_ck0 (by decide) (Or.inl w_267)) (am_rn rfl (am_rn rfl (am_rs rfl (ok_iload_n (k := 3) dd_108_43 rfl rfl) (am_rs rfl (ok_iconst dd_108_44 ic_4 rfl) (am_rs rfl (ok_imul dd_108_45 rfl) (am_rs rfl (ok_iload dd_108_46 rfl) (am_rn rfl (am_rz))))))))
theorem kb_108_6 : am_row mi_108 48 kr_108_6 := am_rs rfl (ok_iadd dd_108_48 rfl) (am_rs rfl (ok_aload_n (k := 2) dd_108_49 rfl rfl) (am_rs rfl (ok_iload dd_108_50 rfl) (am_rn rfl (am_rs rfl (ok_iload dd_108_52 rfl) (am_rn rfl (am_rs rfl (ok_iload dd_108_54 rfl) (am_rn rfl (am_rz))))))))
theorem kb_108_7 : am_row mi_108 56 kr_108_7 := am_rs rfl (ok_cs (M' := mi_109) dd_108_56 rfl rfl w_831 w_832 ⟨lk_109.1, lk_109.2.1, lk_109.2.2, by decide, by decide⟩) (am_rn rfl (am_rn rfl (am_rs rfl (ok_iast dd_108_59 rfl) (am_rs rfl (ok_aload_n (k := 0) dd_108_60 rfl rfl) (am_rs rfl (ok_gf dd_108_61 rfl am_ck0 (by decide) (Or.inl w_268)) (am_rn rfl (am_rn rfl (am_rz))))))))
theorem kb_108_8 : am_row mi_108 64 kr_108_8 := am_rs rfl (ok_iload_n (k := 3) dd_108_64 rfl rfl) (am_rs rfl (ok_iconst dd_108_65 ic_4 rfl) (am_rs rfl (ok_imul dd_108_66 rfl) (am_rs rfl (ok_iload dd_108_67 rfl) (am_rn rfl (am_rs rfl (ok_iadd dd_108_69 rfl) (am_rs rfl (ok_aload_n (k := 2) dd_108_70 rfl rfl) (am_rs rfl (ok_iload dd_108_71 rfl) (am_rz))))))))
theorem kb_108_9 : am_row mi_108 72 kr_108_9 := am_rn rfl (am_rs rfl (ok_iload dd_108_73 rfl) (am_rn rfl (am_rs rfl (ok_aload_n (k := 1) dd_108_75 rfl rfl) (am_rs rfl (ok_gf dd_108_76 rfl am_ck1 (by decide) (Or.inr ⟨_, w_117⟩)) (am_rn rfl (am_rn rfl (am_rs rfl (ok_iadd dd_108_79 rfl) (am_rz))))))))
theorem kb_108_10 : am_row mi_108 80 kr_108_10 := am_rs rfl (ok_iload dd_108_80 rfl) (am_rn rfl (am_rs rfl (ok_cs (M' := mi_109) dd_108_82 rfl rfl w_831 w_832 ⟨lk_109.1, lk_109.2.1, lk_109.2.2, by decide, by decide⟩) (am_rn rfl (am_rn rfl (am_rs rfl (ok_iast dd_108_85 rfl) (am_rs rfl (ok_iinc dd_108_86 ic_1 rfl (by decide)) (am_rn rfl (am_rz))))))))
theorem kb_108_11 : am_row mi_108 88 kr_108_11 := am_rn rfl (am_rs rfl (ok_goto dd_108_89 (by decide)) (am_rn rfl (am_rn rfl (am_rs rfl (ok_iinc dd_108_92 ic_1 rfl (by decide)) (am_rn rfl (am_rn rfl (am_rs rfl (ok_goto dd_108_95 (by decide)) (am_rz))))))))
theorem kb_108_12 : am_row mi_108 96 kr_108_12 := am_rn rfl (am_rn rfl (am_rs rfl (ok_vret dd_108_98 rfl) (am_rz)))
theorem ck_108 : am_rows mi_108 0 cd_108 := am_bs rfl kb_108_0 (am_bs rfl kb_108_1 (am_bs rfl kb_108_2 (am_bs rfl kb_108_3 (am_bs rfl kb_108_4 (am_bs rfl kb_108_5 (am_bs rfl kb_108_6 (am_bs rfl kb_108_7 (am_bs rfl kb_108_8 (am_bs rfl kb_108_9 (am_bs rfl kb_108_10 (am_bs rfl kb_108_11 (am_bs rfl kb_108_12 (am_bz)))))))))))))
/-- OverAndBack$Box.shown(LOverAndBack$Screen;III)I -/
noncomputable def kr_109_0 : List (Option am_Op) := [some (am_psh (.retAddr 0) 1), some (am_ist 4 3), none, some (am_ild 2 4), some (am_ist 5 6), none, some (am_ild 5 8), none]
noncomputable def kr_109_1 : List (Option am_Op) := [some (am_ild 3 9), some (am_br2 .ge 30 12), none, none, some (am_ild 4 14), none, some (am_ald0 0 15), some (am_ild 1 16)]
noncomputable def kr_109_2 : List (Option am_Op) := [some (am_ild 5 18), none, some (am_cv 41 2 9 21), none, none, some (am_bin am_add 22), some (am_ist 4 24), none]
noncomputable def kr_109_3 : List (Option am_Op) := [some (am_inc 5 1 27), none, none, some (am_jmp 6), none, none, some (am_ild 4 32), none]
noncomputable def kr_109_4 : List (Option am_Op) := [some (am_iret)]
noncomputable def cd_109 : am_Cd := [kr_109_0, kr_109_1, kr_109_2, kr_109_3, kr_109_4]
theorem dd_109_0 : decode prog_2_method_6_code 0 = .ok (.iconst 0, 1) := by decide +kernel
theorem dd_109_1 : decode prog_2_method_6_code 1 = .ok (.istore 4, 2) := by decide +kernel
theorem dd_109_3 : decode prog_2_method_6_code 3 = .ok (.iload_n 2, 1) := by decide +kernel
theorem dd_109_4 : decode prog_2_method_6_code 4 = .ok (.istore 5, 2) := by decide +kernel
theorem dd_109_6 : decode prog_2_method_6_code 6 = .ok (.iload 5, 2) := by decide +kernel
theorem dd_109_8 : decode prog_2_method_6_code 8 = .ok (.iload_n 3, 1) := by decide +kernel
theorem dd_109_9 : decode prog_2_method_6_code 9 = .ok (.if_icmp .ge 21, 3) := by decide +kernel
theorem dd_109_12 : decode prog_2_method_6_code 12 = .ok (.iload 4, 2) := by decide +kernel
theorem dd_109_14 : decode prog_2_method_6_code 14 = .ok (.aload_n 0, 1) := by decide +kernel
theorem dd_109_15 : decode prog_2_method_6_code 15 = .ok (.iload_n 1, 1) := by decide +kernel
theorem dd_109_16 : decode prog_2_method_6_code 16 = .ok (.iload 5, 2) := by decide +kernel
theorem dd_109_18 : decode prog_2_method_6_code 18 = .ok (.invokevirtual 89, 3) := by decide +kernel
theorem dd_109_21 : decode prog_2_method_6_code 21 = .ok (.iadd, 1) := by decide +kernel
theorem dd_109_22 : decode prog_2_method_6_code 22 = .ok (.istore 4, 2) := by decide +kernel
theorem dd_109_24 : decode prog_2_method_6_code 24 = .ok (.iinc 5 1, 3) := by decide +kernel
theorem dd_109_27 : decode prog_2_method_6_code 27 = .ok (.goto (-21), 3) := by decide +kernel
theorem dd_109_30 : decode prog_2_method_6_code 30 = .ok (.iload 4, 2) := by decide +kernel
theorem dd_109_32 : decode prog_2_method_6_code 32 = .ok (.ireturn, 1) := by decide +kernel
theorem kb_109_0 : am_row mi_109 0 kr_109_0 := am_rs rfl (ok_iconst dd_109_0 ic_0 rfl) (am_rs rfl (ok_istore dd_109_1 rfl (by decide)) (am_rn rfl (am_rs rfl (ok_iload_n (k := 2) dd_109_3 rfl rfl) (am_rs rfl (ok_istore dd_109_4 rfl (by decide)) (am_rn rfl (am_rs rfl (ok_iload dd_109_6 rfl) (am_rn rfl (am_rz))))))))
theorem kb_109_1 : am_row mi_109 8 kr_109_1 := am_rs rfl (ok_iload_n (k := 3) dd_109_8 rfl rfl) (am_rs rfl (ok_icmp dd_109_9 (by decide) rfl) (am_rn rfl (am_rn rfl (am_rs rfl (ok_iload dd_109_12 rfl) (am_rn rfl (am_rs rfl (ok_aload_n (k := 0) dd_109_14 rfl rfl) (am_rs rfl (ok_iload_n (k := 1) dd_109_15 rfl rfl) (am_rz))))))))
theorem kb_109_2 : am_row mi_109 16 kr_109_2 := am_rs rfl (ok_iload dd_109_16 rfl) (am_rn rfl (am_rs rfl (ok_cv (M' := mi_41) dd_109_18 rfl rfl w_834 w_491 w_492 ⟨lk_41.1, lk_41.2.1, lk_41.2.2, by decide, by decide⟩ rfl) (am_rn rfl (am_rn rfl (am_rs rfl (ok_iadd dd_109_21 rfl) (am_rs rfl (ok_istore dd_109_22 rfl (by decide)) (am_rn rfl (am_rz))))))))
theorem kb_109_3 : am_row mi_109 24 kr_109_3 := am_rs rfl (ok_iinc dd_109_24 ic_1 rfl (by decide)) (am_rn rfl (am_rn rfl (am_rs rfl (ok_goto dd_109_27 (by decide)) (am_rn rfl (am_rn rfl (am_rs rfl (ok_iload dd_109_30 rfl) (am_rn rfl (am_rz))))))))
theorem kb_109_4 : am_row mi_109 32 kr_109_4 := am_rs rfl (ok_iret dd_109_32 rfl) (am_rz)
theorem ck_109 : am_rows mi_109 0 cd_109 := am_bs rfl kb_109_0 (am_bs rfl kb_109_1 (am_bs rfl kb_109_2 (am_bs rfl kb_109_3 (am_bs rfl kb_109_4 (am_bz)))))
/-- OverAndBack$Box.tryWay(LOverAndBack$Evening;)V -/
noncomputable def kr_110_0 : List (Option am_Op) := [some (am_ald0 0 1), some (am_gf 0 4 4), none, none, some (am_psh (.retAddr 0) 5), some (am_cs 9 2 8), none, none]
noncomputable def kr_110_1 : List (Option am_Op) := [some (am_psh (.retAddr 4294967292) 10), none, some (am_ist 2 11), some (am_psh (.retAddr 0) 12), some (am_ist 3 13), some (am_ild 3 14), some (am_ald0 0 15), some (am_gf 0 6 18)]
noncomputable def kr_110_2 : List (Option am_Op) := [none, none, some (am_br2 .ge 112 21), none, none, some (am_ald0 1 22), some (am_ald0 0 23), some (am_gf 0 2 26)]
noncomputable def kr_110_3 : List (Option am_Op) := [none, none, some (am_ild 3 27), some (am_ald 0 28), some (am_cv 70 1 1 31), none, none, some (am_ist 4 33)]
noncomputable def kr_110_4 : List (Option am_Op) := [none, some (am_ild 4 35), none, some (am_br1 .lt 103 38), none, none, some (am_ild 4 40), none]
noncomputable def kr_110_5 : List (Option am_Op) := [some (am_psh (.retAddr 4) 41), some (am_br2 .ge 103 44), none, none, some (am_ild 2 45), some (am_psh (.retAddr 4294967292) 47), none, some (am_br2 .eq 60 50)]
noncomputable def kr_110_6 : List (Option am_Op) := [none, none, some (am_ild 2 51), some (am_ild 4 53), none, some (am_br2 .eq 60 56), none, none]
noncomputable def kr_110_7 : List (Option am_Op) := [some (am_psh (.retAddr 1) 57), some (am_jmp 61), none, none, some (am_psh (.retAddr 0) 61), some (am_ist 5 63), none, some (am_ild 3 64)]
noncomputable def kr_110_8 : List (Option am_Op) := [some (am_psh (.retAddr 4) 65), some (am_bin am_mul 66), some (am_ild 4 68), none, some (am_bin am_add 69), some (am_ist 6 71), none, some (am_ald0 0 72)]
noncomputable def kr_110_9 : List (Option am_Op) := [some (am_gf 0 4 75), none, none, some (am_ild 4 77), none, some (am_dup2 78), some (am_ald 0 79), some (am_ild 5 81)]
noncomputable def kr_110_10 : List (Option am_Op) := [none, some (am_br1 .eq 94 84), none, none, some (am_ald0 0 85), some (am_gf 0 1 88), none, none]
noncomputable def kr_110_11 : List (Option am_Op) := [some (am_ild 6 90), none, some (am_ald 0 91), some (am_jmp 101), none, none, some (am_ald0 0 95), some (am_gf 0 0 98)]
noncomputable def kr_110_12 : List (Option am_Op) := [none, none, some (am_ild 6 100), none, some (am_ald 0 101), some (am_bin am_add 102), some (am_ast 0 (fun v => v) 103), some (am_ild 4 105)]
noncomputable def kr_110_13 : List (Option am_Op) := [none, some (am_ist 2 106), some (am_inc 3 1 109), none, none, some (am_jmp 13), none, none]
noncomputable def kr_110_14 : List (Option am_Op) := [some (am_ald0 0 113), some (am_ald0 1 114), some (am_cv 111 1 0 117), none, none, some (am_ist 3 118), some (am_ild 3 119), some (am_ald0 0 120)]
noncomputable def kr_110_15 : List (Option am_Op) := [some (am_gf 0 7 123), none, none, some (am_br2 .le 160 126), none, none, some (am_ald0 0 127), some (am_ild 3 128)]
noncomputable def kr_110_16 : List (Option am_Op) := [some (am_pf 0 7 0 131), none, none, some (am_ald0 0 132), some (am_gf 0 2 135), none, none, some (am_psh (.retAddr 0) 136)]
noncomputable def kr_110_17 : List (Option am_Op) := [some (am_ald0 0 137), some (am_gf 0 3 140), none, none, some (am_psh (.retAddr 0) 141), some (am_psh (.retAddr 6) 143), none, some (am_acp 146)]
noncomputable def kr_110_18 : List (Option am_Op) := [none, none, some (am_ald0 0 147), some (am_gf 0 4 150), none, none, some (am_psh (.retAddr 0) 151), some (am_ald0 0 152)]
noncomputable def kr_110_19 : List (Option am_Op) := [some (am_gf 0 5 155), none, none, some (am_psh (.retAddr 0) 156), some (am_psh (.retAddr 4) 157), some (am_acp 160), none, none]
noncomputable def kr_110_20 : List (Option am_Op) := [some (am_vret)]
noncomputable def cd_110 : am_Cd := [kr_110_0, kr_110_1, kr_110_2, kr_110_3, kr_110_4, kr_110_5, kr_110_6, kr_110_7, kr_110_8, kr_110_9, kr_110_10, kr_110_11, kr_110_12, kr_110_13, kr_110_14, kr_110_15, kr_110_16, kr_110_17, kr_110_18, kr_110_19, kr_110_20]
theorem dd_110_0 : decode prog_2_method_7_code 0 = .ok (.aload_n 0, 1) := by decide +kernel
theorem dd_110_1 : decode prog_2_method_7_code 1 = .ok (.getfield 24, 3) := by decide +kernel
theorem dd_110_4 : decode prog_2_method_7_code 4 = .ok (.iconst 0, 1) := by decide +kernel
theorem dd_110_5 : decode prog_2_method_7_code 5 = .ok (.invokestatic 56, 3) := by decide +kernel
theorem dd_110_8 : decode prog_2_method_7_code 8 = .ok (.bipush (-4), 2) := by decide +kernel
theorem dd_110_10 : decode prog_2_method_7_code 10 = .ok (.istore_n 2, 1) := by decide +kernel
theorem dd_110_11 : decode prog_2_method_7_code 11 = .ok (.iconst 0, 1) := by decide +kernel
theorem dd_110_12 : decode prog_2_method_7_code 12 = .ok (.istore_n 3, 1) := by decide +kernel
theorem dd_110_13 : decode prog_2_method_7_code 13 = .ok (.iload_n 3, 1) := by decide +kernel
theorem dd_110_14 : decode prog_2_method_7_code 14 = .ok (.aload_n 0, 1) := by decide +kernel
theorem dd_110_15 : decode prog_2_method_7_code 15 = .ok (.getfield 30, 3) := by decide +kernel
theorem dd_110_18 : decode prog_2_method_7_code 18 = .ok (.if_icmp .ge 94, 3) := by decide +kernel
theorem dd_110_21 : decode prog_2_method_7_code 21 = .ok (.aload_n 1, 1) := by decide +kernel
theorem dd_110_22 : decode prog_2_method_7_code 22 = .ok (.aload_n 0, 1) := by decide +kernel
theorem dd_110_23 : decode prog_2_method_7_code 23 = .ok (.getfield 18, 3) := by decide +kernel
theorem dd_110_26 : decode prog_2_method_7_code 26 = .ok (.iload_n 3, 1) := by decide +kernel
theorem dd_110_27 : decode prog_2_method_7_code 27 = .ok (.iaload, 1) := by decide +kernel
theorem dd_110_28 : decode prog_2_method_7_code 28 = .ok (.invokevirtual 94, 3) := by decide +kernel
theorem dd_110_31 : decode prog_2_method_7_code 31 = .ok (.istore 4, 2) := by decide +kernel
theorem dd_110_33 : decode prog_2_method_7_code 33 = .ok (.iload 4, 2) := by decide +kernel
theorem dd_110_35 : decode prog_2_method_7_code 35 = .ok (.ifCond .lt 68, 3) := by decide +kernel
theorem dd_110_38 : decode prog_2_method_7_code 38 = .ok (.iload 4, 2) := by decide +kernel
theorem dd_110_40 : decode prog_2_method_7_code 40 = .ok (.iconst 4, 1) := by decide +kernel
theorem dd_110_41 : decode prog_2_method_7_code 41 = .ok (.if_icmp .ge 62, 3) := by decide +kernel
theorem dd_110_44 : decode prog_2_method_7_code 44 = .ok (.iload_n 2, 1) := by decide +kernel
theorem dd_110_45 : decode prog_2_method_7_code 45 = .ok (.bipush (-4), 2) := by decide +kernel
theorem dd_110_47 : decode prog_2_method_7_code 47 = .ok (.if_icmp .eq 13, 3) := by decide +kernel
theorem dd_110_50 : decode prog_2_method_7_code 50 = .ok (.iload_n 2, 1) := by decide +kernel
theorem dd_110_51 : decode prog_2_method_7_code 51 = .ok (.iload 4, 2) := by decide +kernel
theorem dd_110_53 : decode prog_2_method_7_code 53 = .ok (.if_icmp .eq 7, 3) := by decide +kernel
theorem dd_110_56 : decode prog_2_method_7_code 56 = .ok (.iconst 1, 1) := by decide +kernel
theorem dd_110_57 : decode prog_2_method_7_code 57 = .ok (.goto 4, 3) := by decide +kernel
theorem dd_110_60 : decode prog_2_method_7_code 60 = .ok (.iconst 0, 1) := by decide +kernel
theorem dd_110_61 : decode prog_2_method_7_code 61 = .ok (.istore 5, 2) := by decide +kernel
theorem dd_110_63 : decode prog_2_method_7_code 63 = .ok (.iload_n 3, 1) := by decide +kernel
theorem dd_110_64 : decode prog_2_method_7_code 64 = .ok (.iconst 4, 1) := by decide +kernel
theorem dd_110_65 : decode prog_2_method_7_code 65 = .ok (.imul, 1) := by decide +kernel
theorem dd_110_66 : decode prog_2_method_7_code 66 = .ok (.iload 4, 2) := by decide +kernel
theorem dd_110_68 : decode prog_2_method_7_code 68 = .ok (.iadd, 1) := by decide +kernel
theorem dd_110_69 : decode prog_2_method_7_code 69 = .ok (.istore 6, 2) := by decide +kernel
theorem dd_110_71 : decode prog_2_method_7_code 71 = .ok (.aload_n 0, 1) := by decide +kernel
theorem dd_110_72 : decode prog_2_method_7_code 72 = .ok (.getfield 24, 3) := by decide +kernel
theorem dd_110_75 : decode prog_2_method_7_code 75 = .ok (.iload 4, 2) := by decide +kernel
theorem dd_110_77 : decode prog_2_method_7_code 77 = .ok (.dup2, 1) := by decide +kernel
theorem dd_110_78 : decode prog_2_method_7_code 78 = .ok (.iaload, 1) := by decide +kernel
theorem dd_110_79 : decode prog_2_method_7_code 79 = .ok (.iload 5, 2) := by decide +kernel
theorem dd_110_81 : decode prog_2_method_7_code 81 = .ok (.ifCond .eq 13, 3) := by decide +kernel
theorem dd_110_84 : decode prog_2_method_7_code 84 = .ok (.aload_n 0, 1) := by decide +kernel
theorem dd_110_85 : decode prog_2_method_7_code 85 = .ok (.getfield 15, 3) := by decide +kernel
theorem dd_110_88 : decode prog_2_method_7_code 88 = .ok (.iload 6, 2) := by decide +kernel
theorem dd_110_90 : decode prog_2_method_7_code 90 = .ok (.iaload, 1) := by decide +kernel
theorem dd_110_91 : decode prog_2_method_7_code 91 = .ok (.goto 10, 3) := by decide +kernel
theorem dd_110_94 : decode prog_2_method_7_code 94 = .ok (.aload_n 0, 1) := by decide +kernel
theorem dd_110_95 : decode prog_2_method_7_code 95 = .ok (.getfield 11, 3) := by decide +kernel
theorem dd_110_98 : decode prog_2_method_7_code 98 = .ok (.iload 6, 2) := by decide +kernel
theorem dd_110_100 : decode prog_2_method_7_code 100 = .ok (.iaload, 1) := by decide +kernel
theorem dd_110_101 : decode prog_2_method_7_code 101 = .ok (.iadd, 1) := by decide +kernel
theorem dd_110_102 : decode prog_2_method_7_code 102 = .ok (.iastore, 1) := by decide +kernel
theorem dd_110_103 : decode prog_2_method_7_code 103 = .ok (.iload 4, 2) := by decide +kernel
theorem dd_110_105 : decode prog_2_method_7_code 105 = .ok (.istore_n 2, 1) := by decide +kernel
theorem dd_110_106 : decode prog_2_method_7_code 106 = .ok (.iinc 3 1, 3) := by decide +kernel
theorem dd_110_109 : decode prog_2_method_7_code 109 = .ok (.goto (-96), 3) := by decide +kernel
theorem dd_110_112 : decode prog_2_method_7_code 112 = .ok (.aload_n 0, 1) := by decide +kernel
theorem dd_110_113 : decode prog_2_method_7_code 113 = .ok (.aload_n 1, 1) := by decide +kernel
theorem dd_110_114 : decode prog_2_method_7_code 114 = .ok (.invokevirtual 98, 3) := by decide +kernel
theorem dd_110_117 : decode prog_2_method_7_code 117 = .ok (.istore_n 3, 1) := by decide +kernel
theorem dd_110_118 : decode prog_2_method_7_code 118 = .ok (.iload_n 3, 1) := by decide +kernel
theorem dd_110_119 : decode prog_2_method_7_code 119 = .ok (.aload_n 0, 1) := by decide +kernel
theorem dd_110_120 : decode prog_2_method_7_code 120 = .ok (.getfield 34, 3) := by decide +kernel
theorem dd_110_123 : decode prog_2_method_7_code 123 = .ok (.if_icmp .le 37, 3) := by decide +kernel
theorem dd_110_126 : decode prog_2_method_7_code 126 = .ok (.aload_n 0, 1) := by decide +kernel
theorem dd_110_127 : decode prog_2_method_7_code 127 = .ok (.iload_n 3, 1) := by decide +kernel
theorem dd_110_128 : decode prog_2_method_7_code 128 = .ok (.putfield 34, 3) := by decide +kernel
theorem dd_110_131 : decode prog_2_method_7_code 131 = .ok (.aload_n 0, 1) := by decide +kernel
theorem dd_110_132 : decode prog_2_method_7_code 132 = .ok (.getfield 18, 3) := by decide +kernel
theorem dd_110_135 : decode prog_2_method_7_code 135 = .ok (.iconst 0, 1) := by decide +kernel
theorem dd_110_136 : decode prog_2_method_7_code 136 = .ok (.aload_n 0, 1) := by decide +kernel
theorem dd_110_137 : decode prog_2_method_7_code 137 = .ok (.getfield 21, 3) := by decide +kernel
theorem dd_110_140 : decode prog_2_method_7_code 140 = .ok (.iconst 0, 1) := by decide +kernel
theorem dd_110_141 : decode prog_2_method_7_code 141 = .ok (.bipush 6, 2) := by decide +kernel
theorem dd_110_143 : decode prog_2_method_7_code 143 = .ok (.invokestatic 102, 3) := by decide +kernel
theorem dd_110_146 : decode prog_2_method_7_code 146 = .ok (.aload_n 0, 1) := by decide +kernel
theorem dd_110_147 : decode prog_2_method_7_code 147 = .ok (.getfield 24, 3) := by decide +kernel
theorem dd_110_150 : decode prog_2_method_7_code 150 = .ok (.iconst 0, 1) := by decide +kernel
theorem dd_110_151 : decode prog_2_method_7_code 151 = .ok (.aload_n 0, 1) := by decide +kernel
theorem dd_110_152 : decode prog_2_method_7_code 152 = .ok (.getfield 27, 3) := by decide +kernel
theorem dd_110_155 : decode prog_2_method_7_code 155 = .ok (.iconst 0, 1) := by decide +kernel
theorem dd_110_156 : decode prog_2_method_7_code 156 = .ok (.iconst 4, 1) := by decide +kernel
theorem dd_110_157 : decode prog_2_method_7_code 157 = .ok (.invokestatic 102, 3) := by decide +kernel
theorem dd_110_160 : decode prog_2_method_7_code 160 = .ok (.return_, 1) := by decide +kernel
theorem kb_110_0 : am_row mi_110 0 kr_110_0 := am_rs rfl (ok_aload_n (k := 0) dd_110_0 rfl rfl) (am_rs rfl (ok_gf dd_110_1 rfl am_ck0 (by decide) (Or.inl w_271)) (am_rn rfl (am_rn rfl (am_rs rfl (ok_iconst dd_110_4 ic_0 rfl) (am_rs rfl (ok_cs (M' := mi_9) dd_110_5 rfl rfl w_835 w_222 ⟨lk_9.1, lk_9.2.1, lk_9.2.2, by decide, by decide⟩) (am_rn rfl (am_rn rfl (am_rz))))))))
theorem kb_110_1 : am_row mi_110 8 kr_110_1 := am_rs rfl (ok_bipush dd_110_8 bi_m4 rfl) (am_rn rfl (am_rs rfl (ok_istore_n (k := 2) dd_110_10 rfl rfl (by decide)) (am_rs rfl (ok_iconst dd_110_11 ic_0 rfl) (am_rs rfl (ok_istore_n (k := 3) dd_110_12 rfl rfl (by decide)) (am_rs rfl (ok_iload_n (k := 3) dd_110_13 rfl rfl) (am_rs rfl (ok_aload_n (k := 0) dd_110_14 rfl rfl) (am_rs rfl (ok_gf dd_110_15 rfl am_ck0 (by decide) (Or.inl w_273)) (am_rz))))))))
theorem kb_110_2 : am_row mi_110 16 kr_110_2 := am_rn rfl (am_rn rfl (am_rs rfl (ok_icmp dd_110_18 (by decide) rfl) (am_rn rfl (am_rn rfl (am_rs rfl (ok_aload_n (k := 1) dd_110_21 rfl rfl) (am_rs rfl (ok_aload_n (k := 0) dd_110_22 rfl rfl) (am_rs rfl (ok_gf dd_110_23 rfl am_ck0 (by decide) (Or.inl w_269)) (am_rz))))))))
theorem kb_110_3 : am_row mi_110 24 kr_110_3 := am_rn rfl (am_rn rfl (am_rs rfl (ok_iload_n (k := 3) dd_110_26 rfl rfl) (am_rs rfl (ok_iald dd_110_27 rfl) (am_rs rfl (ok_cv (M' := mi_70) dd_110_28 rfl rfl w_840 w_664 w_665 ⟨lk_70.1, lk_70.2.1, lk_70.2.2, by decide, by decide⟩ rfl) (am_rn rfl (am_rn rfl (am_rs rfl (ok_istore dd_110_31 rfl (by decide)) (am_rz))))))))
theorem kb_110_4 : am_row mi_110 32 kr_110_4 := am_rn rfl (am_rs rfl (ok_iload dd_110_33 rfl) (am_rn rfl (am_rs rfl (ok_ifc dd_110_35 (by decide) rfl) (am_rn rfl (am_rn rfl (am_rs rfl (ok_iload dd_110_38 rfl) (am_rn rfl (am_rz))))))))
theorem kb_110_5 : am_row mi_110 40 kr_110_5 := am_rs rfl (ok_iconst dd_110_40 ic_4 rfl) (am_rs rfl (ok_icmp dd_110_41 (by decide) rfl) (am_rn rfl (am_rn rfl (am_rs rfl (ok_iload_n (k := 2) dd_110_44 rfl rfl) (am_rs rfl (ok_bipush dd_110_45 bi_m4 rfl) (am_rn rfl (am_rs rfl (ok_icmp dd_110_47 (by decide) rfl) (am_rz))))))))
theorem kb_110_6 : am_row mi_110 48 kr_110_6 := am_rn rfl (am_rn rfl (am_rs rfl (ok_iload_n (k := 2) dd_110_50 rfl rfl) (am_rs rfl (ok_iload dd_110_51 rfl) (am_rn rfl (am_rs rfl (ok_icmp dd_110_53 (by decide) rfl) (am_rn rfl (am_rn rfl (am_rz))))))))
theorem kb_110_7 : am_row mi_110 56 kr_110_7 := am_rs rfl (ok_iconst dd_110_56 ic_1 rfl) (am_rs rfl (ok_goto dd_110_57 (by decide)) (am_rn rfl (am_rn rfl (am_rs rfl (ok_iconst dd_110_60 ic_0 rfl) (am_rs rfl (ok_istore dd_110_61 rfl (by decide)) (am_rn rfl (am_rs rfl (ok_iload_n (k := 3) dd_110_63 rfl rfl) (am_rz))))))))
theorem kb_110_8 : am_row mi_110 64 kr_110_8 := am_rs rfl (ok_iconst dd_110_64 ic_4 rfl) (am_rs rfl (ok_imul dd_110_65 rfl) (am_rs rfl (ok_iload dd_110_66 rfl) (am_rn rfl (am_rs rfl (ok_iadd dd_110_68 rfl) (am_rs rfl (ok_istore dd_110_69 rfl (by decide)) (am_rn rfl (am_rs rfl (ok_aload_n (k := 0) dd_110_71 rfl rfl) (am_rz))))))))
theorem kb_110_9 : am_row mi_110 72 kr_110_9 := am_rs rfl (ok_gf dd_110_72 rfl am_ck0 (by decide) (Or.inl w_271)) (am_rn rfl (am_rn rfl (am_rs rfl (ok_iload dd_110_75 rfl) (am_rn rfl (am_rs rfl (ok_dup2 dd_110_77 rfl) (am_rs rfl (ok_iald dd_110_78 rfl) (am_rs rfl (ok_iload dd_110_79 rfl) (am_rz))))))))
theorem kb_110_10 : am_row mi_110 80 kr_110_10 := am_rn rfl (am_rs rfl (ok_ifc dd_110_81 (by decide) rfl) (am_rn rfl (am_rn rfl (am_rs rfl (ok_aload_n (k := 0) dd_110_84 rfl rfl) (am_rs rfl (ok_gf dd_110_85 rfl am_ck0 (by decide) (Or.inl w_268)) (am_rn rfl (am_rn rfl (am_rz))))))))
theorem kb_110_11 : am_row mi_110 88 kr_110_11 := am_rs rfl (ok_iload dd_110_88 rfl) (am_rn rfl (am_rs rfl (ok_iald dd_110_90 rfl) (am_rs rfl (ok_goto dd_110_91 (by decide)) (am_rn rfl (am_rn rfl (am_rs rfl (ok_aload_n (k := 0) dd_110_94 rfl rfl) (am_rs rfl (ok_gf dd_110_95 rfl am_ck0 (by decide) (Or.inl w_267)) (am_rz))))))))
theorem kb_110_12 : am_row mi_110 96 kr_110_12 := am_rn rfl (am_rn rfl (am_rs rfl (ok_iload dd_110_98 rfl) (am_rn rfl (am_rs rfl (ok_iald dd_110_100 rfl) (am_rs rfl (ok_iadd dd_110_101 rfl) (am_rs rfl (ok_iast dd_110_102 rfl) (am_rs rfl (ok_iload dd_110_103 rfl) (am_rz))))))))
theorem kb_110_13 : am_row mi_110 104 kr_110_13 := am_rn rfl (am_rs rfl (ok_istore_n (k := 2) dd_110_105 rfl rfl (by decide)) (am_rs rfl (ok_iinc dd_110_106 ic_1 rfl (by decide)) (am_rn rfl (am_rn rfl (am_rs rfl (ok_goto dd_110_109 (by decide)) (am_rn rfl (am_rn rfl (am_rz))))))))
theorem kb_110_14 : am_row mi_110 112 kr_110_14 := am_rs rfl (ok_aload_n (k := 0) dd_110_112 rfl rfl) (am_rs rfl (ok_aload_n (k := 1) dd_110_113 rfl rfl) (am_rs rfl (ok_cv (M' := mi_111) dd_110_114 rfl rfl w_841 w_843 ps_111 ⟨lk_111.1, lk_111.2.1, lk_111.2.2, by decide, by decide⟩ rfl) (am_rn rfl (am_rn rfl (am_rs rfl (ok_istore_n (k := 3) dd_110_117 rfl rfl (by decide)) (am_rs rfl (ok_iload_n (k := 3) dd_110_118 rfl rfl) (am_rs rfl (ok_aload_n (k := 0) dd_110_119 rfl rfl) (am_rz))))))))
theorem kb_110_15 : am_row mi_110 120 kr_110_15 := am_rs rfl (ok_gf dd_110_120 rfl am_ck0 (by decide) (Or.inl w_274)) (am_rn rfl (am_rn rfl (am_rs rfl (ok_icmp dd_110_123 (by decide) rfl) (am_rn rfl (am_rn rfl (am_rs rfl (ok_aload_n (k := 0) dd_110_126 rfl rfl) (am_rs rfl (ok_iload_n (k := 3) dd_110_127 rfl rfl) (am_rz))))))))
theorem kb_110_16 : am_row mi_110 128 kr_110_16 := am_rs rfl (ok_pf dd_110_128 rfl am_ck0 (by decide) (Or.inl w_274) (Or.inl rfl) rfl) (am_rn rfl (am_rn rfl (am_rs rfl (ok_aload_n (k := 0) dd_110_131 rfl rfl) (am_rs rfl (ok_gf dd_110_132 rfl am_ck0 (by decide) (Or.inl w_269)) (am_rn rfl (am_rn rfl (am_rs rfl (ok_iconst dd_110_135 ic_0 rfl) (am_rz))))))))
theorem kb_110_17 : am_row mi_110 136 kr_110_17 := am_rs rfl (ok_aload_n (k := 0) dd_110_136 rfl rfl) (am_rs rfl (ok_gf dd_110_137 rfl am_ck0 (by decide) (Or.inl w_270)) (am_rn rfl (am_rn rfl (am_rs rfl (ok_iconst dd_110_140 ic_0 rfl) (am_rs rfl (ok_bipush dd_110_141 bi_6 rfl) (am_rn rfl (am_rs rfl (ok_acp dd_110_143 rfl w_845 w_433 w_432 w_19 ⟨by decide, by decide⟩) (am_rz))))))))
theorem kb_110_18 : am_row mi_110 144 kr_110_18 := am_rn rfl (am_rn rfl (am_rs rfl (ok_aload_n (k := 0) dd_110_146 rfl rfl) (am_rs rfl (ok_gf dd_110_147 rfl am_ck0 (by decide) (Or.inl w_271)) (am_rn rfl (am_rn rfl (am_rs rfl (ok_iconst dd_110_150 ic_0 rfl) (am_rs rfl (ok_aload_n (k := 0) dd_110_151 rfl rfl) (am_rz))))))))
theorem kb_110_19 : am_row mi_110 152 kr_110_19 := am_rs rfl (ok_gf dd_110_152 rfl am_ck0 (by decide) (Or.inl w_272)) (am_rn rfl (am_rn rfl (am_rs rfl (ok_iconst dd_110_155 ic_0 rfl) (am_rs rfl (ok_iconst dd_110_156 ic_4 rfl) (am_rs rfl (ok_acp dd_110_157 rfl w_845 w_433 w_432 w_19 ⟨by decide, by decide⟩) (am_rn rfl (am_rn rfl (am_rz))))))))
theorem kb_110_20 : am_row mi_110 160 kr_110_20 := am_rs rfl (ok_vret dd_110_160 rfl) (am_rz)
theorem ck_110 : am_rows mi_110 0 cd_110 := am_bs rfl kb_110_0 (am_bs rfl kb_110_1 (am_bs rfl kb_110_2 (am_bs rfl kb_110_3 (am_bs rfl kb_110_4 (am_bs rfl kb_110_5 (am_bs rfl kb_110_6 (am_bs rfl kb_110_7 (am_bs rfl kb_110_8 (am_bs rfl kb_110_9 (am_bs rfl kb_110_10 (am_bs rfl kb_110_11 (am_bs rfl kb_110_12 (am_bs rfl kb_110_13 (am_bs rfl kb_110_14 (am_bs rfl kb_110_15 (am_bs rfl kb_110_16 (am_bs rfl kb_110_17 (am_bs rfl kb_110_18 (am_bs rfl kb_110_19 (am_bs rfl kb_110_20 (am_bz)))))))))))))))))))))
/-- OverAndBack$Box.leastOf(LOverAndBack$Evening;)I -/
noncomputable def kr_111_0 : List (Option am_Op) := [some (am_psh (.retAddr 1000) 3), none, none, some (am_ist 2 4), some (am_psh (.retAddr 0) 5), some (am_ist 3 6), some (am_ild 3 7), some (am_ald0 1 8)]
noncomputable def kr_111_1 : List (Option am_Op) := [some (am_gf 1 5 11), none, none, some (am_gf 8 3 14), none, none, some (am_br2 .ge 53 17), none]
noncomputable def kr_111_2 : List (Option am_Op) := [none, some (am_ald0 1 18), some (am_ild 3 19), some (am_cv 70 1 1 22), none, none, some (am_ist 4 24), none]
noncomputable def kr_111_3 : List (Option am_Op) := [some (am_ild 4 26), none, some (am_br1 .lt 47 29), none, none, some (am_ild 4 31), none, some (am_psh (.retAddr 4) 32)]
noncomputable def kr_111_4 : List (Option am_Op) := [some (am_br2 .ge 47 35), none, none, some (am_ild 2 36), some (am_ald0 0 37), some (am_gf 0 4 40), none, none]
noncomputable def kr_111_5 : List (Option am_Op) := [some (am_ild 4 42), none, some (am_ald 0 43), some (am_mmin 46), none, none, some (am_ist 2 47), some (am_inc 3 1 50)]
noncomputable def kr_111_6 : List (Option am_Op) := [none, none, some (am_jmp 6), none, none, some (am_ild 2 54), some (am_iret)]
noncomputable def cd_111 : am_Cd := [kr_111_0, kr_111_1, kr_111_2, kr_111_3, kr_111_4, kr_111_5, kr_111_6]
theorem dd_111_0 : decode prog_2_method_8_code 0 = .ok (.sipush 1000, 3) := by decide +kernel
theorem dd_111_3 : decode prog_2_method_8_code 3 = .ok (.istore_n 2, 1) := by decide +kernel
theorem dd_111_4 : decode prog_2_method_8_code 4 = .ok (.iconst 0, 1) := by decide +kernel
theorem dd_111_5 : decode prog_2_method_8_code 5 = .ok (.istore_n 3, 1) := by decide +kernel
theorem dd_111_6 : decode prog_2_method_8_code 6 = .ok (.iload_n 3, 1) := by decide +kernel
theorem dd_111_7 : decode prog_2_method_8_code 7 = .ok (.aload_n 1, 1) := by decide +kernel
theorem dd_111_8 : decode prog_2_method_8_code 8 = .ok (.getfield 66, 3) := by decide +kernel
theorem dd_111_11 : decode prog_2_method_8_code 11 = .ok (.getfield 70, 3) := by decide +kernel
theorem dd_111_14 : decode prog_2_method_8_code 14 = .ok (.if_icmp .ge 39, 3) := by decide +kernel
theorem dd_111_17 : decode prog_2_method_8_code 17 = .ok (.aload_n 1, 1) := by decide +kernel
theorem dd_111_18 : decode prog_2_method_8_code 18 = .ok (.iload_n 3, 1) := by decide +kernel
theorem dd_111_19 : decode prog_2_method_8_code 19 = .ok (.invokevirtual 94, 3) := by decide +kernel
theorem dd_111_22 : decode prog_2_method_8_code 22 = .ok (.istore 4, 2) := by decide +kernel
theorem dd_111_24 : decode prog_2_method_8_code 24 = .ok (.iload 4, 2) := by decide +kernel
theorem dd_111_26 : decode prog_2_method_8_code 26 = .ok (.ifCond .lt 21, 3) := by decide +kernel
theorem dd_111_29 : decode prog_2_method_8_code 29 = .ok (.iload 4, 2) := by decide +kernel
theorem dd_111_31 : decode prog_2_method_8_code 31 = .ok (.iconst 4, 1) := by decide +kernel
theorem dd_111_32 : decode prog_2_method_8_code 32 = .ok (.if_icmp .ge 15, 3) := by decide +kernel
theorem dd_111_35 : decode prog_2_method_8_code 35 = .ok (.iload_n 2, 1) := by decide +kernel
theorem dd_111_36 : decode prog_2_method_8_code 36 = .ok (.aload_n 0, 1) := by decide +kernel
theorem dd_111_37 : decode prog_2_method_8_code 37 = .ok (.getfield 24, 3) := by decide +kernel
theorem dd_111_40 : decode prog_2_method_8_code 40 = .ok (.iload 4, 2) := by decide +kernel
theorem dd_111_42 : decode prog_2_method_8_code 42 = .ok (.iaload, 1) := by decide +kernel
theorem dd_111_43 : decode prog_2_method_8_code 43 = .ok (.invokestatic 46, 3) := by decide +kernel
theorem dd_111_46 : decode prog_2_method_8_code 46 = .ok (.istore_n 2, 1) := by decide +kernel
theorem dd_111_47 : decode prog_2_method_8_code 47 = .ok (.iinc 3 1, 3) := by decide +kernel
theorem dd_111_50 : decode prog_2_method_8_code 50 = .ok (.goto (-44), 3) := by decide +kernel
theorem dd_111_53 : decode prog_2_method_8_code 53 = .ok (.iload_n 2, 1) := by decide +kernel
theorem dd_111_54 : decode prog_2_method_8_code 54 = .ok (.ireturn, 1) := by decide +kernel
theorem kb_111_0 : am_row mi_111 0 kr_111_0 := am_rs rfl (ok_sipush dd_111_0 si_1000 rfl) (am_rn rfl (am_rn rfl (am_rs rfl (ok_istore_n (k := 2) dd_111_3 rfl rfl (by decide)) (am_rs rfl (ok_iconst dd_111_4 ic_0 rfl) (am_rs rfl (ok_istore_n (k := 3) dd_111_5 rfl rfl (by decide)) (am_rs rfl (ok_iload_n (k := 3) dd_111_6 rfl rfl) (am_rs rfl (ok_aload_n (k := 1) dd_111_7 rfl rfl) (am_rz))))))))
theorem kb_111_1 : am_row mi_111 8 kr_111_1 := am_rs rfl (ok_gf dd_111_8 rfl am_ck1 (by decide) (Or.inr ⟨_, w_102⟩)) (am_rn rfl (am_rn rfl (am_rs rfl (ok_gf dd_111_11 rfl am_ck8 (by decide) (Or.inr ⟨_, w_65⟩)) (am_rn rfl (am_rn rfl (am_rs rfl (ok_icmp dd_111_14 (by decide) rfl) (am_rn rfl (am_rz))))))))
theorem kb_111_2 : am_row mi_111 16 kr_111_2 := am_rn rfl (am_rs rfl (ok_aload_n (k := 1) dd_111_17 rfl rfl) (am_rs rfl (ok_iload_n (k := 3) dd_111_18 rfl rfl) (am_rs rfl (ok_cv (M' := mi_70) dd_111_19 rfl rfl w_840 w_664 w_665 ⟨lk_70.1, lk_70.2.1, lk_70.2.2, by decide, by decide⟩ rfl) (am_rn rfl (am_rn rfl (am_rs rfl (ok_istore dd_111_22 rfl (by decide)) (am_rn rfl (am_rz))))))))
theorem kb_111_3 : am_row mi_111 24 kr_111_3 := am_rs rfl (ok_iload dd_111_24 rfl) (am_rn rfl (am_rs rfl (ok_ifc dd_111_26 (by decide) rfl) (am_rn rfl (am_rn rfl (am_rs rfl (ok_iload dd_111_29 rfl) (am_rn rfl (am_rs rfl (ok_iconst dd_111_31 ic_4 rfl) (am_rz))))))))
theorem kb_111_4 : am_row mi_111 32 kr_111_4 := am_rs rfl (ok_icmp dd_111_32 (by decide) rfl) (am_rn rfl (am_rn rfl (am_rs rfl (ok_iload_n (k := 2) dd_111_35 rfl rfl) (am_rs rfl (ok_aload_n (k := 0) dd_111_36 rfl rfl) (am_rs rfl (ok_gf dd_111_37 rfl am_ck0 (by decide) (Or.inl w_271)) (am_rn rfl (am_rn rfl (am_rz))))))))
theorem kb_111_5 : am_row mi_111 40 kr_111_5 := am_rs rfl (ok_iload dd_111_40 rfl) (am_rn rfl (am_rs rfl (ok_iald dd_111_42 rfl) (am_rs rfl (ok_mmin dd_111_43 rfl w_826 w_393 w_18 w_394 ⟨by decide, by decide⟩) (am_rn rfl (am_rn rfl (am_rs rfl (ok_istore_n (k := 2) dd_111_46 rfl rfl (by decide)) (am_rs rfl (ok_iinc dd_111_47 ic_1 rfl (by decide)) (am_rz))))))))
theorem kb_111_6 : am_row mi_111 48 kr_111_6 := am_rn rfl (am_rn rfl (am_rs rfl (ok_goto dd_111_50 (by decide)) (am_rn rfl (am_rn rfl (am_rs rfl (ok_iload_n (k := 2) dd_111_53 rfl rfl) (am_rs rfl (ok_iret dd_111_54 rfl) (am_rz)))))))
theorem ck_111 : am_rows mi_111 0 cd_111 := am_bs rfl kb_111_0 (am_bs rfl kb_111_1 (am_bs rfl kb_111_2 (am_bs rfl kb_111_3 (am_bs rfl kb_111_4 (am_bs rfl kb_111_5 (am_bs rfl kb_111_6 (am_bz)))))))
/-- OverAndBack$Box.nextWay(I)Z -/
noncomputable def kr_112_0 : List (Option am_Op) := [some (am_ald0 0 1), some (am_gf 0 6 4), none, none, some (am_psh (.retAddr 1) 5), some (am_bin am_sub 6), some (am_ist 2 7), some (am_ild 2 8)]
noncomputable def kr_112_1 : List (Option am_Op) := [some (am_br1 .lt 48 11), none, none, some (am_ald0 0 12), some (am_gf 0 2 15), none, none, some (am_ild 2 16)]
noncomputable def kr_112_2 : List (Option am_Op) := [some (am_ald 0 17), some (am_psh (.retAddr 1) 18), some (am_bin am_add 19), some (am_ild 1 20), some (am_br2 .ge 35 23), none, none, some (am_ald0 0 24)]
noncomputable def kr_112_3 : List (Option am_Op) := [some (am_gf 0 2 27), none, none, some (am_ild 2 28), some (am_dup2 29), some (am_ald 0 30), some (am_psh (.retAddr 1) 31), some (am_bin am_add 32)]
noncomputable def kr_112_4 : List (Option am_Op) := [some (am_ast 0 (fun v => v) 33), some (am_psh (.retAddr 1) 34), some (am_zret), some (am_ald0 0 36), some (am_gf 0 2 39), none, none, some (am_ild 2 40)]
noncomputable def kr_112_5 : List (Option am_Op) := [some (am_psh (.retAddr 0) 41), some (am_ast 0 (fun v => v) 42), some (am_inc 2 4294967295 45), none, none, some (am_jmp 7), none, none]
noncomputable def kr_112_6 : List (Option am_Op) := [some (am_psh (.retAddr 0) 49), some (am_zret)]
noncomputable def cd_112 : am_Cd := [kr_112_0, kr_112_1, kr_112_2, kr_112_3, kr_112_4, kr_112_5, kr_112_6]
theorem dd_112_0 : decode prog_2_method_9_code 0 = .ok (.aload_n 0, 1) := by decide +kernel
theorem dd_112_1 : decode prog_2_method_9_code 1 = .ok (.getfield 30, 3) := by decide +kernel
theorem dd_112_4 : decode prog_2_method_9_code 4 = .ok (.iconst 1, 1) := by decide +kernel
theorem dd_112_5 : decode prog_2_method_9_code 5 = .ok (.isub, 1) := by decide +kernel
theorem dd_112_6 : decode prog_2_method_9_code 6 = .ok (.istore_n 2, 1) := by decide +kernel
theorem dd_112_7 : decode prog_2_method_9_code 7 = .ok (.iload_n 2, 1) := by decide +kernel
theorem dd_112_8 : decode prog_2_method_9_code 8 = .ok (.ifCond .lt 40, 3) := by decide +kernel
theorem dd_112_11 : decode prog_2_method_9_code 11 = .ok (.aload_n 0, 1) := by decide +kernel
theorem dd_112_12 : decode prog_2_method_9_code 12 = .ok (.getfield 18, 3) := by decide +kernel
theorem dd_112_15 : decode prog_2_method_9_code 15 = .ok (.iload_n 2, 1) := by decide +kernel
theorem dd_112_16 : decode prog_2_method_9_code 16 = .ok (.iaload, 1) := by decide +kernel
theorem dd_112_17 : decode prog_2_method_9_code 17 = .ok (.iconst 1, 1) := by decide +kernel
theorem dd_112_18 : decode prog_2_method_9_code 18 = .ok (.iadd, 1) := by decide +kernel
theorem dd_112_19 : decode prog_2_method_9_code 19 = .ok (.iload_n 1, 1) := by decide +kernel
theorem dd_112_20 : decode prog_2_method_9_code 20 = .ok (.if_icmp .ge 15, 3) := by decide +kernel
theorem dd_112_23 : decode prog_2_method_9_code 23 = .ok (.aload_n 0, 1) := by decide +kernel
theorem dd_112_24 : decode prog_2_method_9_code 24 = .ok (.getfield 18, 3) := by decide +kernel
theorem dd_112_27 : decode prog_2_method_9_code 27 = .ok (.iload_n 2, 1) := by decide +kernel
theorem dd_112_28 : decode prog_2_method_9_code 28 = .ok (.dup2, 1) := by decide +kernel
theorem dd_112_29 : decode prog_2_method_9_code 29 = .ok (.iaload, 1) := by decide +kernel
theorem dd_112_30 : decode prog_2_method_9_code 30 = .ok (.iconst 1, 1) := by decide +kernel
theorem dd_112_31 : decode prog_2_method_9_code 31 = .ok (.iadd, 1) := by decide +kernel
theorem dd_112_32 : decode prog_2_method_9_code 32 = .ok (.iastore, 1) := by decide +kernel
theorem dd_112_33 : decode prog_2_method_9_code 33 = .ok (.iconst 1, 1) := by decide +kernel
theorem dd_112_34 : decode prog_2_method_9_code 34 = .ok (.ireturn, 1) := by decide +kernel
theorem dd_112_35 : decode prog_2_method_9_code 35 = .ok (.aload_n 0, 1) := by decide +kernel
theorem dd_112_36 : decode prog_2_method_9_code 36 = .ok (.getfield 18, 3) := by decide +kernel
theorem dd_112_39 : decode prog_2_method_9_code 39 = .ok (.iload_n 2, 1) := by decide +kernel
theorem dd_112_40 : decode prog_2_method_9_code 40 = .ok (.iconst 0, 1) := by decide +kernel
theorem dd_112_41 : decode prog_2_method_9_code 41 = .ok (.iastore, 1) := by decide +kernel
theorem dd_112_42 : decode prog_2_method_9_code 42 = .ok (.iinc 2 (-1), 3) := by decide +kernel
theorem dd_112_45 : decode prog_2_method_9_code 45 = .ok (.goto (-38), 3) := by decide +kernel
theorem dd_112_48 : decode prog_2_method_9_code 48 = .ok (.iconst 0, 1) := by decide +kernel
theorem dd_112_49 : decode prog_2_method_9_code 49 = .ok (.ireturn, 1) := by decide +kernel
theorem kb_112_0 : am_row mi_112 0 kr_112_0 := am_rs rfl (ok_aload_n (k := 0) dd_112_0 rfl rfl) (am_rs rfl (ok_gf dd_112_1 rfl am_ck0 (by decide) (Or.inl w_273)) (am_rn rfl (am_rn rfl (am_rs rfl (ok_iconst dd_112_4 ic_1 rfl) (am_rs rfl (ok_isub dd_112_5 rfl) (am_rs rfl (ok_istore_n (k := 2) dd_112_6 rfl rfl (by decide)) (am_rs rfl (ok_iload_n (k := 2) dd_112_7 rfl rfl) (am_rz))))))))
theorem kb_112_1 : am_row mi_112 8 kr_112_1 := am_rs rfl (ok_ifc dd_112_8 (by decide) rfl) (am_rn rfl (am_rn rfl (am_rs rfl (ok_aload_n (k := 0) dd_112_11 rfl rfl) (am_rs rfl (ok_gf dd_112_12 rfl am_ck0 (by decide) (Or.inl w_269)) (am_rn rfl (am_rn rfl (am_rs rfl (ok_iload_n (k := 2) dd_112_15 rfl rfl) (am_rz))))))))
theorem kb_112_2 : am_row mi_112 16 kr_112_2 := am_rs rfl (ok_iald dd_112_16 rfl) (am_rs rfl (ok_iconst dd_112_17 ic_1 rfl) (am_rs rfl (ok_iadd dd_112_18 rfl) (am_rs rfl (ok_iload_n (k := 1) dd_112_19 rfl rfl) (am_rs rfl (ok_icmp dd_112_20 (by decide) rfl) (am_rn rfl (am_rn rfl (am_rs rfl (ok_aload_n (k := 0) dd_112_23 rfl rfl) (am_rz))))))))
theorem kb_112_3 : am_row mi_112 24 kr_112_3 := am_rs rfl (ok_gf dd_112_24 rfl am_ck0 (by decide) (Or.inl w_269)) (am_rn rfl (am_rn rfl (am_rs rfl (ok_iload_n (k := 2) dd_112_27 rfl rfl) (am_rs rfl (ok_dup2 dd_112_28 rfl) (am_rs rfl (ok_iald dd_112_29 rfl) (am_rs rfl (ok_iconst dd_112_30 ic_1 rfl) (am_rs rfl (ok_iadd dd_112_31 rfl) (am_rz))))))))
theorem kb_112_4 : am_row mi_112 32 kr_112_4 := am_rs rfl (ok_iast dd_112_32 rfl) (am_rs rfl (ok_iconst dd_112_33 ic_1 rfl) (am_rs rfl (ok_zret dd_112_34 rfl) (am_rs rfl (ok_aload_n (k := 0) dd_112_35 rfl rfl) (am_rs rfl (ok_gf dd_112_36 rfl am_ck0 (by decide) (Or.inl w_269)) (am_rn rfl (am_rn rfl (am_rs rfl (ok_iload_n (k := 2) dd_112_39 rfl rfl) (am_rz))))))))
theorem kb_112_5 : am_row mi_112 40 kr_112_5 := am_rs rfl (ok_iconst dd_112_40 ic_0 rfl) (am_rs rfl (ok_iast dd_112_41 rfl) (am_rs rfl (ok_iinc dd_112_42 ic_m1 rfl (by decide)) (am_rn rfl (am_rn rfl (am_rs rfl (ok_goto dd_112_45 (by decide)) (am_rn rfl (am_rn rfl (am_rz))))))))
theorem kb_112_6 : am_row mi_112 48 kr_112_6 := am_rs rfl (ok_iconst dd_112_48 ic_0 rfl) (am_rs rfl (ok_zret dd_112_49 rfl) (am_rz))
theorem ck_112 : am_rows mi_112 0 cd_112 := am_bs rfl kb_112_0 (am_bs rfl kb_112_1 (am_bs rfl kb_112_2 (am_bs rfl kb_112_3 (am_bs rfl kb_112_4 (am_bs rfl kb_112_5 (am_bs rfl kb_112_6 (am_bz)))))))
/-- OverAndBack$Box.holder(I)I -/
noncomputable def kr_113_0 : List (Option am_Op) := [some (am_ild 1 1), some (am_br1 .lt 19 4), none, none, some (am_ild 1 5), some (am_psh (.retAddr 6) 7), none, some (am_br2 .ge 19 10)]
noncomputable def kr_113_1 : List (Option am_Op) := [none, none, some (am_ald0 0 11), some (am_gf 0 3 14), none, none, some (am_ild 1 15), some (am_ald 0 16)]
noncomputable def kr_113_2 : List (Option am_Op) := [some (am_jmp 21), none, none, some (am_psh (.retAddr 4294967292) 21), none, some (am_iret)]
noncomputable def cd_113 : am_Cd := [kr_113_0, kr_113_1, kr_113_2]
theorem dd_113_0 : decode prog_2_method_3_code 0 = .ok (.iload_n 1, 1) := by decide +kernel
theorem dd_113_1 : decode prog_2_method_3_code 1 = .ok (.ifCond .lt 18, 3) := by decide +kernel
theorem dd_113_4 : decode prog_2_method_3_code 4 = .ok (.iload_n 1, 1) := by decide +kernel
theorem dd_113_5 : decode prog_2_method_3_code 5 = .ok (.bipush 6, 2) := by decide +kernel
theorem dd_113_7 : decode prog_2_method_3_code 7 = .ok (.if_icmp .ge 12, 3) := by decide +kernel
theorem dd_113_10 : decode prog_2_method_3_code 10 = .ok (.aload_n 0, 1) := by decide +kernel
theorem dd_113_11 : decode prog_2_method_3_code 11 = .ok (.getfield 21, 3) := by decide +kernel
theorem dd_113_14 : decode prog_2_method_3_code 14 = .ok (.iload_n 1, 1) := by decide +kernel
theorem dd_113_15 : decode prog_2_method_3_code 15 = .ok (.iaload, 1) := by decide +kernel
theorem dd_113_16 : decode prog_2_method_3_code 16 = .ok (.goto 5, 3) := by decide +kernel
theorem dd_113_19 : decode prog_2_method_3_code 19 = .ok (.bipush (-4), 2) := by decide +kernel
theorem dd_113_21 : decode prog_2_method_3_code 21 = .ok (.ireturn, 1) := by decide +kernel
theorem kb_113_0 : am_row mi_113 0 kr_113_0 := am_rs rfl (ok_iload_n (k := 1) dd_113_0 rfl rfl) (am_rs rfl (ok_ifc dd_113_1 (by decide) rfl) (am_rn rfl (am_rn rfl (am_rs rfl (ok_iload_n (k := 1) dd_113_4 rfl rfl) (am_rs rfl (ok_bipush dd_113_5 bi_6 rfl) (am_rn rfl (am_rs rfl (ok_icmp dd_113_7 (by decide) rfl) (am_rz))))))))
theorem kb_113_1 : am_row mi_113 8 kr_113_1 := am_rn rfl (am_rn rfl (am_rs rfl (ok_aload_n (k := 0) dd_113_10 rfl rfl) (am_rs rfl (ok_gf dd_113_11 rfl am_ck0 (by decide) (Or.inl w_270)) (am_rn rfl (am_rn rfl (am_rs rfl (ok_iload_n (k := 1) dd_113_14 rfl rfl) (am_rs rfl (ok_iald dd_113_15 rfl) (am_rz))))))))
theorem kb_113_2 : am_row mi_113 16 kr_113_2 := am_rs rfl (ok_goto dd_113_16 (by decide)) (am_rn rfl (am_rn rfl (am_rs rfl (ok_bipush dd_113_19 bi_m4 rfl) (am_rn rfl (am_rs rfl (ok_iret dd_113_21 rfl) (am_rz))))))
theorem ck_113 : am_rows mi_113 0 cd_113 := am_bs rfl kb_113_0 (am_bs rfl kb_113_1 (am_bs rfl kb_113_2 (am_bz)))
/-- OverAndBack$Box.has(I)I -/
noncomputable def kr_114_0 : List (Option am_Op) := [some (am_ild 1 1), some (am_br1 .lt 18 4), none, none, some (am_ild 1 5), some (am_psh (.retAddr 4) 6), some (am_br2 .ge 18 9), none]
noncomputable def kr_114_1 : List (Option am_Op) := [none, some (am_ald0 0 10), some (am_gf 0 5 13), none, none, some (am_ild 1 14), some (am_ald 0 15), some (am_jmp 19)]
noncomputable def kr_114_2 : List (Option am_Op) := [none, none, some (am_psh (.retAddr 0) 19), some (am_iret)]
noncomputable def cd_114 : am_Cd := [kr_114_0, kr_114_1, kr_114_2]
theorem dd_114_0 : decode prog_2_method_4_code 0 = .ok (.iload_n 1, 1) := by decide +kernel
theorem dd_114_1 : decode prog_2_method_4_code 1 = .ok (.ifCond .lt 17, 3) := by decide +kernel
theorem dd_114_4 : decode prog_2_method_4_code 4 = .ok (.iload_n 1, 1) := by decide +kernel
theorem dd_114_5 : decode prog_2_method_4_code 5 = .ok (.iconst 4, 1) := by decide +kernel
theorem dd_114_6 : decode prog_2_method_4_code 6 = .ok (.if_icmp .ge 12, 3) := by decide +kernel
theorem dd_114_9 : decode prog_2_method_4_code 9 = .ok (.aload_n 0, 1) := by decide +kernel
theorem dd_114_10 : decode prog_2_method_4_code 10 = .ok (.getfield 27, 3) := by decide +kernel
theorem dd_114_13 : decode prog_2_method_4_code 13 = .ok (.iload_n 1, 1) := by decide +kernel
theorem dd_114_14 : decode prog_2_method_4_code 14 = .ok (.iaload, 1) := by decide +kernel
theorem dd_114_15 : decode prog_2_method_4_code 15 = .ok (.goto 4, 3) := by decide +kernel
theorem dd_114_18 : decode prog_2_method_4_code 18 = .ok (.iconst 0, 1) := by decide +kernel
theorem dd_114_19 : decode prog_2_method_4_code 19 = .ok (.ireturn, 1) := by decide +kernel
theorem kb_114_0 : am_row mi_114 0 kr_114_0 := am_rs rfl (ok_iload_n (k := 1) dd_114_0 rfl rfl) (am_rs rfl (ok_ifc dd_114_1 (by decide) rfl) (am_rn rfl (am_rn rfl (am_rs rfl (ok_iload_n (k := 1) dd_114_4 rfl rfl) (am_rs rfl (ok_iconst dd_114_5 ic_4 rfl) (am_rs rfl (ok_icmp dd_114_6 (by decide) rfl) (am_rn rfl (am_rz))))))))
theorem kb_114_1 : am_row mi_114 8 kr_114_1 := am_rn rfl (am_rs rfl (ok_aload_n (k := 0) dd_114_9 rfl rfl) (am_rs rfl (ok_gf dd_114_10 rfl am_ck0 (by decide) (Or.inl w_272)) (am_rn rfl (am_rn rfl (am_rs rfl (ok_iload_n (k := 1) dd_114_13 rfl rfl) (am_rs rfl (ok_iald dd_114_14 rfl) (am_rs rfl (ok_goto dd_114_15 (by decide)) (am_rz))))))))
theorem kb_114_2 : am_row mi_114 16 kr_114_2 := am_rn rfl (am_rn rfl (am_rs rfl (ok_iconst dd_114_18 ic_0 rfl) (am_rs rfl (ok_iret dd_114_19 rfl) (am_rz))))
theorem ck_114 : am_rows mi_114 0 cd_114 := am_bs rfl kb_114_0 (am_bs rfl kb_114_1 (am_bs rfl kb_114_2 (am_bz)))
/-- OverAndBack.mean(II)I -/
noncomputable def kr_115_0 : List (Option am_Op) := [some (am_ald0 0 1), some (am_ild 1 2), some (am_cv 116 1 11 5), none, none, some (am_br1 .eq 17 8), none, none]
noncomputable def kr_115_1 : List (Option am_Op) := [some (am_ild 2 9), some (am_br1 .lt 17 12), none, none, some (am_ild 2 13), some (am_psh (.retAddr 1) 14), some (am_br2 .le 19 17), none]
noncomputable def kr_115_2 : List (Option am_Op) := [none, some (am_psh (.retAddr 4294967295) 18), some (am_iret), some (am_psh (.retAddr 1) 20), some (am_ist 3 21), some (am_psh (.retAddr 0) 22), some (am_ist 4 24), none]
noncomputable def kr_115_3 : List (Option am_Op) := [some (am_ild 4 26), none, some (am_ald0 0 27), some (am_gf 11 3 30), none, none, some (am_gf 1 3 33), none]
noncomputable def kr_115_4 : List (Option am_Op) := [none, some (am_gf 8 3 36), none, none, some (am_br2 .ge 50 39), none, none, some (am_ild 3 40)]
noncomputable def kr_115_5 : List (Option am_Op) := [some (am_psh (.retAddr 10) 42), none, some (am_bin am_mul 43), some (am_ist 3 44), some (am_inc 4 1 47), none, none, some (am_jmp 24)]
noncomputable def kr_115_6 : List (Option am_Op) := [none, none, some (am_psh (.retAddr 0) 51), some (am_ist 4 53), none, some (am_psh (.retAddr 0) 54), some (am_ist 5 56), none]
noncomputable def kr_115_7 : List (Option am_Op) := [some (am_ild 5 58), none, some (am_psh (.retAddr 1) 59), some (am_ald0 0 60), some (am_gf 11 3 63), none, none, some (am_gf 1 3 66)]
noncomputable def kr_115_8 : List (Option am_Op) := [none, none, some (am_gf 8 3 69), none, none, some (am_bin am_shl 70), some (am_br2 .ge 134 73), none]
noncomputable def kr_115_9 : List (Option am_Op) := [none, some (am_ald0 0 74), some (am_gf 11 3 77), none, none, some (am_ild 5 79), none, some (am_cv 117 1 1 82)]
noncomputable def kr_115_10 : List (Option am_Op) := [none, none, some (am_ist 6 84), none, some (am_ild 6 86), none, some (am_br1 .le 128 89), none]
noncomputable def kr_115_11 : List (Option am_Op) := [none, some (am_ald0 0 90), some (am_gf 11 7 93), none, none, some (am_ald0 0 94), some (am_gf 11 3 97), none]
noncomputable def kr_115_12 : List (Option am_Op) := [none, some (am_ild 5 99), none, some (am_psh (.retAddr 4294967292) 101), none, some (am_cv 32 3 9 104), none, none]
noncomputable def kr_115_13 : List (Option am_Op) := [some (am_ald0 0 105), some (am_ild 1 106), some (am_ald0 0 107), some (am_gf 11 7 110), none, none, some (am_cv 60 2 11 113), none]
noncomputable def kr_115_14 : List (Option am_Op) := [none, some (am_ild 4 115), none, some (am_ild 6 117), none, some (am_ald0 0 118), some (am_gf 11 8 121), none]
noncomputable def kr_115_15 : List (Option am_Op) := [none, some (am_gf 10 4 124), none, none, some (am_bin am_mul 125), some (am_bin am_add 126), some (am_ist 4 128), none]
noncomputable def kr_115_16 : List (Option am_Op) := [some (am_inc 5 1 131), none, none, some (am_jmp 56), none, none, some (am_ild 4 136), none]
noncomputable def kr_115_17 : List (Option am_Op) := [some (am_ild 3 137), some (am_cs 118 2 140), none, none, some (am_ist 5 142), none, some (am_ild 2 143), some (am_br1 .ne 151 146)]
noncomputable def kr_115_18 : List (Option am_Op) := [none, none, some (am_ild 4 148), none, some (am_jmp 152), none, none, some (am_ild 3 152)]
noncomputable def kr_115_19 : List (Option am_Op) := [some (am_ild 5 154), none, some (am_bin2 Nat.div 155), some (am_iret)]
noncomputable def cd_115 : am_Cd := [kr_115_0, kr_115_1, kr_115_2, kr_115_3, kr_115_4, kr_115_5, kr_115_6, kr_115_7, kr_115_8, kr_115_9, kr_115_10, kr_115_11, kr_115_12, kr_115_13, kr_115_14, kr_115_15, kr_115_16, kr_115_17, kr_115_18, kr_115_19]
theorem dd_115_0 : decode prog_1_method_21_code 0 = .ok (.aload_n 0, 1) := by decide +kernel
theorem dd_115_1 : decode prog_1_method_21_code 1 = .ok (.iload_n 1, 1) := by decide +kernel
theorem dd_115_2 : decode prog_1_method_21_code 2 = .ok (.invokevirtual 252, 3) := by decide +kernel
theorem dd_115_5 : decode prog_1_method_21_code 5 = .ok (.ifCond .eq 12, 3) := by decide +kernel
theorem dd_115_8 : decode prog_1_method_21_code 8 = .ok (.iload_n 2, 1) := by decide +kernel
theorem dd_115_9 : decode prog_1_method_21_code 9 = .ok (.ifCond .lt 8, 3) := by decide +kernel
theorem dd_115_12 : decode prog_1_method_21_code 12 = .ok (.iload_n 2, 1) := by decide +kernel
theorem dd_115_13 : decode prog_1_method_21_code 13 = .ok (.iconst 1, 1) := by decide +kernel
theorem dd_115_14 : decode prog_1_method_21_code 14 = .ok (.if_icmp .le 5, 3) := by decide +kernel
theorem dd_115_17 : decode prog_1_method_21_code 17 = .ok (.iconst (-1), 1) := by decide +kernel
theorem dd_115_18 : decode prog_1_method_21_code 18 = .ok (.ireturn, 1) := by decide +kernel
theorem dd_115_19 : decode prog_1_method_21_code 19 = .ok (.iconst 1, 1) := by decide +kernel
theorem dd_115_20 : decode prog_1_method_21_code 20 = .ok (.istore_n 3, 1) := by decide +kernel
theorem dd_115_21 : decode prog_1_method_21_code 21 = .ok (.iconst 0, 1) := by decide +kernel
theorem dd_115_22 : decode prog_1_method_21_code 22 = .ok (.istore 4, 2) := by decide +kernel
theorem dd_115_24 : decode prog_1_method_21_code 24 = .ok (.iload 4, 2) := by decide +kernel
theorem dd_115_26 : decode prog_1_method_21_code 26 = .ok (.aload_n 0, 1) := by decide +kernel
theorem dd_115_27 : decode prog_1_method_21_code 27 = .ok (.getfield 27, 3) := by decide +kernel
theorem dd_115_30 : decode prog_1_method_21_code 30 = .ok (.getfield 255, 3) := by decide +kernel
theorem dd_115_33 : decode prog_1_method_21_code 33 = .ok (.getfield 123, 3) := by decide +kernel
theorem dd_115_36 : decode prog_1_method_21_code 36 = .ok (.if_icmp .ge 14, 3) := by decide +kernel
theorem dd_115_39 : decode prog_1_method_21_code 39 = .ok (.iload_n 3, 1) := by decide +kernel
theorem dd_115_40 : decode prog_1_method_21_code 40 = .ok (.bipush 10, 2) := by decide +kernel
theorem dd_115_42 : decode prog_1_method_21_code 42 = .ok (.imul, 1) := by decide +kernel
theorem dd_115_43 : decode prog_1_method_21_code 43 = .ok (.istore_n 3, 1) := by decide +kernel
theorem dd_115_44 : decode prog_1_method_21_code 44 = .ok (.iinc 4 1, 3) := by decide +kernel
theorem dd_115_47 : decode prog_1_method_21_code 47 = .ok (.goto (-23), 3) := by decide +kernel
theorem dd_115_50 : decode prog_1_method_21_code 50 = .ok (.iconst 0, 1) := by decide +kernel
theorem dd_115_51 : decode prog_1_method_21_code 51 = .ok (.istore 4, 2) := by decide +kernel
theorem dd_115_53 : decode prog_1_method_21_code 53 = .ok (.iconst 0, 1) := by decide +kernel
theorem dd_115_54 : decode prog_1_method_21_code 54 = .ok (.istore 5, 2) := by decide +kernel
theorem dd_115_56 : decode prog_1_method_21_code 56 = .ok (.iload 5, 2) := by decide +kernel
theorem dd_115_58 : decode prog_1_method_21_code 58 = .ok (.iconst 1, 1) := by decide +kernel
theorem dd_115_59 : decode prog_1_method_21_code 59 = .ok (.aload_n 0, 1) := by decide +kernel
theorem dd_115_60 : decode prog_1_method_21_code 60 = .ok (.getfield 27, 3) := by decide +kernel
theorem dd_115_63 : decode prog_1_method_21_code 63 = .ok (.getfield 255, 3) := by decide +kernel
theorem dd_115_66 : decode prog_1_method_21_code 66 = .ok (.getfield 123, 3) := by decide +kernel
theorem dd_115_69 : decode prog_1_method_21_code 69 = .ok (.ishl, 1) := by decide +kernel
theorem dd_115_70 : decode prog_1_method_21_code 70 = .ok (.if_icmp .ge 64, 3) := by decide +kernel
theorem dd_115_73 : decode prog_1_method_21_code 73 = .ok (.aload_n 0, 1) := by decide +kernel
theorem dd_115_74 : decode prog_1_method_21_code 74 = .ok (.getfield 27, 3) := by decide +kernel
theorem dd_115_77 : decode prog_1_method_21_code 77 = .ok (.iload 5, 2) := by decide +kernel
theorem dd_115_79 : decode prog_1_method_21_code 79 = .ok (.invokevirtual 258, 3) := by decide +kernel
theorem dd_115_82 : decode prog_1_method_21_code 82 = .ok (.istore 6, 2) := by decide +kernel
theorem dd_115_84 : decode prog_1_method_21_code 84 = .ok (.iload 6, 2) := by decide +kernel
theorem dd_115_86 : decode prog_1_method_21_code 86 = .ok (.ifCond .le 42, 3) := by decide +kernel
theorem dd_115_89 : decode prog_1_method_21_code 89 = .ok (.aload_n 0, 1) := by decide +kernel
theorem dd_115_90 : decode prog_1_method_21_code 90 = .ok (.getfield 48, 3) := by decide +kernel
theorem dd_115_93 : decode prog_1_method_21_code 93 = .ok (.aload_n 0, 1) := by decide +kernel
theorem dd_115_94 : decode prog_1_method_21_code 94 = .ok (.getfield 27, 3) := by decide +kernel
theorem dd_115_97 : decode prog_1_method_21_code 97 = .ok (.iload 5, 2) := by decide +kernel
theorem dd_115_99 : decode prog_1_method_21_code 99 = .ok (.bipush (-4), 2) := by decide +kernel
theorem dd_115_101 : decode prog_1_method_21_code 101 = .ok (.invokevirtual 261, 3) := by decide +kernel
theorem dd_115_104 : decode prog_1_method_21_code 104 = .ok (.aload_n 0, 1) := by decide +kernel
theorem dd_115_105 : decode prog_1_method_21_code 105 = .ok (.iload_n 1, 1) := by decide +kernel
theorem dd_115_106 : decode prog_1_method_21_code 106 = .ok (.aload_n 0, 1) := by decide +kernel
theorem dd_115_107 : decode prog_1_method_21_code 107 = .ok (.getfield 48, 3) := by decide +kernel
theorem dd_115_110 : decode prog_1_method_21_code 110 = .ok (.invokevirtual 156, 3) := by decide +kernel
theorem dd_115_113 : decode prog_1_method_21_code 113 = .ok (.iload 4, 2) := by decide +kernel
theorem dd_115_115 : decode prog_1_method_21_code 115 = .ok (.iload 6, 2) := by decide +kernel
theorem dd_115_117 : decode prog_1_method_21_code 117 = .ok (.aload_n 0, 1) := by decide +kernel
theorem dd_115_118 : decode prog_1_method_21_code 118 = .ok (.getfield 54, 3) := by decide +kernel
theorem dd_115_121 : decode prog_1_method_21_code 121 = .ok (.getfield 166, 3) := by decide +kernel
theorem dd_115_124 : decode prog_1_method_21_code 124 = .ok (.imul, 1) := by decide +kernel
theorem dd_115_125 : decode prog_1_method_21_code 125 = .ok (.iadd, 1) := by decide +kernel
theorem dd_115_126 : decode prog_1_method_21_code 126 = .ok (.istore 4, 2) := by decide +kernel
theorem dd_115_128 : decode prog_1_method_21_code 128 = .ok (.iinc 5 1, 3) := by decide +kernel
theorem dd_115_131 : decode prog_1_method_21_code 131 = .ok (.goto (-75), 3) := by decide +kernel
theorem dd_115_134 : decode prog_1_method_21_code 134 = .ok (.iload 4, 2) := by decide +kernel
theorem dd_115_136 : decode prog_1_method_21_code 136 = .ok (.iload_n 3, 1) := by decide +kernel
theorem dd_115_137 : decode prog_1_method_21_code 137 = .ok (.invokestatic 264, 3) := by decide +kernel
theorem dd_115_140 : decode prog_1_method_21_code 140 = .ok (.istore 5, 2) := by decide +kernel
theorem dd_115_142 : decode prog_1_method_21_code 142 = .ok (.iload_n 2, 1) := by decide +kernel
theorem dd_115_143 : decode prog_1_method_21_code 143 = .ok (.ifCond .ne 8, 3) := by decide +kernel
theorem dd_115_146 : decode prog_1_method_21_code 146 = .ok (.iload 4, 2) := by decide +kernel
theorem dd_115_148 : decode prog_1_method_21_code 148 = .ok (.goto 4, 3) := by decide +kernel
theorem dd_115_151 : decode prog_1_method_21_code 151 = .ok (.iload_n 3, 1) := by decide +kernel
theorem dd_115_152 : decode prog_1_method_21_code 152 = .ok (.iload 5, 2) := by decide +kernel
theorem dd_115_154 : decode prog_1_method_21_code 154 = .ok (.idiv, 1) := by decide +kernel
theorem dd_115_155 : decode prog_1_method_21_code 155 = .ok (.ireturn, 1) := by decide +kernel
theorem kb_115_0 : am_row mi_115 0 kr_115_0 := am_rs rfl (ok_aload_n (k := 0) dd_115_0 rfl rfl) (am_rs rfl (ok_iload_n (k := 1) dd_115_1 rfl rfl) (am_rs rfl (ok_cv (M' := mi_116) dd_115_2 rfl rfl w_862 w_864 ps_116 ⟨lk_116.1, lk_116.2.1, lk_116.2.2, by decide, by decide⟩ rfl) (am_rn rfl (am_rn rfl (am_rs rfl (ok_ifc dd_115_5 (by decide) rfl) (am_rn rfl (am_rn rfl (am_rz))))))))
theorem kb_115_1 : am_row mi_115 8 kr_115_1 := am_rs rfl (ok_iload_n (k := 2) dd_115_8 rfl rfl) (am_rs rfl (ok_ifc dd_115_9 (by decide) rfl) (am_rn rfl (am_rn rfl (am_rs rfl (ok_iload_n (k := 2) dd_115_12 rfl rfl) (am_rs rfl (ok_iconst dd_115_13 ic_1 rfl) (am_rs rfl (ok_icmp dd_115_14 (by decide) rfl) (am_rn rfl (am_rz))))))))
theorem kb_115_2 : am_row mi_115 16 kr_115_2 := am_rn rfl (am_rs rfl (ok_iconst dd_115_17 ic_m1 rfl) (am_rs rfl (ok_iret dd_115_18 rfl) (am_rs rfl (ok_iconst dd_115_19 ic_1 rfl) (am_rs rfl (ok_istore_n (k := 3) dd_115_20 rfl rfl (by decide)) (am_rs rfl (ok_iconst dd_115_21 ic_0 rfl) (am_rs rfl (ok_istore dd_115_22 rfl (by decide)) (am_rn rfl (am_rz))))))))
theorem kb_115_3 : am_row mi_115 24 kr_115_3 := am_rs rfl (ok_iload dd_115_24 rfl) (am_rn rfl (am_rs rfl (ok_aload_n (k := 0) dd_115_26 rfl rfl) (am_rs rfl (ok_gf dd_115_27 rfl am_ck11 (by decide) (Or.inl w_514)) (am_rn rfl (am_rn rfl (am_rs rfl (ok_gf dd_115_30 rfl am_ck1 (by decide) (Or.inr ⟨_, w_97⟩)) (am_rn rfl (am_rz))))))))
theorem kb_115_4 : am_row mi_115 32 kr_115_4 := am_rn rfl (am_rs rfl (ok_gf dd_115_33 rfl am_ck8 (by decide) (Or.inr ⟨_, w_67⟩)) (am_rn rfl (am_rn rfl (am_rs rfl (ok_icmp dd_115_36 (by decide) rfl) (am_rn rfl (am_rn rfl (am_rs rfl (ok_iload_n (k := 3) dd_115_39 rfl rfl) (am_rz))))))))
theorem kb_115_5 : am_row mi_115 40 kr_115_5 := am_rs rfl (ok_bipush dd_115_40 bi_10 rfl) (am_rn rfl (am_rs rfl (ok_imul dd_115_42 rfl) (am_rs rfl (ok_istore_n (k := 3) dd_115_43 rfl rfl (by decide)) (am_rs rfl (ok_iinc dd_115_44 ic_1 rfl (by decide)) (am_rn rfl (am_rn rfl (am_rs rfl (ok_goto dd_115_47 (by decide)) (am_rz))))))))
theorem kb_115_6 : am_row mi_115 48 kr_115_6 := am_rn rfl (am_rn rfl (am_rs rfl (ok_iconst dd_115_50 ic_0 rfl) (am_rs rfl (ok_istore dd_115_51 rfl (by decide)) (am_rn rfl (am_rs rfl (ok_iconst dd_115_53 ic_0 rfl) (am_rs rfl (ok_istore dd_115_54 rfl (by decide)) (am_rn rfl (am_rz))))))))
theorem kb_115_7 : am_row mi_115 56 kr_115_7 := am_rs rfl (ok_iload dd_115_56 rfl) (am_rn rfl (am_rs rfl (ok_iconst dd_115_58 ic_1 rfl) (am_rs rfl (ok_aload_n (k := 0) dd_115_59 rfl rfl) (am_rs rfl (ok_gf dd_115_60 rfl am_ck11 (by decide) (Or.inl w_514)) (am_rn rfl (am_rn rfl (am_rs rfl (ok_gf dd_115_63 rfl am_ck1 (by decide) (Or.inr ⟨_, w_97⟩)) (am_rz))))))))
theorem kb_115_8 : am_row mi_115 64 kr_115_8 := am_rn rfl (am_rn rfl (am_rs rfl (ok_gf dd_115_66 rfl am_ck8 (by decide) (Or.inr ⟨_, w_67⟩)) (am_rn rfl (am_rn rfl (am_rs rfl (ok_ishl dd_115_69 rfl) (am_rs rfl (ok_icmp dd_115_70 (by decide) rfl) (am_rn rfl (am_rz))))))))
theorem kb_115_9 : am_row mi_115 72 kr_115_9 := am_rn rfl (am_rs rfl (ok_aload_n (k := 0) dd_115_73 rfl rfl) (am_rs rfl (ok_gf dd_115_74 rfl am_ck11 (by decide) (Or.inl w_514)) (am_rn rfl (am_rn rfl (am_rs rfl (ok_iload dd_115_77 rfl) (am_rn rfl (am_rs rfl (ok_cv (M' := mi_117) dd_115_79 rfl rfl w_866 w_867 w_868 ⟨lk_117.1, lk_117.2.1, lk_117.2.2, by decide, by decide⟩ rfl) (am_rz))))))))
theorem kb_115_10 : am_row mi_115 80 kr_115_10 := am_rn rfl (am_rn rfl (am_rs rfl (ok_istore dd_115_82 rfl (by decide)) (am_rn rfl (am_rs rfl (ok_iload dd_115_84 rfl) (am_rn rfl (am_rs rfl (ok_ifc dd_115_86 (by decide) rfl) (am_rn rfl (am_rz))))))))
theorem kb_115_11 : am_row mi_115 88 kr_115_11 := am_rn rfl (am_rs rfl (ok_aload_n (k := 0) dd_115_89 rfl rfl) (am_rs rfl (ok_gf dd_115_90 rfl am_ck11 (by decide) (Or.inl w_518)) (am_rn rfl (am_rn rfl (am_rs rfl (ok_aload_n (k := 0) dd_115_93 rfl rfl) (am_rs rfl (ok_gf dd_115_94 rfl am_ck11 (by decide) (Or.inl w_514)) (am_rn rfl (am_rz))))))))
theorem kb_115_12 : am_row mi_115 96 kr_115_12 := am_rn rfl (am_rs rfl (ok_iload dd_115_97 rfl) (am_rn rfl (am_rs rfl (ok_bipush dd_115_99 bi_m4 rfl) (am_rn rfl (am_rs rfl (ok_cv (M' := mi_32) dd_115_101 rfl rfl w_453 w_454 w_455 ⟨lk_32.1, lk_32.2.1, lk_32.2.2, by decide, by decide⟩ rfl) (am_rn rfl (am_rn rfl (am_rz))))))))
theorem kb_115_13 : am_row mi_115 104 kr_115_13 := am_rs rfl (ok_aload_n (k := 0) dd_115_104 rfl rfl) (am_rs rfl (ok_iload_n (k := 1) dd_115_105 rfl rfl) (am_rs rfl (ok_aload_n (k := 0) dd_115_106 rfl rfl) (am_rs rfl (ok_gf dd_115_107 rfl am_ck11 (by decide) (Or.inl w_518)) (am_rn rfl (am_rn rfl (am_rs rfl (ok_cv (M' := mi_60) dd_115_110 rfl rfl w_620 w_622 ps_60 ⟨lk_60.1, lk_60.2.1, lk_60.2.2, by decide, by decide⟩ rfl) (am_rn rfl (am_rz))))))))
theorem kb_115_14 : am_row mi_115 112 kr_115_14 := am_rn rfl (am_rs rfl (ok_iload dd_115_113 rfl) (am_rn rfl (am_rs rfl (ok_iload dd_115_115 rfl) (am_rn rfl (am_rs rfl (ok_aload_n (k := 0) dd_115_117 rfl rfl) (am_rs rfl (ok_gf dd_115_118 rfl am_ck11 (by decide) (Or.inl w_519)) (am_rn rfl (am_rz))))))))
theorem kb_115_15 : am_row mi_115 120 kr_115_15 := am_rn rfl (am_rs rfl (ok_gf dd_115_121 rfl am_ck10 (by decide) (Or.inr ⟨_, w_174⟩)) (am_rn rfl (am_rn rfl (am_rs rfl (ok_imul dd_115_124 rfl) (am_rs rfl (ok_iadd dd_115_125 rfl) (am_rs rfl (ok_istore dd_115_126 rfl (by decide)) (am_rn rfl (am_rz))))))))
theorem kb_115_16 : am_row mi_115 128 kr_115_16 := am_rs rfl (ok_iinc dd_115_128 ic_1 rfl (by decide)) (am_rn rfl (am_rn rfl (am_rs rfl (ok_goto dd_115_131 (by decide)) (am_rn rfl (am_rn rfl (am_rs rfl (ok_iload dd_115_134 rfl) (am_rn rfl (am_rz))))))))
theorem kb_115_17 : am_row mi_115 136 kr_115_17 := am_rs rfl (ok_iload_n (k := 3) dd_115_136 rfl rfl) (am_rs rfl (ok_cs (M' := mi_118) dd_115_137 rfl rfl w_870 w_871 ⟨lk_118.1, lk_118.2.1, lk_118.2.2, by decide, by decide⟩) (am_rn rfl (am_rn rfl (am_rs rfl (ok_istore dd_115_140 rfl (by decide)) (am_rn rfl (am_rs rfl (ok_iload_n (k := 2) dd_115_142 rfl rfl) (am_rs rfl (ok_ifc dd_115_143 (by decide) rfl) (am_rz))))))))
theorem kb_115_18 : am_row mi_115 144 kr_115_18 := am_rn rfl (am_rn rfl (am_rs rfl (ok_iload dd_115_146 rfl) (am_rn rfl (am_rs rfl (ok_goto dd_115_148 (by decide)) (am_rn rfl (am_rn rfl (am_rs rfl (ok_iload_n (k := 3) dd_115_151 rfl rfl) (am_rz))))))))
theorem kb_115_19 : am_row mi_115 152 kr_115_19 := am_rs rfl (ok_iload dd_115_152 rfl) (am_rn rfl (am_rs rfl (ok_idiv dd_115_154 rfl) (am_rs rfl (ok_iret dd_115_155 rfl) (am_rz))))
theorem ck_115 : am_rows mi_115 0 cd_115 := am_bs rfl kb_115_0 (am_bs rfl kb_115_1 (am_bs rfl kb_115_2 (am_bs rfl kb_115_3 (am_bs rfl kb_115_4 (am_bs rfl kb_115_5 (am_bs rfl kb_115_6 (am_bs rfl kb_115_7 (am_bs rfl kb_115_8 (am_bs rfl kb_115_9 (am_bs rfl kb_115_10 (am_bs rfl kb_115_11 (am_bs rfl kb_115_12 (am_bs rfl kb_115_13 (am_bs rfl kb_115_14 (am_bs rfl kb_115_15 (am_bs rfl kb_115_16 (am_bs rfl kb_115_17 (am_bs rfl kb_115_18 (am_bs rfl kb_115_19 (am_bz))))))))))))))))))))
/-- OverAndBack.isWatcherOrPlan(I)Z -/
noncomputable def kr_116_0 : List (Option am_Op) := [some (am_ild 1 1), some (am_psh (.retAddr 4294967295) 2), some (am_br2 .eq 13 5), none, none, some (am_ald0 0 6), some (am_ild 1 7), some (am_cv 59 1 11 10)]
noncomputable def kr_116_1 : List (Option am_Op) := [none, none, some (am_br1 .eq 17 13), none, none, some (am_psh (.retAddr 1) 14), some (am_jmp 18), none]
noncomputable def kr_116_2 : List (Option am_Op) := [none, some (am_psh (.retAddr 0) 18), some (am_zret)]
noncomputable def cd_116 : am_Cd := [kr_116_0, kr_116_1, kr_116_2]
theorem dd_116_0 : decode prog_1_method_32_code 0 = .ok (.iload_n 1, 1) := by decide +kernel
theorem dd_116_1 : decode prog_1_method_32_code 1 = .ok (.iconst (-1), 1) := by decide +kernel
theorem dd_116_2 : decode prog_1_method_32_code 2 = .ok (.if_icmp .eq 11, 3) := by decide +kernel
theorem dd_116_5 : decode prog_1_method_32_code 5 = .ok (.aload_n 0, 1) := by decide +kernel
theorem dd_116_6 : decode prog_1_method_32_code 6 = .ok (.iload_n 1, 1) := by decide +kernel
theorem dd_116_7 : decode prog_1_method_32_code 7 = .ok (.invokevirtual 153, 3) := by decide +kernel
theorem dd_116_10 : decode prog_1_method_32_code 10 = .ok (.ifCond .eq 7, 3) := by decide +kernel
theorem dd_116_13 : decode prog_1_method_32_code 13 = .ok (.iconst 1, 1) := by decide +kernel
theorem dd_116_14 : decode prog_1_method_32_code 14 = .ok (.goto 4, 3) := by decide +kernel
theorem dd_116_17 : decode prog_1_method_32_code 17 = .ok (.iconst 0, 1) := by decide +kernel
theorem dd_116_18 : decode prog_1_method_32_code 18 = .ok (.ireturn, 1) := by decide +kernel
theorem kb_116_0 : am_row mi_116 0 kr_116_0 := am_rs rfl (ok_iload_n (k := 1) dd_116_0 rfl rfl) (am_rs rfl (ok_iconst dd_116_1 ic_m1 rfl) (am_rs rfl (ok_icmp dd_116_2 (by decide) rfl) (am_rn rfl (am_rn rfl (am_rs rfl (ok_aload_n (k := 0) dd_116_5 rfl rfl) (am_rs rfl (ok_iload_n (k := 1) dd_116_6 rfl rfl) (am_rs rfl (ok_cv (M' := mi_59) dd_116_7 rfl rfl w_616 w_618 ps_59 ⟨lk_59.1, lk_59.2.1, lk_59.2.2, by decide, by decide⟩ rfl) (am_rz))))))))
theorem kb_116_1 : am_row mi_116 8 kr_116_1 := am_rn rfl (am_rn rfl (am_rs rfl (ok_ifc dd_116_10 (by decide) rfl) (am_rn rfl (am_rn rfl (am_rs rfl (ok_iconst dd_116_13 ic_1 rfl) (am_rs rfl (ok_goto dd_116_14 (by decide)) (am_rn rfl (am_rz))))))))
theorem kb_116_2 : am_row mi_116 16 kr_116_2 := am_rn rfl (am_rs rfl (ok_iconst dd_116_17 ic_0 rfl) (am_rs rfl (ok_zret dd_116_18 rfl) (am_rz)))
theorem ck_116 : am_rows mi_116 0 cd_116 := am_bs rfl kb_116_0 (am_bs rfl kb_116_1 (am_bs rfl kb_116_2 (am_bz)))
/-- OverAndBack$Evening.weightOf(I)I -/
noncomputable def kr_117_0 : List (Option am_Op) := [some (am_psh (.retAddr 1) 1), some (am_ist 2 2), some (am_psh (.retAddr 0) 3), some (am_ist 3 4), some (am_ild 3 5), some (am_ald0 0 6), some (am_gf 1 3 9), none]
noncomputable def kr_117_1 : List (Option am_Op) := [none, some (am_gf 8 3 12), none, none, some (am_br2 .ge 53 15), none, none, some (am_ald0 0 16)]
noncomputable def kr_117_2 : List (Option am_Op) := [some (am_gf 1 3 19), none, none, some (am_ild 3 20), some (am_psh (.retAddr 3) 21), some (am_cv 31 2 8 24), none, none]
noncomputable def kr_117_3 : List (Option am_Op) := [some (am_ist 4 26), none, some (am_ild 2 27), some (am_ild 1 28), some (am_ild 3 29), some (am_bin1 am_xshr 30), some (am_psh (.retAddr 1) 31), some (am_bin Nat.land 32)]
noncomputable def kr_117_4 : List (Option am_Op) := [some (am_br1 .eq 40 35), none, none, some (am_ild 4 37), none, some (am_jmp 45), none, none]
noncomputable def kr_117_5 : List (Option am_Op) := [some (am_psh (.retAddr 10) 42), none, some (am_ild 4 44), none, some (am_bin am_sub 45), some (am_bin am_mul 46), some (am_ist 2 47), some (am_inc 3 1 50)]
noncomputable def kr_117_6 : List (Option am_Op) := [none, none, some (am_jmp 4), none, none, some (am_ild 2 54), some (am_iret)]
noncomputable def cd_117 : am_Cd := [kr_117_0, kr_117_1, kr_117_2, kr_117_3, kr_117_4, kr_117_5, kr_117_6]
theorem dd_117_0 : decode prog_3_method_6_code 0 = .ok (.iconst 1, 1) := by decide +kernel
theorem dd_117_1 : decode prog_3_method_6_code 1 = .ok (.istore_n 2, 1) := by decide +kernel
theorem dd_117_2 : decode prog_3_method_6_code 2 = .ok (.iconst 0, 1) := by decide +kernel
theorem dd_117_3 : decode prog_3_method_6_code 3 = .ok (.istore_n 3, 1) := by decide +kernel
theorem dd_117_4 : decode prog_3_method_6_code 4 = .ok (.iload_n 3, 1) := by decide +kernel
theorem dd_117_5 : decode prog_3_method_6_code 5 = .ok (.aload_n 0, 1) := by decide +kernel
theorem dd_117_6 : decode prog_3_method_6_code 6 = .ok (.getfield 26, 3) := by decide +kernel
theorem dd_117_9 : decode prog_3_method_6_code 9 = .ok (.getfield 51, 3) := by decide +kernel
theorem dd_117_12 : decode prog_3_method_6_code 12 = .ok (.if_icmp .ge 41, 3) := by decide +kernel
theorem dd_117_15 : decode prog_3_method_6_code 15 = .ok (.aload_n 0, 1) := by decide +kernel
theorem dd_117_16 : decode prog_3_method_6_code 16 = .ok (.getfield 26, 3) := by decide +kernel
theorem dd_117_19 : decode prog_3_method_6_code 19 = .ok (.iload_n 3, 1) := by decide +kernel
theorem dd_117_20 : decode prog_3_method_6_code 20 = .ok (.iconst 3, 1) := by decide +kernel
theorem dd_117_21 : decode prog_3_method_6_code 21 = .ok (.invokevirtual 45, 3) := by decide +kernel
theorem dd_117_24 : decode prog_3_method_6_code 24 = .ok (.istore 4, 2) := by decide +kernel
theorem dd_117_26 : decode prog_3_method_6_code 26 = .ok (.iload_n 2, 1) := by decide +kernel
theorem dd_117_27 : decode prog_3_method_6_code 27 = .ok (.iload_n 1, 1) := by decide +kernel
theorem dd_117_28 : decode prog_3_method_6_code 28 = .ok (.iload_n 3, 1) := by decide +kernel
theorem dd_117_29 : decode prog_3_method_6_code 29 = .ok (.ishr, 1) := by decide +kernel
theorem dd_117_30 : decode prog_3_method_6_code 30 = .ok (.iconst 1, 1) := by decide +kernel
theorem dd_117_31 : decode prog_3_method_6_code 31 = .ok (.iand, 1) := by decide +kernel
theorem dd_117_32 : decode prog_3_method_6_code 32 = .ok (.ifCond .eq 8, 3) := by decide +kernel
theorem dd_117_35 : decode prog_3_method_6_code 35 = .ok (.iload 4, 2) := by decide +kernel
theorem dd_117_37 : decode prog_3_method_6_code 37 = .ok (.goto 8, 3) := by decide +kernel
theorem dd_117_40 : decode prog_3_method_6_code 40 = .ok (.bipush 10, 2) := by decide +kernel
theorem dd_117_42 : decode prog_3_method_6_code 42 = .ok (.iload 4, 2) := by decide +kernel
theorem dd_117_44 : decode prog_3_method_6_code 44 = .ok (.isub, 1) := by decide +kernel
theorem dd_117_45 : decode prog_3_method_6_code 45 = .ok (.imul, 1) := by decide +kernel
theorem dd_117_46 : decode prog_3_method_6_code 46 = .ok (.istore_n 2, 1) := by decide +kernel
theorem dd_117_47 : decode prog_3_method_6_code 47 = .ok (.iinc 3 1, 3) := by decide +kernel
theorem dd_117_50 : decode prog_3_method_6_code 50 = .ok (.goto (-46), 3) := by decide +kernel
theorem dd_117_53 : decode prog_3_method_6_code 53 = .ok (.iload_n 2, 1) := by decide +kernel
theorem dd_117_54 : decode prog_3_method_6_code 54 = .ok (.ireturn, 1) := by decide +kernel
theorem kb_117_0 : am_row mi_117 0 kr_117_0 := am_rs rfl (ok_iconst dd_117_0 ic_1 rfl) (am_rs rfl (ok_istore_n (k := 2) dd_117_1 rfl rfl (by decide)) (am_rs rfl (ok_iconst dd_117_2 ic_0 rfl) (am_rs rfl (ok_istore_n (k := 3) dd_117_3 rfl rfl (by decide)) (am_rs rfl (ok_iload_n (k := 3) dd_117_4 rfl rfl) (am_rs rfl (ok_aload_n (k := 0) dd_117_5 rfl rfl) (am_rs rfl (ok_gf dd_117_6 rfl am_ck1 (by decide) (Or.inl w_94)) (am_rn rfl (am_rz))))))))
theorem kb_117_1 : am_row mi_117 8 kr_117_1 := am_rn rfl (am_rs rfl (ok_gf dd_117_9 rfl am_ck8 (by decide) (Or.inr ⟨_, w_68⟩)) (am_rn rfl (am_rn rfl (am_rs rfl (ok_icmp dd_117_12 (by decide) rfl) (am_rn rfl (am_rn rfl (am_rs rfl (ok_aload_n (k := 0) dd_117_15 rfl rfl) (am_rz))))))))
theorem kb_117_2 : am_row mi_117 16 kr_117_2 := am_rs rfl (ok_gf dd_117_16 rfl am_ck1 (by decide) (Or.inl w_94)) (am_rn rfl (am_rn rfl (am_rs rfl (ok_iload_n (k := 3) dd_117_19 rfl rfl) (am_rs rfl (ok_iconst dd_117_20 ic_3 rfl) (am_rs rfl (ok_cv (M' := mi_31) dd_117_21 rfl rfl w_662 w_450 w_451 ⟨lk_31.1, lk_31.2.1, lk_31.2.2, by decide, by decide⟩ rfl) (am_rn rfl (am_rn rfl (am_rz))))))))
theorem kb_117_3 : am_row mi_117 24 kr_117_3 := am_rs rfl (ok_istore dd_117_24 rfl (by decide)) (am_rn rfl (am_rs rfl (ok_iload_n (k := 2) dd_117_26 rfl rfl) (am_rs rfl (ok_iload_n (k := 1) dd_117_27 rfl rfl) (am_rs rfl (ok_iload_n (k := 3) dd_117_28 rfl rfl) (am_rs rfl (ok_ishr dd_117_29 rfl) (am_rs rfl (ok_iconst dd_117_30 ic_1 rfl) (am_rs rfl (ok_iand dd_117_31 rfl) (am_rz))))))))
theorem kb_117_4 : am_row mi_117 32 kr_117_4 := am_rs rfl (ok_ifc dd_117_32 (by decide) rfl) (am_rn rfl (am_rn rfl (am_rs rfl (ok_iload dd_117_35 rfl) (am_rn rfl (am_rs rfl (ok_goto dd_117_37 (by decide)) (am_rn rfl (am_rn rfl (am_rz))))))))
theorem kb_117_5 : am_row mi_117 40 kr_117_5 := am_rs rfl (ok_bipush dd_117_40 bi_10 rfl) (am_rn rfl (am_rs rfl (ok_iload dd_117_42 rfl) (am_rn rfl (am_rs rfl (ok_isub dd_117_44 rfl) (am_rs rfl (ok_imul dd_117_45 rfl) (am_rs rfl (ok_istore_n (k := 2) dd_117_46 rfl rfl (by decide)) (am_rs rfl (ok_iinc dd_117_47 ic_1 rfl (by decide)) (am_rz))))))))
theorem kb_117_6 : am_row mi_117 48 kr_117_6 := am_rn rfl (am_rn rfl (am_rs rfl (ok_goto dd_117_50 (by decide)) (am_rn rfl (am_rn rfl (am_rs rfl (ok_iload_n (k := 2) dd_117_53 rfl rfl) (am_rs rfl (ok_iret dd_117_54 rfl) (am_rz)))))))
theorem ck_117 : am_rows mi_117 0 cd_117 := am_bs rfl kb_117_0 (am_bs rfl kb_117_1 (am_bs rfl kb_117_2 (am_bs rfl kb_117_3 (am_bs rfl kb_117_4 (am_bs rfl kb_117_5 (am_bs rfl kb_117_6 (am_bz)))))))
/-- OverAndBack.commonDivisor(II)I -/
noncomputable def kr_118_0 : List (Option am_Op) := [some (am_ild 0 1), some (am_ist 2 2), some (am_ild 1 3), some (am_ist 3 4), some (am_psh (.retAddr 0) 5), some (am_ist 4 7), none, some (am_ild 4 9)]
noncomputable def kr_118_1 : List (Option am_Op) := [none, some (am_psh (.retAddr 64) 11), none, some (am_br2 .ge 34 14), none, none, some (am_ild 3 15), some (am_br1 .eq 34 18)]
noncomputable def kr_118_2 : List (Option am_Op) := [none, none, some (am_ild 2 19), some (am_ild 3 20), some (am_bin2 Nat.mod 21), some (am_ist 5 23), none, some (am_ild 3 24)]
noncomputable def kr_118_3 : List (Option am_Op) := [some (am_ist 2 25), some (am_ild 5 27), none, some (am_ist 3 28), some (am_inc 4 1 31), none, none, some (am_jmp 7)]
noncomputable def kr_118_4 : List (Option am_Op) := [none, none, some (am_psh (.retAddr 1) 35), some (am_ild 2 36), some (am_mmax 39), none, none, some (am_iret)]
noncomputable def cd_118 : am_Cd := [kr_118_0, kr_118_1, kr_118_2, kr_118_3, kr_118_4]
theorem dd_118_0 : decode prog_1_method_38_code 0 = .ok (.iload_n 0, 1) := by decide +kernel
theorem dd_118_1 : decode prog_1_method_38_code 1 = .ok (.istore_n 2, 1) := by decide +kernel
theorem dd_118_2 : decode prog_1_method_38_code 2 = .ok (.iload_n 1, 1) := by decide +kernel
theorem dd_118_3 : decode prog_1_method_38_code 3 = .ok (.istore_n 3, 1) := by decide +kernel
theorem dd_118_4 : decode prog_1_method_38_code 4 = .ok (.iconst 0, 1) := by decide +kernel
theorem dd_118_5 : decode prog_1_method_38_code 5 = .ok (.istore 4, 2) := by decide +kernel
theorem dd_118_7 : decode prog_1_method_38_code 7 = .ok (.iload 4, 2) := by decide +kernel
theorem dd_118_9 : decode prog_1_method_38_code 9 = .ok (.bipush 64, 2) := by decide +kernel
theorem dd_118_11 : decode prog_1_method_38_code 11 = .ok (.if_icmp .ge 23, 3) := by decide +kernel
theorem dd_118_14 : decode prog_1_method_38_code 14 = .ok (.iload_n 3, 1) := by decide +kernel
theorem dd_118_15 : decode prog_1_method_38_code 15 = .ok (.ifCond .eq 19, 3) := by decide +kernel
theorem dd_118_18 : decode prog_1_method_38_code 18 = .ok (.iload_n 2, 1) := by decide +kernel
theorem dd_118_19 : decode prog_1_method_38_code 19 = .ok (.iload_n 3, 1) := by decide +kernel
theorem dd_118_20 : decode prog_1_method_38_code 20 = .ok (.irem, 1) := by decide +kernel
theorem dd_118_21 : decode prog_1_method_38_code 21 = .ok (.istore 5, 2) := by decide +kernel
theorem dd_118_23 : decode prog_1_method_38_code 23 = .ok (.iload_n 3, 1) := by decide +kernel
theorem dd_118_24 : decode prog_1_method_38_code 24 = .ok (.istore_n 2, 1) := by decide +kernel
theorem dd_118_25 : decode prog_1_method_38_code 25 = .ok (.iload 5, 2) := by decide +kernel
theorem dd_118_27 : decode prog_1_method_38_code 27 = .ok (.istore_n 3, 1) := by decide +kernel
theorem dd_118_28 : decode prog_1_method_38_code 28 = .ok (.iinc 4 1, 3) := by decide +kernel
theorem dd_118_31 : decode prog_1_method_38_code 31 = .ok (.goto (-24), 3) := by decide +kernel
theorem dd_118_34 : decode prog_1_method_38_code 34 = .ok (.iconst 1, 1) := by decide +kernel
theorem dd_118_35 : decode prog_1_method_38_code 35 = .ok (.iload_n 2, 1) := by decide +kernel
theorem dd_118_36 : decode prog_1_method_38_code 36 = .ok (.invokestatic 297, 3) := by decide +kernel
theorem dd_118_39 : decode prog_1_method_38_code 39 = .ok (.ireturn, 1) := by decide +kernel
theorem kb_118_0 : am_row mi_118 0 kr_118_0 := am_rs rfl (ok_iload_n (k := 0) dd_118_0 rfl rfl) (am_rs rfl (ok_istore_n (k := 2) dd_118_1 rfl rfl (by decide)) (am_rs rfl (ok_iload_n (k := 1) dd_118_2 rfl rfl) (am_rs rfl (ok_istore_n (k := 3) dd_118_3 rfl rfl (by decide)) (am_rs rfl (ok_iconst dd_118_4 ic_0 rfl) (am_rs rfl (ok_istore dd_118_5 rfl (by decide)) (am_rn rfl (am_rs rfl (ok_iload dd_118_7 rfl) (am_rz))))))))
theorem kb_118_1 : am_row mi_118 8 kr_118_1 := am_rn rfl (am_rs rfl (ok_bipush dd_118_9 bi_64 rfl) (am_rn rfl (am_rs rfl (ok_icmp dd_118_11 (by decide) rfl) (am_rn rfl (am_rn rfl (am_rs rfl (ok_iload_n (k := 3) dd_118_14 rfl rfl) (am_rs rfl (ok_ifc dd_118_15 (by decide) rfl) (am_rz))))))))
theorem kb_118_2 : am_row mi_118 16 kr_118_2 := am_rn rfl (am_rn rfl (am_rs rfl (ok_iload_n (k := 2) dd_118_18 rfl rfl) (am_rs rfl (ok_iload_n (k := 3) dd_118_19 rfl rfl) (am_rs rfl (ok_irem dd_118_20 rfl) (am_rs rfl (ok_istore dd_118_21 rfl (by decide)) (am_rn rfl (am_rs rfl (ok_iload_n (k := 3) dd_118_23 rfl rfl) (am_rz))))))))
theorem kb_118_3 : am_row mi_118 24 kr_118_3 := am_rs rfl (ok_istore_n (k := 2) dd_118_24 rfl rfl (by decide)) (am_rs rfl (ok_iload dd_118_25 rfl) (am_rn rfl (am_rs rfl (ok_istore_n (k := 3) dd_118_27 rfl rfl (by decide)) (am_rs rfl (ok_iinc dd_118_28 ic_1 rfl (by decide)) (am_rn rfl (am_rn rfl (am_rs rfl (ok_goto dd_118_31 (by decide)) (am_rz))))))))
theorem kb_118_4 : am_row mi_118 32 kr_118_4 := am_rn rfl (am_rn rfl (am_rs rfl (ok_iconst dd_118_34 ic_1 rfl) (am_rs rfl (ok_iload_n (k := 2) dd_118_35 rfl rfl) (am_rs rfl (ok_mmax dd_118_36 rfl w_820 w_409 w_18 w_410 ⟨by decide, by decide⟩) (am_rn rfl (am_rn rfl (am_rs rfl (ok_iret dd_118_39 rfl) (am_rz))))))))
theorem ck_118 : am_rows mi_118 0 cd_118 := am_bs rfl kb_118_0 (am_bs rfl kb_118_1 (am_bs rfl kb_118_2 (am_bs rfl kb_118_3 (am_bs rfl kb_118_4 (am_bz)))))
/-- OverAndBack.sure(I)I -/
noncomputable def kr_119_0 : List (Option am_Op) := [some (am_ald0 0 1), some (am_ild 1 2), some (am_cv 116 1 11 5), none, none, some (am_br1 .ne 10 8), none, none]
noncomputable def kr_119_1 : List (Option am_Op) := [some (am_psh (.retAddr 4294967295) 9), some (am_iret), some (am_psh (.retAddr 255) 13), none, none, some (am_ist 2 14), some (am_psh (.retAddr 0) 15), some (am_ist 3 16)]
noncomputable def kr_119_2 : List (Option am_Op) := [some (am_ild 3 17), some (am_psh (.retAddr 1) 18), some (am_ald0 0 19), some (am_gf 11 3 22), none, none, some (am_gf 1 3 25), none]
noncomputable def kr_119_3 : List (Option am_Op) := [none, some (am_gf 8 3 28), none, none, some (am_bin am_shl 29), some (am_br2 .ge 89 32), none, none]
noncomputable def kr_119_4 : List (Option am_Op) := [some (am_ald0 0 33), some (am_gf 11 3 36), none, none, some (am_ild 3 37), some (am_cv 117 1 1 40), none, none]
noncomputable def kr_119_5 : List (Option am_Op) := [some (am_br1 .le 83 43), none, none, some (am_ald0 0 44), some (am_gf 11 7 47), none, none, some (am_ald0 0 48)]
noncomputable def kr_119_6 : List (Option am_Op) := [some (am_gf 11 3 51), none, none, some (am_ild 3 52), some (am_psh (.retAddr 4294967292) 54), none, some (am_cv 32 3 9 57), none]
noncomputable def kr_119_7 : List (Option am_Op) := [none, some (am_ald0 0 58), some (am_ild 1 59), some (am_ald0 0 60), some (am_gf 11 7 63), none, none, some (am_cv 60 2 11 66)]
noncomputable def kr_119_8 : List (Option am_Op) := [none, none, some (am_ild 2 67), some (am_ald0 0 68), some (am_gf 11 5 71), none, none, some (am_ald0 0 72)]
noncomputable def kr_119_9 : List (Option am_Op) := [some (am_gf 11 8 75), none, none, some (am_gf 10 5 78), none, none, some (am_cv 57 1 2 81), none]
noncomputable def kr_119_10 : List (Option am_Op) := [none, some (am_bin Nat.land 82), some (am_ist 2 83), some (am_inc 3 1 86), none, none, some (am_jmp 16), none]
noncomputable def kr_119_11 : List (Option am_Op) := [none, some (am_ild 2 90), some (am_iret)]
noncomputable def cd_119 : am_Cd := [kr_119_0, kr_119_1, kr_119_2, kr_119_3, kr_119_4, kr_119_5, kr_119_6, kr_119_7, kr_119_8, kr_119_9, kr_119_10, kr_119_11]
theorem dd_119_0 : decode prog_1_method_22_code 0 = .ok (.aload_n 0, 1) := by decide +kernel
theorem dd_119_1 : decode prog_1_method_22_code 1 = .ok (.iload_n 1, 1) := by decide +kernel
theorem dd_119_2 : decode prog_1_method_22_code 2 = .ok (.invokevirtual 252, 3) := by decide +kernel
theorem dd_119_5 : decode prog_1_method_22_code 5 = .ok (.ifCond .ne 5, 3) := by decide +kernel
theorem dd_119_8 : decode prog_1_method_22_code 8 = .ok (.iconst (-1), 1) := by decide +kernel
theorem dd_119_9 : decode prog_1_method_22_code 9 = .ok (.ireturn, 1) := by decide +kernel
theorem dd_119_10 : decode prog_1_method_22_code 10 = .ok (.sipush 255, 3) := by decide +kernel
theorem dd_119_13 : decode prog_1_method_22_code 13 = .ok (.istore_n 2, 1) := by decide +kernel
theorem dd_119_14 : decode prog_1_method_22_code 14 = .ok (.iconst 0, 1) := by decide +kernel
theorem dd_119_15 : decode prog_1_method_22_code 15 = .ok (.istore_n 3, 1) := by decide +kernel
theorem dd_119_16 : decode prog_1_method_22_code 16 = .ok (.iload_n 3, 1) := by decide +kernel
theorem dd_119_17 : decode prog_1_method_22_code 17 = .ok (.iconst 1, 1) := by decide +kernel
theorem dd_119_18 : decode prog_1_method_22_code 18 = .ok (.aload_n 0, 1) := by decide +kernel
theorem dd_119_19 : decode prog_1_method_22_code 19 = .ok (.getfield 27, 3) := by decide +kernel
theorem dd_119_22 : decode prog_1_method_22_code 22 = .ok (.getfield 255, 3) := by decide +kernel
theorem dd_119_25 : decode prog_1_method_22_code 25 = .ok (.getfield 123, 3) := by decide +kernel
theorem dd_119_28 : decode prog_1_method_22_code 28 = .ok (.ishl, 1) := by decide +kernel
theorem dd_119_29 : decode prog_1_method_22_code 29 = .ok (.if_icmp .ge 60, 3) := by decide +kernel
theorem dd_119_32 : decode prog_1_method_22_code 32 = .ok (.aload_n 0, 1) := by decide +kernel
theorem dd_119_33 : decode prog_1_method_22_code 33 = .ok (.getfield 27, 3) := by decide +kernel
theorem dd_119_36 : decode prog_1_method_22_code 36 = .ok (.iload_n 3, 1) := by decide +kernel
theorem dd_119_37 : decode prog_1_method_22_code 37 = .ok (.invokevirtual 258, 3) := by decide +kernel
theorem dd_119_40 : decode prog_1_method_22_code 40 = .ok (.ifCond .le 43, 3) := by decide +kernel
theorem dd_119_43 : decode prog_1_method_22_code 43 = .ok (.aload_n 0, 1) := by decide +kernel
theorem dd_119_44 : decode prog_1_method_22_code 44 = .ok (.getfield 48, 3) := by decide +kernel
theorem dd_119_47 : decode prog_1_method_22_code 47 = .ok (.aload_n 0, 1) := by decide +kernel
theorem dd_119_48 : decode prog_1_method_22_code 48 = .ok (.getfield 27, 3) := by decide +kernel
theorem dd_119_51 : decode prog_1_method_22_code 51 = .ok (.iload_n 3, 1) := by decide +kernel
theorem dd_119_52 : decode prog_1_method_22_code 52 = .ok (.bipush (-4), 2) := by decide +kernel
theorem dd_119_54 : decode prog_1_method_22_code 54 = .ok (.invokevirtual 261, 3) := by decide +kernel
theorem dd_119_57 : decode prog_1_method_22_code 57 = .ok (.aload_n 0, 1) := by decide +kernel
theorem dd_119_58 : decode prog_1_method_22_code 58 = .ok (.iload_n 1, 1) := by decide +kernel
theorem dd_119_59 : decode prog_1_method_22_code 59 = .ok (.aload_n 0, 1) := by decide +kernel
theorem dd_119_60 : decode prog_1_method_22_code 60 = .ok (.getfield 48, 3) := by decide +kernel
theorem dd_119_63 : decode prog_1_method_22_code 63 = .ok (.invokevirtual 156, 3) := by decide +kernel
theorem dd_119_66 : decode prog_1_method_22_code 66 = .ok (.iload_n 2, 1) := by decide +kernel
theorem dd_119_67 : decode prog_1_method_22_code 67 = .ok (.aload_n 0, 1) := by decide +kernel
theorem dd_119_68 : decode prog_1_method_22_code 68 = .ok (.getfield 37, 3) := by decide +kernel
theorem dd_119_71 : decode prog_1_method_22_code 71 = .ok (.aload_n 0, 1) := by decide +kernel
theorem dd_119_72 : decode prog_1_method_22_code 72 = .ok (.getfield 54, 3) := by decide +kernel
theorem dd_119_75 : decode prog_1_method_22_code 75 = .ok (.getfield 169, 3) := by decide +kernel
theorem dd_119_78 : decode prog_1_method_22_code 78 = .ok (.invokevirtual 149, 3) := by decide +kernel
theorem dd_119_81 : decode prog_1_method_22_code 81 = .ok (.iand, 1) := by decide +kernel
theorem dd_119_82 : decode prog_1_method_22_code 82 = .ok (.istore_n 2, 1) := by decide +kernel
theorem dd_119_83 : decode prog_1_method_22_code 83 = .ok (.iinc 3 1, 3) := by decide +kernel
theorem dd_119_86 : decode prog_1_method_22_code 86 = .ok (.goto (-70), 3) := by decide +kernel
theorem dd_119_89 : decode prog_1_method_22_code 89 = .ok (.iload_n 2, 1) := by decide +kernel
theorem dd_119_90 : decode prog_1_method_22_code 90 = .ok (.ireturn, 1) := by decide +kernel
theorem kb_119_0 : am_row mi_119 0 kr_119_0 := am_rs rfl (ok_aload_n (k := 0) dd_119_0 rfl rfl) (am_rs rfl (ok_iload_n (k := 1) dd_119_1 rfl rfl) (am_rs rfl (ok_cv (M' := mi_116) dd_119_2 rfl rfl w_862 w_864 ps_116 ⟨lk_116.1, lk_116.2.1, lk_116.2.2, by decide, by decide⟩ rfl) (am_rn rfl (am_rn rfl (am_rs rfl (ok_ifc dd_119_5 (by decide) rfl) (am_rn rfl (am_rn rfl (am_rz))))))))
theorem kb_119_1 : am_row mi_119 8 kr_119_1 := am_rs rfl (ok_iconst dd_119_8 ic_m1 rfl) (am_rs rfl (ok_iret dd_119_9 rfl) (am_rs rfl (ok_sipush dd_119_10 si_255 rfl) (am_rn rfl (am_rn rfl (am_rs rfl (ok_istore_n (k := 2) dd_119_13 rfl rfl (by decide)) (am_rs rfl (ok_iconst dd_119_14 ic_0 rfl) (am_rs rfl (ok_istore_n (k := 3) dd_119_15 rfl rfl (by decide)) (am_rz))))))))
theorem kb_119_2 : am_row mi_119 16 kr_119_2 := am_rs rfl (ok_iload_n (k := 3) dd_119_16 rfl rfl) (am_rs rfl (ok_iconst dd_119_17 ic_1 rfl) (am_rs rfl (ok_aload_n (k := 0) dd_119_18 rfl rfl) (am_rs rfl (ok_gf dd_119_19 rfl am_ck11 (by decide) (Or.inl w_514)) (am_rn rfl (am_rn rfl (am_rs rfl (ok_gf dd_119_22 rfl am_ck1 (by decide) (Or.inr ⟨_, w_97⟩)) (am_rn rfl (am_rz))))))))
theorem kb_119_3 : am_row mi_119 24 kr_119_3 := am_rn rfl (am_rs rfl (ok_gf dd_119_25 rfl am_ck8 (by decide) (Or.inr ⟨_, w_67⟩)) (am_rn rfl (am_rn rfl (am_rs rfl (ok_ishl dd_119_28 rfl) (am_rs rfl (ok_icmp dd_119_29 (by decide) rfl) (am_rn rfl (am_rn rfl (am_rz))))))))
theorem kb_119_4 : am_row mi_119 32 kr_119_4 := am_rs rfl (ok_aload_n (k := 0) dd_119_32 rfl rfl) (am_rs rfl (ok_gf dd_119_33 rfl am_ck11 (by decide) (Or.inl w_514)) (am_rn rfl (am_rn rfl (am_rs rfl (ok_iload_n (k := 3) dd_119_36 rfl rfl) (am_rs rfl (ok_cv (M' := mi_117) dd_119_37 rfl rfl w_866 w_867 w_868 ⟨lk_117.1, lk_117.2.1, lk_117.2.2, by decide, by decide⟩ rfl) (am_rn rfl (am_rn rfl (am_rz))))))))
theorem kb_119_5 : am_row mi_119 40 kr_119_5 := am_rs rfl (ok_ifc dd_119_40 (by decide) rfl) (am_rn rfl (am_rn rfl (am_rs rfl (ok_aload_n (k := 0) dd_119_43 rfl rfl) (am_rs rfl (ok_gf dd_119_44 rfl am_ck11 (by decide) (Or.inl w_518)) (am_rn rfl (am_rn rfl (am_rs rfl (ok_aload_n (k := 0) dd_119_47 rfl rfl) (am_rz))))))))
theorem kb_119_6 : am_row mi_119 48 kr_119_6 := am_rs rfl (ok_gf dd_119_48 rfl am_ck11 (by decide) (Or.inl w_514)) (am_rn rfl (am_rn rfl (am_rs rfl (ok_iload_n (k := 3) dd_119_51 rfl rfl) (am_rs rfl (ok_bipush dd_119_52 bi_m4 rfl) (am_rn rfl (am_rs rfl (ok_cv (M' := mi_32) dd_119_54 rfl rfl w_453 w_454 w_455 ⟨lk_32.1, lk_32.2.1, lk_32.2.2, by decide, by decide⟩ rfl) (am_rn rfl (am_rz))))))))
theorem kb_119_7 : am_row mi_119 56 kr_119_7 := am_rn rfl (am_rs rfl (ok_aload_n (k := 0) dd_119_57 rfl rfl) (am_rs rfl (ok_iload_n (k := 1) dd_119_58 rfl rfl) (am_rs rfl (ok_aload_n (k := 0) dd_119_59 rfl rfl) (am_rs rfl (ok_gf dd_119_60 rfl am_ck11 (by decide) (Or.inl w_518)) (am_rn rfl (am_rn rfl (am_rs rfl (ok_cv (M' := mi_60) dd_119_63 rfl rfl w_620 w_622 ps_60 ⟨lk_60.1, lk_60.2.1, lk_60.2.2, by decide, by decide⟩ rfl) (am_rz))))))))
theorem kb_119_8 : am_row mi_119 64 kr_119_8 := am_rn rfl (am_rn rfl (am_rs rfl (ok_iload_n (k := 2) dd_119_66 rfl rfl) (am_rs rfl (ok_aload_n (k := 0) dd_119_67 rfl rfl) (am_rs rfl (ok_gf dd_119_68 rfl am_ck11 (by decide) (Or.inl w_516)) (am_rn rfl (am_rn rfl (am_rs rfl (ok_aload_n (k := 0) dd_119_71 rfl rfl) (am_rz))))))))
theorem kb_119_9 : am_row mi_119 72 kr_119_9 := am_rs rfl (ok_gf dd_119_72 rfl am_ck11 (by decide) (Or.inl w_519)) (am_rn rfl (am_rn rfl (am_rs rfl (ok_gf dd_119_75 rfl am_ck10 (by decide) (Or.inr ⟨_, w_176⟩)) (am_rn rfl (am_rn rfl (am_rs rfl (ok_cv (M' := mi_57) dd_119_78 rfl rfl w_608 w_609 w_610 ⟨lk_57.1, lk_57.2.1, lk_57.2.2, by decide, by decide⟩ rfl) (am_rn rfl (am_rz))))))))
theorem kb_119_10 : am_row mi_119 80 kr_119_10 := am_rn rfl (am_rs rfl (ok_iand dd_119_81 rfl) (am_rs rfl (ok_istore_n (k := 2) dd_119_82 rfl rfl (by decide)) (am_rs rfl (ok_iinc dd_119_83 ic_1 rfl (by decide)) (am_rn rfl (am_rn rfl (am_rs rfl (ok_goto dd_119_86 (by decide)) (am_rn rfl (am_rz))))))))
theorem kb_119_11 : am_row mi_119 88 kr_119_11 := am_rn rfl (am_rs rfl (ok_iload_n (k := 2) dd_119_89 rfl rfl) (am_rs rfl (ok_iret dd_119_90 rfl) (am_rz)))
theorem ck_119 : am_rows mi_119 0 cd_119 := am_bs rfl kb_119_0 (am_bs rfl kb_119_1 (am_bs rfl kb_119_2 (am_bs rfl kb_119_3 (am_bs rfl kb_119_4 (am_bs rfl kb_119_5 (am_bs rfl kb_119_6 (am_bs rfl kb_119_7 (am_bs rfl kb_119_8 (am_bs rfl kb_119_9 (am_bs rfl kb_119_10 (am_bs rfl kb_119_11 (am_bz))))))))))))
/-- OverAndBack.fits(I)I -/
noncomputable def kr_120_0 : List (Option am_Op) := [some (am_ild 1 1), some (am_cs 56 1 4), none, none, some (am_br1 .ne 9 7), none, none, some (am_psh (.retAddr 4294967295) 8)]
noncomputable def kr_120_1 : List (Option am_Op) := [some (am_iret), some (am_psh (.retAddr 0) 10), some (am_ist 2 11), some (am_psh (.retAddr 0) 12), some (am_ist 3 13), some (am_ild 3 14), some (am_psh (.retAddr 4) 15), some (am_br2 .ge 95 18)]
noncomputable def kr_120_2 : List (Option am_Op) := [none, none, some (am_psh (.retAddr 0) 19), some (am_ist 4 21), none, some (am_ild 4 23), none, some (am_ald0 0 24)]
noncomputable def kr_120_3 : List (Option am_Op) := [some (am_gf 11 3 27), none, none, some (am_gf 1 0 30), none, none, some (am_gf 8 3 33), none]
noncomputable def kr_120_4 : List (Option am_Op) := [none, some (am_br2 .ge 89 36), none, none, some (am_ald0 0 37), some (am_gf 11 8 40), none, none]
noncomputable def kr_120_5 : List (Option am_Op) := [some (am_ald0 0 41), some (am_gf 11 3 44), none, none, some (am_ald0 0 45), some (am_gf 11 6 48), none, none]
noncomputable def kr_120_6 : List (Option am_Op) := [some (am_ild 3 49), some (am_ild 4 51), none, some (am_cv 71 4 10 54), none, none, some (am_ald0 0 55), some (am_gf 11 5 58)]
noncomputable def kr_120_7 : List (Option am_Op) := [none, none, some (am_ald0 0 59), some (am_gf 11 8 62), none, none, some (am_gf 10 5 65), none]
noncomputable def kr_120_8 : List (Option am_Op) := [none, some (am_cv 57 1 2 68), none, none, some (am_ild 1 69), some (am_br2 .ne 83 72), none, none]
noncomputable def kr_120_9 : List (Option am_Op) := [some (am_ild 2 73), some (am_psh (.retAddr 1) 74), some (am_psh (.retAddr 4) 75), some (am_ild 3 76), some (am_bin am_mul 77), some (am_ild 4 79), none, some (am_bin am_add 80)]
noncomputable def kr_120_10 : List (Option am_Op) := [some (am_bin am_shl 81), some (am_bin Nat.lor 82), some (am_ist 2 83), some (am_inc 4 1 86), none, none, some (am_jmp 21), none]
noncomputable def kr_120_11 : List (Option am_Op) := [none, some (am_inc 3 1 92), none, none, some (am_jmp 13), none, none, some (am_ild 2 96)]
noncomputable def kr_120_12 : List (Option am_Op) := [some (am_iret)]
noncomputable def cd_120 : am_Cd := [kr_120_0, kr_120_1, kr_120_2, kr_120_3, kr_120_4, kr_120_5, kr_120_6, kr_120_7, kr_120_8, kr_120_9, kr_120_10, kr_120_11, kr_120_12]
theorem dd_120_0 : decode prog_1_method_23_code 0 = .ok (.iload_n 1, 1) := by decide +kernel
theorem dd_120_1 : decode prog_1_method_23_code 1 = .ok (.invokestatic 146, 3) := by decide +kernel
theorem dd_120_4 : decode prog_1_method_23_code 4 = .ok (.ifCond .ne 5, 3) := by decide +kernel
theorem dd_120_7 : decode prog_1_method_23_code 7 = .ok (.iconst (-1), 1) := by decide +kernel
theorem dd_120_8 : decode prog_1_method_23_code 8 = .ok (.ireturn, 1) := by decide +kernel
theorem dd_120_9 : decode prog_1_method_23_code 9 = .ok (.iconst 0, 1) := by decide +kernel
theorem dd_120_10 : decode prog_1_method_23_code 10 = .ok (.istore_n 2, 1) := by decide +kernel
theorem dd_120_11 : decode prog_1_method_23_code 11 = .ok (.iconst 0, 1) := by decide +kernel
theorem dd_120_12 : decode prog_1_method_23_code 12 = .ok (.istore_n 3, 1) := by decide +kernel
theorem dd_120_13 : decode prog_1_method_23_code 13 = .ok (.iload_n 3, 1) := by decide +kernel
theorem dd_120_14 : decode prog_1_method_23_code 14 = .ok (.iconst 4, 1) := by decide +kernel
theorem dd_120_15 : decode prog_1_method_23_code 15 = .ok (.if_icmp .ge 80, 3) := by decide +kernel
theorem dd_120_18 : decode prog_1_method_23_code 18 = .ok (.iconst 0, 1) := by decide +kernel
theorem dd_120_19 : decode prog_1_method_23_code 19 = .ok (.istore 4, 2) := by decide +kernel
theorem dd_120_21 : decode prog_1_method_23_code 21 = .ok (.iload 4, 2) := by decide +kernel
theorem dd_120_23 : decode prog_1_method_23_code 23 = .ok (.aload_n 0, 1) := by decide +kernel
theorem dd_120_24 : decode prog_1_method_23_code 24 = .ok (.getfield 27, 3) := by decide +kernel
theorem dd_120_27 : decode prog_1_method_23_code 27 = .ok (.getfield 119, 3) := by decide +kernel
theorem dd_120_30 : decode prog_1_method_23_code 30 = .ok (.getfield 123, 3) := by decide +kernel
theorem dd_120_33 : decode prog_1_method_23_code 33 = .ok (.if_icmp .ge 56, 3) := by decide +kernel
theorem dd_120_36 : decode prog_1_method_23_code 36 = .ok (.aload_n 0, 1) := by decide +kernel
theorem dd_120_37 : decode prog_1_method_23_code 37 = .ok (.getfield 54, 3) := by decide +kernel
theorem dd_120_40 : decode prog_1_method_23_code 40 = .ok (.aload_n 0, 1) := by decide +kernel
theorem dd_120_41 : decode prog_1_method_23_code 41 = .ok (.getfield 27, 3) := by decide +kernel
theorem dd_120_44 : decode prog_1_method_23_code 44 = .ok (.aload_n 0, 1) := by decide +kernel
theorem dd_120_45 : decode prog_1_method_23_code 45 = .ok (.getfield 44, 3) := by decide +kernel
theorem dd_120_48 : decode prog_1_method_23_code 48 = .ok (.iload_n 3, 1) := by decide +kernel
theorem dd_120_49 : decode prog_1_method_23_code 49 = .ok (.iload 4, 2) := by decide +kernel
theorem dd_120_51 : decode prog_1_method_23_code 51 = .ok (.invokevirtual 267, 3) := by decide +kernel
theorem dd_120_54 : decode prog_1_method_23_code 54 = .ok (.aload_n 0, 1) := by decide +kernel
theorem dd_120_55 : decode prog_1_method_23_code 55 = .ok (.getfield 37, 3) := by decide +kernel
theorem dd_120_58 : decode prog_1_method_23_code 58 = .ok (.aload_n 0, 1) := by decide +kernel
theorem dd_120_59 : decode prog_1_method_23_code 59 = .ok (.getfield 54, 3) := by decide +kernel
theorem dd_120_62 : decode prog_1_method_23_code 62 = .ok (.getfield 169, 3) := by decide +kernel
theorem dd_120_65 : decode prog_1_method_23_code 65 = .ok (.invokevirtual 149, 3) := by decide +kernel
theorem dd_120_68 : decode prog_1_method_23_code 68 = .ok (.iload_n 1, 1) := by decide +kernel
theorem dd_120_69 : decode prog_1_method_23_code 69 = .ok (.if_icmp .ne 14, 3) := by decide +kernel
theorem dd_120_72 : decode prog_1_method_23_code 72 = .ok (.iload_n 2, 1) := by decide +kernel
theorem dd_120_73 : decode prog_1_method_23_code 73 = .ok (.iconst 1, 1) := by decide +kernel
theorem dd_120_74 : decode prog_1_method_23_code 74 = .ok (.iconst 4, 1) := by decide +kernel
theorem dd_120_75 : decode prog_1_method_23_code 75 = .ok (.iload_n 3, 1) := by decide +kernel
theorem dd_120_76 : decode prog_1_method_23_code 76 = .ok (.imul, 1) := by decide +kernel
theorem dd_120_77 : decode prog_1_method_23_code 77 = .ok (.iload 4, 2) := by decide +kernel
theorem dd_120_79 : decode prog_1_method_23_code 79 = .ok (.iadd, 1) := by decide +kernel
theorem dd_120_80 : decode prog_1_method_23_code 80 = .ok (.ishl, 1) := by decide +kernel
theorem dd_120_81 : decode prog_1_method_23_code 81 = .ok (.ior, 1) := by decide +kernel
theorem dd_120_82 : decode prog_1_method_23_code 82 = .ok (.istore_n 2, 1) := by decide +kernel
theorem dd_120_83 : decode prog_1_method_23_code 83 = .ok (.iinc 4 1, 3) := by decide +kernel
theorem dd_120_86 : decode prog_1_method_23_code 86 = .ok (.goto (-65), 3) := by decide +kernel
theorem dd_120_89 : decode prog_1_method_23_code 89 = .ok (.iinc 3 1, 3) := by decide +kernel
theorem dd_120_92 : decode prog_1_method_23_code 92 = .ok (.goto (-79), 3) := by decide +kernel
theorem dd_120_95 : decode prog_1_method_23_code 95 = .ok (.iload_n 2, 1) := by decide +kernel
theorem dd_120_96 : decode prog_1_method_23_code 96 = .ok (.ireturn, 1) := by decide +kernel
theorem kb_120_0 : am_row mi_120 0 kr_120_0 := am_rs rfl (ok_iload_n (k := 1) dd_120_0 rfl rfl) (am_rs rfl (ok_cs (M' := mi_56) dd_120_1 rfl rfl w_605 w_606 ⟨lk_56.1, lk_56.2.1, lk_56.2.2, by decide, by decide⟩) (am_rn rfl (am_rn rfl (am_rs rfl (ok_ifc dd_120_4 (by decide) rfl) (am_rn rfl (am_rn rfl (am_rs rfl (ok_iconst dd_120_7 ic_m1 rfl) (am_rz))))))))
theorem kb_120_1 : am_row mi_120 8 kr_120_1 := am_rs rfl (ok_iret dd_120_8 rfl) (am_rs rfl (ok_iconst dd_120_9 ic_0 rfl) (am_rs rfl (ok_istore_n (k := 2) dd_120_10 rfl rfl (by decide)) (am_rs rfl (ok_iconst dd_120_11 ic_0 rfl) (am_rs rfl (ok_istore_n (k := 3) dd_120_12 rfl rfl (by decide)) (am_rs rfl (ok_iload_n (k := 3) dd_120_13 rfl rfl) (am_rs rfl (ok_iconst dd_120_14 ic_4 rfl) (am_rs rfl (ok_icmp dd_120_15 (by decide) rfl) (am_rz))))))))
theorem kb_120_2 : am_row mi_120 16 kr_120_2 := am_rn rfl (am_rn rfl (am_rs rfl (ok_iconst dd_120_18 ic_0 rfl) (am_rs rfl (ok_istore dd_120_19 rfl (by decide)) (am_rn rfl (am_rs rfl (ok_iload dd_120_21 rfl) (am_rn rfl (am_rs rfl (ok_aload_n (k := 0) dd_120_23 rfl rfl) (am_rz))))))))
theorem kb_120_3 : am_row mi_120 24 kr_120_3 := am_rs rfl (ok_gf dd_120_24 rfl am_ck11 (by decide) (Or.inl w_514)) (am_rn rfl (am_rn rfl (am_rs rfl (ok_gf dd_120_27 rfl am_ck1 (by decide) (Or.inr ⟨_, w_84⟩)) (am_rn rfl (am_rn rfl (am_rs rfl (ok_gf dd_120_30 rfl am_ck8 (by decide) (Or.inr ⟨_, w_67⟩)) (am_rn rfl (am_rz))))))))
theorem kb_120_4 : am_row mi_120 32 kr_120_4 := am_rn rfl (am_rs rfl (ok_icmp dd_120_33 (by decide) rfl) (am_rn rfl (am_rn rfl (am_rs rfl (ok_aload_n (k := 0) dd_120_36 rfl rfl) (am_rs rfl (ok_gf dd_120_37 rfl am_ck11 (by decide) (Or.inl w_519)) (am_rn rfl (am_rn rfl (am_rz))))))))
theorem kb_120_5 : am_row mi_120 40 kr_120_5 := am_rs rfl (ok_aload_n (k := 0) dd_120_40 rfl rfl) (am_rs rfl (ok_gf dd_120_41 rfl am_ck11 (by decide) (Or.inl w_514)) (am_rn rfl (am_rn rfl (am_rs rfl (ok_aload_n (k := 0) dd_120_44 rfl rfl) (am_rs rfl (ok_gf dd_120_45 rfl am_ck11 (by decide) (Or.inl w_517)) (am_rn rfl (am_rn rfl (am_rz))))))))
theorem kb_120_6 : am_row mi_120 48 kr_120_6 := am_rs rfl (ok_iload_n (k := 3) dd_120_48 rfl rfl) (am_rs rfl (ok_iload dd_120_49 rfl) (am_rn rfl (am_rs rfl (ok_cv (M' := mi_71) dd_120_51 rfl rfl w_667 w_668 w_669 ⟨lk_71.1, lk_71.2.1, lk_71.2.2, by decide, by decide⟩ rfl) (am_rn rfl (am_rn rfl (am_rs rfl (ok_aload_n (k := 0) dd_120_54 rfl rfl) (am_rs rfl (ok_gf dd_120_55 rfl am_ck11 (by decide) (Or.inl w_516)) (am_rz))))))))
theorem kb_120_7 : am_row mi_120 56 kr_120_7 := am_rn rfl (am_rn rfl (am_rs rfl (ok_aload_n (k := 0) dd_120_58 rfl rfl) (am_rs rfl (ok_gf dd_120_59 rfl am_ck11 (by decide) (Or.inl w_519)) (am_rn rfl (am_rn rfl (am_rs rfl (ok_gf dd_120_62 rfl am_ck10 (by decide) (Or.inr ⟨_, w_176⟩)) (am_rn rfl (am_rz))))))))
theorem kb_120_8 : am_row mi_120 64 kr_120_8 := am_rn rfl (am_rs rfl (ok_cv (M' := mi_57) dd_120_65 rfl rfl w_608 w_609 w_610 ⟨lk_57.1, lk_57.2.1, lk_57.2.2, by decide, by decide⟩ rfl) (am_rn rfl (am_rn rfl (am_rs rfl (ok_iload_n (k := 1) dd_120_68 rfl rfl) (am_rs rfl (ok_icmp dd_120_69 (by decide) rfl) (am_rn rfl (am_rn rfl (am_rz))))))))
theorem kb_120_9 : am_row mi_120 72 kr_120_9 := am_rs rfl (ok_iload_n (k := 2) dd_120_72 rfl rfl) (am_rs rfl (ok_iconst dd_120_73 ic_1 rfl) (am_rs rfl (ok_iconst dd_120_74 ic_4 rfl) (am_rs rfl (ok_iload_n (k := 3) dd_120_75 rfl rfl) (am_rs rfl (ok_imul dd_120_76 rfl) (am_rs rfl (ok_iload dd_120_77 rfl) (am_rn rfl (am_rs rfl (ok_iadd dd_120_79 rfl) (am_rz))))))))
theorem kb_120_10 : am_row mi_120 80 kr_120_10 := am_rs rfl (ok_ishl dd_120_80 rfl) (am_rs rfl (ok_ior dd_120_81 rfl) (am_rs rfl (ok_istore_n (k := 2) dd_120_82 rfl rfl (by decide)) (am_rs rfl (ok_iinc dd_120_83 ic_1 rfl (by decide)) (am_rn rfl (am_rn rfl (am_rs rfl (ok_goto dd_120_86 (by decide)) (am_rn rfl (am_rz))))))))
theorem kb_120_11 : am_row mi_120 88 kr_120_11 := am_rn rfl (am_rs rfl (ok_iinc dd_120_89 ic_1 rfl (by decide)) (am_rn rfl (am_rn rfl (am_rs rfl (ok_goto dd_120_92 (by decide)) (am_rn rfl (am_rn rfl (am_rs rfl (ok_iload_n (k := 2) dd_120_95 rfl rfl) (am_rz))))))))
theorem kb_120_12 : am_row mi_120 96 kr_120_12 := am_rs rfl (ok_iret dd_120_96 rfl) (am_rz)
theorem ck_120 : am_rows mi_120 0 cd_120 := am_bs rfl kb_120_0 (am_bs rfl kb_120_1 (am_bs rfl kb_120_2 (am_bs rfl kb_120_3 (am_bs rfl kb_120_4 (am_bs rfl kb_120_5 (am_bs rfl kb_120_6 (am_bs rfl kb_120_7 (am_bs rfl kb_120_8 (am_bs rfl kb_120_9 (am_bs rfl kb_120_10 (am_bs rfl kb_120_11 (am_bs rfl kb_120_12 (am_bz)))))))))))))
/-- OverAndBack.matters(I)I -/
noncomputable def kr_121_0 : List (Option am_Op) := [some (am_ald0 0 1), some (am_ild 1 2), some (am_cv 59 1 11 5), none, none, some (am_br1 .ne 10 8), none, none]
noncomputable def kr_121_1 : List (Option am_Op) := [some (am_psh (.retAddr 4294967295) 9), some (am_iret), some (am_ald0 0 11), some (am_ild 1 12), some (am_ald0 0 13), some (am_gf 11 6 16), none, none]
noncomputable def kr_121_2 : List (Option am_Op) := [some (am_cv 60 2 11 19), none, none, some (am_ald0 0 20), some (am_gf 11 8 23), none, none, some (am_gf 10 4 26)]
noncomputable def kr_121_3 : List (Option am_Op) := [none, none, some (am_ist 2 27), some (am_ald0 0 28), some (am_gf 11 5 31), none, none, some (am_ald0 0 32)]
noncomputable def kr_121_4 : List (Option am_Op) := [some (am_gf 11 8 35), none, none, some (am_gf 10 5 38), none, none, some (am_cv 57 1 2 41), none]
noncomputable def kr_121_5 : List (Option am_Op) := [none, some (am_ist 3 42), some (am_psh (.retAddr 0) 43), some (am_ist 4 45), none, some (am_psh (.retAddr 0) 46), some (am_ist 5 48), none]
noncomputable def kr_121_6 : List (Option am_Op) := [some (am_ild 5 50), none, some (am_ald0 0 51), some (am_gf 11 3 54), none, none, some (am_gf 1 1 57), none]
noncomputable def kr_121_7 : List (Option am_Op) := [none, some (am_gf 8 3 60), none, none, some (am_br2 .ge 130 63), none, none, some (am_ald0 0 64)]
noncomputable def kr_121_8 : List (Option am_Op) := [some (am_gf 11 7 67), none, none, some (am_ald0 0 68), some (am_gf 11 3 71), none, none, some (am_psh (.retAddr 0) 72)]
noncomputable def kr_121_9 : List (Option am_Op) := [some (am_ild 5 74), none, some (am_cv 32 3 9 77), none, none, some (am_ald0 0 78), some (am_ild 1 79), some (am_ald0 0 80)]
noncomputable def kr_121_10 : List (Option am_Op) := [some (am_gf 11 7 83), none, none, some (am_cv 60 2 11 86), none, none, some (am_ald0 0 87), some (am_gf 11 8 90)]
noncomputable def kr_121_11 : List (Option am_Op) := [none, none, some (am_gf 10 4 93), none, none, some (am_ild 2 94), some (am_br2 .ne 115 97), none]
noncomputable def kr_121_12 : List (Option am_Op) := [none, some (am_ald0 0 98), some (am_gf 11 5 101), none, none, some (am_ald0 0 102), some (am_gf 11 8 105), none]
noncomputable def kr_121_13 : List (Option am_Op) := [none, some (am_gf 10 5 108), none, none, some (am_cv 57 1 2 111), none, none, some (am_ild 3 112)]
noncomputable def kr_121_14 : List (Option am_Op) := [some (am_br2 .eq 124 115), none, none, some (am_ild 4 117), none, some (am_psh (.retAddr 1) 118), some (am_ild 5 120), none]
noncomputable def kr_121_15 : List (Option am_Op) := [some (am_bin am_shl 121), some (am_bin Nat.lor 122), some (am_ist 4 124), none, some (am_inc 5 1 127), none, none, some (am_jmp 48)]
noncomputable def kr_121_16 : List (Option am_Op) := [none, none, some (am_ild 4 132), none, some (am_iret)]
noncomputable def cd_121 : am_Cd := [kr_121_0, kr_121_1, kr_121_2, kr_121_3, kr_121_4, kr_121_5, kr_121_6, kr_121_7, kr_121_8, kr_121_9, kr_121_10, kr_121_11, kr_121_12, kr_121_13, kr_121_14, kr_121_15, kr_121_16]
theorem dd_121_0 : decode prog_1_method_24_code 0 = .ok (.aload_n 0, 1) := by decide +kernel
theorem dd_121_1 : decode prog_1_method_24_code 1 = .ok (.iload_n 1, 1) := by decide +kernel
theorem dd_121_2 : decode prog_1_method_24_code 2 = .ok (.invokevirtual 153, 3) := by decide +kernel
theorem dd_121_5 : decode prog_1_method_24_code 5 = .ok (.ifCond .ne 5, 3) := by decide +kernel
theorem dd_121_8 : decode prog_1_method_24_code 8 = .ok (.iconst (-1), 1) := by decide +kernel
theorem dd_121_9 : decode prog_1_method_24_code 9 = .ok (.ireturn, 1) := by decide +kernel
theorem dd_121_10 : decode prog_1_method_24_code 10 = .ok (.aload_n 0, 1) := by decide +kernel
theorem dd_121_11 : decode prog_1_method_24_code 11 = .ok (.iload_n 1, 1) := by decide +kernel
theorem dd_121_12 : decode prog_1_method_24_code 12 = .ok (.aload_n 0, 1) := by decide +kernel
theorem dd_121_13 : decode prog_1_method_24_code 13 = .ok (.getfield 44, 3) := by decide +kernel
theorem dd_121_16 : decode prog_1_method_24_code 16 = .ok (.invokevirtual 156, 3) := by decide +kernel
theorem dd_121_19 : decode prog_1_method_24_code 19 = .ok (.aload_n 0, 1) := by decide +kernel
theorem dd_121_20 : decode prog_1_method_24_code 20 = .ok (.getfield 54, 3) := by decide +kernel
theorem dd_121_23 : decode prog_1_method_24_code 23 = .ok (.getfield 166, 3) := by decide +kernel
theorem dd_121_26 : decode prog_1_method_24_code 26 = .ok (.istore_n 2, 1) := by decide +kernel
theorem dd_121_27 : decode prog_1_method_24_code 27 = .ok (.aload_n 0, 1) := by decide +kernel
theorem dd_121_28 : decode prog_1_method_24_code 28 = .ok (.getfield 37, 3) := by decide +kernel
theorem dd_121_31 : decode prog_1_method_24_code 31 = .ok (.aload_n 0, 1) := by decide +kernel
theorem dd_121_32 : decode prog_1_method_24_code 32 = .ok (.getfield 54, 3) := by decide +kernel
theorem dd_121_35 : decode prog_1_method_24_code 35 = .ok (.getfield 169, 3) := by decide +kernel
theorem dd_121_38 : decode prog_1_method_24_code 38 = .ok (.invokevirtual 149, 3) := by decide +kernel
theorem dd_121_41 : decode prog_1_method_24_code 41 = .ok (.istore_n 3, 1) := by decide +kernel
theorem dd_121_42 : decode prog_1_method_24_code 42 = .ok (.iconst 0, 1) := by decide +kernel
theorem dd_121_43 : decode prog_1_method_24_code 43 = .ok (.istore 4, 2) := by decide +kernel
theorem dd_121_45 : decode prog_1_method_24_code 45 = .ok (.iconst 0, 1) := by decide +kernel
theorem dd_121_46 : decode prog_1_method_24_code 46 = .ok (.istore 5, 2) := by decide +kernel
theorem dd_121_48 : decode prog_1_method_24_code 48 = .ok (.iload 5, 2) := by decide +kernel
theorem dd_121_50 : decode prog_1_method_24_code 50 = .ok (.aload_n 0, 1) := by decide +kernel
theorem dd_121_51 : decode prog_1_method_24_code 51 = .ok (.getfield 27, 3) := by decide +kernel
theorem dd_121_54 : decode prog_1_method_24_code 54 = .ok (.getfield 270, 3) := by decide +kernel
theorem dd_121_57 : decode prog_1_method_24_code 57 = .ok (.getfield 123, 3) := by decide +kernel
theorem dd_121_60 : decode prog_1_method_24_code 60 = .ok (.if_icmp .ge 70, 3) := by decide +kernel
theorem dd_121_63 : decode prog_1_method_24_code 63 = .ok (.aload_n 0, 1) := by decide +kernel
theorem dd_121_64 : decode prog_1_method_24_code 64 = .ok (.getfield 48, 3) := by decide +kernel
theorem dd_121_67 : decode prog_1_method_24_code 67 = .ok (.aload_n 0, 1) := by decide +kernel
theorem dd_121_68 : decode prog_1_method_24_code 68 = .ok (.getfield 27, 3) := by decide +kernel
theorem dd_121_71 : decode prog_1_method_24_code 71 = .ok (.iconst 0, 1) := by decide +kernel
theorem dd_121_72 : decode prog_1_method_24_code 72 = .ok (.iload 5, 2) := by decide +kernel
theorem dd_121_74 : decode prog_1_method_24_code 74 = .ok (.invokevirtual 261, 3) := by decide +kernel
theorem dd_121_77 : decode prog_1_method_24_code 77 = .ok (.aload_n 0, 1) := by decide +kernel
theorem dd_121_78 : decode prog_1_method_24_code 78 = .ok (.iload_n 1, 1) := by decide +kernel
theorem dd_121_79 : decode prog_1_method_24_code 79 = .ok (.aload_n 0, 1) := by decide +kernel
theorem dd_121_80 : decode prog_1_method_24_code 80 = .ok (.getfield 48, 3) := by decide +kernel
theorem dd_121_83 : decode prog_1_method_24_code 83 = .ok (.invokevirtual 156, 3) := by decide +kernel
theorem dd_121_86 : decode prog_1_method_24_code 86 = .ok (.aload_n 0, 1) := by decide +kernel
theorem dd_121_87 : decode prog_1_method_24_code 87 = .ok (.getfield 54, 3) := by decide +kernel
theorem dd_121_90 : decode prog_1_method_24_code 90 = .ok (.getfield 166, 3) := by decide +kernel
theorem dd_121_93 : decode prog_1_method_24_code 93 = .ok (.iload_n 2, 1) := by decide +kernel
theorem dd_121_94 : decode prog_1_method_24_code 94 = .ok (.if_icmp .ne 21, 3) := by decide +kernel
theorem dd_121_97 : decode prog_1_method_24_code 97 = .ok (.aload_n 0, 1) := by decide +kernel
theorem dd_121_98 : decode prog_1_method_24_code 98 = .ok (.getfield 37, 3) := by decide +kernel
theorem dd_121_101 : decode prog_1_method_24_code 101 = .ok (.aload_n 0, 1) := by decide +kernel
theorem dd_121_102 : decode prog_1_method_24_code 102 = .ok (.getfield 54, 3) := by decide +kernel
theorem dd_121_105 : decode prog_1_method_24_code 105 = .ok (.getfield 169, 3) := by decide +kernel
theorem dd_121_108 : decode prog_1_method_24_code 108 = .ok (.invokevirtual 149, 3) := by decide +kernel
theorem dd_121_111 : decode prog_1_method_24_code 111 = .ok (.iload_n 3, 1) := by decide +kernel
theorem dd_121_112 : decode prog_1_method_24_code 112 = .ok (.if_icmp .eq 12, 3) := by decide +kernel
theorem dd_121_115 : decode prog_1_method_24_code 115 = .ok (.iload 4, 2) := by decide +kernel
theorem dd_121_117 : decode prog_1_method_24_code 117 = .ok (.iconst 1, 1) := by decide +kernel
theorem dd_121_118 : decode prog_1_method_24_code 118 = .ok (.iload 5, 2) := by decide +kernel
theorem dd_121_120 : decode prog_1_method_24_code 120 = .ok (.ishl, 1) := by decide +kernel
theorem dd_121_121 : decode prog_1_method_24_code 121 = .ok (.ior, 1) := by decide +kernel
theorem dd_121_122 : decode prog_1_method_24_code 122 = .ok (.istore 4, 2) := by decide +kernel
theorem dd_121_124 : decode prog_1_method_24_code 124 = .ok (.iinc 5 1, 3) := by decide +kernel
theorem dd_121_127 : decode prog_1_method_24_code 127 = .ok (.goto (-79), 3) := by decide +kernel
theorem dd_121_130 : decode prog_1_method_24_code 130 = .ok (.iload 4, 2) := by decide +kernel
theorem dd_121_132 : decode prog_1_method_24_code 132 = .ok (.ireturn, 1) := by decide +kernel
theorem kb_121_0 : am_row mi_121 0 kr_121_0 := am_rs rfl (ok_aload_n (k := 0) dd_121_0 rfl rfl) (am_rs rfl (ok_iload_n (k := 1) dd_121_1 rfl rfl) (am_rs rfl (ok_cv (M' := mi_59) dd_121_2 rfl rfl w_616 w_618 ps_59 ⟨lk_59.1, lk_59.2.1, lk_59.2.2, by decide, by decide⟩ rfl) (am_rn rfl (am_rn rfl (am_rs rfl (ok_ifc dd_121_5 (by decide) rfl) (am_rn rfl (am_rn rfl (am_rz))))))))
theorem kb_121_1 : am_row mi_121 8 kr_121_1 := am_rs rfl (ok_iconst dd_121_8 ic_m1 rfl) (am_rs rfl (ok_iret dd_121_9 rfl) (am_rs rfl (ok_aload_n (k := 0) dd_121_10 rfl rfl) (am_rs rfl (ok_iload_n (k := 1) dd_121_11 rfl rfl) (am_rs rfl (ok_aload_n (k := 0) dd_121_12 rfl rfl) (am_rs rfl (ok_gf dd_121_13 rfl am_ck11 (by decide) (Or.inl w_517)) (am_rn rfl (am_rn rfl (am_rz))))))))
theorem kb_121_2 : am_row mi_121 16 kr_121_2 := am_rs rfl (ok_cv (M' := mi_60) dd_121_16 rfl rfl w_620 w_622 ps_60 ⟨lk_60.1, lk_60.2.1, lk_60.2.2, by decide, by decide⟩ rfl) (am_rn rfl (am_rn rfl (am_rs rfl (ok_aload_n (k := 0) dd_121_19 rfl rfl) (am_rs rfl (ok_gf dd_121_20 rfl am_ck11 (by decide) (Or.inl w_519)) (am_rn rfl (am_rn rfl (am_rs rfl (ok_gf dd_121_23 rfl am_ck10 (by decide) (Or.inr ⟨_, w_174⟩)) (am_rz))))))))
theorem kb_121_3 : am_row mi_121 24 kr_121_3 := am_rn rfl (am_rn rfl (am_rs rfl (ok_istore_n (k := 2) dd_121_26 rfl rfl (by decide)) (am_rs rfl (ok_aload_n (k := 0) dd_121_27 rfl rfl) (am_rs rfl (ok_gf dd_121_28 rfl am_ck11 (by decide) (Or.inl w_516)) (am_rn rfl (am_rn rfl (am_rs rfl (ok_aload_n (k := 0) dd_121_31 rfl rfl) (am_rz))))))))
theorem kb_121_4 : am_row mi_121 32 kr_121_4 := am_rs rfl (ok_gf dd_121_32 rfl am_ck11 (by decide) (Or.inl w_519)) (am_rn rfl (am_rn rfl (am_rs rfl (ok_gf dd_121_35 rfl am_ck10 (by decide) (Or.inr ⟨_, w_176⟩)) (am_rn rfl (am_rn rfl (am_rs rfl (ok_cv (M' := mi_57) dd_121_38 rfl rfl w_608 w_609 w_610 ⟨lk_57.1, lk_57.2.1, lk_57.2.2, by decide, by decide⟩ rfl) (am_rn rfl (am_rz))))))))
theorem kb_121_5 : am_row mi_121 40 kr_121_5 := am_rn rfl (am_rs rfl (ok_istore_n (k := 3) dd_121_41 rfl rfl (by decide)) (am_rs rfl (ok_iconst dd_121_42 ic_0 rfl) (am_rs rfl (ok_istore dd_121_43 rfl (by decide)) (am_rn rfl (am_rs rfl (ok_iconst dd_121_45 ic_0 rfl) (am_rs rfl (ok_istore dd_121_46 rfl (by decide)) (am_rn rfl (am_rz))))))))
theorem kb_121_6 : am_row mi_121 48 kr_121_6 := am_rs rfl (ok_iload dd_121_48 rfl) (am_rn rfl (am_rs rfl (ok_aload_n (k := 0) dd_121_50 rfl rfl) (am_rs rfl (ok_gf dd_121_51 rfl am_ck11 (by decide) (Or.inl w_514)) (am_rn rfl (am_rn rfl (am_rs rfl (ok_gf dd_121_54 rfl am_ck1 (by decide) (Or.inr ⟨_, w_89⟩)) (am_rn rfl (am_rz))))))))
theorem kb_121_7 : am_row mi_121 56 kr_121_7 := am_rn rfl (am_rs rfl (ok_gf dd_121_57 rfl am_ck8 (by decide) (Or.inr ⟨_, w_67⟩)) (am_rn rfl (am_rn rfl (am_rs rfl (ok_icmp dd_121_60 (by decide) rfl) (am_rn rfl (am_rn rfl (am_rs rfl (ok_aload_n (k := 0) dd_121_63 rfl rfl) (am_rz))))))))
theorem kb_121_8 : am_row mi_121 64 kr_121_8 := am_rs rfl (ok_gf dd_121_64 rfl am_ck11 (by decide) (Or.inl w_518)) (am_rn rfl (am_rn rfl (am_rs rfl (ok_aload_n (k := 0) dd_121_67 rfl rfl) (am_rs rfl (ok_gf dd_121_68 rfl am_ck11 (by decide) (Or.inl w_514)) (am_rn rfl (am_rn rfl (am_rs rfl (ok_iconst dd_121_71 ic_0 rfl) (am_rz))))))))
theorem kb_121_9 : am_row mi_121 72 kr_121_9 := am_rs rfl (ok_iload dd_121_72 rfl) (am_rn rfl (am_rs rfl (ok_cv (M' := mi_32) dd_121_74 rfl rfl w_453 w_454 w_455 ⟨lk_32.1, lk_32.2.1, lk_32.2.2, by decide, by decide⟩ rfl) (am_rn rfl (am_rn rfl (am_rs rfl (ok_aload_n (k := 0) dd_121_77 rfl rfl) (am_rs rfl (ok_iload_n (k := 1) dd_121_78 rfl rfl) (am_rs rfl (ok_aload_n (k := 0) dd_121_79 rfl rfl) (am_rz))))))))
theorem kb_121_10 : am_row mi_121 80 kr_121_10 := am_rs rfl (ok_gf dd_121_80 rfl am_ck11 (by decide) (Or.inl w_518)) (am_rn rfl (am_rn rfl (am_rs rfl (ok_cv (M' := mi_60) dd_121_83 rfl rfl w_620 w_622 ps_60 ⟨lk_60.1, lk_60.2.1, lk_60.2.2, by decide, by decide⟩ rfl) (am_rn rfl (am_rn rfl (am_rs rfl (ok_aload_n (k := 0) dd_121_86 rfl rfl) (am_rs rfl (ok_gf dd_121_87 rfl am_ck11 (by decide) (Or.inl w_519)) (am_rz))))))))
theorem kb_121_11 : am_row mi_121 88 kr_121_11 := am_rn rfl (am_rn rfl (am_rs rfl (ok_gf dd_121_90 rfl am_ck10 (by decide) (Or.inr ⟨_, w_174⟩)) (am_rn rfl (am_rn rfl (am_rs rfl (ok_iload_n (k := 2) dd_121_93 rfl rfl) (am_rs rfl (ok_icmp dd_121_94 (by decide) rfl) (am_rn rfl (am_rz))))))))
theorem kb_121_12 : am_row mi_121 96 kr_121_12 := am_rn rfl (am_rs rfl (ok_aload_n (k := 0) dd_121_97 rfl rfl) (am_rs rfl (ok_gf dd_121_98 rfl am_ck11 (by decide) (Or.inl w_516)) (am_rn rfl (am_rn rfl (am_rs rfl (ok_aload_n (k := 0) dd_121_101 rfl rfl) (am_rs rfl (ok_gf dd_121_102 rfl am_ck11 (by decide) (Or.inl w_519)) (am_rn rfl (am_rz))))))))
theorem kb_121_13 : am_row mi_121 104 kr_121_13 := am_rn rfl (am_rs rfl (ok_gf dd_121_105 rfl am_ck10 (by decide) (Or.inr ⟨_, w_176⟩)) (am_rn rfl (am_rn rfl (am_rs rfl (ok_cv (M' := mi_57) dd_121_108 rfl rfl w_608 w_609 w_610 ⟨lk_57.1, lk_57.2.1, lk_57.2.2, by decide, by decide⟩ rfl) (am_rn rfl (am_rn rfl (am_rs rfl (ok_iload_n (k := 3) dd_121_111 rfl rfl) (am_rz))))))))
theorem kb_121_14 : am_row mi_121 112 kr_121_14 := am_rs rfl (ok_icmp dd_121_112 (by decide) rfl) (am_rn rfl (am_rn rfl (am_rs rfl (ok_iload dd_121_115 rfl) (am_rn rfl (am_rs rfl (ok_iconst dd_121_117 ic_1 rfl) (am_rs rfl (ok_iload dd_121_118 rfl) (am_rn rfl (am_rz))))))))
theorem kb_121_15 : am_row mi_121 120 kr_121_15 := am_rs rfl (ok_ishl dd_121_120 rfl) (am_rs rfl (ok_ior dd_121_121 rfl) (am_rs rfl (ok_istore dd_121_122 rfl (by decide)) (am_rn rfl (am_rs rfl (ok_iinc dd_121_124 ic_1 rfl (by decide)) (am_rn rfl (am_rn rfl (am_rs rfl (ok_goto dd_121_127 (by decide)) (am_rz))))))))
theorem kb_121_16 : am_row mi_121 128 kr_121_16 := am_rn rfl (am_rn rfl (am_rs rfl (ok_iload dd_121_130 rfl) (am_rn rfl (am_rs rfl (ok_iret dd_121_132 rfl) (am_rz)))))
theorem ck_121 : am_rows mi_121 0 cd_121 := am_bs rfl kb_121_0 (am_bs rfl kb_121_1 (am_bs rfl kb_121_2 (am_bs rfl kb_121_3 (am_bs rfl kb_121_4 (am_bs rfl kb_121_5 (am_bs rfl kb_121_6 (am_bs rfl kb_121_7 (am_bs rfl kb_121_8 (am_bs rfl kb_121_9 (am_bs rfl kb_121_10 (am_bs rfl kb_121_11 (am_bs rfl kb_121_12 (am_bs rfl kb_121_13 (am_bs rfl kb_121_14 (am_bs rfl kb_121_15 (am_bs rfl kb_121_16 (am_bz)))))))))))))))))
/-- OverAndBack.night(III)I -/
noncomputable def kr_122_0 : List (Option am_Op) := [some (am_ild 1 1), some (am_br1 .lt 28 4), none, none, some (am_ild 1 5), some (am_psh (.retAddr 10000) 8), none, none]
noncomputable def kr_122_1 : List (Option am_Op) := [some (am_br2 .ge 28 11), none, none, some (am_ald0 0 12), some (am_ild 2 13), some (am_cv 59 1 11 16), none, none]
noncomputable def kr_122_2 : List (Option am_Op) := [some (am_br1 .eq 28 19), none, none, some (am_ild 3 20), some (am_br1 .lt 28 23), none, none, some (am_ild 3 24)]
noncomputable def kr_122_3 : List (Option am_Op) := [some (am_psh (.retAddr 1) 25), some (am_br2 .le 30 28), none, none, some (am_psh (.retAddr 4294967295) 29), some (am_iret), some (am_ald0 0 31), some (am_gf 11 7 34)]
noncomputable def kr_122_4 : List (Option am_Op) := [none, none, some (am_ald0 0 35), some (am_gf 11 3 38), none, none, some (am_ild 1 39), some (am_cv 123 2 9 42)]
noncomputable def kr_122_5 : List (Option am_Op) := [none, none, some (am_ald0 0 43), some (am_ild 2 44), some (am_ald0 0 45), some (am_gf 11 7 48), none, none]
noncomputable def kr_122_6 : List (Option am_Op) := [some (am_cv 60 2 11 51), none, none, some (am_ild 3 52), some (am_br1 .ne 65 55), none, none, some (am_ald0 0 56)]
noncomputable def kr_122_7 : List (Option am_Op) := [some (am_gf 11 8 59), none, none, some (am_gf 10 4 62), none, none, some (am_jmp 72), none]
noncomputable def kr_122_8 : List (Option am_Op) := [none, some (am_ald0 0 66), some (am_gf 11 8 69), none, none, some (am_gf 10 6 72), none, none]
noncomputable def kr_122_9 : List (Option am_Op) := [some (am_iret)]
noncomputable def cd_122 : am_Cd := [kr_122_0, kr_122_1, kr_122_2, kr_122_3, kr_122_4, kr_122_5, kr_122_6, kr_122_7, kr_122_8, kr_122_9]
theorem dd_122_0 : decode prog_1_method_25_code 0 = .ok (.iload_n 1, 1) := by decide +kernel
theorem dd_122_1 : decode prog_1_method_25_code 1 = .ok (.ifCond .lt 27, 3) := by decide +kernel
theorem dd_122_4 : decode prog_1_method_25_code 4 = .ok (.iload_n 1, 1) := by decide +kernel
theorem dd_122_5 : decode prog_1_method_25_code 5 = .ok (.sipush 10000, 3) := by decide +kernel
theorem dd_122_8 : decode prog_1_method_25_code 8 = .ok (.if_icmp .ge 20, 3) := by decide +kernel
theorem dd_122_11 : decode prog_1_method_25_code 11 = .ok (.aload_n 0, 1) := by decide +kernel
theorem dd_122_12 : decode prog_1_method_25_code 12 = .ok (.iload_n 2, 1) := by decide +kernel
theorem dd_122_13 : decode prog_1_method_25_code 13 = .ok (.invokevirtual 153, 3) := by decide +kernel
theorem dd_122_16 : decode prog_1_method_25_code 16 = .ok (.ifCond .eq 12, 3) := by decide +kernel
theorem dd_122_19 : decode prog_1_method_25_code 19 = .ok (.iload_n 3, 1) := by decide +kernel
theorem dd_122_20 : decode prog_1_method_25_code 20 = .ok (.ifCond .lt 8, 3) := by decide +kernel
theorem dd_122_23 : decode prog_1_method_25_code 23 = .ok (.iload_n 3, 1) := by decide +kernel
theorem dd_122_24 : decode prog_1_method_25_code 24 = .ok (.iconst 1, 1) := by decide +kernel
theorem dd_122_25 : decode prog_1_method_25_code 25 = .ok (.if_icmp .le 5, 3) := by decide +kernel
theorem dd_122_28 : decode prog_1_method_25_code 28 = .ok (.iconst (-1), 1) := by decide +kernel
theorem dd_122_29 : decode prog_1_method_25_code 29 = .ok (.ireturn, 1) := by decide +kernel
theorem dd_122_30 : decode prog_1_method_25_code 30 = .ok (.aload_n 0, 1) := by decide +kernel
theorem dd_122_31 : decode prog_1_method_25_code 31 = .ok (.getfield 48, 3) := by decide +kernel
theorem dd_122_34 : decode prog_1_method_25_code 34 = .ok (.aload_n 0, 1) := by decide +kernel
theorem dd_122_35 : decode prog_1_method_25_code 35 = .ok (.getfield 27, 3) := by decide +kernel
theorem dd_122_38 : decode prog_1_method_25_code 38 = .ok (.iload_n 1, 1) := by decide +kernel
theorem dd_122_39 : decode prog_1_method_25_code 39 = .ok (.invokevirtual 273, 3) := by decide +kernel
theorem dd_122_42 : decode prog_1_method_25_code 42 = .ok (.aload_n 0, 1) := by decide +kernel
theorem dd_122_43 : decode prog_1_method_25_code 43 = .ok (.iload_n 2, 1) := by decide +kernel
theorem dd_122_44 : decode prog_1_method_25_code 44 = .ok (.aload_n 0, 1) := by decide +kernel
theorem dd_122_45 : decode prog_1_method_25_code 45 = .ok (.getfield 48, 3) := by decide +kernel
theorem dd_122_48 : decode prog_1_method_25_code 48 = .ok (.invokevirtual 156, 3) := by decide +kernel
theorem dd_122_51 : decode prog_1_method_25_code 51 = .ok (.iload_n 3, 1) := by decide +kernel
theorem dd_122_52 : decode prog_1_method_25_code 52 = .ok (.ifCond .ne 13, 3) := by decide +kernel
theorem dd_122_55 : decode prog_1_method_25_code 55 = .ok (.aload_n 0, 1) := by decide +kernel
theorem dd_122_56 : decode prog_1_method_25_code 56 = .ok (.getfield 54, 3) := by decide +kernel
theorem dd_122_59 : decode prog_1_method_25_code 59 = .ok (.getfield 166, 3) := by decide +kernel
theorem dd_122_62 : decode prog_1_method_25_code 62 = .ok (.goto 10, 3) := by decide +kernel
theorem dd_122_65 : decode prog_1_method_25_code 65 = .ok (.aload_n 0, 1) := by decide +kernel
theorem dd_122_66 : decode prog_1_method_25_code 66 = .ok (.getfield 54, 3) := by decide +kernel
theorem dd_122_69 : decode prog_1_method_25_code 69 = .ok (.getfield 172, 3) := by decide +kernel
theorem dd_122_72 : decode prog_1_method_25_code 72 = .ok (.ireturn, 1) := by decide +kernel
theorem kb_122_0 : am_row mi_122 0 kr_122_0 := am_rs rfl (ok_iload_n (k := 1) dd_122_0 rfl rfl) (am_rs rfl (ok_ifc dd_122_1 (by decide) rfl) (am_rn rfl (am_rn rfl (am_rs rfl (ok_iload_n (k := 1) dd_122_4 rfl rfl) (am_rs rfl (ok_sipush dd_122_5 si_10000 rfl) (am_rn rfl (am_rn rfl (am_rz))))))))
theorem kb_122_1 : am_row mi_122 8 kr_122_1 := am_rs rfl (ok_icmp dd_122_8 (by decide) rfl) (am_rn rfl (am_rn rfl (am_rs rfl (ok_aload_n (k := 0) dd_122_11 rfl rfl) (am_rs rfl (ok_iload_n (k := 2) dd_122_12 rfl rfl) (am_rs rfl (ok_cv (M' := mi_59) dd_122_13 rfl rfl w_616 w_618 ps_59 ⟨lk_59.1, lk_59.2.1, lk_59.2.2, by decide, by decide⟩ rfl) (am_rn rfl (am_rn rfl (am_rz))))))))
theorem kb_122_2 : am_row mi_122 16 kr_122_2 := am_rs rfl (ok_ifc dd_122_16 (by decide) rfl) (am_rn rfl (am_rn rfl (am_rs rfl (ok_iload_n (k := 3) dd_122_19 rfl rfl) (am_rs rfl (ok_ifc dd_122_20 (by decide) rfl) (am_rn rfl (am_rn rfl (am_rs rfl (ok_iload_n (k := 3) dd_122_23 rfl rfl) (am_rz))))))))
theorem kb_122_3 : am_row mi_122 24 kr_122_3 := am_rs rfl (ok_iconst dd_122_24 ic_1 rfl) (am_rs rfl (ok_icmp dd_122_25 (by decide) rfl) (am_rn rfl (am_rn rfl (am_rs rfl (ok_iconst dd_122_28 ic_m1 rfl) (am_rs rfl (ok_iret dd_122_29 rfl) (am_rs rfl (ok_aload_n (k := 0) dd_122_30 rfl rfl) (am_rs rfl (ok_gf dd_122_31 rfl am_ck11 (by decide) (Or.inl w_518)) (am_rz))))))))
theorem kb_122_4 : am_row mi_122 32 kr_122_4 := am_rn rfl (am_rn rfl (am_rs rfl (ok_aload_n (k := 0) dd_122_34 rfl rfl) (am_rs rfl (ok_gf dd_122_35 rfl am_ck11 (by decide) (Or.inl w_514)) (am_rn rfl (am_rn rfl (am_rs rfl (ok_iload_n (k := 1) dd_122_38 rfl rfl) (am_rs rfl (ok_cv (M' := mi_123) dd_122_39 rfl rfl w_889 w_890 w_891 ⟨lk_123.1, lk_123.2.1, lk_123.2.2, by decide, by decide⟩ rfl) (am_rz))))))))
theorem kb_122_5 : am_row mi_122 40 kr_122_5 := am_rn rfl (am_rn rfl (am_rs rfl (ok_aload_n (k := 0) dd_122_42 rfl rfl) (am_rs rfl (ok_iload_n (k := 2) dd_122_43 rfl rfl) (am_rs rfl (ok_aload_n (k := 0) dd_122_44 rfl rfl) (am_rs rfl (ok_gf dd_122_45 rfl am_ck11 (by decide) (Or.inl w_518)) (am_rn rfl (am_rn rfl (am_rz))))))))
theorem kb_122_6 : am_row mi_122 48 kr_122_6 := am_rs rfl (ok_cv (M' := mi_60) dd_122_48 rfl rfl w_620 w_622 ps_60 ⟨lk_60.1, lk_60.2.1, lk_60.2.2, by decide, by decide⟩ rfl) (am_rn rfl (am_rn rfl (am_rs rfl (ok_iload_n (k := 3) dd_122_51 rfl rfl) (am_rs rfl (ok_ifc dd_122_52 (by decide) rfl) (am_rn rfl (am_rn rfl (am_rs rfl (ok_aload_n (k := 0) dd_122_55 rfl rfl) (am_rz))))))))
theorem kb_122_7 : am_row mi_122 56 kr_122_7 := am_rs rfl (ok_gf dd_122_56 rfl am_ck11 (by decide) (Or.inl w_519)) (am_rn rfl (am_rn rfl (am_rs rfl (ok_gf dd_122_59 rfl am_ck10 (by decide) (Or.inr ⟨_, w_174⟩)) (am_rn rfl (am_rn rfl (am_rs rfl (ok_goto dd_122_62 (by decide)) (am_rn rfl (am_rz))))))))
theorem kb_122_8 : am_row mi_122 64 kr_122_8 := am_rn rfl (am_rs rfl (ok_aload_n (k := 0) dd_122_65 rfl rfl) (am_rs rfl (ok_gf dd_122_66 rfl am_ck11 (by decide) (Or.inl w_519)) (am_rn rfl (am_rn rfl (am_rs rfl (ok_gf dd_122_69 rfl am_ck10 (by decide) (Or.inr ⟨_, w_178⟩)) (am_rn rfl (am_rn rfl (am_rz))))))))
theorem kb_122_9 : am_row mi_122 72 kr_122_9 := am_rs rfl (ok_iret dd_122_72 rfl) (am_rz)
theorem ck_122 : am_rows mi_122 0 cd_122 := am_bs rfl kb_122_0 (am_bs rfl kb_122_1 (am_bs rfl kb_122_2 (am_bs rfl kb_122_3 (am_bs rfl kb_122_4 (am_bs rfl kb_122_5 (am_bs rfl kb_122_6 (am_bs rfl kb_122_7 (am_bs rfl kb_122_8 (am_bs rfl kb_122_9 (am_bz))))))))))
/-- OverAndBack$Screen.showNight(LOverAndBack$Evening;I)V -/
noncomputable def kr_123_0 : List (Option am_Op) := [some (am_ald0 0 1), some (am_ald0 1 2), some (am_gf 1 0 5), none, none, some (am_cv 33 1 9 8), none, none]
noncomputable def kr_123_1 : List (Option am_Op) := [some (am_ald0 0 9), some (am_ald0 1 10), some (am_gf 1 1 13), none, none, some (am_psh (.retAddr 4294967292) 15), none, some (am_cv 36 2 9 18)]
noncomputable def kr_123_2 : List (Option am_Op) := [none, none, some (am_psh (.retAddr 0) 19), some (am_ist 3 20), some (am_ild 3 21), some (am_ald0 1 22), some (am_gf 1 0 25), none]
noncomputable def kr_123_3 : List (Option am_Op) := [none, some (am_gf 8 3 28), none, none, some (am_br2 .ge 76 31), none, none, some (am_psh (.retAddr 0) 32)]
noncomputable def kr_123_4 : List (Option am_Op) := [some (am_ist 4 34), none, some (am_ild 4 36), none, some (am_ald0 1 37), some (am_gf 1 6 40), none, none]
noncomputable def kr_123_5 : List (Option am_Op) := [some (am_br2 .ge 70 43), none, none, some (am_ild 2 44), some (am_ild 4 46), none, some (am_ild 3 47), some (am_cs 124 3 50)]
noncomputable def kr_123_6 : List (Option am_Op) := [none, none, some (am_br1 .eq 64 53), none, none, some (am_ald0 0 54), some (am_ild 3 55), some (am_ild 4 57)]
noncomputable def kr_123_7 : List (Option am_Op) := [none, some (am_psh (.retAddr 0) 58), some (am_psh (.retAddr 8) 60), none, some (am_psh (.retAddr 1) 61), some (am_cv 34 5 9 64), none, none]
noncomputable def kr_123_8 : List (Option am_Op) := [some (am_inc 4 1 67), none, none, some (am_jmp 34), none, none, some (am_inc 3 1 73), none]
noncomputable def kr_123_9 : List (Option am_Op) := [none, some (am_jmp 20), none, none, some (am_vret)]
noncomputable def cd_123 : am_Cd := [kr_123_0, kr_123_1, kr_123_2, kr_123_3, kr_123_4, kr_123_5, kr_123_6, kr_123_7, kr_123_8, kr_123_9]
theorem dd_123_0 : decode prog_11_method_3_code 0 = .ok (.aload_n 0, 1) := by decide +kernel
theorem dd_123_1 : decode prog_11_method_3_code 1 = .ok (.aload_n 1, 1) := by decide +kernel
theorem dd_123_2 : decode prog_11_method_3_code 2 = .ok (.getfield 21, 3) := by decide +kernel
theorem dd_123_5 : decode prog_11_method_3_code 5 = .ok (.invokevirtual 27, 3) := by decide +kernel
theorem dd_123_8 : decode prog_11_method_3_code 8 = .ok (.aload_n 0, 1) := by decide +kernel
theorem dd_123_9 : decode prog_11_method_3_code 9 = .ok (.aload_n 1, 1) := by decide +kernel
theorem dd_123_10 : decode prog_11_method_3_code 10 = .ok (.getfield 31, 3) := by decide +kernel
theorem dd_123_13 : decode prog_11_method_3_code 13 = .ok (.bipush (-4), 2) := by decide +kernel
theorem dd_123_15 : decode prog_11_method_3_code 15 = .ok (.invokevirtual 34, 3) := by decide +kernel
theorem dd_123_18 : decode prog_11_method_3_code 18 = .ok (.iconst 0, 1) := by decide +kernel
theorem dd_123_19 : decode prog_11_method_3_code 19 = .ok (.istore_n 3, 1) := by decide +kernel
theorem dd_123_20 : decode prog_11_method_3_code 20 = .ok (.iload_n 3, 1) := by decide +kernel
theorem dd_123_21 : decode prog_11_method_3_code 21 = .ok (.aload_n 1, 1) := by decide +kernel
theorem dd_123_22 : decode prog_11_method_3_code 22 = .ok (.getfield 21, 3) := by decide +kernel
theorem dd_123_25 : decode prog_11_method_3_code 25 = .ok (.getfield 41, 3) := by decide +kernel
theorem dd_123_28 : decode prog_11_method_3_code 28 = .ok (.if_icmp .ge 48, 3) := by decide +kernel
theorem dd_123_31 : decode prog_11_method_3_code 31 = .ok (.iconst 0, 1) := by decide +kernel
theorem dd_123_32 : decode prog_11_method_3_code 32 = .ok (.istore 4, 2) := by decide +kernel
theorem dd_123_34 : decode prog_11_method_3_code 34 = .ok (.iload 4, 2) := by decide +kernel
theorem dd_123_36 : decode prog_11_method_3_code 36 = .ok (.aload_n 1, 1) := by decide +kernel
theorem dd_123_37 : decode prog_11_method_3_code 37 = .ok (.getfield 53, 3) := by decide +kernel
theorem dd_123_40 : decode prog_11_method_3_code 40 = .ok (.if_icmp .ge 30, 3) := by decide +kernel
theorem dd_123_43 : decode prog_11_method_3_code 43 = .ok (.iload_n 2, 1) := by decide +kernel
theorem dd_123_44 : decode prog_11_method_3_code 44 = .ok (.iload 4, 2) := by decide +kernel
theorem dd_123_46 : decode prog_11_method_3_code 46 = .ok (.iload_n 3, 1) := by decide +kernel
theorem dd_123_47 : decode prog_11_method_3_code 47 = .ok (.invokestatic 56, 3) := by decide +kernel
theorem dd_123_50 : decode prog_11_method_3_code 50 = .ok (.ifCond .eq 14, 3) := by decide +kernel
theorem dd_123_53 : decode prog_11_method_3_code 53 = .ok (.aload_n 0, 1) := by decide +kernel
theorem dd_123_54 : decode prog_11_method_3_code 54 = .ok (.iload_n 3, 1) := by decide +kernel
theorem dd_123_55 : decode prog_11_method_3_code 55 = .ok (.iload 4, 2) := by decide +kernel
theorem dd_123_57 : decode prog_11_method_3_code 57 = .ok (.iconst 0, 1) := by decide +kernel
theorem dd_123_58 : decode prog_11_method_3_code 58 = .ok (.bipush 8, 2) := by decide +kernel
theorem dd_123_60 : decode prog_11_method_3_code 60 = .ok (.iconst 1, 1) := by decide +kernel
theorem dd_123_61 : decode prog_11_method_3_code 61 = .ok (.invokevirtual 60, 3) := by decide +kernel
theorem dd_123_64 : decode prog_11_method_3_code 64 = .ok (.iinc 4 1, 3) := by decide +kernel
theorem dd_123_67 : decode prog_11_method_3_code 67 = .ok (.goto (-33), 3) := by decide +kernel
theorem dd_123_70 : decode prog_11_method_3_code 70 = .ok (.iinc 3 1, 3) := by decide +kernel
theorem dd_123_73 : decode prog_11_method_3_code 73 = .ok (.goto (-53), 3) := by decide +kernel
theorem dd_123_76 : decode prog_11_method_3_code 76 = .ok (.return_, 1) := by decide +kernel
theorem kb_123_0 : am_row mi_123 0 kr_123_0 := am_rs rfl (ok_aload_n (k := 0) dd_123_0 rfl rfl) (am_rs rfl (ok_aload_n (k := 1) dd_123_1 rfl rfl) (am_rs rfl (ok_gf dd_123_2 rfl am_ck1 (by decide) (Or.inr ⟨_, w_80⟩)) (am_rn rfl (am_rn rfl (am_rs rfl (ok_cv (M' := mi_33) dd_123_5 rfl rfl w_457 w_459 ps_33 ⟨lk_33.1, lk_33.2.1, lk_33.2.2, by decide, by decide⟩ rfl) (am_rn rfl (am_rn rfl (am_rz))))))))
theorem kb_123_1 : am_row mi_123 8 kr_123_1 := am_rs rfl (ok_aload_n (k := 0) dd_123_8 rfl rfl) (am_rs rfl (ok_aload_n (k := 1) dd_123_9 rfl rfl) (am_rs rfl (ok_gf dd_123_10 rfl am_ck1 (by decide) (Or.inr ⟨_, w_87⟩)) (am_rn rfl (am_rn rfl (am_rs rfl (ok_bipush dd_123_13 bi_m4 rfl) (am_rn rfl (am_rs rfl (ok_cv (M' := mi_36) dd_123_15 rfl rfl w_469 w_471 ps_36 ⟨lk_36.1, lk_36.2.1, lk_36.2.2, by decide, by decide⟩ rfl) (am_rz))))))))
theorem kb_123_2 : am_row mi_123 16 kr_123_2 := am_rn rfl (am_rn rfl (am_rs rfl (ok_iconst dd_123_18 ic_0 rfl) (am_rs rfl (ok_istore_n (k := 3) dd_123_19 rfl rfl (by decide)) (am_rs rfl (ok_iload_n (k := 3) dd_123_20 rfl rfl) (am_rs rfl (ok_aload_n (k := 1) dd_123_21 rfl rfl) (am_rs rfl (ok_gf dd_123_22 rfl am_ck1 (by decide) (Or.inr ⟨_, w_80⟩)) (am_rn rfl (am_rz))))))))
theorem kb_123_3 : am_row mi_123 24 kr_123_3 := am_rn rfl (am_rs rfl (ok_gf dd_123_25 rfl am_ck8 (by decide) (Or.inr ⟨_, w_63⟩)) (am_rn rfl (am_rn rfl (am_rs rfl (ok_icmp dd_123_28 (by decide) rfl) (am_rn rfl (am_rn rfl (am_rs rfl (ok_iconst dd_123_31 ic_0 rfl) (am_rz))))))))
theorem kb_123_4 : am_row mi_123 32 kr_123_4 := am_rs rfl (ok_istore dd_123_32 rfl (by decide)) (am_rn rfl (am_rs rfl (ok_iload dd_123_34 rfl) (am_rn rfl (am_rs rfl (ok_aload_n (k := 1) dd_123_36 rfl rfl) (am_rs rfl (ok_gf dd_123_37 rfl am_ck1 (by decide) (Or.inr ⟨_, w_109⟩)) (am_rn rfl (am_rn rfl (am_rz))))))))
theorem kb_123_5 : am_row mi_123 40 kr_123_5 := am_rs rfl (ok_icmp dd_123_40 (by decide) rfl) (am_rn rfl (am_rn rfl (am_rs rfl (ok_iload_n (k := 2) dd_123_43 rfl rfl) (am_rs rfl (ok_iload dd_123_44 rfl) (am_rn rfl (am_rs rfl (ok_iload_n (k := 3) dd_123_46 rfl rfl) (am_rs rfl (ok_cs (M' := mi_124) dd_123_47 rfl rfl w_893 w_894 ⟨lk_124.1, lk_124.2.1, lk_124.2.2, by decide, by decide⟩) (am_rz))))))))
theorem kb_123_6 : am_row mi_123 48 kr_123_6 := am_rn rfl (am_rn rfl (am_rs rfl (ok_ifc dd_123_50 (by decide) rfl) (am_rn rfl (am_rn rfl (am_rs rfl (ok_aload_n (k := 0) dd_123_53 rfl rfl) (am_rs rfl (ok_iload_n (k := 3) dd_123_54 rfl rfl) (am_rs rfl (ok_iload dd_123_55 rfl) (am_rz))))))))
theorem kb_123_7 : am_row mi_123 56 kr_123_7 := am_rn rfl (am_rs rfl (ok_iconst dd_123_57 ic_0 rfl) (am_rs rfl (ok_bipush dd_123_58 bi_8 rfl) (am_rn rfl (am_rs rfl (ok_iconst dd_123_60 ic_1 rfl) (am_rs rfl (ok_cv (M' := mi_34) dd_123_61 rfl rfl w_462 w_464 ps_34 ⟨lk_34.1, lk_34.2.1, lk_34.2.2, by decide, by decide⟩ rfl) (am_rn rfl (am_rn rfl (am_rz))))))))
theorem kb_123_8 : am_row mi_123 64 kr_123_8 := am_rs rfl (ok_iinc dd_123_64 ic_1 rfl (by decide)) (am_rn rfl (am_rn rfl (am_rs rfl (ok_goto dd_123_67 (by decide)) (am_rn rfl (am_rn rfl (am_rs rfl (ok_iinc dd_123_70 ic_1 rfl (by decide)) (am_rn rfl (am_rz))))))))
theorem kb_123_9 : am_row mi_123 72 kr_123_9 := am_rn rfl (am_rs rfl (ok_goto dd_123_73 (by decide)) (am_rn rfl (am_rn rfl (am_rs rfl (ok_vret dd_123_76 rfl) (am_rz)))))
theorem ck_123 : am_rows mi_123 0 cd_123 := am_bs rfl kb_123_0 (am_bs rfl kb_123_1 (am_bs rfl kb_123_2 (am_bs rfl kb_123_3 (am_bs rfl kb_123_4 (am_bs rfl kb_123_5 (am_bs rfl kb_123_6 (am_bs rfl kb_123_7 (am_bs rfl kb_123_8 (am_bs rfl kb_123_9 (am_bz))))))))))
/-- OverAndBack$Screen.isDrawn(III)Z -/
noncomputable def kr_124_0 : List (Option am_Op) := [some (am_psh (.long 7919) 3), none, none, some (am_ild 0 4), some (am_i2l 5), some (am_lbin (fun a b => a * b) 6), some (am_psh (.long 6151) 9), none]
noncomputable def kr_124_1 : List (Option am_Op) := [none, some (am_ild 1 10), some (am_i2l 11), some (am_lbin (fun a b => a * b) 12), some (am_lbin (fun a b => a + b) 13), some (am_psh (.long 3571) 16), none, none]
noncomputable def kr_124_2 : List (Option am_Op) := [some (am_ild 2 17), some (am_i2l 18), some (am_lbin (fun a b => a * b) 19), some (am_lbin (fun a b => a + b) 20), some (am_psh (.long 1) 21), some (am_lbin (fun a b => a + b) 22), some (am_lst 3 23), some (am_lld 3 24)]
noncomputable def kr_124_3 : List (Option am_Op) := [some (am_lld 3 25), some (am_lbin (fun a b => a * b) 26), some (am_psh (.long 65521) 29), none, none, some (am_lrm 30), some (am_psh (.long 4) 33), none]
noncomputable def kr_124_4 : List (Option am_Op) := [none, some (am_lrm 34), some (am_psh (.long 0) 35), some (am_lcp 36), some (am_br1 .ne 43 39), none, none, some (am_psh (.retAddr 1) 40)]
noncomputable def kr_124_5 : List (Option am_Op) := [some (am_jmp 44), none, none, some (am_psh (.retAddr 0) 44), some (am_zret)]
noncomputable def cd_124 : am_Cd := [kr_124_0, kr_124_1, kr_124_2, kr_124_3, kr_124_4, kr_124_5]
theorem dd_124_0 : decode prog_11_method_4_code 0 = .ok (.ldc2_w 64, 3) := by decide +kernel
theorem dd_124_3 : decode prog_11_method_4_code 3 = .ok (.iload_n 0, 1) := by decide +kernel
theorem dd_124_4 : decode prog_11_method_4_code 4 = .ok (.i2l, 1) := by decide +kernel
theorem dd_124_5 : decode prog_11_method_4_code 5 = .ok (.lmul, 1) := by decide +kernel
theorem dd_124_6 : decode prog_11_method_4_code 6 = .ok (.ldc2_w 66, 3) := by decide +kernel
theorem dd_124_9 : decode prog_11_method_4_code 9 = .ok (.iload_n 1, 1) := by decide +kernel
theorem dd_124_10 : decode prog_11_method_4_code 10 = .ok (.i2l, 1) := by decide +kernel
theorem dd_124_11 : decode prog_11_method_4_code 11 = .ok (.lmul, 1) := by decide +kernel
theorem dd_124_12 : decode prog_11_method_4_code 12 = .ok (.ladd, 1) := by decide +kernel
theorem dd_124_13 : decode prog_11_method_4_code 13 = .ok (.ldc2_w 68, 3) := by decide +kernel
theorem dd_124_16 : decode prog_11_method_4_code 16 = .ok (.iload_n 2, 1) := by decide +kernel
theorem dd_124_17 : decode prog_11_method_4_code 17 = .ok (.i2l, 1) := by decide +kernel
theorem dd_124_18 : decode prog_11_method_4_code 18 = .ok (.lmul, 1) := by decide +kernel
theorem dd_124_19 : decode prog_11_method_4_code 19 = .ok (.ladd, 1) := by decide +kernel
theorem dd_124_20 : decode prog_11_method_4_code 20 = .ok (.lconst 1, 1) := by decide +kernel
theorem dd_124_21 : decode prog_11_method_4_code 21 = .ok (.ladd, 1) := by decide +kernel
theorem dd_124_22 : decode prog_11_method_4_code 22 = .ok (.lstore_n 3, 1) := by decide +kernel
theorem dd_124_23 : decode prog_11_method_4_code 23 = .ok (.lload_n 3, 1) := by decide +kernel
theorem dd_124_24 : decode prog_11_method_4_code 24 = .ok (.lload_n 3, 1) := by decide +kernel
theorem dd_124_25 : decode prog_11_method_4_code 25 = .ok (.lmul, 1) := by decide +kernel
theorem dd_124_26 : decode prog_11_method_4_code 26 = .ok (.ldc2_w 70, 3) := by decide +kernel
theorem dd_124_29 : decode prog_11_method_4_code 29 = .ok (.lrem, 1) := by decide +kernel
theorem dd_124_30 : decode prog_11_method_4_code 30 = .ok (.ldc2_w 72, 3) := by decide +kernel
theorem dd_124_33 : decode prog_11_method_4_code 33 = .ok (.lrem, 1) := by decide +kernel
theorem dd_124_34 : decode prog_11_method_4_code 34 = .ok (.lconst 0, 1) := by decide +kernel
theorem dd_124_35 : decode prog_11_method_4_code 35 = .ok (.lcmp, 1) := by decide +kernel
theorem dd_124_36 : decode prog_11_method_4_code 36 = .ok (.ifCond .ne 7, 3) := by decide +kernel
theorem dd_124_39 : decode prog_11_method_4_code 39 = .ok (.iconst 1, 1) := by decide +kernel
theorem dd_124_40 : decode prog_11_method_4_code 40 = .ok (.goto 4, 3) := by decide +kernel
theorem dd_124_43 : decode prog_11_method_4_code 43 = .ok (.iconst 0, 1) := by decide +kernel
theorem dd_124_44 : decode prog_11_method_4_code 44 = .ok (.ireturn, 1) := by decide +kernel
theorem kb_124_0 : am_row mi_124 0 kr_124_0 := am_rs rfl (ok_ldc2 dd_124_0 w_896 rfl) (am_rn rfl (am_rn rfl (am_rs rfl (ok_iload_n (k := 0) dd_124_3 rfl rfl) (am_rs rfl (ok_i2l dd_124_4 rfl) (am_rs rfl (ok_lmul dd_124_5 rfl) (am_rs rfl (ok_ldc2 dd_124_6 w_897 rfl) (am_rn rfl (am_rz))))))))
theorem kb_124_1 : am_row mi_124 8 kr_124_1 := am_rn rfl (am_rs rfl (ok_iload_n (k := 1) dd_124_9 rfl rfl) (am_rs rfl (ok_i2l dd_124_10 rfl) (am_rs rfl (ok_lmul dd_124_11 rfl) (am_rs rfl (ok_ladd dd_124_12 rfl) (am_rs rfl (ok_ldc2 dd_124_13 w_898 rfl) (am_rn rfl (am_rn rfl (am_rz))))))))
theorem kb_124_2 : am_row mi_124 16 kr_124_2 := am_rs rfl (ok_iload_n (k := 2) dd_124_16 rfl rfl) (am_rs rfl (ok_i2l dd_124_17 rfl) (am_rs rfl (ok_lmul dd_124_18 rfl) (am_rs rfl (ok_ladd dd_124_19 rfl) (am_rs rfl (ok_lconst (d := 1) dd_124_20 (by decide +kernel) rfl) (am_rs rfl (ok_ladd dd_124_21 rfl) (am_rs rfl (ok_lstore_n (k := 3) dd_124_22 rfl rfl (by decide)) (am_rs rfl (ok_lload_n (k := 3) dd_124_23 rfl rfl) (am_rz))))))))
theorem kb_124_3 : am_row mi_124 24 kr_124_3 := am_rs rfl (ok_lload_n (k := 3) dd_124_24 rfl rfl) (am_rs rfl (ok_lmul dd_124_25 rfl) (am_rs rfl (ok_ldc2 dd_124_26 w_899 rfl) (am_rn rfl (am_rn rfl (am_rs rfl (ok_lrem dd_124_29 rfl) (am_rs rfl (ok_ldc2 dd_124_30 w_900 rfl) (am_rn rfl (am_rz))))))))
theorem kb_124_4 : am_row mi_124 32 kr_124_4 := am_rn rfl (am_rs rfl (ok_lrem dd_124_33 rfl) (am_rs rfl (ok_lconst (d := 0) dd_124_34 (by decide +kernel) rfl) (am_rs rfl (ok_lcmp dd_124_35 rfl) (am_rs rfl (ok_ifc dd_124_36 (by decide) rfl) (am_rn rfl (am_rn rfl (am_rs rfl (ok_iconst dd_124_39 ic_1 rfl) (am_rz))))))))
theorem kb_124_5 : am_row mi_124 40 kr_124_5 := am_rs rfl (ok_goto dd_124_40 (by decide)) (am_rn rfl (am_rn rfl (am_rs rfl (ok_iconst dd_124_43 ic_0 rfl) (am_rs rfl (ok_zret dd_124_44 rfl) (am_rz)))))
theorem ck_124 : am_rows mi_124 0 cd_124 := am_bs rfl kb_124_0 (am_bs rfl kb_124_1 (am_bs rfl kb_124_2 (am_bs rfl kb_124_3 (am_bs rfl kb_124_4 (am_bs rfl kb_124_5 (am_bz))))))
/-- OverAndBack.keep()I -/
noncomputable def kr_125_0 : List (Option am_Op) := [some (am_ald0 0 1), some (am_gf 11 16 4), none, none, some (am_psh (.retAddr 2) 5), some (am_br2 .lt 11 8), none, none]
noncomputable def kr_125_1 : List (Option am_Op) := [some (am_psh (.retAddr 4294967293) 10), none, some (am_iret), some (am_ald0 0 12), some (am_ald0 0 13), some (am_gf 11 16 16), none, none]
noncomputable def kr_125_2 : List (Option am_Op) := [some (am_cv 126 1 11 19), none, none, some (am_ald0 0 20), some (am_gf 11 12 23), none, none, some (am_cv 127 1 5 26)]
noncomputable def kr_125_3 : List (Option am_Op) := [none, none, some (am_ald0 0 27), some (am_dup 28), some (am_gf 11 16 31), none, none, some (am_psh (.retAddr 1) 32)]
noncomputable def kr_125_4 : List (Option am_Op) := [some (am_bin am_add 33), some (am_pf 11 16 0 36), none, none, some (am_ald0 0 37), some (am_gf 11 16 40), none, none]
noncomputable def kr_125_5 : List (Option am_Op) := [some (am_iret)]
noncomputable def cd_125 : am_Cd := [kr_125_0, kr_125_1, kr_125_2, kr_125_3, kr_125_4, kr_125_5]
theorem dd_125_0 : decode prog_1_method_26_code 0 = .ok (.aload_n 0, 1) := by decide +kernel
theorem dd_125_1 : decode prog_1_method_26_code 1 = .ok (.getfield 101, 3) := by decide +kernel
theorem dd_125_4 : decode prog_1_method_26_code 4 = .ok (.iconst 2, 1) := by decide +kernel
theorem dd_125_5 : decode prog_1_method_26_code 5 = .ok (.if_icmp .lt 6, 3) := by decide +kernel
theorem dd_125_8 : decode prog_1_method_26_code 8 = .ok (.bipush (-3), 2) := by decide +kernel
theorem dd_125_10 : decode prog_1_method_26_code 10 = .ok (.ireturn, 1) := by decide +kernel
theorem dd_125_11 : decode prog_1_method_26_code 11 = .ok (.aload_n 0, 1) := by decide +kernel
theorem dd_125_12 : decode prog_1_method_26_code 12 = .ok (.aload_n 0, 1) := by decide +kernel
theorem dd_125_13 : decode prog_1_method_26_code 13 = .ok (.getfield 101, 3) := by decide +kernel
theorem dd_125_16 : decode prog_1_method_26_code 16 = .ok (.invokevirtual 277, 3) := by decide +kernel
theorem dd_125_19 : decode prog_1_method_26_code 19 = .ok (.aload_n 0, 1) := by decide +kernel
theorem dd_125_20 : decode prog_1_method_26_code 20 = .ok (.getfield 84, 3) := by decide +kernel
theorem dd_125_23 : decode prog_1_method_26_code 23 = .ok (.invokevirtual 281, 3) := by decide +kernel
theorem dd_125_26 : decode prog_1_method_26_code 26 = .ok (.aload_n 0, 1) := by decide +kernel
theorem dd_125_27 : decode prog_1_method_26_code 27 = .ok (.dup, 1) := by decide +kernel
theorem dd_125_28 : decode prog_1_method_26_code 28 = .ok (.getfield 101, 3) := by decide +kernel
theorem dd_125_31 : decode prog_1_method_26_code 31 = .ok (.iconst 1, 1) := by decide +kernel
theorem dd_125_32 : decode prog_1_method_26_code 32 = .ok (.iadd, 1) := by decide +kernel
theorem dd_125_33 : decode prog_1_method_26_code 33 = .ok (.putfield 101, 3) := by decide +kernel
theorem dd_125_36 : decode prog_1_method_26_code 36 = .ok (.aload_n 0, 1) := by decide +kernel
theorem dd_125_37 : decode prog_1_method_26_code 37 = .ok (.getfield 101, 3) := by decide +kernel
theorem dd_125_40 : decode prog_1_method_26_code 40 = .ok (.ireturn, 1) := by decide +kernel
theorem kb_125_0 : am_row mi_125 0 kr_125_0 := am_rs rfl (ok_aload_n (k := 0) dd_125_0 rfl rfl) (am_rs rfl (ok_gf dd_125_1 rfl am_ck11 (by decide) (Or.inl w_527)) (am_rn rfl (am_rn rfl (am_rs rfl (ok_iconst dd_125_4 ic_2 rfl) (am_rs rfl (ok_icmp dd_125_5 (by decide) rfl) (am_rn rfl (am_rn rfl (am_rz))))))))
theorem kb_125_1 : am_row mi_125 8 kr_125_1 := am_rs rfl (ok_bipush dd_125_8 bi_m3 rfl) (am_rn rfl (am_rs rfl (ok_iret dd_125_10 rfl) (am_rs rfl (ok_aload_n (k := 0) dd_125_11 rfl rfl) (am_rs rfl (ok_aload_n (k := 0) dd_125_12 rfl rfl) (am_rs rfl (ok_gf dd_125_13 rfl am_ck11 (by decide) (Or.inl w_527)) (am_rn rfl (am_rn rfl (am_rz))))))))
theorem kb_125_2 : am_row mi_125 16 kr_125_2 := am_rs rfl (ok_cv (M' := mi_126) dd_125_16 rfl rfl w_905 w_907 ps_126 ⟨lk_126.1, lk_126.2.1, lk_126.2.2, by decide, by decide⟩ rfl) (am_rn rfl (am_rn rfl (am_rs rfl (ok_aload_n (k := 0) dd_125_19 rfl rfl) (am_rs rfl (ok_gf dd_125_20 rfl am_ck11 (by decide) (Or.inl w_523)) (am_rn rfl (am_rn rfl (am_rs rfl (ok_cv (M' := mi_127) dd_125_23 rfl rfl w_909 w_910 w_911 ⟨lk_127.1, lk_127.2.1, lk_127.2.2, by decide, by decide⟩ rfl) (am_rz))))))))
theorem kb_125_3 : am_row mi_125 24 kr_125_3 := am_rn rfl (am_rn rfl (am_rs rfl (ok_aload_n (k := 0) dd_125_26 rfl rfl) (am_rs rfl (ok_dup dd_125_27 rfl) (am_rs rfl (ok_gf dd_125_28 rfl am_ck11 (by decide) (Or.inl w_527)) (am_rn rfl (am_rn rfl (am_rs rfl (ok_iconst dd_125_31 ic_1 rfl) (am_rz))))))))
theorem kb_125_4 : am_row mi_125 32 kr_125_4 := am_rs rfl (ok_iadd dd_125_32 rfl) (am_rs rfl (ok_pf dd_125_33 rfl am_ck11 (by decide) (Or.inl w_527) (Or.inl rfl) rfl) (am_rn rfl (am_rn rfl (am_rs rfl (ok_aload_n (k := 0) dd_125_36 rfl rfl) (am_rs rfl (ok_gf dd_125_37 rfl am_ck11 (by decide) (Or.inl w_527)) (am_rn rfl (am_rn rfl (am_rz))))))))
theorem kb_125_5 : am_row mi_125 40 kr_125_5 := am_rs rfl (ok_iret dd_125_40 rfl) (am_rz)
theorem ck_125 : am_rows mi_125 0 cd_125 := am_bs rfl kb_125_0 (am_bs rfl kb_125_1 (am_bs rfl kb_125_2 (am_bs rfl kb_125_3 (am_bs rfl kb_125_4 (am_bs rfl kb_125_5 (am_bz))))))
/-- OverAndBack.keptPlan(I)LOverAndBack$Plan; -/
noncomputable def kr_126_0 : List (Option am_Op) := [some (am_ild 1 1), some (am_br1 .ne 11 4), none, none, some (am_ald0 0 5), some (am_gf 11 14 8), none, none]
noncomputable def kr_126_1 : List (Option am_Op) := [some (am_jmp 15), none, none, some (am_ald0 0 12), some (am_gf 11 15 15), none, none, some (am_aret)]
noncomputable def cd_126 : am_Cd := [kr_126_0, kr_126_1]
theorem dd_126_0 : decode prog_1_method_36_code 0 = .ok (.iload_n 1, 1) := by decide +kernel
theorem dd_126_1 : decode prog_1_method_36_code 1 = .ok (.ifCond .ne 10, 3) := by decide +kernel
theorem dd_126_4 : decode prog_1_method_36_code 4 = .ok (.aload_n 0, 1) := by decide +kernel
theorem dd_126_5 : decode prog_1_method_36_code 5 = .ok (.getfield 95, 3) := by decide +kernel
theorem dd_126_8 : decode prog_1_method_36_code 8 = .ok (.goto 7, 3) := by decide +kernel
theorem dd_126_11 : decode prog_1_method_36_code 11 = .ok (.aload_n 0, 1) := by decide +kernel
theorem dd_126_12 : decode prog_1_method_36_code 12 = .ok (.getfield 98, 3) := by decide +kernel
theorem dd_126_15 : decode prog_1_method_36_code 15 = .ok (.areturn, 1) := by decide +kernel
theorem kb_126_0 : am_row mi_126 0 kr_126_0 := am_rs rfl (ok_iload_n (k := 1) dd_126_0 rfl rfl) (am_rs rfl (ok_ifc dd_126_1 (by decide) rfl) (am_rn rfl (am_rn rfl (am_rs rfl (ok_aload_n (k := 0) dd_126_4 rfl rfl) (am_rs rfl (ok_gf dd_126_5 rfl am_ck11 (by decide) (Or.inl w_525)) (am_rn rfl (am_rn rfl (am_rz))))))))
theorem kb_126_1 : am_row mi_126 8 kr_126_1 := am_rs rfl (ok_goto dd_126_8 (by decide)) (am_rn rfl (am_rn rfl (am_rs rfl (ok_aload_n (k := 0) dd_126_11 rfl rfl) (am_rs rfl (ok_gf dd_126_12 rfl am_ck11 (by decide) (Or.inl w_526)) (am_rn rfl (am_rn rfl (am_rs rfl (ok_aret dd_126_15 rfl (Or.inl ⟨_, rfl⟩)) (am_rz))))))))
theorem ck_126 : am_rows mi_126 0 cd_126 := am_bs rfl kb_126_0 (am_bs rfl kb_126_1 (am_bz))
/-- OverAndBack$Plan.copyFrom(LOverAndBack$Plan;)V -/
noncomputable def kr_127_0 : List (Option am_Op) := [some (am_ald0 0 1), some (am_cv 44 0 5 4), none, none, some (am_ald0 0 5), some (am_ald0 1 6), some (am_gf 5 3 9), none]
noncomputable def kr_127_1 : List (Option am_Op) := [none, some (am_pf 5 3 0 12), none, none, some (am_psh (.retAddr 0) 13), some (am_ist 2 14), some (am_ild 2 15), some (am_ald0 1 16)]
noncomputable def kr_127_2 : List (Option am_Op) := [some (am_gf 5 2 19), none, none, some (am_br2 .ge 43 22), none, none, some (am_ald0 0 23), some (am_ald0 1 24)]
noncomputable def kr_127_3 : List (Option am_Op) := [some (am_ild 2 25), some (am_cv 64 1 5 28), none, none, some (am_ald0 1 29), some (am_ild 2 30), some (am_cv 65 1 5 33), none]
noncomputable def kr_127_4 : List (Option am_Op) := [none, some (am_cv 80 2 5 36), none, none, some (am_pp 37), some (am_inc 2 1 40), none, none]
noncomputable def kr_127_5 : List (Option am_Op) := [some (am_jmp 14), none, none, some (am_vret)]
noncomputable def cd_127 : am_Cd := [kr_127_0, kr_127_1, kr_127_2, kr_127_3, kr_127_4, kr_127_5]
theorem dd_127_0 : decode prog_7_method_5_code 0 = .ok (.aload_n 0, 1) := by decide +kernel
theorem dd_127_1 : decode prog_7_method_5_code 1 = .ok (.invokevirtual 31, 3) := by decide +kernel
theorem dd_127_4 : decode prog_7_method_5_code 4 = .ok (.aload_n 0, 1) := by decide +kernel
theorem dd_127_5 : decode prog_7_method_5_code 5 = .ok (.aload_n 1, 1) := by decide +kernel
theorem dd_127_6 : decode prog_7_method_5_code 6 = .ok (.getfield 22, 3) := by decide +kernel
theorem dd_127_9 : decode prog_7_method_5_code 9 = .ok (.putfield 22, 3) := by decide +kernel
theorem dd_127_12 : decode prog_7_method_5_code 12 = .ok (.iconst 0, 1) := by decide +kernel
theorem dd_127_13 : decode prog_7_method_5_code 13 = .ok (.istore_n 2, 1) := by decide +kernel
theorem dd_127_14 : decode prog_7_method_5_code 14 = .ok (.iload_n 2, 1) := by decide +kernel
theorem dd_127_15 : decode prog_7_method_5_code 15 = .ok (.aload_n 1, 1) := by decide +kernel
theorem dd_127_16 : decode prog_7_method_5_code 16 = .ok (.getfield 18, 3) := by decide +kernel
theorem dd_127_19 : decode prog_7_method_5_code 19 = .ok (.if_icmp .ge 24, 3) := by decide +kernel
theorem dd_127_22 : decode prog_7_method_5_code 22 = .ok (.aload_n 0, 1) := by decide +kernel
theorem dd_127_23 : decode prog_7_method_5_code 23 = .ok (.aload_n 1, 1) := by decide +kernel
theorem dd_127_24 : decode prog_7_method_5_code 24 = .ok (.iload_n 2, 1) := by decide +kernel
theorem dd_127_25 : decode prog_7_method_5_code 25 = .ok (.invokevirtual 34, 3) := by decide +kernel
theorem dd_127_28 : decode prog_7_method_5_code 28 = .ok (.aload_n 1, 1) := by decide +kernel
theorem dd_127_29 : decode prog_7_method_5_code 29 = .ok (.iload_n 2, 1) := by decide +kernel
theorem dd_127_30 : decode prog_7_method_5_code 30 = .ok (.invokevirtual 38, 3) := by decide +kernel
theorem dd_127_33 : decode prog_7_method_5_code 33 = .ok (.invokevirtual 41, 3) := by decide +kernel
theorem dd_127_36 : decode prog_7_method_5_code 36 = .ok (.pop, 1) := by decide +kernel
theorem dd_127_37 : decode prog_7_method_5_code 37 = .ok (.iinc 2 1, 3) := by decide +kernel
theorem dd_127_40 : decode prog_7_method_5_code 40 = .ok (.goto (-26), 3) := by decide +kernel
theorem dd_127_43 : decode prog_7_method_5_code 43 = .ok (.return_, 1) := by decide +kernel
theorem kb_127_0 : am_row mi_127 0 kr_127_0 := am_rs rfl (ok_aload_n (k := 0) dd_127_0 rfl rfl) (am_rs rfl (ok_cv (M' := mi_44) dd_127_1 rfl rfl w_913 w_504 w_505 ⟨lk_44.1, lk_44.2.1, lk_44.2.2, by decide, by decide⟩ rfl) (am_rn rfl (am_rn rfl (am_rs rfl (ok_aload_n (k := 0) dd_127_4 rfl rfl) (am_rs rfl (ok_aload_n (k := 1) dd_127_5 rfl rfl) (am_rs rfl (ok_gf dd_127_6 rfl am_ck5 (by decide) (Or.inl w_308)) (am_rn rfl (am_rz))))))))
theorem kb_127_1 : am_row mi_127 8 kr_127_1 := am_rn rfl (am_rs rfl (ok_pf dd_127_9 rfl am_ck5 (by decide) (Or.inl w_308) (Or.inl rfl) rfl) (am_rn rfl (am_rn rfl (am_rs rfl (ok_iconst dd_127_12 ic_0 rfl) (am_rs rfl (ok_istore_n (k := 2) dd_127_13 rfl rfl (by decide)) (am_rs rfl (ok_iload_n (k := 2) dd_127_14 rfl rfl) (am_rs rfl (ok_aload_n (k := 1) dd_127_15 rfl rfl) (am_rz))))))))
theorem kb_127_2 : am_row mi_127 16 kr_127_2 := am_rs rfl (ok_gf dd_127_16 rfl am_ck5 (by decide) (Or.inl w_305)) (am_rn rfl (am_rn rfl (am_rs rfl (ok_icmp dd_127_19 (by decide) rfl) (am_rn rfl (am_rn rfl (am_rs rfl (ok_aload_n (k := 0) dd_127_22 rfl rfl) (am_rs rfl (ok_aload_n (k := 1) dd_127_23 rfl rfl) (am_rz))))))))
theorem kb_127_3 : am_row mi_127 24 kr_127_3 := am_rs rfl (ok_iload_n (k := 2) dd_127_24 rfl rfl) (am_rs rfl (ok_cv (M' := mi_64) dd_127_25 rfl rfl w_914 w_638 w_639 ⟨lk_64.1, lk_64.2.1, lk_64.2.2, by decide, by decide⟩ rfl) (am_rn rfl (am_rn rfl (am_rs rfl (ok_aload_n (k := 1) dd_127_28 rfl rfl) (am_rs rfl (ok_iload_n (k := 2) dd_127_29 rfl rfl) (am_rs rfl (ok_cv (M' := mi_65) dd_127_30 rfl rfl w_915 w_642 w_643 ⟨lk_65.1, lk_65.2.1, lk_65.2.2, by decide, by decide⟩ rfl) (am_rn rfl (am_rz))))))))
theorem kb_127_4 : am_row mi_127 32 kr_127_4 := am_rn rfl (am_rs rfl (ok_cv (M' := mi_80) dd_127_33 rfl rfl w_916 w_707 w_708 ⟨lk_80.1, lk_80.2.1, lk_80.2.2, by decide, by decide⟩ rfl) (am_rn rfl (am_rn rfl (am_rs rfl (ok_pop dd_127_36 rfl) (am_rs rfl (ok_iinc dd_127_37 ic_1 rfl (by decide)) (am_rn rfl (am_rn rfl (am_rz))))))))
theorem kb_127_5 : am_row mi_127 40 kr_127_5 := am_rs rfl (ok_goto dd_127_40 (by decide)) (am_rn rfl (am_rn rfl (am_rs rfl (ok_vret dd_127_43 rfl) (am_rz))))
theorem ck_127 : am_rows mi_127 0 cd_127 := am_bs rfl kb_127_0 (am_bs rfl kb_127_1 (am_bs rfl kb_127_2 (am_bs rfl kb_127_3 (am_bs rfl kb_127_4 (am_bs rfl kb_127_5 (am_bz))))))
/-- OverAndBack.back()I -/
noncomputable def kr_128_0 : List (Option am_Op) := [some (am_ald0 0 1), some (am_gf 11 16 4), none, none, some (am_br1 .gt 10 7), none, none, some (am_psh (.retAddr 4294967294) 9)]
noncomputable def kr_128_1 : List (Option am_Op) := [none, some (am_iret), some (am_ald0 0 11), some (am_dup 12), some (am_gf 11 16 15), none, none, some (am_psh (.retAddr 1) 16)]
noncomputable def kr_128_2 : List (Option am_Op) := [some (am_bin am_sub 17), some (am_pf 11 16 0 20), none, none, some (am_ald0 0 21), some (am_gf 11 12 24), none, none]
noncomputable def kr_128_3 : List (Option am_Op) := [some (am_ald0 0 25), some (am_ald0 0 26), some (am_gf 11 16 29), none, none, some (am_cv 126 1 11 32), none, none]
noncomputable def kr_128_4 : List (Option am_Op) := [some (am_cv 127 1 5 35), none, none, some (am_ald0 0 36), some (am_gf 11 13 39), none, none, some (am_cv 45 0 4 42)]
noncomputable def kr_128_5 : List (Option am_Op) := [none, none, some (am_ald0 0 43), some (am_gf 11 16 46), none, none, some (am_iret)]
noncomputable def cd_128 : am_Cd := [kr_128_0, kr_128_1, kr_128_2, kr_128_3, kr_128_4, kr_128_5]
theorem dd_128_0 : decode prog_1_method_27_code 0 = .ok (.aload_n 0, 1) := by decide +kernel
theorem dd_128_1 : decode prog_1_method_27_code 1 = .ok (.getfield 101, 3) := by decide +kernel
theorem dd_128_4 : decode prog_1_method_27_code 4 = .ok (.ifCond .gt 6, 3) := by decide +kernel
theorem dd_128_7 : decode prog_1_method_27_code 7 = .ok (.bipush (-2), 2) := by decide +kernel
theorem dd_128_9 : decode prog_1_method_27_code 9 = .ok (.ireturn, 1) := by decide +kernel
theorem dd_128_10 : decode prog_1_method_27_code 10 = .ok (.aload_n 0, 1) := by decide +kernel
theorem dd_128_11 : decode prog_1_method_27_code 11 = .ok (.dup, 1) := by decide +kernel
theorem dd_128_12 : decode prog_1_method_27_code 12 = .ok (.getfield 101, 3) := by decide +kernel
theorem dd_128_15 : decode prog_1_method_27_code 15 = .ok (.iconst 1, 1) := by decide +kernel
theorem dd_128_16 : decode prog_1_method_27_code 16 = .ok (.isub, 1) := by decide +kernel
theorem dd_128_17 : decode prog_1_method_27_code 17 = .ok (.putfield 101, 3) := by decide +kernel
theorem dd_128_20 : decode prog_1_method_27_code 20 = .ok (.aload_n 0, 1) := by decide +kernel
theorem dd_128_21 : decode prog_1_method_27_code 21 = .ok (.getfield 84, 3) := by decide +kernel
theorem dd_128_24 : decode prog_1_method_27_code 24 = .ok (.aload_n 0, 1) := by decide +kernel
theorem dd_128_25 : decode prog_1_method_27_code 25 = .ok (.aload_n 0, 1) := by decide +kernel
theorem dd_128_26 : decode prog_1_method_27_code 26 = .ok (.getfield 101, 3) := by decide +kernel
theorem dd_128_29 : decode prog_1_method_27_code 29 = .ok (.invokevirtual 277, 3) := by decide +kernel
theorem dd_128_32 : decode prog_1_method_27_code 32 = .ok (.invokevirtual 281, 3) := by decide +kernel
theorem dd_128_35 : decode prog_1_method_27_code 35 = .ok (.aload_n 0, 1) := by decide +kernel
theorem dd_128_36 : decode prog_1_method_27_code 36 = .ok (.getfield 91, 3) := by decide +kernel
theorem dd_128_39 : decode prog_1_method_27_code 39 = .ok (.invokevirtual 285, 3) := by decide +kernel
theorem dd_128_42 : decode prog_1_method_27_code 42 = .ok (.aload_n 0, 1) := by decide +kernel
theorem dd_128_43 : decode prog_1_method_27_code 43 = .ok (.getfield 101, 3) := by decide +kernel
theorem dd_128_46 : decode prog_1_method_27_code 46 = .ok (.ireturn, 1) := by decide +kernel
theorem kb_128_0 : am_row mi_128 0 kr_128_0 := am_rs rfl (ok_aload_n (k := 0) dd_128_0 rfl rfl) (am_rs rfl (ok_gf dd_128_1 rfl am_ck11 (by decide) (Or.inl w_527)) (am_rn rfl (am_rn rfl (am_rs rfl (ok_ifc dd_128_4 (by decide) rfl) (am_rn rfl (am_rn rfl (am_rs rfl (ok_bipush dd_128_7 bi_m2 rfl) (am_rz))))))))
theorem kb_128_1 : am_row mi_128 8 kr_128_1 := am_rn rfl (am_rs rfl (ok_iret dd_128_9 rfl) (am_rs rfl (ok_aload_n (k := 0) dd_128_10 rfl rfl) (am_rs rfl (ok_dup dd_128_11 rfl) (am_rs rfl (ok_gf dd_128_12 rfl am_ck11 (by decide) (Or.inl w_527)) (am_rn rfl (am_rn rfl (am_rs rfl (ok_iconst dd_128_15 ic_1 rfl) (am_rz))))))))
theorem kb_128_2 : am_row mi_128 16 kr_128_2 := am_rs rfl (ok_isub dd_128_16 rfl) (am_rs rfl (ok_pf dd_128_17 rfl am_ck11 (by decide) (Or.inl w_527) (Or.inl rfl) rfl) (am_rn rfl (am_rn rfl (am_rs rfl (ok_aload_n (k := 0) dd_128_20 rfl rfl) (am_rs rfl (ok_gf dd_128_21 rfl am_ck11 (by decide) (Or.inl w_523)) (am_rn rfl (am_rn rfl (am_rz))))))))
theorem kb_128_3 : am_row mi_128 24 kr_128_3 := am_rs rfl (ok_aload_n (k := 0) dd_128_24 rfl rfl) (am_rs rfl (ok_aload_n (k := 0) dd_128_25 rfl rfl) (am_rs rfl (ok_gf dd_128_26 rfl am_ck11 (by decide) (Or.inl w_527)) (am_rn rfl (am_rn rfl (am_rs rfl (ok_cv (M' := mi_126) dd_128_29 rfl rfl w_905 w_907 ps_126 ⟨lk_126.1, lk_126.2.1, lk_126.2.2, by decide, by decide⟩ rfl) (am_rn rfl (am_rn rfl (am_rz))))))))
theorem kb_128_4 : am_row mi_128 32 kr_128_4 := am_rs rfl (ok_cv (M' := mi_127) dd_128_32 rfl rfl w_909 w_910 w_911 ⟨lk_127.1, lk_127.2.1, lk_127.2.2, by decide, by decide⟩ rfl) (am_rn rfl (am_rn rfl (am_rs rfl (ok_aload_n (k := 0) dd_128_35 rfl rfl) (am_rs rfl (ok_gf dd_128_36 rfl am_ck11 (by decide) (Or.inl w_524)) (am_rn rfl (am_rn rfl (am_rs rfl (ok_cv (M' := mi_45) dd_128_39 rfl rfl w_507 w_508 w_509 ⟨lk_45.1, lk_45.2.1, lk_45.2.2, by decide, by decide⟩ rfl) (am_rz))))))))
theorem kb_128_5 : am_row mi_128 40 kr_128_5 := am_rn rfl (am_rn rfl (am_rs rfl (ok_aload_n (k := 0) dd_128_42 rfl rfl) (am_rs rfl (ok_gf dd_128_43 rfl am_ck11 (by decide) (Or.inl w_527)) (am_rn rfl (am_rn rfl (am_rs rfl (ok_iret dd_128_46 rfl) (am_rz)))))))
theorem ck_128 : am_rows mi_128 0 cd_128 := am_bs rfl kb_128_0 (am_bs rfl kb_128_1 (am_bs rfl kb_128_2 (am_bs rfl kb_128_3 (am_bs rfl kb_128_4 (am_bs rfl kb_128_5 (am_bz))))))
