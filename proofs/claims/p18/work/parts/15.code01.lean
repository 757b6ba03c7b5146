/-- OverAndBack$Facts.close(LOverAndBack$Rows;I)I -/
noncomputable def kr_30_0 : List (Option am_Op) := [some (am_ild 1 1), some (am_ist 2 2), some (am_psh (.retAddr 0) 3), some (am_ist 3 4), some (am_ild 3 5), some (am_psh (.retAddr 6) 7), none, some (am_br2 .gt 88 10)]
noncomputable def kr_30_1 : List (Option am_Op) := [none, none, some (am_ild 2 11), some (am_ist 4 13), none, some (am_psh (.retAddr 0) 14), some (am_ist 5 16), none]
noncomputable def kr_30_2 : List (Option am_Op) := [some (am_ild 5 18), none, some (am_ald0 0 19), some (am_gf 8 3 22), none, none, some (am_br2 .ge 73 25), none]
noncomputable def kr_30_3 : List (Option am_Op) := [none, some (am_psh (.retAddr 1) 26), some (am_ald0 0 27), some (am_ild 5 29), none, some (am_psh (.retAddr 0) 30), some (am_cv 31 2 8 33), none]
noncomputable def kr_30_4 : List (Option am_Op) := [none, some (am_bin am_shl 34), some (am_psh (.retAddr 1) 35), some (am_ald0 0 36), some (am_ild 5 38), none, some (am_psh (.retAddr 1) 39), some (am_cv 31 2 8 42)]
noncomputable def kr_30_5 : List (Option am_Op) := [none, none, some (am_bin am_shl 43), some (am_bin Nat.lor 44), some (am_ist 6 46), none, some (am_ild 2 47), some (am_ild 6 49)]
noncomputable def kr_30_6 : List (Option am_Op) := [none, some (am_bin Nat.land 50), some (am_ild 6 52), none, some (am_br2 .ne 67 55), none, none, some (am_ild 2 56)]
noncomputable def kr_30_7 : List (Option am_Op) := [some (am_psh (.retAddr 1) 57), some (am_ald0 0 58), some (am_ild 5 60), none, some (am_psh (.retAddr 2) 61), some (am_cv 31 2 8 64), none, none]
noncomputable def kr_30_8 : List (Option am_Op) := [some (am_bin am_shl 65), some (am_bin Nat.lor 66), some (am_ist 2 67), some (am_inc 5 1 70), none, none, some (am_jmp 16), none]
noncomputable def kr_30_9 : List (Option am_Op) := [none, some (am_ild 2 74), some (am_ild 4 76), none, some (am_br2 .ne 82 79), none, none, some (am_jmp 88)]
noncomputable def kr_30_10 : List (Option am_Op) := [none, none, some (am_inc 3 1 85), none, none, some (am_jmp 4), none, none]
noncomputable def kr_30_11 : List (Option am_Op) := [some (am_ild 2 89), some (am_iret)]
noncomputable def cd_30 : am_Cd := [kr_30_0, kr_30_1, kr_30_2, kr_30_3, kr_30_4, kr_30_5, kr_30_6, kr_30_7, kr_30_8, kr_30_9, kr_30_10, kr_30_11]
theorem dd_30_0 : decode prog_4_method_3_code 0 = .ok (.iload_n 1, 1) := by decide +kernel
theorem dd_30_1 : decode prog_4_method_3_code 1 = .ok (.istore_n 2, 1) := by decide +kernel
theorem dd_30_2 : decode prog_4_method_3_code 2 = .ok (.iconst 0, 1) := by decide +kernel
theorem dd_30_3 : decode prog_4_method_3_code 3 = .ok (.istore_n 3, 1) := by decide +kernel
theorem dd_30_4 : decode prog_4_method_3_code 4 = .ok (.iload_n 3, 1) := by decide +kernel
theorem dd_30_5 : decode prog_4_method_3_code 5 = .ok (.bipush 6, 2) := by decide +kernel
theorem dd_30_7 : decode prog_4_method_3_code 7 = .ok (.if_icmp .gt 81, 3) := by decide +kernel
theorem dd_30_10 : decode prog_4_method_3_code 10 = .ok (.iload_n 2, 1) := by decide +kernel
theorem dd_30_11 : decode prog_4_method_3_code 11 = .ok (.istore 4, 2) := by decide +kernel
theorem dd_30_13 : decode prog_4_method_3_code 13 = .ok (.iconst 0, 1) := by decide +kernel
theorem dd_30_14 : decode prog_4_method_3_code 14 = .ok (.istore 5, 2) := by decide +kernel
theorem dd_30_16 : decode prog_4_method_3_code 16 = .ok (.iload 5, 2) := by decide +kernel
theorem dd_30_18 : decode prog_4_method_3_code 18 = .ok (.aload_n 0, 1) := by decide +kernel
theorem dd_30_19 : decode prog_4_method_3_code 19 = .ok (.getfield 25, 3) := by decide +kernel
theorem dd_30_22 : decode prog_4_method_3_code 22 = .ok (.if_icmp .ge 51, 3) := by decide +kernel
theorem dd_30_25 : decode prog_4_method_3_code 25 = .ok (.iconst 1, 1) := by decide +kernel
theorem dd_30_26 : decode prog_4_method_3_code 26 = .ok (.aload_n 0, 1) := by decide +kernel
theorem dd_30_27 : decode prog_4_method_3_code 27 = .ok (.iload 5, 2) := by decide +kernel
theorem dd_30_29 : decode prog_4_method_3_code 29 = .ok (.iconst 0, 1) := by decide +kernel
theorem dd_30_30 : decode prog_4_method_3_code 30 = .ok (.invokevirtual 31, 3) := by decide +kernel
theorem dd_30_33 : decode prog_4_method_3_code 33 = .ok (.ishl, 1) := by decide +kernel
theorem dd_30_34 : decode prog_4_method_3_code 34 = .ok (.iconst 1, 1) := by decide +kernel
theorem dd_30_35 : decode prog_4_method_3_code 35 = .ok (.aload_n 0, 1) := by decide +kernel
theorem dd_30_36 : decode prog_4_method_3_code 36 = .ok (.iload 5, 2) := by decide +kernel
theorem dd_30_38 : decode prog_4_method_3_code 38 = .ok (.iconst 1, 1) := by decide +kernel
theorem dd_30_39 : decode prog_4_method_3_code 39 = .ok (.invokevirtual 31, 3) := by decide +kernel
theorem dd_30_42 : decode prog_4_method_3_code 42 = .ok (.ishl, 1) := by decide +kernel
theorem dd_30_43 : decode prog_4_method_3_code 43 = .ok (.ior, 1) := by decide +kernel
theorem dd_30_44 : decode prog_4_method_3_code 44 = .ok (.istore 6, 2) := by decide +kernel
theorem dd_30_46 : decode prog_4_method_3_code 46 = .ok (.iload_n 2, 1) := by decide +kernel
theorem dd_30_47 : decode prog_4_method_3_code 47 = .ok (.iload 6, 2) := by decide +kernel
theorem dd_30_49 : decode prog_4_method_3_code 49 = .ok (.iand, 1) := by decide +kernel
theorem dd_30_50 : decode prog_4_method_3_code 50 = .ok (.iload 6, 2) := by decide +kernel
theorem dd_30_52 : decode prog_4_method_3_code 52 = .ok (.if_icmp .ne 15, 3) := by decide +kernel
theorem dd_30_55 : decode prog_4_method_3_code 55 = .ok (.iload_n 2, 1) := by decide +kernel
theorem dd_30_56 : decode prog_4_method_3_code 56 = .ok (.iconst 1, 1) := by decide +kernel
theorem dd_30_57 : decode prog_4_method_3_code 57 = .ok (.aload_n 0, 1) := by decide +kernel
theorem dd_30_58 : decode prog_4_method_3_code 58 = .ok (.iload 5, 2) := by decide +kernel
theorem dd_30_60 : decode prog_4_method_3_code 60 = .ok (.iconst 2, 1) := by decide +kernel
theorem dd_30_61 : decode prog_4_method_3_code 61 = .ok (.invokevirtual 31, 3) := by decide +kernel
theorem dd_30_64 : decode prog_4_method_3_code 64 = .ok (.ishl, 1) := by decide +kernel
theorem dd_30_65 : decode prog_4_method_3_code 65 = .ok (.ior, 1) := by decide +kernel
theorem dd_30_66 : decode prog_4_method_3_code 66 = .ok (.istore_n 2, 1) := by decide +kernel
theorem dd_30_67 : decode prog_4_method_3_code 67 = .ok (.iinc 5 1, 3) := by decide +kernel
theorem dd_30_70 : decode prog_4_method_3_code 70 = .ok (.goto (-54), 3) := by decide +kernel
theorem dd_30_73 : decode prog_4_method_3_code 73 = .ok (.iload_n 2, 1) := by decide +kernel
theorem dd_30_74 : decode prog_4_method_3_code 74 = .ok (.iload 4, 2) := by decide +kernel
theorem dd_30_76 : decode prog_4_method_3_code 76 = .ok (.if_icmp .ne 6, 3) := by decide +kernel
theorem dd_30_79 : decode prog_4_method_3_code 79 = .ok (.goto 9, 3) := by decide +kernel
theorem dd_30_82 : decode prog_4_method_3_code 82 = .ok (.iinc 3 1, 3) := by decide +kernel
theorem dd_30_85 : decode prog_4_method_3_code 85 = .ok (.goto (-81), 3) := by decide +kernel
theorem dd_30_88 : decode prog_4_method_3_code 88 = .ok (.iload_n 2, 1) := by decide +kernel
theorem dd_30_89 : decode prog_4_method_3_code 89 = .ok (.ireturn, 1) := by decide +kernel
theorem kb_30_0 : am_row mi_30 0 kr_30_0 := am_rs rfl (ok_iload_n (k := 1) dd_30_0 rfl rfl) (am_rs rfl (ok_istore_n (k := 2) dd_30_1 rfl rfl (by decide)) (am_rs rfl (ok_iconst dd_30_2 ic_0 rfl) (am_rs rfl (ok_istore_n (k := 3) dd_30_3 rfl rfl (by decide)) (am_rs rfl (ok_iload_n (k := 3) dd_30_4 rfl rfl) (am_rs rfl (ok_bipush dd_30_5 bi_6 rfl) (am_rn rfl (am_rs rfl (ok_icmp dd_30_7 (by decide) rfl) (am_rz))))))))
theorem kb_30_1 : am_row mi_30 8 kr_30_1 := am_rn rfl (am_rn rfl (am_rs rfl (ok_iload_n (k := 2) dd_30_10 rfl rfl) (am_rs rfl (ok_istore dd_30_11 rfl (by decide)) (am_rn rfl (am_rs rfl (ok_iconst dd_30_13 ic_0 rfl) (am_rs rfl (ok_istore dd_30_14 rfl (by decide)) (am_rn rfl (am_rz))))))))
theorem kb_30_2 : am_row mi_30 16 kr_30_2 := am_rs rfl (ok_iload dd_30_16 rfl) (am_rn rfl (am_rs rfl (ok_aload_n (k := 0) dd_30_18 rfl rfl) (am_rs rfl (ok_gf dd_30_19 rfl am_ck8 (by decide) (Or.inr ⟨_, w_66⟩)) (am_rn rfl (am_rn rfl (am_rs rfl (ok_icmp dd_30_22 (by decide) rfl) (am_rn rfl (am_rz))))))))
theorem kb_30_3 : am_row mi_30 24 kr_30_3 := am_rn rfl (am_rs rfl (ok_iconst dd_30_25 ic_1 rfl) (am_rs rfl (ok_aload_n (k := 0) dd_30_26 rfl rfl) (am_rs rfl (ok_iload dd_30_27 rfl) (am_rn rfl (am_rs rfl (ok_iconst dd_30_29 ic_0 rfl) (am_rs rfl (ok_cv (M' := mi_31) dd_30_30 rfl rfl w_449 w_450 w_451 ⟨lk_31.1, lk_31.2.1, lk_31.2.2, by decide, by decide⟩ rfl) (am_rn rfl (am_rz))))))))
theorem kb_30_4 : am_row mi_30 32 kr_30_4 := am_rn rfl (am_rs rfl (ok_ishl dd_30_33 rfl) (am_rs rfl (ok_iconst dd_30_34 ic_1 rfl) (am_rs rfl (ok_aload_n (k := 0) dd_30_35 rfl rfl) (am_rs rfl (ok_iload dd_30_36 rfl) (am_rn rfl (am_rs rfl (ok_iconst dd_30_38 ic_1 rfl) (am_rs rfl (ok_cv (M' := mi_31) dd_30_39 rfl rfl w_449 w_450 w_451 ⟨lk_31.1, lk_31.2.1, lk_31.2.2, by decide, by decide⟩ rfl) (am_rz))))))))
theorem kb_30_5 : am_row mi_30 40 kr_30_5 := am_rn rfl (am_rn rfl (am_rs rfl (ok_ishl dd_30_42 rfl) (am_rs rfl (ok_ior dd_30_43 rfl) (am_rs rfl (ok_istore dd_30_44 rfl (by decide)) (am_rn rfl (am_rs rfl (ok_iload_n (k := 2) dd_30_46 rfl rfl) (am_rs rfl (ok_iload dd_30_47 rfl) (am_rz))))))))
theorem kb_30_6 : am_row mi_30 48 kr_30_6 := am_rn rfl (am_rs rfl (ok_iand dd_30_49 rfl) (am_rs rfl (ok_iload dd_30_50 rfl) (am_rn rfl (am_rs rfl (ok_icmp dd_30_52 (by decide) rfl) (am_rn rfl (am_rn rfl (am_rs rfl (ok_iload_n (k := 2) dd_30_55 rfl rfl) (am_rz))))))))
theorem kb_30_7 : am_row mi_30 56 kr_30_7 := am_rs rfl (ok_iconst dd_30_56 ic_1 rfl) (am_rs rfl (ok_aload_n (k := 0) dd_30_57 rfl rfl) (am_rs rfl (ok_iload dd_30_58 rfl) (am_rn rfl (am_rs rfl (ok_iconst dd_30_60 ic_2 rfl) (am_rs rfl (ok_cv (M' := mi_31) dd_30_61 rfl rfl w_449 w_450 w_451 ⟨lk_31.1, lk_31.2.1, lk_31.2.2, by decide, by decide⟩ rfl) (am_rn rfl (am_rn rfl (am_rz))))))))
theorem kb_30_8 : am_row mi_30 64 kr_30_8 := am_rs rfl (ok_ishl dd_30_64 rfl) (am_rs rfl (ok_ior dd_30_65 rfl) (am_rs rfl (ok_istore_n (k := 2) dd_30_66 rfl rfl (by decide)) (am_rs rfl (ok_iinc dd_30_67 ic_1 rfl (by decide)) (am_rn rfl (am_rn rfl (am_rs rfl (ok_goto dd_30_70 (by decide)) (am_rn rfl (am_rz))))))))
theorem kb_30_9 : am_row mi_30 72 kr_30_9 := am_rn rfl (am_rs rfl (ok_iload_n (k := 2) dd_30_73 rfl rfl) (am_rs rfl (ok_iload dd_30_74 rfl) (am_rn rfl (am_rs rfl (ok_icmp dd_30_76 (by decide) rfl) (am_rn rfl (am_rn rfl (am_rs rfl (ok_goto dd_30_79 (by decide)) (am_rz))))))))
theorem kb_30_10 : am_row mi_30 80 kr_30_10 := am_rn rfl (am_rn rfl (am_rs rfl (ok_iinc dd_30_82 ic_1 rfl (by decide)) (am_rn rfl (am_rn rfl (am_rs rfl (ok_goto dd_30_85 (by decide)) (am_rn rfl (am_rn rfl (am_rz))))))))
theorem kb_30_11 : am_row mi_30 88 kr_30_11 := am_rs rfl (ok_iload_n (k := 2) dd_30_88 rfl rfl) (am_rs rfl (ok_iret dd_30_89 rfl) (am_rz))
theorem ck_30 : am_rows mi_30 0 cd_30 := am_bs rfl kb_30_0 (am_bs rfl kb_30_1 (am_bs rfl kb_30_2 (am_bs rfl kb_30_3 (am_bs rfl kb_30_4 (am_bs rfl kb_30_5 (am_bs rfl kb_30_6 (am_bs rfl kb_30_7 (am_bs rfl kb_30_8 (am_bs rfl kb_30_9 (am_bs rfl kb_30_10 (am_bs rfl kb_30_11 (am_bz))))))))))))
/-- OverAndBack$Rows.cell(II)I -/
noncomputable def kr_31_0 : List (Option am_Op) := [some (am_ild 1 1), some (am_br1 .lt 24 4), none, none, some (am_ild 1 5), some (am_ald0 0 6), some (am_gf 8 3 9), none]
noncomputable def kr_31_1 : List (Option am_Op) := [none, some (am_br2 .ge 24 12), none, none, some (am_ild 2 13), some (am_br1 .lt 24 16), none, none]
noncomputable def kr_31_2 : List (Option am_Op) := [some (am_ild 2 17), some (am_ald0 0 18), some (am_gf 8 1 21), none, none, some (am_br2 .lt 26 24), none, none]
noncomputable def kr_31_3 : List (Option am_Op) := [some (am_psh (.retAddr 0) 25), some (am_iret), some (am_ald0 0 27), some (am_gf 8 0 30), none, none, some (am_ild 1 31), some (am_ald0 0 32)]
noncomputable def kr_31_4 : List (Option am_Op) := [some (am_gf 8 1 35), none, none, some (am_bin am_mul 36), some (am_ild 2 37), some (am_bin am_add 38), some (am_ald 0 39), some (am_iret)]
noncomputable def cd_31 : am_Cd := [kr_31_0, kr_31_1, kr_31_2, kr_31_3, kr_31_4]
theorem dd_31_0 : decode prog_10_method_4_code 0 = .ok (.iload_n 1, 1) := by decide +kernel
theorem dd_31_1 : decode prog_10_method_4_code 1 = .ok (.ifCond .lt 23, 3) := by decide +kernel
theorem dd_31_4 : decode prog_10_method_4_code 4 = .ok (.iload_n 1, 1) := by decide +kernel
theorem dd_31_5 : decode prog_10_method_4_code 5 = .ok (.aload_n 0, 1) := by decide +kernel
theorem dd_31_6 : decode prog_10_method_4_code 6 = .ok (.getfield 15, 3) := by decide +kernel
theorem dd_31_9 : decode prog_10_method_4_code 9 = .ok (.if_icmp .ge 15, 3) := by decide +kernel
theorem dd_31_12 : decode prog_10_method_4_code 12 = .ok (.iload_n 2, 1) := by decide +kernel
theorem dd_31_13 : decode prog_10_method_4_code 13 = .ok (.ifCond .lt 11, 3) := by decide +kernel
theorem dd_31_16 : decode prog_10_method_4_code 16 = .ok (.iload_n 2, 1) := by decide +kernel
theorem dd_31_17 : decode prog_10_method_4_code 17 = .ok (.aload_n 0, 1) := by decide +kernel
theorem dd_31_18 : decode prog_10_method_4_code 18 = .ok (.getfield 19, 3) := by decide +kernel
theorem dd_31_21 : decode prog_10_method_4_code 21 = .ok (.if_icmp .lt 5, 3) := by decide +kernel
theorem dd_31_24 : decode prog_10_method_4_code 24 = .ok (.iconst 0, 1) := by decide +kernel
theorem dd_31_25 : decode prog_10_method_4_code 25 = .ok (.ireturn, 1) := by decide +kernel
theorem dd_31_26 : decode prog_10_method_4_code 26 = .ok (.aload_n 0, 1) := by decide +kernel
theorem dd_31_27 : decode prog_10_method_4_code 27 = .ok (.getfield 9, 3) := by decide +kernel
theorem dd_31_30 : decode prog_10_method_4_code 30 = .ok (.iload_n 1, 1) := by decide +kernel
theorem dd_31_31 : decode prog_10_method_4_code 31 = .ok (.aload_n 0, 1) := by decide +kernel
theorem dd_31_32 : decode prog_10_method_4_code 32 = .ok (.getfield 19, 3) := by decide +kernel
theorem dd_31_35 : decode prog_10_method_4_code 35 = .ok (.imul, 1) := by decide +kernel
theorem dd_31_36 : decode prog_10_method_4_code 36 = .ok (.iload_n 2, 1) := by decide +kernel
theorem dd_31_37 : decode prog_10_method_4_code 37 = .ok (.iadd, 1) := by decide +kernel
theorem dd_31_38 : decode prog_10_method_4_code 38 = .ok (.iaload, 1) := by decide +kernel
theorem dd_31_39 : decode prog_10_method_4_code 39 = .ok (.ireturn, 1) := by decide +kernel
theorem kb_31_0 : am_row mi_31 0 kr_31_0 := am_rs rfl (ok_iload_n (k := 1) dd_31_0 rfl rfl) (am_rs rfl (ok_ifc dd_31_1 (by decide) rfl) (am_rn rfl (am_rn rfl (am_rs rfl (ok_iload_n (k := 1) dd_31_4 rfl rfl) (am_rs rfl (ok_aload_n (k := 0) dd_31_5 rfl rfl) (am_rs rfl (ok_gf dd_31_6 rfl am_ck8 (by decide) (Or.inl w_60)) (am_rn rfl (am_rz))))))))
theorem kb_31_1 : am_row mi_31 8 kr_31_1 := am_rn rfl (am_rs rfl (ok_icmp dd_31_9 (by decide) rfl) (am_rn rfl (am_rn rfl (am_rs rfl (ok_iload_n (k := 2) dd_31_12 rfl rfl) (am_rs rfl (ok_ifc dd_31_13 (by decide) rfl) (am_rn rfl (am_rn rfl (am_rz))))))))
theorem kb_31_2 : am_row mi_31 16 kr_31_2 := am_rs rfl (ok_iload_n (k := 2) dd_31_16 rfl rfl) (am_rs rfl (ok_aload_n (k := 0) dd_31_17 rfl rfl) (am_rs rfl (ok_gf dd_31_18 rfl am_ck8 (by decide) (Or.inl w_58)) (am_rn rfl (am_rn rfl (am_rs rfl (ok_icmp dd_31_21 (by decide) rfl) (am_rn rfl (am_rn rfl (am_rz))))))))
theorem kb_31_3 : am_row mi_31 24 kr_31_3 := am_rs rfl (ok_iconst dd_31_24 ic_0 rfl) (am_rs rfl (ok_iret dd_31_25 rfl) (am_rs rfl (ok_aload_n (k := 0) dd_31_26 rfl rfl) (am_rs rfl (ok_gf dd_31_27 rfl am_ck8 (by decide) (Or.inl w_57)) (am_rn rfl (am_rn rfl (am_rs rfl (ok_iload_n (k := 1) dd_31_30 rfl rfl) (am_rs rfl (ok_aload_n (k := 0) dd_31_31 rfl rfl) (am_rz))))))))
theorem kb_31_4 : am_row mi_31 32 kr_31_4 := am_rs rfl (ok_gf dd_31_32 rfl am_ck8 (by decide) (Or.inl w_58)) (am_rn rfl (am_rn rfl (am_rs rfl (ok_imul dd_31_35 rfl) (am_rs rfl (ok_iload_n (k := 2) dd_31_36 rfl rfl) (am_rs rfl (ok_iadd dd_31_37 rfl) (am_rs rfl (ok_iald dd_31_38 rfl) (am_rs rfl (ok_iret dd_31_39 rfl) (am_rz))))))))
theorem ck_31 : am_rows mi_31 0 cd_31 := am_bs rfl kb_31_0 (am_bs rfl kb_31_1 (am_bs rfl kb_31_2 (am_bs rfl kb_31_3 (am_bs rfl kb_31_4 (am_bz)))))
/-- OverAndBack$Screen.show(LOverAndBack$Evening;II)V -/
noncomputable def kr_32_0 : List (Option am_Op) := [some (am_ald0 0 1), some (am_ald0 1 2), some (am_gf 1 0 5), none, none, some (am_cv 33 1 9 8), none, none]
noncomputable def kr_32_1 : List (Option am_Op) := [some (am_ald0 0 9), some (am_ald0 1 10), some (am_gf 1 1 13), none, none, some (am_ild 3 14), some (am_cv 36 2 9 17), none]
noncomputable def kr_32_2 : List (Option am_Op) := [none, some (am_psh (.retAddr 0) 18), some (am_ist 4 20), none, some (am_ild 4 22), none, some (am_ald0 1 23), some (am_gf 1 2 26)]
noncomputable def kr_32_3 : List (Option am_Op) := [none, none, some (am_gf 8 3 29), none, none, some (am_br2 .ge 48 32), none, none]
noncomputable def kr_32_4 : List (Option am_Op) := [some (am_ald0 0 33), some (am_ald0 1 34), some (am_gf 1 2 37), none, none, some (am_ild 4 39), none, some (am_cv 38 2 9 42)]
noncomputable def kr_32_5 : List (Option am_Op) := [none, none, some (am_inc 4 1 45), none, none, some (am_jmp 20), none, none]
noncomputable def kr_32_6 : List (Option am_Op) := [some (am_psh (.retAddr 0) 49), some (am_ist 4 51), none, some (am_ild 4 53), none, some (am_ald0 1 54), some (am_gf 1 3 57), none]
noncomputable def kr_32_7 : List (Option am_Op) := [none, some (am_gf 8 3 60), none, none, some (am_br2 .ge 88 63), none, none, some (am_ild 2 64)]
noncomputable def kr_32_8 : List (Option am_Op) := [some (am_ild 4 66), none, some (am_bin1 am_xshr 67), some (am_psh (.retAddr 1) 68), some (am_bin Nat.land 69), some (am_br1 .eq 82 72), none, none]
noncomputable def kr_32_9 : List (Option am_Op) := [some (am_ald0 0 73), some (am_ald0 1 74), some (am_gf 1 3 77), none, none, some (am_ild 4 79), none, some (am_cv 38 2 9 82)]
noncomputable def kr_32_10 : List (Option am_Op) := [none, none, some (am_inc 4 1 85), none, none, some (am_jmp 51), none, none]
noncomputable def kr_32_11 : List (Option am_Op) := [some (am_vret)]
noncomputable def cd_32 : am_Cd := [kr_32_0, kr_32_1, kr_32_2, kr_32_3, kr_32_4, kr_32_5, kr_32_6, kr_32_7, kr_32_8, kr_32_9, kr_32_10, kr_32_11]
theorem dd_32_0 : decode prog_11_method_2_code 0 = .ok (.aload_n 0, 1) := by decide +kernel
theorem dd_32_1 : decode prog_11_method_2_code 1 = .ok (.aload_n 1, 1) := by decide +kernel
theorem dd_32_2 : decode prog_11_method_2_code 2 = .ok (.getfield 21, 3) := by decide +kernel
theorem dd_32_5 : decode prog_11_method_2_code 5 = .ok (.invokevirtual 27, 3) := by decide +kernel
theorem dd_32_8 : decode prog_11_method_2_code 8 = .ok (.aload_n 0, 1) := by decide +kernel
theorem dd_32_9 : decode prog_11_method_2_code 9 = .ok (.aload_n 1, 1) := by decide +kernel
theorem dd_32_10 : decode prog_11_method_2_code 10 = .ok (.getfield 31, 3) := by decide +kernel
theorem dd_32_13 : decode prog_11_method_2_code 13 = .ok (.iload_n 3, 1) := by decide +kernel
theorem dd_32_14 : decode prog_11_method_2_code 14 = .ok (.invokevirtual 34, 3) := by decide +kernel
theorem dd_32_17 : decode prog_11_method_2_code 17 = .ok (.iconst 0, 1) := by decide +kernel
theorem dd_32_18 : decode prog_11_method_2_code 18 = .ok (.istore 4, 2) := by decide +kernel
theorem dd_32_20 : decode prog_11_method_2_code 20 = .ok (.iload 4, 2) := by decide +kernel
theorem dd_32_22 : decode prog_11_method_2_code 22 = .ok (.aload_n 1, 1) := by decide +kernel
theorem dd_32_23 : decode prog_11_method_2_code 23 = .ok (.getfield 38, 3) := by decide +kernel
theorem dd_32_26 : decode prog_11_method_2_code 26 = .ok (.getfield 41, 3) := by decide +kernel
theorem dd_32_29 : decode prog_11_method_2_code 29 = .ok (.if_icmp .ge 19, 3) := by decide +kernel
theorem dd_32_32 : decode prog_11_method_2_code 32 = .ok (.aload_n 0, 1) := by decide +kernel
theorem dd_32_33 : decode prog_11_method_2_code 33 = .ok (.aload_n 1, 1) := by decide +kernel
theorem dd_32_34 : decode prog_11_method_2_code 34 = .ok (.getfield 38, 3) := by decide +kernel
theorem dd_32_37 : decode prog_11_method_2_code 37 = .ok (.iload 4, 2) := by decide +kernel
theorem dd_32_39 : decode prog_11_method_2_code 39 = .ok (.invokevirtual 47, 3) := by decide +kernel
theorem dd_32_42 : decode prog_11_method_2_code 42 = .ok (.iinc 4 1, 3) := by decide +kernel
theorem dd_32_45 : decode prog_11_method_2_code 45 = .ok (.goto (-25), 3) := by decide +kernel
theorem dd_32_48 : decode prog_11_method_2_code 48 = .ok (.iconst 0, 1) := by decide +kernel
theorem dd_32_49 : decode prog_11_method_2_code 49 = .ok (.istore 4, 2) := by decide +kernel
theorem dd_32_51 : decode prog_11_method_2_code 51 = .ok (.iload 4, 2) := by decide +kernel
theorem dd_32_53 : decode prog_11_method_2_code 53 = .ok (.aload_n 1, 1) := by decide +kernel
theorem dd_32_54 : decode prog_11_method_2_code 54 = .ok (.getfield 50, 3) := by decide +kernel
theorem dd_32_57 : decode prog_11_method_2_code 57 = .ok (.getfield 41, 3) := by decide +kernel
theorem dd_32_60 : decode prog_11_method_2_code 60 = .ok (.if_icmp .ge 28, 3) := by decide +kernel
theorem dd_32_63 : decode prog_11_method_2_code 63 = .ok (.iload_n 2, 1) := by decide +kernel
theorem dd_32_64 : decode prog_11_method_2_code 64 = .ok (.iload 4, 2) := by decide +kernel
theorem dd_32_66 : decode prog_11_method_2_code 66 = .ok (.ishr, 1) := by decide +kernel
theorem dd_32_67 : decode prog_11_method_2_code 67 = .ok (.iconst 1, 1) := by decide +kernel
theorem dd_32_68 : decode prog_11_method_2_code 68 = .ok (.iand, 1) := by decide +kernel
theorem dd_32_69 : decode prog_11_method_2_code 69 = .ok (.ifCond .eq 13, 3) := by decide +kernel
theorem dd_32_72 : decode prog_11_method_2_code 72 = .ok (.aload_n 0, 1) := by decide +kernel
theorem dd_32_73 : decode prog_11_method_2_code 73 = .ok (.aload_n 1, 1) := by decide +kernel
theorem dd_32_74 : decode prog_11_method_2_code 74 = .ok (.getfield 50, 3) := by decide +kernel
theorem dd_32_77 : decode prog_11_method_2_code 77 = .ok (.iload 4, 2) := by decide +kernel
theorem dd_32_79 : decode prog_11_method_2_code 79 = .ok (.invokevirtual 47, 3) := by decide +kernel
theorem dd_32_82 : decode prog_11_method_2_code 82 = .ok (.iinc 4 1, 3) := by decide +kernel
theorem dd_32_85 : decode prog_11_method_2_code 85 = .ok (.goto (-34), 3) := by decide +kernel
theorem dd_32_88 : decode prog_11_method_2_code 88 = .ok (.return_, 1) := by decide +kernel
theorem kb_32_0 : am_row mi_32 0 kr_32_0 := am_rs rfl (ok_aload_n (k := 0) dd_32_0 rfl rfl) (am_rs rfl (ok_aload_n (k := 1) dd_32_1 rfl rfl) (am_rs rfl (ok_gf dd_32_2 rfl am_ck1 (by decide) (Or.inr ⟨_, w_80⟩)) (am_rn rfl (am_rn rfl (am_rs rfl (ok_cv (M' := mi_33) dd_32_5 rfl rfl w_457 w_459 ps_33 ⟨lk_33.1, lk_33.2.1, lk_33.2.2, by decide, by decide⟩ rfl) (am_rn rfl (am_rn rfl (am_rz))))))))
theorem kb_32_1 : am_row mi_32 8 kr_32_1 := am_rs rfl (ok_aload_n (k := 0) dd_32_8 rfl rfl) (am_rs rfl (ok_aload_n (k := 1) dd_32_9 rfl rfl) (am_rs rfl (ok_gf dd_32_10 rfl am_ck1 (by decide) (Or.inr ⟨_, w_87⟩)) (am_rn rfl (am_rn rfl (am_rs rfl (ok_iload_n (k := 3) dd_32_13 rfl rfl) (am_rs rfl (ok_cv (M' := mi_36) dd_32_14 rfl rfl w_469 w_471 ps_36 ⟨lk_36.1, lk_36.2.1, lk_36.2.2, by decide, by decide⟩ rfl) (am_rn rfl (am_rz))))))))
theorem kb_32_2 : am_row mi_32 16 kr_32_2 := am_rn rfl (am_rs rfl (ok_iconst dd_32_17 ic_0 rfl) (am_rs rfl (ok_istore dd_32_18 rfl (by decide)) (am_rn rfl (am_rs rfl (ok_iload dd_32_20 rfl) (am_rn rfl (am_rs rfl (ok_aload_n (k := 1) dd_32_22 rfl rfl) (am_rs rfl (ok_gf dd_32_23 rfl am_ck1 (by decide) (Or.inr ⟨_, w_91⟩)) (am_rz))))))))
theorem kb_32_3 : am_row mi_32 24 kr_32_3 := am_rn rfl (am_rn rfl (am_rs rfl (ok_gf dd_32_26 rfl am_ck8 (by decide) (Or.inr ⟨_, w_63⟩)) (am_rn rfl (am_rn rfl (am_rs rfl (ok_icmp dd_32_29 (by decide) rfl) (am_rn rfl (am_rn rfl (am_rz))))))))
theorem kb_32_4 : am_row mi_32 32 kr_32_4 := am_rs rfl (ok_aload_n (k := 0) dd_32_32 rfl rfl) (am_rs rfl (ok_aload_n (k := 1) dd_32_33 rfl rfl) (am_rs rfl (ok_gf dd_32_34 rfl am_ck1 (by decide) (Or.inr ⟨_, w_91⟩)) (am_rn rfl (am_rn rfl (am_rs rfl (ok_iload dd_32_37 rfl) (am_rn rfl (am_rs rfl (ok_cv (M' := mi_38) dd_32_39 rfl rfl w_477 w_479 ps_38 ⟨lk_38.1, lk_38.2.1, lk_38.2.2, by decide, by decide⟩ rfl) (am_rz))))))))
theorem kb_32_5 : am_row mi_32 40 kr_32_5 := am_rn rfl (am_rn rfl (am_rs rfl (ok_iinc dd_32_42 ic_1 rfl (by decide)) (am_rn rfl (am_rn rfl (am_rs rfl (ok_goto dd_32_45 (by decide)) (am_rn rfl (am_rn rfl (am_rz))))))))
theorem kb_32_6 : am_row mi_32 48 kr_32_6 := am_rs rfl (ok_iconst dd_32_48 ic_0 rfl) (am_rs rfl (ok_istore dd_32_49 rfl (by decide)) (am_rn rfl (am_rs rfl (ok_iload dd_32_51 rfl) (am_rn rfl (am_rs rfl (ok_aload_n (k := 1) dd_32_53 rfl rfl) (am_rs rfl (ok_gf dd_32_54 rfl am_ck1 (by decide) (Or.inr ⟨_, w_95⟩)) (am_rn rfl (am_rz))))))))
theorem kb_32_7 : am_row mi_32 56 kr_32_7 := am_rn rfl (am_rs rfl (ok_gf dd_32_57 rfl am_ck8 (by decide) (Or.inr ⟨_, w_63⟩)) (am_rn rfl (am_rn rfl (am_rs rfl (ok_icmp dd_32_60 (by decide) rfl) (am_rn rfl (am_rn rfl (am_rs rfl (ok_iload_n (k := 2) dd_32_63 rfl rfl) (am_rz))))))))
theorem kb_32_8 : am_row mi_32 64 kr_32_8 := am_rs rfl (ok_iload dd_32_64 rfl) (am_rn rfl (am_rs rfl (ok_ishr dd_32_66 rfl) (am_rs rfl (ok_iconst dd_32_67 ic_1 rfl) (am_rs rfl (ok_iand dd_32_68 rfl) (am_rs rfl (ok_ifc dd_32_69 (by decide) rfl) (am_rn rfl (am_rn rfl (am_rz))))))))
theorem kb_32_9 : am_row mi_32 72 kr_32_9 := am_rs rfl (ok_aload_n (k := 0) dd_32_72 rfl rfl) (am_rs rfl (ok_aload_n (k := 1) dd_32_73 rfl rfl) (am_rs rfl (ok_gf dd_32_74 rfl am_ck1 (by decide) (Or.inr ⟨_, w_95⟩)) (am_rn rfl (am_rn rfl (am_rs rfl (ok_iload dd_32_77 rfl) (am_rn rfl (am_rs rfl (ok_cv (M' := mi_38) dd_32_79 rfl rfl w_477 w_479 ps_38 ⟨lk_38.1, lk_38.2.1, lk_38.2.2, by decide, by decide⟩ rfl) (am_rz))))))))
theorem kb_32_10 : am_row mi_32 80 kr_32_10 := am_rn rfl (am_rn rfl (am_rs rfl (ok_iinc dd_32_82 ic_1 rfl (by decide)) (am_rn rfl (am_rn rfl (am_rs rfl (ok_goto dd_32_85 (by decide)) (am_rn rfl (am_rn rfl (am_rz))))))))
theorem kb_32_11 : am_row mi_32 88 kr_32_11 := am_rs rfl (ok_vret dd_32_88 rfl) (am_rz)
theorem ck_32 : am_rows mi_32 0 cd_32 := am_bs rfl kb_32_0 (am_bs rfl kb_32_1 (am_bs rfl kb_32_2 (am_bs rfl kb_32_3 (am_bs rfl kb_32_4 (am_bs rfl kb_32_5 (am_bs rfl kb_32_6 (am_bs rfl kb_32_7 (am_bs rfl kb_32_8 (am_bs rfl kb_32_9 (am_bs rfl kb_32_10 (am_bs rfl kb_32_11 (am_bz))))))))))))
/-- OverAndBack$Screen.showStations(LOverAndBack$Rows;)V -/
noncomputable def kr_33_0 : List (Option am_Op) := [some (am_psh (.retAddr 0) 1), some (am_ist 2 2), some (am_ild 2 3), some (am_ald0 1 4), some (am_gf 8 3 7), none, none, some (am_br2 .ge 45 10)]
noncomputable def kr_33_1 : List (Option am_Op) := [none, none, some (am_psh (.retAddr 0) 11), some (am_ist 3 12), some (am_ild 3 13), some (am_psh (.retAddr 60) 15), none, some (am_br2 .ge 39 18)]
noncomputable def kr_33_2 : List (Option am_Op) := [none, none, some (am_ald0 0 19), some (am_ild 2 20), some (am_ild 3 21), some (am_ald0 1 22), some (am_ild 2 23), some (am_psh (.retAddr 0) 24)]
noncomputable def kr_33_3 : List (Option am_Op) := [some (am_cv 31 2 8 27), none, none, some (am_psh (.retAddr 8) 29), none, some (am_psh (.retAddr 0) 30), some (am_cv 34 5 9 33), none]
noncomputable def kr_33_4 : List (Option am_Op) := [none, some (am_inc 3 1 36), none, none, some (am_jmp 12), none, none, some (am_inc 2 1 42)]
noncomputable def kr_33_5 : List (Option am_Op) := [none, none, some (am_jmp 2), none, none, some (am_vret)]
noncomputable def cd_33 : am_Cd := [kr_33_0, kr_33_1, kr_33_2, kr_33_3, kr_33_4, kr_33_5]
theorem dd_33_0 : decode prog_11_method_5_code 0 = .ok (.iconst 0, 1) := by decide +kernel
theorem dd_33_1 : decode prog_11_method_5_code 1 = .ok (.istore_n 2, 1) := by decide +kernel
theorem dd_33_2 : decode prog_11_method_5_code 2 = .ok (.iload_n 2, 1) := by decide +kernel
theorem dd_33_3 : decode prog_11_method_5_code 3 = .ok (.aload_n 1, 1) := by decide +kernel
theorem dd_33_4 : decode prog_11_method_5_code 4 = .ok (.getfield 41, 3) := by decide +kernel
theorem dd_33_7 : decode prog_11_method_5_code 7 = .ok (.if_icmp .ge 38, 3) := by decide +kernel
theorem dd_33_10 : decode prog_11_method_5_code 10 = .ok (.iconst 0, 1) := by decide +kernel
theorem dd_33_11 : decode prog_11_method_5_code 11 = .ok (.istore_n 3, 1) := by decide +kernel
theorem dd_33_12 : decode prog_11_method_5_code 12 = .ok (.iload_n 3, 1) := by decide +kernel
theorem dd_33_13 : decode prog_11_method_5_code 13 = .ok (.bipush 60, 2) := by decide +kernel
theorem dd_33_15 : decode prog_11_method_5_code 15 = .ok (.if_icmp .ge 24, 3) := by decide +kernel
theorem dd_33_18 : decode prog_11_method_5_code 18 = .ok (.aload_n 0, 1) := by decide +kernel
theorem dd_33_19 : decode prog_11_method_5_code 19 = .ok (.iload_n 2, 1) := by decide +kernel
theorem dd_33_20 : decode prog_11_method_5_code 20 = .ok (.iload_n 3, 1) := by decide +kernel
theorem dd_33_21 : decode prog_11_method_5_code 21 = .ok (.aload_n 1, 1) := by decide +kernel
theorem dd_33_22 : decode prog_11_method_5_code 22 = .ok (.iload_n 2, 1) := by decide +kernel
theorem dd_33_23 : decode prog_11_method_5_code 23 = .ok (.iconst 0, 1) := by decide +kernel
theorem dd_33_24 : decode prog_11_method_5_code 24 = .ok (.invokevirtual 74, 3) := by decide +kernel
theorem dd_33_27 : decode prog_11_method_5_code 27 = .ok (.bipush 8, 2) := by decide +kernel
theorem dd_33_29 : decode prog_11_method_5_code 29 = .ok (.iconst 0, 1) := by decide +kernel
theorem dd_33_30 : decode prog_11_method_5_code 30 = .ok (.invokevirtual 60, 3) := by decide +kernel
theorem dd_33_33 : decode prog_11_method_5_code 33 = .ok (.iinc 3 1, 3) := by decide +kernel
theorem dd_33_36 : decode prog_11_method_5_code 36 = .ok (.goto (-24), 3) := by decide +kernel
theorem dd_33_39 : decode prog_11_method_5_code 39 = .ok (.iinc 2 1, 3) := by decide +kernel
theorem dd_33_42 : decode prog_11_method_5_code 42 = .ok (.goto (-40), 3) := by decide +kernel
theorem dd_33_45 : decode prog_11_method_5_code 45 = .ok (.return_, 1) := by decide +kernel
theorem kb_33_0 : am_row mi_33 0 kr_33_0 := am_rs rfl (ok_iconst dd_33_0 ic_0 rfl) (am_rs rfl (ok_istore_n (k := 2) dd_33_1 rfl rfl (by decide)) (am_rs rfl (ok_iload_n (k := 2) dd_33_2 rfl rfl) (am_rs rfl (ok_aload_n (k := 1) dd_33_3 rfl rfl) (am_rs rfl (ok_gf dd_33_4 rfl am_ck8 (by decide) (Or.inr ⟨_, w_63⟩)) (am_rn rfl (am_rn rfl (am_rs rfl (ok_icmp dd_33_7 (by decide) rfl) (am_rz))))))))
theorem kb_33_1 : am_row mi_33 8 kr_33_1 := am_rn rfl (am_rn rfl (am_rs rfl (ok_iconst dd_33_10 ic_0 rfl) (am_rs rfl (ok_istore_n (k := 3) dd_33_11 rfl rfl (by decide)) (am_rs rfl (ok_iload_n (k := 3) dd_33_12 rfl rfl) (am_rs rfl (ok_bipush dd_33_13 bi_60 rfl) (am_rn rfl (am_rs rfl (ok_icmp dd_33_15 (by decide) rfl) (am_rz))))))))
theorem kb_33_2 : am_row mi_33 16 kr_33_2 := am_rn rfl (am_rn rfl (am_rs rfl (ok_aload_n (k := 0) dd_33_18 rfl rfl) (am_rs rfl (ok_iload_n (k := 2) dd_33_19 rfl rfl) (am_rs rfl (ok_iload_n (k := 3) dd_33_20 rfl rfl) (am_rs rfl (ok_aload_n (k := 1) dd_33_21 rfl rfl) (am_rs rfl (ok_iload_n (k := 2) dd_33_22 rfl rfl) (am_rs rfl (ok_iconst dd_33_23 ic_0 rfl) (am_rz))))))))
theorem kb_33_3 : am_row mi_33 24 kr_33_3 := am_rs rfl (ok_cv (M' := mi_31) dd_33_24 rfl rfl w_461 w_450 w_451 ⟨lk_31.1, lk_31.2.1, lk_31.2.2, by decide, by decide⟩ rfl) (am_rn rfl (am_rn rfl (am_rs rfl (ok_bipush dd_33_27 bi_8 rfl) (am_rn rfl (am_rs rfl (ok_iconst dd_33_29 ic_0 rfl) (am_rs rfl (ok_cv (M' := mi_34) dd_33_30 rfl rfl w_462 w_464 ps_34 ⟨lk_34.1, lk_34.2.1, lk_34.2.2, by decide, by decide⟩ rfl) (am_rn rfl (am_rz))))))))
theorem kb_33_4 : am_row mi_33 32 kr_33_4 := am_rn rfl (am_rs rfl (ok_iinc dd_33_33 ic_1 rfl (by decide)) (am_rn rfl (am_rn rfl (am_rs rfl (ok_goto dd_33_36 (by decide)) (am_rn rfl (am_rn rfl (am_rs rfl (ok_iinc dd_33_39 ic_1 rfl (by decide)) (am_rz))))))))
theorem kb_33_5 : am_row mi_33 40 kr_33_5 := am_rn rfl (am_rn rfl (am_rs rfl (ok_goto dd_33_42 (by decide)) (am_rn rfl (am_rn rfl (am_rs rfl (ok_vret dd_33_45 rfl) (am_rz))))))
theorem ck_33 : am_rows mi_33 0 cd_33 := am_bs rfl kb_33_0 (am_bs rfl kb_33_1 (am_bs rfl kb_33_2 (am_bs rfl kb_33_3 (am_bs rfl kb_33_4 (am_bs rfl kb_33_5 (am_bz))))))
/-- OverAndBack$Screen.put(IIIII)V -/
noncomputable def kr_34_0 : List (Option am_Op) := [some (am_ild 1 1), some (am_ild 2 2), some (am_cs 35 2 5), none, none, some (am_br1 .eq 42 8), none, none]
noncomputable def kr_34_1 : List (Option am_Op) := [some (am_ild 1 9), some (am_psh (.retAddr 60) 11), none, some (am_bin am_mul 12), some (am_ild 2 13), some (am_bin am_add 14), some (am_ist 6 16), none]
noncomputable def kr_34_2 : List (Option am_Op) := [some (am_ald0 0 17), some (am_gf 9 0 20), none, none, some (am_ild 6 22), none, some (am_ild 3 23), some (am_ast 0 (fun v => v) 24)]
noncomputable def kr_34_3 : List (Option am_Op) := [some (am_ald0 0 25), some (am_gf 9 1 28), none, none, some (am_ild 6 30), none, some (am_ild 4 32), none]
noncomputable def kr_34_4 : List (Option am_Op) := [some (am_ast 0 (fun v => v) 33), some (am_ald0 0 34), some (am_gf 9 2 37), none, none, some (am_ild 6 39), none, some (am_ild 5 41)]
noncomputable def kr_34_5 : List (Option am_Op) := [none, some (am_ast 0 (fun v => v) 42), some (am_vret)]
noncomputable def cd_34 : am_Cd := [kr_34_0, kr_34_1, kr_34_2, kr_34_3, kr_34_4, kr_34_5]
theorem dd_34_0 : decode prog_11_method_9_code 0 = .ok (.iload_n 1, 1) := by decide +kernel
theorem dd_34_1 : decode prog_11_method_9_code 1 = .ok (.iload_n 2, 1) := by decide +kernel
theorem dd_34_2 : decode prog_11_method_9_code 2 = .ok (.invokestatic 81, 3) := by decide +kernel
theorem dd_34_5 : decode prog_11_method_9_code 5 = .ok (.ifCond .eq 37, 3) := by decide +kernel
theorem dd_34_8 : decode prog_11_method_9_code 8 = .ok (.iload_n 1, 1) := by decide +kernel
theorem dd_34_9 : decode prog_11_method_9_code 9 = .ok (.bipush 60, 2) := by decide +kernel
theorem dd_34_11 : decode prog_11_method_9_code 11 = .ok (.imul, 1) := by decide +kernel
theorem dd_34_12 : decode prog_11_method_9_code 12 = .ok (.iload_n 2, 1) := by decide +kernel
theorem dd_34_13 : decode prog_11_method_9_code 13 = .ok (.iadd, 1) := by decide +kernel
theorem dd_34_14 : decode prog_11_method_9_code 14 = .ok (.istore 6, 2) := by decide +kernel
theorem dd_34_16 : decode prog_11_method_9_code 16 = .ok (.aload_n 0, 1) := by decide +kernel
theorem dd_34_17 : decode prog_11_method_9_code 17 = .ok (.getfield 9, 3) := by decide +kernel
theorem dd_34_20 : decode prog_11_method_9_code 20 = .ok (.iload 6, 2) := by decide +kernel
theorem dd_34_22 : decode prog_11_method_9_code 22 = .ok (.iload_n 3, 1) := by decide +kernel
theorem dd_34_23 : decode prog_11_method_9_code 23 = .ok (.iastore, 1) := by decide +kernel
theorem dd_34_24 : decode prog_11_method_9_code 24 = .ok (.aload_n 0, 1) := by decide +kernel
theorem dd_34_25 : decode prog_11_method_9_code 25 = .ok (.getfield 15, 3) := by decide +kernel
theorem dd_34_28 : decode prog_11_method_9_code 28 = .ok (.iload 6, 2) := by decide +kernel
theorem dd_34_30 : decode prog_11_method_9_code 30 = .ok (.iload 4, 2) := by decide +kernel
theorem dd_34_32 : decode prog_11_method_9_code 32 = .ok (.iastore, 1) := by decide +kernel
theorem dd_34_33 : decode prog_11_method_9_code 33 = .ok (.aload_n 0, 1) := by decide +kernel
theorem dd_34_34 : decode prog_11_method_9_code 34 = .ok (.getfield 18, 3) := by decide +kernel
theorem dd_34_37 : decode prog_11_method_9_code 37 = .ok (.iload 6, 2) := by decide +kernel
theorem dd_34_39 : decode prog_11_method_9_code 39 = .ok (.iload 5, 2) := by decide +kernel
theorem dd_34_41 : decode prog_11_method_9_code 41 = .ok (.iastore, 1) := by decide +kernel
theorem dd_34_42 : decode prog_11_method_9_code 42 = .ok (.return_, 1) := by decide +kernel
theorem kb_34_0 : am_row mi_34 0 kr_34_0 := am_rs rfl (ok_iload_n (k := 1) dd_34_0 rfl rfl) (am_rs rfl (ok_iload_n (k := 2) dd_34_1 rfl rfl) (am_rs rfl (ok_cs (M' := mi_35) dd_34_2 rfl rfl w_466 w_467 ⟨lk_35.1, lk_35.2.1, lk_35.2.2, by decide, by decide⟩) (am_rn rfl (am_rn rfl (am_rs rfl (ok_ifc dd_34_5 (by decide) rfl) (am_rn rfl (am_rn rfl (am_rz))))))))
theorem kb_34_1 : am_row mi_34 8 kr_34_1 := am_rs rfl (ok_iload_n (k := 1) dd_34_8 rfl rfl) (am_rs rfl (ok_bipush dd_34_9 bi_60 rfl) (am_rn rfl (am_rs rfl (ok_imul dd_34_11 rfl) (am_rs rfl (ok_iload_n (k := 2) dd_34_12 rfl rfl) (am_rs rfl (ok_iadd dd_34_13 rfl) (am_rs rfl (ok_istore dd_34_14 rfl (by decide)) (am_rn rfl (am_rz))))))))
theorem kb_34_2 : am_row mi_34 16 kr_34_2 := am_rs rfl (ok_aload_n (k := 0) dd_34_16 rfl rfl) (am_rs rfl (ok_gf dd_34_17 rfl am_ck9 (by decide) (Or.inl w_153)) (am_rn rfl (am_rn rfl (am_rs rfl (ok_iload dd_34_20 rfl) (am_rn rfl (am_rs rfl (ok_iload_n (k := 3) dd_34_22 rfl rfl) (am_rs rfl (ok_iast dd_34_23 rfl) (am_rz))))))))
theorem kb_34_3 : am_row mi_34 24 kr_34_3 := am_rs rfl (ok_aload_n (k := 0) dd_34_24 rfl rfl) (am_rs rfl (ok_gf dd_34_25 rfl am_ck9 (by decide) (Or.inl w_154)) (am_rn rfl (am_rn rfl (am_rs rfl (ok_iload dd_34_28 rfl) (am_rn rfl (am_rs rfl (ok_iload dd_34_30 rfl) (am_rn rfl (am_rz))))))))
theorem kb_34_4 : am_row mi_34 32 kr_34_4 := am_rs rfl (ok_iast dd_34_32 rfl) (am_rs rfl (ok_aload_n (k := 0) dd_34_33 rfl rfl) (am_rs rfl (ok_gf dd_34_34 rfl am_ck9 (by decide) (Or.inl w_155)) (am_rn rfl (am_rn rfl (am_rs rfl (ok_iload dd_34_37 rfl) (am_rn rfl (am_rs rfl (ok_iload dd_34_39 rfl) (am_rz))))))))
theorem kb_34_5 : am_row mi_34 40 kr_34_5 := am_rn rfl (am_rs rfl (ok_iast dd_34_41 rfl) (am_rs rfl (ok_vret dd_34_42 rfl) (am_rz)))
theorem ck_34 : am_rows mi_34 0 cd_34 := am_bs rfl kb_34_0 (am_bs rfl kb_34_1 (am_bs rfl kb_34_2 (am_bs rfl kb_34_3 (am_bs rfl kb_34_4 (am_bs rfl kb_34_5 (am_bz))))))
/-- OverAndBack$Screen.isThere(II)Z -/
noncomputable def kr_35_0 : List (Option am_Op) := [some (am_ild 0 1), some (am_br1 .lt 23 4), none, none, some (am_ild 0 5), some (am_psh (.retAddr 4) 6), some (am_br2 .ge 23 9), none]
noncomputable def kr_35_1 : List (Option am_Op) := [none, some (am_ild 1 10), some (am_br1 .lt 23 13), none, none, some (am_ild 1 14), some (am_psh (.retAddr 60) 16), none]
noncomputable def kr_35_2 : List (Option am_Op) := [some (am_br2 .ge 23 19), none, none, some (am_psh (.retAddr 1) 20), some (am_jmp 24), none, none, some (am_psh (.retAddr 0) 24)]
noncomputable def kr_35_3 : List (Option am_Op) := [some (am_zret)]
noncomputable def cd_35 : am_Cd := [kr_35_0, kr_35_1, kr_35_2, kr_35_3]
theorem dd_35_0 : decode prog_11_method_10_code 0 = .ok (.iload_n 0, 1) := by decide +kernel
theorem dd_35_1 : decode prog_11_method_10_code 1 = .ok (.ifCond .lt 22, 3) := by decide +kernel
theorem dd_35_4 : decode prog_11_method_10_code 4 = .ok (.iload_n 0, 1) := by decide +kernel
theorem dd_35_5 : decode prog_11_method_10_code 5 = .ok (.iconst 4, 1) := by decide +kernel
theorem dd_35_6 : decode prog_11_method_10_code 6 = .ok (.if_icmp .ge 17, 3) := by decide +kernel
theorem dd_35_9 : decode prog_11_method_10_code 9 = .ok (.iload_n 1, 1) := by decide +kernel
theorem dd_35_10 : decode prog_11_method_10_code 10 = .ok (.ifCond .lt 13, 3) := by decide +kernel
theorem dd_35_13 : decode prog_11_method_10_code 13 = .ok (.iload_n 1, 1) := by decide +kernel
theorem dd_35_14 : decode prog_11_method_10_code 14 = .ok (.bipush 60, 2) := by decide +kernel
theorem dd_35_16 : decode prog_11_method_10_code 16 = .ok (.if_icmp .ge 7, 3) := by decide +kernel
theorem dd_35_19 : decode prog_11_method_10_code 19 = .ok (.iconst 1, 1) := by decide +kernel
theorem dd_35_20 : decode prog_11_method_10_code 20 = .ok (.goto 4, 3) := by decide +kernel
theorem dd_35_23 : decode prog_11_method_10_code 23 = .ok (.iconst 0, 1) := by decide +kernel
theorem dd_35_24 : decode prog_11_method_10_code 24 = .ok (.ireturn, 1) := by decide +kernel
theorem kb_35_0 : am_row mi_35 0 kr_35_0 := am_rs rfl (ok_iload_n (k := 0) dd_35_0 rfl rfl) (am_rs rfl (ok_ifc dd_35_1 (by decide) rfl) (am_rn rfl (am_rn rfl (am_rs rfl (ok_iload_n (k := 0) dd_35_4 rfl rfl) (am_rs rfl (ok_iconst dd_35_5 ic_4 rfl) (am_rs rfl (ok_icmp dd_35_6 (by decide) rfl) (am_rn rfl (am_rz))))))))
theorem kb_35_1 : am_row mi_35 8 kr_35_1 := am_rn rfl (am_rs rfl (ok_iload_n (k := 1) dd_35_9 rfl rfl) (am_rs rfl (ok_ifc dd_35_10 (by decide) rfl) (am_rn rfl (am_rn rfl (am_rs rfl (ok_iload_n (k := 1) dd_35_13 rfl rfl) (am_rs rfl (ok_bipush dd_35_14 bi_60 rfl) (am_rn rfl (am_rz))))))))
theorem kb_35_2 : am_row mi_35 16 kr_35_2 := am_rs rfl (ok_icmp dd_35_16 (by decide) rfl) (am_rn rfl (am_rn rfl (am_rs rfl (ok_iconst dd_35_19 ic_1 rfl) (am_rs rfl (ok_goto dd_35_20 (by decide)) (am_rn rfl (am_rn rfl (am_rs rfl (ok_iconst dd_35_23 ic_0 rfl) (am_rz))))))))
theorem kb_35_3 : am_row mi_35 24 kr_35_3 := am_rs rfl (ok_zret dd_35_24 rfl) (am_rz)
theorem ck_35 : am_rows mi_35 0 cd_35 := am_bs rfl kb_35_0 (am_bs rfl kb_35_1 (am_bs rfl kb_35_2 (am_bs rfl kb_35_3 (am_bz))))
/-- OverAndBack$Screen.showScenes(LOverAndBack$Rows;I)V -/
noncomputable def kr_36_0 : List (Option am_Op) := [some (am_psh (.retAddr 0) 1), some (am_ist 3 2), some (am_ild 3 3), some (am_ald0 1 4), some (am_gf 8 3 7), none, none, some (am_br2 .ge 27 10)]
noncomputable def kr_36_1 : List (Option am_Op) := [none, none, some (am_ild 3 11), some (am_ild 2 12), some (am_br2 .eq 21 15), none, none, some (am_ald0 0 16)]
noncomputable def kr_36_2 : List (Option am_Op) := [some (am_ald0 1 17), some (am_ild 3 18), some (am_cv 37 2 9 21), none, none, some (am_inc 3 1 24), none, none]
noncomputable def kr_36_3 : List (Option am_Op) := [some (am_jmp 2), none, none, some (am_vret)]
noncomputable def cd_36 : am_Cd := [kr_36_0, kr_36_1, kr_36_2, kr_36_3]
theorem dd_36_0 : decode prog_11_method_6_code 0 = .ok (.iconst 0, 1) := by decide +kernel
theorem dd_36_1 : decode prog_11_method_6_code 1 = .ok (.istore_n 3, 1) := by decide +kernel
theorem dd_36_2 : decode prog_11_method_6_code 2 = .ok (.iload_n 3, 1) := by decide +kernel
theorem dd_36_3 : decode prog_11_method_6_code 3 = .ok (.aload_n 1, 1) := by decide +kernel
theorem dd_36_4 : decode prog_11_method_6_code 4 = .ok (.getfield 41, 3) := by decide +kernel
theorem dd_36_7 : decode prog_11_method_6_code 7 = .ok (.if_icmp .ge 20, 3) := by decide +kernel
theorem dd_36_10 : decode prog_11_method_6_code 10 = .ok (.iload_n 3, 1) := by decide +kernel
theorem dd_36_11 : decode prog_11_method_6_code 11 = .ok (.iload_n 2, 1) := by decide +kernel
theorem dd_36_12 : decode prog_11_method_6_code 12 = .ok (.if_icmp .eq 9, 3) := by decide +kernel
theorem dd_36_15 : decode prog_11_method_6_code 15 = .ok (.aload_n 0, 1) := by decide +kernel
theorem dd_36_16 : decode prog_11_method_6_code 16 = .ok (.aload_n 1, 1) := by decide +kernel
theorem dd_36_17 : decode prog_11_method_6_code 17 = .ok (.iload_n 3, 1) := by decide +kernel
theorem dd_36_18 : decode prog_11_method_6_code 18 = .ok (.invokevirtual 78, 3) := by decide +kernel
theorem dd_36_21 : decode prog_11_method_6_code 21 = .ok (.iinc 3 1, 3) := by decide +kernel
theorem dd_36_24 : decode prog_11_method_6_code 24 = .ok (.goto (-22), 3) := by decide +kernel
theorem dd_36_27 : decode prog_11_method_6_code 27 = .ok (.return_, 1) := by decide +kernel
theorem kb_36_0 : am_row mi_36 0 kr_36_0 := am_rs rfl (ok_iconst dd_36_0 ic_0 rfl) (am_rs rfl (ok_istore_n (k := 3) dd_36_1 rfl rfl (by decide)) (am_rs rfl (ok_iload_n (k := 3) dd_36_2 rfl rfl) (am_rs rfl (ok_aload_n (k := 1) dd_36_3 rfl rfl) (am_rs rfl (ok_gf dd_36_4 rfl am_ck8 (by decide) (Or.inr ⟨_, w_63⟩)) (am_rn rfl (am_rn rfl (am_rs rfl (ok_icmp dd_36_7 (by decide) rfl) (am_rz))))))))
theorem kb_36_1 : am_row mi_36 8 kr_36_1 := am_rn rfl (am_rn rfl (am_rs rfl (ok_iload_n (k := 3) dd_36_10 rfl rfl) (am_rs rfl (ok_iload_n (k := 2) dd_36_11 rfl rfl) (am_rs rfl (ok_icmp dd_36_12 (by decide) rfl) (am_rn rfl (am_rn rfl (am_rs rfl (ok_aload_n (k := 0) dd_36_15 rfl rfl) (am_rz))))))))
theorem kb_36_2 : am_row mi_36 16 kr_36_2 := am_rs rfl (ok_aload_n (k := 1) dd_36_16 rfl rfl) (am_rs rfl (ok_iload_n (k := 3) dd_36_17 rfl rfl) (am_rs rfl (ok_cv (M' := mi_37) dd_36_18 rfl rfl w_473 w_475 ps_37 ⟨lk_37.1, lk_37.2.1, lk_37.2.2, by decide, by decide⟩ rfl) (am_rn rfl (am_rn rfl (am_rs rfl (ok_iinc dd_36_21 ic_1 rfl (by decide)) (am_rn rfl (am_rn rfl (am_rz))))))))
theorem kb_36_3 : am_row mi_36 24 kr_36_3 := am_rs rfl (ok_goto dd_36_24 (by decide)) (am_rn rfl (am_rn rfl (am_rs rfl (ok_vret dd_36_27 rfl) (am_rz))))
theorem ck_36 : am_rows mi_36 0 cd_36 := am_bs rfl kb_36_0 (am_bs rfl kb_36_1 (am_bs rfl kb_36_2 (am_bs rfl kb_36_3 (am_bz))))
/-- OverAndBack$Screen.showScene(LOverAndBack$Rows;I)V -/
noncomputable def kr_37_0 : List (Option am_Op) := [some (am_ald0 1 1), some (am_ild 2 2), some (am_psh (.retAddr 1) 3), some (am_cv 31 2 8 6), none, none, some (am_ist 3 7), some (am_ild 3 8)]
noncomputable def kr_37_1 : List (Option am_Op) := [some (am_ald0 1 9), some (am_ild 2 10), some (am_psh (.retAddr 2) 11), some (am_cv 31 2 8 14), none, none, some (am_br2 .gt 47 17), none]
noncomputable def kr_37_2 : List (Option am_Op) := [none, some (am_ald0 0 18), some (am_ald0 1 19), some (am_ild 2 20), some (am_psh (.retAddr 0) 21), some (am_cv 31 2 8 24), none, none]
noncomputable def kr_37_3 : List (Option am_Op) := [some (am_ild 3 25), some (am_ald0 1 26), some (am_ild 2 27), some (am_psh (.retAddr 3) 28), some (am_cv 31 2 8 31), none, none, some (am_ald0 1 32)]
noncomputable def kr_37_4 : List (Option am_Op) := [some (am_ild 2 33), some (am_psh (.retAddr 4) 34), some (am_cv 31 2 8 37), none, none, some (am_psh (.retAddr 0) 38), some (am_cv 34 5 9 41), none]
noncomputable def kr_37_5 : List (Option am_Op) := [none, some (am_inc 3 1 44), none, none, some (am_jmp 7), none, none, some (am_vret)]
noncomputable def cd_37 : am_Cd := [kr_37_0, kr_37_1, kr_37_2, kr_37_3, kr_37_4, kr_37_5]
theorem dd_37_0 : decode prog_11_method_7_code 0 = .ok (.aload_n 1, 1) := by decide +kernel
theorem dd_37_1 : decode prog_11_method_7_code 1 = .ok (.iload_n 2, 1) := by decide +kernel
theorem dd_37_2 : decode prog_11_method_7_code 2 = .ok (.iconst 1, 1) := by decide +kernel
theorem dd_37_3 : decode prog_11_method_7_code 3 = .ok (.invokevirtual 74, 3) := by decide +kernel
theorem dd_37_6 : decode prog_11_method_7_code 6 = .ok (.istore_n 3, 1) := by decide +kernel
theorem dd_37_7 : decode prog_11_method_7_code 7 = .ok (.iload_n 3, 1) := by decide +kernel
theorem dd_37_8 : decode prog_11_method_7_code 8 = .ok (.aload_n 1, 1) := by decide +kernel
theorem dd_37_9 : decode prog_11_method_7_code 9 = .ok (.iload_n 2, 1) := by decide +kernel
theorem dd_37_10 : decode prog_11_method_7_code 10 = .ok (.iconst 2, 1) := by decide +kernel
theorem dd_37_11 : decode prog_11_method_7_code 11 = .ok (.invokevirtual 74, 3) := by decide +kernel
theorem dd_37_14 : decode prog_11_method_7_code 14 = .ok (.if_icmp .gt 33, 3) := by decide +kernel
theorem dd_37_17 : decode prog_11_method_7_code 17 = .ok (.aload_n 0, 1) := by decide +kernel
theorem dd_37_18 : decode prog_11_method_7_code 18 = .ok (.aload_n 1, 1) := by decide +kernel
theorem dd_37_19 : decode prog_11_method_7_code 19 = .ok (.iload_n 2, 1) := by decide +kernel
theorem dd_37_20 : decode prog_11_method_7_code 20 = .ok (.iconst 0, 1) := by decide +kernel
theorem dd_37_21 : decode prog_11_method_7_code 21 = .ok (.invokevirtual 74, 3) := by decide +kernel
theorem dd_37_24 : decode prog_11_method_7_code 24 = .ok (.iload_n 3, 1) := by decide +kernel
theorem dd_37_25 : decode prog_11_method_7_code 25 = .ok (.aload_n 1, 1) := by decide +kernel
theorem dd_37_26 : decode prog_11_method_7_code 26 = .ok (.iload_n 2, 1) := by decide +kernel
theorem dd_37_27 : decode prog_11_method_7_code 27 = .ok (.iconst 3, 1) := by decide +kernel
theorem dd_37_28 : decode prog_11_method_7_code 28 = .ok (.invokevirtual 74, 3) := by decide +kernel
theorem dd_37_31 : decode prog_11_method_7_code 31 = .ok (.aload_n 1, 1) := by decide +kernel
theorem dd_37_32 : decode prog_11_method_7_code 32 = .ok (.iload_n 2, 1) := by decide +kernel
theorem dd_37_33 : decode prog_11_method_7_code 33 = .ok (.iconst 4, 1) := by decide +kernel
theorem dd_37_34 : decode prog_11_method_7_code 34 = .ok (.invokevirtual 74, 3) := by decide +kernel
theorem dd_37_37 : decode prog_11_method_7_code 37 = .ok (.iconst 0, 1) := by decide +kernel
theorem dd_37_38 : decode prog_11_method_7_code 38 = .ok (.invokevirtual 60, 3) := by decide +kernel
theorem dd_37_41 : decode prog_11_method_7_code 41 = .ok (.iinc 3 1, 3) := by decide +kernel
theorem dd_37_44 : decode prog_11_method_7_code 44 = .ok (.goto (-37), 3) := by decide +kernel
theorem dd_37_47 : decode prog_11_method_7_code 47 = .ok (.return_, 1) := by decide +kernel
theorem kb_37_0 : am_row mi_37 0 kr_37_0 := am_rs rfl (ok_aload_n (k := 1) dd_37_0 rfl rfl) (am_rs rfl (ok_iload_n (k := 2) dd_37_1 rfl rfl) (am_rs rfl (ok_iconst dd_37_2 ic_1 rfl) (am_rs rfl (ok_cv (M' := mi_31) dd_37_3 rfl rfl w_461 w_450 w_451 ⟨lk_31.1, lk_31.2.1, lk_31.2.2, by decide, by decide⟩ rfl) (am_rn rfl (am_rn rfl (am_rs rfl (ok_istore_n (k := 3) dd_37_6 rfl rfl (by decide)) (am_rs rfl (ok_iload_n (k := 3) dd_37_7 rfl rfl) (am_rz))))))))
theorem kb_37_1 : am_row mi_37 8 kr_37_1 := am_rs rfl (ok_aload_n (k := 1) dd_37_8 rfl rfl) (am_rs rfl (ok_iload_n (k := 2) dd_37_9 rfl rfl) (am_rs rfl (ok_iconst dd_37_10 ic_2 rfl) (am_rs rfl (ok_cv (M' := mi_31) dd_37_11 rfl rfl w_461 w_450 w_451 ⟨lk_31.1, lk_31.2.1, lk_31.2.2, by decide, by decide⟩ rfl) (am_rn rfl (am_rn rfl (am_rs rfl (ok_icmp dd_37_14 (by decide) rfl) (am_rn rfl (am_rz))))))))
theorem kb_37_2 : am_row mi_37 16 kr_37_2 := am_rn rfl (am_rs rfl (ok_aload_n (k := 0) dd_37_17 rfl rfl) (am_rs rfl (ok_aload_n (k := 1) dd_37_18 rfl rfl) (am_rs rfl (ok_iload_n (k := 2) dd_37_19 rfl rfl) (am_rs rfl (ok_iconst dd_37_20 ic_0 rfl) (am_rs rfl (ok_cv (M' := mi_31) dd_37_21 rfl rfl w_461 w_450 w_451 ⟨lk_31.1, lk_31.2.1, lk_31.2.2, by decide, by decide⟩ rfl) (am_rn rfl (am_rn rfl (am_rz))))))))
theorem kb_37_3 : am_row mi_37 24 kr_37_3 := am_rs rfl (ok_iload_n (k := 3) dd_37_24 rfl rfl) (am_rs rfl (ok_aload_n (k := 1) dd_37_25 rfl rfl) (am_rs rfl (ok_iload_n (k := 2) dd_37_26 rfl rfl) (am_rs rfl (ok_iconst dd_37_27 ic_3 rfl) (am_rs rfl (ok_cv (M' := mi_31) dd_37_28 rfl rfl w_461 w_450 w_451 ⟨lk_31.1, lk_31.2.1, lk_31.2.2, by decide, by decide⟩ rfl) (am_rn rfl (am_rn rfl (am_rs rfl (ok_aload_n (k := 1) dd_37_31 rfl rfl) (am_rz))))))))
theorem kb_37_4 : am_row mi_37 32 kr_37_4 := am_rs rfl (ok_iload_n (k := 2) dd_37_32 rfl rfl) (am_rs rfl (ok_iconst dd_37_33 ic_4 rfl) (am_rs rfl (ok_cv (M' := mi_31) dd_37_34 rfl rfl w_461 w_450 w_451 ⟨lk_31.1, lk_31.2.1, lk_31.2.2, by decide, by decide⟩ rfl) (am_rn rfl (am_rn rfl (am_rs rfl (ok_iconst dd_37_37 ic_0 rfl) (am_rs rfl (ok_cv (M' := mi_34) dd_37_38 rfl rfl w_462 w_464 ps_34 ⟨lk_34.1, lk_34.2.1, lk_34.2.2, by decide, by decide⟩ rfl) (am_rn rfl (am_rz))))))))
theorem kb_37_5 : am_row mi_37 40 kr_37_5 := am_rn rfl (am_rs rfl (ok_iinc dd_37_41 ic_1 rfl (by decide)) (am_rn rfl (am_rn rfl (am_rs rfl (ok_goto dd_37_44 (by decide)) (am_rn rfl (am_rn rfl (am_rs rfl (ok_vret dd_37_47 rfl) (am_rz))))))))
theorem ck_37 : am_rows mi_37 0 cd_37 := am_bs rfl kb_37_0 (am_bs rfl kb_37_1 (am_bs rfl kb_37_2 (am_bs rfl kb_37_3 (am_bs rfl kb_37_4 (am_bs rfl kb_37_5 (am_bz))))))
/-- OverAndBack$Screen.showBreak(LOverAndBack$Rows;I)V -/
noncomputable def kr_38_0 : List (Option am_Op) := [some (am_ald0 1 1), some (am_ild 2 2), some (am_psh (.retAddr 1) 3), some (am_cv 31 2 8 6), none, none, some (am_ist 3 7), some (am_ild 3 8)]
noncomputable def kr_38_1 : List (Option am_Op) := [some (am_ald0 1 9), some (am_ild 2 10), some (am_psh (.retAddr 2) 11), some (am_cv 31 2 8 14), none, none, some (am_br2 .gt 38 17), none]
noncomputable def kr_38_2 : List (Option am_Op) := [none, some (am_ald0 0 18), some (am_ald0 1 19), some (am_ild 2 20), some (am_psh (.retAddr 0) 21), some (am_cv 31 2 8 24), none, none]
noncomputable def kr_38_3 : List (Option am_Op) := [some (am_ild 3 25), some (am_psh (.retAddr 0) 26), some (am_psh (.retAddr 8) 28), none, some (am_psh (.retAddr 1) 29), some (am_cv 34 5 9 32), none, none]
noncomputable def kr_38_4 : List (Option am_Op) := [some (am_inc 3 1 35), none, none, some (am_jmp 7), none, none, some (am_vret)]
noncomputable def cd_38 : am_Cd := [kr_38_0, kr_38_1, kr_38_2, kr_38_3, kr_38_4]
theorem dd_38_0 : decode prog_11_method_8_code 0 = .ok (.aload_n 1, 1) := by decide +kernel
theorem dd_38_1 : decode prog_11_method_8_code 1 = .ok (.iload_n 2, 1) := by decide +kernel
theorem dd_38_2 : decode prog_11_method_8_code 2 = .ok (.iconst 1, 1) := by decide +kernel
theorem dd_38_3 : decode prog_11_method_8_code 3 = .ok (.invokevirtual 74, 3) := by decide +kernel
theorem dd_38_6 : decode prog_11_method_8_code 6 = .ok (.istore_n 3, 1) := by decide +kernel
theorem dd_38_7 : decode prog_11_method_8_code 7 = .ok (.iload_n 3, 1) := by decide +kernel
theorem dd_38_8 : decode prog_11_method_8_code 8 = .ok (.aload_n 1, 1) := by decide +kernel
theorem dd_38_9 : decode prog_11_method_8_code 9 = .ok (.iload_n 2, 1) := by decide +kernel
theorem dd_38_10 : decode prog_11_method_8_code 10 = .ok (.iconst 2, 1) := by decide +kernel
theorem dd_38_11 : decode prog_11_method_8_code 11 = .ok (.invokevirtual 74, 3) := by decide +kernel
theorem dd_38_14 : decode prog_11_method_8_code 14 = .ok (.if_icmp .gt 24, 3) := by decide +kernel
theorem dd_38_17 : decode prog_11_method_8_code 17 = .ok (.aload_n 0, 1) := by decide +kernel
theorem dd_38_18 : decode prog_11_method_8_code 18 = .ok (.aload_n 1, 1) := by decide +kernel
theorem dd_38_19 : decode prog_11_method_8_code 19 = .ok (.iload_n 2, 1) := by decide +kernel
theorem dd_38_20 : decode prog_11_method_8_code 20 = .ok (.iconst 0, 1) := by decide +kernel
theorem dd_38_21 : decode prog_11_method_8_code 21 = .ok (.invokevirtual 74, 3) := by decide +kernel
theorem dd_38_24 : decode prog_11_method_8_code 24 = .ok (.iload_n 3, 1) := by decide +kernel
theorem dd_38_25 : decode prog_11_method_8_code 25 = .ok (.iconst 0, 1) := by decide +kernel
theorem dd_38_26 : decode prog_11_method_8_code 26 = .ok (.bipush 8, 2) := by decide +kernel
theorem dd_38_28 : decode prog_11_method_8_code 28 = .ok (.iconst 1, 1) := by decide +kernel
theorem dd_38_29 : decode prog_11_method_8_code 29 = .ok (.invokevirtual 60, 3) := by decide +kernel
theorem dd_38_32 : decode prog_11_method_8_code 32 = .ok (.iinc 3 1, 3) := by decide +kernel
theorem dd_38_35 : decode prog_11_method_8_code 35 = .ok (.goto (-28), 3) := by decide +kernel
theorem dd_38_38 : decode prog_11_method_8_code 38 = .ok (.return_, 1) := by decide +kernel
theorem kb_38_0 : am_row mi_38 0 kr_38_0 := am_rs rfl (ok_aload_n (k := 1) dd_38_0 rfl rfl) (am_rs rfl (ok_iload_n (k := 2) dd_38_1 rfl rfl) (am_rs rfl (ok_iconst dd_38_2 ic_1 rfl) (am_rs rfl (ok_cv (M' := mi_31) dd_38_3 rfl rfl w_461 w_450 w_451 ⟨lk_31.1, lk_31.2.1, lk_31.2.2, by decide, by decide⟩ rfl) (am_rn rfl (am_rn rfl (am_rs rfl (ok_istore_n (k := 3) dd_38_6 rfl rfl (by decide)) (am_rs rfl (ok_iload_n (k := 3) dd_38_7 rfl rfl) (am_rz))))))))
theorem kb_38_1 : am_row mi_38 8 kr_38_1 := am_rs rfl (ok_aload_n (k := 1) dd_38_8 rfl rfl) (am_rs rfl (ok_iload_n (k := 2) dd_38_9 rfl rfl) (am_rs rfl (ok_iconst dd_38_10 ic_2 rfl) (am_rs rfl (ok_cv (M' := mi_31) dd_38_11 rfl rfl w_461 w_450 w_451 ⟨lk_31.1, lk_31.2.1, lk_31.2.2, by decide, by decide⟩ rfl) (am_rn rfl (am_rn rfl (am_rs rfl (ok_icmp dd_38_14 (by decide) rfl) (am_rn rfl (am_rz))))))))
theorem kb_38_2 : am_row mi_38 16 kr_38_2 := am_rn rfl (am_rs rfl (ok_aload_n (k := 0) dd_38_17 rfl rfl) (am_rs rfl (ok_aload_n (k := 1) dd_38_18 rfl rfl) (am_rs rfl (ok_iload_n (k := 2) dd_38_19 rfl rfl) (am_rs rfl (ok_iconst dd_38_20 ic_0 rfl) (am_rs rfl (ok_cv (M' := mi_31) dd_38_21 rfl rfl w_461 w_450 w_451 ⟨lk_31.1, lk_31.2.1, lk_31.2.2, by decide, by decide⟩ rfl) (am_rn rfl (am_rn rfl (am_rz))))))))
theorem kb_38_3 : am_row mi_38 24 kr_38_3 := am_rs rfl (ok_iload_n (k := 3) dd_38_24 rfl rfl) (am_rs rfl (ok_iconst dd_38_25 ic_0 rfl) (am_rs rfl (ok_bipush dd_38_26 bi_8 rfl) (am_rn rfl (am_rs rfl (ok_iconst dd_38_28 ic_1 rfl) (am_rs rfl (ok_cv (M' := mi_34) dd_38_29 rfl rfl w_462 w_464 ps_34 ⟨lk_34.1, lk_34.2.1, lk_34.2.2, by decide, by decide⟩ rfl) (am_rn rfl (am_rn rfl (am_rz))))))))
theorem kb_38_4 : am_row mi_38 32 kr_38_4 := am_rs rfl (ok_iinc dd_38_32 ic_1 rfl (by decide)) (am_rn rfl (am_rn rfl (am_rs rfl (ok_goto dd_38_35 (by decide)) (am_rn rfl (am_rn rfl (am_rs rfl (ok_vret dd_38_38 rfl) (am_rz)))))))
theorem ck_38 : am_rows mi_38 0 cd_38 := am_bs rfl kb_38_0 (am_bs rfl kb_38_1 (am_bs rfl kb_38_2 (am_bs rfl kb_38_3 (am_bs rfl kb_38_4 (am_bz)))))
/-- OverAndBack$Routes.measure(LOverAndBack$Evening;LOverAndBack$Screen;)V -/
noncomputable def kr_39_0 : List (Option am_Op) := [some (am_ald0 0 1), some (am_ald0 1 2), some (am_gf 1 6 5), none, none, some (am_psh (.retAddr 60) 7), none, some (am_mmin 10)]
noncomputable def kr_39_1 : List (Option am_Op) := [none, none, some (am_pf 7 1 0 13), none, none, some (am_ald0 0 14), some (am_gf 7 1 17), none]
noncomputable def kr_39_2 : List (Option am_Op) := [none, some (am_psh (.retAddr 1) 18), some (am_bin am_sub 19), some (am_ist 3 20), some (am_ild 3 21), some (am_br1 .lt 78 24), none, none]
noncomputable def kr_39_3 : List (Option am_Op) := [some (am_psh (.retAddr 0) 25), some (am_ist 4 27), none, some (am_ild 4 29), none, some (am_ald0 1 30), some (am_gf 1 0 33), none]
noncomputable def kr_39_4 : List (Option am_Op) := [none, some (am_gf 8 3 36), none, none, some (am_br2 .ge 72 39), none, none, some (am_ild 4 41)]
noncomputable def kr_39_5 : List (Option am_Op) := [none, some (am_psh (.retAddr 4) 42), some (am_br2 .ge 72 45), none, none, some (am_ald0 0 46), some (am_gf 7 0 49), none]
noncomputable def kr_39_6 : List (Option am_Op) := [none, some (am_ild 4 51), none, some (am_psh (.retAddr 60) 53), none, some (am_bin am_mul 54), some (am_ild 3 55), some (am_bin am_add 56)]
noncomputable def kr_39_7 : List (Option am_Op) := [some (am_ald0 0 57), some (am_ald0 1 58), some (am_ald0 2 59), some (am_ild 4 61), none, some (am_ild 3 62), some (am_cv 40 4 7 65), none]
noncomputable def kr_39_8 : List (Option am_Op) := [none, some (am_ast 0 (fun v => v) 66), some (am_inc 4 1 69), none, none, some (am_jmp 27), none, none]
noncomputable def kr_39_9 : List (Option am_Op) := [some (am_inc 3 4294967295 75), none, none, some (am_jmp 20), none, none, some (am_vret)]
noncomputable def cd_39 : am_Cd := [kr_39_0, kr_39_1, kr_39_2, kr_39_3, kr_39_4, kr_39_5, kr_39_6, kr_39_7, kr_39_8, kr_39_9]
theorem dd_39_0 : decode prog_9_method_2_code 0 = .ok (.aload_n 0, 1) := by decide +kernel
theorem dd_39_1 : decode prog_9_method_2_code 1 = .ok (.aload_n 1, 1) := by decide +kernel
theorem dd_39_2 : decode prog_9_method_2_code 2 = .ok (.getfield 25, 3) := by decide +kernel
theorem dd_39_5 : decode prog_9_method_2_code 5 = .ok (.bipush 60, 2) := by decide +kernel
theorem dd_39_7 : decode prog_9_method_2_code 7 = .ok (.invokestatic 28, 3) := by decide +kernel
theorem dd_39_10 : decode prog_9_method_2_code 10 = .ok (.putfield 15, 3) := by decide +kernel
theorem dd_39_13 : decode prog_9_method_2_code 13 = .ok (.aload_n 0, 1) := by decide +kernel
theorem dd_39_14 : decode prog_9_method_2_code 14 = .ok (.getfield 15, 3) := by decide +kernel
theorem dd_39_17 : decode prog_9_method_2_code 17 = .ok (.iconst 1, 1) := by decide +kernel
theorem dd_39_18 : decode prog_9_method_2_code 18 = .ok (.isub, 1) := by decide +kernel
theorem dd_39_19 : decode prog_9_method_2_code 19 = .ok (.istore_n 3, 1) := by decide +kernel
theorem dd_39_20 : decode prog_9_method_2_code 20 = .ok (.iload_n 3, 1) := by decide +kernel
theorem dd_39_21 : decode prog_9_method_2_code 21 = .ok (.ifCond .lt 57, 3) := by decide +kernel
theorem dd_39_24 : decode prog_9_method_2_code 24 = .ok (.iconst 0, 1) := by decide +kernel
theorem dd_39_25 : decode prog_9_method_2_code 25 = .ok (.istore 4, 2) := by decide +kernel
theorem dd_39_27 : decode prog_9_method_2_code 27 = .ok (.iload 4, 2) := by decide +kernel
theorem dd_39_29 : decode prog_9_method_2_code 29 = .ok (.aload_n 1, 1) := by decide +kernel
theorem dd_39_30 : decode prog_9_method_2_code 30 = .ok (.getfield 34, 3) := by decide +kernel
theorem dd_39_33 : decode prog_9_method_2_code 33 = .ok (.getfield 38, 3) := by decide +kernel
theorem dd_39_36 : decode prog_9_method_2_code 36 = .ok (.if_icmp .ge 36, 3) := by decide +kernel
theorem dd_39_39 : decode prog_9_method_2_code 39 = .ok (.iload 4, 2) := by decide +kernel
theorem dd_39_41 : decode prog_9_method_2_code 41 = .ok (.iconst 4, 1) := by decide +kernel
theorem dd_39_42 : decode prog_9_method_2_code 42 = .ok (.if_icmp .ge 30, 3) := by decide +kernel
theorem dd_39_45 : decode prog_9_method_2_code 45 = .ok (.aload_n 0, 1) := by decide +kernel
theorem dd_39_46 : decode prog_9_method_2_code 46 = .ok (.getfield 9, 3) := by decide +kernel
theorem dd_39_49 : decode prog_9_method_2_code 49 = .ok (.iload 4, 2) := by decide +kernel
theorem dd_39_51 : decode prog_9_method_2_code 51 = .ok (.bipush 60, 2) := by decide +kernel
theorem dd_39_53 : decode prog_9_method_2_code 53 = .ok (.imul, 1) := by decide +kernel
theorem dd_39_54 : decode prog_9_method_2_code 54 = .ok (.iload_n 3, 1) := by decide +kernel
theorem dd_39_55 : decode prog_9_method_2_code 55 = .ok (.iadd, 1) := by decide +kernel
theorem dd_39_56 : decode prog_9_method_2_code 56 = .ok (.aload_n 0, 1) := by decide +kernel
theorem dd_39_57 : decode prog_9_method_2_code 57 = .ok (.aload_n 1, 1) := by decide +kernel
theorem dd_39_58 : decode prog_9_method_2_code 58 = .ok (.aload_n 2, 1) := by decide +kernel
theorem dd_39_59 : decode prog_9_method_2_code 59 = .ok (.iload 4, 2) := by decide +kernel
theorem dd_39_61 : decode prog_9_method_2_code 61 = .ok (.iload_n 3, 1) := by decide +kernel
theorem dd_39_62 : decode prog_9_method_2_code 62 = .ok (.invokevirtual 43, 3) := by decide +kernel
theorem dd_39_65 : decode prog_9_method_2_code 65 = .ok (.iastore, 1) := by decide +kernel
theorem dd_39_66 : decode prog_9_method_2_code 66 = .ok (.iinc 4 1, 3) := by decide +kernel
theorem dd_39_69 : decode prog_9_method_2_code 69 = .ok (.goto (-42), 3) := by decide +kernel
theorem dd_39_72 : decode prog_9_method_2_code 72 = .ok (.iinc 3 (-1), 3) := by decide +kernel
theorem dd_39_75 : decode prog_9_method_2_code 75 = .ok (.goto (-55), 3) := by decide +kernel
theorem dd_39_78 : decode prog_9_method_2_code 78 = .ok (.return_, 1) := by decide +kernel
theorem kb_39_0 : am_row mi_39 0 kr_39_0 := am_rs rfl (ok_aload_n (k := 0) dd_39_0 rfl rfl) (am_rs rfl (ok_aload_n (k := 1) dd_39_1 rfl rfl) (am_rs rfl (ok_gf dd_39_2 rfl am_ck1 (by decide) (Or.inr ⟨_, w_106⟩)) (am_rn rfl (am_rn rfl (am_rs rfl (ok_bipush dd_39_5 bi_60 rfl) (am_rn rfl (am_rs rfl (ok_mmin dd_39_7 rfl w_485 w_393 w_18 w_394 ⟨by decide, by decide⟩) (am_rz))))))))
theorem kb_39_1 : am_row mi_39 8 kr_39_1 := am_rn rfl (am_rn rfl (am_rs rfl (ok_pf dd_39_10 rfl am_ck7 (by decide) (Or.inl w_201) (Or.inl rfl) rfl) (am_rn rfl (am_rn rfl (am_rs rfl (ok_aload_n (k := 0) dd_39_13 rfl rfl) (am_rs rfl (ok_gf dd_39_14 rfl am_ck7 (by decide) (Or.inl w_201)) (am_rn rfl (am_rz))))))))
theorem kb_39_2 : am_row mi_39 16 kr_39_2 := am_rn rfl (am_rs rfl (ok_iconst dd_39_17 ic_1 rfl) (am_rs rfl (ok_isub dd_39_18 rfl) (am_rs rfl (ok_istore_n (k := 3) dd_39_19 rfl rfl (by decide)) (am_rs rfl (ok_iload_n (k := 3) dd_39_20 rfl rfl) (am_rs rfl (ok_ifc dd_39_21 (by decide) rfl) (am_rn rfl (am_rn rfl (am_rz))))))))
theorem kb_39_3 : am_row mi_39 24 kr_39_3 := am_rs rfl (ok_iconst dd_39_24 ic_0 rfl) (am_rs rfl (ok_istore dd_39_25 rfl (by decide)) (am_rn rfl (am_rs rfl (ok_iload dd_39_27 rfl) (am_rn rfl (am_rs rfl (ok_aload_n (k := 1) dd_39_29 rfl rfl) (am_rs rfl (ok_gf dd_39_30 rfl am_ck1 (by decide) (Or.inr ⟨_, w_83⟩)) (am_rn rfl (am_rz))))))))
theorem kb_39_4 : am_row mi_39 32 kr_39_4 := am_rn rfl (am_rs rfl (ok_gf dd_39_33 rfl am_ck8 (by decide) (Or.inr ⟨_, w_64⟩)) (am_rn rfl (am_rn rfl (am_rs rfl (ok_icmp dd_39_36 (by decide) rfl) (am_rn rfl (am_rn rfl (am_rs rfl (ok_iload dd_39_39 rfl) (am_rz))))))))
theorem kb_39_5 : am_row mi_39 40 kr_39_5 := am_rn rfl (am_rs rfl (ok_iconst dd_39_41 ic_4 rfl) (am_rs rfl (ok_icmp dd_39_42 (by decide) rfl) (am_rn rfl (am_rn rfl (am_rs rfl (ok_aload_n (k := 0) dd_39_45 rfl rfl) (am_rs rfl (ok_gf dd_39_46 rfl am_ck7 (by decide) (Or.inl w_200)) (am_rn rfl (am_rz))))))))
theorem kb_39_6 : am_row mi_39 48 kr_39_6 := am_rn rfl (am_rs rfl (ok_iload dd_39_49 rfl) (am_rn rfl (am_rs rfl (ok_bipush dd_39_51 bi_60 rfl) (am_rn rfl (am_rs rfl (ok_imul dd_39_53 rfl) (am_rs rfl (ok_iload_n (k := 3) dd_39_54 rfl rfl) (am_rs rfl (ok_iadd dd_39_55 rfl) (am_rz))))))))
theorem kb_39_7 : am_row mi_39 56 kr_39_7 := am_rs rfl (ok_aload_n (k := 0) dd_39_56 rfl rfl) (am_rs rfl (ok_aload_n (k := 1) dd_39_57 rfl rfl) (am_rs rfl (ok_aload_n (k := 2) dd_39_58 rfl rfl) (am_rs rfl (ok_iload dd_39_59 rfl) (am_rn rfl (am_rs rfl (ok_iload_n (k := 3) dd_39_61 rfl rfl) (am_rs rfl (ok_cv (M' := mi_40) dd_39_62 rfl rfl w_486 w_488 ps_40 ⟨lk_40.1, lk_40.2.1, lk_40.2.2, by decide, by decide⟩ rfl) (am_rn rfl (am_rz))))))))
theorem kb_39_8 : am_row mi_39 64 kr_39_8 := am_rn rfl (am_rs rfl (ok_iast dd_39_65 rfl) (am_rs rfl (ok_iinc dd_39_66 ic_1 rfl (by decide)) (am_rn rfl (am_rn rfl (am_rs rfl (ok_goto dd_39_69 (by decide)) (am_rn rfl (am_rn rfl (am_rz))))))))
theorem kb_39_9 : am_row mi_39 72 kr_39_9 := am_rs rfl (ok_iinc dd_39_72 ic_m1 rfl (by decide)) (am_rn rfl (am_rn rfl (am_rs rfl (ok_goto dd_39_75 (by decide)) (am_rn rfl (am_rn rfl (am_rs rfl (ok_vret dd_39_78 rfl) (am_rz)))))))
theorem ck_39 : am_rows mi_39 0 cd_39 := am_bs rfl kb_39_0 (am_bs rfl kb_39_1 (am_bs rfl kb_39_2 (am_bs rfl kb_39_3 (am_bs rfl kb_39_4 (am_bs rfl kb_39_5 (am_bs rfl kb_39_6 (am_bs rfl kb_39_7 (am_bs rfl kb_39_8 (am_bs rfl kb_39_9 (am_bz))))))))))
/-- OverAndBack$Routes.greatestAt(LOverAndBack$Evening;LOverAndBack$Screen;II)I -/
noncomputable def kr_40_0 : List (Option am_Op) := [some (am_ald0 2 1), some (am_ild 3 2), some (am_ild 4 4), none, some (am_cv 41 2 9 7), none, none, some (am_ald0 0 8)]
noncomputable def kr_40_1 : List (Option am_Op) := [some (am_ild 3 9), some (am_ild 4 11), none, some (am_psh (.retAddr 1) 12), some (am_bin am_add 13), some (am_cv 42 2 7 16), none, none]
noncomputable def kr_40_2 : List (Option am_Op) := [some (am_bin am_add 17), some (am_ist 5 19), none, some (am_psh (.retAddr 0) 20), some (am_ist 6 22), none, some (am_ild 6 24), none]
noncomputable def kr_40_3 : List (Option am_Op) := [some (am_ald0 1 25), some (am_gf 1 0 28), none, none, some (am_gf 8 3 31), none, none, some (am_br2 .ge 66 34)]
noncomputable def kr_40_4 : List (Option am_Op) := [none, none, some (am_ild 6 36), none, some (am_ild 3 37), some (am_br2 .eq 60 40), none, none]
noncomputable def kr_40_5 : List (Option am_Op) := [some (am_ild 5 42), none, some (am_ald0 0 43), some (am_ald0 2 44), some (am_ild 6 46), none, some (am_ild 4 48), none]
noncomputable def kr_40_6 : List (Option am_Op) := [some (am_ald0 1 49), some (am_gf 1 7 52), none, none, some (am_cv 43 4 7 55), none, none, some (am_mmax 58)]
noncomputable def kr_40_7 : List (Option am_Op) := [none, none, some (am_ist 5 60), none, some (am_inc 6 1 63), none, none, some (am_jmp 22)]
noncomputable def kr_40_8 : List (Option am_Op) := [none, none, some (am_ild 5 68), none, some (am_iret)]
noncomputable def cd_40 : am_Cd := [kr_40_0, kr_40_1, kr_40_2, kr_40_3, kr_40_4, kr_40_5, kr_40_6, kr_40_7, kr_40_8]
theorem dd_40_0 : decode prog_9_method_5_code 0 = .ok (.aload_n 2, 1) := by decide +kernel
theorem dd_40_1 : decode prog_9_method_5_code 1 = .ok (.iload_n 3, 1) := by decide +kernel
theorem dd_40_2 : decode prog_9_method_5_code 2 = .ok (.iload 4, 2) := by decide +kernel
theorem dd_40_4 : decode prog_9_method_5_code 4 = .ok (.invokevirtual 54, 3) := by decide +kernel
theorem dd_40_7 : decode prog_9_method_5_code 7 = .ok (.aload_n 0, 1) := by decide +kernel
theorem dd_40_8 : decode prog_9_method_5_code 8 = .ok (.iload_n 3, 1) := by decide +kernel
theorem dd_40_9 : decode prog_9_method_5_code 9 = .ok (.iload 4, 2) := by decide +kernel
theorem dd_40_11 : decode prog_9_method_5_code 11 = .ok (.iconst 1, 1) := by decide +kernel
theorem dd_40_12 : decode prog_9_method_5_code 12 = .ok (.iadd, 1) := by decide +kernel
theorem dd_40_13 : decode prog_9_method_5_code 13 = .ok (.invokevirtual 47, 3) := by decide +kernel
theorem dd_40_16 : decode prog_9_method_5_code 16 = .ok (.iadd, 1) := by decide +kernel
theorem dd_40_17 : decode prog_9_method_5_code 17 = .ok (.istore 5, 2) := by decide +kernel
theorem dd_40_19 : decode prog_9_method_5_code 19 = .ok (.iconst 0, 1) := by decide +kernel
theorem dd_40_20 : decode prog_9_method_5_code 20 = .ok (.istore 6, 2) := by decide +kernel
theorem dd_40_22 : decode prog_9_method_5_code 22 = .ok (.iload 6, 2) := by decide +kernel
theorem dd_40_24 : decode prog_9_method_5_code 24 = .ok (.aload_n 1, 1) := by decide +kernel
theorem dd_40_25 : decode prog_9_method_5_code 25 = .ok (.getfield 34, 3) := by decide +kernel
theorem dd_40_28 : decode prog_9_method_5_code 28 = .ok (.getfield 38, 3) := by decide +kernel
theorem dd_40_31 : decode prog_9_method_5_code 31 = .ok (.if_icmp .ge 35, 3) := by decide +kernel
theorem dd_40_34 : decode prog_9_method_5_code 34 = .ok (.iload 6, 2) := by decide +kernel
theorem dd_40_36 : decode prog_9_method_5_code 36 = .ok (.iload_n 3, 1) := by decide +kernel
theorem dd_40_37 : decode prog_9_method_5_code 37 = .ok (.if_icmp .eq 23, 3) := by decide +kernel
theorem dd_40_40 : decode prog_9_method_5_code 40 = .ok (.iload 5, 2) := by decide +kernel
theorem dd_40_42 : decode prog_9_method_5_code 42 = .ok (.aload_n 0, 1) := by decide +kernel
theorem dd_40_43 : decode prog_9_method_5_code 43 = .ok (.aload_n 2, 1) := by decide +kernel
theorem dd_40_44 : decode prog_9_method_5_code 44 = .ok (.iload 6, 2) := by decide +kernel
theorem dd_40_46 : decode prog_9_method_5_code 46 = .ok (.iload 4, 2) := by decide +kernel
theorem dd_40_48 : decode prog_9_method_5_code 48 = .ok (.aload_n 1, 1) := by decide +kernel
theorem dd_40_49 : decode prog_9_method_5_code 49 = .ok (.getfield 59, 3) := by decide +kernel
theorem dd_40_52 : decode prog_9_method_5_code 52 = .ok (.invokevirtual 62, 3) := by decide +kernel
theorem dd_40_55 : decode prog_9_method_5_code 55 = .ok (.invokestatic 66, 3) := by decide +kernel
theorem dd_40_58 : decode prog_9_method_5_code 58 = .ok (.istore 5, 2) := by decide +kernel
theorem dd_40_60 : decode prog_9_method_5_code 60 = .ok (.iinc 6 1, 3) := by decide +kernel
theorem dd_40_63 : decode prog_9_method_5_code 63 = .ok (.goto (-41), 3) := by decide +kernel
theorem dd_40_66 : decode prog_9_method_5_code 66 = .ok (.iload 5, 2) := by decide +kernel
theorem dd_40_68 : decode prog_9_method_5_code 68 = .ok (.ireturn, 1) := by decide +kernel
theorem kb_40_0 : am_row mi_40 0 kr_40_0 := am_rs rfl (ok_aload_n (k := 2) dd_40_0 rfl rfl) (am_rs rfl (ok_iload_n (k := 3) dd_40_1 rfl rfl) (am_rs rfl (ok_iload dd_40_2 rfl) (am_rn rfl (am_rs rfl (ok_cv (M' := mi_41) dd_40_4 rfl rfl w_490 w_491 w_492 ⟨lk_41.1, lk_41.2.1, lk_41.2.2, by decide, by decide⟩ rfl) (am_rn rfl (am_rn rfl (am_rs rfl (ok_aload_n (k := 0) dd_40_7 rfl rfl) (am_rz))))))))
theorem kb_40_1 : am_row mi_40 8 kr_40_1 := am_rs rfl (ok_iload_n (k := 3) dd_40_8 rfl rfl) (am_rs rfl (ok_iload dd_40_9 rfl) (am_rn rfl (am_rs rfl (ok_iconst dd_40_11 ic_1 rfl) (am_rs rfl (ok_iadd dd_40_12 rfl) (am_rs rfl (ok_cv (M' := mi_42) dd_40_13 rfl rfl w_494 w_495 w_496 ⟨lk_42.1, lk_42.2.1, lk_42.2.2, by decide, by decide⟩ rfl) (am_rn rfl (am_rn rfl (am_rz))))))))
theorem kb_40_2 : am_row mi_40 16 kr_40_2 := am_rs rfl (ok_iadd dd_40_16 rfl) (am_rs rfl (ok_istore dd_40_17 rfl (by decide)) (am_rn rfl (am_rs rfl (ok_iconst dd_40_19 ic_0 rfl) (am_rs rfl (ok_istore dd_40_20 rfl (by decide)) (am_rn rfl (am_rs rfl (ok_iload dd_40_22 rfl) (am_rn rfl (am_rz))))))))
theorem kb_40_3 : am_row mi_40 24 kr_40_3 := am_rs rfl (ok_aload_n (k := 1) dd_40_24 rfl rfl) (am_rs rfl (ok_gf dd_40_25 rfl am_ck1 (by decide) (Or.inr ⟨_, w_83⟩)) (am_rn rfl (am_rn rfl (am_rs rfl (ok_gf dd_40_28 rfl am_ck8 (by decide) (Or.inr ⟨_, w_64⟩)) (am_rn rfl (am_rn rfl (am_rs rfl (ok_icmp dd_40_31 (by decide) rfl) (am_rz))))))))
theorem kb_40_4 : am_row mi_40 32 kr_40_4 := am_rn rfl (am_rn rfl (am_rs rfl (ok_iload dd_40_34 rfl) (am_rn rfl (am_rs rfl (ok_iload_n (k := 3) dd_40_36 rfl rfl) (am_rs rfl (ok_icmp dd_40_37 (by decide) rfl) (am_rn rfl (am_rn rfl (am_rz))))))))
theorem kb_40_5 : am_row mi_40 40 kr_40_5 := am_rs rfl (ok_iload dd_40_40 rfl) (am_rn rfl (am_rs rfl (ok_aload_n (k := 0) dd_40_42 rfl rfl) (am_rs rfl (ok_aload_n (k := 2) dd_40_43 rfl rfl) (am_rs rfl (ok_iload dd_40_44 rfl) (am_rn rfl (am_rs rfl (ok_iload dd_40_46 rfl) (am_rn rfl (am_rz))))))))
theorem kb_40_6 : am_row mi_40 48 kr_40_6 := am_rs rfl (ok_aload_n (k := 1) dd_40_48 rfl rfl) (am_rs rfl (ok_gf dd_40_49 rfl am_ck1 (by decide) (Or.inr ⟨_, w_116⟩)) (am_rn rfl (am_rn rfl (am_rs rfl (ok_cv (M' := mi_43) dd_40_52 rfl rfl w_498 w_500 ps_43 ⟨lk_43.1, lk_43.2.1, lk_43.2.2, by decide, by decide⟩ rfl) (am_rn rfl (am_rn rfl (am_rs rfl (ok_mmax dd_40_55 rfl w_502 w_409 w_18 w_410 ⟨by decide, by decide⟩) (am_rz))))))))
theorem kb_40_7 : am_row mi_40 56 kr_40_7 := am_rn rfl (am_rn rfl (am_rs rfl (ok_istore dd_40_58 rfl (by decide)) (am_rn rfl (am_rs rfl (ok_iinc dd_40_60 ic_1 rfl (by decide)) (am_rn rfl (am_rn rfl (am_rs rfl (ok_goto dd_40_63 (by decide)) (am_rz))))))))
theorem kb_40_8 : am_row mi_40 64 kr_40_8 := am_rn rfl (am_rn rfl (am_rs rfl (ok_iload dd_40_66 rfl) (am_rn rfl (am_rs rfl (ok_iret dd_40_68 rfl) (am_rz)))))
theorem ck_40 : am_rows mi_40 0 cd_40 := am_bs rfl kb_40_0 (am_bs rfl kb_40_1 (am_bs rfl kb_40_2 (am_bs rfl kb_40_3 (am_bs rfl kb_40_4 (am_bs rfl kb_40_5 (am_bs rfl kb_40_6 (am_bs rfl kb_40_7 (am_bs rfl kb_40_8 (am_bz)))))))))
/-- OverAndBack$Screen.worthOf(II)I -/
noncomputable def kr_41_0 : List (Option am_Op) := [some (am_ild 1 1), some (am_ild 2 2), some (am_cs 35 2 5), none, none, some (am_br1 .eq 22 8), none, none]
noncomputable def kr_41_1 : List (Option am_Op) := [some (am_ald0 0 9), some (am_gf 9 0 12), none, none, some (am_ild 1 13), some (am_psh (.retAddr 60) 15), none, some (am_bin am_mul 16)]
noncomputable def kr_41_2 : List (Option am_Op) := [some (am_ild 2 17), some (am_bin am_add 18), some (am_ald 0 19), some (am_jmp 23), none, none, some (am_psh (.retAddr 0) 23), some (am_iret)]
noncomputable def cd_41 : am_Cd := [kr_41_0, kr_41_1, kr_41_2]
theorem dd_41_0 : decode prog_11_method_11_code 0 = .ok (.iload_n 1, 1) := by decide +kernel
theorem dd_41_1 : decode prog_11_method_11_code 1 = .ok (.iload_n 2, 1) := by decide +kernel
theorem dd_41_2 : decode prog_11_method_11_code 2 = .ok (.invokestatic 81, 3) := by decide +kernel
theorem dd_41_5 : decode prog_11_method_11_code 5 = .ok (.ifCond .eq 17, 3) := by decide +kernel
theorem dd_41_8 : decode prog_11_method_11_code 8 = .ok (.aload_n 0, 1) := by decide +kernel
theorem dd_41_9 : decode prog_11_method_11_code 9 = .ok (.getfield 9, 3) := by decide +kernel
theorem dd_41_12 : decode prog_11_method_11_code 12 = .ok (.iload_n 1, 1) := by decide +kernel
theorem dd_41_13 : decode prog_11_method_11_code 13 = .ok (.bipush 60, 2) := by decide +kernel
theorem dd_41_15 : decode prog_11_method_11_code 15 = .ok (.imul, 1) := by decide +kernel
theorem dd_41_16 : decode prog_11_method_11_code 16 = .ok (.iload_n 2, 1) := by decide +kernel
theorem dd_41_17 : decode prog_11_method_11_code 17 = .ok (.iadd, 1) := by decide +kernel
theorem dd_41_18 : decode prog_11_method_11_code 18 = .ok (.iaload, 1) := by decide +kernel
theorem dd_41_19 : decode prog_11_method_11_code 19 = .ok (.goto 4, 3) := by decide +kernel
theorem dd_41_22 : decode prog_11_method_11_code 22 = .ok (.iconst 0, 1) := by decide +kernel
theorem dd_41_23 : decode prog_11_method_11_code 23 = .ok (.ireturn, 1) := by decide +kernel
theorem kb_41_0 : am_row mi_41 0 kr_41_0 := am_rs rfl (ok_iload_n (k := 1) dd_41_0 rfl rfl) (am_rs rfl (ok_iload_n (k := 2) dd_41_1 rfl rfl) (am_rs rfl (ok_cs (M' := mi_35) dd_41_2 rfl rfl w_466 w_467 ⟨lk_35.1, lk_35.2.1, lk_35.2.2, by decide, by decide⟩) (am_rn rfl (am_rn rfl (am_rs rfl (ok_ifc dd_41_5 (by decide) rfl) (am_rn rfl (am_rn rfl (am_rz))))))))
theorem kb_41_1 : am_row mi_41 8 kr_41_1 := am_rs rfl (ok_aload_n (k := 0) dd_41_8 rfl rfl) (am_rs rfl (ok_gf dd_41_9 rfl am_ck9 (by decide) (Or.inl w_153)) (am_rn rfl (am_rn rfl (am_rs rfl (ok_iload_n (k := 1) dd_41_12 rfl rfl) (am_rs rfl (ok_bipush dd_41_13 bi_60 rfl) (am_rn rfl (am_rs rfl (ok_imul dd_41_15 rfl) (am_rz))))))))
theorem kb_41_2 : am_row mi_41 16 kr_41_2 := am_rs rfl (ok_iload_n (k := 2) dd_41_16 rfl rfl) (am_rs rfl (ok_iadd dd_41_17 rfl) (am_rs rfl (ok_iald dd_41_18 rfl) (am_rs rfl (ok_goto dd_41_19 (by decide)) (am_rn rfl (am_rn rfl (am_rs rfl (ok_iconst dd_41_22 ic_0 rfl) (am_rs rfl (ok_iret dd_41_23 rfl) (am_rz))))))))
theorem ck_41 : am_rows mi_41 0 cd_41 := am_bs rfl kb_41_0 (am_bs rfl kb_41_1 (am_bs rfl kb_41_2 (am_bz)))
/-- OverAndBack$Routes.worthFrom(II)I -/
noncomputable def kr_42_0 : List (Option am_Op) := [some (am_ild 1 1), some (am_br1 .lt 21 4), none, none, some (am_ild 1 5), some (am_psh (.retAddr 4) 6), some (am_br2 .ge 21 9), none]
noncomputable def kr_42_1 : List (Option am_Op) := [none, some (am_ild 2 10), some (am_br1 .lt 21 13), none, none, some (am_ild 2 14), some (am_ald0 0 15), some (am_gf 7 1 18)]
noncomputable def kr_42_2 : List (Option am_Op) := [none, none, some (am_br2 .lt 23 21), none, none, some (am_psh (.retAddr 0) 22), some (am_iret), some (am_ald0 0 24)]
noncomputable def kr_42_3 : List (Option am_Op) := [some (am_gf 7 0 27), none, none, some (am_ild 1 28), some (am_psh (.retAddr 60) 30), none, some (am_bin am_mul 31), some (am_ild 2 32)]
noncomputable def kr_42_4 : List (Option am_Op) := [some (am_bin am_add 33), some (am_ald 0 34), some (am_iret)]
noncomputable def cd_42 : am_Cd := [kr_42_0, kr_42_1, kr_42_2, kr_42_3, kr_42_4]
theorem dd_42_0 : decode prog_9_method_3_code 0 = .ok (.iload_n 1, 1) := by decide +kernel
theorem dd_42_1 : decode prog_9_method_3_code 1 = .ok (.ifCond .lt 20, 3) := by decide +kernel
theorem dd_42_4 : decode prog_9_method_3_code 4 = .ok (.iload_n 1, 1) := by decide +kernel
theorem dd_42_5 : decode prog_9_method_3_code 5 = .ok (.iconst 4, 1) := by decide +kernel
theorem dd_42_6 : decode prog_9_method_3_code 6 = .ok (.if_icmp .ge 15, 3) := by decide +kernel
theorem dd_42_9 : decode prog_9_method_3_code 9 = .ok (.iload_n 2, 1) := by decide +kernel
theorem dd_42_10 : decode prog_9_method_3_code 10 = .ok (.ifCond .lt 11, 3) := by decide +kernel
theorem dd_42_13 : decode prog_9_method_3_code 13 = .ok (.iload_n 2, 1) := by decide +kernel
theorem dd_42_14 : decode prog_9_method_3_code 14 = .ok (.aload_n 0, 1) := by decide +kernel
theorem dd_42_15 : decode prog_9_method_3_code 15 = .ok (.getfield 15, 3) := by decide +kernel
theorem dd_42_18 : decode prog_9_method_3_code 18 = .ok (.if_icmp .lt 5, 3) := by decide +kernel
theorem dd_42_21 : decode prog_9_method_3_code 21 = .ok (.iconst 0, 1) := by decide +kernel
theorem dd_42_22 : decode prog_9_method_3_code 22 = .ok (.ireturn, 1) := by decide +kernel
theorem dd_42_23 : decode prog_9_method_3_code 23 = .ok (.aload_n 0, 1) := by decide +kernel
theorem dd_42_24 : decode prog_9_method_3_code 24 = .ok (.getfield 9, 3) := by decide +kernel
theorem dd_42_27 : decode prog_9_method_3_code 27 = .ok (.iload_n 1, 1) := by decide +kernel
theorem dd_42_28 : decode prog_9_method_3_code 28 = .ok (.bipush 60, 2) := by decide +kernel
theorem dd_42_30 : decode prog_9_method_3_code 30 = .ok (.imul, 1) := by decide +kernel
theorem dd_42_31 : decode prog_9_method_3_code 31 = .ok (.iload_n 2, 1) := by decide +kernel
theorem dd_42_32 : decode prog_9_method_3_code 32 = .ok (.iadd, 1) := by decide +kernel
theorem dd_42_33 : decode prog_9_method_3_code 33 = .ok (.iaload, 1) := by decide +kernel
theorem dd_42_34 : decode prog_9_method_3_code 34 = .ok (.ireturn, 1) := by decide +kernel
theorem kb_42_0 : am_row mi_42 0 kr_42_0 := am_rs rfl (ok_iload_n (k := 1) dd_42_0 rfl rfl) (am_rs rfl (ok_ifc dd_42_1 (by decide) rfl) (am_rn rfl (am_rn rfl (am_rs rfl (ok_iload_n (k := 1) dd_42_4 rfl rfl) (am_rs rfl (ok_iconst dd_42_5 ic_4 rfl) (am_rs rfl (ok_icmp dd_42_6 (by decide) rfl) (am_rn rfl (am_rz))))))))
theorem kb_42_1 : am_row mi_42 8 kr_42_1 := am_rn rfl (am_rs rfl (ok_iload_n (k := 2) dd_42_9 rfl rfl) (am_rs rfl (ok_ifc dd_42_10 (by decide) rfl) (am_rn rfl (am_rn rfl (am_rs rfl (ok_iload_n (k := 2) dd_42_13 rfl rfl) (am_rs rfl (ok_aload_n (k := 0) dd_42_14 rfl rfl) (am_rs rfl (ok_gf dd_42_15 rfl am_ck7 (by decide) (Or.inl w_201)) (am_rz))))))))
theorem kb_42_2 : am_row mi_42 16 kr_42_2 := am_rn rfl (am_rn rfl (am_rs rfl (ok_icmp dd_42_18 (by decide) rfl) (am_rn rfl (am_rn rfl (am_rs rfl (ok_iconst dd_42_21 ic_0 rfl) (am_rs rfl (ok_iret dd_42_22 rfl) (am_rs rfl (ok_aload_n (k := 0) dd_42_23 rfl rfl) (am_rz))))))))
theorem kb_42_3 : am_row mi_42 24 kr_42_3 := am_rs rfl (ok_gf dd_42_24 rfl am_ck7 (by decide) (Or.inl w_200)) (am_rn rfl (am_rn rfl (am_rs rfl (ok_iload_n (k := 1) dd_42_27 rfl rfl) (am_rs rfl (ok_bipush dd_42_28 bi_60 rfl) (am_rn rfl (am_rs rfl (ok_imul dd_42_30 rfl) (am_rs rfl (ok_iload_n (k := 2) dd_42_31 rfl rfl) (am_rz))))))))
theorem kb_42_4 : am_row mi_42 32 kr_42_4 := am_rs rfl (ok_iadd dd_42_32 rfl) (am_rs rfl (ok_iald dd_42_33 rfl) (am_rs rfl (ok_iret dd_42_34 rfl) (am_rz)))
theorem ck_42 : am_rows mi_42 0 cd_42 := am_bs rfl kb_42_0 (am_bs rfl kb_42_1 (am_bs rfl kb_42_2 (am_bs rfl kb_42_3 (am_bs rfl kb_42_4 (am_bz)))))
/-- OverAndBack$Routes.worthByGoing(LOverAndBack$Screen;III)I -/
noncomputable def kr_43_0 : List (Option am_Op) := [some (am_ild 4 2), none, some (am_br1 .ne 21 5), none, none, some (am_ald0 1 6), some (am_ild 2 7), some (am_ild 3 8)]
noncomputable def kr_43_1 : List (Option am_Op) := [some (am_cv 41 2 9 11), none, none, some (am_ald0 0 12), some (am_ild 2 13), some (am_ild 3 14), some (am_psh (.retAddr 1) 15), some (am_bin am_add 16)]
noncomputable def kr_43_2 : List (Option am_Op) := [some (am_cv 42 2 7 19), none, none, some (am_bin am_add 20), some (am_iret), some (am_ald0 0 22), some (am_ild 2 23), some (am_ild 3 24)]
noncomputable def kr_43_3 : List (Option am_Op) := [some (am_ild 4 26), none, some (am_bin am_add 27), some (am_cv 42 2 7 30), none, none, some (am_iret)]
noncomputable def cd_43 : am_Cd := [kr_43_0, kr_43_1, kr_43_2, kr_43_3]
theorem dd_43_0 : decode prog_9_method_6_code 0 = .ok (.iload 4, 2) := by decide +kernel
theorem dd_43_2 : decode prog_9_method_6_code 2 = .ok (.ifCond .ne 19, 3) := by decide +kernel
theorem dd_43_5 : decode prog_9_method_6_code 5 = .ok (.aload_n 1, 1) := by decide +kernel
theorem dd_43_6 : decode prog_9_method_6_code 6 = .ok (.iload_n 2, 1) := by decide +kernel
theorem dd_43_7 : decode prog_9_method_6_code 7 = .ok (.iload_n 3, 1) := by decide +kernel
theorem dd_43_8 : decode prog_9_method_6_code 8 = .ok (.invokevirtual 54, 3) := by decide +kernel
theorem dd_43_11 : decode prog_9_method_6_code 11 = .ok (.aload_n 0, 1) := by decide +kernel
theorem dd_43_12 : decode prog_9_method_6_code 12 = .ok (.iload_n 2, 1) := by decide +kernel
theorem dd_43_13 : decode prog_9_method_6_code 13 = .ok (.iload_n 3, 1) := by decide +kernel
theorem dd_43_14 : decode prog_9_method_6_code 14 = .ok (.iconst 1, 1) := by decide +kernel
theorem dd_43_15 : decode prog_9_method_6_code 15 = .ok (.iadd, 1) := by decide +kernel
theorem dd_43_16 : decode prog_9_method_6_code 16 = .ok (.invokevirtual 47, 3) := by decide +kernel
theorem dd_43_19 : decode prog_9_method_6_code 19 = .ok (.iadd, 1) := by decide +kernel
theorem dd_43_20 : decode prog_9_method_6_code 20 = .ok (.ireturn, 1) := by decide +kernel
theorem dd_43_21 : decode prog_9_method_6_code 21 = .ok (.aload_n 0, 1) := by decide +kernel
theorem dd_43_22 : decode prog_9_method_6_code 22 = .ok (.iload_n 2, 1) := by decide +kernel
theorem dd_43_23 : decode prog_9_method_6_code 23 = .ok (.iload_n 3, 1) := by decide +kernel
theorem dd_43_24 : decode prog_9_method_6_code 24 = .ok (.iload 4, 2) := by decide +kernel
theorem dd_43_26 : decode prog_9_method_6_code 26 = .ok (.iadd, 1) := by decide +kernel
theorem dd_43_27 : decode prog_9_method_6_code 27 = .ok (.invokevirtual 47, 3) := by decide +kernel
theorem dd_43_30 : decode prog_9_method_6_code 30 = .ok (.ireturn, 1) := by decide +kernel
theorem kb_43_0 : am_row mi_43 0 kr_43_0 := am_rs rfl (ok_iload dd_43_0 rfl) (am_rn rfl (am_rs rfl (ok_ifc dd_43_2 (by decide) rfl) (am_rn rfl (am_rn rfl (am_rs rfl (ok_aload_n (k := 1) dd_43_5 rfl rfl) (am_rs rfl (ok_iload_n (k := 2) dd_43_6 rfl rfl) (am_rs rfl (ok_iload_n (k := 3) dd_43_7 rfl rfl) (am_rz))))))))
theorem kb_43_1 : am_row mi_43 8 kr_43_1 := am_rs rfl (ok_cv (M' := mi_41) dd_43_8 rfl rfl w_490 w_491 w_492 ⟨lk_41.1, lk_41.2.1, lk_41.2.2, by decide, by decide⟩ rfl) (am_rn rfl (am_rn rfl (am_rs rfl (ok_aload_n (k := 0) dd_43_11 rfl rfl) (am_rs rfl (ok_iload_n (k := 2) dd_43_12 rfl rfl) (am_rs rfl (ok_iload_n (k := 3) dd_43_13 rfl rfl) (am_rs rfl (ok_iconst dd_43_14 ic_1 rfl) (am_rs rfl (ok_iadd dd_43_15 rfl) (am_rz))))))))
theorem kb_43_2 : am_row mi_43 16 kr_43_2 := am_rs rfl (ok_cv (M' := mi_42) dd_43_16 rfl rfl w_494 w_495 w_496 ⟨lk_42.1, lk_42.2.1, lk_42.2.2, by decide, by decide⟩ rfl) (am_rn rfl (am_rn rfl (am_rs rfl (ok_iadd dd_43_19 rfl) (am_rs rfl (ok_iret dd_43_20 rfl) (am_rs rfl (ok_aload_n (k := 0) dd_43_21 rfl rfl) (am_rs rfl (ok_iload_n (k := 2) dd_43_22 rfl rfl) (am_rs rfl (ok_iload_n (k := 3) dd_43_23 rfl rfl) (am_rz))))))))
theorem kb_43_3 : am_row mi_43 24 kr_43_3 := am_rs rfl (ok_iload dd_43_24 rfl) (am_rn rfl (am_rs rfl (ok_iadd dd_43_26 rfl) (am_rs rfl (ok_cv (M' := mi_42) dd_43_27 rfl rfl w_494 w_495 w_496 ⟨lk_42.1, lk_42.2.1, lk_42.2.2, by decide, by decide⟩ rfl) (am_rn rfl (am_rn rfl (am_rs rfl (ok_iret dd_43_30 rfl) (am_rz)))))))
theorem ck_43 : am_rows mi_43 0 cd_43 := am_bs rfl kb_43_0 (am_bs rfl kb_43_1 (am_bs rfl kb_43_2 (am_bs rfl kb_43_3 (am_bz))))
/-- OverAndBack$Plan.clear()V -/
noncomputable def kr_44_0 : List (Option am_Op) := [some (am_ald0 0 1), some (am_psh (.retAddr 0) 2), some (am_pf 5 2 0 5), none, none, some (am_ald0 0 6), some (am_psh (.retAddr 0) 7), some (am_pf 5 3 0 10)]
noncomputable def kr_44_1 : List (Option am_Op) := [none, none, some (am_vret)]
noncomputable def cd_44 : am_Cd := [kr_44_0, kr_44_1]
theorem dd_44_0 : decode prog_7_method_2_code 0 = .ok (.aload_n 0, 1) := by decide +kernel
theorem dd_44_1 : decode prog_7_method_2_code 1 = .ok (.iconst 0, 1) := by decide +kernel
theorem dd_44_2 : decode prog_7_method_2_code 2 = .ok (.putfield 18, 3) := by decide +kernel
theorem dd_44_5 : decode prog_7_method_2_code 5 = .ok (.aload_n 0, 1) := by decide +kernel
theorem dd_44_6 : decode prog_7_method_2_code 6 = .ok (.iconst 0, 1) := by decide +kernel
theorem dd_44_7 : decode prog_7_method_2_code 7 = .ok (.putfield 22, 3) := by decide +kernel
theorem dd_44_10 : decode prog_7_method_2_code 10 = .ok (.return_, 1) := by decide +kernel
theorem kb_44_0 : am_row mi_44 0 kr_44_0 := am_rs rfl (ok_aload_n (k := 0) dd_44_0 rfl rfl) (am_rs rfl (ok_iconst dd_44_1 ic_0 rfl) (am_rs rfl (ok_pf dd_44_2 rfl am_ck5 (by decide) (Or.inl w_305) (Or.inl rfl) rfl) (am_rn rfl (am_rn rfl (am_rs rfl (ok_aload_n (k := 0) dd_44_5 rfl rfl) (am_rs rfl (ok_iconst dd_44_6 ic_0 rfl) (am_rs rfl (ok_pf dd_44_7 rfl am_ck5 (by decide) (Or.inl w_308) (Or.inl rfl) rfl) (am_rz))))))))
theorem kb_44_1 : am_row mi_44 8 kr_44_1 := am_rn rfl (am_rn rfl (am_rs rfl (ok_vret dd_44_10 rfl) (am_rz)))
theorem ck_44 : am_rows mi_44 0 cd_44 := am_bs rfl kb_44_0 (am_bs rfl kb_44_1 (am_bz))
/-- OverAndBack$Past.clear()V -/
noncomputable def kr_45_0 : List (Option am_Op) := [some (am_ald0 0 1), some (am_psh (.retAddr 0) 2), some (am_pf 4 1 0 5), none, none, some (am_vret)]
noncomputable def cd_45 : am_Cd := [kr_45_0]
theorem dd_45_0 : decode prog_6_method_2_code 0 = .ok (.aload_n 0, 1) := by decide +kernel
theorem dd_45_1 : decode prog_6_method_2_code 1 = .ok (.iconst 0, 1) := by decide +kernel
theorem dd_45_2 : decode prog_6_method_2_code 2 = .ok (.putfield 15, 3) := by decide +kernel
theorem dd_45_5 : decode prog_6_method_2_code 5 = .ok (.return_, 1) := by decide +kernel
theorem kb_45_0 : am_row mi_45 0 kr_45_0 := am_rs rfl (ok_aload_n (k := 0) dd_45_0 rfl rfl) (am_rs rfl (ok_iconst dd_45_1 ic_0 rfl) (am_rs rfl (ok_pf dd_45_2 rfl am_ck4 (by decide) (Or.inl w_327) (Or.inl rfl) rfl) (am_rn rfl (am_rn rfl (am_rs rfl (ok_vret dd_45_5 rfl) (am_rz))))))
theorem ck_45 : am_rows mi_45 0 cd_45 := am_bs rfl kb_45_0 (am_bz)
/-- OverAndBack.write(I)I -/
noncomputable def kr_46_0 : List (Option am_Op) := [some (am_ild 1 1), some (am_psh (.retAddr 32) 3), none, some (am_br2 .lt 12 6), none, none, some (am_ild 1 7), some (am_psh (.retAddr 126) 9)]
noncomputable def kr_46_1 : List (Option am_Op) := [none, some (am_br2 .le 14 12), none, none, some (am_psh (.retAddr 4294967295) 13), some (am_iret), some (am_ald0 0 15), some (am_gf 11 1 18)]
noncomputable def kr_46_2 : List (Option am_Op) := [none, none, some (am_br1 .lt 33 21), none, none, some (am_ald0 0 22), some (am_gf 11 1 25), none]
noncomputable def kr_46_3 : List (Option am_Op) := [none, some (am_ald0 0 26), some (am_gf 11 0 29), none, none, some (am_len 30), some (am_br2 .lt 36 33), none]
noncomputable def kr_46_4 : List (Option am_Op) := [none, some (am_psh (.retAddr 4294967293) 35), none, some (am_iret), some (am_ald0 0 37), some (am_gf 11 0 40), none, none]
noncomputable def kr_46_5 : List (Option am_Op) := [some (am_ald0 0 41), some (am_gf 11 1 44), none, none, some (am_ild 1 45), some (am_i2c 46), some (am_ast 1 (fun v => v % 65536) 47), some (am_ald0 0 48)]
noncomputable def kr_46_6 : List (Option am_Op) := [some (am_dup 49), some (am_gf 11 1 52), none, none, some (am_psh (.retAddr 1) 53), some (am_bin am_add 54), some (am_pf 11 1 0 57), none]
noncomputable def kr_46_7 : List (Option am_Op) := [none, some (am_ald0 0 58), some (am_gf 11 1 61), none, none, some (am_iret)]
noncomputable def cd_46 : am_Cd := [kr_46_0, kr_46_1, kr_46_2, kr_46_3, kr_46_4, kr_46_5, kr_46_6, kr_46_7]
theorem dd_46_0 : decode prog_1_method_2_code 0 = .ok (.iload_n 1, 1) := by decide +kernel
theorem dd_46_1 : decode prog_1_method_2_code 1 = .ok (.bipush 32, 2) := by decide +kernel
theorem dd_46_3 : decode prog_1_method_2_code 3 = .ok (.if_icmp .lt 9, 3) := by decide +kernel
theorem dd_46_6 : decode prog_1_method_2_code 6 = .ok (.iload_n 1, 1) := by decide +kernel
theorem dd_46_7 : decode prog_1_method_2_code 7 = .ok (.bipush 126, 2) := by decide +kernel
theorem dd_46_9 : decode prog_1_method_2_code 9 = .ok (.if_icmp .le 5, 3) := by decide +kernel
theorem dd_46_12 : decode prog_1_method_2_code 12 = .ok (.iconst (-1), 1) := by decide +kernel
theorem dd_46_13 : decode prog_1_method_2_code 13 = .ok (.ireturn, 1) := by decide +kernel
theorem dd_46_14 : decode prog_1_method_2_code 14 = .ok (.aload_n 0, 1) := by decide +kernel
theorem dd_46_15 : decode prog_1_method_2_code 15 = .ok (.getfield 13, 3) := by decide +kernel
theorem dd_46_18 : decode prog_1_method_2_code 18 = .ok (.ifCond .lt 15, 3) := by decide +kernel
theorem dd_46_21 : decode prog_1_method_2_code 21 = .ok (.aload_n 0, 1) := by decide +kernel
theorem dd_46_22 : decode prog_1_method_2_code 22 = .ok (.getfield 13, 3) := by decide +kernel
theorem dd_46_25 : decode prog_1_method_2_code 25 = .ok (.aload_n 0, 1) := by decide +kernel
theorem dd_46_26 : decode prog_1_method_2_code 26 = .ok (.getfield 9, 3) := by decide +kernel
theorem dd_46_29 : decode prog_1_method_2_code 29 = .ok (.arraylength, 1) := by decide +kernel
theorem dd_46_30 : decode prog_1_method_2_code 30 = .ok (.if_icmp .lt 6, 3) := by decide +kernel
theorem dd_46_33 : decode prog_1_method_2_code 33 = .ok (.bipush (-3), 2) := by decide +kernel
theorem dd_46_35 : decode prog_1_method_2_code 35 = .ok (.ireturn, 1) := by decide +kernel
theorem dd_46_36 : decode prog_1_method_2_code 36 = .ok (.aload_n 0, 1) := by decide +kernel
theorem dd_46_37 : decode prog_1_method_2_code 37 = .ok (.getfield 9, 3) := by decide +kernel
theorem dd_46_40 : decode prog_1_method_2_code 40 = .ok (.aload_n 0, 1) := by decide +kernel
theorem dd_46_41 : decode prog_1_method_2_code 41 = .ok (.getfield 13, 3) := by decide +kernel
theorem dd_46_44 : decode prog_1_method_2_code 44 = .ok (.iload_n 1, 1) := by decide +kernel
theorem dd_46_45 : decode prog_1_method_2_code 45 = .ok (.i2c, 1) := by decide +kernel
theorem dd_46_46 : decode prog_1_method_2_code 46 = .ok (.castore, 1) := by decide +kernel
theorem dd_46_47 : decode prog_1_method_2_code 47 = .ok (.aload_n 0, 1) := by decide +kernel
theorem dd_46_48 : decode prog_1_method_2_code 48 = .ok (.dup, 1) := by decide +kernel
theorem dd_46_49 : decode prog_1_method_2_code 49 = .ok (.getfield 13, 3) := by decide +kernel
theorem dd_46_52 : decode prog_1_method_2_code 52 = .ok (.iconst 1, 1) := by decide +kernel
theorem dd_46_53 : decode prog_1_method_2_code 53 = .ok (.iadd, 1) := by decide +kernel
theorem dd_46_54 : decode prog_1_method_2_code 54 = .ok (.putfield 13, 3) := by decide +kernel
theorem dd_46_57 : decode prog_1_method_2_code 57 = .ok (.aload_n 0, 1) := by decide +kernel
theorem dd_46_58 : decode prog_1_method_2_code 58 = .ok (.getfield 13, 3) := by decide +kernel
theorem dd_46_61 : decode prog_1_method_2_code 61 = .ok (.ireturn, 1) := by decide +kernel
theorem kb_46_0 : am_row mi_46 0 kr_46_0 := am_rs rfl (ok_iload_n (k := 1) dd_46_0 rfl rfl) (am_rs rfl (ok_bipush dd_46_1 bi_32 rfl) (am_rn rfl (am_rs rfl (ok_icmp dd_46_3 (by decide) rfl) (am_rn rfl (am_rn rfl (am_rs rfl (ok_iload_n (k := 1) dd_46_6 rfl rfl) (am_rs rfl (ok_bipush dd_46_7 bi_126 rfl) (am_rz))))))))
theorem kb_46_1 : am_row mi_46 8 kr_46_1 := am_rn rfl (am_rs rfl (ok_icmp dd_46_9 (by decide) rfl) (am_rn rfl (am_rn rfl (am_rs rfl (ok_iconst dd_46_12 ic_m1 rfl) (am_rs rfl (ok_iret dd_46_13 rfl) (am_rs rfl (ok_aload_n (k := 0) dd_46_14 rfl rfl) (am_rs rfl (ok_gf dd_46_15 rfl am_ck11 (by decide) (Or.inl w_512)) (am_rz))))))))
theorem kb_46_2 : am_row mi_46 16 kr_46_2 := am_rn rfl (am_rn rfl (am_rs rfl (ok_ifc dd_46_18 (by decide) rfl) (am_rn rfl (am_rn rfl (am_rs rfl (ok_aload_n (k := 0) dd_46_21 rfl rfl) (am_rs rfl (ok_gf dd_46_22 rfl am_ck11 (by decide) (Or.inl w_512)) (am_rn rfl (am_rz))))))))
theorem kb_46_3 : am_row mi_46 24 kr_46_3 := am_rn rfl (am_rs rfl (ok_aload_n (k := 0) dd_46_25 rfl rfl) (am_rs rfl (ok_gf dd_46_26 rfl am_ck11 (by decide) (Or.inl w_511)) (am_rn rfl (am_rn rfl (am_rs rfl (ok_len dd_46_29 rfl) (am_rs rfl (ok_icmp dd_46_30 (by decide) rfl) (am_rn rfl (am_rz))))))))
theorem kb_46_4 : am_row mi_46 32 kr_46_4 := am_rn rfl (am_rs rfl (ok_bipush dd_46_33 bi_m3 rfl) (am_rn rfl (am_rs rfl (ok_iret dd_46_35 rfl) (am_rs rfl (ok_aload_n (k := 0) dd_46_36 rfl rfl) (am_rs rfl (ok_gf dd_46_37 rfl am_ck11 (by decide) (Or.inl w_511)) (am_rn rfl (am_rn rfl (am_rz))))))))
theorem kb_46_5 : am_row mi_46 40 kr_46_5 := am_rs rfl (ok_aload_n (k := 0) dd_46_40 rfl rfl) (am_rs rfl (ok_gf dd_46_41 rfl am_ck11 (by decide) (Or.inl w_512)) (am_rn rfl (am_rn rfl (am_rs rfl (ok_iload_n (k := 1) dd_46_44 rfl rfl) (am_rs rfl (ok_i2c dd_46_45 rfl) (am_rs rfl (ok_cast dd_46_46 rfl) (am_rs rfl (ok_aload_n (k := 0) dd_46_47 rfl rfl) (am_rz))))))))
theorem kb_46_6 : am_row mi_46 48 kr_46_6 := am_rs rfl (ok_dup dd_46_48 rfl) (am_rs rfl (ok_gf dd_46_49 rfl am_ck11 (by decide) (Or.inl w_512)) (am_rn rfl (am_rn rfl (am_rs rfl (ok_iconst dd_46_52 ic_1 rfl) (am_rs rfl (ok_iadd dd_46_53 rfl) (am_rs rfl (ok_pf dd_46_54 rfl am_ck11 (by decide) (Or.inl w_512) (Or.inl rfl) rfl) (am_rn rfl (am_rz))))))))
theorem kb_46_7 : am_row mi_46 56 kr_46_7 := am_rn rfl (am_rs rfl (ok_aload_n (k := 0) dd_46_57 rfl rfl) (am_rs rfl (ok_gf dd_46_58 rfl am_ck11 (by decide) (Or.inl w_512)) (am_rn rfl (am_rn rfl (am_rs rfl (ok_iret dd_46_61 rfl) (am_rz))))))
theorem ck_46 : am_rows mi_46 0 cd_46 := am_bs rfl kb_46_0 (am_bs rfl kb_46_1 (am_bs rfl kb_46_2 (am_bs rfl kb_46_3 (am_bs rfl kb_46_4 (am_bs rfl kb_46_5 (am_bs rfl kb_46_6 (am_bs rfl kb_46_7 (am_bz))))))))
/-- OverAndBack.wipe()I -/
noncomputable def kr_47_0 : List (Option am_Op) := [some (am_ald0 0 1), some (am_gf 11 1 4), none, none, some (am_ist 1 5), some (am_ald0 0 6), some (am_psh (.retAddr 0) 7), some (am_pf 11 1 0 10)]
noncomputable def kr_47_1 : List (Option am_Op) := [none, none, some (am_ild 1 11), some (am_iret)]
noncomputable def cd_47 : am_Cd := [kr_47_0, kr_47_1]
theorem dd_47_0 : decode prog_1_method_3_code 0 = .ok (.aload_n 0, 1) := by decide +kernel
theorem dd_47_1 : decode prog_1_method_3_code 1 = .ok (.getfield 13, 3) := by decide +kernel
theorem dd_47_4 : decode prog_1_method_3_code 4 = .ok (.istore_n 1, 1) := by decide +kernel
theorem dd_47_5 : decode prog_1_method_3_code 5 = .ok (.aload_n 0, 1) := by decide +kernel
theorem dd_47_6 : decode prog_1_method_3_code 6 = .ok (.iconst 0, 1) := by decide +kernel
theorem dd_47_7 : decode prog_1_method_3_code 7 = .ok (.putfield 13, 3) := by decide +kernel
theorem dd_47_10 : decode prog_1_method_3_code 10 = .ok (.iload_n 1, 1) := by decide +kernel
theorem dd_47_11 : decode prog_1_method_3_code 11 = .ok (.ireturn, 1) := by decide +kernel
theorem kb_47_0 : am_row mi_47 0 kr_47_0 := am_rs rfl (ok_aload_n (k := 0) dd_47_0 rfl rfl) (am_rs rfl (ok_gf dd_47_1 rfl am_ck11 (by decide) (Or.inl w_512)) (am_rn rfl (am_rn rfl (am_rs rfl (ok_istore_n (k := 1) dd_47_4 rfl rfl (by decide)) (am_rs rfl (ok_aload_n (k := 0) dd_47_5 rfl rfl) (am_rs rfl (ok_iconst dd_47_6 ic_0 rfl) (am_rs rfl (ok_pf dd_47_7 rfl am_ck11 (by decide) (Or.inl w_512) (Or.inl rfl) rfl) (am_rz))))))))
theorem kb_47_1 : am_row mi_47 8 kr_47_1 := am_rn rfl (am_rn rfl (am_rs rfl (ok_iload_n (k := 1) dd_47_10 rfl rfl) (am_rs rfl (ok_iret dd_47_11 rfl) (am_rz))))
theorem ck_47 : am_rows mi_47 0 cd_47 := am_bs rfl kb_47_0 (am_bs rfl kb_47_1 (am_bz))
/-- OverAndBack.fault()I -/
noncomputable def kr_48_0 : List (Option am_Op) := [some (am_ald0 0 1), some (am_gf 11 2 4), none, none, some (am_ald0 0 5), some (am_gf 11 0 8), none, none]
noncomputable def kr_48_1 : List (Option am_Op) := [some (am_ald0 0 9), some (am_gf 11 1 12), none, none, some (am_ald0 0 13), some (am_gf 11 4 16), none, none]
noncomputable def kr_48_2 : List (Option am_Op) := [some (am_cv 13 3 6 19), none, none, some (am_iret)]
noncomputable def cd_48 : am_Cd := [kr_48_0, kr_48_1, kr_48_2]
theorem dd_48_0 : decode prog_1_method_4_code 0 = .ok (.aload_n 0, 1) := by decide +kernel
theorem dd_48_1 : decode prog_1_method_4_code 1 = .ok (.getfield 20, 3) := by decide +kernel
theorem dd_48_4 : decode prog_1_method_4_code 4 = .ok (.aload_n 0, 1) := by decide +kernel
theorem dd_48_5 : decode prog_1_method_4_code 5 = .ok (.getfield 9, 3) := by decide +kernel
theorem dd_48_8 : decode prog_1_method_4_code 8 = .ok (.aload_n 0, 1) := by decide +kernel
theorem dd_48_9 : decode prog_1_method_4_code 9 = .ok (.getfield 13, 3) := by decide +kernel
theorem dd_48_12 : decode prog_1_method_4_code 12 = .ok (.aload_n 0, 1) := by decide +kernel
theorem dd_48_13 : decode prog_1_method_4_code 13 = .ok (.getfield 31, 3) := by decide +kernel
theorem dd_48_16 : decode prog_1_method_4_code 16 = .ok (.invokevirtual 112, 3) := by decide +kernel
theorem dd_48_19 : decode prog_1_method_4_code 19 = .ok (.ireturn, 1) := by decide +kernel
theorem kb_48_0 : am_row mi_48 0 kr_48_0 := am_rs rfl (ok_aload_n (k := 0) dd_48_0 rfl rfl) (am_rs rfl (ok_gf dd_48_1 rfl am_ck11 (by decide) (Or.inl w_513)) (am_rn rfl (am_rn rfl (am_rs rfl (ok_aload_n (k := 0) dd_48_4 rfl rfl) (am_rs rfl (ok_gf dd_48_5 rfl am_ck11 (by decide) (Or.inl w_511)) (am_rn rfl (am_rn rfl (am_rz))))))))
theorem kb_48_1 : am_row mi_48 8 kr_48_1 := am_rs rfl (ok_aload_n (k := 0) dd_48_8 rfl rfl) (am_rs rfl (ok_gf dd_48_9 rfl am_ck11 (by decide) (Or.inl w_512)) (am_rn rfl (am_rn rfl (am_rs rfl (ok_aload_n (k := 0) dd_48_12 rfl rfl) (am_rs rfl (ok_gf dd_48_13 rfl am_ck11 (by decide) (Or.inl w_515)) (am_rn rfl (am_rn rfl (am_rz))))))))
theorem kb_48_2 : am_row mi_48 16 kr_48_2 := am_rs rfl (ok_cv (M' := mi_13) dd_48_16 rfl rfl w_380 w_381 w_382 ⟨lk_13.1, lk_13.2.1, lk_13.2.2, by decide, by decide⟩ rfl) (am_rn rfl (am_rn rfl (am_rs rfl (ok_iret dd_48_19 rfl) (am_rz))))
theorem ck_48 : am_rows mi_48 0 cd_48 := am_bs rfl kb_48_0 (am_bs rfl kb_48_1 (am_bs rfl kb_48_2 (am_bz)))
/-- OverAndBack.lay()I -/
noncomputable def kr_49_0 : List (Option am_Op) := [some (am_ald0 0 1), some (am_gf 11 2 4), none, none, some (am_ald0 0 5), some (am_gf 11 0 8), none, none]
noncomputable def kr_49_1 : List (Option am_Op) := [some (am_ald0 0 9), some (am_gf 11 1 12), none, none, some (am_ald0 0 13), some (am_gf 11 4 16), none, none]
noncomputable def kr_49_2 : List (Option am_Op) := [some (am_cv 13 3 6 19), none, none, some (am_psh (.retAddr 4294967292) 21), none, some (am_br2 .ne 37 24), none, none]
noncomputable def kr_49_3 : List (Option am_Op) := [some (am_ald0 0 25), some (am_gf 11 4 28), none, none, some (am_gf 1 0 31), none, none, some (am_gf 8 3 34)]
noncomputable def kr_49_4 : List (Option am_Op) := [none, none, some (am_br1 .ne 40 37), none, none, some (am_psh (.retAddr 4294967294) 39), none, some (am_iret)]
noncomputable def kr_49_5 : List (Option am_Op) := [some (am_ald0 0 41), some (am_gf 11 3 44), none, none, some (am_ast0 1 45), some (am_ald0 0 46), some (am_ald0 0 47), some (am_gf 11 4 50)]
noncomputable def kr_49_6 : List (Option am_Op) := [none, none, some (am_pf 11 3 2 53), none, none, some (am_ald0 0 54), some (am_ald0 1 55), some (am_pf 11 4 2 58)]
noncomputable def kr_49_7 : List (Option am_Op) := [none, none, some (am_ald0 0 59), some (am_cv 28 0 11 62), none, none, some (am_ald0 0 63), some (am_gf 11 3 66)]
noncomputable def kr_49_8 : List (Option am_Op) := [none, none, some (am_gf 1 0 69), none, none, some (am_gf 8 3 72), none, none]
noncomputable def kr_49_9 : List (Option am_Op) := [some (am_iret)]
noncomputable def cd_49 : am_Cd := [kr_49_0, kr_49_1, kr_49_2, kr_49_3, kr_49_4, kr_49_5, kr_49_6, kr_49_7, kr_49_8, kr_49_9]
theorem dd_49_0 : decode prog_1_method_5_code 0 = .ok (.aload_n 0, 1) := by decide +kernel
theorem dd_49_1 : decode prog_1_method_5_code 1 = .ok (.getfield 20, 3) := by decide +kernel
theorem dd_49_4 : decode prog_1_method_5_code 4 = .ok (.aload_n 0, 1) := by decide +kernel
theorem dd_49_5 : decode prog_1_method_5_code 5 = .ok (.getfield 9, 3) := by decide +kernel
theorem dd_49_8 : decode prog_1_method_5_code 8 = .ok (.aload_n 0, 1) := by decide +kernel
theorem dd_49_9 : decode prog_1_method_5_code 9 = .ok (.getfield 13, 3) := by decide +kernel
theorem dd_49_12 : decode prog_1_method_5_code 12 = .ok (.aload_n 0, 1) := by decide +kernel
theorem dd_49_13 : decode prog_1_method_5_code 13 = .ok (.getfield 31, 3) := by decide +kernel
theorem dd_49_16 : decode prog_1_method_5_code 16 = .ok (.invokevirtual 112, 3) := by decide +kernel
theorem dd_49_19 : decode prog_1_method_5_code 19 = .ok (.bipush (-4), 2) := by decide +kernel
theorem dd_49_21 : decode prog_1_method_5_code 21 = .ok (.if_icmp .ne 16, 3) := by decide +kernel
theorem dd_49_24 : decode prog_1_method_5_code 24 = .ok (.aload_n 0, 1) := by decide +kernel
theorem dd_49_25 : decode prog_1_method_5_code 25 = .ok (.getfield 31, 3) := by decide +kernel
theorem dd_49_28 : decode prog_1_method_5_code 28 = .ok (.getfield 119, 3) := by decide +kernel
theorem dd_49_31 : decode prog_1_method_5_code 31 = .ok (.getfield 123, 3) := by decide +kernel
theorem dd_49_34 : decode prog_1_method_5_code 34 = .ok (.ifCond .ne 6, 3) := by decide +kernel
theorem dd_49_37 : decode prog_1_method_5_code 37 = .ok (.bipush (-2), 2) := by decide +kernel
theorem dd_49_39 : decode prog_1_method_5_code 39 = .ok (.ireturn, 1) := by decide +kernel
theorem dd_49_40 : decode prog_1_method_5_code 40 = .ok (.aload_n 0, 1) := by decide +kernel
theorem dd_49_41 : decode prog_1_method_5_code 41 = .ok (.getfield 27, 3) := by decide +kernel
theorem dd_49_44 : decode prog_1_method_5_code 44 = .ok (.astore_n 1, 1) := by decide +kernel
theorem dd_49_45 : decode prog_1_method_5_code 45 = .ok (.aload_n 0, 1) := by decide +kernel
theorem dd_49_46 : decode prog_1_method_5_code 46 = .ok (.aload_n 0, 1) := by decide +kernel
theorem dd_49_47 : decode prog_1_method_5_code 47 = .ok (.getfield 31, 3) := by decide +kernel
theorem dd_49_50 : decode prog_1_method_5_code 50 = .ok (.putfield 27, 3) := by decide +kernel
theorem dd_49_53 : decode prog_1_method_5_code 53 = .ok (.aload_n 0, 1) := by decide +kernel
theorem dd_49_54 : decode prog_1_method_5_code 54 = .ok (.aload_n 1, 1) := by decide +kernel
theorem dd_49_55 : decode prog_1_method_5_code 55 = .ok (.putfield 31, 3) := by decide +kernel
theorem dd_49_58 : decode prog_1_method_5_code 58 = .ok (.aload_n 0, 1) := by decide +kernel
theorem dd_49_59 : decode prog_1_method_5_code 59 = .ok (.invokevirtual 116, 3) := by decide +kernel
theorem dd_49_62 : decode prog_1_method_5_code 62 = .ok (.aload_n 0, 1) := by decide +kernel
theorem dd_49_63 : decode prog_1_method_5_code 63 = .ok (.getfield 27, 3) := by decide +kernel
theorem dd_49_66 : decode prog_1_method_5_code 66 = .ok (.getfield 119, 3) := by decide +kernel
theorem dd_49_69 : decode prog_1_method_5_code 69 = .ok (.getfield 123, 3) := by decide +kernel
theorem dd_49_72 : decode prog_1_method_5_code 72 = .ok (.ireturn, 1) := by decide +kernel
theorem kb_49_0 : am_row mi_49 0 kr_49_0 := am_rs rfl (ok_aload_n (k := 0) dd_49_0 rfl rfl) (am_rs rfl (ok_gf dd_49_1 rfl am_ck11 (by decide) (Or.inl w_513)) (am_rn rfl (am_rn rfl (am_rs rfl (ok_aload_n (k := 0) dd_49_4 rfl rfl) (am_rs rfl (ok_gf dd_49_5 rfl am_ck11 (by decide) (Or.inl w_511)) (am_rn rfl (am_rn rfl (am_rz))))))))
theorem kb_49_1 : am_row mi_49 8 kr_49_1 := am_rs rfl (ok_aload_n (k := 0) dd_49_8 rfl rfl) (am_rs rfl (ok_gf dd_49_9 rfl am_ck11 (by decide) (Or.inl w_512)) (am_rn rfl (am_rn rfl (am_rs rfl (ok_aload_n (k := 0) dd_49_12 rfl rfl) (am_rs rfl (ok_gf dd_49_13 rfl am_ck11 (by decide) (Or.inl w_515)) (am_rn rfl (am_rn rfl (am_rz))))))))
theorem kb_49_2 : am_row mi_49 16 kr_49_2 := am_rs rfl (ok_cv (M' := mi_13) dd_49_16 rfl rfl w_380 w_381 w_382 ⟨lk_13.1, lk_13.2.1, lk_13.2.2, by decide, by decide⟩ rfl) (am_rn rfl (am_rn rfl (am_rs rfl (ok_bipush dd_49_19 bi_m4 rfl) (am_rn rfl (am_rs rfl (ok_icmp dd_49_21 (by decide) rfl) (am_rn rfl (am_rn rfl (am_rz))))))))
theorem kb_49_3 : am_row mi_49 24 kr_49_3 := am_rs rfl (ok_aload_n (k := 0) dd_49_24 rfl rfl) (am_rs rfl (ok_gf dd_49_25 rfl am_ck11 (by decide) (Or.inl w_515)) (am_rn rfl (am_rn rfl (am_rs rfl (ok_gf dd_49_28 rfl am_ck1 (by decide) (Or.inr ⟨_, w_84⟩)) (am_rn rfl (am_rn rfl (am_rs rfl (ok_gf dd_49_31 rfl am_ck8 (by decide) (Or.inr ⟨_, w_67⟩)) (am_rz))))))))
theorem kb_49_4 : am_row mi_49 32 kr_49_4 := am_rn rfl (am_rn rfl (am_rs rfl (ok_ifc dd_49_34 (by decide) rfl) (am_rn rfl (am_rn rfl (am_rs rfl (ok_bipush dd_49_37 bi_m2 rfl) (am_rn rfl (am_rs rfl (ok_iret dd_49_39 rfl) (am_rz))))))))
theorem kb_49_5 : am_row mi_49 40 kr_49_5 := am_rs rfl (ok_aload_n (k := 0) dd_49_40 rfl rfl) (am_rs rfl (ok_gf dd_49_41 rfl am_ck11 (by decide) (Or.inl w_514)) (am_rn rfl (am_rn rfl (am_rs rfl (ok_astore_n (k := 1) dd_49_44 rfl rfl (by decide)) (am_rs rfl (ok_aload_n (k := 0) dd_49_45 rfl rfl) (am_rs rfl (ok_aload_n (k := 0) dd_49_46 rfl rfl) (am_rs rfl (ok_gf dd_49_47 rfl am_ck11 (by decide) (Or.inl w_515)) (am_rz))))))))
theorem kb_49_6 : am_row mi_49 48 kr_49_6 := am_rn rfl (am_rn rfl (am_rs rfl (ok_pf dd_49_50 rfl am_ck11 (by decide) (Or.inl w_514) (Or.inl rfl) rfl) (am_rn rfl (am_rn rfl (am_rs rfl (ok_aload_n (k := 0) dd_49_53 rfl rfl) (am_rs rfl (ok_aload_n (k := 1) dd_49_54 rfl rfl) (am_rs rfl (ok_pf dd_49_55 rfl am_ck11 (by decide) (Or.inl w_515) (Or.inl rfl) rfl) (am_rz))))))))
theorem kb_49_7 : am_row mi_49 56 kr_49_7 := am_rn rfl (am_rn rfl (am_rs rfl (ok_aload_n (k := 0) dd_49_58 rfl rfl) (am_rs rfl (ok_cv (M' := mi_28) dd_49_59 rfl rfl w_438 w_440 ps_28 ⟨lk_28.1, lk_28.2.1, lk_28.2.2, by decide, by decide⟩ rfl) (am_rn rfl (am_rn rfl (am_rs rfl (ok_aload_n (k := 0) dd_49_62 rfl rfl) (am_rs rfl (ok_gf dd_49_63 rfl am_ck11 (by decide) (Or.inl w_514)) (am_rz))))))))
theorem kb_49_8 : am_row mi_49 64 kr_49_8 := am_rn rfl (am_rn rfl (am_rs rfl (ok_gf dd_49_66 rfl am_ck1 (by decide) (Or.inr ⟨_, w_84⟩)) (am_rn rfl (am_rn rfl (am_rs rfl (ok_gf dd_49_69 rfl am_ck8 (by decide) (Or.inr ⟨_, w_67⟩)) (am_rn rfl (am_rn rfl (am_rz))))))))
theorem kb_49_9 : am_row mi_49 72 kr_49_9 := am_rs rfl (ok_iret dd_49_72 rfl) (am_rz)
theorem ck_49 : am_rows mi_49 0 cd_49 := am_bs rfl kb_49_0 (am_bs rfl kb_49_1 (am_bs rfl kb_49_2 (am_bs rfl kb_49_3 (am_bs rfl kb_49_4 (am_bs rfl kb_49_5 (am_bs rfl kb_49_6 (am_bs rfl kb_49_7 (am_bs rfl kb_49_8 (am_bs rfl kb_49_9 (am_bz))))))))))
/-- OverAndBack.minute(III)I -/
noncomputable def kr_50_0 : List (Option am_Op) := [some (am_ald0 0 1), some (am_ild 1 2), some (am_cv 51 1 11 5), none, none, some (am_br1 .eq 25 8), none, none]
noncomputable def kr_50_1 : List (Option am_Op) := [some (am_ald0 0 9), some (am_ild 2 10), some (am_cv 52 1 11 13), none, none, some (am_br1 .eq 25 16), none, none]
noncomputable def kr_50_2 : List (Option am_Op) := [some (am_ild 3 17), some (am_br1 .lt 25 20), none, none, some (am_ild 3 21), some (am_psh (.retAddr 2) 22), some (am_br2 .le 27 25), none]
noncomputable def kr_50_3 : List (Option am_Op) := [none, some (am_psh (.retAddr 4294967295) 26), some (am_iret), some (am_ild 3 28), some (am_br1 .ne 41 31), none, none, some (am_ald0 0 32)]
noncomputable def kr_50_4 : List (Option am_Op) := [some (am_gf 11 6 35), none, none, some (am_ild 1 36), some (am_ild 2 37), some (am_cv 41 2 9 40), none, none]
noncomputable def kr_50_5 : List (Option am_Op) := [some (am_iret), some (am_ild 3 42), some (am_psh (.retAddr 2) 43), some (am_br2 .ne 64 46), none, none, some (am_ald0 0 47), some (am_gf 11 6 50)]
noncomputable def kr_50_6 : List (Option am_Op) := [none, none, some (am_ild 1 51), some (am_ild 2 52), some (am_cv 53 2 9 55), none, none, some (am_br1 .eq 62 58)]
noncomputable def kr_50_7 : List (Option am_Op) := [none, none, some (am_psh (.retAddr 1) 59), some (am_jmp 63), none, none, some (am_psh (.retAddr 0) 63), some (am_iret)]
noncomputable def kr_50_8 : List (Option am_Op) := [some (am_ald0 0 65), some (am_gf 11 6 68), none, none, some (am_ild 1 69), some (am_ild 2 70), some (am_cv 54 2 9 73), none]
noncomputable def kr_50_9 : List (Option am_Op) := [none, some (am_ist 4 75), none, some (am_ild 4 77), none, some (am_psh (.retAddr 8) 79), none, some (am_br2 .ne 87 82)]
noncomputable def kr_50_10 : List (Option am_Op) := [none, none, some (am_psh (.retAddr 4294967292) 84), none, some (am_jmp 89), none, none, some (am_ild 4 89)]
noncomputable def kr_50_11 : List (Option am_Op) := [none, some (am_iret)]
noncomputable def cd_50 : am_Cd := [kr_50_0, kr_50_1, kr_50_2, kr_50_3, kr_50_4, kr_50_5, kr_50_6, kr_50_7, kr_50_8, kr_50_9, kr_50_10, kr_50_11]
theorem dd_50_0 : decode prog_1_method_6_code 0 = .ok (.aload_n 0, 1) := by decide +kernel
theorem dd_50_1 : decode prog_1_method_6_code 1 = .ok (.iload_n 1, 1) := by decide +kernel
theorem dd_50_2 : decode prog_1_method_6_code 2 = .ok (.invokevirtual 128, 3) := by decide +kernel
theorem dd_50_5 : decode prog_1_method_6_code 5 = .ok (.ifCond .eq 20, 3) := by decide +kernel
theorem dd_50_8 : decode prog_1_method_6_code 8 = .ok (.aload_n 0, 1) := by decide +kernel
theorem dd_50_9 : decode prog_1_method_6_code 9 = .ok (.iload_n 2, 1) := by decide +kernel
theorem dd_50_10 : decode prog_1_method_6_code 10 = .ok (.invokevirtual 132, 3) := by decide +kernel
theorem dd_50_13 : decode prog_1_method_6_code 13 = .ok (.ifCond .eq 12, 3) := by decide +kernel
theorem dd_50_16 : decode prog_1_method_6_code 16 = .ok (.iload_n 3, 1) := by decide +kernel
theorem dd_50_17 : decode prog_1_method_6_code 17 = .ok (.ifCond .lt 8, 3) := by decide +kernel
theorem dd_50_20 : decode prog_1_method_6_code 20 = .ok (.iload_n 3, 1) := by decide +kernel
theorem dd_50_21 : decode prog_1_method_6_code 21 = .ok (.iconst 2, 1) := by decide +kernel
theorem dd_50_22 : decode prog_1_method_6_code 22 = .ok (.if_icmp .le 5, 3) := by decide +kernel
theorem dd_50_25 : decode prog_1_method_6_code 25 = .ok (.iconst (-1), 1) := by decide +kernel
theorem dd_50_26 : decode prog_1_method_6_code 26 = .ok (.ireturn, 1) := by decide +kernel
theorem dd_50_27 : decode prog_1_method_6_code 27 = .ok (.iload_n 3, 1) := by decide +kernel
theorem dd_50_28 : decode prog_1_method_6_code 28 = .ok (.ifCond .ne 13, 3) := by decide +kernel
theorem dd_50_31 : decode prog_1_method_6_code 31 = .ok (.aload_n 0, 1) := by decide +kernel
theorem dd_50_32 : decode prog_1_method_6_code 32 = .ok (.getfield 44, 3) := by decide +kernel
theorem dd_50_35 : decode prog_1_method_6_code 35 = .ok (.iload_n 1, 1) := by decide +kernel
theorem dd_50_36 : decode prog_1_method_6_code 36 = .ok (.iload_n 2, 1) := by decide +kernel
theorem dd_50_37 : decode prog_1_method_6_code 37 = .ok (.invokevirtual 135, 3) := by decide +kernel
theorem dd_50_40 : decode prog_1_method_6_code 40 = .ok (.ireturn, 1) := by decide +kernel
theorem dd_50_41 : decode prog_1_method_6_code 41 = .ok (.iload_n 3, 1) := by decide +kernel
theorem dd_50_42 : decode prog_1_method_6_code 42 = .ok (.iconst 2, 1) := by decide +kernel
theorem dd_50_43 : decode prog_1_method_6_code 43 = .ok (.if_icmp .ne 21, 3) := by decide +kernel
theorem dd_50_46 : decode prog_1_method_6_code 46 = .ok (.aload_n 0, 1) := by decide +kernel
theorem dd_50_47 : decode prog_1_method_6_code 47 = .ok (.getfield 44, 3) := by decide +kernel
theorem dd_50_50 : decode prog_1_method_6_code 50 = .ok (.iload_n 1, 1) := by decide +kernel
theorem dd_50_51 : decode prog_1_method_6_code 51 = .ok (.iload_n 2, 1) := by decide +kernel
theorem dd_50_52 : decode prog_1_method_6_code 52 = .ok (.invokevirtual 139, 3) := by decide +kernel
theorem dd_50_55 : decode prog_1_method_6_code 55 = .ok (.ifCond .eq 7, 3) := by decide +kernel
theorem dd_50_58 : decode prog_1_method_6_code 58 = .ok (.iconst 1, 1) := by decide +kernel
theorem dd_50_59 : decode prog_1_method_6_code 59 = .ok (.goto 4, 3) := by decide +kernel
theorem dd_50_62 : decode prog_1_method_6_code 62 = .ok (.iconst 0, 1) := by decide +kernel
theorem dd_50_63 : decode prog_1_method_6_code 63 = .ok (.ireturn, 1) := by decide +kernel
theorem dd_50_64 : decode prog_1_method_6_code 64 = .ok (.aload_n 0, 1) := by decide +kernel
theorem dd_50_65 : decode prog_1_method_6_code 65 = .ok (.getfield 44, 3) := by decide +kernel
theorem dd_50_68 : decode prog_1_method_6_code 68 = .ok (.iload_n 1, 1) := by decide +kernel
theorem dd_50_69 : decode prog_1_method_6_code 69 = .ok (.iload_n 2, 1) := by decide +kernel
theorem dd_50_70 : decode prog_1_method_6_code 70 = .ok (.invokevirtual 143, 3) := by decide +kernel
theorem dd_50_73 : decode prog_1_method_6_code 73 = .ok (.istore 4, 2) := by decide +kernel
theorem dd_50_75 : decode prog_1_method_6_code 75 = .ok (.iload 4, 2) := by decide +kernel
theorem dd_50_77 : decode prog_1_method_6_code 77 = .ok (.bipush 8, 2) := by decide +kernel
theorem dd_50_79 : decode prog_1_method_6_code 79 = .ok (.if_icmp .ne 8, 3) := by decide +kernel
theorem dd_50_82 : decode prog_1_method_6_code 82 = .ok (.bipush (-4), 2) := by decide +kernel
theorem dd_50_84 : decode prog_1_method_6_code 84 = .ok (.goto 5, 3) := by decide +kernel
theorem dd_50_87 : decode prog_1_method_6_code 87 = .ok (.iload 4, 2) := by decide +kernel
theorem dd_50_89 : decode prog_1_method_6_code 89 = .ok (.ireturn, 1) := by decide +kernel
theorem kb_50_0 : am_row mi_50 0 kr_50_0 := am_rs rfl (ok_aload_n (k := 0) dd_50_0 rfl rfl) (am_rs rfl (ok_iload_n (k := 1) dd_50_1 rfl rfl) (am_rs rfl (ok_cv (M' := mi_51) dd_50_2 rfl rfl w_584 w_586 ps_51 ⟨lk_51.1, lk_51.2.1, lk_51.2.2, by decide, by decide⟩ rfl) (am_rn rfl (am_rn rfl (am_rs rfl (ok_ifc dd_50_5 (by decide) rfl) (am_rn rfl (am_rn rfl (am_rz))))))))
theorem kb_50_1 : am_row mi_50 8 kr_50_1 := am_rs rfl (ok_aload_n (k := 0) dd_50_8 rfl rfl) (am_rs rfl (ok_iload_n (k := 2) dd_50_9 rfl rfl) (am_rs rfl (ok_cv (M' := mi_52) dd_50_10 rfl rfl w_588 w_590 ps_52 ⟨lk_52.1, lk_52.2.1, lk_52.2.2, by decide, by decide⟩ rfl) (am_rn rfl (am_rn rfl (am_rs rfl (ok_ifc dd_50_13 (by decide) rfl) (am_rn rfl (am_rn rfl (am_rz))))))))
theorem kb_50_2 : am_row mi_50 16 kr_50_2 := am_rs rfl (ok_iload_n (k := 3) dd_50_16 rfl rfl) (am_rs rfl (ok_ifc dd_50_17 (by decide) rfl) (am_rn rfl (am_rn rfl (am_rs rfl (ok_iload_n (k := 3) dd_50_20 rfl rfl) (am_rs rfl (ok_iconst dd_50_21 ic_2 rfl) (am_rs rfl (ok_icmp dd_50_22 (by decide) rfl) (am_rn rfl (am_rz))))))))
theorem kb_50_3 : am_row mi_50 24 kr_50_3 := am_rn rfl (am_rs rfl (ok_iconst dd_50_25 ic_m1 rfl) (am_rs rfl (ok_iret dd_50_26 rfl) (am_rs rfl (ok_iload_n (k := 3) dd_50_27 rfl rfl) (am_rs rfl (ok_ifc dd_50_28 (by decide) rfl) (am_rn rfl (am_rn rfl (am_rs rfl (ok_aload_n (k := 0) dd_50_31 rfl rfl) (am_rz))))))))
theorem kb_50_4 : am_row mi_50 32 kr_50_4 := am_rs rfl (ok_gf dd_50_32 rfl am_ck11 (by decide) (Or.inl w_517)) (am_rn rfl (am_rn rfl (am_rs rfl (ok_iload_n (k := 1) dd_50_35 rfl rfl) (am_rs rfl (ok_iload_n (k := 2) dd_50_36 rfl rfl) (am_rs rfl (ok_cv (M' := mi_41) dd_50_37 rfl rfl w_592 w_491 w_492 ⟨lk_41.1, lk_41.2.1, lk_41.2.2, by decide, by decide⟩ rfl) (am_rn rfl (am_rn rfl (am_rz))))))))
theorem kb_50_5 : am_row mi_50 40 kr_50_5 := am_rs rfl (ok_iret dd_50_40 rfl) (am_rs rfl (ok_iload_n (k := 3) dd_50_41 rfl rfl) (am_rs rfl (ok_iconst dd_50_42 ic_2 rfl) (am_rs rfl (ok_icmp dd_50_43 (by decide) rfl) (am_rn rfl (am_rn rfl (am_rs rfl (ok_aload_n (k := 0) dd_50_46 rfl rfl) (am_rs rfl (ok_gf dd_50_47 rfl am_ck11 (by decide) (Or.inl w_517)) (am_rz))))))))
theorem kb_50_6 : am_row mi_50 48 kr_50_6 := am_rn rfl (am_rn rfl (am_rs rfl (ok_iload_n (k := 1) dd_50_50 rfl rfl) (am_rs rfl (ok_iload_n (k := 2) dd_50_51 rfl rfl) (am_rs rfl (ok_cv (M' := mi_53) dd_50_52 rfl rfl w_593 w_594 w_595 ⟨lk_53.1, lk_53.2.1, lk_53.2.2, by decide, by decide⟩ rfl) (am_rn rfl (am_rn rfl (am_rs rfl (ok_ifc dd_50_55 (by decide) rfl) (am_rz))))))))
theorem kb_50_7 : am_row mi_50 56 kr_50_7 := am_rn rfl (am_rn rfl (am_rs rfl (ok_iconst dd_50_58 ic_1 rfl) (am_rs rfl (ok_goto dd_50_59 (by decide)) (am_rn rfl (am_rn rfl (am_rs rfl (ok_iconst dd_50_62 ic_0 rfl) (am_rs rfl (ok_iret dd_50_63 rfl) (am_rz))))))))
theorem kb_50_8 : am_row mi_50 64 kr_50_8 := am_rs rfl (ok_aload_n (k := 0) dd_50_64 rfl rfl) (am_rs rfl (ok_gf dd_50_65 rfl am_ck11 (by decide) (Or.inl w_517)) (am_rn rfl (am_rn rfl (am_rs rfl (ok_iload_n (k := 1) dd_50_68 rfl rfl) (am_rs rfl (ok_iload_n (k := 2) dd_50_69 rfl rfl) (am_rs rfl (ok_cv (M' := mi_54) dd_50_70 rfl rfl w_597 w_598 w_599 ⟨lk_54.1, lk_54.2.1, lk_54.2.2, by decide, by decide⟩ rfl) (am_rn rfl (am_rz))))))))
theorem kb_50_9 : am_row mi_50 72 kr_50_9 := am_rn rfl (am_rs rfl (ok_istore dd_50_73 rfl (by decide)) (am_rn rfl (am_rs rfl (ok_iload dd_50_75 rfl) (am_rn rfl (am_rs rfl (ok_bipush dd_50_77 bi_8 rfl) (am_rn rfl (am_rs rfl (ok_icmp dd_50_79 (by decide) rfl) (am_rz))))))))
theorem kb_50_10 : am_row mi_50 80 kr_50_10 := am_rn rfl (am_rn rfl (am_rs rfl (ok_bipush dd_50_82 bi_m4 rfl) (am_rn rfl (am_rs rfl (ok_goto dd_50_84 (by decide)) (am_rn rfl (am_rn rfl (am_rs rfl (ok_iload dd_50_87 rfl) (am_rz))))))))
theorem kb_50_11 : am_row mi_50 88 kr_50_11 := am_rn rfl (am_rs rfl (ok_iret dd_50_89 rfl) (am_rz))
theorem ck_50 : am_rows mi_50 0 cd_50 := am_bs rfl kb_50_0 (am_bs rfl kb_50_1 (am_bs rfl kb_50_2 (am_bs rfl kb_50_3 (am_bs rfl kb_50_4 (am_bs rfl kb_50_5 (am_bs rfl kb_50_6 (am_bs rfl kb_50_7 (am_bs rfl kb_50_8 (am_bs rfl kb_50_9 (am_bs rfl kb_50_10 (am_bs rfl kb_50_11 (am_bz))))))))))))
/-- OverAndBack.isStation(I)Z -/
noncomputable def kr_51_0 : List (Option am_Op) := [some (am_ild 1 1), some (am_br1 .lt 22 4), none, none, some (am_ild 1 5), some (am_ald0 0 6), some (am_gf 11 3 9), none]
noncomputable def kr_51_1 : List (Option am_Op) := [none, some (am_gf 1 0 12), none, none, some (am_gf 8 3 15), none, none, some (am_br2 .ge 22 18)]
noncomputable def kr_51_2 : List (Option am_Op) := [none, none, some (am_psh (.retAddr 1) 19), some (am_jmp 23), none, none, some (am_psh (.retAddr 0) 23), some (am_zret)]
noncomputable def cd_51 : am_Cd := [kr_51_0, kr_51_1, kr_51_2]
theorem dd_51_0 : decode prog_1_method_29_code 0 = .ok (.iload_n 1, 1) := by decide +kernel
theorem dd_51_1 : decode prog_1_method_29_code 1 = .ok (.ifCond .lt 21, 3) := by decide +kernel
theorem dd_51_4 : decode prog_1_method_29_code 4 = .ok (.iload_n 1, 1) := by decide +kernel
theorem dd_51_5 : decode prog_1_method_29_code 5 = .ok (.aload_n 0, 1) := by decide +kernel
theorem dd_51_6 : decode prog_1_method_29_code 6 = .ok (.getfield 27, 3) := by decide +kernel
theorem dd_51_9 : decode prog_1_method_29_code 9 = .ok (.getfield 119, 3) := by decide +kernel
theorem dd_51_12 : decode prog_1_method_29_code 12 = .ok (.getfield 123, 3) := by decide +kernel
theorem dd_51_15 : decode prog_1_method_29_code 15 = .ok (.if_icmp .ge 7, 3) := by decide +kernel
theorem dd_51_18 : decode prog_1_method_29_code 18 = .ok (.iconst 1, 1) := by decide +kernel
theorem dd_51_19 : decode prog_1_method_29_code 19 = .ok (.goto 4, 3) := by decide +kernel
theorem dd_51_22 : decode prog_1_method_29_code 22 = .ok (.iconst 0, 1) := by decide +kernel
theorem dd_51_23 : decode prog_1_method_29_code 23 = .ok (.ireturn, 1) := by decide +kernel
theorem kb_51_0 : am_row mi_51 0 kr_51_0 := am_rs rfl (ok_iload_n (k := 1) dd_51_0 rfl rfl) (am_rs rfl (ok_ifc dd_51_1 (by decide) rfl) (am_rn rfl (am_rn rfl (am_rs rfl (ok_iload_n (k := 1) dd_51_4 rfl rfl) (am_rs rfl (ok_aload_n (k := 0) dd_51_5 rfl rfl) (am_rs rfl (ok_gf dd_51_6 rfl am_ck11 (by decide) (Or.inl w_514)) (am_rn rfl (am_rz))))))))
theorem kb_51_1 : am_row mi_51 8 kr_51_1 := am_rn rfl (am_rs rfl (ok_gf dd_51_9 rfl am_ck1 (by decide) (Or.inr ⟨_, w_84⟩)) (am_rn rfl (am_rn rfl (am_rs rfl (ok_gf dd_51_12 rfl am_ck8 (by decide) (Or.inr ⟨_, w_67⟩)) (am_rn rfl (am_rn rfl (am_rs rfl (ok_icmp dd_51_15 (by decide) rfl) (am_rz))))))))
theorem kb_51_2 : am_row mi_51 16 kr_51_2 := am_rn rfl (am_rn rfl (am_rs rfl (ok_iconst dd_51_18 ic_1 rfl) (am_rs rfl (ok_goto dd_51_19 (by decide)) (am_rn rfl (am_rn rfl (am_rs rfl (ok_iconst dd_51_22 ic_0 rfl) (am_rs rfl (ok_zret dd_51_23 rfl) (am_rz))))))))
theorem ck_51 : am_rows mi_51 0 cd_51 := am_bs rfl kb_51_0 (am_bs rfl kb_51_1 (am_bs rfl kb_51_2 (am_bz)))
/-- OverAndBack.isMinute(I)Z -/
noncomputable def kr_52_0 : List (Option am_Op) := [some (am_ild 1 1), some (am_br1 .lt 19 4), none, none, some (am_ild 1 5), some (am_ald0 0 6), some (am_gf 11 3 9), none]
noncomputable def kr_52_1 : List (Option am_Op) := [none, some (am_gf 1 6 12), none, none, some (am_br2 .ge 19 15), none, none, some (am_psh (.retAddr 1) 16)]
noncomputable def kr_52_2 : List (Option am_Op) := [some (am_jmp 20), none, none, some (am_psh (.retAddr 0) 20), some (am_zret)]
noncomputable def cd_52 : am_Cd := [kr_52_0, kr_52_1, kr_52_2]
theorem dd_52_0 : decode prog_1_method_30_code 0 = .ok (.iload_n 1, 1) := by decide +kernel
theorem dd_52_1 : decode prog_1_method_30_code 1 = .ok (.ifCond .lt 18, 3) := by decide +kernel
theorem dd_52_4 : decode prog_1_method_30_code 4 = .ok (.iload_n 1, 1) := by decide +kernel
theorem dd_52_5 : decode prog_1_method_30_code 5 = .ok (.aload_n 0, 1) := by decide +kernel
theorem dd_52_6 : decode prog_1_method_30_code 6 = .ok (.getfield 27, 3) := by decide +kernel
theorem dd_52_9 : decode prog_1_method_30_code 9 = .ok (.getfield 288, 3) := by decide +kernel
theorem dd_52_12 : decode prog_1_method_30_code 12 = .ok (.if_icmp .ge 7, 3) := by decide +kernel
theorem dd_52_15 : decode prog_1_method_30_code 15 = .ok (.iconst 1, 1) := by decide +kernel
theorem dd_52_16 : decode prog_1_method_30_code 16 = .ok (.goto 4, 3) := by decide +kernel
theorem dd_52_19 : decode prog_1_method_30_code 19 = .ok (.iconst 0, 1) := by decide +kernel
theorem dd_52_20 : decode prog_1_method_30_code 20 = .ok (.ireturn, 1) := by decide +kernel
theorem kb_52_0 : am_row mi_52 0 kr_52_0 := am_rs rfl (ok_iload_n (k := 1) dd_52_0 rfl rfl) (am_rs rfl (ok_ifc dd_52_1 (by decide) rfl) (am_rn rfl (am_rn rfl (am_rs rfl (ok_iload_n (k := 1) dd_52_4 rfl rfl) (am_rs rfl (ok_aload_n (k := 0) dd_52_5 rfl rfl) (am_rs rfl (ok_gf dd_52_6 rfl am_ck11 (by decide) (Or.inl w_514)) (am_rn rfl (am_rz))))))))
theorem kb_52_1 : am_row mi_52 8 kr_52_1 := am_rn rfl (am_rs rfl (ok_gf dd_52_9 rfl am_ck1 (by decide) (Or.inr ⟨_, w_112⟩)) (am_rn rfl (am_rn rfl (am_rs rfl (ok_icmp dd_52_12 (by decide) rfl) (am_rn rfl (am_rn rfl (am_rs rfl (ok_iconst dd_52_15 ic_1 rfl) (am_rz))))))))
theorem kb_52_2 : am_row mi_52 16 kr_52_2 := am_rs rfl (ok_goto dd_52_16 (by decide)) (am_rn rfl (am_rn rfl (am_rs rfl (ok_iconst dd_52_19 ic_0 rfl) (am_rs rfl (ok_zret dd_52_20 rfl) (am_rz)))))
theorem ck_52 : am_rows mi_52 0 cd_52 := am_bs rfl kb_52_0 (am_bs rfl kb_52_1 (am_bs rfl kb_52_2 (am_bz)))
/-- OverAndBack$Screen.isBreak(II)Z -/
noncomputable def kr_53_0 : List (Option am_Op) := [some (am_ild 1 1), some (am_ild 2 2), some (am_cs 35 2 5), none, none, some (am_br1 .eq 26 8), none, none]
noncomputable def kr_53_1 : List (Option am_Op) := [some (am_ald0 0 9), some (am_gf 9 2 12), none, none, some (am_ild 1 13), some (am_psh (.retAddr 60) 15), none, some (am_bin am_mul 16)]
noncomputable def kr_53_2 : List (Option am_Op) := [some (am_ild 2 17), some (am_bin am_add 18), some (am_ald 0 19), some (am_br1 .eq 26 22), none, none, some (am_psh (.retAddr 1) 23), some (am_jmp 27)]
noncomputable def kr_53_3 : List (Option am_Op) := [none, none, some (am_psh (.retAddr 0) 27), some (am_zret)]
noncomputable def cd_53 : am_Cd := [kr_53_0, kr_53_1, kr_53_2, kr_53_3]
theorem dd_53_0 : decode prog_11_method_14_code 0 = .ok (.iload_n 1, 1) := by decide +kernel
theorem dd_53_1 : decode prog_11_method_14_code 1 = .ok (.iload_n 2, 1) := by decide +kernel
theorem dd_53_2 : decode prog_11_method_14_code 2 = .ok (.invokestatic 81, 3) := by decide +kernel
theorem dd_53_5 : decode prog_11_method_14_code 5 = .ok (.ifCond .eq 21, 3) := by decide +kernel
theorem dd_53_8 : decode prog_11_method_14_code 8 = .ok (.aload_n 0, 1) := by decide +kernel
theorem dd_53_9 : decode prog_11_method_14_code 9 = .ok (.getfield 18, 3) := by decide +kernel
theorem dd_53_12 : decode prog_11_method_14_code 12 = .ok (.iload_n 1, 1) := by decide +kernel
theorem dd_53_13 : decode prog_11_method_14_code 13 = .ok (.bipush 60, 2) := by decide +kernel
theorem dd_53_15 : decode prog_11_method_14_code 15 = .ok (.imul, 1) := by decide +kernel
theorem dd_53_16 : decode prog_11_method_14_code 16 = .ok (.iload_n 2, 1) := by decide +kernel
theorem dd_53_17 : decode prog_11_method_14_code 17 = .ok (.iadd, 1) := by decide +kernel
theorem dd_53_18 : decode prog_11_method_14_code 18 = .ok (.iaload, 1) := by decide +kernel
theorem dd_53_19 : decode prog_11_method_14_code 19 = .ok (.ifCond .eq 7, 3) := by decide +kernel
theorem dd_53_22 : decode prog_11_method_14_code 22 = .ok (.iconst 1, 1) := by decide +kernel
theorem dd_53_23 : decode prog_11_method_14_code 23 = .ok (.goto 4, 3) := by decide +kernel
theorem dd_53_26 : decode prog_11_method_14_code 26 = .ok (.iconst 0, 1) := by decide +kernel
theorem dd_53_27 : decode prog_11_method_14_code 27 = .ok (.ireturn, 1) := by decide +kernel
theorem kb_53_0 : am_row mi_53 0 kr_53_0 := am_rs rfl (ok_iload_n (k := 1) dd_53_0 rfl rfl) (am_rs rfl (ok_iload_n (k := 2) dd_53_1 rfl rfl) (am_rs rfl (ok_cs (M' := mi_35) dd_53_2 rfl rfl w_466 w_467 ⟨lk_35.1, lk_35.2.1, lk_35.2.2, by decide, by decide⟩) (am_rn rfl (am_rn rfl (am_rs rfl (ok_ifc dd_53_5 (by decide) rfl) (am_rn rfl (am_rn rfl (am_rz))))))))
theorem kb_53_1 : am_row mi_53 8 kr_53_1 := am_rs rfl (ok_aload_n (k := 0) dd_53_8 rfl rfl) (am_rs rfl (ok_gf dd_53_9 rfl am_ck9 (by decide) (Or.inl w_155)) (am_rn rfl (am_rn rfl (am_rs rfl (ok_iload_n (k := 1) dd_53_12 rfl rfl) (am_rs rfl (ok_bipush dd_53_13 bi_60 rfl) (am_rn rfl (am_rs rfl (ok_imul dd_53_15 rfl) (am_rz))))))))
theorem kb_53_2 : am_row mi_53 16 kr_53_2 := am_rs rfl (ok_iload_n (k := 2) dd_53_16 rfl rfl) (am_rs rfl (ok_iadd dd_53_17 rfl) (am_rs rfl (ok_iald dd_53_18 rfl) (am_rs rfl (ok_ifc dd_53_19 (by decide) rfl) (am_rn rfl (am_rn rfl (am_rs rfl (ok_iconst dd_53_22 ic_1 rfl) (am_rs rfl (ok_goto dd_53_23 (by decide)) (am_rz))))))))
theorem kb_53_3 : am_row mi_53 24 kr_53_3 := am_rn rfl (am_rn rfl (am_rs rfl (ok_iconst dd_53_26 ic_0 rfl) (am_rs rfl (ok_zret dd_53_27 rfl) (am_rz))))
theorem ck_53 : am_rows mi_53 0 cd_53 := am_bs rfl kb_53_0 (am_bs rfl kb_53_1 (am_bs rfl kb_53_2 (am_bs rfl kb_53_3 (am_bz))))
/-- OverAndBack$Screen.factOf(II)I -/
noncomputable def kr_54_0 : List (Option am_Op) := [some (am_ild 1 1), some (am_ild 2 2), some (am_cs 35 2 5), none, none, some (am_br1 .eq 22 8), none, none]
noncomputable def kr_54_1 : List (Option am_Op) := [some (am_ald0 0 9), some (am_gf 9 1 12), none, none, some (am_ild 1 13), some (am_psh (.retAddr 60) 15), none, some (am_bin am_mul 16)]
noncomputable def kr_54_2 : List (Option am_Op) := [some (am_ild 2 17), some (am_bin am_add 18), some (am_ald 0 19), some (am_jmp 24), none, none, some (am_psh (.retAddr 8) 24), none]
noncomputable def kr_54_3 : List (Option am_Op) := [some (am_iret)]
noncomputable def cd_54 : am_Cd := [kr_54_0, kr_54_1, kr_54_2, kr_54_3]
theorem dd_54_0 : decode prog_11_method_12_code 0 = .ok (.iload_n 1, 1) := by decide +kernel
theorem dd_54_1 : decode prog_11_method_12_code 1 = .ok (.iload_n 2, 1) := by decide +kernel
theorem dd_54_2 : decode prog_11_method_12_code 2 = .ok (.invokestatic 81, 3) := by decide +kernel
theorem dd_54_5 : decode prog_11_method_12_code 5 = .ok (.ifCond .eq 17, 3) := by decide +kernel
theorem dd_54_8 : decode prog_11_method_12_code 8 = .ok (.aload_n 0, 1) := by decide +kernel
theorem dd_54_9 : decode prog_11_method_12_code 9 = .ok (.getfield 15, 3) := by decide +kernel
theorem dd_54_12 : decode prog_11_method_12_code 12 = .ok (.iload_n 1, 1) := by decide +kernel
theorem dd_54_13 : decode prog_11_method_12_code 13 = .ok (.bipush 60, 2) := by decide +kernel
theorem dd_54_15 : decode prog_11_method_12_code 15 = .ok (.imul, 1) := by decide +kernel
theorem dd_54_16 : decode prog_11_method_12_code 16 = .ok (.iload_n 2, 1) := by decide +kernel
theorem dd_54_17 : decode prog_11_method_12_code 17 = .ok (.iadd, 1) := by decide +kernel
theorem dd_54_18 : decode prog_11_method_12_code 18 = .ok (.iaload, 1) := by decide +kernel
theorem dd_54_19 : decode prog_11_method_12_code 19 = .ok (.goto 5, 3) := by decide +kernel
theorem dd_54_22 : decode prog_11_method_12_code 22 = .ok (.bipush 8, 2) := by decide +kernel
theorem dd_54_24 : decode prog_11_method_12_code 24 = .ok (.ireturn, 1) := by decide +kernel
theorem kb_54_0 : am_row mi_54 0 kr_54_0 := am_rs rfl (ok_iload_n (k := 1) dd_54_0 rfl rfl) (am_rs rfl (ok_iload_n (k := 2) dd_54_1 rfl rfl) (am_rs rfl (ok_cs (M' := mi_35) dd_54_2 rfl rfl w_466 w_467 ⟨lk_35.1, lk_35.2.1, lk_35.2.2, by decide, by decide⟩) (am_rn rfl (am_rn rfl (am_rs rfl (ok_ifc dd_54_5 (by decide) rfl) (am_rn rfl (am_rn rfl (am_rz))))))))
theorem kb_54_1 : am_row mi_54 8 kr_54_1 := am_rs rfl (ok_aload_n (k := 0) dd_54_8 rfl rfl) (am_rs rfl (ok_gf dd_54_9 rfl am_ck9 (by decide) (Or.inl w_154)) (am_rn rfl (am_rn rfl (am_rs rfl (ok_iload_n (k := 1) dd_54_12 rfl rfl) (am_rs rfl (ok_bipush dd_54_13 bi_60 rfl) (am_rn rfl (am_rs rfl (ok_imul dd_54_15 rfl) (am_rz))))))))
theorem kb_54_2 : am_row mi_54 16 kr_54_2 := am_rs rfl (ok_iload_n (k := 2) dd_54_16 rfl rfl) (am_rs rfl (ok_iadd dd_54_17 rfl) (am_rs rfl (ok_iald dd_54_18 rfl) (am_rs rfl (ok_goto dd_54_19 (by decide)) (am_rn rfl (am_rn rfl (am_rs rfl (ok_bipush dd_54_22 bi_8 rfl) (am_rn rfl (am_rz))))))))
theorem kb_54_3 : am_row mi_54 24 kr_54_3 := am_rs rfl (ok_iret dd_54_24 rfl) (am_rz)
theorem ck_54 : am_rows mi_54 0 cd_54 := am_bs rfl kb_54_0 (am_bs rfl kb_54_1 (am_bs rfl kb_54_2 (am_bs rfl kb_54_3 (am_bz))))
/-- OverAndBack.known(I)I -/
noncomputable def kr_55_0 : List (Option am_Op) := [some (am_ild 1 1), some (am_cs 56 1 4), none, none, some (am_br1 .eq 18 7), none, none, some (am_ald0 0 8)]
noncomputable def kr_55_1 : List (Option am_Op) := [some (am_gf 11 5 11), none, none, some (am_ild 1 12), some (am_cv 57 1 2 15), none, none, some (am_jmp 19)]
noncomputable def kr_55_2 : List (Option am_Op) := [none, none, some (am_psh (.retAddr 4294967295) 19), some (am_iret)]
noncomputable def cd_55 : am_Cd := [kr_55_0, kr_55_1, kr_55_2]
theorem dd_55_0 : decode prog_1_method_7_code 0 = .ok (.iload_n 1, 1) := by decide +kernel
theorem dd_55_1 : decode prog_1_method_7_code 1 = .ok (.invokestatic 146, 3) := by decide +kernel
theorem dd_55_4 : decode prog_1_method_7_code 4 = .ok (.ifCond .eq 14, 3) := by decide +kernel
theorem dd_55_7 : decode prog_1_method_7_code 7 = .ok (.aload_n 0, 1) := by decide +kernel
theorem dd_55_8 : decode prog_1_method_7_code 8 = .ok (.getfield 37, 3) := by decide +kernel
theorem dd_55_11 : decode prog_1_method_7_code 11 = .ok (.iload_n 1, 1) := by decide +kernel
theorem dd_55_12 : decode prog_1_method_7_code 12 = .ok (.invokevirtual 149, 3) := by decide +kernel
theorem dd_55_15 : decode prog_1_method_7_code 15 = .ok (.goto 4, 3) := by decide +kernel
theorem dd_55_18 : decode prog_1_method_7_code 18 = .ok (.iconst (-1), 1) := by decide +kernel
theorem dd_55_19 : decode prog_1_method_7_code 19 = .ok (.ireturn, 1) := by decide +kernel
theorem kb_55_0 : am_row mi_55 0 kr_55_0 := am_rs rfl (ok_iload_n (k := 1) dd_55_0 rfl rfl) (am_rs rfl (ok_cs (M' := mi_56) dd_55_1 rfl rfl w_605 w_606 ⟨lk_56.1, lk_56.2.1, lk_56.2.2, by decide, by decide⟩) (am_rn rfl (am_rn rfl (am_rs rfl (ok_ifc dd_55_4 (by decide) rfl) (am_rn rfl (am_rn rfl (am_rs rfl (ok_aload_n (k := 0) dd_55_7 rfl rfl) (am_rz))))))))
theorem kb_55_1 : am_row mi_55 8 kr_55_1 := am_rs rfl (ok_gf dd_55_8 rfl am_ck11 (by decide) (Or.inl w_516)) (am_rn rfl (am_rn rfl (am_rs rfl (ok_iload_n (k := 1) dd_55_11 rfl rfl) (am_rs rfl (ok_cv (M' := mi_57) dd_55_12 rfl rfl w_608 w_609 w_610 ⟨lk_57.1, lk_57.2.1, lk_57.2.2, by decide, by decide⟩ rfl) (am_rn rfl (am_rn rfl (am_rs rfl (ok_goto dd_55_15 (by decide)) (am_rz))))))))
theorem kb_55_2 : am_row mi_55 16 kr_55_2 := am_rn rfl (am_rn rfl (am_rs rfl (ok_iconst dd_55_18 ic_m1 rfl) (am_rs rfl (ok_iret dd_55_19 rfl) (am_rz))))
theorem ck_55 : am_rows mi_55 0 cd_55 := am_bs rfl kb_55_0 (am_bs rfl kb_55_1 (am_bs rfl kb_55_2 (am_bz)))
/-- OverAndBack.isSet(I)Z -/
noncomputable def kr_56_0 : List (Option am_Op) := [some (am_ild 0 1), some (am_br1 .lt 15 4), none, none, some (am_ild 0 5), some (am_psh (.retAddr 255) 8), none, none]
noncomputable def kr_56_1 : List (Option am_Op) := [some (am_br2 .gt 15 11), none, none, some (am_psh (.retAddr 1) 12), some (am_jmp 16), none, none, some (am_psh (.retAddr 0) 16)]
noncomputable def kr_56_2 : List (Option am_Op) := [some (am_zret)]
noncomputable def cd_56 : am_Cd := [kr_56_0, kr_56_1, kr_56_2]
theorem dd_56_0 : decode prog_1_method_33_code 0 = .ok (.iload_n 0, 1) := by decide +kernel
theorem dd_56_1 : decode prog_1_method_33_code 1 = .ok (.ifCond .lt 14, 3) := by decide +kernel
theorem dd_56_4 : decode prog_1_method_33_code 4 = .ok (.iload_n 0, 1) := by decide +kernel
theorem dd_56_5 : decode prog_1_method_33_code 5 = .ok (.sipush 255, 3) := by decide +kernel
theorem dd_56_8 : decode prog_1_method_33_code 8 = .ok (.if_icmp .gt 7, 3) := by decide +kernel
theorem dd_56_11 : decode prog_1_method_33_code 11 = .ok (.iconst 1, 1) := by decide +kernel
theorem dd_56_12 : decode prog_1_method_33_code 12 = .ok (.goto 4, 3) := by decide +kernel
theorem dd_56_15 : decode prog_1_method_33_code 15 = .ok (.iconst 0, 1) := by decide +kernel
theorem dd_56_16 : decode prog_1_method_33_code 16 = .ok (.ireturn, 1) := by decide +kernel
theorem kb_56_0 : am_row mi_56 0 kr_56_0 := am_rs rfl (ok_iload_n (k := 0) dd_56_0 rfl rfl) (am_rs rfl (ok_ifc dd_56_1 (by decide) rfl) (am_rn rfl (am_rn rfl (am_rs rfl (ok_iload_n (k := 0) dd_56_4 rfl rfl) (am_rs rfl (ok_sipush dd_56_5 si_255 rfl) (am_rn rfl (am_rn rfl (am_rz))))))))
theorem kb_56_1 : am_row mi_56 8 kr_56_1 := am_rs rfl (ok_icmp dd_56_8 (by decide) rfl) (am_rn rfl (am_rn rfl (am_rs rfl (ok_iconst dd_56_11 ic_1 rfl) (am_rs rfl (ok_goto dd_56_12 (by decide)) (am_rn rfl (am_rn rfl (am_rs rfl (ok_iconst dd_56_15 ic_0 rfl) (am_rz))))))))
theorem kb_56_2 : am_row mi_56 16 kr_56_2 := am_rs rfl (ok_zret dd_56_16 rfl) (am_rz)
theorem ck_56 : am_rows mi_56 0 cd_56 := am_bs rfl kb_56_0 (am_bs rfl kb_56_1 (am_bs rfl kb_56_2 (am_bz)))
/-- OverAndBack$Facts.following(I)I -/
noncomputable def kr_57_0 : List (Option am_Op) := [some (am_ald0 0 1), some (am_gf 2 0 4), none, none, some (am_ild 1 5), some (am_psh (.retAddr 255) 8), none, none]
noncomputable def kr_57_1 : List (Option am_Op) := [some (am_bin Nat.land 9), some (am_ald 0 10), some (am_iret)]
noncomputable def cd_57 : am_Cd := [kr_57_0, kr_57_1]
theorem dd_57_0 : decode prog_4_method_4_code 0 = .ok (.aload_n 0, 1) := by decide +kernel
theorem dd_57_1 : decode prog_4_method_4_code 1 = .ok (.getfield 9, 3) := by decide +kernel
theorem dd_57_4 : decode prog_4_method_4_code 4 = .ok (.iload_n 1, 1) := by decide +kernel
theorem dd_57_5 : decode prog_4_method_4_code 5 = .ok (.sipush 255, 3) := by decide +kernel
theorem dd_57_8 : decode prog_4_method_4_code 8 = .ok (.iand, 1) := by decide +kernel
theorem dd_57_9 : decode prog_4_method_4_code 9 = .ok (.iaload, 1) := by decide +kernel
theorem dd_57_10 : decode prog_4_method_4_code 10 = .ok (.ireturn, 1) := by decide +kernel
theorem kb_57_0 : am_row mi_57 0 kr_57_0 := am_rs rfl (ok_aload_n (k := 0) dd_57_0 rfl rfl) (am_rs rfl (ok_gf dd_57_1 rfl am_ck2 (by decide) (Or.inl w_143)) (am_rn rfl (am_rn rfl (am_rs rfl (ok_iload_n (k := 1) dd_57_4 rfl rfl) (am_rs rfl (ok_sipush dd_57_5 si_255 rfl) (am_rn rfl (am_rn rfl (am_rz))))))))
theorem kb_57_1 : am_row mi_57 8 kr_57_1 := am_rs rfl (ok_iand dd_57_8 rfl) (am_rs rfl (ok_iald dd_57_9 rfl) (am_rs rfl (ok_iret dd_57_10 rfl) (am_rz)))
theorem ck_57 : am_rows mi_57 0 cd_57 := am_bs rfl kb_57_0 (am_bs rfl kb_57_1 (am_bz))
/-- OverAndBack.watcher(II)I -/
noncomputable def kr_58_0 : List (Option am_Op) := [some (am_ald0 0 1), some (am_ild 1 2), some (am_cv 59 1 11 5), none, none, some (am_br1 .eq 17 8), none, none]
noncomputable def kr_58_1 : List (Option am_Op) := [some (am_ild 2 9), some (am_br1 .lt 17 12), none, none, some (am_ild 2 13), some (am_psh (.retAddr 5) 14), some (am_br2 .le 19 17), none]
noncomputable def kr_58_2 : List (Option am_Op) := [none, some (am_psh (.retAddr 4294967295) 18), some (am_iret), some (am_ald0 0 20), some (am_ild 1 21), some (am_ald0 0 22), some (am_gf 11 6 25), none]
noncomputable def kr_58_3 : List (Option am_Op) := [none, some (am_cv 60 2 11 28), none, none, some (am_ild 2 29), some (am_tsw 0 [64, 73, 82, 90, 105] 113), none, none]
noncomputable def kr_58_4 : List (Option am_Op) := [none, none, none, none, none, none, none, none]
noncomputable def kr_58_5 : List (Option am_Op) := [none, none, none, none, none, none, none, none]
noncomputable def kr_58_6 : List (Option am_Op) := [none, none, none, none, none, none, none, none]
noncomputable def kr_58_7 : List (Option am_Op) := [none, none, none, none, none, none, none, none]
noncomputable def kr_58_8 : List (Option am_Op) := [some (am_ald0 0 65), some (am_gf 11 3 68), none, none, some (am_ild 1 69), some (am_cv 69 1 1 72), none, none]
noncomputable def kr_58_9 : List (Option am_Op) := [some (am_iret), some (am_ald0 0 74), some (am_gf 11 3 77), none, none, some (am_ild 1 78), some (am_cv 70 1 1 81), none]
noncomputable def kr_58_10 : List (Option am_Op) := [none, some (am_iret), some (am_ald0 0 83), some (am_gf 11 8 86), none, none, some (am_gf 10 4 89), none]
noncomputable def kr_58_11 : List (Option am_Op) := [none, some (am_iret), some (am_ald0 0 91), some (am_gf 11 5 94), none, none, some (am_ald0 0 95), some (am_gf 11 8 98)]
noncomputable def kr_58_12 : List (Option am_Op) := [none, none, some (am_gf 10 5 101), none, none, some (am_cv 57 1 2 104), none, none]
noncomputable def kr_58_13 : List (Option am_Op) := [some (am_iret), some (am_ald0 0 106), some (am_gf 11 8 109), none, none, some (am_gf 10 6 112), none, none]
noncomputable def kr_58_14 : List (Option am_Op) := [some (am_iret), some (am_ald0 0 114), some (am_gf 11 9 117), none, none, some (am_ald0 0 118), some (am_gf 11 3 121), none]
noncomputable def kr_58_15 : List (Option am_Op) := [none, some (am_ild 1 122), some (am_cv 70 1 1 125), none, none, some (am_psh (.retAddr 0) 126), some (am_cv 42 2 7 129), none]
noncomputable def kr_58_16 : List (Option am_Op) := [none, some (am_ald0 0 130), some (am_gf 11 8 133), none, none, some (am_gf 10 4 136), none, none]
noncomputable def kr_58_17 : List (Option am_Op) := [some (am_bin am_sub 137), some (am_iret)]
noncomputable def cd_58 : am_Cd := [kr_58_0, kr_58_1, kr_58_2, kr_58_3, kr_58_4, kr_58_5, kr_58_6, kr_58_7, kr_58_8, kr_58_9, kr_58_10, kr_58_11, kr_58_12, kr_58_13, kr_58_14, kr_58_15, kr_58_16, kr_58_17]
theorem dd_58_0 : decode prog_1_method_8_code 0 = .ok (.aload_n 0, 1) := by decide +kernel
theorem dd_58_1 : decode prog_1_method_8_code 1 = .ok (.iload_n 1, 1) := by decide +kernel
theorem dd_58_2 : decode prog_1_method_8_code 2 = .ok (.invokevirtual 153, 3) := by decide +kernel
theorem dd_58_5 : decode prog_1_method_8_code 5 = .ok (.ifCond .eq 12, 3) := by decide +kernel
theorem dd_58_8 : decode prog_1_method_8_code 8 = .ok (.iload_n 2, 1) := by decide +kernel
theorem dd_58_9 : decode prog_1_method_8_code 9 = .ok (.ifCond .lt 8, 3) := by decide +kernel
theorem dd_58_12 : decode prog_1_method_8_code 12 = .ok (.iload_n 2, 1) := by decide +kernel
theorem dd_58_13 : decode prog_1_method_8_code 13 = .ok (.iconst 5, 1) := by decide +kernel
theorem dd_58_14 : decode prog_1_method_8_code 14 = .ok (.if_icmp .le 5, 3) := by decide +kernel
theorem dd_58_17 : decode prog_1_method_8_code 17 = .ok (.iconst (-1), 1) := by decide +kernel
theorem dd_58_18 : decode prog_1_method_8_code 18 = .ok (.ireturn, 1) := by decide +kernel
theorem dd_58_19 : decode prog_1_method_8_code 19 = .ok (.aload_n 0, 1) := by decide +kernel
theorem dd_58_20 : decode prog_1_method_8_code 20 = .ok (.iload_n 1, 1) := by decide +kernel
theorem dd_58_21 : decode prog_1_method_8_code 21 = .ok (.aload_n 0, 1) := by decide +kernel
theorem dd_58_22 : decode prog_1_method_8_code 22 = .ok (.getfield 44, 3) := by decide +kernel
theorem dd_58_25 : decode prog_1_method_8_code 25 = .ok (.invokevirtual 156, 3) := by decide +kernel
theorem dd_58_28 : decode prog_1_method_8_code 28 = .ok (.iload_n 2, 1) := by decide +kernel
theorem dd_58_29 : decode prog_1_method_8_code 29 = .ok (.tableswitch 84 ((0 : Nat) : Int) 4 #[35, 44, 53, 61, 76], 35) := by decide +kernel
theorem dd_58_64 : decode prog_1_method_8_code 64 = .ok (.aload_n 0, 1) := by decide +kernel
theorem dd_58_65 : decode prog_1_method_8_code 65 = .ok (.getfield 27, 3) := by decide +kernel
theorem dd_58_68 : decode prog_1_method_8_code 68 = .ok (.iload_n 1, 1) := by decide +kernel
theorem dd_58_69 : decode prog_1_method_8_code 69 = .ok (.invokevirtual 160, 3) := by decide +kernel
theorem dd_58_72 : decode prog_1_method_8_code 72 = .ok (.ireturn, 1) := by decide +kernel
theorem dd_58_73 : decode prog_1_method_8_code 73 = .ok (.aload_n 0, 1) := by decide +kernel
theorem dd_58_74 : decode prog_1_method_8_code 74 = .ok (.getfield 27, 3) := by decide +kernel
theorem dd_58_77 : decode prog_1_method_8_code 77 = .ok (.iload_n 1, 1) := by decide +kernel
theorem dd_58_78 : decode prog_1_method_8_code 78 = .ok (.invokevirtual 163, 3) := by decide +kernel
theorem dd_58_81 : decode prog_1_method_8_code 81 = .ok (.ireturn, 1) := by decide +kernel
theorem dd_58_82 : decode prog_1_method_8_code 82 = .ok (.aload_n 0, 1) := by decide +kernel
theorem dd_58_83 : decode prog_1_method_8_code 83 = .ok (.getfield 54, 3) := by decide +kernel
theorem dd_58_86 : decode prog_1_method_8_code 86 = .ok (.getfield 166, 3) := by decide +kernel
theorem dd_58_89 : decode prog_1_method_8_code 89 = .ok (.ireturn, 1) := by decide +kernel
theorem dd_58_90 : decode prog_1_method_8_code 90 = .ok (.aload_n 0, 1) := by decide +kernel
theorem dd_58_91 : decode prog_1_method_8_code 91 = .ok (.getfield 37, 3) := by decide +kernel
theorem dd_58_94 : decode prog_1_method_8_code 94 = .ok (.aload_n 0, 1) := by decide +kernel
theorem dd_58_95 : decode prog_1_method_8_code 95 = .ok (.getfield 54, 3) := by decide +kernel
theorem dd_58_98 : decode prog_1_method_8_code 98 = .ok (.getfield 169, 3) := by decide +kernel
theorem dd_58_101 : decode prog_1_method_8_code 101 = .ok (.invokevirtual 149, 3) := by decide +kernel
theorem dd_58_104 : decode prog_1_method_8_code 104 = .ok (.ireturn, 1) := by decide +kernel
theorem dd_58_105 : decode prog_1_method_8_code 105 = .ok (.aload_n 0, 1) := by decide +kernel
theorem dd_58_106 : decode prog_1_method_8_code 106 = .ok (.getfield 54, 3) := by decide +kernel
theorem dd_58_109 : decode prog_1_method_8_code 109 = .ok (.getfield 172, 3) := by decide +kernel
theorem dd_58_112 : decode prog_1_method_8_code 112 = .ok (.ireturn, 1) := by decide +kernel
theorem dd_58_113 : decode prog_1_method_8_code 113 = .ok (.aload_n 0, 1) := by decide +kernel
theorem dd_58_114 : decode prog_1_method_8_code 114 = .ok (.getfield 61, 3) := by decide +kernel
theorem dd_58_117 : decode prog_1_method_8_code 117 = .ok (.aload_n 0, 1) := by decide +kernel
theorem dd_58_118 : decode prog_1_method_8_code 118 = .ok (.getfield 27, 3) := by decide +kernel
theorem dd_58_121 : decode prog_1_method_8_code 121 = .ok (.iload_n 1, 1) := by decide +kernel
theorem dd_58_122 : decode prog_1_method_8_code 122 = .ok (.invokevirtual 163, 3) := by decide +kernel
theorem dd_58_125 : decode prog_1_method_8_code 125 = .ok (.iconst 0, 1) := by decide +kernel
theorem dd_58_126 : decode prog_1_method_8_code 126 = .ok (.invokevirtual 175, 3) := by decide +kernel
theorem dd_58_129 : decode prog_1_method_8_code 129 = .ok (.aload_n 0, 1) := by decide +kernel
theorem dd_58_130 : decode prog_1_method_8_code 130 = .ok (.getfield 54, 3) := by decide +kernel
theorem dd_58_133 : decode prog_1_method_8_code 133 = .ok (.getfield 166, 3) := by decide +kernel
theorem dd_58_136 : decode prog_1_method_8_code 136 = .ok (.isub, 1) := by decide +kernel
theorem dd_58_137 : decode prog_1_method_8_code 137 = .ok (.ireturn, 1) := by decide +kernel
theorem kb_58_0 : am_row mi_58 0 kr_58_0 := am_rs rfl (ok_aload_n (k := 0) dd_58_0 rfl rfl) (am_rs rfl (ok_iload_n (k := 1) dd_58_1 rfl rfl) (am_rs rfl (ok_cv (M' := mi_59) dd_58_2 rfl rfl w_616 w_618 ps_59 ⟨lk_59.1, lk_59.2.1, lk_59.2.2, by decide, by decide⟩ rfl) (am_rn rfl (am_rn rfl (am_rs rfl (ok_ifc dd_58_5 (by decide) rfl) (am_rn rfl (am_rn rfl (am_rz))))))))
theorem kb_58_1 : am_row mi_58 8 kr_58_1 := am_rs rfl (ok_iload_n (k := 2) dd_58_8 rfl rfl) (am_rs rfl (ok_ifc dd_58_9 (by decide) rfl) (am_rn rfl (am_rn rfl (am_rs rfl (ok_iload_n (k := 2) dd_58_12 rfl rfl) (am_rs rfl (ok_iconst dd_58_13 ic_5 rfl) (am_rs rfl (ok_icmp dd_58_14 (by decide) rfl) (am_rn rfl (am_rz))))))))
theorem kb_58_2 : am_row mi_58 16 kr_58_2 := am_rn rfl (am_rs rfl (ok_iconst dd_58_17 ic_m1 rfl) (am_rs rfl (ok_iret dd_58_18 rfl) (am_rs rfl (ok_aload_n (k := 0) dd_58_19 rfl rfl) (am_rs rfl (ok_iload_n (k := 1) dd_58_20 rfl rfl) (am_rs rfl (ok_aload_n (k := 0) dd_58_21 rfl rfl) (am_rs rfl (ok_gf dd_58_22 rfl am_ck11 (by decide) (Or.inl w_517)) (am_rn rfl (am_rz))))))))
theorem kb_58_3 : am_row mi_58 24 kr_58_3 := am_rn rfl (am_rs rfl (ok_cv (M' := mi_60) dd_58_25 rfl rfl w_620 w_622 ps_60 ⟨lk_60.1, lk_60.2.1, lk_60.2.2, by decide, by decide⟩ rfl) (am_rn rfl (am_rn rfl (am_rs rfl (ok_iload_n (k := 2) dd_58_28 rfl rfl) (am_rs rfl (ok_tsw dd_58_29 (by decide) (by decide) (by decide) (by decide)) (am_rn rfl (am_rn rfl (am_rz))))))))
theorem kb_58_4 : am_row mi_58 32 kr_58_4 := am_rn rfl (am_rn rfl (am_rn rfl (am_rn rfl (am_rn rfl (am_rn rfl (am_rn rfl (am_rn rfl (am_rz))))))))
theorem kb_58_5 : am_row mi_58 40 kr_58_5 := am_rn rfl (am_rn rfl (am_rn rfl (am_rn rfl (am_rn rfl (am_rn rfl (am_rn rfl (am_rn rfl (am_rz))))))))
theorem kb_58_6 : am_row mi_58 48 kr_58_6 := am_rn rfl (am_rn rfl (am_rn rfl (am_rn rfl (am_rn rfl (am_rn rfl (am_rn rfl (am_rn rfl (am_rz))))))))
theorem kb_58_7 : am_row mi_58 56 kr_58_7 := am_rn rfl (am_rn rfl (am_rn rfl (am_rn rfl (am_rn rfl (am_rn rfl (am_rn rfl (am_rn rfl (am_rz))))))))
theorem kb_58_8 : am_row mi_58 64 kr_58_8 := am_rs rfl (ok_aload_n (k := 0) dd_58_64 rfl rfl) (am_rs rfl (ok_gf dd_58_65 rfl am_ck11 (by decide) (Or.inl w_514)) (am_rn rfl (am_rn rfl (am_rs rfl (ok_iload_n (k := 1) dd_58_68 rfl rfl) (am_rs rfl (ok_cv (M' := mi_69) dd_58_69 rfl rfl w_658 w_659 w_660 ⟨lk_69.1, lk_69.2.1, lk_69.2.2, by decide, by decide⟩ rfl) (am_rn rfl (am_rn rfl (am_rz))))))))
theorem kb_58_9 : am_row mi_58 72 kr_58_9 := am_rs rfl (ok_iret dd_58_72 rfl) (am_rs rfl (ok_aload_n (k := 0) dd_58_73 rfl rfl) (am_rs rfl (ok_gf dd_58_74 rfl am_ck11 (by decide) (Or.inl w_514)) (am_rn rfl (am_rn rfl (am_rs rfl (ok_iload_n (k := 1) dd_58_77 rfl rfl) (am_rs rfl (ok_cv (M' := mi_70) dd_58_78 rfl rfl w_663 w_664 w_665 ⟨lk_70.1, lk_70.2.1, lk_70.2.2, by decide, by decide⟩ rfl) (am_rn rfl (am_rz))))))))
theorem kb_58_10 : am_row mi_58 80 kr_58_10 := am_rn rfl (am_rs rfl (ok_iret dd_58_81 rfl) (am_rs rfl (ok_aload_n (k := 0) dd_58_82 rfl rfl) (am_rs rfl (ok_gf dd_58_83 rfl am_ck11 (by decide) (Or.inl w_519)) (am_rn rfl (am_rn rfl (am_rs rfl (ok_gf dd_58_86 rfl am_ck10 (by decide) (Or.inr ⟨_, w_174⟩)) (am_rn rfl (am_rz))))))))
theorem kb_58_11 : am_row mi_58 88 kr_58_11 := am_rn rfl (am_rs rfl (ok_iret dd_58_89 rfl) (am_rs rfl (ok_aload_n (k := 0) dd_58_90 rfl rfl) (am_rs rfl (ok_gf dd_58_91 rfl am_ck11 (by decide) (Or.inl w_516)) (am_rn rfl (am_rn rfl (am_rs rfl (ok_aload_n (k := 0) dd_58_94 rfl rfl) (am_rs rfl (ok_gf dd_58_95 rfl am_ck11 (by decide) (Or.inl w_519)) (am_rz))))))))
theorem kb_58_12 : am_row mi_58 96 kr_58_12 := am_rn rfl (am_rn rfl (am_rs rfl (ok_gf dd_58_98 rfl am_ck10 (by decide) (Or.inr ⟨_, w_176⟩)) (am_rn rfl (am_rn rfl (am_rs rfl (ok_cv (M' := mi_57) dd_58_101 rfl rfl w_608 w_609 w_610 ⟨lk_57.1, lk_57.2.1, lk_57.2.2, by decide, by decide⟩ rfl) (am_rn rfl (am_rn rfl (am_rz))))))))
theorem kb_58_13 : am_row mi_58 104 kr_58_13 := am_rs rfl (ok_iret dd_58_104 rfl) (am_rs rfl (ok_aload_n (k := 0) dd_58_105 rfl rfl) (am_rs rfl (ok_gf dd_58_106 rfl am_ck11 (by decide) (Or.inl w_519)) (am_rn rfl (am_rn rfl (am_rs rfl (ok_gf dd_58_109 rfl am_ck10 (by decide) (Or.inr ⟨_, w_178⟩)) (am_rn rfl (am_rn rfl (am_rz))))))))
theorem kb_58_14 : am_row mi_58 112 kr_58_14 := am_rs rfl (ok_iret dd_58_112 rfl) (am_rs rfl (ok_aload_n (k := 0) dd_58_113 rfl rfl) (am_rs rfl (ok_gf dd_58_114 rfl am_ck11 (by decide) (Or.inl w_520)) (am_rn rfl (am_rn rfl (am_rs rfl (ok_aload_n (k := 0) dd_58_117 rfl rfl) (am_rs rfl (ok_gf dd_58_118 rfl am_ck11 (by decide) (Or.inl w_514)) (am_rn rfl (am_rz))))))))
theorem kb_58_15 : am_row mi_58 120 kr_58_15 := am_rn rfl (am_rs rfl (ok_iload_n (k := 1) dd_58_121 rfl rfl) (am_rs rfl (ok_cv (M' := mi_70) dd_58_122 rfl rfl w_663 w_664 w_665 ⟨lk_70.1, lk_70.2.1, lk_70.2.2, by decide, by decide⟩ rfl) (am_rn rfl (am_rn rfl (am_rs rfl (ok_iconst dd_58_125 ic_0 rfl) (am_rs rfl (ok_cv (M' := mi_42) dd_58_126 rfl rfl w_684 w_495 w_496 ⟨lk_42.1, lk_42.2.1, lk_42.2.2, by decide, by decide⟩ rfl) (am_rn rfl (am_rz))))))))
theorem kb_58_16 : am_row mi_58 128 kr_58_16 := am_rn rfl (am_rs rfl (ok_aload_n (k := 0) dd_58_129 rfl rfl) (am_rs rfl (ok_gf dd_58_130 rfl am_ck11 (by decide) (Or.inl w_519)) (am_rn rfl (am_rn rfl (am_rs rfl (ok_gf dd_58_133 rfl am_ck10 (by decide) (Or.inr ⟨_, w_174⟩)) (am_rn rfl (am_rn rfl (am_rz))))))))
theorem kb_58_17 : am_row mi_58 136 kr_58_17 := am_rs rfl (ok_isub dd_58_136 rfl) (am_rs rfl (ok_iret dd_58_137 rfl) (am_rz))
theorem ck_58 : am_rows mi_58 0 cd_58 := am_bs rfl kb_58_0 (am_bs rfl kb_58_1 (am_bs rfl kb_58_2 (am_bs rfl kb_58_3 (am_bs rfl kb_58_4 (am_bs rfl kb_58_5 (am_bs rfl kb_58_6 (am_bs rfl kb_58_7 (am_bs rfl kb_58_8 (am_bs rfl kb_58_9 (am_bs rfl kb_58_10 (am_bs rfl kb_58_11 (am_bs rfl kb_58_12 (am_bs rfl kb_58_13 (am_bs rfl kb_58_14 (am_bs rfl kb_58_15 (am_bs rfl kb_58_16 (am_bs rfl kb_58_17 (am_bz))))))))))))))))))
/-- OverAndBack.isWatcher(I)Z -/
noncomputable def kr_59_0 : List (Option am_Op) := [some (am_ild 1 1), some (am_br1 .lt 22 4), none, none, some (am_ild 1 5), some (am_ald0 0 6), some (am_gf 11 3 9), none]
noncomputable def kr_59_1 : List (Option am_Op) := [none, some (am_gf 1 5 12), none, none, some (am_gf 8 3 15), none, none, some (am_br2 .ge 22 18)]
noncomputable def kr_59_2 : List (Option am_Op) := [none, none, some (am_psh (.retAddr 1) 19), some (am_jmp 23), none, none, some (am_psh (.retAddr 0) 23), some (am_zret)]
noncomputable def cd_59 : am_Cd := [kr_59_0, kr_59_1, kr_59_2]
theorem dd_59_0 : decode prog_1_method_31_code 0 = .ok (.iload_n 1, 1) := by decide +kernel
theorem dd_59_1 : decode prog_1_method_31_code 1 = .ok (.ifCond .lt 21, 3) := by decide +kernel
theorem dd_59_4 : decode prog_1_method_31_code 4 = .ok (.iload_n 1, 1) := by decide +kernel
theorem dd_59_5 : decode prog_1_method_31_code 5 = .ok (.aload_n 0, 1) := by decide +kernel
theorem dd_59_6 : decode prog_1_method_31_code 6 = .ok (.getfield 27, 3) := by decide +kernel
theorem dd_59_9 : decode prog_1_method_31_code 9 = .ok (.getfield 236, 3) := by decide +kernel
theorem dd_59_12 : decode prog_1_method_31_code 12 = .ok (.getfield 123, 3) := by decide +kernel
theorem dd_59_15 : decode prog_1_method_31_code 15 = .ok (.if_icmp .ge 7, 3) := by decide +kernel
theorem dd_59_18 : decode prog_1_method_31_code 18 = .ok (.iconst 1, 1) := by decide +kernel
theorem dd_59_19 : decode prog_1_method_31_code 19 = .ok (.goto 4, 3) := by decide +kernel
theorem dd_59_22 : decode prog_1_method_31_code 22 = .ok (.iconst 0, 1) := by decide +kernel
theorem dd_59_23 : decode prog_1_method_31_code 23 = .ok (.ireturn, 1) := by decide +kernel
theorem kb_59_0 : am_row mi_59 0 kr_59_0 := am_rs rfl (ok_iload_n (k := 1) dd_59_0 rfl rfl) (am_rs rfl (ok_ifc dd_59_1 (by decide) rfl) (am_rn rfl (am_rn rfl (am_rs rfl (ok_iload_n (k := 1) dd_59_4 rfl rfl) (am_rs rfl (ok_aload_n (k := 0) dd_59_5 rfl rfl) (am_rs rfl (ok_gf dd_59_6 rfl am_ck11 (by decide) (Or.inl w_514)) (am_rn rfl (am_rz))))))))
theorem kb_59_1 : am_row mi_59 8 kr_59_1 := am_rn rfl (am_rs rfl (ok_gf dd_59_9 rfl am_ck1 (by decide) (Or.inr ⟨_, w_104⟩)) (am_rn rfl (am_rn rfl (am_rs rfl (ok_gf dd_59_12 rfl am_ck8 (by decide) (Or.inr ⟨_, w_67⟩)) (am_rn rfl (am_rn rfl (am_rs rfl (ok_icmp dd_59_15 (by decide) rfl) (am_rz))))))))
theorem kb_59_2 : am_row mi_59 16 kr_59_2 := am_rn rfl (am_rn rfl (am_rs rfl (ok_iconst dd_59_18 ic_1 rfl) (am_rs rfl (ok_goto dd_59_19 (by decide)) (am_rn rfl (am_rn rfl (am_rs rfl (ok_iconst dd_59_22 ic_0 rfl) (am_rs rfl (ok_zret dd_59_23 rfl) (am_rz))))))))
theorem ck_59 : am_rows mi_59 0 cd_59 := am_bs rfl kb_59_0 (am_bs rfl kb_59_1 (am_bs rfl kb_59_2 (am_bz)))
/-- OverAndBack.follow(ILOverAndBack$Screen;)V -/
noncomputable def kr_60_0 : List (Option am_Op) := [some (am_ild 1 1), some (am_psh (.retAddr 4294967295) 2), some (am_br2 .ne 24 5), none, none, some (am_ald0 0 6), some (am_gf 11 8 9), none]
noncomputable def kr_60_1 : List (Option am_Op) := [none, some (am_ald0 0 10), some (am_gf 11 3 13), none, none, some (am_ald0 2 14), some (am_ald0 0 15), some (am_gf 11 12 18)]
noncomputable def kr_60_2 : List (Option am_Op) := [none, none, some (am_cv 61 3 10 21), none, none, some (am_jmp 52), none, none]
noncomputable def kr_60_3 : List (Option am_Op) := [some (am_ald0 0 25), some (am_gf 11 8 28), none, none, some (am_ald0 0 29), some (am_gf 11 3 32), none, none]
noncomputable def kr_60_4 : List (Option am_Op) := [some (am_ald0 2 33), some (am_ald0 0 34), some (am_gf 11 3 37), none, none, some (am_ild 1 38), some (am_cv 69 1 1 41), none]
noncomputable def kr_60_5 : List (Option am_Op) := [none, some (am_ald0 0 42), some (am_gf 11 3 45), none, none, some (am_ild 1 46), some (am_cv 70 1 1 49), none]
noncomputable def kr_60_6 : List (Option am_Op) := [none, some (am_cv 71 4 10 52), none, none, some (am_vret)]
noncomputable def cd_60 : am_Cd := [kr_60_0, kr_60_1, kr_60_2, kr_60_3, kr_60_4, kr_60_5, kr_60_6]
theorem dd_60_0 : decode prog_1_method_37_code 0 = .ok (.iload_n 1, 1) := by decide +kernel
theorem dd_60_1 : decode prog_1_method_37_code 1 = .ok (.iconst (-1), 1) := by decide +kernel
theorem dd_60_2 : decode prog_1_method_37_code 2 = .ok (.if_icmp .ne 22, 3) := by decide +kernel
theorem dd_60_5 : decode prog_1_method_37_code 5 = .ok (.aload_n 0, 1) := by decide +kernel
theorem dd_60_6 : decode prog_1_method_37_code 6 = .ok (.getfield 54, 3) := by decide +kernel
theorem dd_60_9 : decode prog_1_method_37_code 9 = .ok (.aload_n 0, 1) := by decide +kernel
theorem dd_60_10 : decode prog_1_method_37_code 10 = .ok (.getfield 27, 3) := by decide +kernel
theorem dd_60_13 : decode prog_1_method_37_code 13 = .ok (.aload_n 2, 1) := by decide +kernel
theorem dd_60_14 : decode prog_1_method_37_code 14 = .ok (.aload_n 0, 1) := by decide +kernel
theorem dd_60_15 : decode prog_1_method_37_code 15 = .ok (.getfield 84, 3) := by decide +kernel
theorem dd_60_18 : decode prog_1_method_37_code 18 = .ok (.invokevirtual 314, 3) := by decide +kernel
theorem dd_60_21 : decode prog_1_method_37_code 21 = .ok (.goto 31, 3) := by decide +kernel
theorem dd_60_24 : decode prog_1_method_37_code 24 = .ok (.aload_n 0, 1) := by decide +kernel
theorem dd_60_25 : decode prog_1_method_37_code 25 = .ok (.getfield 54, 3) := by decide +kernel
theorem dd_60_28 : decode prog_1_method_37_code 28 = .ok (.aload_n 0, 1) := by decide +kernel
theorem dd_60_29 : decode prog_1_method_37_code 29 = .ok (.getfield 27, 3) := by decide +kernel
theorem dd_60_32 : decode prog_1_method_37_code 32 = .ok (.aload_n 2, 1) := by decide +kernel
theorem dd_60_33 : decode prog_1_method_37_code 33 = .ok (.aload_n 0, 1) := by decide +kernel
theorem dd_60_34 : decode prog_1_method_37_code 34 = .ok (.getfield 27, 3) := by decide +kernel
theorem dd_60_37 : decode prog_1_method_37_code 37 = .ok (.iload_n 1, 1) := by decide +kernel
theorem dd_60_38 : decode prog_1_method_37_code 38 = .ok (.invokevirtual 160, 3) := by decide +kernel
theorem dd_60_41 : decode prog_1_method_37_code 41 = .ok (.aload_n 0, 1) := by decide +kernel
theorem dd_60_42 : decode prog_1_method_37_code 42 = .ok (.getfield 27, 3) := by decide +kernel
theorem dd_60_45 : decode prog_1_method_37_code 45 = .ok (.iload_n 1, 1) := by decide +kernel
theorem dd_60_46 : decode prog_1_method_37_code 46 = .ok (.invokevirtual 163, 3) := by decide +kernel
theorem dd_60_49 : decode prog_1_method_37_code 49 = .ok (.invokevirtual 267, 3) := by decide +kernel
theorem dd_60_52 : decode prog_1_method_37_code 52 = .ok (.return_, 1) := by decide +kernel
theorem kb_60_0 : am_row mi_60 0 kr_60_0 := am_rs rfl (ok_iload_n (k := 1) dd_60_0 rfl rfl) (am_rs rfl (ok_iconst dd_60_1 ic_m1 rfl) (am_rs rfl (ok_icmp dd_60_2 (by decide) rfl) (am_rn rfl (am_rn rfl (am_rs rfl (ok_aload_n (k := 0) dd_60_5 rfl rfl) (am_rs rfl (ok_gf dd_60_6 rfl am_ck11 (by decide) (Or.inl w_519)) (am_rn rfl (am_rz))))))))
theorem kb_60_1 : am_row mi_60 8 kr_60_1 := am_rn rfl (am_rs rfl (ok_aload_n (k := 0) dd_60_9 rfl rfl) (am_rs rfl (ok_gf dd_60_10 rfl am_ck11 (by decide) (Or.inl w_514)) (am_rn rfl (am_rn rfl (am_rs rfl (ok_aload_n (k := 2) dd_60_13 rfl rfl) (am_rs rfl (ok_aload_n (k := 0) dd_60_14 rfl rfl) (am_rs rfl (ok_gf dd_60_15 rfl am_ck11 (by decide) (Or.inl w_523)) (am_rz))))))))
theorem kb_60_2 : am_row mi_60 16 kr_60_2 := am_rn rfl (am_rn rfl (am_rs rfl (ok_cv (M' := mi_61) dd_60_18 rfl rfl w_624 w_625 w_626 ⟨lk_61.1, lk_61.2.1, lk_61.2.2, by decide, by decide⟩ rfl) (am_rn rfl (am_rn rfl (am_rs rfl (ok_goto dd_60_21 (by decide)) (am_rn rfl (am_rn rfl (am_rz))))))))
theorem kb_60_3 : am_row mi_60 24 kr_60_3 := am_rs rfl (ok_aload_n (k := 0) dd_60_24 rfl rfl) (am_rs rfl (ok_gf dd_60_25 rfl am_ck11 (by decide) (Or.inl w_519)) (am_rn rfl (am_rn rfl (am_rs rfl (ok_aload_n (k := 0) dd_60_28 rfl rfl) (am_rs rfl (ok_gf dd_60_29 rfl am_ck11 (by decide) (Or.inl w_514)) (am_rn rfl (am_rn rfl (am_rz))))))))
theorem kb_60_4 : am_row mi_60 32 kr_60_4 := am_rs rfl (ok_aload_n (k := 2) dd_60_32 rfl rfl) (am_rs rfl (ok_aload_n (k := 0) dd_60_33 rfl rfl) (am_rs rfl (ok_gf dd_60_34 rfl am_ck11 (by decide) (Or.inl w_514)) (am_rn rfl (am_rn rfl (am_rs rfl (ok_iload_n (k := 1) dd_60_37 rfl rfl) (am_rs rfl (ok_cv (M' := mi_69) dd_60_38 rfl rfl w_658 w_659 w_660 ⟨lk_69.1, lk_69.2.1, lk_69.2.2, by decide, by decide⟩ rfl) (am_rn rfl (am_rz))))))))
theorem kb_60_5 : am_row mi_60 40 kr_60_5 := am_rn rfl (am_rs rfl (ok_aload_n (k := 0) dd_60_41 rfl rfl) (am_rs rfl (ok_gf dd_60_42 rfl am_ck11 (by decide) (Or.inl w_514)) (am_rn rfl (am_rn rfl (am_rs rfl (ok_iload_n (k := 1) dd_60_45 rfl rfl) (am_rs rfl (ok_cv (M' := mi_70) dd_60_46 rfl rfl w_663 w_664 w_665 ⟨lk_70.1, lk_70.2.1, lk_70.2.2, by decide, by decide⟩ rfl) (am_rn rfl (am_rz))))))))
theorem kb_60_6 : am_row mi_60 48 kr_60_6 := am_rn rfl (am_rs rfl (ok_cv (M' := mi_71) dd_60_49 rfl rfl w_667 w_668 w_669 ⟨lk_71.1, lk_71.2.1, lk_71.2.2, by decide, by decide⟩ rfl) (am_rn rfl (am_rn rfl (am_rs rfl (ok_vret dd_60_52 rfl) (am_rz)))))
theorem ck_60 : am_rows mi_60 0 cd_60 := am_bs rfl kb_60_0 (am_bs rfl kb_60_1 (am_bs rfl kb_60_2 (am_bs rfl kb_60_3 (am_bs rfl kb_60_4 (am_bs rfl kb_60_5 (am_bs rfl kb_60_6 (am_bz)))))))
/-- OverAndBack$Walk.followPlan(LOverAndBack$Evening;LOverAndBack$Screen;LOverAndBack$Plan;)V -/
noncomputable def kr_61_0 : List (Option am_Op) := [some (am_ald0 0 1), some (am_ald0 3 2), some (am_ald0 1 3), some (am_gf 1 7 6), none, none, some (am_cv 62 2 10 9), none]
noncomputable def kr_61_1 : List (Option am_Op) := [none, some (am_pp 10), some (am_ald0 0 11), some (am_ald0 3 12), some (am_gf 5 3 15), none, none, some (am_cv 63 1 10 18)]
noncomputable def kr_61_2 : List (Option am_Op) := [none, none, some (am_psh (.retAddr 0) 19), some (am_ist 4 21), none, some (am_ild 4 23), none, some (am_ald0 1 24)]
noncomputable def kr_61_3 : List (Option am_Op) := [some (am_gf 1 6 27), none, none, some (am_br2 .ge 79 30), none, none, some (am_ild 4 32), none]
noncomputable def kr_61_4 : List (Option am_Op) := [some (am_psh (.retAddr 60) 34), none, some (am_br2 .ge 79 37), none, none, some (am_ald0 0 38), some (am_gf 10 1 41), none]
noncomputable def kr_61_5 : List (Option am_Op) := [none, some (am_ild 4 43), none, some (am_ald 0 44), some (am_psh (.retAddr 4294967292) 46), none, some (am_br2 .eq 66 49), none]
noncomputable def kr_61_6 : List (Option am_Op) := [none, some (am_ald0 0 50), some (am_ild 4 52), none, some (am_ald0 0 53), some (am_gf 10 1 56), none, none]
noncomputable def kr_61_7 : List (Option am_Op) := [some (am_ild 4 58), none, some (am_ald 0 59), some (am_ald0 1 60), some (am_gf 1 7 63), none, none, some (am_cv 66 3 10 66)]
noncomputable def kr_61_8 : List (Option am_Op) := [none, none, some (am_ald0 0 67), some (am_ald0 2 68), some (am_ild 4 70), none, some (am_cv 67 2 10 73), none]
noncomputable def kr_61_9 : List (Option am_Op) := [none, some (am_inc 4 1 76), none, none, some (am_jmp 21), none, none, some (am_vret)]
noncomputable def cd_61 : am_Cd := [kr_61_0, kr_61_1, kr_61_2, kr_61_3, kr_61_4, kr_61_5, kr_61_6, kr_61_7, kr_61_8, kr_61_9]
theorem dd_61_0 : decode prog_12_method_3_code 0 = .ok (.aload_n 0, 1) := by decide +kernel
theorem dd_61_1 : decode prog_12_method_3_code 1 = .ok (.aload_n 3, 1) := by decide +kernel
theorem dd_61_2 : decode prog_12_method_3_code 2 = .ok (.aload_n 1, 1) := by decide +kernel
theorem dd_61_3 : decode prog_12_method_3_code 3 = .ok (.getfield 56, 3) := by decide +kernel
theorem dd_61_6 : decode prog_12_method_3_code 6 = .ok (.invokevirtual 67, 3) := by decide +kernel
theorem dd_61_9 : decode prog_12_method_3_code 9 = .ok (.pop, 1) := by decide +kernel
theorem dd_61_10 : decode prog_12_method_3_code 10 = .ok (.aload_n 0, 1) := by decide +kernel
theorem dd_61_11 : decode prog_12_method_3_code 11 = .ok (.aload_n 3, 1) := by decide +kernel
theorem dd_61_12 : decode prog_12_method_3_code 12 = .ok (.getfield 71, 3) := by decide +kernel
theorem dd_61_15 : decode prog_12_method_3_code 15 = .ok (.invokevirtual 34, 3) := by decide +kernel
theorem dd_61_18 : decode prog_12_method_3_code 18 = .ok (.iconst 0, 1) := by decide +kernel
theorem dd_61_19 : decode prog_12_method_3_code 19 = .ok (.istore 4, 2) := by decide +kernel
theorem dd_61_21 : decode prog_12_method_3_code 21 = .ok (.iload 4, 2) := by decide +kernel
theorem dd_61_23 : decode prog_12_method_3_code 23 = .ok (.aload_n 1, 1) := by decide +kernel
theorem dd_61_24 : decode prog_12_method_3_code 24 = .ok (.getfield 49, 3) := by decide +kernel
theorem dd_61_27 : decode prog_12_method_3_code 27 = .ok (.if_icmp .ge 52, 3) := by decide +kernel
theorem dd_61_30 : decode prog_12_method_3_code 30 = .ok (.iload 4, 2) := by decide +kernel
theorem dd_61_32 : decode prog_12_method_3_code 32 = .ok (.bipush 60, 2) := by decide +kernel
theorem dd_61_34 : decode prog_12_method_3_code 34 = .ok (.if_icmp .ge 45, 3) := by decide +kernel
theorem dd_61_37 : decode prog_12_method_3_code 37 = .ok (.aload_n 0, 1) := by decide +kernel
theorem dd_61_38 : decode prog_12_method_3_code 38 = .ok (.getfield 15, 3) := by decide +kernel
theorem dd_61_41 : decode prog_12_method_3_code 41 = .ok (.iload 4, 2) := by decide +kernel
theorem dd_61_43 : decode prog_12_method_3_code 43 = .ok (.iaload, 1) := by decide +kernel
theorem dd_61_44 : decode prog_12_method_3_code 44 = .ok (.bipush (-4), 2) := by decide +kernel
theorem dd_61_46 : decode prog_12_method_3_code 46 = .ok (.if_icmp .eq 20, 3) := by decide +kernel
theorem dd_61_49 : decode prog_12_method_3_code 49 = .ok (.aload_n 0, 1) := by decide +kernel
theorem dd_61_50 : decode prog_12_method_3_code 50 = .ok (.iload 4, 2) := by decide +kernel
theorem dd_61_52 : decode prog_12_method_3_code 52 = .ok (.aload_n 0, 1) := by decide +kernel
theorem dd_61_53 : decode prog_12_method_3_code 53 = .ok (.getfield 15, 3) := by decide +kernel
theorem dd_61_56 : decode prog_12_method_3_code 56 = .ok (.iload 4, 2) := by decide +kernel
theorem dd_61_58 : decode prog_12_method_3_code 58 = .ok (.iaload, 1) := by decide +kernel
theorem dd_61_59 : decode prog_12_method_3_code 59 = .ok (.aload_n 1, 1) := by decide +kernel
theorem dd_61_60 : decode prog_12_method_3_code 60 = .ok (.getfield 56, 3) := by decide +kernel
theorem dd_61_63 : decode prog_12_method_3_code 63 = .ok (.invokevirtual 59, 3) := by decide +kernel
theorem dd_61_66 : decode prog_12_method_3_code 66 = .ok (.aload_n 0, 1) := by decide +kernel
theorem dd_61_67 : decode prog_12_method_3_code 67 = .ok (.aload_n 2, 1) := by decide +kernel
theorem dd_61_68 : decode prog_12_method_3_code 68 = .ok (.iload 4, 2) := by decide +kernel
theorem dd_61_70 : decode prog_12_method_3_code 70 = .ok (.invokevirtual 63, 3) := by decide +kernel
theorem dd_61_73 : decode prog_12_method_3_code 73 = .ok (.iinc 4 1, 3) := by decide +kernel
theorem dd_61_76 : decode prog_12_method_3_code 76 = .ok (.goto (-55), 3) := by decide +kernel
theorem dd_61_79 : decode prog_12_method_3_code 79 = .ok (.return_, 1) := by decide +kernel
theorem kb_61_0 : am_row mi_61 0 kr_61_0 := am_rs rfl (ok_aload_n (k := 0) dd_61_0 rfl rfl) (am_rs rfl (ok_aload_n (k := 3) dd_61_1 rfl rfl) (am_rs rfl (ok_aload_n (k := 1) dd_61_2 rfl rfl) (am_rs rfl (ok_gf dd_61_3 rfl am_ck1 (by decide) (Or.inr ⟨_, w_115⟩)) (am_rn rfl (am_rn rfl (am_rs rfl (ok_cv (M' := mi_62) dd_61_6 rfl rfl w_628 w_629 w_630 ⟨lk_62.1, lk_62.2.1, lk_62.2.2, by decide, by decide⟩ rfl) (am_rn rfl (am_rz))))))))
theorem kb_61_1 : am_row mi_61 8 kr_61_1 := am_rn rfl (am_rs rfl (ok_pop dd_61_9 rfl) (am_rs rfl (ok_aload_n (k := 0) dd_61_10 rfl rfl) (am_rs rfl (ok_aload_n (k := 3) dd_61_11 rfl rfl) (am_rs rfl (ok_gf dd_61_12 rfl am_ck5 (by decide) (Or.inr ⟨_, w_309⟩)) (am_rn rfl (am_rn rfl (am_rs rfl (ok_cv (M' := mi_63) dd_61_15 rfl rfl w_633 w_635 ps_63 ⟨lk_63.1, lk_63.2.1, lk_63.2.2, by decide, by decide⟩ rfl) (am_rz))))))))
theorem kb_61_2 : am_row mi_61 16 kr_61_2 := am_rn rfl (am_rn rfl (am_rs rfl (ok_iconst dd_61_18 ic_0 rfl) (am_rs rfl (ok_istore dd_61_19 rfl (by decide)) (am_rn rfl (am_rs rfl (ok_iload dd_61_21 rfl) (am_rn rfl (am_rs rfl (ok_aload_n (k := 1) dd_61_23 rfl rfl) (am_rz))))))))
theorem kb_61_3 : am_row mi_61 24 kr_61_3 := am_rs rfl (ok_gf dd_61_24 rfl am_ck1 (by decide) (Or.inr ⟨_, w_107⟩)) (am_rn rfl (am_rn rfl (am_rs rfl (ok_icmp dd_61_27 (by decide) rfl) (am_rn rfl (am_rn rfl (am_rs rfl (ok_iload dd_61_30 rfl) (am_rn rfl (am_rz))))))))
theorem kb_61_4 : am_row mi_61 32 kr_61_4 := am_rs rfl (ok_bipush dd_61_32 bi_60 rfl) (am_rn rfl (am_rs rfl (ok_icmp dd_61_34 (by decide) rfl) (am_rn rfl (am_rn rfl (am_rs rfl (ok_aload_n (k := 0) dd_61_37 rfl rfl) (am_rs rfl (ok_gf dd_61_38 rfl am_ck10 (by decide) (Or.inl w_170)) (am_rn rfl (am_rz))))))))
theorem kb_61_5 : am_row mi_61 40 kr_61_5 := am_rn rfl (am_rs rfl (ok_iload dd_61_41 rfl) (am_rn rfl (am_rs rfl (ok_iald dd_61_43 rfl) (am_rs rfl (ok_bipush dd_61_44 bi_m4 rfl) (am_rn rfl (am_rs rfl (ok_icmp dd_61_46 (by decide) rfl) (am_rn rfl (am_rz))))))))
theorem kb_61_6 : am_row mi_61 48 kr_61_6 := am_rn rfl (am_rs rfl (ok_aload_n (k := 0) dd_61_49 rfl rfl) (am_rs rfl (ok_iload dd_61_50 rfl) (am_rn rfl (am_rs rfl (ok_aload_n (k := 0) dd_61_52 rfl rfl) (am_rs rfl (ok_gf dd_61_53 rfl am_ck10 (by decide) (Or.inl w_170)) (am_rn rfl (am_rn rfl (am_rz))))))))
theorem kb_61_7 : am_row mi_61 56 kr_61_7 := am_rs rfl (ok_iload dd_61_56 rfl) (am_rn rfl (am_rs rfl (ok_iald dd_61_58 rfl) (am_rs rfl (ok_aload_n (k := 1) dd_61_59 rfl rfl) (am_rs rfl (ok_gf dd_61_60 rfl am_ck1 (by decide) (Or.inr ⟨_, w_115⟩)) (am_rn rfl (am_rn rfl (am_rs rfl (ok_cv (M' := mi_66) dd_61_63 rfl rfl w_645 w_647 ps_66 ⟨lk_66.1, lk_66.2.1, lk_66.2.2, by decide, by decide⟩ rfl) (am_rz))))))))
theorem kb_61_8 : am_row mi_61 64 kr_61_8 := am_rn rfl (am_rn rfl (am_rs rfl (ok_aload_n (k := 0) dd_61_66 rfl rfl) (am_rs rfl (ok_aload_n (k := 2) dd_61_67 rfl rfl) (am_rs rfl (ok_iload dd_61_68 rfl) (am_rn rfl (am_rs rfl (ok_cv (M' := mi_67) dd_61_70 rfl rfl w_649 w_651 ps_67 ⟨lk_67.1, lk_67.2.1, lk_67.2.2, by decide, by decide⟩ rfl) (am_rn rfl (am_rz))))))))
theorem kb_61_9 : am_row mi_61 72 kr_61_9 := am_rn rfl (am_rs rfl (ok_iinc dd_61_73 ic_1 rfl (by decide)) (am_rn rfl (am_rn rfl (am_rs rfl (ok_goto dd_61_76 (by decide)) (am_rn rfl (am_rn rfl (am_rs rfl (ok_vret dd_61_79 rfl) (am_rz))))))))
theorem ck_61 : am_rows mi_61 0 cd_61 := am_bs rfl kb_61_0 (am_bs rfl kb_61_1 (am_bs rfl kb_61_2 (am_bs rfl kb_61_3 (am_bs rfl kb_61_4 (am_bs rfl kb_61_5 (am_bs rfl kb_61_6 (am_bs rfl kb_61_7 (am_bs rfl kb_61_8 (am_bs rfl kb_61_9 (am_bz))))))))))
/-- OverAndBack$Walk.sortOut(LOverAndBack$Plan;I)I -/
noncomputable def kr_62_0 : List (Option am_Op) := [some (am_ald0 0 1), some (am_gf 10 1 4), none, none, some (am_psh (.retAddr 4294967292) 6), none, some (am_cs 9 2 9), none]
noncomputable def kr_62_1 : List (Option am_Op) := [none, some (am_psh (.retAddr 4294967292) 11), none, some (am_ist 3 12), some (am_psh (.retAddr 4294967295) 13), some (am_ist 4 15), none, some (am_ald0 0 16)]
noncomputable def kr_62_2 : List (Option am_Op) := [some (am_ald0 1 17), some (am_gf 5 3 20), none, none, some (am_cv 63 1 10 23), none, none, some (am_psh (.retAddr 0) 24)]
noncomputable def kr_62_3 : List (Option am_Op) := [some (am_ist 5 26), none, some (am_ild 5 28), none, some (am_ald0 1 29), some (am_gf 5 2 32), none, none]
noncomputable def kr_62_4 : List (Option am_Op) := [some (am_br2 .ge 123 35), none, none, some (am_ald0 1 36), some (am_ild 5 38), none, some (am_cv 64 1 5 41), none]
noncomputable def kr_62_5 : List (Option am_Op) := [none, some (am_ist 6 43), none, some (am_ald0 1 44), some (am_ild 5 46), none, some (am_cv 65 1 5 49), none]
noncomputable def kr_62_6 : List (Option am_Op) := [none, some (am_ist 7 51), none, some (am_ild 6 53), none, some (am_ild 4 55), none, some (am_br2 .le 108 58)]
noncomputable def kr_62_7 : List (Option am_Op) := [none, none, some (am_ild 6 60), none, some (am_psh (.retAddr 60) 62), none, some (am_br2 .ge 108 65), none]
noncomputable def kr_62_8 : List (Option am_Op) := [none, some (am_ild 6 67), none, some (am_ald0 0 68), some (am_gf 10 3 71), none, none, some (am_br2 .lt 108 74)]
noncomputable def kr_62_9 : List (Option am_Op) := [none, none, some (am_ild 7 76), none, some (am_ald0 0 77), some (am_gf 10 2 80), none, none]
noncomputable def kr_62_10 : List (Option am_Op) := [some (am_br2 .eq 108 83), none, none, some (am_ald0 0 84), some (am_gf 10 1 87), none, none, some (am_ild 6 89)]
noncomputable def kr_62_11 : List (Option am_Op) := [none, some (am_ild 7 91), none, some (am_ast 0 (fun v => v) 92), some (am_ild 6 94), none, some (am_ist 4 96), none]
noncomputable def kr_62_12 : List (Option am_Op) := [some (am_ald0 0 97), some (am_ild 6 99), none, some (am_ild 7 101), none, some (am_ild 2 102), some (am_cv 66 3 10 105), none]
noncomputable def kr_62_13 : List (Option am_Op) := [none, some (am_jmp 117), none, none, some (am_ild 3 109), some (am_psh (.retAddr 4294967292) 111), none, some (am_br2 .ne 117 114)]
noncomputable def kr_62_14 : List (Option am_Op) := [none, none, some (am_ild 5 116), none, some (am_ist 3 117), some (am_inc 5 1 120), none, none]
noncomputable def kr_62_15 : List (Option am_Op) := [some (am_jmp 26), none, none, some (am_ild 3 124), some (am_iret)]
noncomputable def cd_62 : am_Cd := [kr_62_0, kr_62_1, kr_62_2, kr_62_3, kr_62_4, kr_62_5, kr_62_6, kr_62_7, kr_62_8, kr_62_9, kr_62_10, kr_62_11, kr_62_12, kr_62_13, kr_62_14, kr_62_15]
theorem dd_62_0 : decode prog_12_method_4_code 0 = .ok (.aload_n 0, 1) := by decide +kernel
theorem dd_62_1 : decode prog_12_method_4_code 1 = .ok (.getfield 15, 3) := by decide +kernel
theorem dd_62_4 : decode prog_12_method_4_code 4 = .ok (.bipush (-4), 2) := by decide +kernel
theorem dd_62_6 : decode prog_12_method_4_code 6 = .ok (.invokestatic 75, 3) := by decide +kernel
theorem dd_62_9 : decode prog_12_method_4_code 9 = .ok (.bipush (-4), 2) := by decide +kernel
theorem dd_62_11 : decode prog_12_method_4_code 11 = .ok (.istore_n 3, 1) := by decide +kernel
theorem dd_62_12 : decode prog_12_method_4_code 12 = .ok (.iconst (-1), 1) := by decide +kernel
theorem dd_62_13 : decode prog_12_method_4_code 13 = .ok (.istore 4, 2) := by decide +kernel
theorem dd_62_15 : decode prog_12_method_4_code 15 = .ok (.aload_n 0, 1) := by decide +kernel
theorem dd_62_16 : decode prog_12_method_4_code 16 = .ok (.aload_n 1, 1) := by decide +kernel
theorem dd_62_17 : decode prog_12_method_4_code 17 = .ok (.getfield 71, 3) := by decide +kernel
theorem dd_62_20 : decode prog_12_method_4_code 20 = .ok (.invokevirtual 34, 3) := by decide +kernel
theorem dd_62_23 : decode prog_12_method_4_code 23 = .ok (.iconst 0, 1) := by decide +kernel
theorem dd_62_24 : decode prog_12_method_4_code 24 = .ok (.istore 5, 2) := by decide +kernel
theorem dd_62_26 : decode prog_12_method_4_code 26 = .ok (.iload 5, 2) := by decide +kernel
theorem dd_62_28 : decode prog_12_method_4_code 28 = .ok (.aload_n 1, 1) := by decide +kernel
theorem dd_62_29 : decode prog_12_method_4_code 29 = .ok (.getfield 81, 3) := by decide +kernel
theorem dd_62_32 : decode prog_12_method_4_code 32 = .ok (.if_icmp .ge 91, 3) := by decide +kernel
theorem dd_62_35 : decode prog_12_method_4_code 35 = .ok (.aload_n 1, 1) := by decide +kernel
theorem dd_62_36 : decode prog_12_method_4_code 36 = .ok (.iload 5, 2) := by decide +kernel
theorem dd_62_38 : decode prog_12_method_4_code 38 = .ok (.invokevirtual 82, 3) := by decide +kernel
theorem dd_62_41 : decode prog_12_method_4_code 41 = .ok (.istore 6, 2) := by decide +kernel
theorem dd_62_43 : decode prog_12_method_4_code 43 = .ok (.aload_n 1, 1) := by decide +kernel
theorem dd_62_44 : decode prog_12_method_4_code 44 = .ok (.iload 5, 2) := by decide +kernel
theorem dd_62_46 : decode prog_12_method_4_code 46 = .ok (.invokevirtual 86, 3) := by decide +kernel
theorem dd_62_49 : decode prog_12_method_4_code 49 = .ok (.istore 7, 2) := by decide +kernel
theorem dd_62_51 : decode prog_12_method_4_code 51 = .ok (.iload 6, 2) := by decide +kernel
theorem dd_62_53 : decode prog_12_method_4_code 53 = .ok (.iload 4, 2) := by decide +kernel
theorem dd_62_55 : decode prog_12_method_4_code 55 = .ok (.if_icmp .le 53, 3) := by decide +kernel
theorem dd_62_58 : decode prog_12_method_4_code 58 = .ok (.iload 6, 2) := by decide +kernel
theorem dd_62_60 : decode prog_12_method_4_code 60 = .ok (.bipush 60, 2) := by decide +kernel
theorem dd_62_62 : decode prog_12_method_4_code 62 = .ok (.if_icmp .ge 46, 3) := by decide +kernel
theorem dd_62_65 : decode prog_12_method_4_code 65 = .ok (.iload 6, 2) := by decide +kernel
theorem dd_62_67 : decode prog_12_method_4_code 67 = .ok (.aload_n 0, 1) := by decide +kernel
theorem dd_62_68 : decode prog_12_method_4_code 68 = .ok (.getfield 22, 3) := by decide +kernel
theorem dd_62_71 : decode prog_12_method_4_code 71 = .ok (.if_icmp .lt 37, 3) := by decide +kernel
theorem dd_62_74 : decode prog_12_method_4_code 74 = .ok (.iload 7, 2) := by decide +kernel
theorem dd_62_76 : decode prog_12_method_4_code 76 = .ok (.aload_n 0, 1) := by decide +kernel
theorem dd_62_77 : decode prog_12_method_4_code 77 = .ok (.getfield 18, 3) := by decide +kernel
theorem dd_62_80 : decode prog_12_method_4_code 80 = .ok (.if_icmp .eq 28, 3) := by decide +kernel
theorem dd_62_83 : decode prog_12_method_4_code 83 = .ok (.aload_n 0, 1) := by decide +kernel
theorem dd_62_84 : decode prog_12_method_4_code 84 = .ok (.getfield 15, 3) := by decide +kernel
theorem dd_62_87 : decode prog_12_method_4_code 87 = .ok (.iload 6, 2) := by decide +kernel
theorem dd_62_89 : decode prog_12_method_4_code 89 = .ok (.iload 7, 2) := by decide +kernel
theorem dd_62_91 : decode prog_12_method_4_code 91 = .ok (.iastore, 1) := by decide +kernel
theorem dd_62_92 : decode prog_12_method_4_code 92 = .ok (.iload 6, 2) := by decide +kernel
theorem dd_62_94 : decode prog_12_method_4_code 94 = .ok (.istore 4, 2) := by decide +kernel
theorem dd_62_96 : decode prog_12_method_4_code 96 = .ok (.aload_n 0, 1) := by decide +kernel
theorem dd_62_97 : decode prog_12_method_4_code 97 = .ok (.iload 6, 2) := by decide +kernel
theorem dd_62_99 : decode prog_12_method_4_code 99 = .ok (.iload 7, 2) := by decide +kernel
theorem dd_62_101 : decode prog_12_method_4_code 101 = .ok (.iload_n 2, 1) := by decide +kernel
theorem dd_62_102 : decode prog_12_method_4_code 102 = .ok (.invokevirtual 59, 3) := by decide +kernel
theorem dd_62_105 : decode prog_12_method_4_code 105 = .ok (.goto 12, 3) := by decide +kernel
theorem dd_62_108 : decode prog_12_method_4_code 108 = .ok (.iload_n 3, 1) := by decide +kernel
theorem dd_62_109 : decode prog_12_method_4_code 109 = .ok (.bipush (-4), 2) := by decide +kernel
theorem dd_62_111 : decode prog_12_method_4_code 111 = .ok (.if_icmp .ne 6, 3) := by decide +kernel
theorem dd_62_114 : decode prog_12_method_4_code 114 = .ok (.iload 5, 2) := by decide +kernel
theorem dd_62_116 : decode prog_12_method_4_code 116 = .ok (.istore_n 3, 1) := by decide +kernel
theorem dd_62_117 : decode prog_12_method_4_code 117 = .ok (.iinc 5 1, 3) := by decide +kernel
theorem dd_62_120 : decode prog_12_method_4_code 120 = .ok (.goto (-94), 3) := by decide +kernel
theorem dd_62_123 : decode prog_12_method_4_code 123 = .ok (.iload_n 3, 1) := by decide +kernel
theorem dd_62_124 : decode prog_12_method_4_code 124 = .ok (.ireturn, 1) := by decide +kernel
theorem kb_62_0 : am_row mi_62 0 kr_62_0 := am_rs rfl (ok_aload_n (k := 0) dd_62_0 rfl rfl) (am_rs rfl (ok_gf dd_62_1 rfl am_ck10 (by decide) (Or.inl w_170)) (am_rn rfl (am_rn rfl (am_rs rfl (ok_bipush dd_62_4 bi_m4 rfl) (am_rn rfl (am_rs rfl (ok_cs (M' := mi_9) dd_62_6 rfl rfl w_632 w_222 ⟨lk_9.1, lk_9.2.1, lk_9.2.2, by decide, by decide⟩) (am_rn rfl (am_rz))))))))
theorem kb_62_1 : am_row mi_62 8 kr_62_1 := am_rn rfl (am_rs rfl (ok_bipush dd_62_9 bi_m4 rfl) (am_rn rfl (am_rs rfl (ok_istore_n (k := 3) dd_62_11 rfl rfl (by decide)) (am_rs rfl (ok_iconst dd_62_12 ic_m1 rfl) (am_rs rfl (ok_istore dd_62_13 rfl (by decide)) (am_rn rfl (am_rs rfl (ok_aload_n (k := 0) dd_62_15 rfl rfl) (am_rz))))))))
theorem kb_62_2 : am_row mi_62 16 kr_62_2 := am_rs rfl (ok_aload_n (k := 1) dd_62_16 rfl rfl) (am_rs rfl (ok_gf dd_62_17 rfl am_ck5 (by decide) (Or.inr ⟨_, w_309⟩)) (am_rn rfl (am_rn rfl (am_rs rfl (ok_cv (M' := mi_63) dd_62_20 rfl rfl w_633 w_635 ps_63 ⟨lk_63.1, lk_63.2.1, lk_63.2.2, by decide, by decide⟩ rfl) (am_rn rfl (am_rn rfl (am_rs rfl (ok_iconst dd_62_23 ic_0 rfl) (am_rz))))))))
theorem kb_62_3 : am_row mi_62 24 kr_62_3 := am_rs rfl (ok_istore dd_62_24 rfl (by decide)) (am_rn rfl (am_rs rfl (ok_iload dd_62_26 rfl) (am_rn rfl (am_rs rfl (ok_aload_n (k := 1) dd_62_28 rfl rfl) (am_rs rfl (ok_gf dd_62_29 rfl am_ck5 (by decide) (Or.inr ⟨_, w_306⟩)) (am_rn rfl (am_rn rfl (am_rz))))))))
theorem kb_62_4 : am_row mi_62 32 kr_62_4 := am_rs rfl (ok_icmp dd_62_32 (by decide) rfl) (am_rn rfl (am_rn rfl (am_rs rfl (ok_aload_n (k := 1) dd_62_35 rfl rfl) (am_rs rfl (ok_iload dd_62_36 rfl) (am_rn rfl (am_rs rfl (ok_cv (M' := mi_64) dd_62_38 rfl rfl w_637 w_638 w_639 ⟨lk_64.1, lk_64.2.1, lk_64.2.2, by decide, by decide⟩ rfl) (am_rn rfl (am_rz))))))))
theorem kb_62_5 : am_row mi_62 40 kr_62_5 := am_rn rfl (am_rs rfl (ok_istore dd_62_41 rfl (by decide)) (am_rn rfl (am_rs rfl (ok_aload_n (k := 1) dd_62_43 rfl rfl) (am_rs rfl (ok_iload dd_62_44 rfl) (am_rn rfl (am_rs rfl (ok_cv (M' := mi_65) dd_62_46 rfl rfl w_641 w_642 w_643 ⟨lk_65.1, lk_65.2.1, lk_65.2.2, by decide, by decide⟩ rfl) (am_rn rfl (am_rz))))))))
theorem kb_62_6 : am_row mi_62 48 kr_62_6 := am_rn rfl (am_rs rfl (ok_istore dd_62_49 rfl (by decide)) (am_rn rfl (am_rs rfl (ok_iload dd_62_51 rfl) (am_rn rfl (am_rs rfl (ok_iload dd_62_53 rfl) (am_rn rfl (am_rs rfl (ok_icmp dd_62_55 (by decide) rfl) (am_rz))))))))
theorem kb_62_7 : am_row mi_62 56 kr_62_7 := am_rn rfl (am_rn rfl (am_rs rfl (ok_iload dd_62_58 rfl) (am_rn rfl (am_rs rfl (ok_bipush dd_62_60 bi_60 rfl) (am_rn rfl (am_rs rfl (ok_icmp dd_62_62 (by decide) rfl) (am_rn rfl (am_rz))))))))
theorem kb_62_8 : am_row mi_62 64 kr_62_8 := am_rn rfl (am_rs rfl (ok_iload dd_62_65 rfl) (am_rn rfl (am_rs rfl (ok_aload_n (k := 0) dd_62_67 rfl rfl) (am_rs rfl (ok_gf dd_62_68 rfl am_ck10 (by decide) (Or.inl w_172)) (am_rn rfl (am_rn rfl (am_rs rfl (ok_icmp dd_62_71 (by decide) rfl) (am_rz))))))))
theorem kb_62_9 : am_row mi_62 72 kr_62_9 := am_rn rfl (am_rn rfl (am_rs rfl (ok_iload dd_62_74 rfl) (am_rn rfl (am_rs rfl (ok_aload_n (k := 0) dd_62_76 rfl rfl) (am_rs rfl (ok_gf dd_62_77 rfl am_ck10 (by decide) (Or.inl w_171)) (am_rn rfl (am_rn rfl (am_rz))))))))
theorem kb_62_10 : am_row mi_62 80 kr_62_10 := am_rs rfl (ok_icmp dd_62_80 (by decide) rfl) (am_rn rfl (am_rn rfl (am_rs rfl (ok_aload_n (k := 0) dd_62_83 rfl rfl) (am_rs rfl (ok_gf dd_62_84 rfl am_ck10 (by decide) (Or.inl w_170)) (am_rn rfl (am_rn rfl (am_rs rfl (ok_iload dd_62_87 rfl) (am_rz))))))))
theorem kb_62_11 : am_row mi_62 88 kr_62_11 := am_rn rfl (am_rs rfl (ok_iload dd_62_89 rfl) (am_rn rfl (am_rs rfl (ok_iast dd_62_91 rfl) (am_rs rfl (ok_iload dd_62_92 rfl) (am_rn rfl (am_rs rfl (ok_istore dd_62_94 rfl (by decide)) (am_rn rfl (am_rz))))))))
theorem kb_62_12 : am_row mi_62 96 kr_62_12 := am_rs rfl (ok_aload_n (k := 0) dd_62_96 rfl rfl) (am_rs rfl (ok_iload dd_62_97 rfl) (am_rn rfl (am_rs rfl (ok_iload dd_62_99 rfl) (am_rn rfl (am_rs rfl (ok_iload_n (k := 2) dd_62_101 rfl rfl) (am_rs rfl (ok_cv (M' := mi_66) dd_62_102 rfl rfl w_645 w_647 ps_66 ⟨lk_66.1, lk_66.2.1, lk_66.2.2, by decide, by decide⟩ rfl) (am_rn rfl (am_rz))))))))
theorem kb_62_13 : am_row mi_62 104 kr_62_13 := am_rn rfl (am_rs rfl (ok_goto dd_62_105 (by decide)) (am_rn rfl (am_rn rfl (am_rs rfl (ok_iload_n (k := 3) dd_62_108 rfl rfl) (am_rs rfl (ok_bipush dd_62_109 bi_m4 rfl) (am_rn rfl (am_rs rfl (ok_icmp dd_62_111 (by decide) rfl) (am_rz))))))))
theorem kb_62_14 : am_row mi_62 112 kr_62_14 := am_rn rfl (am_rn rfl (am_rs rfl (ok_iload dd_62_114 rfl) (am_rn rfl (am_rs rfl (ok_istore_n (k := 3) dd_62_116 rfl rfl (by decide)) (am_rs rfl (ok_iinc dd_62_117 ic_1 rfl (by decide)) (am_rn rfl (am_rn rfl (am_rz))))))))
theorem kb_62_15 : am_row mi_62 120 kr_62_15 := am_rs rfl (ok_goto dd_62_120 (by decide)) (am_rn rfl (am_rn rfl (am_rs rfl (ok_iload_n (k := 3) dd_62_123 rfl rfl) (am_rs rfl (ok_iret dd_62_124 rfl) (am_rz)))))
theorem ck_62 : am_rows mi_62 0 cd_62 := am_bs rfl kb_62_0 (am_bs rfl kb_62_1 (am_bs rfl kb_62_2 (am_bs rfl kb_62_3 (am_bs rfl kb_62_4 (am_bs rfl kb_62_5 (am_bs rfl kb_62_6 (am_bs rfl kb_62_7 (am_bs rfl kb_62_8 (am_bs rfl kb_62_9 (am_bs rfl kb_62_10 (am_bs rfl kb_62_11 (am_bs rfl kb_62_12 (am_bs rfl kb_62_13 (am_bs rfl kb_62_14 (am_bs rfl kb_62_15 (am_bz))))))))))))))))
/-- OverAndBack$Walk.start(I)V -/
noncomputable def kr_63_0 : List (Option am_Op) := [some (am_ald0 0 1), some (am_ild 1 2), some (am_pf 10 2 0 5), none, none, some (am_ald0 0 6), some (am_psh (.retAddr 0) 7), some (am_pf 10 3 0 10)]
noncomputable def kr_63_1 : List (Option am_Op) := [none, none, some (am_ald0 0 11), some (am_psh (.retAddr 0) 12), some (am_pf 10 4 0 15), none, none, some (am_ald0 0 16)]
noncomputable def kr_63_2 : List (Option am_Op) := [some (am_psh (.retAddr 0) 17), some (am_pf 10 5 0 20), none, none, some (am_ald0 0 21), some (am_psh (.retAddr 0) 22), some (am_pf 10 6 0 25), none]
noncomputable def kr_63_3 : List (Option am_Op) := [none, some (am_vret)]
noncomputable def cd_63 : am_Cd := [kr_63_0, kr_63_1, kr_63_2, kr_63_3]
theorem dd_63_0 : decode prog_12_method_6_code 0 = .ok (.aload_n 0, 1) := by decide +kernel
theorem dd_63_1 : decode prog_12_method_6_code 1 = .ok (.iload_n 1, 1) := by decide +kernel
theorem dd_63_2 : decode prog_12_method_6_code 2 = .ok (.putfield 18, 3) := by decide +kernel
theorem dd_63_5 : decode prog_12_method_6_code 5 = .ok (.aload_n 0, 1) := by decide +kernel
theorem dd_63_6 : decode prog_12_method_6_code 6 = .ok (.iconst 0, 1) := by decide +kernel
theorem dd_63_7 : decode prog_12_method_6_code 7 = .ok (.putfield 22, 3) := by decide +kernel
theorem dd_63_10 : decode prog_12_method_6_code 10 = .ok (.aload_n 0, 1) := by decide +kernel
theorem dd_63_11 : decode prog_12_method_6_code 11 = .ok (.iconst 0, 1) := by decide +kernel
theorem dd_63_12 : decode prog_12_method_6_code 12 = .ok (.putfield 25, 3) := by decide +kernel
theorem dd_63_15 : decode prog_12_method_6_code 15 = .ok (.aload_n 0, 1) := by decide +kernel
theorem dd_63_16 : decode prog_12_method_6_code 16 = .ok (.iconst 0, 1) := by decide +kernel
theorem dd_63_17 : decode prog_12_method_6_code 17 = .ok (.putfield 28, 3) := by decide +kernel
theorem dd_63_20 : decode prog_12_method_6_code 20 = .ok (.aload_n 0, 1) := by decide +kernel
theorem dd_63_21 : decode prog_12_method_6_code 21 = .ok (.iconst 0, 1) := by decide +kernel
theorem dd_63_22 : decode prog_12_method_6_code 22 = .ok (.putfield 31, 3) := by decide +kernel
theorem dd_63_25 : decode prog_12_method_6_code 25 = .ok (.return_, 1) := by decide +kernel
theorem kb_63_0 : am_row mi_63 0 kr_63_0 := am_rs rfl (ok_aload_n (k := 0) dd_63_0 rfl rfl) (am_rs rfl (ok_iload_n (k := 1) dd_63_1 rfl rfl) (am_rs rfl (ok_pf dd_63_2 rfl am_ck10 (by decide) (Or.inl w_171) (Or.inl rfl) rfl) (am_rn rfl (am_rn rfl (am_rs rfl (ok_aload_n (k := 0) dd_63_5 rfl rfl) (am_rs rfl (ok_iconst dd_63_6 ic_0 rfl) (am_rs rfl (ok_pf dd_63_7 rfl am_ck10 (by decide) (Or.inl w_172) (Or.inl rfl) rfl) (am_rz))))))))
theorem kb_63_1 : am_row mi_63 8 kr_63_1 := am_rn rfl (am_rn rfl (am_rs rfl (ok_aload_n (k := 0) dd_63_10 rfl rfl) (am_rs rfl (ok_iconst dd_63_11 ic_0 rfl) (am_rs rfl (ok_pf dd_63_12 rfl am_ck10 (by decide) (Or.inl w_173) (Or.inl rfl) rfl) (am_rn rfl (am_rn rfl (am_rs rfl (ok_aload_n (k := 0) dd_63_15 rfl rfl) (am_rz))))))))
theorem kb_63_2 : am_row mi_63 16 kr_63_2 := am_rs rfl (ok_iconst dd_63_16 ic_0 rfl) (am_rs rfl (ok_pf dd_63_17 rfl am_ck10 (by decide) (Or.inl w_175) (Or.inl rfl) rfl) (am_rn rfl (am_rn rfl (am_rs rfl (ok_aload_n (k := 0) dd_63_20 rfl rfl) (am_rs rfl (ok_iconst dd_63_21 ic_0 rfl) (am_rs rfl (ok_pf dd_63_22 rfl am_ck10 (by decide) (Or.inl w_177) (Or.inl rfl) rfl) (am_rn rfl (am_rz))))))))
theorem kb_63_3 : am_row mi_63 24 kr_63_3 := am_rn rfl (am_rs rfl (ok_vret dd_63_25 rfl) (am_rz))
theorem ck_63 : am_rows mi_63 0 cd_63 := am_bs rfl kb_63_0 (am_bs rfl kb_63_1 (am_bs rfl kb_63_2 (am_bs rfl kb_63_3 (am_bz))))
/-- OverAndBack$Plan.minuteOf(I)I -/
noncomputable def kr_64_0 : List (Option am_Op) := [some (am_ild 1 1), some (am_br1 .lt 19 4), none, none, some (am_ild 1 5), some (am_psh (.retAddr 9) 7), none, some (am_br2 .ge 19 10)]
noncomputable def kr_64_1 : List (Option am_Op) := [none, none, some (am_ald0 0 11), some (am_gf 5 0 14), none, none, some (am_ild 1 15), some (am_ald 0 16)]
noncomputable def kr_64_2 : List (Option am_Op) := [some (am_jmp 20), none, none, some (am_psh (.retAddr 0) 20), some (am_iret)]
noncomputable def cd_64 : am_Cd := [kr_64_0, kr_64_1, kr_64_2]
theorem dd_64_0 : decode prog_7_method_6_code 0 = .ok (.iload_n 1, 1) := by decide +kernel
theorem dd_64_1 : decode prog_7_method_6_code 1 = .ok (.ifCond .lt 18, 3) := by decide +kernel
theorem dd_64_4 : decode prog_7_method_6_code 4 = .ok (.iload_n 1, 1) := by decide +kernel
theorem dd_64_5 : decode prog_7_method_6_code 5 = .ok (.bipush 9, 2) := by decide +kernel
theorem dd_64_7 : decode prog_7_method_6_code 7 = .ok (.if_icmp .ge 12, 3) := by decide +kernel
theorem dd_64_10 : decode prog_7_method_6_code 10 = .ok (.aload_n 0, 1) := by decide +kernel
theorem dd_64_11 : decode prog_7_method_6_code 11 = .ok (.getfield 9, 3) := by decide +kernel
theorem dd_64_14 : decode prog_7_method_6_code 14 = .ok (.iload_n 1, 1) := by decide +kernel
theorem dd_64_15 : decode prog_7_method_6_code 15 = .ok (.iaload, 1) := by decide +kernel
theorem dd_64_16 : decode prog_7_method_6_code 16 = .ok (.goto 4, 3) := by decide +kernel
theorem dd_64_19 : decode prog_7_method_6_code 19 = .ok (.iconst 0, 1) := by decide +kernel
theorem dd_64_20 : decode prog_7_method_6_code 20 = .ok (.ireturn, 1) := by decide +kernel
theorem kb_64_0 : am_row mi_64 0 kr_64_0 := am_rs rfl (ok_iload_n (k := 1) dd_64_0 rfl rfl) (am_rs rfl (ok_ifc dd_64_1 (by decide) rfl) (am_rn rfl (am_rn rfl (am_rs rfl (ok_iload_n (k := 1) dd_64_4 rfl rfl) (am_rs rfl (ok_bipush dd_64_5 bi_9 rfl) (am_rn rfl (am_rs rfl (ok_icmp dd_64_7 (by decide) rfl) (am_rz))))))))
theorem kb_64_1 : am_row mi_64 8 kr_64_1 := am_rn rfl (am_rn rfl (am_rs rfl (ok_aload_n (k := 0) dd_64_10 rfl rfl) (am_rs rfl (ok_gf dd_64_11 rfl am_ck5 (by decide) (Or.inl w_303)) (am_rn rfl (am_rn rfl (am_rs rfl (ok_iload_n (k := 1) dd_64_14 rfl rfl) (am_rs rfl (ok_iald dd_64_15 rfl) (am_rz))))))))
theorem kb_64_2 : am_row mi_64 16 kr_64_2 := am_rs rfl (ok_goto dd_64_16 (by decide)) (am_rn rfl (am_rn rfl (am_rs rfl (ok_iconst dd_64_19 ic_0 rfl) (am_rs rfl (ok_iret dd_64_20 rfl) (am_rz)))))
theorem ck_64 : am_rows mi_64 0 cd_64 := am_bs rfl kb_64_0 (am_bs rfl kb_64_1 (am_bs rfl kb_64_2 (am_bz)))
/-- OverAndBack$Plan.stationOf(I)I -/
noncomputable def kr_65_0 : List (Option am_Op) := [some (am_ild 1 1), some (am_br1 .lt 19 4), none, none, some (am_ild 1 5), some (am_psh (.retAddr 9) 7), none, some (am_br2 .ge 19 10)]
noncomputable def kr_65_1 : List (Option am_Op) := [none, none, some (am_ald0 0 11), some (am_gf 5 1 14), none, none, some (am_ild 1 15), some (am_ald 0 16)]
noncomputable def kr_65_2 : List (Option am_Op) := [some (am_jmp 20), none, none, some (am_psh (.retAddr 0) 20), some (am_iret)]
noncomputable def cd_65 : am_Cd := [kr_65_0, kr_65_1, kr_65_2]
theorem dd_65_0 : decode prog_7_method_7_code 0 = .ok (.iload_n 1, 1) := by decide +kernel
theorem dd_65_1 : decode prog_7_method_7_code 1 = .ok (.ifCond .lt 18, 3) := by decide +kernel
theorem dd_65_4 : decode prog_7_method_7_code 4 = .ok (.iload_n 1, 1) := by decide +kernel
theorem dd_65_5 : decode prog_7_method_7_code 5 = .ok (.bipush 9, 2) := by decide +kernel
theorem dd_65_7 : decode prog_7_method_7_code 7 = .ok (.if_icmp .ge 12, 3) := by decide +kernel
theorem dd_65_10 : decode prog_7_method_7_code 10 = .ok (.aload_n 0, 1) := by decide +kernel
theorem dd_65_11 : decode prog_7_method_7_code 11 = .ok (.getfield 15, 3) := by decide +kernel
theorem dd_65_14 : decode prog_7_method_7_code 14 = .ok (.iload_n 1, 1) := by decide +kernel
theorem dd_65_15 : decode prog_7_method_7_code 15 = .ok (.iaload, 1) := by decide +kernel
theorem dd_65_16 : decode prog_7_method_7_code 16 = .ok (.goto 4, 3) := by decide +kernel
theorem dd_65_19 : decode prog_7_method_7_code 19 = .ok (.iconst 0, 1) := by decide +kernel
theorem dd_65_20 : decode prog_7_method_7_code 20 = .ok (.ireturn, 1) := by decide +kernel
theorem kb_65_0 : am_row mi_65 0 kr_65_0 := am_rs rfl (ok_iload_n (k := 1) dd_65_0 rfl rfl) (am_rs rfl (ok_ifc dd_65_1 (by decide) rfl) (am_rn rfl (am_rn rfl (am_rs rfl (ok_iload_n (k := 1) dd_65_4 rfl rfl) (am_rs rfl (ok_bipush dd_65_5 bi_9 rfl) (am_rn rfl (am_rs rfl (ok_icmp dd_65_7 (by decide) rfl) (am_rz))))))))
theorem kb_65_1 : am_row mi_65 8 kr_65_1 := am_rn rfl (am_rn rfl (am_rs rfl (ok_aload_n (k := 0) dd_65_10 rfl rfl) (am_rs rfl (ok_gf dd_65_11 rfl am_ck5 (by decide) (Or.inl w_304)) (am_rn rfl (am_rn rfl (am_rs rfl (ok_iload_n (k := 1) dd_65_14 rfl rfl) (am_rs rfl (ok_iald dd_65_15 rfl) (am_rz))))))))
theorem kb_65_2 : am_row mi_65 16 kr_65_2 := am_rs rfl (ok_goto dd_65_16 (by decide)) (am_rn rfl (am_rn rfl (am_rs rfl (ok_iconst dd_65_19 ic_0 rfl) (am_rs rfl (ok_iret dd_65_20 rfl) (am_rz)))))
theorem ck_65 : am_rows mi_65 0 cd_65 := am_bs rfl kb_65_0 (am_bs rfl kb_65_1 (am_bs rfl kb_65_2 (am_bz)))
/-- OverAndBack$Walk.goTo(III)V -/
noncomputable def kr_66_0 : List (Option am_Op) := [some (am_ild 2 1), some (am_ald0 0 2), some (am_gf 10 2 5), none, none, some (am_br2 .eq 30 8), none, none]
noncomputable def kr_66_1 : List (Option am_Op) := [some (am_ald0 0 9), some (am_ild 2 10), some (am_pf 10 2 0 13), none, none, some (am_ald0 0 14), some (am_ild 1 15), some (am_ild 3 16)]
noncomputable def kr_66_2 : List (Option am_Op) := [some (am_bin am_add 17), some (am_pf 10 3 0 20), none, none, some (am_ald0 0 21), some (am_dup 22), some (am_gf 10 6 25), none]
noncomputable def kr_66_3 : List (Option am_Op) := [none, some (am_psh (.retAddr 1) 26), some (am_bin am_add 27), some (am_pf 10 6 0 30), none, none, some (am_vret)]
noncomputable def cd_66 : am_Cd := [kr_66_0, kr_66_1, kr_66_2, kr_66_3]
theorem dd_66_0 : decode prog_12_method_7_code 0 = .ok (.iload_n 2, 1) := by decide +kernel
theorem dd_66_1 : decode prog_12_method_7_code 1 = .ok (.aload_n 0, 1) := by decide +kernel
theorem dd_66_2 : decode prog_12_method_7_code 2 = .ok (.getfield 18, 3) := by decide +kernel
theorem dd_66_5 : decode prog_12_method_7_code 5 = .ok (.if_icmp .eq 25, 3) := by decide +kernel
theorem dd_66_8 : decode prog_12_method_7_code 8 = .ok (.aload_n 0, 1) := by decide +kernel
theorem dd_66_9 : decode prog_12_method_7_code 9 = .ok (.iload_n 2, 1) := by decide +kernel
theorem dd_66_10 : decode prog_12_method_7_code 10 = .ok (.putfield 18, 3) := by decide +kernel
theorem dd_66_13 : decode prog_12_method_7_code 13 = .ok (.aload_n 0, 1) := by decide +kernel
theorem dd_66_14 : decode prog_12_method_7_code 14 = .ok (.iload_n 1, 1) := by decide +kernel
theorem dd_66_15 : decode prog_12_method_7_code 15 = .ok (.iload_n 3, 1) := by decide +kernel
theorem dd_66_16 : decode prog_12_method_7_code 16 = .ok (.iadd, 1) := by decide +kernel
theorem dd_66_17 : decode prog_12_method_7_code 17 = .ok (.putfield 22, 3) := by decide +kernel
theorem dd_66_20 : decode prog_12_method_7_code 20 = .ok (.aload_n 0, 1) := by decide +kernel
theorem dd_66_21 : decode prog_12_method_7_code 21 = .ok (.dup, 1) := by decide +kernel
theorem dd_66_22 : decode prog_12_method_7_code 22 = .ok (.getfield 31, 3) := by decide +kernel
theorem dd_66_25 : decode prog_12_method_7_code 25 = .ok (.iconst 1, 1) := by decide +kernel
theorem dd_66_26 : decode prog_12_method_7_code 26 = .ok (.iadd, 1) := by decide +kernel
theorem dd_66_27 : decode prog_12_method_7_code 27 = .ok (.putfield 31, 3) := by decide +kernel
theorem dd_66_30 : decode prog_12_method_7_code 30 = .ok (.return_, 1) := by decide +kernel
theorem kb_66_0 : am_row mi_66 0 kr_66_0 := am_rs rfl (ok_iload_n (k := 2) dd_66_0 rfl rfl) (am_rs rfl (ok_aload_n (k := 0) dd_66_1 rfl rfl) (am_rs rfl (ok_gf dd_66_2 rfl am_ck10 (by decide) (Or.inl w_171)) (am_rn rfl (am_rn rfl (am_rs rfl (ok_icmp dd_66_5 (by decide) rfl) (am_rn rfl (am_rn rfl (am_rz))))))))
theorem kb_66_1 : am_row mi_66 8 kr_66_1 := am_rs rfl (ok_aload_n (k := 0) dd_66_8 rfl rfl) (am_rs rfl (ok_iload_n (k := 2) dd_66_9 rfl rfl) (am_rs rfl (ok_pf dd_66_10 rfl am_ck10 (by decide) (Or.inl w_171) (Or.inl rfl) rfl) (am_rn rfl (am_rn rfl (am_rs rfl (ok_aload_n (k := 0) dd_66_13 rfl rfl) (am_rs rfl (ok_iload_n (k := 1) dd_66_14 rfl rfl) (am_rs rfl (ok_iload_n (k := 3) dd_66_15 rfl rfl) (am_rz))))))))
theorem kb_66_2 : am_row mi_66 16 kr_66_2 := am_rs rfl (ok_iadd dd_66_16 rfl) (am_rs rfl (ok_pf dd_66_17 rfl am_ck10 (by decide) (Or.inl w_172) (Or.inl rfl) rfl) (am_rn rfl (am_rn rfl (am_rs rfl (ok_aload_n (k := 0) dd_66_20 rfl rfl) (am_rs rfl (ok_dup dd_66_21 rfl) (am_rs rfl (ok_gf dd_66_22 rfl am_ck10 (by decide) (Or.inl w_177)) (am_rn rfl (am_rz))))))))
theorem kb_66_3 : am_row mi_66 24 kr_66_3 := am_rn rfl (am_rs rfl (ok_iconst dd_66_25 ic_1 rfl) (am_rs rfl (ok_iadd dd_66_26 rfl) (am_rs rfl (ok_pf dd_66_27 rfl am_ck10 (by decide) (Or.inl w_177) (Or.inl rfl) rfl) (am_rn rfl (am_rn rfl (am_rs rfl (ok_vret dd_66_30 rfl) (am_rz)))))))
theorem ck_66 : am_rows mi_66 0 cd_66 := am_bs rfl kb_66_0 (am_bs rfl kb_66_1 (am_bs rfl kb_66_2 (am_bs rfl kb_66_3 (am_bz))))
/-- OverAndBack$Walk.look(LOverAndBack$Screen;I)V -/
noncomputable def kr_67_0 : List (Option am_Op) := [some (am_ild 2 1), some (am_br1 .lt 10 4), none, none, some (am_ild 2 5), some (am_psh (.retAddr 60) 7), none, some (am_br2 .lt 11 10)]
noncomputable def kr_67_1 : List (Option am_Op) := [none, none, some (am_vret), some (am_ild 2 12), some (am_ald0 0 13), some (am_gf 10 3 16), none, none]
noncomputable def kr_67_2 : List (Option am_Op) := [some (am_br2 .ge 28 19), none, none, some (am_ald0 0 20), some (am_gf 10 0 23), none, none, some (am_ild 2 24)]
noncomputable def kr_67_3 : List (Option am_Op) := [some (am_psh (.retAddr 4294967292) 26), none, some (am_ast 0 (fun v => v) 27), some (am_vret), some (am_ald0 0 29), some (am_gf 10 0 32), none, none]
noncomputable def kr_67_4 : List (Option am_Op) := [some (am_ild 2 33), some (am_ald0 0 34), some (am_gf 10 2 37), none, none, some (am_ast 0 (fun v => v) 38), some (am_ald0 0 39), some (am_dup 40)]
noncomputable def kr_67_5 : List (Option am_Op) := [some (am_gf 10 4 43), none, none, some (am_ald0 1 44), some (am_ald0 0 45), some (am_gf 10 2 48), none, none]
noncomputable def kr_67_6 : List (Option am_Op) := [some (am_ild 2 49), some (am_cv 41 2 9 52), none, none, some (am_bin am_add 53), some (am_pf 10 4 0 56), none, none]
noncomputable def kr_67_7 : List (Option am_Op) := [some (am_ald0 0 57), some (am_dup 58), some (am_gf 10 5 61), none, none, some (am_ald0 1 62), some (am_ald0 0 63), some (am_gf 10 2 66)]
noncomputable def kr_67_8 : List (Option am_Op) := [none, none, some (am_ild 2 67), some (am_cv 68 2 9 70), none, none, some (am_bin Nat.lor 71), some (am_pf 10 5 0 74)]
noncomputable def kr_67_9 : List (Option am_Op) := [none, none, some (am_vret)]
noncomputable def cd_67 : am_Cd := [kr_67_0, kr_67_1, kr_67_2, kr_67_3, kr_67_4, kr_67_5, kr_67_6, kr_67_7, kr_67_8, kr_67_9]
theorem dd_67_0 : decode prog_12_method_8_code 0 = .ok (.iload_n 2, 1) := by decide +kernel
theorem dd_67_1 : decode prog_12_method_8_code 1 = .ok (.ifCond .lt 9, 3) := by decide +kernel
theorem dd_67_4 : decode prog_12_method_8_code 4 = .ok (.iload_n 2, 1) := by decide +kernel
theorem dd_67_5 : decode prog_12_method_8_code 5 = .ok (.bipush 60, 2) := by decide +kernel
theorem dd_67_7 : decode prog_12_method_8_code 7 = .ok (.if_icmp .lt 4, 3) := by decide +kernel
theorem dd_67_10 : decode prog_12_method_8_code 10 = .ok (.return_, 1) := by decide +kernel
theorem dd_67_11 : decode prog_12_method_8_code 11 = .ok (.iload_n 2, 1) := by decide +kernel
theorem dd_67_12 : decode prog_12_method_8_code 12 = .ok (.aload_n 0, 1) := by decide +kernel
theorem dd_67_13 : decode prog_12_method_8_code 13 = .ok (.getfield 22, 3) := by decide +kernel
theorem dd_67_16 : decode prog_12_method_8_code 16 = .ok (.if_icmp .ge 12, 3) := by decide +kernel
theorem dd_67_19 : decode prog_12_method_8_code 19 = .ok (.aload_n 0, 1) := by decide +kernel
theorem dd_67_20 : decode prog_12_method_8_code 20 = .ok (.getfield 9, 3) := by decide +kernel
theorem dd_67_23 : decode prog_12_method_8_code 23 = .ok (.iload_n 2, 1) := by decide +kernel
theorem dd_67_24 : decode prog_12_method_8_code 24 = .ok (.bipush (-4), 2) := by decide +kernel
theorem dd_67_26 : decode prog_12_method_8_code 26 = .ok (.iastore, 1) := by decide +kernel
theorem dd_67_27 : decode prog_12_method_8_code 27 = .ok (.return_, 1) := by decide +kernel
theorem dd_67_28 : decode prog_12_method_8_code 28 = .ok (.aload_n 0, 1) := by decide +kernel
theorem dd_67_29 : decode prog_12_method_8_code 29 = .ok (.getfield 9, 3) := by decide +kernel
theorem dd_67_32 : decode prog_12_method_8_code 32 = .ok (.iload_n 2, 1) := by decide +kernel
theorem dd_67_33 : decode prog_12_method_8_code 33 = .ok (.aload_n 0, 1) := by decide +kernel
theorem dd_67_34 : decode prog_12_method_8_code 34 = .ok (.getfield 18, 3) := by decide +kernel
theorem dd_67_37 : decode prog_12_method_8_code 37 = .ok (.iastore, 1) := by decide +kernel
theorem dd_67_38 : decode prog_12_method_8_code 38 = .ok (.aload_n 0, 1) := by decide +kernel
theorem dd_67_39 : decode prog_12_method_8_code 39 = .ok (.dup, 1) := by decide +kernel
theorem dd_67_40 : decode prog_12_method_8_code 40 = .ok (.getfield 25, 3) := by decide +kernel
theorem dd_67_43 : decode prog_12_method_8_code 43 = .ok (.aload_n 1, 1) := by decide +kernel
theorem dd_67_44 : decode prog_12_method_8_code 44 = .ok (.aload_n 0, 1) := by decide +kernel
theorem dd_67_45 : decode prog_12_method_8_code 45 = .ok (.getfield 18, 3) := by decide +kernel
theorem dd_67_48 : decode prog_12_method_8_code 48 = .ok (.iload_n 2, 1) := by decide +kernel
theorem dd_67_49 : decode prog_12_method_8_code 49 = .ok (.invokevirtual 89, 3) := by decide +kernel
theorem dd_67_52 : decode prog_12_method_8_code 52 = .ok (.iadd, 1) := by decide +kernel
theorem dd_67_53 : decode prog_12_method_8_code 53 = .ok (.putfield 25, 3) := by decide +kernel
theorem dd_67_56 : decode prog_12_method_8_code 56 = .ok (.aload_n 0, 1) := by decide +kernel
theorem dd_67_57 : decode prog_12_method_8_code 57 = .ok (.dup, 1) := by decide +kernel
theorem dd_67_58 : decode prog_12_method_8_code 58 = .ok (.getfield 28, 3) := by decide +kernel
theorem dd_67_61 : decode prog_12_method_8_code 61 = .ok (.aload_n 1, 1) := by decide +kernel
theorem dd_67_62 : decode prog_12_method_8_code 62 = .ok (.aload_n 0, 1) := by decide +kernel
theorem dd_67_63 : decode prog_12_method_8_code 63 = .ok (.getfield 18, 3) := by decide +kernel
theorem dd_67_66 : decode prog_12_method_8_code 66 = .ok (.iload_n 2, 1) := by decide +kernel
theorem dd_67_67 : decode prog_12_method_8_code 67 = .ok (.invokevirtual 95, 3) := by decide +kernel
theorem dd_67_70 : decode prog_12_method_8_code 70 = .ok (.ior, 1) := by decide +kernel
theorem dd_67_71 : decode prog_12_method_8_code 71 = .ok (.putfield 28, 3) := by decide +kernel
theorem dd_67_74 : decode prog_12_method_8_code 74 = .ok (.return_, 1) := by decide +kernel
theorem kb_67_0 : am_row mi_67 0 kr_67_0 := am_rs rfl (ok_iload_n (k := 2) dd_67_0 rfl rfl) (am_rs rfl (ok_ifc dd_67_1 (by decide) rfl) (am_rn rfl (am_rn rfl (am_rs rfl (ok_iload_n (k := 2) dd_67_4 rfl rfl) (am_rs rfl (ok_bipush dd_67_5 bi_60 rfl) (am_rn rfl (am_rs rfl (ok_icmp dd_67_7 (by decide) rfl) (am_rz))))))))
theorem kb_67_1 : am_row mi_67 8 kr_67_1 := am_rn rfl (am_rn rfl (am_rs rfl (ok_vret dd_67_10 rfl) (am_rs rfl (ok_iload_n (k := 2) dd_67_11 rfl rfl) (am_rs rfl (ok_aload_n (k := 0) dd_67_12 rfl rfl) (am_rs rfl (ok_gf dd_67_13 rfl am_ck10 (by decide) (Or.inl w_172)) (am_rn rfl (am_rn rfl (am_rz))))))))
theorem kb_67_2 : am_row mi_67 16 kr_67_2 := am_rs rfl (ok_icmp dd_67_16 (by decide) rfl) (am_rn rfl (am_rn rfl (am_rs rfl (ok_aload_n (k := 0) dd_67_19 rfl rfl) (am_rs rfl (ok_gf dd_67_20 rfl am_ck10 (by decide) (Or.inl w_169)) (am_rn rfl (am_rn rfl (am_rs rfl (ok_iload_n (k := 2) dd_67_23 rfl rfl) (am_rz))))))))
theorem kb_67_3 : am_row mi_67 24 kr_67_3 := am_rs rfl (ok_bipush dd_67_24 bi_m4 rfl) (am_rn rfl (am_rs rfl (ok_iast dd_67_26 rfl) (am_rs rfl (ok_vret dd_67_27 rfl) (am_rs rfl (ok_aload_n (k := 0) dd_67_28 rfl rfl) (am_rs rfl (ok_gf dd_67_29 rfl am_ck10 (by decide) (Or.inl w_169)) (am_rn rfl (am_rn rfl (am_rz))))))))
theorem kb_67_4 : am_row mi_67 32 kr_67_4 := am_rs rfl (ok_iload_n (k := 2) dd_67_32 rfl rfl) (am_rs rfl (ok_aload_n (k := 0) dd_67_33 rfl rfl) (am_rs rfl (ok_gf dd_67_34 rfl am_ck10 (by decide) (Or.inl w_171)) (am_rn rfl (am_rn rfl (am_rs rfl (ok_iast dd_67_37 rfl) (am_rs rfl (ok_aload_n (k := 0) dd_67_38 rfl rfl) (am_rs rfl (ok_dup dd_67_39 rfl) (am_rz))))))))
theorem kb_67_5 : am_row mi_67 40 kr_67_5 := am_rs rfl (ok_gf dd_67_40 rfl am_ck10 (by decide) (Or.inl w_173)) (am_rn rfl (am_rn rfl (am_rs rfl (ok_aload_n (k := 1) dd_67_43 rfl rfl) (am_rs rfl (ok_aload_n (k := 0) dd_67_44 rfl rfl) (am_rs rfl (ok_gf dd_67_45 rfl am_ck10 (by decide) (Or.inl w_171)) (am_rn rfl (am_rn rfl (am_rz))))))))
theorem kb_67_6 : am_row mi_67 48 kr_67_6 := am_rs rfl (ok_iload_n (k := 2) dd_67_48 rfl rfl) (am_rs rfl (ok_cv (M' := mi_41) dd_67_49 rfl rfl w_653 w_491 w_492 ⟨lk_41.1, lk_41.2.1, lk_41.2.2, by decide, by decide⟩ rfl) (am_rn rfl (am_rn rfl (am_rs rfl (ok_iadd dd_67_52 rfl) (am_rs rfl (ok_pf dd_67_53 rfl am_ck10 (by decide) (Or.inl w_173) (Or.inl rfl) rfl) (am_rn rfl (am_rn rfl (am_rz))))))))
theorem kb_67_7 : am_row mi_67 56 kr_67_7 := am_rs rfl (ok_aload_n (k := 0) dd_67_56 rfl rfl) (am_rs rfl (ok_dup dd_67_57 rfl) (am_rs rfl (ok_gf dd_67_58 rfl am_ck10 (by decide) (Or.inl w_175)) (am_rn rfl (am_rn rfl (am_rs rfl (ok_aload_n (k := 1) dd_67_61 rfl rfl) (am_rs rfl (ok_aload_n (k := 0) dd_67_62 rfl rfl) (am_rs rfl (ok_gf dd_67_63 rfl am_ck10 (by decide) (Or.inl w_171)) (am_rz))))))))
theorem kb_67_8 : am_row mi_67 64 kr_67_8 := am_rn rfl (am_rn rfl (am_rs rfl (ok_iload_n (k := 2) dd_67_66 rfl rfl) (am_rs rfl (ok_cv (M' := mi_68) dd_67_67 rfl rfl w_654 w_655 w_656 ⟨lk_68.1, lk_68.2.1, lk_68.2.2, by decide, by decide⟩ rfl) (am_rn rfl (am_rn rfl (am_rs rfl (ok_ior dd_67_70 rfl) (am_rs rfl (ok_pf dd_67_71 rfl am_ck10 (by decide) (Or.inl w_175) (Or.inl rfl) rfl) (am_rz))))))))
theorem kb_67_9 : am_row mi_67 72 kr_67_9 := am_rn rfl (am_rn rfl (am_rs rfl (ok_vret dd_67_74 rfl) (am_rz)))
theorem ck_67 : am_rows mi_67 0 cd_67 := am_bs rfl kb_67_0 (am_bs rfl kb_67_1 (am_bs rfl kb_67_2 (am_bs rfl kb_67_3 (am_bs rfl kb_67_4 (am_bs rfl kb_67_5 (am_bs rfl kb_67_6 (am_bs rfl kb_67_7 (am_bs rfl kb_67_8 (am_bs rfl kb_67_9 (am_bz))))))))))
