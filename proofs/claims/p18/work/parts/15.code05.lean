/-- OverAndBackModel.minute(III)I -/
noncomputable def kr_152_0 : List (Option am_Op) := [some (am_ald0 0 1), some (am_ild 1 2), some (am_cv 153 1 12 5), none, none, some (am_br1 .eq 25 8), none, none]
noncomputable def kr_152_1 : List (Option am_Op) := [some (am_ald0 0 9), some (am_ild 2 10), some (am_cv 154 1 12 13), none, none, some (am_br1 .eq 25 16), none, none]
noncomputable def kr_152_2 : List (Option am_Op) := [some (am_ild 3 17), some (am_psh (.retAddr 0) 18), some (am_psh (.retAddr 2) 19), some (am_cs 133 3 22), none, none, some (am_br1 .ne 27 25), none]
noncomputable def kr_152_3 : List (Option am_Op) := [none, some (am_psh (.retAddr 4294967295) 26), some (am_iret), some (am_ald0 0 28), some (am_psh (.retAddr 0) 29), some (am_psh (.retAddr 4294967292) 31), none, some (am_cv 155 2 12 34)]
noncomputable def kr_152_4 : List (Option am_Op) := [none, none, some (am_psh (.retAddr 64) 36), none, some (am_ild 1 37), some (am_bin am_mul 38), some (am_ild 2 39), some (am_bin am_add 40)]
noncomputable def kr_152_5 : List (Option am_Op) := [some (am_ist 4 42), none, some (am_ild 3 43), some (am_br1 .ne 56 46), none, none, some (am_ald0 0 47), some (am_gf 12 32 50)]
noncomputable def kr_152_6 : List (Option am_Op) := [none, none, some (am_ild 4 52), none, some (am_ald 0 53), some (am_jmp 86), none, none]
noncomputable def kr_152_7 : List (Option am_Op) := [some (am_ild 3 57), some (am_psh (.retAddr 1) 58), some (am_br2 .ne 71 61), none, none, some (am_ald0 0 62), some (am_gf 12 33 65), none]
noncomputable def kr_152_8 : List (Option am_Op) := [none, some (am_ild 4 67), none, some (am_ald 0 68), some (am_jmp 86), none, none, some (am_ald0 0 72)]
noncomputable def kr_152_9 : List (Option am_Op) := [some (am_gf 12 34 75), none, none, some (am_ild 4 77), none, some (am_ald 2 78), some (am_br1 .eq 85 81), none]
noncomputable def kr_152_10 : List (Option am_Op) := [none, some (am_psh (.retAddr 1) 82), some (am_jmp 86), none, none, some (am_psh (.retAddr 0) 86), some (am_iret)]
noncomputable def cd_152 : am_Cd := [kr_152_0, kr_152_1, kr_152_2, kr_152_3, kr_152_4, kr_152_5, kr_152_6, kr_152_7, kr_152_8, kr_152_9, kr_152_10]
theorem dd_152_0 : decode prog_14_method_36_code 0 = .ok (.aload_n 0, 1) := by decide +kernel
theorem dd_152_1 : decode prog_14_method_36_code 1 = .ok (.iload_n 1, 1) := by decide +kernel
theorem dd_152_2 : decode prog_14_method_36_code 2 = .ok (.invokevirtual 240, 3) := by decide +kernel
theorem dd_152_5 : decode prog_14_method_36_code 5 = .ok (.ifCond .eq 20, 3) := by decide +kernel
theorem dd_152_8 : decode prog_14_method_36_code 8 = .ok (.aload_n 0, 1) := by decide +kernel
theorem dd_152_9 : decode prog_14_method_36_code 9 = .ok (.iload_n 2, 1) := by decide +kernel
theorem dd_152_10 : decode prog_14_method_36_code 10 = .ok (.invokevirtual 243, 3) := by decide +kernel
theorem dd_152_13 : decode prog_14_method_36_code 13 = .ok (.ifCond .eq 12, 3) := by decide +kernel
theorem dd_152_16 : decode prog_14_method_36_code 16 = .ok (.iload_n 3, 1) := by decide +kernel
theorem dd_152_17 : decode prog_14_method_36_code 17 = .ok (.iconst 0, 1) := by decide +kernel
theorem dd_152_18 : decode prog_14_method_36_code 18 = .ok (.iconst 2, 1) := by decide +kernel
theorem dd_152_19 : decode prog_14_method_36_code 19 = .ok (.invokestatic 116, 3) := by decide +kernel
theorem dd_152_22 : decode prog_14_method_36_code 22 = .ok (.ifCond .ne 5, 3) := by decide +kernel
theorem dd_152_25 : decode prog_14_method_36_code 25 = .ok (.iconst (-1), 1) := by decide +kernel
theorem dd_152_26 : decode prog_14_method_36_code 26 = .ok (.ireturn, 1) := by decide +kernel
theorem dd_152_27 : decode prog_14_method_36_code 27 = .ok (.aload_n 0, 1) := by decide +kernel
theorem dd_152_28 : decode prog_14_method_36_code 28 = .ok (.iconst 0, 1) := by decide +kernel
theorem dd_152_29 : decode prog_14_method_36_code 29 = .ok (.bipush (-4), 2) := by decide +kernel
theorem dd_152_31 : decode prog_14_method_36_code 31 = .ok (.invokevirtual 246, 3) := by decide +kernel
theorem dd_152_34 : decode prog_14_method_36_code 34 = .ok (.bipush 64, 2) := by decide +kernel
theorem dd_152_36 : decode prog_14_method_36_code 36 = .ok (.iload_n 1, 1) := by decide +kernel
theorem dd_152_37 : decode prog_14_method_36_code 37 = .ok (.imul, 1) := by decide +kernel
theorem dd_152_38 : decode prog_14_method_36_code 38 = .ok (.iload_n 2, 1) := by decide +kernel
theorem dd_152_39 : decode prog_14_method_36_code 39 = .ok (.iadd, 1) := by decide +kernel
theorem dd_152_40 : decode prog_14_method_36_code 40 = .ok (.istore 4, 2) := by decide +kernel
theorem dd_152_42 : decode prog_14_method_36_code 42 = .ok (.iload_n 3, 1) := by decide +kernel
theorem dd_152_43 : decode prog_14_method_36_code 43 = .ok (.ifCond .ne 13, 3) := by decide +kernel
theorem dd_152_46 : decode prog_14_method_36_code 46 = .ok (.aload_n 0, 1) := by decide +kernel
theorem dd_152_47 : decode prog_14_method_36_code 47 = .ok (.getfield 74, 3) := by decide +kernel
theorem dd_152_50 : decode prog_14_method_36_code 50 = .ok (.iload 4, 2) := by decide +kernel
theorem dd_152_52 : decode prog_14_method_36_code 52 = .ok (.iaload, 1) := by decide +kernel
theorem dd_152_53 : decode prog_14_method_36_code 53 = .ok (.goto 33, 3) := by decide +kernel
theorem dd_152_56 : decode prog_14_method_36_code 56 = .ok (.iload_n 3, 1) := by decide +kernel
theorem dd_152_57 : decode prog_14_method_36_code 57 = .ok (.iconst 1, 1) := by decide +kernel
theorem dd_152_58 : decode prog_14_method_36_code 58 = .ok (.if_icmp .ne 13, 3) := by decide +kernel
theorem dd_152_61 : decode prog_14_method_36_code 61 = .ok (.aload_n 0, 1) := by decide +kernel
theorem dd_152_62 : decode prog_14_method_36_code 62 = .ok (.getfield 77, 3) := by decide +kernel
theorem dd_152_65 : decode prog_14_method_36_code 65 = .ok (.iload 4, 2) := by decide +kernel
theorem dd_152_67 : decode prog_14_method_36_code 67 = .ok (.iaload, 1) := by decide +kernel
theorem dd_152_68 : decode prog_14_method_36_code 68 = .ok (.goto 18, 3) := by decide +kernel
theorem dd_152_71 : decode prog_14_method_36_code 71 = .ok (.aload_n 0, 1) := by decide +kernel
theorem dd_152_72 : decode prog_14_method_36_code 72 = .ok (.getfield 80, 3) := by decide +kernel
theorem dd_152_75 : decode prog_14_method_36_code 75 = .ok (.iload 4, 2) := by decide +kernel
theorem dd_152_77 : decode prog_14_method_36_code 77 = .ok (.baload, 1) := by decide +kernel
theorem dd_152_78 : decode prog_14_method_36_code 78 = .ok (.ifCond .eq 7, 3) := by decide +kernel
theorem dd_152_81 : decode prog_14_method_36_code 81 = .ok (.iconst 1, 1) := by decide +kernel
theorem dd_152_82 : decode prog_14_method_36_code 82 = .ok (.goto 4, 3) := by decide +kernel
theorem dd_152_85 : decode prog_14_method_36_code 85 = .ok (.iconst 0, 1) := by decide +kernel
theorem dd_152_86 : decode prog_14_method_36_code 86 = .ok (.ireturn, 1) := by decide +kernel
theorem kb_152_0 : am_row mi_152 0 kr_152_0 := am_rs rfl (ok_aload_n (k := 0) dd_152_0 rfl rfl) (am_rs rfl (ok_iload_n (k := 1) dd_152_1 rfl rfl) (am_rs rfl (ok_cv (M' := mi_153) dd_152_2 rfl rfl w_1184 w_1186 ps_153 ⟨lk_153.1, lk_153.2.1, lk_153.2.2, by decide, by decide⟩ rfl) (am_rn rfl (am_rn rfl (am_rs rfl (ok_ifc dd_152_5 (by decide) rfl) (am_rn rfl (am_rn rfl (am_rz))))))))
theorem kb_152_1 : am_row mi_152 8 kr_152_1 := am_rs rfl (ok_aload_n (k := 0) dd_152_8 rfl rfl) (am_rs rfl (ok_iload_n (k := 2) dd_152_9 rfl rfl) (am_rs rfl (ok_cv (M' := mi_154) dd_152_10 rfl rfl w_1188 w_1190 ps_154 ⟨lk_154.1, lk_154.2.1, lk_154.2.2, by decide, by decide⟩ rfl) (am_rn rfl (am_rn rfl (am_rs rfl (ok_ifc dd_152_13 (by decide) rfl) (am_rn rfl (am_rn rfl (am_rz))))))))
theorem kb_152_2 : am_row mi_152 16 kr_152_2 := am_rs rfl (ok_iload_n (k := 3) dd_152_16 rfl rfl) (am_rs rfl (ok_iconst dd_152_17 ic_0 rfl) (am_rs rfl (ok_iconst dd_152_18 ic_2 rfl) (am_rs rfl (ok_cs (M' := mi_133) dd_152_19 rfl rfl w_1106 w_1107 ⟨lk_133.1, lk_133.2.1, lk_133.2.2, by decide, by decide⟩) (am_rn rfl (am_rn rfl (am_rs rfl (ok_ifc dd_152_22 (by decide) rfl) (am_rn rfl (am_rz))))))))
theorem kb_152_3 : am_row mi_152 24 kr_152_3 := am_rn rfl (am_rs rfl (ok_iconst dd_152_25 ic_m1 rfl) (am_rs rfl (ok_iret dd_152_26 rfl) (am_rs rfl (ok_aload_n (k := 0) dd_152_27 rfl rfl) (am_rs rfl (ok_iconst dd_152_28 ic_0 rfl) (am_rs rfl (ok_bipush dd_152_29 bi_m4 rfl) (am_rn rfl (am_rs rfl (ok_cv (M' := mi_155) dd_152_31 rfl rfl w_1192 w_1194 ps_155 ⟨lk_155.1, lk_155.2.1, lk_155.2.2, by decide, by decide⟩ rfl) (am_rz))))))))
theorem kb_152_4 : am_row mi_152 32 kr_152_4 := am_rn rfl (am_rn rfl (am_rs rfl (ok_bipush dd_152_34 bi_64 rfl) (am_rn rfl (am_rs rfl (ok_iload_n (k := 1) dd_152_36 rfl rfl) (am_rs rfl (ok_imul dd_152_37 rfl) (am_rs rfl (ok_iload_n (k := 2) dd_152_38 rfl rfl) (am_rs rfl (ok_iadd dd_152_39 rfl) (am_rz))))))))
theorem kb_152_5 : am_row mi_152 40 kr_152_5 := am_rs rfl (ok_istore dd_152_40 rfl (by decide)) (am_rn rfl (am_rs rfl (ok_iload_n (k := 3) dd_152_42 rfl rfl) (am_rs rfl (ok_ifc dd_152_43 (by decide) rfl) (am_rn rfl (am_rn rfl (am_rs rfl (ok_aload_n (k := 0) dd_152_46 rfl rfl) (am_rs rfl (ok_gf dd_152_47 rfl am_ck12 (by decide) (Or.inl w_967)) (am_rz))))))))
theorem kb_152_6 : am_row mi_152 48 kr_152_6 := am_rn rfl (am_rn rfl (am_rs rfl (ok_iload dd_152_50 rfl) (am_rn rfl (am_rs rfl (ok_iald dd_152_52 rfl) (am_rs rfl (ok_goto dd_152_53 (by decide)) (am_rn rfl (am_rn rfl (am_rz))))))))
theorem kb_152_7 : am_row mi_152 56 kr_152_7 := am_rs rfl (ok_iload_n (k := 3) dd_152_56 rfl rfl) (am_rs rfl (ok_iconst dd_152_57 ic_1 rfl) (am_rs rfl (ok_icmp dd_152_58 (by decide) rfl) (am_rn rfl (am_rn rfl (am_rs rfl (ok_aload_n (k := 0) dd_152_61 rfl rfl) (am_rs rfl (ok_gf dd_152_62 rfl am_ck12 (by decide) (Or.inl w_968)) (am_rn rfl (am_rz))))))))
theorem kb_152_8 : am_row mi_152 64 kr_152_8 := am_rn rfl (am_rs rfl (ok_iload dd_152_65 rfl) (am_rn rfl (am_rs rfl (ok_iald dd_152_67 rfl) (am_rs rfl (ok_goto dd_152_68 (by decide)) (am_rn rfl (am_rn rfl (am_rs rfl (ok_aload_n (k := 0) dd_152_71 rfl rfl) (am_rz))))))))
theorem kb_152_9 : am_row mi_152 72 kr_152_9 := am_rs rfl (ok_gf dd_152_72 rfl am_ck12 (by decide) (Or.inl w_969)) (am_rn rfl (am_rn rfl (am_rs rfl (ok_iload dd_152_75 rfl) (am_rn rfl (am_rs rfl (ok_zald dd_152_77 rfl) (am_rs rfl (ok_ifc dd_152_78 (by decide) rfl) (am_rn rfl (am_rz))))))))
theorem kb_152_10 : am_row mi_152 80 kr_152_10 := am_rn rfl (am_rs rfl (ok_iconst dd_152_81 ic_1 rfl) (am_rs rfl (ok_goto dd_152_82 (by decide)) (am_rn rfl (am_rn rfl (am_rs rfl (ok_iconst dd_152_85 ic_0 rfl) (am_rs rfl (ok_iret dd_152_86 rfl) (am_rz)))))))
theorem ck_152 : am_rows mi_152 0 cd_152 := am_bs rfl kb_152_0 (am_bs rfl kb_152_1 (am_bs rfl kb_152_2 (am_bs rfl kb_152_3 (am_bs rfl kb_152_4 (am_bs rfl kb_152_5 (am_bs rfl kb_152_6 (am_bs rfl kb_152_7 (am_bs rfl kb_152_8 (am_bs rfl kb_152_9 (am_bs rfl kb_152_10 (am_bz)))))))))))
/-- OverAndBackModel.isStation(I)Z -/
noncomputable def kr_153_0 : List (Option am_Op) := [some (am_ild 1 1), some (am_psh (.retAddr 0) 2), some (am_ald0 0 3), some (am_gf 12 2 6), none, none, some (am_psh (.retAddr 1) 7), some (am_bin am_sub 8)]
noncomputable def kr_153_1 : List (Option am_Op) := [some (am_cs 133 3 11), none, none, some (am_zret)]
noncomputable def cd_153 : am_Cd := [kr_153_0, kr_153_1]
theorem dd_153_0 : decode prog_14_method_7_code 0 = .ok (.iload_n 1, 1) := by decide +kernel
theorem dd_153_1 : decode prog_14_method_7_code 1 = .ok (.iconst 0, 1) := by decide +kernel
theorem dd_153_2 : decode prog_14_method_7_code 2 = .ok (.aload_n 0, 1) := by decide +kernel
theorem dd_153_3 : decode prog_14_method_7_code 3 = .ok (.getfield 16, 3) := by decide +kernel
theorem dd_153_6 : decode prog_14_method_7_code 6 = .ok (.iconst 1, 1) := by decide +kernel
theorem dd_153_7 : decode prog_14_method_7_code 7 = .ok (.isub, 1) := by decide +kernel
theorem dd_153_8 : decode prog_14_method_7_code 8 = .ok (.invokestatic 116, 3) := by decide +kernel
theorem dd_153_11 : decode prog_14_method_7_code 11 = .ok (.ireturn, 1) := by decide +kernel
theorem kb_153_0 : am_row mi_153 0 kr_153_0 := am_rs rfl (ok_iload_n (k := 1) dd_153_0 rfl rfl) (am_rs rfl (ok_iconst dd_153_1 ic_0 rfl) (am_rs rfl (ok_aload_n (k := 0) dd_153_2 rfl rfl) (am_rs rfl (ok_gf dd_153_3 rfl am_ck12 (by decide) (Or.inl w_937)) (am_rn rfl (am_rn rfl (am_rs rfl (ok_iconst dd_153_6 ic_1 rfl) (am_rs rfl (ok_isub dd_153_7 rfl) (am_rz))))))))
theorem kb_153_1 : am_row mi_153 8 kr_153_1 := am_rs rfl (ok_cs (M' := mi_133) dd_153_8 rfl rfl w_1106 w_1107 ⟨lk_133.1, lk_133.2.1, lk_133.2.2, by decide, by decide⟩) (am_rn rfl (am_rn rfl (am_rs rfl (ok_zret dd_153_11 rfl) (am_rz))))
theorem ck_153 : am_rows mi_153 0 cd_153 := am_bs rfl kb_153_0 (am_bs rfl kb_153_1 (am_bz))
/-- OverAndBackModel.isMinute(I)Z -/
noncomputable def kr_154_0 : List (Option am_Op) := [some (am_ild 1 1), some (am_psh (.retAddr 0) 2), some (am_ald0 0 3), some (am_gf 12 0 6), none, none, some (am_psh (.retAddr 1) 7), some (am_bin am_sub 8)]
noncomputable def kr_154_1 : List (Option am_Op) := [some (am_cs 133 3 11), none, none, some (am_zret)]
noncomputable def cd_154 : am_Cd := [kr_154_0, kr_154_1]
theorem dd_154_0 : decode prog_14_method_8_code 0 = .ok (.iload_n 1, 1) := by decide +kernel
theorem dd_154_1 : decode prog_14_method_8_code 1 = .ok (.iconst 0, 1) := by decide +kernel
theorem dd_154_2 : decode prog_14_method_8_code 2 = .ok (.aload_n 0, 1) := by decide +kernel
theorem dd_154_3 : decode prog_14_method_8_code 3 = .ok (.getfield 7, 3) := by decide +kernel
theorem dd_154_6 : decode prog_14_method_8_code 6 = .ok (.iconst 1, 1) := by decide +kernel
theorem dd_154_7 : decode prog_14_method_8_code 7 = .ok (.isub, 1) := by decide +kernel
theorem dd_154_8 : decode prog_14_method_8_code 8 = .ok (.invokestatic 116, 3) := by decide +kernel
theorem dd_154_11 : decode prog_14_method_8_code 11 = .ok (.ireturn, 1) := by decide +kernel
theorem kb_154_0 : am_row mi_154 0 kr_154_0 := am_rs rfl (ok_iload_n (k := 1) dd_154_0 rfl rfl) (am_rs rfl (ok_iconst dd_154_1 ic_0 rfl) (am_rs rfl (ok_aload_n (k := 0) dd_154_2 rfl rfl) (am_rs rfl (ok_gf dd_154_3 rfl am_ck12 (by decide) (Or.inl w_935)) (am_rn rfl (am_rn rfl (am_rs rfl (ok_iconst dd_154_6 ic_1 rfl) (am_rs rfl (ok_isub dd_154_7 rfl) (am_rz))))))))
theorem kb_154_1 : am_row mi_154 8 kr_154_1 := am_rs rfl (ok_cs (M' := mi_133) dd_154_8 rfl rfl w_1106 w_1107 ⟨lk_133.1, lk_133.2.1, lk_133.2.2, by decide, by decide⟩) (am_rn rfl (am_rn rfl (am_rs rfl (ok_zret dd_154_11 rfl) (am_rz))))
theorem ck_154 : am_rows mi_154 0 cd_154 := am_bs rfl kb_154_0 (am_bs rfl kb_154_1 (am_bz))
/-- OverAndBackModel.layCase(II)V -/
noncomputable def kr_155_0 : List (Option am_Op) := [some (am_ald0 0 1), some (am_ild 2 2), some (am_cv 156 1 12 5), none, none, some (am_psh (.retAddr 0) 6), some (am_ist 3 7), some (am_ild 3 8)]
noncomputable def kr_155_1 : List (Option am_Op) := [some (am_ald0 0 9), some (am_gf 12 6 12), none, none, some (am_br2 .ge 32 15), none, none, some (am_ald0 0 16)]
noncomputable def kr_155_2 : List (Option am_Op) := [some (am_ald0 0 17), some (am_gf 12 7 20), none, none, some (am_psh (.retAddr 3) 21), some (am_ild 3 22), some (am_bin am_mul 23), some (am_cv 157 2 12 26)]
noncomputable def kr_155_3 : List (Option am_Op) := [none, none, some (am_inc 3 1 29), none, none, some (am_jmp 7), none, none]
noncomputable def kr_155_4 : List (Option am_Op) := [some (am_psh (.retAddr 0) 33), some (am_ist 3 34), some (am_ild 3 35), some (am_ald0 0 36), some (am_gf 12 8 39), none, none, some (am_br2 .ge 67 42)]
noncomputable def kr_155_5 : List (Option am_Op) := [none, none, some (am_ild 1 43), some (am_ild 3 44), some (am_cs 158 2 47), none, none, some (am_br1 .eq 61 50)]
noncomputable def kr_155_6 : List (Option am_Op) := [none, none, some (am_ald0 0 51), some (am_ald0 0 52), some (am_gf 12 9 55), none, none, some (am_psh (.retAddr 4) 56)]
noncomputable def kr_155_7 : List (Option am_Op) := [some (am_ild 3 57), some (am_bin am_mul 58), some (am_cv 157 2 12 61), none, none, some (am_inc 3 1 64), none, none]
noncomputable def kr_155_8 : List (Option am_Op) := [some (am_jmp 34), none, none, some (am_ald0 0 68), some (am_cv 159 0 12 71), none, none, some (am_vret)]
noncomputable def cd_155 : am_Cd := [kr_155_0, kr_155_1, kr_155_2, kr_155_3, kr_155_4, kr_155_5, kr_155_6, kr_155_7, kr_155_8]
theorem dd_155_0 : decode prog_14_method_33_code 0 = .ok (.aload_n 0, 1) := by decide +kernel
theorem dd_155_1 : decode prog_14_method_33_code 1 = .ok (.iload_n 2, 1) := by decide +kernel
theorem dd_155_2 : decode prog_14_method_33_code 2 = .ok (.invokevirtual 216, 3) := by decide +kernel
theorem dd_155_5 : decode prog_14_method_33_code 5 = .ok (.iconst 0, 1) := by decide +kernel
theorem dd_155_6 : decode prog_14_method_33_code 6 = .ok (.istore_n 3, 1) := by decide +kernel
theorem dd_155_7 : decode prog_14_method_33_code 7 = .ok (.iload_n 3, 1) := by decide +kernel
theorem dd_155_8 : decode prog_14_method_33_code 8 = .ok (.aload_n 0, 1) := by decide +kernel
theorem dd_155_9 : decode prog_14_method_33_code 9 = .ok (.getfield 29, 3) := by decide +kernel
theorem dd_155_12 : decode prog_14_method_33_code 12 = .ok (.if_icmp .ge 20, 3) := by decide +kernel
theorem dd_155_15 : decode prog_14_method_33_code 15 = .ok (.aload_n 0, 1) := by decide +kernel
theorem dd_155_16 : decode prog_14_method_33_code 16 = .ok (.aload_n 0, 1) := by decide +kernel
theorem dd_155_17 : decode prog_14_method_33_code 17 = .ok (.getfield 32, 3) := by decide +kernel
theorem dd_155_20 : decode prog_14_method_33_code 20 = .ok (.iconst 3, 1) := by decide +kernel
theorem dd_155_21 : decode prog_14_method_33_code 21 = .ok (.iload_n 3, 1) := by decide +kernel
theorem dd_155_22 : decode prog_14_method_33_code 22 = .ok (.imul, 1) := by decide +kernel
theorem dd_155_23 : decode prog_14_method_33_code 23 = .ok (.invokevirtual 220, 3) := by decide +kernel
theorem dd_155_26 : decode prog_14_method_33_code 26 = .ok (.iinc 3 1, 3) := by decide +kernel
theorem dd_155_29 : decode prog_14_method_33_code 29 = .ok (.goto (-22), 3) := by decide +kernel
theorem dd_155_32 : decode prog_14_method_33_code 32 = .ok (.iconst 0, 1) := by decide +kernel
theorem dd_155_33 : decode prog_14_method_33_code 33 = .ok (.istore_n 3, 1) := by decide +kernel
theorem dd_155_34 : decode prog_14_method_33_code 34 = .ok (.iload_n 3, 1) := by decide +kernel
theorem dd_155_35 : decode prog_14_method_33_code 35 = .ok (.aload_n 0, 1) := by decide +kernel
theorem dd_155_36 : decode prog_14_method_33_code 36 = .ok (.getfield 201, 3) := by decide +kernel
theorem dd_155_39 : decode prog_14_method_33_code 39 = .ok (.if_icmp .ge 28, 3) := by decide +kernel
theorem dd_155_42 : decode prog_14_method_33_code 42 = .ok (.iload_n 1, 1) := by decide +kernel
theorem dd_155_43 : decode prog_14_method_33_code 43 = .ok (.iload_n 3, 1) := by decide +kernel
theorem dd_155_44 : decode prog_14_method_33_code 44 = .ok (.invokestatic 223, 3) := by decide +kernel
theorem dd_155_47 : decode prog_14_method_33_code 47 = .ok (.ifCond .eq 14, 3) := by decide +kernel
theorem dd_155_50 : decode prog_14_method_33_code 50 = .ok (.aload_n 0, 1) := by decide +kernel
theorem dd_155_51 : decode prog_14_method_33_code 51 = .ok (.aload_n 0, 1) := by decide +kernel
theorem dd_155_52 : decode prog_14_method_33_code 52 = .ok (.getfield 35, 3) := by decide +kernel
theorem dd_155_55 : decode prog_14_method_33_code 55 = .ok (.iconst 4, 1) := by decide +kernel
theorem dd_155_56 : decode prog_14_method_33_code 56 = .ok (.iload_n 3, 1) := by decide +kernel
theorem dd_155_57 : decode prog_14_method_33_code 57 = .ok (.imul, 1) := by decide +kernel
theorem dd_155_58 : decode prog_14_method_33_code 58 = .ok (.invokevirtual 220, 3) := by decide +kernel
theorem dd_155_61 : decode prog_14_method_33_code 61 = .ok (.iinc 3 1, 3) := by decide +kernel
theorem dd_155_64 : decode prog_14_method_33_code 64 = .ok (.goto (-30), 3) := by decide +kernel
theorem dd_155_67 : decode prog_14_method_33_code 67 = .ok (.aload_n 0, 1) := by decide +kernel
theorem dd_155_68 : decode prog_14_method_33_code 68 = .ok (.invokevirtual 227, 3) := by decide +kernel
theorem dd_155_71 : decode prog_14_method_33_code 71 = .ok (.return_, 1) := by decide +kernel
theorem kb_155_0 : am_row mi_155 0 kr_155_0 := am_rs rfl (ok_aload_n (k := 0) dd_155_0 rfl rfl) (am_rs rfl (ok_iload_n (k := 2) dd_155_1 rfl rfl) (am_rs rfl (ok_cv (M' := mi_156) dd_155_2 rfl rfl w_1196 w_1198 ps_156 ⟨lk_156.1, lk_156.2.1, lk_156.2.2, by decide, by decide⟩ rfl) (am_rn rfl (am_rn rfl (am_rs rfl (ok_iconst dd_155_5 ic_0 rfl) (am_rs rfl (ok_istore_n (k := 3) dd_155_6 rfl rfl (by decide)) (am_rs rfl (ok_iload_n (k := 3) dd_155_7 rfl rfl) (am_rz))))))))
theorem kb_155_1 : am_row mi_155 8 kr_155_1 := am_rs rfl (ok_aload_n (k := 0) dd_155_8 rfl rfl) (am_rs rfl (ok_gf dd_155_9 rfl am_ck12 (by decide) (Or.inl w_941)) (am_rn rfl (am_rn rfl (am_rs rfl (ok_icmp dd_155_12 (by decide) rfl) (am_rn rfl (am_rn rfl (am_rs rfl (ok_aload_n (k := 0) dd_155_15 rfl rfl) (am_rz))))))))
theorem kb_155_2 : am_row mi_155 16 kr_155_2 := am_rs rfl (ok_aload_n (k := 0) dd_155_16 rfl rfl) (am_rs rfl (ok_gf dd_155_17 rfl am_ck12 (by decide) (Or.inl w_942)) (am_rn rfl (am_rn rfl (am_rs rfl (ok_iconst dd_155_20 ic_3 rfl) (am_rs rfl (ok_iload_n (k := 3) dd_155_21 rfl rfl) (am_rs rfl (ok_imul dd_155_22 rfl) (am_rs rfl (ok_cv (M' := mi_157) dd_155_23 rfl rfl w_1200 w_1202 ps_157 ⟨lk_157.1, lk_157.2.1, lk_157.2.2, by decide, by decide⟩ rfl) (am_rz))))))))
theorem kb_155_3 : am_row mi_155 24 kr_155_3 := am_rn rfl (am_rn rfl (am_rs rfl (ok_iinc dd_155_26 ic_1 rfl (by decide)) (am_rn rfl (am_rn rfl (am_rs rfl (ok_goto dd_155_29 (by decide)) (am_rn rfl (am_rn rfl (am_rz))))))))
theorem kb_155_4 : am_row mi_155 32 kr_155_4 := am_rs rfl (ok_iconst dd_155_32 ic_0 rfl) (am_rs rfl (ok_istore_n (k := 3) dd_155_33 rfl rfl (by decide)) (am_rs rfl (ok_iload_n (k := 3) dd_155_34 rfl rfl) (am_rs rfl (ok_aload_n (k := 0) dd_155_35 rfl rfl) (am_rs rfl (ok_gf dd_155_36 rfl am_ck12 (by decide) (Or.inl w_943)) (am_rn rfl (am_rn rfl (am_rs rfl (ok_icmp dd_155_39 (by decide) rfl) (am_rz))))))))
theorem kb_155_5 : am_row mi_155 40 kr_155_5 := am_rn rfl (am_rn rfl (am_rs rfl (ok_iload_n (k := 1) dd_155_42 rfl rfl) (am_rs rfl (ok_iload_n (k := 3) dd_155_43 rfl rfl) (am_rs rfl (ok_cs (M' := mi_158) dd_155_44 rfl rfl w_1204 w_1205 ⟨lk_158.1, lk_158.2.1, lk_158.2.2, by decide, by decide⟩) (am_rn rfl (am_rn rfl (am_rs rfl (ok_ifc dd_155_47 (by decide) rfl) (am_rz))))))))
theorem kb_155_6 : am_row mi_155 48 kr_155_6 := am_rn rfl (am_rn rfl (am_rs rfl (ok_aload_n (k := 0) dd_155_50 rfl rfl) (am_rs rfl (ok_aload_n (k := 0) dd_155_51 rfl rfl) (am_rs rfl (ok_gf dd_155_52 rfl am_ck12 (by decide) (Or.inl w_944)) (am_rn rfl (am_rn rfl (am_rs rfl (ok_iconst dd_155_55 ic_4 rfl) (am_rz))))))))
theorem kb_155_7 : am_row mi_155 56 kr_155_7 := am_rs rfl (ok_iload_n (k := 3) dd_155_56 rfl rfl) (am_rs rfl (ok_imul dd_155_57 rfl) (am_rs rfl (ok_cv (M' := mi_157) dd_155_58 rfl rfl w_1200 w_1202 ps_157 ⟨lk_157.1, lk_157.2.1, lk_157.2.2, by decide, by decide⟩ rfl) (am_rn rfl (am_rn rfl (am_rs rfl (ok_iinc dd_155_61 ic_1 rfl (by decide)) (am_rn rfl (am_rn rfl (am_rz))))))))
theorem kb_155_8 : am_row mi_155 64 kr_155_8 := am_rs rfl (ok_goto dd_155_64 (by decide)) (am_rn rfl (am_rn rfl (am_rs rfl (ok_aload_n (k := 0) dd_155_67 rfl rfl) (am_rs rfl (ok_cv (M' := mi_159) dd_155_68 rfl rfl w_1207 w_1209 ps_159 ⟨lk_159.1, lk_159.2.1, lk_159.2.2, by decide, by decide⟩ rfl) (am_rn rfl (am_rn rfl (am_rs rfl (ok_vret dd_155_71 rfl) (am_rz))))))))
theorem ck_155 : am_rows mi_155 0 cd_155 := am_bs rfl kb_155_0 (am_bs rfl kb_155_1 (am_bs rfl kb_155_2 (am_bs rfl kb_155_3 (am_bs rfl kb_155_4 (am_bs rfl kb_155_5 (am_bs rfl kb_155_6 (am_bs rfl kb_155_7 (am_bs rfl kb_155_8 (am_bz)))))))))
/-- OverAndBackModel.laySpots(I)V -/
noncomputable def kr_156_0 : List (Option am_Op) := [some (am_psh (.retAddr 0) 1), some (am_ist 2 2), some (am_ild 2 3), some (am_psh (.retAddr 256) 6), none, none, some (am_br2 .ge 45 9), none]
noncomputable def kr_156_1 : List (Option am_Op) := [none, some (am_ald0 0 10), some (am_gf 12 32 13), none, none, some (am_ild 2 14), some (am_ald0 0 15), some (am_gf 12 3 18)]
noncomputable def kr_156_2 : List (Option am_Op) := [none, none, some (am_ild 2 19), some (am_psh (.retAddr 64) 21), none, some (am_bin2 Nat.div 22), some (am_ald 0 23), some (am_ast 0 (fun v => v) 24)]
noncomputable def kr_156_3 : List (Option am_Op) := [some (am_ald0 0 25), some (am_gf 12 33 28), none, none, some (am_ild 2 29), some (am_psh (.retAddr 4294967292) 31), none, some (am_ast 0 (fun v => v) 32)]
noncomputable def kr_156_4 : List (Option am_Op) := [some (am_ald0 0 33), some (am_gf 12 34 36), none, none, some (am_ild 2 37), some (am_psh (.retAddr 0) 38), some (am_ast 2 (fun v => v % 2) 39), some (am_inc 2 1 42)]
noncomputable def kr_156_5 : List (Option am_Op) := [none, none, some (am_jmp 2), none, none, some (am_psh (.retAddr 0) 46), some (am_ist 2 47), some (am_ild 2 48)]
noncomputable def kr_156_6 : List (Option am_Op) := [some (am_ald0 0 49), some (am_gf 12 4 52), none, none, some (am_br2 .ge 167 55), none, none, some (am_psh (.retAddr 5) 56)]
noncomputable def kr_156_7 : List (Option am_Op) := [some (am_ild 2 57), some (am_bin am_mul 58), some (am_ist 3 59), some (am_ald0 0 60), some (am_gf 12 5 63), none, none, some (am_ild 3 64)]
noncomputable def kr_156_8 : List (Option am_Op) := [some (am_psh (.retAddr 1) 65), some (am_bin am_add 66), some (am_ald 0 67), some (am_ist 4 69), none, some (am_ild 4 71), none, some (am_ald0 0 72)]
noncomputable def kr_156_9 : List (Option am_Op) := [some (am_gf 12 5 75), none, none, some (am_ild 3 76), some (am_psh (.retAddr 2) 77), some (am_bin am_add 78), some (am_ald 0 79), some (am_br2 .gt 161 82)]
noncomputable def kr_156_10 : List (Option am_Op) := [none, none, some (am_ild 2 83), some (am_ild 1 84), some (am_br2 .eq 161 87), none, none, some (am_ald0 0 88)]
noncomputable def kr_156_11 : List (Option am_Op) := [some (am_gf 12 32 91), none, none, some (am_psh (.retAddr 64) 93), none, some (am_ald0 0 94), some (am_gf 12 5 97), none]
noncomputable def kr_156_12 : List (Option am_Op) := [none, some (am_ild 3 98), some (am_ald 0 99), some (am_bin am_mul 100), some (am_ild 4 102), none, some (am_bin am_add 103), some (am_ald0 0 104)]
noncomputable def kr_156_13 : List (Option am_Op) := [some (am_gf 12 5 107), none, none, some (am_ild 3 108), some (am_psh (.retAddr 3) 109), some (am_bin am_add 110), some (am_ald 0 111), some (am_ast 0 (fun v => v) 112)]
noncomputable def kr_156_14 : List (Option am_Op) := [some (am_ald0 0 113), some (am_gf 12 33 116), none, none, some (am_psh (.retAddr 64) 118), none, some (am_ald0 0 119), some (am_gf 12 5 122)]
noncomputable def kr_156_15 : List (Option am_Op) := [none, none, some (am_ild 3 123), some (am_ald 0 124), some (am_bin am_mul 125), some (am_ild 4 127), none, some (am_bin am_add 128)]
noncomputable def kr_156_16 : List (Option am_Op) := [some (am_ald0 0 129), some (am_gf 12 5 132), none, none, some (am_ild 3 133), some (am_psh (.retAddr 4) 134), some (am_bin am_add 135), some (am_ald 0 136)]
noncomputable def kr_156_17 : List (Option am_Op) := [some (am_psh (.retAddr 8) 138), none, some (am_br2 .ne 146 141), none, none, some (am_psh (.retAddr 4294967292) 143), none, some (am_jmp 154)]
noncomputable def kr_156_18 : List (Option am_Op) := [none, none, some (am_ald0 0 147), some (am_gf 12 5 150), none, none, some (am_ild 3 151), some (am_psh (.retAddr 4) 152)]
noncomputable def kr_156_19 : List (Option am_Op) := [some (am_bin am_add 153), some (am_ald 0 154), some (am_ast 0 (fun v => v) 155), some (am_inc 4 1 158), none, none, some (am_jmp 69), none]
noncomputable def kr_156_20 : List (Option am_Op) := [none, some (am_inc 2 1 164), none, none, some (am_jmp 47), none, none, some (am_vret)]
noncomputable def cd_156 : am_Cd := [kr_156_0, kr_156_1, kr_156_2, kr_156_3, kr_156_4, kr_156_5, kr_156_6, kr_156_7, kr_156_8, kr_156_9, kr_156_10, kr_156_11, kr_156_12, kr_156_13, kr_156_14, kr_156_15, kr_156_16, kr_156_17, kr_156_18, kr_156_19, kr_156_20]
theorem dd_156_0 : decode prog_14_method_31_code 0 = .ok (.iconst 0, 1) := by decide +kernel
theorem dd_156_1 : decode prog_14_method_31_code 1 = .ok (.istore_n 2, 1) := by decide +kernel
theorem dd_156_2 : decode prog_14_method_31_code 2 = .ok (.iload_n 2, 1) := by decide +kernel
theorem dd_156_3 : decode prog_14_method_31_code 3 = .ok (.sipush 256, 3) := by decide +kernel
theorem dd_156_6 : decode prog_14_method_31_code 6 = .ok (.if_icmp .ge 39, 3) := by decide +kernel
theorem dd_156_9 : decode prog_14_method_31_code 9 = .ok (.aload_n 0, 1) := by decide +kernel
theorem dd_156_10 : decode prog_14_method_31_code 10 = .ok (.getfield 74, 3) := by decide +kernel
theorem dd_156_13 : decode prog_14_method_31_code 13 = .ok (.iload_n 2, 1) := by decide +kernel
theorem dd_156_14 : decode prog_14_method_31_code 14 = .ok (.aload_n 0, 1) := by decide +kernel
theorem dd_156_15 : decode prog_14_method_31_code 15 = .ok (.getfield 19, 3) := by decide +kernel
theorem dd_156_18 : decode prog_14_method_31_code 18 = .ok (.iload_n 2, 1) := by decide +kernel
theorem dd_156_19 : decode prog_14_method_31_code 19 = .ok (.bipush 64, 2) := by decide +kernel
theorem dd_156_21 : decode prog_14_method_31_code 21 = .ok (.idiv, 1) := by decide +kernel
theorem dd_156_22 : decode prog_14_method_31_code 22 = .ok (.iaload, 1) := by decide +kernel
theorem dd_156_23 : decode prog_14_method_31_code 23 = .ok (.iastore, 1) := by decide +kernel
theorem dd_156_24 : decode prog_14_method_31_code 24 = .ok (.aload_n 0, 1) := by decide +kernel
theorem dd_156_25 : decode prog_14_method_31_code 25 = .ok (.getfield 77, 3) := by decide +kernel
theorem dd_156_28 : decode prog_14_method_31_code 28 = .ok (.iload_n 2, 1) := by decide +kernel
theorem dd_156_29 : decode prog_14_method_31_code 29 = .ok (.bipush (-4), 2) := by decide +kernel
theorem dd_156_31 : decode prog_14_method_31_code 31 = .ok (.iastore, 1) := by decide +kernel
theorem dd_156_32 : decode prog_14_method_31_code 32 = .ok (.aload_n 0, 1) := by decide +kernel
theorem dd_156_33 : decode prog_14_method_31_code 33 = .ok (.getfield 80, 3) := by decide +kernel
theorem dd_156_36 : decode prog_14_method_31_code 36 = .ok (.iload_n 2, 1) := by decide +kernel
theorem dd_156_37 : decode prog_14_method_31_code 37 = .ok (.iconst 0, 1) := by decide +kernel
theorem dd_156_38 : decode prog_14_method_31_code 38 = .ok (.bastore, 1) := by decide +kernel
theorem dd_156_39 : decode prog_14_method_31_code 39 = .ok (.iinc 2 1, 3) := by decide +kernel
theorem dd_156_42 : decode prog_14_method_31_code 42 = .ok (.goto (-40), 3) := by decide +kernel
theorem dd_156_45 : decode prog_14_method_31_code 45 = .ok (.iconst 0, 1) := by decide +kernel
theorem dd_156_46 : decode prog_14_method_31_code 46 = .ok (.istore_n 2, 1) := by decide +kernel
theorem dd_156_47 : decode prog_14_method_31_code 47 = .ok (.iload_n 2, 1) := by decide +kernel
theorem dd_156_48 : decode prog_14_method_31_code 48 = .ok (.aload_n 0, 1) := by decide +kernel
theorem dd_156_49 : decode prog_14_method_31_code 49 = .ok (.getfield 23, 3) := by decide +kernel
theorem dd_156_52 : decode prog_14_method_31_code 52 = .ok (.if_icmp .ge 115, 3) := by decide +kernel
theorem dd_156_55 : decode prog_14_method_31_code 55 = .ok (.iconst 5, 1) := by decide +kernel
theorem dd_156_56 : decode prog_14_method_31_code 56 = .ok (.iload_n 2, 1) := by decide +kernel
theorem dd_156_57 : decode prog_14_method_31_code 57 = .ok (.imul, 1) := by decide +kernel
theorem dd_156_58 : decode prog_14_method_31_code 58 = .ok (.istore_n 3, 1) := by decide +kernel
theorem dd_156_59 : decode prog_14_method_31_code 59 = .ok (.aload_n 0, 1) := by decide +kernel
theorem dd_156_60 : decode prog_14_method_31_code 60 = .ok (.getfield 26, 3) := by decide +kernel
theorem dd_156_63 : decode prog_14_method_31_code 63 = .ok (.iload_n 3, 1) := by decide +kernel
theorem dd_156_64 : decode prog_14_method_31_code 64 = .ok (.iconst 1, 1) := by decide +kernel
theorem dd_156_65 : decode prog_14_method_31_code 65 = .ok (.iadd, 1) := by decide +kernel
theorem dd_156_66 : decode prog_14_method_31_code 66 = .ok (.iaload, 1) := by decide +kernel
theorem dd_156_67 : decode prog_14_method_31_code 67 = .ok (.istore 4, 2) := by decide +kernel
theorem dd_156_69 : decode prog_14_method_31_code 69 = .ok (.iload 4, 2) := by decide +kernel
theorem dd_156_71 : decode prog_14_method_31_code 71 = .ok (.aload_n 0, 1) := by decide +kernel
theorem dd_156_72 : decode prog_14_method_31_code 72 = .ok (.getfield 26, 3) := by decide +kernel
theorem dd_156_75 : decode prog_14_method_31_code 75 = .ok (.iload_n 3, 1) := by decide +kernel
theorem dd_156_76 : decode prog_14_method_31_code 76 = .ok (.iconst 2, 1) := by decide +kernel
theorem dd_156_77 : decode prog_14_method_31_code 77 = .ok (.iadd, 1) := by decide +kernel
theorem dd_156_78 : decode prog_14_method_31_code 78 = .ok (.iaload, 1) := by decide +kernel
theorem dd_156_79 : decode prog_14_method_31_code 79 = .ok (.if_icmp .gt 82, 3) := by decide +kernel
theorem dd_156_82 : decode prog_14_method_31_code 82 = .ok (.iload_n 2, 1) := by decide +kernel
theorem dd_156_83 : decode prog_14_method_31_code 83 = .ok (.iload_n 1, 1) := by decide +kernel
theorem dd_156_84 : decode prog_14_method_31_code 84 = .ok (.if_icmp .eq 77, 3) := by decide +kernel
theorem dd_156_87 : decode prog_14_method_31_code 87 = .ok (.aload_n 0, 1) := by decide +kernel
theorem dd_156_88 : decode prog_14_method_31_code 88 = .ok (.getfield 74, 3) := by decide +kernel
theorem dd_156_91 : decode prog_14_method_31_code 91 = .ok (.bipush 64, 2) := by decide +kernel
theorem dd_156_93 : decode prog_14_method_31_code 93 = .ok (.aload_n 0, 1) := by decide +kernel
theorem dd_156_94 : decode prog_14_method_31_code 94 = .ok (.getfield 26, 3) := by decide +kernel
theorem dd_156_97 : decode prog_14_method_31_code 97 = .ok (.iload_n 3, 1) := by decide +kernel
theorem dd_156_98 : decode prog_14_method_31_code 98 = .ok (.iaload, 1) := by decide +kernel
theorem dd_156_99 : decode prog_14_method_31_code 99 = .ok (.imul, 1) := by decide +kernel
theorem dd_156_100 : decode prog_14_method_31_code 100 = .ok (.iload 4, 2) := by decide +kernel
theorem dd_156_102 : decode prog_14_method_31_code 102 = .ok (.iadd, 1) := by decide +kernel
theorem dd_156_103 : decode prog_14_method_31_code 103 = .ok (.aload_n 0, 1) := by decide +kernel
theorem dd_156_104 : decode prog_14_method_31_code 104 = .ok (.getfield 26, 3) := by decide +kernel
theorem dd_156_107 : decode prog_14_method_31_code 107 = .ok (.iload_n 3, 1) := by decide +kernel
theorem dd_156_108 : decode prog_14_method_31_code 108 = .ok (.iconst 3, 1) := by decide +kernel
theorem dd_156_109 : decode prog_14_method_31_code 109 = .ok (.iadd, 1) := by decide +kernel
theorem dd_156_110 : decode prog_14_method_31_code 110 = .ok (.iaload, 1) := by decide +kernel
theorem dd_156_111 : decode prog_14_method_31_code 111 = .ok (.iastore, 1) := by decide +kernel
theorem dd_156_112 : decode prog_14_method_31_code 112 = .ok (.aload_n 0, 1) := by decide +kernel
theorem dd_156_113 : decode prog_14_method_31_code 113 = .ok (.getfield 77, 3) := by decide +kernel
theorem dd_156_116 : decode prog_14_method_31_code 116 = .ok (.bipush 64, 2) := by decide +kernel
theorem dd_156_118 : decode prog_14_method_31_code 118 = .ok (.aload_n 0, 1) := by decide +kernel
theorem dd_156_119 : decode prog_14_method_31_code 119 = .ok (.getfield 26, 3) := by decide +kernel
theorem dd_156_122 : decode prog_14_method_31_code 122 = .ok (.iload_n 3, 1) := by decide +kernel
theorem dd_156_123 : decode prog_14_method_31_code 123 = .ok (.iaload, 1) := by decide +kernel
theorem dd_156_124 : decode prog_14_method_31_code 124 = .ok (.imul, 1) := by decide +kernel
theorem dd_156_125 : decode prog_14_method_31_code 125 = .ok (.iload 4, 2) := by decide +kernel
theorem dd_156_127 : decode prog_14_method_31_code 127 = .ok (.iadd, 1) := by decide +kernel
theorem dd_156_128 : decode prog_14_method_31_code 128 = .ok (.aload_n 0, 1) := by decide +kernel
theorem dd_156_129 : decode prog_14_method_31_code 129 = .ok (.getfield 26, 3) := by decide +kernel
theorem dd_156_132 : decode prog_14_method_31_code 132 = .ok (.iload_n 3, 1) := by decide +kernel
theorem dd_156_133 : decode prog_14_method_31_code 133 = .ok (.iconst 4, 1) := by decide +kernel
theorem dd_156_134 : decode prog_14_method_31_code 134 = .ok (.iadd, 1) := by decide +kernel
theorem dd_156_135 : decode prog_14_method_31_code 135 = .ok (.iaload, 1) := by decide +kernel
theorem dd_156_136 : decode prog_14_method_31_code 136 = .ok (.bipush 8, 2) := by decide +kernel
theorem dd_156_138 : decode prog_14_method_31_code 138 = .ok (.if_icmp .ne 8, 3) := by decide +kernel
theorem dd_156_141 : decode prog_14_method_31_code 141 = .ok (.bipush (-4), 2) := by decide +kernel
theorem dd_156_143 : decode prog_14_method_31_code 143 = .ok (.goto 11, 3) := by decide +kernel
theorem dd_156_146 : decode prog_14_method_31_code 146 = .ok (.aload_n 0, 1) := by decide +kernel
theorem dd_156_147 : decode prog_14_method_31_code 147 = .ok (.getfield 26, 3) := by decide +kernel
theorem dd_156_150 : decode prog_14_method_31_code 150 = .ok (.iload_n 3, 1) := by decide +kernel
theorem dd_156_151 : decode prog_14_method_31_code 151 = .ok (.iconst 4, 1) := by decide +kernel
theorem dd_156_152 : decode prog_14_method_31_code 152 = .ok (.iadd, 1) := by decide +kernel
theorem dd_156_153 : decode prog_14_method_31_code 153 = .ok (.iaload, 1) := by decide +kernel
theorem dd_156_154 : decode prog_14_method_31_code 154 = .ok (.iastore, 1) := by decide +kernel
theorem dd_156_155 : decode prog_14_method_31_code 155 = .ok (.iinc 4 1, 3) := by decide +kernel
theorem dd_156_158 : decode prog_14_method_31_code 158 = .ok (.goto (-89), 3) := by decide +kernel
theorem dd_156_161 : decode prog_14_method_31_code 161 = .ok (.iinc 2 1, 3) := by decide +kernel
theorem dd_156_164 : decode prog_14_method_31_code 164 = .ok (.goto (-117), 3) := by decide +kernel
theorem dd_156_167 : decode prog_14_method_31_code 167 = .ok (.return_, 1) := by decide +kernel
theorem kb_156_0 : am_row mi_156 0 kr_156_0 := am_rs rfl (ok_iconst dd_156_0 ic_0 rfl) (am_rs rfl (ok_istore_n (k := 2) dd_156_1 rfl rfl (by decide)) (am_rs rfl (ok_iload_n (k := 2) dd_156_2 rfl rfl) (am_rs rfl (ok_sipush dd_156_3 si_256 rfl) (am_rn rfl (am_rn rfl (am_rs rfl (ok_icmp dd_156_6 (by decide) rfl) (am_rn rfl (am_rz))))))))
theorem kb_156_1 : am_row mi_156 8 kr_156_1 := am_rn rfl (am_rs rfl (ok_aload_n (k := 0) dd_156_9 rfl rfl) (am_rs rfl (ok_gf dd_156_10 rfl am_ck12 (by decide) (Or.inl w_967)) (am_rn rfl (am_rn rfl (am_rs rfl (ok_iload_n (k := 2) dd_156_13 rfl rfl) (am_rs rfl (ok_aload_n (k := 0) dd_156_14 rfl rfl) (am_rs rfl (ok_gf dd_156_15 rfl am_ck12 (by decide) (Or.inl w_938)) (am_rz))))))))
theorem kb_156_2 : am_row mi_156 16 kr_156_2 := am_rn rfl (am_rn rfl (am_rs rfl (ok_iload_n (k := 2) dd_156_18 rfl rfl) (am_rs rfl (ok_bipush dd_156_19 bi_64 rfl) (am_rn rfl (am_rs rfl (ok_idiv dd_156_21 rfl) (am_rs rfl (ok_iald dd_156_22 rfl) (am_rs rfl (ok_iast dd_156_23 rfl) (am_rz))))))))
theorem kb_156_3 : am_row mi_156 24 kr_156_3 := am_rs rfl (ok_aload_n (k := 0) dd_156_24 rfl rfl) (am_rs rfl (ok_gf dd_156_25 rfl am_ck12 (by decide) (Or.inl w_968)) (am_rn rfl (am_rn rfl (am_rs rfl (ok_iload_n (k := 2) dd_156_28 rfl rfl) (am_rs rfl (ok_bipush dd_156_29 bi_m4 rfl) (am_rn rfl (am_rs rfl (ok_iast dd_156_31 rfl) (am_rz))))))))
theorem kb_156_4 : am_row mi_156 32 kr_156_4 := am_rs rfl (ok_aload_n (k := 0) dd_156_32 rfl rfl) (am_rs rfl (ok_gf dd_156_33 rfl am_ck12 (by decide) (Or.inl w_969)) (am_rn rfl (am_rn rfl (am_rs rfl (ok_iload_n (k := 2) dd_156_36 rfl rfl) (am_rs rfl (ok_iconst dd_156_37 ic_0 rfl) (am_rs rfl (ok_zast dd_156_38 rfl) (am_rs rfl (ok_iinc dd_156_39 ic_1 rfl (by decide)) (am_rz))))))))
theorem kb_156_5 : am_row mi_156 40 kr_156_5 := am_rn rfl (am_rn rfl (am_rs rfl (ok_goto dd_156_42 (by decide)) (am_rn rfl (am_rn rfl (am_rs rfl (ok_iconst dd_156_45 ic_0 rfl) (am_rs rfl (ok_istore_n (k := 2) dd_156_46 rfl rfl (by decide)) (am_rs rfl (ok_iload_n (k := 2) dd_156_47 rfl rfl) (am_rz))))))))
theorem kb_156_6 : am_row mi_156 48 kr_156_6 := am_rs rfl (ok_aload_n (k := 0) dd_156_48 rfl rfl) (am_rs rfl (ok_gf dd_156_49 rfl am_ck12 (by decide) (Or.inl w_939)) (am_rn rfl (am_rn rfl (am_rs rfl (ok_icmp dd_156_52 (by decide) rfl) (am_rn rfl (am_rn rfl (am_rs rfl (ok_iconst dd_156_55 ic_5 rfl) (am_rz))))))))
theorem kb_156_7 : am_row mi_156 56 kr_156_7 := am_rs rfl (ok_iload_n (k := 2) dd_156_56 rfl rfl) (am_rs rfl (ok_imul dd_156_57 rfl) (am_rs rfl (ok_istore_n (k := 3) dd_156_58 rfl rfl (by decide)) (am_rs rfl (ok_aload_n (k := 0) dd_156_59 rfl rfl) (am_rs rfl (ok_gf dd_156_60 rfl am_ck12 (by decide) (Or.inl w_940)) (am_rn rfl (am_rn rfl (am_rs rfl (ok_iload_n (k := 3) dd_156_63 rfl rfl) (am_rz))))))))
theorem kb_156_8 : am_row mi_156 64 kr_156_8 := am_rs rfl (ok_iconst dd_156_64 ic_1 rfl) (am_rs rfl (ok_iadd dd_156_65 rfl) (am_rs rfl (ok_iald dd_156_66 rfl) (am_rs rfl (ok_istore dd_156_67 rfl (by decide)) (am_rn rfl (am_rs rfl (ok_iload dd_156_69 rfl) (am_rn rfl (am_rs rfl (ok_aload_n (k := 0) dd_156_71 rfl rfl) (am_rz))))))))
theorem kb_156_9 : am_row mi_156 72 kr_156_9 := am_rs rfl (ok_gf dd_156_72 rfl am_ck12 (by decide) (Or.inl w_940)) (am_rn rfl (am_rn rfl (am_rs rfl (ok_iload_n (k := 3) dd_156_75 rfl rfl) (am_rs rfl (ok_iconst dd_156_76 ic_2 rfl) (am_rs rfl (ok_iadd dd_156_77 rfl) (am_rs rfl (ok_iald dd_156_78 rfl) (am_rs rfl (ok_icmp dd_156_79 (by decide) rfl) (am_rz))))))))
theorem kb_156_10 : am_row mi_156 80 kr_156_10 := am_rn rfl (am_rn rfl (am_rs rfl (ok_iload_n (k := 2) dd_156_82 rfl rfl) (am_rs rfl (ok_iload_n (k := 1) dd_156_83 rfl rfl) (am_rs rfl (ok_icmp dd_156_84 (by decide) rfl) (am_rn rfl (am_rn rfl (am_rs rfl (ok_aload_n (k := 0) dd_156_87 rfl rfl) (am_rz))))))))
theorem kb_156_11 : am_row mi_156 88 kr_156_11 := am_rs rfl (ok_gf dd_156_88 rfl am_ck12 (by decide) (Or.inl w_967)) (am_rn rfl (am_rn rfl (am_rs rfl (ok_bipush dd_156_91 bi_64 rfl) (am_rn rfl (am_rs rfl (ok_aload_n (k := 0) dd_156_93 rfl rfl) (am_rs rfl (ok_gf dd_156_94 rfl am_ck12 (by decide) (Or.inl w_940)) (am_rn rfl (am_rz))))))))
theorem kb_156_12 : am_row mi_156 96 kr_156_12 := am_rn rfl (am_rs rfl (ok_iload_n (k := 3) dd_156_97 rfl rfl) (am_rs rfl (ok_iald dd_156_98 rfl) (am_rs rfl (ok_imul dd_156_99 rfl) (am_rs rfl (ok_iload dd_156_100 rfl) (am_rn rfl (am_rs rfl (ok_iadd dd_156_102 rfl) (am_rs rfl (ok_aload_n (k := 0) dd_156_103 rfl rfl) (am_rz))))))))
theorem kb_156_13 : am_row mi_156 104 kr_156_13 := am_rs rfl (ok_gf dd_156_104 rfl am_ck12 (by decide) (Or.inl w_940)) (am_rn rfl (am_rn rfl (am_rs rfl (ok_iload_n (k := 3) dd_156_107 rfl rfl) (am_rs rfl (ok_iconst dd_156_108 ic_3 rfl) (am_rs rfl (ok_iadd dd_156_109 rfl) (am_rs rfl (ok_iald dd_156_110 rfl) (am_rs rfl (ok_iast dd_156_111 rfl) (am_rz))))))))
theorem kb_156_14 : am_row mi_156 112 kr_156_14 := am_rs rfl (ok_aload_n (k := 0) dd_156_112 rfl rfl) (am_rs rfl (ok_gf dd_156_113 rfl am_ck12 (by decide) (Or.inl w_968)) (am_rn rfl (am_rn rfl (am_rs rfl (ok_bipush dd_156_116 bi_64 rfl) (am_rn rfl (am_rs rfl (ok_aload_n (k := 0) dd_156_118 rfl rfl) (am_rs rfl (ok_gf dd_156_119 rfl am_ck12 (by decide) (Or.inl w_940)) (am_rz))))))))
theorem kb_156_15 : am_row mi_156 120 kr_156_15 := am_rn rfl (am_rn rfl (am_rs rfl (ok_iload_n (k := 3) dd_156_122 rfl rfl) (am_rs rfl (ok_iald dd_156_123 rfl) (am_rs rfl (ok_imul dd_156_124 rfl) (am_rs rfl (ok_iload dd_156_125 rfl) (am_rn rfl (am_rs rfl (ok_iadd dd_156_127 rfl) (am_rz))))))))
theorem kb_156_16 : am_row mi_156 128 kr_156_16 := am_rs rfl (ok_aload_n (k := 0) dd_156_128 rfl rfl) (am_rs rfl (ok_gf dd_156_129 rfl am_ck12 (by decide) (Or.inl w_940)) (am_rn rfl (am_rn rfl (am_rs rfl (ok_iload_n (k := 3) dd_156_132 rfl rfl) (am_rs rfl (ok_iconst dd_156_133 ic_4 rfl) (am_rs rfl (ok_iadd dd_156_134 rfl) (am_rs rfl (ok_iald dd_156_135 rfl) (am_rz))))))))
theorem kb_156_17 : am_row mi_156 136 kr_156_17 := am_rs rfl (ok_bipush dd_156_136 bi_8 rfl) (am_rn rfl (am_rs rfl (ok_icmp dd_156_138 (by decide) rfl) (am_rn rfl (am_rn rfl (am_rs rfl (ok_bipush dd_156_141 bi_m4 rfl) (am_rn rfl (am_rs rfl (ok_goto dd_156_143 (by decide)) (am_rz))))))))
theorem kb_156_18 : am_row mi_156 144 kr_156_18 := am_rn rfl (am_rn rfl (am_rs rfl (ok_aload_n (k := 0) dd_156_146 rfl rfl) (am_rs rfl (ok_gf dd_156_147 rfl am_ck12 (by decide) (Or.inl w_940)) (am_rn rfl (am_rn rfl (am_rs rfl (ok_iload_n (k := 3) dd_156_150 rfl rfl) (am_rs rfl (ok_iconst dd_156_151 ic_4 rfl) (am_rz))))))))
theorem kb_156_19 : am_row mi_156 152 kr_156_19 := am_rs rfl (ok_iadd dd_156_152 rfl) (am_rs rfl (ok_iald dd_156_153 rfl) (am_rs rfl (ok_iast dd_156_154 rfl) (am_rs rfl (ok_iinc dd_156_155 ic_1 rfl (by decide)) (am_rn rfl (am_rn rfl (am_rs rfl (ok_goto dd_156_158 (by decide)) (am_rn rfl (am_rz))))))))
theorem kb_156_20 : am_row mi_156 160 kr_156_20 := am_rn rfl (am_rs rfl (ok_iinc dd_156_161 ic_1 rfl (by decide)) (am_rn rfl (am_rn rfl (am_rs rfl (ok_goto dd_156_164 (by decide)) (am_rn rfl (am_rn rfl (am_rs rfl (ok_vret dd_156_167 rfl) (am_rz))))))))
theorem ck_156 : am_rows mi_156 0 cd_156 := am_bs rfl kb_156_0 (am_bs rfl kb_156_1 (am_bs rfl kb_156_2 (am_bs rfl kb_156_3 (am_bs rfl kb_156_4 (am_bs rfl kb_156_5 (am_bs rfl kb_156_6 (am_bs rfl kb_156_7 (am_bs rfl kb_156_8 (am_bs rfl kb_156_9 (am_bs rfl kb_156_10 (am_bs rfl kb_156_11 (am_bs rfl kb_156_12 (am_bs rfl kb_156_13 (am_bs rfl kb_156_14 (am_bs rfl kb_156_15 (am_bs rfl kb_156_16 (am_bs rfl kb_156_17 (am_bs rfl kb_156_18 (am_bs rfl kb_156_19 (am_bs rfl kb_156_20 (am_bz)))))))))))))))))))))
/-- OverAndBackModel.breaks([II)V -/
noncomputable def kr_157_0 : List (Option am_Op) := [some (am_ald0 1 1), some (am_ild 2 2), some (am_psh (.retAddr 1) 3), some (am_bin am_add 4), some (am_ald 0 5), some (am_ist 3 6), some (am_ild 3 7), some (am_ald0 1 8)]
noncomputable def kr_157_1 : List (Option am_Op) := [some (am_ild 2 9), some (am_psh (.retAddr 2) 10), some (am_bin am_add 11), some (am_ald 0 12), some (am_br2 .gt 35 15), none, none, some (am_ald0 0 16)]
noncomputable def kr_157_2 : List (Option am_Op) := [some (am_gf 12 34 19), none, none, some (am_psh (.retAddr 64) 21), none, some (am_ald0 1 22), some (am_ild 2 23), some (am_ald 0 24)]
noncomputable def kr_157_3 : List (Option am_Op) := [some (am_bin am_mul 25), some (am_ild 3 26), some (am_bin am_add 27), some (am_psh (.retAddr 1) 28), some (am_ast 2 (fun v => v % 2) 29), some (am_inc 3 1 32), none, none]
noncomputable def kr_157_4 : List (Option am_Op) := [some (am_jmp 6), none, none, some (am_vret)]
noncomputable def cd_157 : am_Cd := [kr_157_0, kr_157_1, kr_157_2, kr_157_3, kr_157_4]
theorem dd_157_0 : decode prog_14_method_30_code 0 = .ok (.aload_n 1, 1) := by decide +kernel
theorem dd_157_1 : decode prog_14_method_30_code 1 = .ok (.iload_n 2, 1) := by decide +kernel
theorem dd_157_2 : decode prog_14_method_30_code 2 = .ok (.iconst 1, 1) := by decide +kernel
theorem dd_157_3 : decode prog_14_method_30_code 3 = .ok (.iadd, 1) := by decide +kernel
theorem dd_157_4 : decode prog_14_method_30_code 4 = .ok (.iaload, 1) := by decide +kernel
theorem dd_157_5 : decode prog_14_method_30_code 5 = .ok (.istore_n 3, 1) := by decide +kernel
theorem dd_157_6 : decode prog_14_method_30_code 6 = .ok (.iload_n 3, 1) := by decide +kernel
theorem dd_157_7 : decode prog_14_method_30_code 7 = .ok (.aload_n 1, 1) := by decide +kernel
theorem dd_157_8 : decode prog_14_method_30_code 8 = .ok (.iload_n 2, 1) := by decide +kernel
theorem dd_157_9 : decode prog_14_method_30_code 9 = .ok (.iconst 2, 1) := by decide +kernel
theorem dd_157_10 : decode prog_14_method_30_code 10 = .ok (.iadd, 1) := by decide +kernel
theorem dd_157_11 : decode prog_14_method_30_code 11 = .ok (.iaload, 1) := by decide +kernel
theorem dd_157_12 : decode prog_14_method_30_code 12 = .ok (.if_icmp .gt 23, 3) := by decide +kernel
theorem dd_157_15 : decode prog_14_method_30_code 15 = .ok (.aload_n 0, 1) := by decide +kernel
theorem dd_157_16 : decode prog_14_method_30_code 16 = .ok (.getfield 80, 3) := by decide +kernel
theorem dd_157_19 : decode prog_14_method_30_code 19 = .ok (.bipush 64, 2) := by decide +kernel
theorem dd_157_21 : decode prog_14_method_30_code 21 = .ok (.aload_n 1, 1) := by decide +kernel
theorem dd_157_22 : decode prog_14_method_30_code 22 = .ok (.iload_n 2, 1) := by decide +kernel
theorem dd_157_23 : decode prog_14_method_30_code 23 = .ok (.iaload, 1) := by decide +kernel
theorem dd_157_24 : decode prog_14_method_30_code 24 = .ok (.imul, 1) := by decide +kernel
theorem dd_157_25 : decode prog_14_method_30_code 25 = .ok (.iload_n 3, 1) := by decide +kernel
theorem dd_157_26 : decode prog_14_method_30_code 26 = .ok (.iadd, 1) := by decide +kernel
theorem dd_157_27 : decode prog_14_method_30_code 27 = .ok (.iconst 1, 1) := by decide +kernel
theorem dd_157_28 : decode prog_14_method_30_code 28 = .ok (.bastore, 1) := by decide +kernel
theorem dd_157_29 : decode prog_14_method_30_code 29 = .ok (.iinc 3 1, 3) := by decide +kernel
theorem dd_157_32 : decode prog_14_method_30_code 32 = .ok (.goto (-26), 3) := by decide +kernel
theorem dd_157_35 : decode prog_14_method_30_code 35 = .ok (.return_, 1) := by decide +kernel
theorem kb_157_0 : am_row mi_157 0 kr_157_0 := am_rs rfl (ok_aload_n (k := 1) dd_157_0 rfl rfl) (am_rs rfl (ok_iload_n (k := 2) dd_157_1 rfl rfl) (am_rs rfl (ok_iconst dd_157_2 ic_1 rfl) (am_rs rfl (ok_iadd dd_157_3 rfl) (am_rs rfl (ok_iald dd_157_4 rfl) (am_rs rfl (ok_istore_n (k := 3) dd_157_5 rfl rfl (by decide)) (am_rs rfl (ok_iload_n (k := 3) dd_157_6 rfl rfl) (am_rs rfl (ok_aload_n (k := 1) dd_157_7 rfl rfl) (am_rz))))))))
theorem kb_157_1 : am_row mi_157 8 kr_157_1 := am_rs rfl (ok_iload_n (k := 2) dd_157_8 rfl rfl) (am_rs rfl (ok_iconst dd_157_9 ic_2 rfl) (am_rs rfl (ok_iadd dd_157_10 rfl) (am_rs rfl (ok_iald dd_157_11 rfl) (am_rs rfl (ok_icmp dd_157_12 (by decide) rfl) (am_rn rfl (am_rn rfl (am_rs rfl (ok_aload_n (k := 0) dd_157_15 rfl rfl) (am_rz))))))))
theorem kb_157_2 : am_row mi_157 16 kr_157_2 := am_rs rfl (ok_gf dd_157_16 rfl am_ck12 (by decide) (Or.inl w_969)) (am_rn rfl (am_rn rfl (am_rs rfl (ok_bipush dd_157_19 bi_64 rfl) (am_rn rfl (am_rs rfl (ok_aload_n (k := 1) dd_157_21 rfl rfl) (am_rs rfl (ok_iload_n (k := 2) dd_157_22 rfl rfl) (am_rs rfl (ok_iald dd_157_23 rfl) (am_rz))))))))
theorem kb_157_3 : am_row mi_157 24 kr_157_3 := am_rs rfl (ok_imul dd_157_24 rfl) (am_rs rfl (ok_iload_n (k := 3) dd_157_25 rfl rfl) (am_rs rfl (ok_iadd dd_157_26 rfl) (am_rs rfl (ok_iconst dd_157_27 ic_1 rfl) (am_rs rfl (ok_zast dd_157_28 rfl) (am_rs rfl (ok_iinc dd_157_29 ic_1 rfl (by decide)) (am_rn rfl (am_rn rfl (am_rz))))))))
theorem kb_157_4 : am_row mi_157 32 kr_157_4 := am_rs rfl (ok_goto dd_157_32 (by decide)) (am_rn rfl (am_rn rfl (am_rs rfl (ok_vret dd_157_35 rfl) (am_rz))))
theorem ck_157 : am_rows mi_157 0 cd_157 := am_bs rfl kb_157_0 (am_bs rfl kb_157_1 (am_bs rfl kb_157_2 (am_bs rfl kb_157_3 (am_bs rfl kb_157_4 (am_bz)))))
/-- OverAndBackModel.has(II)Z -/
noncomputable def kr_158_0 : List (Option am_Op) := [some (am_ild 0 1), some (am_ild 1 2), some (am_bin1 am_xshr 3), some (am_psh (.retAddr 1) 4), some (am_bin Nat.land 5), some (am_psh (.retAddr 1) 6), some (am_br2 .ne 13 9), none]
noncomputable def kr_158_1 : List (Option am_Op) := [none, some (am_psh (.retAddr 1) 10), some (am_jmp 14), none, none, some (am_psh (.retAddr 0) 14), some (am_zret)]
noncomputable def cd_158 : am_Cd := [kr_158_0, kr_158_1]
theorem dd_158_0 : decode prog_14_method_5_code 0 = .ok (.iload_n 0, 1) := by decide +kernel
theorem dd_158_1 : decode prog_14_method_5_code 1 = .ok (.iload_n 1, 1) := by decide +kernel
theorem dd_158_2 : decode prog_14_method_5_code 2 = .ok (.ishr, 1) := by decide +kernel
theorem dd_158_3 : decode prog_14_method_5_code 3 = .ok (.iconst 1, 1) := by decide +kernel
theorem dd_158_4 : decode prog_14_method_5_code 4 = .ok (.iand, 1) := by decide +kernel
theorem dd_158_5 : decode prog_14_method_5_code 5 = .ok (.iconst 1, 1) := by decide +kernel
theorem dd_158_6 : decode prog_14_method_5_code 6 = .ok (.if_icmp .ne 7, 3) := by decide +kernel
theorem dd_158_9 : decode prog_14_method_5_code 9 = .ok (.iconst 1, 1) := by decide +kernel
theorem dd_158_10 : decode prog_14_method_5_code 10 = .ok (.goto 4, 3) := by decide +kernel
theorem dd_158_13 : decode prog_14_method_5_code 13 = .ok (.iconst 0, 1) := by decide +kernel
theorem dd_158_14 : decode prog_14_method_5_code 14 = .ok (.ireturn, 1) := by decide +kernel
theorem kb_158_0 : am_row mi_158 0 kr_158_0 := am_rs rfl (ok_iload_n (k := 0) dd_158_0 rfl rfl) (am_rs rfl (ok_iload_n (k := 1) dd_158_1 rfl rfl) (am_rs rfl (ok_ishr dd_158_2 rfl) (am_rs rfl (ok_iconst dd_158_3 ic_1 rfl) (am_rs rfl (ok_iand dd_158_4 rfl) (am_rs rfl (ok_iconst dd_158_5 ic_1 rfl) (am_rs rfl (ok_icmp dd_158_6 (by decide) rfl) (am_rn rfl (am_rz))))))))
theorem kb_158_1 : am_row mi_158 8 kr_158_1 := am_rn rfl (am_rs rfl (ok_iconst dd_158_9 ic_1 rfl) (am_rs rfl (ok_goto dd_158_10 (by decide)) (am_rn rfl (am_rn rfl (am_rs rfl (ok_iconst dd_158_13 ic_0 rfl) (am_rs rfl (ok_zret dd_158_14 rfl) (am_rz)))))))
theorem ck_158 : am_rows mi_158 0 cd_158 := am_bs rfl kb_158_0 (am_bs rfl kb_158_1 (am_bz))
/-- OverAndBackModel.layBreaks()V -/
noncomputable def kr_159_0 : List (Option am_Op) := [some (am_psh (.retAddr 0) 1), some (am_ist 1 2), some (am_ild 1 3), some (am_psh (.retAddr 256) 6), none, none, some (am_br2 .ge 66 9), none]
noncomputable def kr_159_1 : List (Option am_Op) := [none, some (am_ald0 0 10), some (am_gf 12 32 13), none, none, some (am_ild 1 14), some (am_ald0 0 15), some (am_gf 12 34 18)]
noncomputable def kr_159_2 : List (Option am_Op) := [none, none, some (am_ild 1 19), some (am_ald 2 20), some (am_br1 .eq 27 23), none, none, some (am_psh (.retAddr 0) 24)]
noncomputable def kr_159_3 : List (Option am_Op) := [some (am_jmp 33), none, none, some (am_ald0 0 28), some (am_gf 12 32 31), none, none, some (am_ild 1 32)]
noncomputable def kr_159_4 : List (Option am_Op) := [some (am_ald 0 33), some (am_ast 0 (fun v => v) 34), some (am_ald0 0 35), some (am_gf 12 33 38), none, none, some (am_ild 1 39), some (am_ald0 0 40)]
noncomputable def kr_159_5 : List (Option am_Op) := [some (am_gf 12 34 43), none, none, some (am_ild 1 44), some (am_ald 2 45), some (am_br1 .eq 53 48), none, none]
noncomputable def kr_159_6 : List (Option am_Op) := [some (am_psh (.retAddr 4294967292) 50), none, some (am_jmp 59), none, none, some (am_ald0 0 54), some (am_gf 12 33 57), none]
noncomputable def kr_159_7 : List (Option am_Op) := [none, some (am_ild 1 58), some (am_ald 0 59), some (am_ast 0 (fun v => v) 60), some (am_inc 1 1 63), none, none, some (am_jmp 2)]
noncomputable def kr_159_8 : List (Option am_Op) := [none, none, some (am_vret)]
noncomputable def cd_159 : am_Cd := [kr_159_0, kr_159_1, kr_159_2, kr_159_3, kr_159_4, kr_159_5, kr_159_6, kr_159_7, kr_159_8]
theorem dd_159_0 : decode prog_14_method_32_code 0 = .ok (.iconst 0, 1) := by decide +kernel
theorem dd_159_1 : decode prog_14_method_32_code 1 = .ok (.istore_n 1, 1) := by decide +kernel
theorem dd_159_2 : decode prog_14_method_32_code 2 = .ok (.iload_n 1, 1) := by decide +kernel
theorem dd_159_3 : decode prog_14_method_32_code 3 = .ok (.sipush 256, 3) := by decide +kernel
theorem dd_159_6 : decode prog_14_method_32_code 6 = .ok (.if_icmp .ge 60, 3) := by decide +kernel
theorem dd_159_9 : decode prog_14_method_32_code 9 = .ok (.aload_n 0, 1) := by decide +kernel
theorem dd_159_10 : decode prog_14_method_32_code 10 = .ok (.getfield 74, 3) := by decide +kernel
theorem dd_159_13 : decode prog_14_method_32_code 13 = .ok (.iload_n 1, 1) := by decide +kernel
theorem dd_159_14 : decode prog_14_method_32_code 14 = .ok (.aload_n 0, 1) := by decide +kernel
theorem dd_159_15 : decode prog_14_method_32_code 15 = .ok (.getfield 80, 3) := by decide +kernel
theorem dd_159_18 : decode prog_14_method_32_code 18 = .ok (.iload_n 1, 1) := by decide +kernel
theorem dd_159_19 : decode prog_14_method_32_code 19 = .ok (.baload, 1) := by decide +kernel
theorem dd_159_20 : decode prog_14_method_32_code 20 = .ok (.ifCond .eq 7, 3) := by decide +kernel
theorem dd_159_23 : decode prog_14_method_32_code 23 = .ok (.iconst 0, 1) := by decide +kernel
theorem dd_159_24 : decode prog_14_method_32_code 24 = .ok (.goto 9, 3) := by decide +kernel
theorem dd_159_27 : decode prog_14_method_32_code 27 = .ok (.aload_n 0, 1) := by decide +kernel
theorem dd_159_28 : decode prog_14_method_32_code 28 = .ok (.getfield 74, 3) := by decide +kernel
theorem dd_159_31 : decode prog_14_method_32_code 31 = .ok (.iload_n 1, 1) := by decide +kernel
theorem dd_159_32 : decode prog_14_method_32_code 32 = .ok (.iaload, 1) := by decide +kernel
theorem dd_159_33 : decode prog_14_method_32_code 33 = .ok (.iastore, 1) := by decide +kernel
theorem dd_159_34 : decode prog_14_method_32_code 34 = .ok (.aload_n 0, 1) := by decide +kernel
theorem dd_159_35 : decode prog_14_method_32_code 35 = .ok (.getfield 77, 3) := by decide +kernel
theorem dd_159_38 : decode prog_14_method_32_code 38 = .ok (.iload_n 1, 1) := by decide +kernel
theorem dd_159_39 : decode prog_14_method_32_code 39 = .ok (.aload_n 0, 1) := by decide +kernel
theorem dd_159_40 : decode prog_14_method_32_code 40 = .ok (.getfield 80, 3) := by decide +kernel
theorem dd_159_43 : decode prog_14_method_32_code 43 = .ok (.iload_n 1, 1) := by decide +kernel
theorem dd_159_44 : decode prog_14_method_32_code 44 = .ok (.baload, 1) := by decide +kernel
theorem dd_159_45 : decode prog_14_method_32_code 45 = .ok (.ifCond .eq 8, 3) := by decide +kernel
theorem dd_159_48 : decode prog_14_method_32_code 48 = .ok (.bipush (-4), 2) := by decide +kernel
theorem dd_159_50 : decode prog_14_method_32_code 50 = .ok (.goto 9, 3) := by decide +kernel
theorem dd_159_53 : decode prog_14_method_32_code 53 = .ok (.aload_n 0, 1) := by decide +kernel
theorem dd_159_54 : decode prog_14_method_32_code 54 = .ok (.getfield 77, 3) := by decide +kernel
theorem dd_159_57 : decode prog_14_method_32_code 57 = .ok (.iload_n 1, 1) := by decide +kernel
theorem dd_159_58 : decode prog_14_method_32_code 58 = .ok (.iaload, 1) := by decide +kernel
theorem dd_159_59 : decode prog_14_method_32_code 59 = .ok (.iastore, 1) := by decide +kernel
theorem dd_159_60 : decode prog_14_method_32_code 60 = .ok (.iinc 1 1, 3) := by decide +kernel
theorem dd_159_63 : decode prog_14_method_32_code 63 = .ok (.goto (-61), 3) := by decide +kernel
theorem dd_159_66 : decode prog_14_method_32_code 66 = .ok (.return_, 1) := by decide +kernel
theorem kb_159_0 : am_row mi_159 0 kr_159_0 := am_rs rfl (ok_iconst dd_159_0 ic_0 rfl) (am_rs rfl (ok_istore_n (k := 1) dd_159_1 rfl rfl (by decide)) (am_rs rfl (ok_iload_n (k := 1) dd_159_2 rfl rfl) (am_rs rfl (ok_sipush dd_159_3 si_256 rfl) (am_rn rfl (am_rn rfl (am_rs rfl (ok_icmp dd_159_6 (by decide) rfl) (am_rn rfl (am_rz))))))))
theorem kb_159_1 : am_row mi_159 8 kr_159_1 := am_rn rfl (am_rs rfl (ok_aload_n (k := 0) dd_159_9 rfl rfl) (am_rs rfl (ok_gf dd_159_10 rfl am_ck12 (by decide) (Or.inl w_967)) (am_rn rfl (am_rn rfl (am_rs rfl (ok_iload_n (k := 1) dd_159_13 rfl rfl) (am_rs rfl (ok_aload_n (k := 0) dd_159_14 rfl rfl) (am_rs rfl (ok_gf dd_159_15 rfl am_ck12 (by decide) (Or.inl w_969)) (am_rz))))))))
theorem kb_159_2 : am_row mi_159 16 kr_159_2 := am_rn rfl (am_rn rfl (am_rs rfl (ok_iload_n (k := 1) dd_159_18 rfl rfl) (am_rs rfl (ok_zald dd_159_19 rfl) (am_rs rfl (ok_ifc dd_159_20 (by decide) rfl) (am_rn rfl (am_rn rfl (am_rs rfl (ok_iconst dd_159_23 ic_0 rfl) (am_rz))))))))
theorem kb_159_3 : am_row mi_159 24 kr_159_3 := am_rs rfl (ok_goto dd_159_24 (by decide)) (am_rn rfl (am_rn rfl (am_rs rfl (ok_aload_n (k := 0) dd_159_27 rfl rfl) (am_rs rfl (ok_gf dd_159_28 rfl am_ck12 (by decide) (Or.inl w_967)) (am_rn rfl (am_rn rfl (am_rs rfl (ok_iload_n (k := 1) dd_159_31 rfl rfl) (am_rz))))))))
theorem kb_159_4 : am_row mi_159 32 kr_159_4 := am_rs rfl (ok_iald dd_159_32 rfl) (am_rs rfl (ok_iast dd_159_33 rfl) (am_rs rfl (ok_aload_n (k := 0) dd_159_34 rfl rfl) (am_rs rfl (ok_gf dd_159_35 rfl am_ck12 (by decide) (Or.inl w_968)) (am_rn rfl (am_rn rfl (am_rs rfl (ok_iload_n (k := 1) dd_159_38 rfl rfl) (am_rs rfl (ok_aload_n (k := 0) dd_159_39 rfl rfl) (am_rz))))))))
theorem kb_159_5 : am_row mi_159 40 kr_159_5 := am_rs rfl (ok_gf dd_159_40 rfl am_ck12 (by decide) (Or.inl w_969)) (am_rn rfl (am_rn rfl (am_rs rfl (ok_iload_n (k := 1) dd_159_43 rfl rfl) (am_rs rfl (ok_zald dd_159_44 rfl) (am_rs rfl (ok_ifc dd_159_45 (by decide) rfl) (am_rn rfl (am_rn rfl (am_rz))))))))
theorem kb_159_6 : am_row mi_159 48 kr_159_6 := am_rs rfl (ok_bipush dd_159_48 bi_m4 rfl) (am_rn rfl (am_rs rfl (ok_goto dd_159_50 (by decide)) (am_rn rfl (am_rn rfl (am_rs rfl (ok_aload_n (k := 0) dd_159_53 rfl rfl) (am_rs rfl (ok_gf dd_159_54 rfl am_ck12 (by decide) (Or.inl w_968)) (am_rn rfl (am_rz))))))))
theorem kb_159_7 : am_row mi_159 56 kr_159_7 := am_rn rfl (am_rs rfl (ok_iload_n (k := 1) dd_159_57 rfl rfl) (am_rs rfl (ok_iald dd_159_58 rfl) (am_rs rfl (ok_iast dd_159_59 rfl) (am_rs rfl (ok_iinc dd_159_60 ic_1 rfl (by decide)) (am_rn rfl (am_rn rfl (am_rs rfl (ok_goto dd_159_63 (by decide)) (am_rz))))))))
theorem kb_159_8 : am_row mi_159 64 kr_159_8 := am_rn rfl (am_rn rfl (am_rs rfl (ok_vret dd_159_66 rfl) (am_rz)))
theorem ck_159 : am_rows mi_159 0 cd_159 := am_bs rfl kb_159_0 (am_bs rfl kb_159_1 (am_bs rfl kb_159_2 (am_bs rfl kb_159_3 (am_bs rfl kb_159_4 (am_bs rfl kb_159_5 (am_bs rfl kb_159_6 (am_bs rfl kb_159_7 (am_bs rfl kb_159_8 (am_bz)))))))))
/-- OverAndBackModel.known(I)I -/
noncomputable def kr_160_0 : List (Option am_Op) := [some (am_ild 1 1), some (am_cs 161 1 4), none, none, some (am_br1 .eq 15 7), none, none, some (am_ald0 0 8)]
noncomputable def kr_160_1 : List (Option am_Op) := [some (am_ild 1 9), some (am_cv 162 1 12 12), none, none, some (am_jmp 16), none, none, some (am_psh (.retAddr 4294967295) 16)]
noncomputable def kr_160_2 : List (Option am_Op) := [some (am_iret)]
noncomputable def cd_160 : am_Cd := [kr_160_0, kr_160_1, kr_160_2]
theorem dd_160_0 : decode prog_14_method_37_code 0 = .ok (.iload_n 1, 1) := by decide +kernel
theorem dd_160_1 : decode prog_14_method_37_code 1 = .ok (.invokestatic 250, 3) := by decide +kernel
theorem dd_160_4 : decode prog_14_method_37_code 4 = .ok (.ifCond .eq 11, 3) := by decide +kernel
theorem dd_160_7 : decode prog_14_method_37_code 7 = .ok (.aload_n 0, 1) := by decide +kernel
theorem dd_160_8 : decode prog_14_method_37_code 8 = .ok (.iload_n 1, 1) := by decide +kernel
theorem dd_160_9 : decode prog_14_method_37_code 9 = .ok (.invokevirtual 253, 3) := by decide +kernel
theorem dd_160_12 : decode prog_14_method_37_code 12 = .ok (.goto 4, 3) := by decide +kernel
theorem dd_160_15 : decode prog_14_method_37_code 15 = .ok (.iconst (-1), 1) := by decide +kernel
theorem dd_160_16 : decode prog_14_method_37_code 16 = .ok (.ireturn, 1) := by decide +kernel
theorem kb_160_0 : am_row mi_160 0 kr_160_0 := am_rs rfl (ok_iload_n (k := 1) dd_160_0 rfl rfl) (am_rs rfl (ok_cs (M' := mi_161) dd_160_1 rfl rfl w_1215 w_1216 ⟨lk_161.1, lk_161.2.1, lk_161.2.2, by decide, by decide⟩) (am_rn rfl (am_rn rfl (am_rs rfl (ok_ifc dd_160_4 (by decide) rfl) (am_rn rfl (am_rn rfl (am_rs rfl (ok_aload_n (k := 0) dd_160_7 rfl rfl) (am_rz))))))))
theorem kb_160_1 : am_row mi_160 8 kr_160_1 := am_rs rfl (ok_iload_n (k := 1) dd_160_8 rfl rfl) (am_rs rfl (ok_cv (M' := mi_162) dd_160_9 rfl rfl w_1218 w_1220 ps_162 ⟨lk_162.1, lk_162.2.1, lk_162.2.2, by decide, by decide⟩ rfl) (am_rn rfl (am_rn rfl (am_rs rfl (ok_goto dd_160_12 (by decide)) (am_rn rfl (am_rn rfl (am_rs rfl (ok_iconst dd_160_15 ic_m1 rfl) (am_rz))))))))
theorem kb_160_2 : am_row mi_160 16 kr_160_2 := am_rs rfl (ok_iret dd_160_16 rfl) (am_rz)
theorem ck_160 : am_rows mi_160 0 cd_160 := am_bs rfl kb_160_0 (am_bs rfl kb_160_1 (am_bs rfl kb_160_2 (am_bz)))
/-- OverAndBackModel.isSet(I)Z -/
noncomputable def kr_161_0 : List (Option am_Op) := [some (am_ild 0 1), some (am_psh (.retAddr 0) 2), some (am_psh (.retAddr 255) 5), none, none, some (am_cs 133 3 8), none, none]
noncomputable def kr_161_1 : List (Option am_Op) := [some (am_zret)]
noncomputable def cd_161 : am_Cd := [kr_161_0, kr_161_1]
theorem dd_161_0 : decode prog_14_method_10_code 0 = .ok (.iload_n 0, 1) := by decide +kernel
theorem dd_161_1 : decode prog_14_method_10_code 1 = .ok (.iconst 0, 1) := by decide +kernel
theorem dd_161_2 : decode prog_14_method_10_code 2 = .ok (.sipush 255, 3) := by decide +kernel
theorem dd_161_5 : decode prog_14_method_10_code 5 = .ok (.invokestatic 116, 3) := by decide +kernel
theorem dd_161_8 : decode prog_14_method_10_code 8 = .ok (.ireturn, 1) := by decide +kernel
theorem kb_161_0 : am_row mi_161 0 kr_161_0 := am_rs rfl (ok_iload_n (k := 0) dd_161_0 rfl rfl) (am_rs rfl (ok_iconst dd_161_1 ic_0 rfl) (am_rs rfl (ok_sipush dd_161_2 si_255 rfl) (am_rn rfl (am_rn rfl (am_rs rfl (ok_cs (M' := mi_133) dd_161_5 rfl rfl w_1106 w_1107 ⟨lk_133.1, lk_133.2.1, lk_133.2.2, by decide, by decide⟩) (am_rn rfl (am_rn rfl (am_rz))))))))
theorem kb_161_1 : am_row mi_161 8 kr_161_1 := am_rs rfl (ok_zret dd_161_8 rfl) (am_rz)
theorem ck_161 : am_rows mi_161 0 cd_161 := am_bs rfl kb_161_0 (am_bs rfl kb_161_1 (am_bz))
/-- OverAndBackModel.closed(I)I -/
noncomputable def kr_162_0 : List (Option am_Op) := [some (am_ild 1 1), some (am_ist 2 2), some (am_psh (.retAddr 0) 3), some (am_ist 3 4), some (am_ild 3 5), some (am_psh (.retAddr 6) 7), none, some (am_br2 .ge 100 10)]
noncomputable def kr_162_1 : List (Option am_Op) := [none, none, some (am_psh (.retAddr 0) 11), some (am_ist 4 13), none, some (am_ild 4 15), none, some (am_ald0 0 16)]
noncomputable def kr_162_2 : List (Option am_Op) := [some (am_gf 12 10 19), none, none, some (am_br2 .ge 94 22), none, none, some (am_ild 2 23), some (am_ald0 0 24)]
noncomputable def kr_162_3 : List (Option am_Op) := [some (am_gf 12 11 27), none, none, some (am_psh (.retAddr 3) 28), some (am_ild 4 30), none, some (am_bin am_mul 31), some (am_ald 0 32)]
noncomputable def kr_162_4 : List (Option am_Op) := [some (am_cs 158 2 35), none, none, some (am_br1 .eq 60 38), none, none, some (am_ild 2 39), some (am_ald0 0 40)]
noncomputable def kr_162_5 : List (Option am_Op) := [some (am_gf 12 11 43), none, none, some (am_psh (.retAddr 3) 44), some (am_ild 4 46), none, some (am_bin am_mul 47), some (am_psh (.retAddr 1) 48)]
noncomputable def kr_162_6 : List (Option am_Op) := [some (am_bin am_add 49), some (am_ald 0 50), some (am_cs 158 2 53), none, none, some (am_br1 .eq 60 56), none, none]
noncomputable def kr_162_7 : List (Option am_Op) := [some (am_psh (.retAddr 1) 57), some (am_jmp 61), none, none, some (am_psh (.retAddr 0) 61), some (am_ist 5 63), none, some (am_ild 2 64)]
noncomputable def kr_162_8 : List (Option am_Op) := [some (am_ild 5 66), none, some (am_br1 .eq 85 69), none, none, some (am_psh (.retAddr 1) 70), some (am_ald0 0 71), some (am_gf 12 11 74)]
noncomputable def kr_162_9 : List (Option am_Op) := [none, none, some (am_psh (.retAddr 3) 75), some (am_ild 4 77), none, some (am_bin am_mul 78), some (am_psh (.retAddr 2) 79), some (am_bin am_add 80)]
noncomputable def kr_162_10 : List (Option am_Op) := [some (am_ald 0 81), some (am_bin am_shl 82), some (am_jmp 86), none, none, some (am_psh (.retAddr 0) 86), some (am_bin Nat.lor 87), some (am_ist 2 88)]
noncomputable def kr_162_11 : List (Option am_Op) := [some (am_inc 4 1 91), none, none, some (am_jmp 13), none, none, some (am_inc 3 1 97), none]
noncomputable def kr_162_12 : List (Option am_Op) := [none, some (am_jmp 4), none, none, some (am_ild 2 101), some (am_iret)]
noncomputable def cd_162 : am_Cd := [kr_162_0, kr_162_1, kr_162_2, kr_162_3, kr_162_4, kr_162_5, kr_162_6, kr_162_7, kr_162_8, kr_162_9, kr_162_10, kr_162_11, kr_162_12]
theorem dd_162_0 : decode prog_14_method_35_code 0 = .ok (.iload_n 1, 1) := by decide +kernel
theorem dd_162_1 : decode prog_14_method_35_code 1 = .ok (.istore_n 2, 1) := by decide +kernel
theorem dd_162_2 : decode prog_14_method_35_code 2 = .ok (.iconst 0, 1) := by decide +kernel
theorem dd_162_3 : decode prog_14_method_35_code 3 = .ok (.istore_n 3, 1) := by decide +kernel
theorem dd_162_4 : decode prog_14_method_35_code 4 = .ok (.iload_n 3, 1) := by decide +kernel
theorem dd_162_5 : decode prog_14_method_35_code 5 = .ok (.bipush 6, 2) := by decide +kernel
theorem dd_162_7 : decode prog_14_method_35_code 7 = .ok (.if_icmp .ge 93, 3) := by decide +kernel
theorem dd_162_10 : decode prog_14_method_35_code 10 = .ok (.iconst 0, 1) := by decide +kernel
theorem dd_162_11 : decode prog_14_method_35_code 11 = .ok (.istore 4, 2) := by decide +kernel
theorem dd_162_13 : decode prog_14_method_35_code 13 = .ok (.iload 4, 2) := by decide +kernel
theorem dd_162_15 : decode prog_14_method_35_code 15 = .ok (.aload_n 0, 1) := by decide +kernel
theorem dd_162_16 : decode prog_14_method_35_code 16 = .ok (.getfield 38, 3) := by decide +kernel
theorem dd_162_19 : decode prog_14_method_35_code 19 = .ok (.if_icmp .ge 75, 3) := by decide +kernel
theorem dd_162_22 : decode prog_14_method_35_code 22 = .ok (.iload_n 2, 1) := by decide +kernel
theorem dd_162_23 : decode prog_14_method_35_code 23 = .ok (.aload_n 0, 1) := by decide +kernel
theorem dd_162_24 : decode prog_14_method_35_code 24 = .ok (.getfield 41, 3) := by decide +kernel
theorem dd_162_27 : decode prog_14_method_35_code 27 = .ok (.iconst 3, 1) := by decide +kernel
theorem dd_162_28 : decode prog_14_method_35_code 28 = .ok (.iload 4, 2) := by decide +kernel
theorem dd_162_30 : decode prog_14_method_35_code 30 = .ok (.imul, 1) := by decide +kernel
theorem dd_162_31 : decode prog_14_method_35_code 31 = .ok (.iaload, 1) := by decide +kernel
theorem dd_162_32 : decode prog_14_method_35_code 32 = .ok (.invokestatic 223, 3) := by decide +kernel
theorem dd_162_35 : decode prog_14_method_35_code 35 = .ok (.ifCond .eq 25, 3) := by decide +kernel
theorem dd_162_38 : decode prog_14_method_35_code 38 = .ok (.iload_n 2, 1) := by decide +kernel
theorem dd_162_39 : decode prog_14_method_35_code 39 = .ok (.aload_n 0, 1) := by decide +kernel
theorem dd_162_40 : decode prog_14_method_35_code 40 = .ok (.getfield 41, 3) := by decide +kernel
theorem dd_162_43 : decode prog_14_method_35_code 43 = .ok (.iconst 3, 1) := by decide +kernel
theorem dd_162_44 : decode prog_14_method_35_code 44 = .ok (.iload 4, 2) := by decide +kernel
theorem dd_162_46 : decode prog_14_method_35_code 46 = .ok (.imul, 1) := by decide +kernel
theorem dd_162_47 : decode prog_14_method_35_code 47 = .ok (.iconst 1, 1) := by decide +kernel
theorem dd_162_48 : decode prog_14_method_35_code 48 = .ok (.iadd, 1) := by decide +kernel
theorem dd_162_49 : decode prog_14_method_35_code 49 = .ok (.iaload, 1) := by decide +kernel
theorem dd_162_50 : decode prog_14_method_35_code 50 = .ok (.invokestatic 223, 3) := by decide +kernel
theorem dd_162_53 : decode prog_14_method_35_code 53 = .ok (.ifCond .eq 7, 3) := by decide +kernel
theorem dd_162_56 : decode prog_14_method_35_code 56 = .ok (.iconst 1, 1) := by decide +kernel
theorem dd_162_57 : decode prog_14_method_35_code 57 = .ok (.goto 4, 3) := by decide +kernel
theorem dd_162_60 : decode prog_14_method_35_code 60 = .ok (.iconst 0, 1) := by decide +kernel
theorem dd_162_61 : decode prog_14_method_35_code 61 = .ok (.istore 5, 2) := by decide +kernel
theorem dd_162_63 : decode prog_14_method_35_code 63 = .ok (.iload_n 2, 1) := by decide +kernel
theorem dd_162_64 : decode prog_14_method_35_code 64 = .ok (.iload 5, 2) := by decide +kernel
theorem dd_162_66 : decode prog_14_method_35_code 66 = .ok (.ifCond .eq 19, 3) := by decide +kernel
theorem dd_162_69 : decode prog_14_method_35_code 69 = .ok (.iconst 1, 1) := by decide +kernel
theorem dd_162_70 : decode prog_14_method_35_code 70 = .ok (.aload_n 0, 1) := by decide +kernel
theorem dd_162_71 : decode prog_14_method_35_code 71 = .ok (.getfield 41, 3) := by decide +kernel
theorem dd_162_74 : decode prog_14_method_35_code 74 = .ok (.iconst 3, 1) := by decide +kernel
theorem dd_162_75 : decode prog_14_method_35_code 75 = .ok (.iload 4, 2) := by decide +kernel
theorem dd_162_77 : decode prog_14_method_35_code 77 = .ok (.imul, 1) := by decide +kernel
theorem dd_162_78 : decode prog_14_method_35_code 78 = .ok (.iconst 2, 1) := by decide +kernel
theorem dd_162_79 : decode prog_14_method_35_code 79 = .ok (.iadd, 1) := by decide +kernel
theorem dd_162_80 : decode prog_14_method_35_code 80 = .ok (.iaload, 1) := by decide +kernel
theorem dd_162_81 : decode prog_14_method_35_code 81 = .ok (.ishl, 1) := by decide +kernel
theorem dd_162_82 : decode prog_14_method_35_code 82 = .ok (.goto 4, 3) := by decide +kernel
theorem dd_162_85 : decode prog_14_method_35_code 85 = .ok (.iconst 0, 1) := by decide +kernel
theorem dd_162_86 : decode prog_14_method_35_code 86 = .ok (.ior, 1) := by decide +kernel
theorem dd_162_87 : decode prog_14_method_35_code 87 = .ok (.istore_n 2, 1) := by decide +kernel
theorem dd_162_88 : decode prog_14_method_35_code 88 = .ok (.iinc 4 1, 3) := by decide +kernel
theorem dd_162_91 : decode prog_14_method_35_code 91 = .ok (.goto (-78), 3) := by decide +kernel
theorem dd_162_94 : decode prog_14_method_35_code 94 = .ok (.iinc 3 1, 3) := by decide +kernel
theorem dd_162_97 : decode prog_14_method_35_code 97 = .ok (.goto (-93), 3) := by decide +kernel
theorem dd_162_100 : decode prog_14_method_35_code 100 = .ok (.iload_n 2, 1) := by decide +kernel
theorem dd_162_101 : decode prog_14_method_35_code 101 = .ok (.ireturn, 1) := by decide +kernel
theorem kb_162_0 : am_row mi_162 0 kr_162_0 := am_rs rfl (ok_iload_n (k := 1) dd_162_0 rfl rfl) (am_rs rfl (ok_istore_n (k := 2) dd_162_1 rfl rfl (by decide)) (am_rs rfl (ok_iconst dd_162_2 ic_0 rfl) (am_rs rfl (ok_istore_n (k := 3) dd_162_3 rfl rfl (by decide)) (am_rs rfl (ok_iload_n (k := 3) dd_162_4 rfl rfl) (am_rs rfl (ok_bipush dd_162_5 bi_6 rfl) (am_rn rfl (am_rs rfl (ok_icmp dd_162_7 (by decide) rfl) (am_rz))))))))
theorem kb_162_1 : am_row mi_162 8 kr_162_1 := am_rn rfl (am_rn rfl (am_rs rfl (ok_iconst dd_162_10 ic_0 rfl) (am_rs rfl (ok_istore dd_162_11 rfl (by decide)) (am_rn rfl (am_rs rfl (ok_iload dd_162_13 rfl) (am_rn rfl (am_rs rfl (ok_aload_n (k := 0) dd_162_15 rfl rfl) (am_rz))))))))
theorem kb_162_2 : am_row mi_162 16 kr_162_2 := am_rs rfl (ok_gf dd_162_16 rfl am_ck12 (by decide) (Or.inl w_945)) (am_rn rfl (am_rn rfl (am_rs rfl (ok_icmp dd_162_19 (by decide) rfl) (am_rn rfl (am_rn rfl (am_rs rfl (ok_iload_n (k := 2) dd_162_22 rfl rfl) (am_rs rfl (ok_aload_n (k := 0) dd_162_23 rfl rfl) (am_rz))))))))
theorem kb_162_3 : am_row mi_162 24 kr_162_3 := am_rs rfl (ok_gf dd_162_24 rfl am_ck12 (by decide) (Or.inl w_946)) (am_rn rfl (am_rn rfl (am_rs rfl (ok_iconst dd_162_27 ic_3 rfl) (am_rs rfl (ok_iload dd_162_28 rfl) (am_rn rfl (am_rs rfl (ok_imul dd_162_30 rfl) (am_rs rfl (ok_iald dd_162_31 rfl) (am_rz))))))))
theorem kb_162_4 : am_row mi_162 32 kr_162_4 := am_rs rfl (ok_cs (M' := mi_158) dd_162_32 rfl rfl w_1204 w_1205 ⟨lk_158.1, lk_158.2.1, lk_158.2.2, by decide, by decide⟩) (am_rn rfl (am_rn rfl (am_rs rfl (ok_ifc dd_162_35 (by decide) rfl) (am_rn rfl (am_rn rfl (am_rs rfl (ok_iload_n (k := 2) dd_162_38 rfl rfl) (am_rs rfl (ok_aload_n (k := 0) dd_162_39 rfl rfl) (am_rz))))))))
theorem kb_162_5 : am_row mi_162 40 kr_162_5 := am_rs rfl (ok_gf dd_162_40 rfl am_ck12 (by decide) (Or.inl w_946)) (am_rn rfl (am_rn rfl (am_rs rfl (ok_iconst dd_162_43 ic_3 rfl) (am_rs rfl (ok_iload dd_162_44 rfl) (am_rn rfl (am_rs rfl (ok_imul dd_162_46 rfl) (am_rs rfl (ok_iconst dd_162_47 ic_1 rfl) (am_rz))))))))
theorem kb_162_6 : am_row mi_162 48 kr_162_6 := am_rs rfl (ok_iadd dd_162_48 rfl) (am_rs rfl (ok_iald dd_162_49 rfl) (am_rs rfl (ok_cs (M' := mi_158) dd_162_50 rfl rfl w_1204 w_1205 ⟨lk_158.1, lk_158.2.1, lk_158.2.2, by decide, by decide⟩) (am_rn rfl (am_rn rfl (am_rs rfl (ok_ifc dd_162_53 (by decide) rfl) (am_rn rfl (am_rn rfl (am_rz))))))))
theorem kb_162_7 : am_row mi_162 56 kr_162_7 := am_rs rfl (ok_iconst dd_162_56 ic_1 rfl) (am_rs rfl (ok_goto dd_162_57 (by decide)) (am_rn rfl (am_rn rfl (am_rs rfl (ok_iconst dd_162_60 ic_0 rfl) (am_rs rfl (ok_istore dd_162_61 rfl (by decide)) (am_rn rfl (am_rs rfl (ok_iload_n (k := 2) dd_162_63 rfl rfl) (am_rz))))))))
theorem kb_162_8 : am_row mi_162 64 kr_162_8 := am_rs rfl (ok_iload dd_162_64 rfl) (am_rn rfl (am_rs rfl (ok_ifc dd_162_66 (by decide) rfl) (am_rn rfl (am_rn rfl (am_rs rfl (ok_iconst dd_162_69 ic_1 rfl) (am_rs rfl (ok_aload_n (k := 0) dd_162_70 rfl rfl) (am_rs rfl (ok_gf dd_162_71 rfl am_ck12 (by decide) (Or.inl w_946)) (am_rz))))))))
theorem kb_162_9 : am_row mi_162 72 kr_162_9 := am_rn rfl (am_rn rfl (am_rs rfl (ok_iconst dd_162_74 ic_3 rfl) (am_rs rfl (ok_iload dd_162_75 rfl) (am_rn rfl (am_rs rfl (ok_imul dd_162_77 rfl) (am_rs rfl (ok_iconst dd_162_78 ic_2 rfl) (am_rs rfl (ok_iadd dd_162_79 rfl) (am_rz))))))))
theorem kb_162_10 : am_row mi_162 80 kr_162_10 := am_rs rfl (ok_iald dd_162_80 rfl) (am_rs rfl (ok_ishl dd_162_81 rfl) (am_rs rfl (ok_goto dd_162_82 (by decide)) (am_rn rfl (am_rn rfl (am_rs rfl (ok_iconst dd_162_85 ic_0 rfl) (am_rs rfl (ok_ior dd_162_86 rfl) (am_rs rfl (ok_istore_n (k := 2) dd_162_87 rfl rfl (by decide)) (am_rz))))))))
theorem kb_162_11 : am_row mi_162 88 kr_162_11 := am_rs rfl (ok_iinc dd_162_88 ic_1 rfl (by decide)) (am_rn rfl (am_rn rfl (am_rs rfl (ok_goto dd_162_91 (by decide)) (am_rn rfl (am_rn rfl (am_rs rfl (ok_iinc dd_162_94 ic_1 rfl (by decide)) (am_rn rfl (am_rz))))))))
theorem kb_162_12 : am_row mi_162 96 kr_162_12 := am_rn rfl (am_rs rfl (ok_goto dd_162_97 (by decide)) (am_rn rfl (am_rn rfl (am_rs rfl (ok_iload_n (k := 2) dd_162_100 rfl rfl) (am_rs rfl (ok_iret dd_162_101 rfl) (am_rz))))))
theorem ck_162 : am_rows mi_162 0 cd_162 := am_bs rfl kb_162_0 (am_bs rfl kb_162_1 (am_bs rfl kb_162_2 (am_bs rfl kb_162_3 (am_bs rfl kb_162_4 (am_bs rfl kb_162_5 (am_bs rfl kb_162_6 (am_bs rfl kb_162_7 (am_bs rfl kb_162_8 (am_bs rfl kb_162_9 (am_bs rfl kb_162_10 (am_bs rfl kb_162_11 (am_bs rfl kb_162_12 (am_bz)))))))))))))
/-- OverAndBackModel.watcher(II)I -/
noncomputable def kr_163_0 : List (Option am_Op) := [some (am_ald0 0 1), some (am_ild 1 2), some (am_cv 164 1 12 5), none, none, some (am_br1 .eq 17 8), none, none]
noncomputable def kr_163_1 : List (Option am_Op) := [some (am_ild 2 9), some (am_psh (.retAddr 0) 10), some (am_psh (.retAddr 5) 11), some (am_cs 133 3 14), none, none, some (am_br1 .ne 19 17), none]
noncomputable def kr_163_2 : List (Option am_Op) := [none, some (am_psh (.retAddr 4294967295) 18), some (am_iret), some (am_ald0 0 20), some (am_psh (.retAddr 0) 21), some (am_psh (.retAddr 4294967292) 23), none, some (am_cv 155 2 12 26)]
noncomputable def kr_163_3 : List (Option am_Op) := [none, none, some (am_ald0 0 27), some (am_ild 1 28), some (am_cv 165 1 12 31), none, none, some (am_ild 2 32)]
noncomputable def kr_163_4 : List (Option am_Op) := [some (am_tsw 0 [68, 68, 79, 84, 93] 98), none, none, none, none, none, none, none]
noncomputable def kr_163_5 : List (Option am_Op) := [none, none, none, none, none, none, none, none]
noncomputable def kr_163_6 : List (Option am_Op) := [none, none, none, none, none, none, none, none]
noncomputable def kr_163_7 : List (Option am_Op) := [none, none, none, none, none, none, none, none]
noncomputable def kr_163_8 : List (Option am_Op) := [none, none, none, none, some (am_ald0 0 69), some (am_gf 12 13 72), none, none]
noncomputable def kr_163_9 : List (Option am_Op) := [some (am_psh (.retAddr 2) 73), some (am_ild 1 74), some (am_bin am_mul 75), some (am_ild 2 76), some (am_bin am_add 77), some (am_ald 0 78), some (am_iret), some (am_ald0 0 80)]
noncomputable def kr_163_10 : List (Option am_Op) := [some (am_gf 12 36 83), none, none, some (am_iret), some (am_ald0 0 85), some (am_ald0 0 86), some (am_gf 12 37 89), none]
noncomputable def kr_163_11 : List (Option am_Op) := [none, some (am_cv 162 1 12 92), none, none, some (am_iret), some (am_ald0 0 94), some (am_gf 12 38 97), none]
noncomputable def kr_163_12 : List (Option am_Op) := [none, some (am_iret), some (am_ald0 0 99), some (am_cv 172 0 12 102), none, none, some (am_ald0 0 103), some (am_gf 12 46 106)]
noncomputable def kr_163_13 : List (Option am_Op) := [none, none, some (am_ald0 0 107), some (am_gf 12 13 110), none, none, some (am_psh (.retAddr 2) 111), some (am_ild 1 112)]
noncomputable def kr_163_14 : List (Option am_Op) := [some (am_bin am_mul 113), some (am_psh (.retAddr 1) 114), some (am_bin am_add 115), some (am_ald 0 116), some (am_ald 0 117), some (am_ald0 0 118), some (am_gf 12 36 121), none]
noncomputable def kr_163_15 : List (Option am_Op) := [none, some (am_bin am_sub 122), some (am_iret)]
noncomputable def cd_163 : am_Cd := [kr_163_0, kr_163_1, kr_163_2, kr_163_3, kr_163_4, kr_163_5, kr_163_6, kr_163_7, kr_163_8, kr_163_9, kr_163_10, kr_163_11, kr_163_12, kr_163_13, kr_163_14, kr_163_15]
theorem dd_163_0 : decode prog_14_method_45_code 0 = .ok (.aload_n 0, 1) := by decide +kernel
theorem dd_163_1 : decode prog_14_method_45_code 1 = .ok (.iload_n 1, 1) := by decide +kernel
theorem dd_163_2 : decode prog_14_method_45_code 2 = .ok (.invokevirtual 285, 3) := by decide +kernel
theorem dd_163_5 : decode prog_14_method_45_code 5 = .ok (.ifCond .eq 12, 3) := by decide +kernel
theorem dd_163_8 : decode prog_14_method_45_code 8 = .ok (.iload_n 2, 1) := by decide +kernel
theorem dd_163_9 : decode prog_14_method_45_code 9 = .ok (.iconst 0, 1) := by decide +kernel
theorem dd_163_10 : decode prog_14_method_45_code 10 = .ok (.iconst 5, 1) := by decide +kernel
theorem dd_163_11 : decode prog_14_method_45_code 11 = .ok (.invokestatic 116, 3) := by decide +kernel
theorem dd_163_14 : decode prog_14_method_45_code 14 = .ok (.ifCond .ne 5, 3) := by decide +kernel
theorem dd_163_17 : decode prog_14_method_45_code 17 = .ok (.iconst (-1), 1) := by decide +kernel
theorem dd_163_18 : decode prog_14_method_45_code 18 = .ok (.ireturn, 1) := by decide +kernel
theorem dd_163_19 : decode prog_14_method_45_code 19 = .ok (.aload_n 0, 1) := by decide +kernel
theorem dd_163_20 : decode prog_14_method_45_code 20 = .ok (.iconst 0, 1) := by decide +kernel
theorem dd_163_21 : decode prog_14_method_45_code 21 = .ok (.bipush (-4), 2) := by decide +kernel
theorem dd_163_23 : decode prog_14_method_45_code 23 = .ok (.invokevirtual 246, 3) := by decide +kernel
theorem dd_163_26 : decode prog_14_method_45_code 26 = .ok (.aload_n 0, 1) := by decide +kernel
theorem dd_163_27 : decode prog_14_method_45_code 27 = .ok (.iload_n 1, 1) := by decide +kernel
theorem dd_163_28 : decode prog_14_method_45_code 28 = .ok (.invokevirtual 288, 3) := by decide +kernel
theorem dd_163_31 : decode prog_14_method_45_code 31 = .ok (.iload_n 2, 1) := by decide +kernel
theorem dd_163_32 : decode prog_14_method_45_code 32 = .ok (.tableswitch 66 ((0 : Nat) : Int) 4 #[36, 36, 47, 52, 61], 36) := by decide +kernel
theorem dd_163_68 : decode prog_14_method_45_code 68 = .ok (.aload_n 0, 1) := by decide +kernel
theorem dd_163_69 : decode prog_14_method_45_code 69 = .ok (.getfield 47, 3) := by decide +kernel
theorem dd_163_72 : decode prog_14_method_45_code 72 = .ok (.iconst 2, 1) := by decide +kernel
theorem dd_163_73 : decode prog_14_method_45_code 73 = .ok (.iload_n 1, 1) := by decide +kernel
theorem dd_163_74 : decode prog_14_method_45_code 74 = .ok (.imul, 1) := by decide +kernel
theorem dd_163_75 : decode prog_14_method_45_code 75 = .ok (.iload_n 2, 1) := by decide +kernel
theorem dd_163_76 : decode prog_14_method_45_code 76 = .ok (.iadd, 1) := by decide +kernel
theorem dd_163_77 : decode prog_14_method_45_code 77 = .ok (.iaload, 1) := by decide +kernel
theorem dd_163_78 : decode prog_14_method_45_code 78 = .ok (.ireturn, 1) := by decide +kernel
theorem dd_163_79 : decode prog_14_method_45_code 79 = .ok (.aload_n 0, 1) := by decide +kernel
theorem dd_163_80 : decode prog_14_method_45_code 80 = .ok (.getfield 256, 3) := by decide +kernel
theorem dd_163_83 : decode prog_14_method_45_code 83 = .ok (.ireturn, 1) := by decide +kernel
theorem dd_163_84 : decode prog_14_method_45_code 84 = .ok (.aload_n 0, 1) := by decide +kernel
theorem dd_163_85 : decode prog_14_method_45_code 85 = .ok (.aload_n 0, 1) := by decide +kernel
theorem dd_163_86 : decode prog_14_method_45_code 86 = .ok (.getfield 259, 3) := by decide +kernel
theorem dd_163_89 : decode prog_14_method_45_code 89 = .ok (.invokevirtual 253, 3) := by decide +kernel
theorem dd_163_92 : decode prog_14_method_45_code 92 = .ok (.ireturn, 1) := by decide +kernel
theorem dd_163_93 : decode prog_14_method_45_code 93 = .ok (.aload_n 0, 1) := by decide +kernel
theorem dd_163_94 : decode prog_14_method_45_code 94 = .ok (.getfield 262, 3) := by decide +kernel
theorem dd_163_97 : decode prog_14_method_45_code 97 = .ok (.ireturn, 1) := by decide +kernel
theorem dd_163_98 : decode prog_14_method_45_code 98 = .ok (.aload_n 0, 1) := by decide +kernel
theorem dd_163_99 : decode prog_14_method_45_code 99 = .ok (.invokevirtual 291, 3) := by decide +kernel
theorem dd_163_102 : decode prog_14_method_45_code 102 = .ok (.aload_n 0, 1) := by decide +kernel
theorem dd_163_103 : decode prog_14_method_45_code 103 = .ok (.getfield 96, 3) := by decide +kernel
theorem dd_163_106 : decode prog_14_method_45_code 106 = .ok (.aload_n 0, 1) := by decide +kernel
theorem dd_163_107 : decode prog_14_method_45_code 107 = .ok (.getfield 47, 3) := by decide +kernel
theorem dd_163_110 : decode prog_14_method_45_code 110 = .ok (.iconst 2, 1) := by decide +kernel
theorem dd_163_111 : decode prog_14_method_45_code 111 = .ok (.iload_n 1, 1) := by decide +kernel
theorem dd_163_112 : decode prog_14_method_45_code 112 = .ok (.imul, 1) := by decide +kernel
theorem dd_163_113 : decode prog_14_method_45_code 113 = .ok (.iconst 1, 1) := by decide +kernel
theorem dd_163_114 : decode prog_14_method_45_code 114 = .ok (.iadd, 1) := by decide +kernel
theorem dd_163_115 : decode prog_14_method_45_code 115 = .ok (.iaload, 1) := by decide +kernel
theorem dd_163_116 : decode prog_14_method_45_code 116 = .ok (.iaload, 1) := by decide +kernel
theorem dd_163_117 : decode prog_14_method_45_code 117 = .ok (.aload_n 0, 1) := by decide +kernel
theorem dd_163_118 : decode prog_14_method_45_code 118 = .ok (.getfield 256, 3) := by decide +kernel
theorem dd_163_121 : decode prog_14_method_45_code 121 = .ok (.isub, 1) := by decide +kernel
theorem dd_163_122 : decode prog_14_method_45_code 122 = .ok (.ireturn, 1) := by decide +kernel
theorem kb_163_0 : am_row mi_163 0 kr_163_0 := am_rs rfl (ok_aload_n (k := 0) dd_163_0 rfl rfl) (am_rs rfl (ok_iload_n (k := 1) dd_163_1 rfl rfl) (am_rs rfl (ok_cv (M' := mi_164) dd_163_2 rfl rfl w_1226 w_1228 ps_164 ⟨lk_164.1, lk_164.2.1, lk_164.2.2, by decide, by decide⟩ rfl) (am_rn rfl (am_rn rfl (am_rs rfl (ok_ifc dd_163_5 (by decide) rfl) (am_rn rfl (am_rn rfl (am_rz))))))))
theorem kb_163_1 : am_row mi_163 8 kr_163_1 := am_rs rfl (ok_iload_n (k := 2) dd_163_8 rfl rfl) (am_rs rfl (ok_iconst dd_163_9 ic_0 rfl) (am_rs rfl (ok_iconst dd_163_10 ic_5 rfl) (am_rs rfl (ok_cs (M' := mi_133) dd_163_11 rfl rfl w_1106 w_1107 ⟨lk_133.1, lk_133.2.1, lk_133.2.2, by decide, by decide⟩) (am_rn rfl (am_rn rfl (am_rs rfl (ok_ifc dd_163_14 (by decide) rfl) (am_rn rfl (am_rz))))))))
theorem kb_163_2 : am_row mi_163 16 kr_163_2 := am_rn rfl (am_rs rfl (ok_iconst dd_163_17 ic_m1 rfl) (am_rs rfl (ok_iret dd_163_18 rfl) (am_rs rfl (ok_aload_n (k := 0) dd_163_19 rfl rfl) (am_rs rfl (ok_iconst dd_163_20 ic_0 rfl) (am_rs rfl (ok_bipush dd_163_21 bi_m4 rfl) (am_rn rfl (am_rs rfl (ok_cv (M' := mi_155) dd_163_23 rfl rfl w_1192 w_1194 ps_155 ⟨lk_155.1, lk_155.2.1, lk_155.2.2, by decide, by decide⟩ rfl) (am_rz))))))))
theorem kb_163_3 : am_row mi_163 24 kr_163_3 := am_rn rfl (am_rn rfl (am_rs rfl (ok_aload_n (k := 0) dd_163_26 rfl rfl) (am_rs rfl (ok_iload_n (k := 1) dd_163_27 rfl rfl) (am_rs rfl (ok_cv (M' := mi_165) dd_163_28 rfl rfl w_1230 w_1232 ps_165 ⟨lk_165.1, lk_165.2.1, lk_165.2.2, by decide, by decide⟩ rfl) (am_rn rfl (am_rn rfl (am_rs rfl (ok_iload_n (k := 2) dd_163_31 rfl rfl) (am_rz))))))))
theorem kb_163_4 : am_row mi_163 32 kr_163_4 := am_rs rfl (ok_tsw dd_163_32 (by decide) (by decide) (by decide) (by decide)) (am_rn rfl (am_rn rfl (am_rn rfl (am_rn rfl (am_rn rfl (am_rn rfl (am_rn rfl (am_rz))))))))
theorem kb_163_5 : am_row mi_163 40 kr_163_5 := am_rn rfl (am_rn rfl (am_rn rfl (am_rn rfl (am_rn rfl (am_rn rfl (am_rn rfl (am_rn rfl (am_rz))))))))
theorem kb_163_6 : am_row mi_163 48 kr_163_6 := am_rn rfl (am_rn rfl (am_rn rfl (am_rn rfl (am_rn rfl (am_rn rfl (am_rn rfl (am_rn rfl (am_rz))))))))
theorem kb_163_7 : am_row mi_163 56 kr_163_7 := am_rn rfl (am_rn rfl (am_rn rfl (am_rn rfl (am_rn rfl (am_rn rfl (am_rn rfl (am_rn rfl (am_rz))))))))
theorem kb_163_8 : am_row mi_163 64 kr_163_8 := am_rn rfl (am_rn rfl (am_rn rfl (am_rn rfl (am_rs rfl (ok_aload_n (k := 0) dd_163_68 rfl rfl) (am_rs rfl (ok_gf dd_163_69 rfl am_ck12 (by decide) (Or.inl w_948)) (am_rn rfl (am_rn rfl (am_rz))))))))
theorem kb_163_9 : am_row mi_163 72 kr_163_9 := am_rs rfl (ok_iconst dd_163_72 ic_2 rfl) (am_rs rfl (ok_iload_n (k := 1) dd_163_73 rfl rfl) (am_rs rfl (ok_imul dd_163_74 rfl) (am_rs rfl (ok_iload_n (k := 2) dd_163_75 rfl rfl) (am_rs rfl (ok_iadd dd_163_76 rfl) (am_rs rfl (ok_iald dd_163_77 rfl) (am_rs rfl (ok_iret dd_163_78 rfl) (am_rs rfl (ok_aload_n (k := 0) dd_163_79 rfl rfl) (am_rz))))))))
theorem kb_163_10 : am_row mi_163 80 kr_163_10 := am_rs rfl (ok_gf dd_163_80 rfl am_ck12 (by decide) (Or.inl w_971)) (am_rn rfl (am_rn rfl (am_rs rfl (ok_iret dd_163_83 rfl) (am_rs rfl (ok_aload_n (k := 0) dd_163_84 rfl rfl) (am_rs rfl (ok_aload_n (k := 0) dd_163_85 rfl rfl) (am_rs rfl (ok_gf dd_163_86 rfl am_ck12 (by decide) (Or.inl w_972)) (am_rn rfl (am_rz))))))))
theorem kb_163_11 : am_row mi_163 88 kr_163_11 := am_rn rfl (am_rs rfl (ok_cv (M' := mi_162) dd_163_89 rfl rfl w_1218 w_1220 ps_162 ⟨lk_162.1, lk_162.2.1, lk_162.2.2, by decide, by decide⟩ rfl) (am_rn rfl (am_rn rfl (am_rs rfl (ok_iret dd_163_92 rfl) (am_rs rfl (ok_aload_n (k := 0) dd_163_93 rfl rfl) (am_rs rfl (ok_gf dd_163_94 rfl am_ck12 (by decide) (Or.inl w_973)) (am_rn rfl (am_rz))))))))
theorem kb_163_12 : am_row mi_163 96 kr_163_12 := am_rn rfl (am_rs rfl (ok_iret dd_163_97 rfl) (am_rs rfl (ok_aload_n (k := 0) dd_163_98 rfl rfl) (am_rs rfl (ok_cv (M' := mi_172) dd_163_99 rfl rfl w_1258 w_1260 ps_172 ⟨lk_172.1, lk_172.2.1, lk_172.2.2, by decide, by decide⟩ rfl) (am_rn rfl (am_rn rfl (am_rs rfl (ok_aload_n (k := 0) dd_163_102 rfl rfl) (am_rs rfl (ok_gf dd_163_103 rfl am_ck12 (by decide) (Or.inl w_981)) (am_rz))))))))
theorem kb_163_13 : am_row mi_163 104 kr_163_13 := am_rn rfl (am_rn rfl (am_rs rfl (ok_aload_n (k := 0) dd_163_106 rfl rfl) (am_rs rfl (ok_gf dd_163_107 rfl am_ck12 (by decide) (Or.inl w_948)) (am_rn rfl (am_rn rfl (am_rs rfl (ok_iconst dd_163_110 ic_2 rfl) (am_rs rfl (ok_iload_n (k := 1) dd_163_111 rfl rfl) (am_rz))))))))
theorem kb_163_14 : am_row mi_163 112 kr_163_14 := am_rs rfl (ok_imul dd_163_112 rfl) (am_rs rfl (ok_iconst dd_163_113 ic_1 rfl) (am_rs rfl (ok_iadd dd_163_114 rfl) (am_rs rfl (ok_iald dd_163_115 rfl) (am_rs rfl (ok_iald dd_163_116 rfl) (am_rs rfl (ok_aload_n (k := 0) dd_163_117 rfl rfl) (am_rs rfl (ok_gf dd_163_118 rfl am_ck12 (by decide) (Or.inl w_971)) (am_rn rfl (am_rz))))))))
theorem kb_163_15 : am_row mi_163 120 kr_163_15 := am_rn rfl (am_rs rfl (ok_isub dd_163_121 rfl) (am_rs rfl (ok_iret dd_163_122 rfl) (am_rz)))
theorem ck_163 : am_rows mi_163 0 cd_163 := am_bs rfl kb_163_0 (am_bs rfl kb_163_1 (am_bs rfl kb_163_2 (am_bs rfl kb_163_3 (am_bs rfl kb_163_4 (am_bs rfl kb_163_5 (am_bs rfl kb_163_6 (am_bs rfl kb_163_7 (am_bs rfl kb_163_8 (am_bs rfl kb_163_9 (am_bs rfl kb_163_10 (am_bs rfl kb_163_11 (am_bs rfl kb_163_12 (am_bs rfl kb_163_13 (am_bs rfl kb_163_14 (am_bs rfl kb_163_15 (am_bz))))))))))))))))
/-- OverAndBackModel.isWatcher(I)Z -/
noncomputable def kr_164_0 : List (Option am_Op) := [some (am_ild 1 1), some (am_psh (.retAddr 0) 2), some (am_ald0 0 3), some (am_gf 12 12 6), none, none, some (am_psh (.retAddr 1) 7), some (am_bin am_sub 8)]
noncomputable def kr_164_1 : List (Option am_Op) := [some (am_cs 133 3 11), none, none, some (am_zret)]
noncomputable def cd_164 : am_Cd := [kr_164_0, kr_164_1]
theorem dd_164_0 : decode prog_14_method_9_code 0 = .ok (.iload_n 1, 1) := by decide +kernel
theorem dd_164_1 : decode prog_14_method_9_code 1 = .ok (.iconst 0, 1) := by decide +kernel
theorem dd_164_2 : decode prog_14_method_9_code 2 = .ok (.aload_n 0, 1) := by decide +kernel
theorem dd_164_3 : decode prog_14_method_9_code 3 = .ok (.getfield 44, 3) := by decide +kernel
theorem dd_164_6 : decode prog_14_method_9_code 6 = .ok (.iconst 1, 1) := by decide +kernel
theorem dd_164_7 : decode prog_14_method_9_code 7 = .ok (.isub, 1) := by decide +kernel
theorem dd_164_8 : decode prog_14_method_9_code 8 = .ok (.invokestatic 116, 3) := by decide +kernel
theorem dd_164_11 : decode prog_14_method_9_code 11 = .ok (.ireturn, 1) := by decide +kernel
theorem kb_164_0 : am_row mi_164 0 kr_164_0 := am_rs rfl (ok_iload_n (k := 1) dd_164_0 rfl rfl) (am_rs rfl (ok_iconst dd_164_1 ic_0 rfl) (am_rs rfl (ok_aload_n (k := 0) dd_164_2 rfl rfl) (am_rs rfl (ok_gf dd_164_3 rfl am_ck12 (by decide) (Or.inl w_947)) (am_rn rfl (am_rn rfl (am_rs rfl (ok_iconst dd_164_6 ic_1 rfl) (am_rs rfl (ok_isub dd_164_7 rfl) (am_rz))))))))
theorem kb_164_1 : am_row mi_164 8 kr_164_1 := am_rs rfl (ok_cs (M' := mi_133) dd_164_8 rfl rfl w_1106 w_1107 ⟨lk_133.1, lk_133.2.1, lk_133.2.2, by decide, by decide⟩) (am_rn rfl (am_rn rfl (am_rs rfl (ok_zret dd_164_11 rfl) (am_rz))))
theorem ck_164 : am_rows mi_164 0 cd_164 := am_bs rfl kb_164_0 (am_bs rfl kb_164_1 (am_bz))
/-- OverAndBackModel.watchesOf(I)V -/
noncomputable def kr_165_0 : List (Option am_Op) := [some (am_ald0 0 1), some (am_ald0 0 2), some (am_gf 12 13 5), none, none, some (am_psh (.retAddr 2) 6), some (am_ild 1 7), some (am_bin am_mul 8)]
noncomputable def kr_165_1 : List (Option am_Op) := [some (am_ald 0 9), some (am_ald0 0 10), some (am_gf 12 13 13), none, none, some (am_psh (.retAddr 2) 14), some (am_ild 1 15), some (am_bin am_mul 16)]
noncomputable def kr_165_2 : List (Option am_Op) := [some (am_psh (.retAddr 1) 17), some (am_bin am_add 18), some (am_ald 0 19), some (am_cv 166 2 12 22), none, none, some (am_vret)]
noncomputable def cd_165 : am_Cd := [kr_165_0, kr_165_1, kr_165_2]
theorem dd_165_0 : decode prog_14_method_44_code 0 = .ok (.aload_n 0, 1) := by decide +kernel
theorem dd_165_1 : decode prog_14_method_44_code 1 = .ok (.aload_n 0, 1) := by decide +kernel
theorem dd_165_2 : decode prog_14_method_44_code 2 = .ok (.getfield 47, 3) := by decide +kernel
theorem dd_165_5 : decode prog_14_method_44_code 5 = .ok (.iconst 2, 1) := by decide +kernel
theorem dd_165_6 : decode prog_14_method_44_code 6 = .ok (.iload_n 1, 1) := by decide +kernel
theorem dd_165_7 : decode prog_14_method_44_code 7 = .ok (.imul, 1) := by decide +kernel
theorem dd_165_8 : decode prog_14_method_44_code 8 = .ok (.iaload, 1) := by decide +kernel
theorem dd_165_9 : decode prog_14_method_44_code 9 = .ok (.aload_n 0, 1) := by decide +kernel
theorem dd_165_10 : decode prog_14_method_44_code 10 = .ok (.getfield 47, 3) := by decide +kernel
theorem dd_165_13 : decode prog_14_method_44_code 13 = .ok (.iconst 2, 1) := by decide +kernel
theorem dd_165_14 : decode prog_14_method_44_code 14 = .ok (.iload_n 1, 1) := by decide +kernel
theorem dd_165_15 : decode prog_14_method_44_code 15 = .ok (.imul, 1) := by decide +kernel
theorem dd_165_16 : decode prog_14_method_44_code 16 = .ok (.iconst 1, 1) := by decide +kernel
theorem dd_165_17 : decode prog_14_method_44_code 17 = .ok (.iadd, 1) := by decide +kernel
theorem dd_165_18 : decode prog_14_method_44_code 18 = .ok (.iaload, 1) := by decide +kernel
theorem dd_165_19 : decode prog_14_method_44_code 19 = .ok (.invokevirtual 282, 3) := by decide +kernel
theorem dd_165_22 : decode prog_14_method_44_code 22 = .ok (.return_, 1) := by decide +kernel
theorem kb_165_0 : am_row mi_165 0 kr_165_0 := am_rs rfl (ok_aload_n (k := 0) dd_165_0 rfl rfl) (am_rs rfl (ok_aload_n (k := 0) dd_165_1 rfl rfl) (am_rs rfl (ok_gf dd_165_2 rfl am_ck12 (by decide) (Or.inl w_948)) (am_rn rfl (am_rn rfl (am_rs rfl (ok_iconst dd_165_5 ic_2 rfl) (am_rs rfl (ok_iload_n (k := 1) dd_165_6 rfl rfl) (am_rs rfl (ok_imul dd_165_7 rfl) (am_rz))))))))
theorem kb_165_1 : am_row mi_165 8 kr_165_1 := am_rs rfl (ok_iald dd_165_8 rfl) (am_rs rfl (ok_aload_n (k := 0) dd_165_9 rfl rfl) (am_rs rfl (ok_gf dd_165_10 rfl am_ck12 (by decide) (Or.inl w_948)) (am_rn rfl (am_rn rfl (am_rs rfl (ok_iconst dd_165_13 ic_2 rfl) (am_rs rfl (ok_iload_n (k := 1) dd_165_14 rfl rfl) (am_rs rfl (ok_imul dd_165_15 rfl) (am_rz))))))))
theorem kb_165_2 : am_row mi_165 16 kr_165_2 := am_rs rfl (ok_iconst dd_165_16 ic_1 rfl) (am_rs rfl (ok_iadd dd_165_17 rfl) (am_rs rfl (ok_iald dd_165_18 rfl) (am_rs rfl (ok_cv (M' := mi_166) dd_165_19 rfl rfl w_1234 w_1236 ps_166 ⟨lk_166.1, lk_166.2.1, lk_166.2.2, by decide, by decide⟩ rfl) (am_rn rfl (am_rn rfl (am_rs rfl (ok_vret dd_165_22 rfl) (am_rz)))))))
theorem ck_165 : am_rows mi_165 0 cd_165 := am_bs rfl kb_165_0 (am_bs rfl kb_165_1 (am_bs rfl kb_165_2 (am_bz)))
/-- OverAndBackModel.watches(II)V -/
noncomputable def kr_166_0 : List (Option am_Op) := [some (am_ald0 0 1), some (am_cv 167 0 12 4), none, none, some (am_ild 2 5), some (am_ist 3 6), some (am_psh (.retAddr 0) 7), some (am_ist 4 9)]
noncomputable def kr_166_1 : List (Option am_Op) := [none, some (am_psh (.retAddr 0) 10), some (am_ist 5 12), none, some (am_ild 5 14), none, some (am_ald0 0 15), some (am_gf 12 0 18)]
noncomputable def kr_166_2 : List (Option am_Op) := [none, none, some (am_br2 .ge 111 21), none, none, some (am_ald0 0 22), some (am_gf 12 35 25), none]
noncomputable def kr_166_3 : List (Option am_Op) := [none, some (am_ild 5 27), none, some (am_psh (.retAddr 4294967292) 29), none, some (am_ast 0 (fun v => v) 30), some (am_ild 5 32), none]
noncomputable def kr_166_4 : List (Option am_Op) := [some (am_ild 4 34), none, some (am_br2 .lt 105 37), none, none, some (am_ald0 0 38), some (am_ild 1 39), some (am_ild 2 40)]
noncomputable def kr_166_5 : List (Option am_Op) := [some (am_ild 3 41), some (am_ild 5 43), none, some (am_cv 168 4 12 46), none, none, some (am_ist 6 48), none]
noncomputable def kr_166_6 : List (Option am_Op) := [some (am_ald0 0 49), some (am_dup 50), some (am_gf 12 38 53), none, none, some (am_ild 6 55), none, some (am_ild 3 56)]
noncomputable def kr_166_7 : List (Option am_Op) := [some (am_br2 .ne 63 59), none, none, some (am_psh (.retAddr 0) 60), some (am_jmp 64), none, none, some (am_psh (.retAddr 1) 64)]
noncomputable def kr_166_8 : List (Option am_Op) := [some (am_bin am_add 65), some (am_pf 12 38 0 68), none, none, some (am_ild 6 70), none, some (am_ild 3 71), some (am_br2 .ne 79 74)]
noncomputable def kr_166_9 : List (Option am_Op) := [none, none, some (am_ild 5 76), none, some (am_jmp 86), none, none, some (am_ild 5 81)]
noncomputable def kr_166_10 : List (Option am_Op) := [none, some (am_ald0 0 82), some (am_gf 12 1 85), none, none, some (am_bin am_add 86), some (am_ist 4 88), none]
noncomputable def kr_166_11 : List (Option am_Op) := [some (am_ild 6 90), none, some (am_ist 3 91), some (am_ild 4 93), none, some (am_ild 5 95), none, some (am_br2 .ne 105 98)]
noncomputable def kr_166_12 : List (Option am_Op) := [none, none, some (am_ald0 0 99), some (am_ild 3 100), some (am_ild 5 102), none, some (am_cv 171 2 12 105), none]
noncomputable def kr_166_13 : List (Option am_Op) := [none, some (am_inc 5 1 108), none, none, some (am_jmp 12), none, none, some (am_vret)]
noncomputable def cd_166 : am_Cd := [kr_166_0, kr_166_1, kr_166_2, kr_166_3, kr_166_4, kr_166_5, kr_166_6, kr_166_7, kr_166_8, kr_166_9, kr_166_10, kr_166_11, kr_166_12, kr_166_13]
theorem dd_166_0 : decode prog_14_method_43_code 0 = .ok (.aload_n 0, 1) := by decide +kernel
theorem dd_166_1 : decode prog_14_method_43_code 1 = .ok (.invokevirtual 272, 3) := by decide +kernel
theorem dd_166_4 : decode prog_14_method_43_code 4 = .ok (.iload_n 2, 1) := by decide +kernel
theorem dd_166_5 : decode prog_14_method_43_code 5 = .ok (.istore_n 3, 1) := by decide +kernel
theorem dd_166_6 : decode prog_14_method_43_code 6 = .ok (.iconst 0, 1) := by decide +kernel
theorem dd_166_7 : decode prog_14_method_43_code 7 = .ok (.istore 4, 2) := by decide +kernel
theorem dd_166_9 : decode prog_14_method_43_code 9 = .ok (.iconst 0, 1) := by decide +kernel
theorem dd_166_10 : decode prog_14_method_43_code 10 = .ok (.istore 5, 2) := by decide +kernel
theorem dd_166_12 : decode prog_14_method_43_code 12 = .ok (.iload 5, 2) := by decide +kernel
theorem dd_166_14 : decode prog_14_method_43_code 14 = .ok (.aload_n 0, 1) := by decide +kernel
theorem dd_166_15 : decode prog_14_method_43_code 15 = .ok (.getfield 7, 3) := by decide +kernel
theorem dd_166_18 : decode prog_14_method_43_code 18 = .ok (.if_icmp .ge 93, 3) := by decide +kernel
theorem dd_166_21 : decode prog_14_method_43_code 21 = .ok (.aload_n 0, 1) := by decide +kernel
theorem dd_166_22 : decode prog_14_method_43_code 22 = .ok (.getfield 84, 3) := by decide +kernel
theorem dd_166_25 : decode prog_14_method_43_code 25 = .ok (.iload 5, 2) := by decide +kernel
theorem dd_166_27 : decode prog_14_method_43_code 27 = .ok (.bipush (-4), 2) := by decide +kernel
theorem dd_166_29 : decode prog_14_method_43_code 29 = .ok (.iastore, 1) := by decide +kernel
theorem dd_166_30 : decode prog_14_method_43_code 30 = .ok (.iload 5, 2) := by decide +kernel
theorem dd_166_32 : decode prog_14_method_43_code 32 = .ok (.iload 4, 2) := by decide +kernel
theorem dd_166_34 : decode prog_14_method_43_code 34 = .ok (.if_icmp .lt 71, 3) := by decide +kernel
theorem dd_166_37 : decode prog_14_method_43_code 37 = .ok (.aload_n 0, 1) := by decide +kernel
theorem dd_166_38 : decode prog_14_method_43_code 38 = .ok (.iload_n 1, 1) := by decide +kernel
theorem dd_166_39 : decode prog_14_method_43_code 39 = .ok (.iload_n 2, 1) := by decide +kernel
theorem dd_166_40 : decode prog_14_method_43_code 40 = .ok (.iload_n 3, 1) := by decide +kernel
theorem dd_166_41 : decode prog_14_method_43_code 41 = .ok (.iload 5, 2) := by decide +kernel
theorem dd_166_43 : decode prog_14_method_43_code 43 = .ok (.invokevirtual 275, 3) := by decide +kernel
theorem dd_166_46 : decode prog_14_method_43_code 46 = .ok (.istore 6, 2) := by decide +kernel
theorem dd_166_48 : decode prog_14_method_43_code 48 = .ok (.aload_n 0, 1) := by decide +kernel
theorem dd_166_49 : decode prog_14_method_43_code 49 = .ok (.dup, 1) := by decide +kernel
theorem dd_166_50 : decode prog_14_method_43_code 50 = .ok (.getfield 262, 3) := by decide +kernel
theorem dd_166_53 : decode prog_14_method_43_code 53 = .ok (.iload 6, 2) := by decide +kernel
theorem dd_166_55 : decode prog_14_method_43_code 55 = .ok (.iload_n 3, 1) := by decide +kernel
theorem dd_166_56 : decode prog_14_method_43_code 56 = .ok (.if_icmp .ne 7, 3) := by decide +kernel
theorem dd_166_59 : decode prog_14_method_43_code 59 = .ok (.iconst 0, 1) := by decide +kernel
theorem dd_166_60 : decode prog_14_method_43_code 60 = .ok (.goto 4, 3) := by decide +kernel
theorem dd_166_63 : decode prog_14_method_43_code 63 = .ok (.iconst 1, 1) := by decide +kernel
theorem dd_166_64 : decode prog_14_method_43_code 64 = .ok (.iadd, 1) := by decide +kernel
theorem dd_166_65 : decode prog_14_method_43_code 65 = .ok (.putfield 262, 3) := by decide +kernel
theorem dd_166_68 : decode prog_14_method_43_code 68 = .ok (.iload 6, 2) := by decide +kernel
theorem dd_166_70 : decode prog_14_method_43_code 70 = .ok (.iload_n 3, 1) := by decide +kernel
theorem dd_166_71 : decode prog_14_method_43_code 71 = .ok (.if_icmp .ne 8, 3) := by decide +kernel
theorem dd_166_74 : decode prog_14_method_43_code 74 = .ok (.iload 5, 2) := by decide +kernel
theorem dd_166_76 : decode prog_14_method_43_code 76 = .ok (.goto 10, 3) := by decide +kernel
theorem dd_166_79 : decode prog_14_method_43_code 79 = .ok (.iload 5, 2) := by decide +kernel
theorem dd_166_81 : decode prog_14_method_43_code 81 = .ok (.aload_n 0, 1) := by decide +kernel
theorem dd_166_82 : decode prog_14_method_43_code 82 = .ok (.getfield 13, 3) := by decide +kernel
theorem dd_166_85 : decode prog_14_method_43_code 85 = .ok (.iadd, 1) := by decide +kernel
theorem dd_166_86 : decode prog_14_method_43_code 86 = .ok (.istore 4, 2) := by decide +kernel
theorem dd_166_88 : decode prog_14_method_43_code 88 = .ok (.iload 6, 2) := by decide +kernel
theorem dd_166_90 : decode prog_14_method_43_code 90 = .ok (.istore_n 3, 1) := by decide +kernel
theorem dd_166_91 : decode prog_14_method_43_code 91 = .ok (.iload 4, 2) := by decide +kernel
theorem dd_166_93 : decode prog_14_method_43_code 93 = .ok (.iload 5, 2) := by decide +kernel
theorem dd_166_95 : decode prog_14_method_43_code 95 = .ok (.if_icmp .ne 10, 3) := by decide +kernel
theorem dd_166_98 : decode prog_14_method_43_code 98 = .ok (.aload_n 0, 1) := by decide +kernel
theorem dd_166_99 : decode prog_14_method_43_code 99 = .ok (.iload_n 3, 1) := by decide +kernel
theorem dd_166_100 : decode prog_14_method_43_code 100 = .ok (.iload 5, 2) := by decide +kernel
theorem dd_166_102 : decode prog_14_method_43_code 102 = .ok (.invokevirtual 279, 3) := by decide +kernel
theorem dd_166_105 : decode prog_14_method_43_code 105 = .ok (.iinc 5 1, 3) := by decide +kernel
theorem dd_166_108 : decode prog_14_method_43_code 108 = .ok (.goto (-96), 3) := by decide +kernel
theorem dd_166_111 : decode prog_14_method_43_code 111 = .ok (.return_, 1) := by decide +kernel
theorem kb_166_0 : am_row mi_166 0 kr_166_0 := am_rs rfl (ok_aload_n (k := 0) dd_166_0 rfl rfl) (am_rs rfl (ok_cv (M' := mi_167) dd_166_1 rfl rfl w_1238 w_1240 ps_167 ⟨lk_167.1, lk_167.2.1, lk_167.2.2, by decide, by decide⟩ rfl) (am_rn rfl (am_rn rfl (am_rs rfl (ok_iload_n (k := 2) dd_166_4 rfl rfl) (am_rs rfl (ok_istore_n (k := 3) dd_166_5 rfl rfl (by decide)) (am_rs rfl (ok_iconst dd_166_6 ic_0 rfl) (am_rs rfl (ok_istore dd_166_7 rfl (by decide)) (am_rz))))))))
theorem kb_166_1 : am_row mi_166 8 kr_166_1 := am_rn rfl (am_rs rfl (ok_iconst dd_166_9 ic_0 rfl) (am_rs rfl (ok_istore dd_166_10 rfl (by decide)) (am_rn rfl (am_rs rfl (ok_iload dd_166_12 rfl) (am_rn rfl (am_rs rfl (ok_aload_n (k := 0) dd_166_14 rfl rfl) (am_rs rfl (ok_gf dd_166_15 rfl am_ck12 (by decide) (Or.inl w_935)) (am_rz))))))))
theorem kb_166_2 : am_row mi_166 16 kr_166_2 := am_rn rfl (am_rn rfl (am_rs rfl (ok_icmp dd_166_18 (by decide) rfl) (am_rn rfl (am_rn rfl (am_rs rfl (ok_aload_n (k := 0) dd_166_21 rfl rfl) (am_rs rfl (ok_gf dd_166_22 rfl am_ck12 (by decide) (Or.inl w_970)) (am_rn rfl (am_rz))))))))
theorem kb_166_3 : am_row mi_166 24 kr_166_3 := am_rn rfl (am_rs rfl (ok_iload dd_166_25 rfl) (am_rn rfl (am_rs rfl (ok_bipush dd_166_27 bi_m4 rfl) (am_rn rfl (am_rs rfl (ok_iast dd_166_29 rfl) (am_rs rfl (ok_iload dd_166_30 rfl) (am_rn rfl (am_rz))))))))
theorem kb_166_4 : am_row mi_166 32 kr_166_4 := am_rs rfl (ok_iload dd_166_32 rfl) (am_rn rfl (am_rs rfl (ok_icmp dd_166_34 (by decide) rfl) (am_rn rfl (am_rn rfl (am_rs rfl (ok_aload_n (k := 0) dd_166_37 rfl rfl) (am_rs rfl (ok_iload_n (k := 1) dd_166_38 rfl rfl) (am_rs rfl (ok_iload_n (k := 2) dd_166_39 rfl rfl) (am_rz))))))))
theorem kb_166_5 : am_row mi_166 40 kr_166_5 := am_rs rfl (ok_iload_n (k := 3) dd_166_40 rfl rfl) (am_rs rfl (ok_iload dd_166_41 rfl) (am_rn rfl (am_rs rfl (ok_cv (M' := mi_168) dd_166_43 rfl rfl w_1242 w_1244 ps_168 ⟨lk_168.1, lk_168.2.1, lk_168.2.2, by decide, by decide⟩ rfl) (am_rn rfl (am_rn rfl (am_rs rfl (ok_istore dd_166_46 rfl (by decide)) (am_rn rfl (am_rz))))))))
theorem kb_166_6 : am_row mi_166 48 kr_166_6 := am_rs rfl (ok_aload_n (k := 0) dd_166_48 rfl rfl) (am_rs rfl (ok_dup dd_166_49 rfl) (am_rs rfl (ok_gf dd_166_50 rfl am_ck12 (by decide) (Or.inl w_973)) (am_rn rfl (am_rn rfl (am_rs rfl (ok_iload dd_166_53 rfl) (am_rn rfl (am_rs rfl (ok_iload_n (k := 3) dd_166_55 rfl rfl) (am_rz))))))))
theorem kb_166_7 : am_row mi_166 56 kr_166_7 := am_rs rfl (ok_icmp dd_166_56 (by decide) rfl) (am_rn rfl (am_rn rfl (am_rs rfl (ok_iconst dd_166_59 ic_0 rfl) (am_rs rfl (ok_goto dd_166_60 (by decide)) (am_rn rfl (am_rn rfl (am_rs rfl (ok_iconst dd_166_63 ic_1 rfl) (am_rz))))))))
theorem kb_166_8 : am_row mi_166 64 kr_166_8 := am_rs rfl (ok_iadd dd_166_64 rfl) (am_rs rfl (ok_pf dd_166_65 rfl am_ck12 (by decide) (Or.inl w_973) (Or.inl rfl) rfl) (am_rn rfl (am_rn rfl (am_rs rfl (ok_iload dd_166_68 rfl) (am_rn rfl (am_rs rfl (ok_iload_n (k := 3) dd_166_70 rfl rfl) (am_rs rfl (ok_icmp dd_166_71 (by decide) rfl) (am_rz))))))))
theorem kb_166_9 : am_row mi_166 72 kr_166_9 := am_rn rfl (am_rn rfl (am_rs rfl (ok_iload dd_166_74 rfl) (am_rn rfl (am_rs rfl (ok_goto dd_166_76 (by decide)) (am_rn rfl (am_rn rfl (am_rs rfl (ok_iload dd_166_79 rfl) (am_rz))))))))
theorem kb_166_10 : am_row mi_166 80 kr_166_10 := am_rn rfl (am_rs rfl (ok_aload_n (k := 0) dd_166_81 rfl rfl) (am_rs rfl (ok_gf dd_166_82 rfl am_ck12 (by decide) (Or.inl w_936)) (am_rn rfl (am_rn rfl (am_rs rfl (ok_iadd dd_166_85 rfl) (am_rs rfl (ok_istore dd_166_86 rfl (by decide)) (am_rn rfl (am_rz))))))))
theorem kb_166_11 : am_row mi_166 88 kr_166_11 := am_rs rfl (ok_iload dd_166_88 rfl) (am_rn rfl (am_rs rfl (ok_istore_n (k := 3) dd_166_90 rfl rfl (by decide)) (am_rs rfl (ok_iload dd_166_91 rfl) (am_rn rfl (am_rs rfl (ok_iload dd_166_93 rfl) (am_rn rfl (am_rs rfl (ok_icmp dd_166_95 (by decide) rfl) (am_rz))))))))
theorem kb_166_12 : am_row mi_166 96 kr_166_12 := am_rn rfl (am_rn rfl (am_rs rfl (ok_aload_n (k := 0) dd_166_98 rfl rfl) (am_rs rfl (ok_iload_n (k := 3) dd_166_99 rfl rfl) (am_rs rfl (ok_iload dd_166_100 rfl) (am_rn rfl (am_rs rfl (ok_cv (M' := mi_171) dd_166_102 rfl rfl w_1254 w_1256 ps_171 ⟨lk_171.1, lk_171.2.1, lk_171.2.2, by decide, by decide⟩ rfl) (am_rn rfl (am_rz))))))))
theorem kb_166_13 : am_row mi_166 104 kr_166_13 := am_rn rfl (am_rs rfl (ok_iinc dd_166_105 ic_1 rfl (by decide)) (am_rn rfl (am_rn rfl (am_rs rfl (ok_goto dd_166_108 (by decide)) (am_rn rfl (am_rn rfl (am_rs rfl (ok_vret dd_166_111 rfl) (am_rz))))))))
theorem ck_166 : am_rows mi_166 0 cd_166 := am_bs rfl kb_166_0 (am_bs rfl kb_166_1 (am_bs rfl kb_166_2 (am_bs rfl kb_166_3 (am_bs rfl kb_166_4 (am_bs rfl kb_166_5 (am_bs rfl kb_166_6 (am_bs rfl kb_166_7 (am_bs rfl kb_166_8 (am_bs rfl kb_166_9 (am_bs rfl kb_166_10 (am_bs rfl kb_166_11 (am_bs rfl kb_166_12 (am_bs rfl kb_166_13 (am_bz))))))))))))))
/-- OverAndBackModel.begins()V -/
noncomputable def kr_167_0 : List (Option am_Op) := [some (am_ald0 0 1), some (am_psh (.retAddr 0) 2), some (am_pf 12 36 0 5), none, none, some (am_ald0 0 6), some (am_psh (.retAddr 0) 7), some (am_pf 12 37 0 10)]
noncomputable def kr_167_1 : List (Option am_Op) := [none, none, some (am_ald0 0 11), some (am_psh (.retAddr 0) 12), some (am_pf 12 38 0 15), none, none, some (am_vret)]
noncomputable def cd_167 : am_Cd := [kr_167_0, kr_167_1]
theorem dd_167_0 : decode prog_14_method_38_code 0 = .ok (.aload_n 0, 1) := by decide +kernel
theorem dd_167_1 : decode prog_14_method_38_code 1 = .ok (.iconst 0, 1) := by decide +kernel
theorem dd_167_2 : decode prog_14_method_38_code 2 = .ok (.putfield 256, 3) := by decide +kernel
theorem dd_167_5 : decode prog_14_method_38_code 5 = .ok (.aload_n 0, 1) := by decide +kernel
theorem dd_167_6 : decode prog_14_method_38_code 6 = .ok (.iconst 0, 1) := by decide +kernel
theorem dd_167_7 : decode prog_14_method_38_code 7 = .ok (.putfield 259, 3) := by decide +kernel
theorem dd_167_10 : decode prog_14_method_38_code 10 = .ok (.aload_n 0, 1) := by decide +kernel
theorem dd_167_11 : decode prog_14_method_38_code 11 = .ok (.iconst 0, 1) := by decide +kernel
theorem dd_167_12 : decode prog_14_method_38_code 12 = .ok (.putfield 262, 3) := by decide +kernel
theorem dd_167_15 : decode prog_14_method_38_code 15 = .ok (.return_, 1) := by decide +kernel
theorem kb_167_0 : am_row mi_167 0 kr_167_0 := am_rs rfl (ok_aload_n (k := 0) dd_167_0 rfl rfl) (am_rs rfl (ok_iconst dd_167_1 ic_0 rfl) (am_rs rfl (ok_pf dd_167_2 rfl am_ck12 (by decide) (Or.inl w_971) (Or.inl rfl) rfl) (am_rn rfl (am_rn rfl (am_rs rfl (ok_aload_n (k := 0) dd_167_5 rfl rfl) (am_rs rfl (ok_iconst dd_167_6 ic_0 rfl) (am_rs rfl (ok_pf dd_167_7 rfl am_ck12 (by decide) (Or.inl w_972) (Or.inl rfl) rfl) (am_rz))))))))
theorem kb_167_1 : am_row mi_167 8 kr_167_1 := am_rn rfl (am_rn rfl (am_rs rfl (ok_aload_n (k := 0) dd_167_10 rfl rfl) (am_rs rfl (ok_iconst dd_167_11 ic_0 rfl) (am_rs rfl (ok_pf dd_167_12 rfl am_ck12 (by decide) (Or.inl w_973) (Or.inl rfl) rfl) (am_rn rfl (am_rn rfl (am_rs rfl (ok_vret dd_167_15 rfl) (am_rz))))))))
theorem ck_167 : am_rows mi_167 0 cd_167 := am_bs rfl kb_167_0 (am_bs rfl kb_167_1 (am_bz))
/-- OverAndBackModel.wants(IIII)I -/
noncomputable def kr_168_0 : List (Option am_Op) := [some (am_ild 1 1), some (am_tsw 0 [28, 30, 38] 65), none, none, none, none, none, none]
noncomputable def kr_168_1 : List (Option am_Op) := [none, none, none, none, none, none, none, none]
noncomputable def kr_168_2 : List (Option am_Op) := [none, none, none, none, none, none, none, none]
noncomputable def kr_168_3 : List (Option am_Op) := [none, none, none, none, some (am_ild 3 29), some (am_iret), some (am_ald0 0 31), some (am_ild 3 32)]
noncomputable def kr_168_4 : List (Option am_Op) := [some (am_ild 4 34), none, some (am_cv 169 2 12 37), none, none, some (am_iret), some (am_ald0 0 39), some (am_gf 12 34 42)]
noncomputable def kr_168_5 : List (Option am_Op) := [none, none, some (am_psh (.retAddr 64) 44), none, some (am_ild 2 45), some (am_bin am_mul 46), some (am_ild 4 48), none]
noncomputable def kr_168_6 : List (Option am_Op) := [some (am_bin am_add 49), some (am_ald 2 50), some (am_br1 .eq 63 53), none, none, some (am_ald0 0 54), some (am_ild 3 55), some (am_ild 4 57)]
noncomputable def kr_168_7 : List (Option am_Op) := [none, some (am_cv 169 2 12 60), none, none, some (am_jmp 64), none, none, some (am_ild 2 64)]
noncomputable def kr_168_8 : List (Option am_Op) := [some (am_iret), some (am_ald0 0 66), some (am_ild 3 67), some (am_ild 4 69), none, some (am_cv 170 2 12 72), none, none]
noncomputable def kr_168_9 : List (Option am_Op) := [some (am_iret)]
noncomputable def cd_168 : am_Cd := [kr_168_0, kr_168_1, kr_168_2, kr_168_3, kr_168_4, kr_168_5, kr_168_6, kr_168_7, kr_168_8, kr_168_9]
theorem dd_168_0 : decode prog_14_method_42_code 0 = .ok (.iload_n 1, 1) := by decide +kernel
theorem dd_168_1 : decode prog_14_method_42_code 1 = .ok (.tableswitch 64 ((0 : Nat) : Int) 2 #[27, 29, 37], 27) := by decide +kernel
theorem dd_168_28 : decode prog_14_method_42_code 28 = .ok (.iload_n 3, 1) := by decide +kernel
theorem dd_168_29 : decode prog_14_method_42_code 29 = .ok (.ireturn, 1) := by decide +kernel
theorem dd_168_30 : decode prog_14_method_42_code 30 = .ok (.aload_n 0, 1) := by decide +kernel
theorem dd_168_31 : decode prog_14_method_42_code 31 = .ok (.iload_n 3, 1) := by decide +kernel
theorem dd_168_32 : decode prog_14_method_42_code 32 = .ok (.iload 4, 2) := by decide +kernel
theorem dd_168_34 : decode prog_14_method_42_code 34 = .ok (.invokevirtual 265, 3) := by decide +kernel
theorem dd_168_37 : decode prog_14_method_42_code 37 = .ok (.ireturn, 1) := by decide +kernel
theorem dd_168_38 : decode prog_14_method_42_code 38 = .ok (.aload_n 0, 1) := by decide +kernel
theorem dd_168_39 : decode prog_14_method_42_code 39 = .ok (.getfield 80, 3) := by decide +kernel
theorem dd_168_42 : decode prog_14_method_42_code 42 = .ok (.bipush 64, 2) := by decide +kernel
theorem dd_168_44 : decode prog_14_method_42_code 44 = .ok (.iload_n 2, 1) := by decide +kernel
theorem dd_168_45 : decode prog_14_method_42_code 45 = .ok (.imul, 1) := by decide +kernel
theorem dd_168_46 : decode prog_14_method_42_code 46 = .ok (.iload 4, 2) := by decide +kernel
theorem dd_168_48 : decode prog_14_method_42_code 48 = .ok (.iadd, 1) := by decide +kernel
theorem dd_168_49 : decode prog_14_method_42_code 49 = .ok (.baload, 1) := by decide +kernel
theorem dd_168_50 : decode prog_14_method_42_code 50 = .ok (.ifCond .eq 13, 3) := by decide +kernel
theorem dd_168_53 : decode prog_14_method_42_code 53 = .ok (.aload_n 0, 1) := by decide +kernel
theorem dd_168_54 : decode prog_14_method_42_code 54 = .ok (.iload_n 3, 1) := by decide +kernel
theorem dd_168_55 : decode prog_14_method_42_code 55 = .ok (.iload 4, 2) := by decide +kernel
theorem dd_168_57 : decode prog_14_method_42_code 57 = .ok (.invokevirtual 265, 3) := by decide +kernel
theorem dd_168_60 : decode prog_14_method_42_code 60 = .ok (.goto 4, 3) := by decide +kernel
theorem dd_168_63 : decode prog_14_method_42_code 63 = .ok (.iload_n 2, 1) := by decide +kernel
theorem dd_168_64 : decode prog_14_method_42_code 64 = .ok (.ireturn, 1) := by decide +kernel
theorem dd_168_65 : decode prog_14_method_42_code 65 = .ok (.aload_n 0, 1) := by decide +kernel
theorem dd_168_66 : decode prog_14_method_42_code 66 = .ok (.iload_n 3, 1) := by decide +kernel
theorem dd_168_67 : decode prog_14_method_42_code 67 = .ok (.iload 4, 2) := by decide +kernel
theorem dd_168_69 : decode prog_14_method_42_code 69 = .ok (.invokevirtual 269, 3) := by decide +kernel
theorem dd_168_72 : decode prog_14_method_42_code 72 = .ok (.ireturn, 1) := by decide +kernel
theorem kb_168_0 : am_row mi_168 0 kr_168_0 := am_rs rfl (ok_iload_n (k := 1) dd_168_0 rfl rfl) (am_rs rfl (ok_tsw dd_168_1 (by decide) (by decide) (by decide) (by decide)) (am_rn rfl (am_rn rfl (am_rn rfl (am_rn rfl (am_rn rfl (am_rn rfl (am_rz))))))))
theorem kb_168_1 : am_row mi_168 8 kr_168_1 := am_rn rfl (am_rn rfl (am_rn rfl (am_rn rfl (am_rn rfl (am_rn rfl (am_rn rfl (am_rn rfl (am_rz))))))))
theorem kb_168_2 : am_row mi_168 16 kr_168_2 := am_rn rfl (am_rn rfl (am_rn rfl (am_rn rfl (am_rn rfl (am_rn rfl (am_rn rfl (am_rn rfl (am_rz))))))))
theorem kb_168_3 : am_row mi_168 24 kr_168_3 := am_rn rfl (am_rn rfl (am_rn rfl (am_rn rfl (am_rs rfl (ok_iload_n (k := 3) dd_168_28 rfl rfl) (am_rs rfl (ok_iret dd_168_29 rfl) (am_rs rfl (ok_aload_n (k := 0) dd_168_30 rfl rfl) (am_rs rfl (ok_iload_n (k := 3) dd_168_31 rfl rfl) (am_rz))))))))
theorem kb_168_4 : am_row mi_168 32 kr_168_4 := am_rs rfl (ok_iload dd_168_32 rfl) (am_rn rfl (am_rs rfl (ok_cv (M' := mi_169) dd_168_34 rfl rfl w_1246 w_1248 ps_169 ⟨lk_169.1, lk_169.2.1, lk_169.2.2, by decide, by decide⟩ rfl) (am_rn rfl (am_rn rfl (am_rs rfl (ok_iret dd_168_37 rfl) (am_rs rfl (ok_aload_n (k := 0) dd_168_38 rfl rfl) (am_rs rfl (ok_gf dd_168_39 rfl am_ck12 (by decide) (Or.inl w_969)) (am_rz))))))))
theorem kb_168_5 : am_row mi_168 40 kr_168_5 := am_rn rfl (am_rn rfl (am_rs rfl (ok_bipush dd_168_42 bi_64 rfl) (am_rn rfl (am_rs rfl (ok_iload_n (k := 2) dd_168_44 rfl rfl) (am_rs rfl (ok_imul dd_168_45 rfl) (am_rs rfl (ok_iload dd_168_46 rfl) (am_rn rfl (am_rz))))))))
theorem kb_168_6 : am_row mi_168 48 kr_168_6 := am_rs rfl (ok_iadd dd_168_48 rfl) (am_rs rfl (ok_zald dd_168_49 rfl) (am_rs rfl (ok_ifc dd_168_50 (by decide) rfl) (am_rn rfl (am_rn rfl (am_rs rfl (ok_aload_n (k := 0) dd_168_53 rfl rfl) (am_rs rfl (ok_iload_n (k := 3) dd_168_54 rfl rfl) (am_rs rfl (ok_iload dd_168_55 rfl) (am_rz))))))))
theorem kb_168_7 : am_row mi_168 56 kr_168_7 := am_rn rfl (am_rs rfl (ok_cv (M' := mi_169) dd_168_57 rfl rfl w_1246 w_1248 ps_169 ⟨lk_169.1, lk_169.2.1, lk_169.2.2, by decide, by decide⟩ rfl) (am_rn rfl (am_rn rfl (am_rs rfl (ok_goto dd_168_60 (by decide)) (am_rn rfl (am_rn rfl (am_rs rfl (ok_iload_n (k := 2) dd_168_63 rfl rfl) (am_rz))))))))
theorem kb_168_8 : am_row mi_168 64 kr_168_8 := am_rs rfl (ok_iret dd_168_64 rfl) (am_rs rfl (ok_aload_n (k := 0) dd_168_65 rfl rfl) (am_rs rfl (ok_iload_n (k := 3) dd_168_66 rfl rfl) (am_rs rfl (ok_iload dd_168_67 rfl) (am_rn rfl (am_rs rfl (ok_cv (M' := mi_170) dd_168_69 rfl rfl w_1250 w_1252 ps_170 ⟨lk_170.1, lk_170.2.1, lk_170.2.2, by decide, by decide⟩ rfl) (am_rn rfl (am_rn rfl (am_rz))))))))
theorem kb_168_9 : am_row mi_168 72 kr_168_9 := am_rs rfl (ok_iret dd_168_72 rfl) (am_rz)
theorem ck_168 : am_rows mi_168 0 cd_168 := am_bs rfl kb_168_0 (am_bs rfl kb_168_1 (am_bs rfl kb_168_2 (am_bs rfl kb_168_3 (am_bs rfl kb_168_4 (am_bs rfl kb_168_5 (am_bs rfl kb_168_6 (am_bs rfl kb_168_7 (am_bs rfl kb_168_8 (am_bs rfl kb_168_9 (am_bz))))))))))
/-- OverAndBackModel.wantsOver(II)I -/
noncomputable def kr_169_0 : List (Option am_Op) := [some (am_psh (.retAddr 0) 1), some (am_ist 3 2), some (am_ild 3 3), some (am_ald0 0 4), some (am_gf 12 2 7), none, none, some (am_br2 .ge 44 10)]
noncomputable def kr_169_1 : List (Option am_Op) := [none, none, some (am_ild 1 11), some (am_ild 3 12), some (am_bin am_add 13), some (am_ald0 0 14), some (am_gf 12 2 17), none]
noncomputable def kr_169_2 : List (Option am_Op) := [none, some (am_bin2 Nat.mod 18), some (am_ist 4 20), none, some (am_ald0 0 21), some (am_gf 12 34 24), none, none]
noncomputable def kr_169_3 : List (Option am_Op) := [some (am_psh (.retAddr 64) 26), none, some (am_ild 4 28), none, some (am_bin am_mul 29), some (am_ild 2 30), some (am_bin am_add 31), some (am_ald 2 32)]
noncomputable def kr_169_4 : List (Option am_Op) := [some (am_br1 .ne 38 35), none, none, some (am_ild 4 37), none, some (am_iret), some (am_inc 3 1 41), none]
noncomputable def kr_169_5 : List (Option am_Op) := [none, some (am_jmp 2), none, none, some (am_ild 1 45), some (am_iret)]
noncomputable def cd_169 : am_Cd := [kr_169_0, kr_169_1, kr_169_2, kr_169_3, kr_169_4, kr_169_5]
theorem dd_169_0 : decode prog_14_method_40_code 0 = .ok (.iconst 0, 1) := by decide +kernel
theorem dd_169_1 : decode prog_14_method_40_code 1 = .ok (.istore_n 3, 1) := by decide +kernel
theorem dd_169_2 : decode prog_14_method_40_code 2 = .ok (.iload_n 3, 1) := by decide +kernel
theorem dd_169_3 : decode prog_14_method_40_code 3 = .ok (.aload_n 0, 1) := by decide +kernel
theorem dd_169_4 : decode prog_14_method_40_code 4 = .ok (.getfield 16, 3) := by decide +kernel
theorem dd_169_7 : decode prog_14_method_40_code 7 = .ok (.if_icmp .ge 37, 3) := by decide +kernel
theorem dd_169_10 : decode prog_14_method_40_code 10 = .ok (.iload_n 1, 1) := by decide +kernel
theorem dd_169_11 : decode prog_14_method_40_code 11 = .ok (.iload_n 3, 1) := by decide +kernel
theorem dd_169_12 : decode prog_14_method_40_code 12 = .ok (.iadd, 1) := by decide +kernel
theorem dd_169_13 : decode prog_14_method_40_code 13 = .ok (.aload_n 0, 1) := by decide +kernel
theorem dd_169_14 : decode prog_14_method_40_code 14 = .ok (.getfield 16, 3) := by decide +kernel
theorem dd_169_17 : decode prog_14_method_40_code 17 = .ok (.irem, 1) := by decide +kernel
theorem dd_169_18 : decode prog_14_method_40_code 18 = .ok (.istore 4, 2) := by decide +kernel
theorem dd_169_20 : decode prog_14_method_40_code 20 = .ok (.aload_n 0, 1) := by decide +kernel
theorem dd_169_21 : decode prog_14_method_40_code 21 = .ok (.getfield 80, 3) := by decide +kernel
theorem dd_169_24 : decode prog_14_method_40_code 24 = .ok (.bipush 64, 2) := by decide +kernel
theorem dd_169_26 : decode prog_14_method_40_code 26 = .ok (.iload 4, 2) := by decide +kernel
theorem dd_169_28 : decode prog_14_method_40_code 28 = .ok (.imul, 1) := by decide +kernel
theorem dd_169_29 : decode prog_14_method_40_code 29 = .ok (.iload_n 2, 1) := by decide +kernel
theorem dd_169_30 : decode prog_14_method_40_code 30 = .ok (.iadd, 1) := by decide +kernel
theorem dd_169_31 : decode prog_14_method_40_code 31 = .ok (.baload, 1) := by decide +kernel
theorem dd_169_32 : decode prog_14_method_40_code 32 = .ok (.ifCond .ne 6, 3) := by decide +kernel
theorem dd_169_35 : decode prog_14_method_40_code 35 = .ok (.iload 4, 2) := by decide +kernel
theorem dd_169_37 : decode prog_14_method_40_code 37 = .ok (.ireturn, 1) := by decide +kernel
theorem dd_169_38 : decode prog_14_method_40_code 38 = .ok (.iinc 3 1, 3) := by decide +kernel
theorem dd_169_41 : decode prog_14_method_40_code 41 = .ok (.goto (-39), 3) := by decide +kernel
theorem dd_169_44 : decode prog_14_method_40_code 44 = .ok (.iload_n 1, 1) := by decide +kernel
theorem dd_169_45 : decode prog_14_method_40_code 45 = .ok (.ireturn, 1) := by decide +kernel
theorem kb_169_0 : am_row mi_169 0 kr_169_0 := am_rs rfl (ok_iconst dd_169_0 ic_0 rfl) (am_rs rfl (ok_istore_n (k := 3) dd_169_1 rfl rfl (by decide)) (am_rs rfl (ok_iload_n (k := 3) dd_169_2 rfl rfl) (am_rs rfl (ok_aload_n (k := 0) dd_169_3 rfl rfl) (am_rs rfl (ok_gf dd_169_4 rfl am_ck12 (by decide) (Or.inl w_937)) (am_rn rfl (am_rn rfl (am_rs rfl (ok_icmp dd_169_7 (by decide) rfl) (am_rz))))))))
theorem kb_169_1 : am_row mi_169 8 kr_169_1 := am_rn rfl (am_rn rfl (am_rs rfl (ok_iload_n (k := 1) dd_169_10 rfl rfl) (am_rs rfl (ok_iload_n (k := 3) dd_169_11 rfl rfl) (am_rs rfl (ok_iadd dd_169_12 rfl) (am_rs rfl (ok_aload_n (k := 0) dd_169_13 rfl rfl) (am_rs rfl (ok_gf dd_169_14 rfl am_ck12 (by decide) (Or.inl w_937)) (am_rn rfl (am_rz))))))))
theorem kb_169_2 : am_row mi_169 16 kr_169_2 := am_rn rfl (am_rs rfl (ok_irem dd_169_17 rfl) (am_rs rfl (ok_istore dd_169_18 rfl (by decide)) (am_rn rfl (am_rs rfl (ok_aload_n (k := 0) dd_169_20 rfl rfl) (am_rs rfl (ok_gf dd_169_21 rfl am_ck12 (by decide) (Or.inl w_969)) (am_rn rfl (am_rn rfl (am_rz))))))))
theorem kb_169_3 : am_row mi_169 24 kr_169_3 := am_rs rfl (ok_bipush dd_169_24 bi_64 rfl) (am_rn rfl (am_rs rfl (ok_iload dd_169_26 rfl) (am_rn rfl (am_rs rfl (ok_imul dd_169_28 rfl) (am_rs rfl (ok_iload_n (k := 2) dd_169_29 rfl rfl) (am_rs rfl (ok_iadd dd_169_30 rfl) (am_rs rfl (ok_zald dd_169_31 rfl) (am_rz))))))))
theorem kb_169_4 : am_row mi_169 32 kr_169_4 := am_rs rfl (ok_ifc dd_169_32 (by decide) rfl) (am_rn rfl (am_rn rfl (am_rs rfl (ok_iload dd_169_35 rfl) (am_rn rfl (am_rs rfl (ok_iret dd_169_37 rfl) (am_rs rfl (ok_iinc dd_169_38 ic_1 rfl (by decide)) (am_rn rfl (am_rz))))))))
theorem kb_169_5 : am_row mi_169 40 kr_169_5 := am_rn rfl (am_rs rfl (ok_goto dd_169_41 (by decide)) (am_rn rfl (am_rn rfl (am_rs rfl (ok_iload_n (k := 1) dd_169_44 rfl rfl) (am_rs rfl (ok_iret dd_169_45 rfl) (am_rz))))))
theorem ck_169 : am_rows mi_169 0 cd_169 := am_bs rfl kb_169_0 (am_bs rfl kb_169_1 (am_bs rfl kb_169_2 (am_bs rfl kb_169_3 (am_bs rfl kb_169_4 (am_bs rfl kb_169_5 (am_bz))))))
/-- OverAndBackModel.wantsBest(II)I -/
noncomputable def kr_170_0 : List (Option am_Op) := [some (am_ild 1 1), some (am_ist 3 2), some (am_psh (.retAddr 0) 3), some (am_ist 4 5), none, some (am_ild 4 7), none, some (am_ald0 0 8)]
noncomputable def kr_170_1 : List (Option am_Op) := [some (am_gf 12 2 11), none, none, some (am_br2 .ge 65 14), none, none, some (am_ald0 0 15), some (am_gf 12 32 18)]
noncomputable def kr_170_2 : List (Option am_Op) := [none, none, some (am_psh (.retAddr 64) 20), none, some (am_ild 4 22), none, some (am_bin am_mul 23), some (am_ild 2 24)]
noncomputable def kr_170_3 : List (Option am_Op) := [some (am_bin am_add 25), some (am_ald 0 26), some (am_ald0 0 27), some (am_gf 12 32 30), none, none, some (am_psh (.retAddr 64) 32), none]
noncomputable def kr_170_4 : List (Option am_Op) := [some (am_ild 3 33), some (am_bin am_mul 34), some (am_ild 2 35), some (am_bin am_add 36), some (am_ald 0 37), some (am_br2 .le 44 40), none, none]
noncomputable def kr_170_5 : List (Option am_Op) := [some (am_psh (.retAddr 1) 41), some (am_jmp 45), none, none, some (am_psh (.retAddr 0) 45), some (am_ist 5 47), none, some (am_ild 5 49)]
noncomputable def kr_170_6 : List (Option am_Op) := [none, some (am_br1 .eq 57 52), none, none, some (am_ild 4 54), none, some (am_jmp 58), none]
noncomputable def kr_170_7 : List (Option am_Op) := [none, some (am_ild 3 58), some (am_ist 3 59), some (am_inc 4 1 62), none, none, some (am_jmp 5), none]
noncomputable def kr_170_8 : List (Option am_Op) := [none, some (am_ild 3 66), some (am_iret)]
noncomputable def cd_170 : am_Cd := [kr_170_0, kr_170_1, kr_170_2, kr_170_3, kr_170_4, kr_170_5, kr_170_6, kr_170_7, kr_170_8]
theorem dd_170_0 : decode prog_14_method_41_code 0 = .ok (.iload_n 1, 1) := by decide +kernel
theorem dd_170_1 : decode prog_14_method_41_code 1 = .ok (.istore_n 3, 1) := by decide +kernel
theorem dd_170_2 : decode prog_14_method_41_code 2 = .ok (.iconst 0, 1) := by decide +kernel
theorem dd_170_3 : decode prog_14_method_41_code 3 = .ok (.istore 4, 2) := by decide +kernel
theorem dd_170_5 : decode prog_14_method_41_code 5 = .ok (.iload 4, 2) := by decide +kernel
theorem dd_170_7 : decode prog_14_method_41_code 7 = .ok (.aload_n 0, 1) := by decide +kernel
theorem dd_170_8 : decode prog_14_method_41_code 8 = .ok (.getfield 16, 3) := by decide +kernel
theorem dd_170_11 : decode prog_14_method_41_code 11 = .ok (.if_icmp .ge 54, 3) := by decide +kernel
theorem dd_170_14 : decode prog_14_method_41_code 14 = .ok (.aload_n 0, 1) := by decide +kernel
theorem dd_170_15 : decode prog_14_method_41_code 15 = .ok (.getfield 74, 3) := by decide +kernel
theorem dd_170_18 : decode prog_14_method_41_code 18 = .ok (.bipush 64, 2) := by decide +kernel
theorem dd_170_20 : decode prog_14_method_41_code 20 = .ok (.iload 4, 2) := by decide +kernel
theorem dd_170_22 : decode prog_14_method_41_code 22 = .ok (.imul, 1) := by decide +kernel
theorem dd_170_23 : decode prog_14_method_41_code 23 = .ok (.iload_n 2, 1) := by decide +kernel
theorem dd_170_24 : decode prog_14_method_41_code 24 = .ok (.iadd, 1) := by decide +kernel
theorem dd_170_25 : decode prog_14_method_41_code 25 = .ok (.iaload, 1) := by decide +kernel
theorem dd_170_26 : decode prog_14_method_41_code 26 = .ok (.aload_n 0, 1) := by decide +kernel
theorem dd_170_27 : decode prog_14_method_41_code 27 = .ok (.getfield 74, 3) := by decide +kernel
theorem dd_170_30 : decode prog_14_method_41_code 30 = .ok (.bipush 64, 2) := by decide +kernel
theorem dd_170_32 : decode prog_14_method_41_code 32 = .ok (.iload_n 3, 1) := by decide +kernel
theorem dd_170_33 : decode prog_14_method_41_code 33 = .ok (.imul, 1) := by decide +kernel
theorem dd_170_34 : decode prog_14_method_41_code 34 = .ok (.iload_n 2, 1) := by decide +kernel
theorem dd_170_35 : decode prog_14_method_41_code 35 = .ok (.iadd, 1) := by decide +kernel
theorem dd_170_36 : decode prog_14_method_41_code 36 = .ok (.iaload, 1) := by decide +kernel
theorem dd_170_37 : decode prog_14_method_41_code 37 = .ok (.if_icmp .le 7, 3) := by decide +kernel
theorem dd_170_40 : decode prog_14_method_41_code 40 = .ok (.iconst 1, 1) := by decide +kernel
theorem dd_170_41 : decode prog_14_method_41_code 41 = .ok (.goto 4, 3) := by decide +kernel
theorem dd_170_44 : decode prog_14_method_41_code 44 = .ok (.iconst 0, 1) := by decide +kernel
theorem dd_170_45 : decode prog_14_method_41_code 45 = .ok (.istore 5, 2) := by decide +kernel
theorem dd_170_47 : decode prog_14_method_41_code 47 = .ok (.iload 5, 2) := by decide +kernel
theorem dd_170_49 : decode prog_14_method_41_code 49 = .ok (.ifCond .eq 8, 3) := by decide +kernel
theorem dd_170_52 : decode prog_14_method_41_code 52 = .ok (.iload 4, 2) := by decide +kernel
theorem dd_170_54 : decode prog_14_method_41_code 54 = .ok (.goto 4, 3) := by decide +kernel
theorem dd_170_57 : decode prog_14_method_41_code 57 = .ok (.iload_n 3, 1) := by decide +kernel
theorem dd_170_58 : decode prog_14_method_41_code 58 = .ok (.istore_n 3, 1) := by decide +kernel
theorem dd_170_59 : decode prog_14_method_41_code 59 = .ok (.iinc 4 1, 3) := by decide +kernel
theorem dd_170_62 : decode prog_14_method_41_code 62 = .ok (.goto (-57), 3) := by decide +kernel
theorem dd_170_65 : decode prog_14_method_41_code 65 = .ok (.iload_n 3, 1) := by decide +kernel
theorem dd_170_66 : decode prog_14_method_41_code 66 = .ok (.ireturn, 1) := by decide +kernel
theorem kb_170_0 : am_row mi_170 0 kr_170_0 := am_rs rfl (ok_iload_n (k := 1) dd_170_0 rfl rfl) (am_rs rfl (ok_istore_n (k := 3) dd_170_1 rfl rfl (by decide)) (am_rs rfl (ok_iconst dd_170_2 ic_0 rfl) (am_rs rfl (ok_istore dd_170_3 rfl (by decide)) (am_rn rfl (am_rs rfl (ok_iload dd_170_5 rfl) (am_rn rfl (am_rs rfl (ok_aload_n (k := 0) dd_170_7 rfl rfl) (am_rz))))))))
theorem kb_170_1 : am_row mi_170 8 kr_170_1 := am_rs rfl (ok_gf dd_170_8 rfl am_ck12 (by decide) (Or.inl w_937)) (am_rn rfl (am_rn rfl (am_rs rfl (ok_icmp dd_170_11 (by decide) rfl) (am_rn rfl (am_rn rfl (am_rs rfl (ok_aload_n (k := 0) dd_170_14 rfl rfl) (am_rs rfl (ok_gf dd_170_15 rfl am_ck12 (by decide) (Or.inl w_967)) (am_rz))))))))
theorem kb_170_2 : am_row mi_170 16 kr_170_2 := am_rn rfl (am_rn rfl (am_rs rfl (ok_bipush dd_170_18 bi_64 rfl) (am_rn rfl (am_rs rfl (ok_iload dd_170_20 rfl) (am_rn rfl (am_rs rfl (ok_imul dd_170_22 rfl) (am_rs rfl (ok_iload_n (k := 2) dd_170_23 rfl rfl) (am_rz))))))))
theorem kb_170_3 : am_row mi_170 24 kr_170_3 := am_rs rfl (ok_iadd dd_170_24 rfl) (am_rs rfl (ok_iald dd_170_25 rfl) (am_rs rfl (ok_aload_n (k := 0) dd_170_26 rfl rfl) (am_rs rfl (ok_gf dd_170_27 rfl am_ck12 (by decide) (Or.inl w_967)) (am_rn rfl (am_rn rfl (am_rs rfl (ok_bipush dd_170_30 bi_64 rfl) (am_rn rfl (am_rz))))))))
theorem kb_170_4 : am_row mi_170 32 kr_170_4 := am_rs rfl (ok_iload_n (k := 3) dd_170_32 rfl rfl) (am_rs rfl (ok_imul dd_170_33 rfl) (am_rs rfl (ok_iload_n (k := 2) dd_170_34 rfl rfl) (am_rs rfl (ok_iadd dd_170_35 rfl) (am_rs rfl (ok_iald dd_170_36 rfl) (am_rs rfl (ok_icmp dd_170_37 (by decide) rfl) (am_rn rfl (am_rn rfl (am_rz))))))))
theorem kb_170_5 : am_row mi_170 40 kr_170_5 := am_rs rfl (ok_iconst dd_170_40 ic_1 rfl) (am_rs rfl (ok_goto dd_170_41 (by decide)) (am_rn rfl (am_rn rfl (am_rs rfl (ok_iconst dd_170_44 ic_0 rfl) (am_rs rfl (ok_istore dd_170_45 rfl (by decide)) (am_rn rfl (am_rs rfl (ok_iload dd_170_47 rfl) (am_rz))))))))
theorem kb_170_6 : am_row mi_170 48 kr_170_6 := am_rn rfl (am_rs rfl (ok_ifc dd_170_49 (by decide) rfl) (am_rn rfl (am_rn rfl (am_rs rfl (ok_iload dd_170_52 rfl) (am_rn rfl (am_rs rfl (ok_goto dd_170_54 (by decide)) (am_rn rfl (am_rz))))))))
theorem kb_170_7 : am_row mi_170 56 kr_170_7 := am_rn rfl (am_rs rfl (ok_iload_n (k := 3) dd_170_57 rfl rfl) (am_rs rfl (ok_istore_n (k := 3) dd_170_58 rfl rfl (by decide)) (am_rs rfl (ok_iinc dd_170_59 ic_1 rfl (by decide)) (am_rn rfl (am_rn rfl (am_rs rfl (ok_goto dd_170_62 (by decide)) (am_rn rfl (am_rz))))))))
theorem kb_170_8 : am_row mi_170 64 kr_170_8 := am_rn rfl (am_rs rfl (ok_iload_n (k := 3) dd_170_65 rfl rfl) (am_rs rfl (ok_iret dd_170_66 rfl) (am_rz)))
theorem ck_170 : am_rows mi_170 0 cd_170 := am_bs rfl kb_170_0 (am_bs rfl kb_170_1 (am_bs rfl kb_170_2 (am_bs rfl kb_170_3 (am_bs rfl kb_170_4 (am_bs rfl kb_170_5 (am_bs rfl kb_170_6 (am_bs rfl kb_170_7 (am_bs rfl kb_170_8 (am_bz)))))))))
/-- OverAndBackModel.sees(II)V -/
noncomputable def kr_171_0 : List (Option am_Op) := [some (am_ald0 0 1), some (am_gf 12 35 4), none, none, some (am_ild 2 5), some (am_ild 1 6), some (am_ast 0 (fun v => v) 7), some (am_ald0 0 8)]
noncomputable def kr_171_1 : List (Option am_Op) := [some (am_dup 9), some (am_gf 12 36 12), none, none, some (am_ald0 0 13), some (am_gf 12 32 16), none, none]
noncomputable def kr_171_2 : List (Option am_Op) := [some (am_psh (.retAddr 64) 18), none, some (am_ild 1 19), some (am_bin am_mul 20), some (am_ild 2 21), some (am_bin am_add 22), some (am_ald 0 23), some (am_bin am_add 24)]
noncomputable def kr_171_3 : List (Option am_Op) := [some (am_pf 12 36 0 27), none, none, some (am_ald0 0 28), some (am_dup 29), some (am_gf 12 37 32), none, none]
noncomputable def kr_171_4 : List (Option am_Op) := [some (am_ald0 0 33), some (am_gf 12 33 36), none, none, some (am_psh (.retAddr 64) 38), none, some (am_ild 1 39), some (am_bin am_mul 40)]
noncomputable def kr_171_5 : List (Option am_Op) := [some (am_ild 2 41), some (am_bin am_add 42), some (am_ald 0 43), some (am_psh (.retAddr 4294967292) 45), none, some (am_br2 .ne 52 48), none, none]
noncomputable def kr_171_6 : List (Option am_Op) := [some (am_psh (.retAddr 0) 49), some (am_jmp 65), none, none, some (am_psh (.retAddr 1) 53), some (am_ald0 0 54), some (am_gf 12 33 57), none]
noncomputable def kr_171_7 : List (Option am_Op) := [none, some (am_psh (.retAddr 64) 59), none, some (am_ild 1 60), some (am_bin am_mul 61), some (am_ild 2 62), some (am_bin am_add 63), some (am_ald 0 64)]
noncomputable def kr_171_8 : List (Option am_Op) := [some (am_bin am_shl 65), some (am_bin Nat.lor 66), some (am_pf 12 37 0 69), none, none, some (am_vret)]
noncomputable def cd_171 : am_Cd := [kr_171_0, kr_171_1, kr_171_2, kr_171_3, kr_171_4, kr_171_5, kr_171_6, kr_171_7, kr_171_8]
theorem dd_171_0 : decode prog_14_method_39_code 0 = .ok (.aload_n 0, 1) := by decide +kernel
theorem dd_171_1 : decode prog_14_method_39_code 1 = .ok (.getfield 84, 3) := by decide +kernel
theorem dd_171_4 : decode prog_14_method_39_code 4 = .ok (.iload_n 2, 1) := by decide +kernel
theorem dd_171_5 : decode prog_14_method_39_code 5 = .ok (.iload_n 1, 1) := by decide +kernel
theorem dd_171_6 : decode prog_14_method_39_code 6 = .ok (.iastore, 1) := by decide +kernel
theorem dd_171_7 : decode prog_14_method_39_code 7 = .ok (.aload_n 0, 1) := by decide +kernel
theorem dd_171_8 : decode prog_14_method_39_code 8 = .ok (.dup, 1) := by decide +kernel
theorem dd_171_9 : decode prog_14_method_39_code 9 = .ok (.getfield 256, 3) := by decide +kernel
theorem dd_171_12 : decode prog_14_method_39_code 12 = .ok (.aload_n 0, 1) := by decide +kernel
theorem dd_171_13 : decode prog_14_method_39_code 13 = .ok (.getfield 74, 3) := by decide +kernel
theorem dd_171_16 : decode prog_14_method_39_code 16 = .ok (.bipush 64, 2) := by decide +kernel
theorem dd_171_18 : decode prog_14_method_39_code 18 = .ok (.iload_n 1, 1) := by decide +kernel
theorem dd_171_19 : decode prog_14_method_39_code 19 = .ok (.imul, 1) := by decide +kernel
theorem dd_171_20 : decode prog_14_method_39_code 20 = .ok (.iload_n 2, 1) := by decide +kernel
theorem dd_171_21 : decode prog_14_method_39_code 21 = .ok (.iadd, 1) := by decide +kernel
theorem dd_171_22 : decode prog_14_method_39_code 22 = .ok (.iaload, 1) := by decide +kernel
theorem dd_171_23 : decode prog_14_method_39_code 23 = .ok (.iadd, 1) := by decide +kernel
theorem dd_171_24 : decode prog_14_method_39_code 24 = .ok (.putfield 256, 3) := by decide +kernel
theorem dd_171_27 : decode prog_14_method_39_code 27 = .ok (.aload_n 0, 1) := by decide +kernel
theorem dd_171_28 : decode prog_14_method_39_code 28 = .ok (.dup, 1) := by decide +kernel
theorem dd_171_29 : decode prog_14_method_39_code 29 = .ok (.getfield 259, 3) := by decide +kernel
theorem dd_171_32 : decode prog_14_method_39_code 32 = .ok (.aload_n 0, 1) := by decide +kernel
theorem dd_171_33 : decode prog_14_method_39_code 33 = .ok (.getfield 77, 3) := by decide +kernel
theorem dd_171_36 : decode prog_14_method_39_code 36 = .ok (.bipush 64, 2) := by decide +kernel
theorem dd_171_38 : decode prog_14_method_39_code 38 = .ok (.iload_n 1, 1) := by decide +kernel
theorem dd_171_39 : decode prog_14_method_39_code 39 = .ok (.imul, 1) := by decide +kernel
theorem dd_171_40 : decode prog_14_method_39_code 40 = .ok (.iload_n 2, 1) := by decide +kernel
theorem dd_171_41 : decode prog_14_method_39_code 41 = .ok (.iadd, 1) := by decide +kernel
theorem dd_171_42 : decode prog_14_method_39_code 42 = .ok (.iaload, 1) := by decide +kernel
theorem dd_171_43 : decode prog_14_method_39_code 43 = .ok (.bipush (-4), 2) := by decide +kernel
theorem dd_171_45 : decode prog_14_method_39_code 45 = .ok (.if_icmp .ne 7, 3) := by decide +kernel
theorem dd_171_48 : decode prog_14_method_39_code 48 = .ok (.iconst 0, 1) := by decide +kernel
theorem dd_171_49 : decode prog_14_method_39_code 49 = .ok (.goto 16, 3) := by decide +kernel
theorem dd_171_52 : decode prog_14_method_39_code 52 = .ok (.iconst 1, 1) := by decide +kernel
theorem dd_171_53 : decode prog_14_method_39_code 53 = .ok (.aload_n 0, 1) := by decide +kernel
theorem dd_171_54 : decode prog_14_method_39_code 54 = .ok (.getfield 77, 3) := by decide +kernel
theorem dd_171_57 : decode prog_14_method_39_code 57 = .ok (.bipush 64, 2) := by decide +kernel
theorem dd_171_59 : decode prog_14_method_39_code 59 = .ok (.iload_n 1, 1) := by decide +kernel
theorem dd_171_60 : decode prog_14_method_39_code 60 = .ok (.imul, 1) := by decide +kernel
theorem dd_171_61 : decode prog_14_method_39_code 61 = .ok (.iload_n 2, 1) := by decide +kernel
theorem dd_171_62 : decode prog_14_method_39_code 62 = .ok (.iadd, 1) := by decide +kernel
theorem dd_171_63 : decode prog_14_method_39_code 63 = .ok (.iaload, 1) := by decide +kernel
theorem dd_171_64 : decode prog_14_method_39_code 64 = .ok (.ishl, 1) := by decide +kernel
theorem dd_171_65 : decode prog_14_method_39_code 65 = .ok (.ior, 1) := by decide +kernel
theorem dd_171_66 : decode prog_14_method_39_code 66 = .ok (.putfield 259, 3) := by decide +kernel
theorem dd_171_69 : decode prog_14_method_39_code 69 = .ok (.return_, 1) := by decide +kernel
theorem kb_171_0 : am_row mi_171 0 kr_171_0 := am_rs rfl (ok_aload_n (k := 0) dd_171_0 rfl rfl) (am_rs rfl (ok_gf dd_171_1 rfl am_ck12 (by decide) (Or.inl w_970)) (am_rn rfl (am_rn rfl (am_rs rfl (ok_iload_n (k := 2) dd_171_4 rfl rfl) (am_rs rfl (ok_iload_n (k := 1) dd_171_5 rfl rfl) (am_rs rfl (ok_iast dd_171_6 rfl) (am_rs rfl (ok_aload_n (k := 0) dd_171_7 rfl rfl) (am_rz))))))))
theorem kb_171_1 : am_row mi_171 8 kr_171_1 := am_rs rfl (ok_dup dd_171_8 rfl) (am_rs rfl (ok_gf dd_171_9 rfl am_ck12 (by decide) (Or.inl w_971)) (am_rn rfl (am_rn rfl (am_rs rfl (ok_aload_n (k := 0) dd_171_12 rfl rfl) (am_rs rfl (ok_gf dd_171_13 rfl am_ck12 (by decide) (Or.inl w_967)) (am_rn rfl (am_rn rfl (am_rz))))))))
theorem kb_171_2 : am_row mi_171 16 kr_171_2 := am_rs rfl (ok_bipush dd_171_16 bi_64 rfl) (am_rn rfl (am_rs rfl (ok_iload_n (k := 1) dd_171_18 rfl rfl) (am_rs rfl (ok_imul dd_171_19 rfl) (am_rs rfl (ok_iload_n (k := 2) dd_171_20 rfl rfl) (am_rs rfl (ok_iadd dd_171_21 rfl) (am_rs rfl (ok_iald dd_171_22 rfl) (am_rs rfl (ok_iadd dd_171_23 rfl) (am_rz))))))))
theorem kb_171_3 : am_row mi_171 24 kr_171_3 := am_rs rfl (ok_pf dd_171_24 rfl am_ck12 (by decide) (Or.inl w_971) (Or.inl rfl) rfl) (am_rn rfl (am_rn rfl (am_rs rfl (ok_aload_n (k := 0) dd_171_27 rfl rfl) (am_rs rfl (ok_dup dd_171_28 rfl) (am_rs rfl (ok_gf dd_171_29 rfl am_ck12 (by decide) (Or.inl w_972)) (am_rn rfl (am_rn rfl (am_rz))))))))
theorem kb_171_4 : am_row mi_171 32 kr_171_4 := am_rs rfl (ok_aload_n (k := 0) dd_171_32 rfl rfl) (am_rs rfl (ok_gf dd_171_33 rfl am_ck12 (by decide) (Or.inl w_968)) (am_rn rfl (am_rn rfl (am_rs rfl (ok_bipush dd_171_36 bi_64 rfl) (am_rn rfl (am_rs rfl (ok_iload_n (k := 1) dd_171_38 rfl rfl) (am_rs rfl (ok_imul dd_171_39 rfl) (am_rz))))))))
theorem kb_171_5 : am_row mi_171 40 kr_171_5 := am_rs rfl (ok_iload_n (k := 2) dd_171_40 rfl rfl) (am_rs rfl (ok_iadd dd_171_41 rfl) (am_rs rfl (ok_iald dd_171_42 rfl) (am_rs rfl (ok_bipush dd_171_43 bi_m4 rfl) (am_rn rfl (am_rs rfl (ok_icmp dd_171_45 (by decide) rfl) (am_rn rfl (am_rn rfl (am_rz))))))))
theorem kb_171_6 : am_row mi_171 48 kr_171_6 := am_rs rfl (ok_iconst dd_171_48 ic_0 rfl) (am_rs rfl (ok_goto dd_171_49 (by decide)) (am_rn rfl (am_rn rfl (am_rs rfl (ok_iconst dd_171_52 ic_1 rfl) (am_rs rfl (ok_aload_n (k := 0) dd_171_53 rfl rfl) (am_rs rfl (ok_gf dd_171_54 rfl am_ck12 (by decide) (Or.inl w_968)) (am_rn rfl (am_rz))))))))
theorem kb_171_7 : am_row mi_171 56 kr_171_7 := am_rn rfl (am_rs rfl (ok_bipush dd_171_57 bi_64 rfl) (am_rn rfl (am_rs rfl (ok_iload_n (k := 1) dd_171_59 rfl rfl) (am_rs rfl (ok_imul dd_171_60 rfl) (am_rs rfl (ok_iload_n (k := 2) dd_171_61 rfl rfl) (am_rs rfl (ok_iadd dd_171_62 rfl) (am_rs rfl (ok_iald dd_171_63 rfl) (am_rz))))))))
theorem kb_171_8 : am_row mi_171 64 kr_171_8 := am_rs rfl (ok_ishl dd_171_64 rfl) (am_rs rfl (ok_ior dd_171_65 rfl) (am_rs rfl (ok_pf dd_171_66 rfl am_ck12 (by decide) (Or.inl w_972) (Or.inl rfl) rfl) (am_rn rfl (am_rn rfl (am_rs rfl (ok_vret dd_171_69 rfl) (am_rz))))))
theorem ck_171 : am_rows mi_171 0 cd_171 := am_bs rfl kb_171_0 (am_bs rfl kb_171_1 (am_bs rfl kb_171_2 (am_bs rfl kb_171_3 (am_bs rfl kb_171_4 (am_bs rfl kb_171_5 (am_bs rfl kb_171_6 (am_bs rfl kb_171_7 (am_bs rfl kb_171_8 (am_bz)))))))))
/-- OverAndBackModel.layMost()V -/
noncomputable def kr_172_0 : List (Option am_Op) := [some (am_psh (.retAddr 0) 1), some (am_ist 1 2), some (am_ild 1 3), some (am_psh (.retAddr 256) 6), none, none, some (am_br2 .ge 22 9), none]
noncomputable def kr_172_1 : List (Option am_Op) := [none, some (am_ald0 0 10), some (am_gf 12 46 13), none, none, some (am_ild 1 14), some (am_psh (.retAddr 0) 15), some (am_ast 0 (fun v => v) 16)]
noncomputable def kr_172_2 : List (Option am_Op) := [some (am_inc 1 1 19), none, none, some (am_jmp 2), none, none, some (am_ald0 0 23), some (am_gf 12 0 26)]
noncomputable def kr_172_3 : List (Option am_Op) := [none, none, some (am_psh (.retAddr 1) 27), some (am_bin am_sub 28), some (am_ist 1 29), some (am_ild 1 30), some (am_br1 .lt 127 33), none]
noncomputable def kr_172_4 : List (Option am_Op) := [none, some (am_psh (.retAddr 0) 34), some (am_ist 2 35), some (am_ild 2 36), some (am_ald0 0 37), some (am_gf 12 2 40), none, none]
noncomputable def kr_172_5 : List (Option am_Op) := [some (am_br2 .ge 121 43), none, none, some (am_ald0 0 44), some (am_gf 12 32 47), none, none, some (am_psh (.retAddr 64) 49)]
noncomputable def kr_172_6 : List (Option am_Op) := [none, some (am_ild 2 50), some (am_bin am_mul 51), some (am_ild 1 52), some (am_bin am_add 53), some (am_ald 0 54), some (am_ald0 0 55), some (am_gf 12 46 58)]
noncomputable def kr_172_7 : List (Option am_Op) := [none, none, some (am_psh (.retAddr 4) 59), some (am_ild 1 60), some (am_psh (.retAddr 1) 61), some (am_bin am_add 62), some (am_bin am_mul 63), some (am_ild 2 64)]
noncomputable def kr_172_8 : List (Option am_Op) := [some (am_bin am_add 65), some (am_ald 0 66), some (am_bin am_add 67), some (am_ist 3 68), some (am_ald0 0 69), some (am_ild 1 70), some (am_ild 2 71), some (am_cv 173 2 12 74)]
noncomputable def kr_172_9 : List (Option am_Op) := [none, none, some (am_ist 4 76), none, some (am_ald0 0 77), some (am_gf 12 46 80), none, none]
noncomputable def kr_172_10 : List (Option am_Op) := [some (am_psh (.retAddr 4) 81), some (am_ild 1 82), some (am_bin am_mul 83), some (am_ild 2 84), some (am_bin am_add 85), some (am_ild 4 87), none, some (am_psh (.retAddr 4294967292) 89)]
noncomputable def kr_172_11 : List (Option am_Op) := [none, some (am_br2 .eq 113 92), none, none, some (am_ald0 0 93), some (am_ild 1 94), some (am_ild 4 96), none]
noncomputable def kr_172_12 : List (Option am_Op) := [some (am_cv 174 2 12 99), none, none, some (am_ild 3 100), some (am_br2 .le 113 103), none, none, some (am_ald0 0 104)]
noncomputable def kr_172_13 : List (Option am_Op) := [some (am_ild 1 105), some (am_ild 4 107), none, some (am_cv 174 2 12 110), none, none, some (am_jmp 114), none]
noncomputable def kr_172_14 : List (Option am_Op) := [none, some (am_ild 3 114), some (am_ast 0 (fun v => v) 115), some (am_inc 2 1 118), none, none, some (am_jmp 35), none]
noncomputable def kr_172_15 : List (Option am_Op) := [none, some (am_inc 1 4294967295 124), none, none, some (am_jmp 29), none, none, some (am_vret)]
noncomputable def cd_172 : am_Cd := [kr_172_0, kr_172_1, kr_172_2, kr_172_3, kr_172_4, kr_172_5, kr_172_6, kr_172_7, kr_172_8, kr_172_9, kr_172_10, kr_172_11, kr_172_12, kr_172_13, kr_172_14, kr_172_15]
theorem dd_172_0 : decode prog_14_method_58_code 0 = .ok (.iconst 0, 1) := by decide +kernel
theorem dd_172_1 : decode prog_14_method_58_code 1 = .ok (.istore_n 1, 1) := by decide +kernel
theorem dd_172_2 : decode prog_14_method_58_code 2 = .ok (.iload_n 1, 1) := by decide +kernel
theorem dd_172_3 : decode prog_14_method_58_code 3 = .ok (.sipush 256, 3) := by decide +kernel
theorem dd_172_6 : decode prog_14_method_58_code 6 = .ok (.if_icmp .ge 16, 3) := by decide +kernel
theorem dd_172_9 : decode prog_14_method_58_code 9 = .ok (.aload_n 0, 1) := by decide +kernel
theorem dd_172_10 : decode prog_14_method_58_code 10 = .ok (.getfield 96, 3) := by decide +kernel
theorem dd_172_13 : decode prog_14_method_58_code 13 = .ok (.iload_n 1, 1) := by decide +kernel
theorem dd_172_14 : decode prog_14_method_58_code 14 = .ok (.iconst 0, 1) := by decide +kernel
theorem dd_172_15 : decode prog_14_method_58_code 15 = .ok (.iastore, 1) := by decide +kernel
theorem dd_172_16 : decode prog_14_method_58_code 16 = .ok (.iinc 1 1, 3) := by decide +kernel
theorem dd_172_19 : decode prog_14_method_58_code 19 = .ok (.goto (-17), 3) := by decide +kernel
theorem dd_172_22 : decode prog_14_method_58_code 22 = .ok (.aload_n 0, 1) := by decide +kernel
theorem dd_172_23 : decode prog_14_method_58_code 23 = .ok (.getfield 7, 3) := by decide +kernel
theorem dd_172_26 : decode prog_14_method_58_code 26 = .ok (.iconst 1, 1) := by decide +kernel
theorem dd_172_27 : decode prog_14_method_58_code 27 = .ok (.isub, 1) := by decide +kernel
theorem dd_172_28 : decode prog_14_method_58_code 28 = .ok (.istore_n 1, 1) := by decide +kernel
theorem dd_172_29 : decode prog_14_method_58_code 29 = .ok (.iload_n 1, 1) := by decide +kernel
theorem dd_172_30 : decode prog_14_method_58_code 30 = .ok (.ifCond .lt 97, 3) := by decide +kernel
theorem dd_172_33 : decode prog_14_method_58_code 33 = .ok (.iconst 0, 1) := by decide +kernel
theorem dd_172_34 : decode prog_14_method_58_code 34 = .ok (.istore_n 2, 1) := by decide +kernel
theorem dd_172_35 : decode prog_14_method_58_code 35 = .ok (.iload_n 2, 1) := by decide +kernel
theorem dd_172_36 : decode prog_14_method_58_code 36 = .ok (.aload_n 0, 1) := by decide +kernel
theorem dd_172_37 : decode prog_14_method_58_code 37 = .ok (.getfield 16, 3) := by decide +kernel
theorem dd_172_40 : decode prog_14_method_58_code 40 = .ok (.if_icmp .ge 81, 3) := by decide +kernel
theorem dd_172_43 : decode prog_14_method_58_code 43 = .ok (.aload_n 0, 1) := by decide +kernel
theorem dd_172_44 : decode prog_14_method_58_code 44 = .ok (.getfield 74, 3) := by decide +kernel
theorem dd_172_47 : decode prog_14_method_58_code 47 = .ok (.bipush 64, 2) := by decide +kernel
theorem dd_172_49 : decode prog_14_method_58_code 49 = .ok (.iload_n 2, 1) := by decide +kernel
theorem dd_172_50 : decode prog_14_method_58_code 50 = .ok (.imul, 1) := by decide +kernel
theorem dd_172_51 : decode prog_14_method_58_code 51 = .ok (.iload_n 1, 1) := by decide +kernel
theorem dd_172_52 : decode prog_14_method_58_code 52 = .ok (.iadd, 1) := by decide +kernel
theorem dd_172_53 : decode prog_14_method_58_code 53 = .ok (.iaload, 1) := by decide +kernel
theorem dd_172_54 : decode prog_14_method_58_code 54 = .ok (.aload_n 0, 1) := by decide +kernel
theorem dd_172_55 : decode prog_14_method_58_code 55 = .ok (.getfield 96, 3) := by decide +kernel
theorem dd_172_58 : decode prog_14_method_58_code 58 = .ok (.iconst 4, 1) := by decide +kernel
theorem dd_172_59 : decode prog_14_method_58_code 59 = .ok (.iload_n 1, 1) := by decide +kernel
theorem dd_172_60 : decode prog_14_method_58_code 60 = .ok (.iconst 1, 1) := by decide +kernel
theorem dd_172_61 : decode prog_14_method_58_code 61 = .ok (.iadd, 1) := by decide +kernel
theorem dd_172_62 : decode prog_14_method_58_code 62 = .ok (.imul, 1) := by decide +kernel
theorem dd_172_63 : decode prog_14_method_58_code 63 = .ok (.iload_n 2, 1) := by decide +kernel
theorem dd_172_64 : decode prog_14_method_58_code 64 = .ok (.iadd, 1) := by decide +kernel
theorem dd_172_65 : decode prog_14_method_58_code 65 = .ok (.iaload, 1) := by decide +kernel
theorem dd_172_66 : decode prog_14_method_58_code 66 = .ok (.iadd, 1) := by decide +kernel
theorem dd_172_67 : decode prog_14_method_58_code 67 = .ok (.istore_n 3, 1) := by decide +kernel
theorem dd_172_68 : decode prog_14_method_58_code 68 = .ok (.aload_n 0, 1) := by decide +kernel
theorem dd_172_69 : decode prog_14_method_58_code 69 = .ok (.iload_n 1, 1) := by decide +kernel
theorem dd_172_70 : decode prog_14_method_58_code 70 = .ok (.iload_n 2, 1) := by decide +kernel
theorem dd_172_71 : decode prog_14_method_58_code 71 = .ok (.invokevirtual 309, 3) := by decide +kernel
theorem dd_172_74 : decode prog_14_method_58_code 74 = .ok (.istore 4, 2) := by decide +kernel
theorem dd_172_76 : decode prog_14_method_58_code 76 = .ok (.aload_n 0, 1) := by decide +kernel
theorem dd_172_77 : decode prog_14_method_58_code 77 = .ok (.getfield 96, 3) := by decide +kernel
theorem dd_172_80 : decode prog_14_method_58_code 80 = .ok (.iconst 4, 1) := by decide +kernel
theorem dd_172_81 : decode prog_14_method_58_code 81 = .ok (.iload_n 1, 1) := by decide +kernel
theorem dd_172_82 : decode prog_14_method_58_code 82 = .ok (.imul, 1) := by decide +kernel
theorem dd_172_83 : decode prog_14_method_58_code 83 = .ok (.iload_n 2, 1) := by decide +kernel
theorem dd_172_84 : decode prog_14_method_58_code 84 = .ok (.iadd, 1) := by decide +kernel
theorem dd_172_85 : decode prog_14_method_58_code 85 = .ok (.iload 4, 2) := by decide +kernel
theorem dd_172_87 : decode prog_14_method_58_code 87 = .ok (.bipush (-4), 2) := by decide +kernel
theorem dd_172_89 : decode prog_14_method_58_code 89 = .ok (.if_icmp .eq 24, 3) := by decide +kernel
theorem dd_172_92 : decode prog_14_method_58_code 92 = .ok (.aload_n 0, 1) := by decide +kernel
theorem dd_172_93 : decode prog_14_method_58_code 93 = .ok (.iload_n 1, 1) := by decide +kernel
theorem dd_172_94 : decode prog_14_method_58_code 94 = .ok (.iload 4, 2) := by decide +kernel
theorem dd_172_96 : decode prog_14_method_58_code 96 = .ok (.invokevirtual 306, 3) := by decide +kernel
theorem dd_172_99 : decode prog_14_method_58_code 99 = .ok (.iload_n 3, 1) := by decide +kernel
theorem dd_172_100 : decode prog_14_method_58_code 100 = .ok (.if_icmp .le 13, 3) := by decide +kernel
theorem dd_172_103 : decode prog_14_method_58_code 103 = .ok (.aload_n 0, 1) := by decide +kernel
theorem dd_172_104 : decode prog_14_method_58_code 104 = .ok (.iload_n 1, 1) := by decide +kernel
theorem dd_172_105 : decode prog_14_method_58_code 105 = .ok (.iload 4, 2) := by decide +kernel
theorem dd_172_107 : decode prog_14_method_58_code 107 = .ok (.invokevirtual 306, 3) := by decide +kernel
theorem dd_172_110 : decode prog_14_method_58_code 110 = .ok (.goto 4, 3) := by decide +kernel
theorem dd_172_113 : decode prog_14_method_58_code 113 = .ok (.iload_n 3, 1) := by decide +kernel
theorem dd_172_114 : decode prog_14_method_58_code 114 = .ok (.iastore, 1) := by decide +kernel
theorem dd_172_115 : decode prog_14_method_58_code 115 = .ok (.iinc 2 1, 3) := by decide +kernel
theorem dd_172_118 : decode prog_14_method_58_code 118 = .ok (.goto (-83), 3) := by decide +kernel
theorem dd_172_121 : decode prog_14_method_58_code 121 = .ok (.iinc 1 (-1), 3) := by decide +kernel
theorem dd_172_124 : decode prog_14_method_58_code 124 = .ok (.goto (-95), 3) := by decide +kernel
theorem dd_172_127 : decode prog_14_method_58_code 127 = .ok (.return_, 1) := by decide +kernel
theorem kb_172_0 : am_row mi_172 0 kr_172_0 := am_rs rfl (ok_iconst dd_172_0 ic_0 rfl) (am_rs rfl (ok_istore_n (k := 1) dd_172_1 rfl rfl (by decide)) (am_rs rfl (ok_iload_n (k := 1) dd_172_2 rfl rfl) (am_rs rfl (ok_sipush dd_172_3 si_256 rfl) (am_rn rfl (am_rn rfl (am_rs rfl (ok_icmp dd_172_6 (by decide) rfl) (am_rn rfl (am_rz))))))))
theorem kb_172_1 : am_row mi_172 8 kr_172_1 := am_rn rfl (am_rs rfl (ok_aload_n (k := 0) dd_172_9 rfl rfl) (am_rs rfl (ok_gf dd_172_10 rfl am_ck12 (by decide) (Or.inl w_981)) (am_rn rfl (am_rn rfl (am_rs rfl (ok_iload_n (k := 1) dd_172_13 rfl rfl) (am_rs rfl (ok_iconst dd_172_14 ic_0 rfl) (am_rs rfl (ok_iast dd_172_15 rfl) (am_rz))))))))
theorem kb_172_2 : am_row mi_172 16 kr_172_2 := am_rs rfl (ok_iinc dd_172_16 ic_1 rfl (by decide)) (am_rn rfl (am_rn rfl (am_rs rfl (ok_goto dd_172_19 (by decide)) (am_rn rfl (am_rn rfl (am_rs rfl (ok_aload_n (k := 0) dd_172_22 rfl rfl) (am_rs rfl (ok_gf dd_172_23 rfl am_ck12 (by decide) (Or.inl w_935)) (am_rz))))))))
theorem kb_172_3 : am_row mi_172 24 kr_172_3 := am_rn rfl (am_rn rfl (am_rs rfl (ok_iconst dd_172_26 ic_1 rfl) (am_rs rfl (ok_isub dd_172_27 rfl) (am_rs rfl (ok_istore_n (k := 1) dd_172_28 rfl rfl (by decide)) (am_rs rfl (ok_iload_n (k := 1) dd_172_29 rfl rfl) (am_rs rfl (ok_ifc dd_172_30 (by decide) rfl) (am_rn rfl (am_rz))))))))
theorem kb_172_4 : am_row mi_172 32 kr_172_4 := am_rn rfl (am_rs rfl (ok_iconst dd_172_33 ic_0 rfl) (am_rs rfl (ok_istore_n (k := 2) dd_172_34 rfl rfl (by decide)) (am_rs rfl (ok_iload_n (k := 2) dd_172_35 rfl rfl) (am_rs rfl (ok_aload_n (k := 0) dd_172_36 rfl rfl) (am_rs rfl (ok_gf dd_172_37 rfl am_ck12 (by decide) (Or.inl w_937)) (am_rn rfl (am_rn rfl (am_rz))))))))
theorem kb_172_5 : am_row mi_172 40 kr_172_5 := am_rs rfl (ok_icmp dd_172_40 (by decide) rfl) (am_rn rfl (am_rn rfl (am_rs rfl (ok_aload_n (k := 0) dd_172_43 rfl rfl) (am_rs rfl (ok_gf dd_172_44 rfl am_ck12 (by decide) (Or.inl w_967)) (am_rn rfl (am_rn rfl (am_rs rfl (ok_bipush dd_172_47 bi_64 rfl) (am_rz))))))))
theorem kb_172_6 : am_row mi_172 48 kr_172_6 := am_rn rfl (am_rs rfl (ok_iload_n (k := 2) dd_172_49 rfl rfl) (am_rs rfl (ok_imul dd_172_50 rfl) (am_rs rfl (ok_iload_n (k := 1) dd_172_51 rfl rfl) (am_rs rfl (ok_iadd dd_172_52 rfl) (am_rs rfl (ok_iald dd_172_53 rfl) (am_rs rfl (ok_aload_n (k := 0) dd_172_54 rfl rfl) (am_rs rfl (ok_gf dd_172_55 rfl am_ck12 (by decide) (Or.inl w_981)) (am_rz))))))))
theorem kb_172_7 : am_row mi_172 56 kr_172_7 := am_rn rfl (am_rn rfl (am_rs rfl (ok_iconst dd_172_58 ic_4 rfl) (am_rs rfl (ok_iload_n (k := 1) dd_172_59 rfl rfl) (am_rs rfl (ok_iconst dd_172_60 ic_1 rfl) (am_rs rfl (ok_iadd dd_172_61 rfl) (am_rs rfl (ok_imul dd_172_62 rfl) (am_rs rfl (ok_iload_n (k := 2) dd_172_63 rfl rfl) (am_rz))))))))
theorem kb_172_8 : am_row mi_172 64 kr_172_8 := am_rs rfl (ok_iadd dd_172_64 rfl) (am_rs rfl (ok_iald dd_172_65 rfl) (am_rs rfl (ok_iadd dd_172_66 rfl) (am_rs rfl (ok_istore_n (k := 3) dd_172_67 rfl rfl (by decide)) (am_rs rfl (ok_aload_n (k := 0) dd_172_68 rfl rfl) (am_rs rfl (ok_iload_n (k := 1) dd_172_69 rfl rfl) (am_rs rfl (ok_iload_n (k := 2) dd_172_70 rfl rfl) (am_rs rfl (ok_cv (M' := mi_173) dd_172_71 rfl rfl w_1262 w_1264 ps_173 ⟨lk_173.1, lk_173.2.1, lk_173.2.2, by decide, by decide⟩ rfl) (am_rz))))))))
theorem kb_172_9 : am_row mi_172 72 kr_172_9 := am_rn rfl (am_rn rfl (am_rs rfl (ok_istore dd_172_74 rfl (by decide)) (am_rn rfl (am_rs rfl (ok_aload_n (k := 0) dd_172_76 rfl rfl) (am_rs rfl (ok_gf dd_172_77 rfl am_ck12 (by decide) (Or.inl w_981)) (am_rn rfl (am_rn rfl (am_rz))))))))
theorem kb_172_10 : am_row mi_172 80 kr_172_10 := am_rs rfl (ok_iconst dd_172_80 ic_4 rfl) (am_rs rfl (ok_iload_n (k := 1) dd_172_81 rfl rfl) (am_rs rfl (ok_imul dd_172_82 rfl) (am_rs rfl (ok_iload_n (k := 2) dd_172_83 rfl rfl) (am_rs rfl (ok_iadd dd_172_84 rfl) (am_rs rfl (ok_iload dd_172_85 rfl) (am_rn rfl (am_rs rfl (ok_bipush dd_172_87 bi_m4 rfl) (am_rz))))))))
theorem kb_172_11 : am_row mi_172 88 kr_172_11 := am_rn rfl (am_rs rfl (ok_icmp dd_172_89 (by decide) rfl) (am_rn rfl (am_rn rfl (am_rs rfl (ok_aload_n (k := 0) dd_172_92 rfl rfl) (am_rs rfl (ok_iload_n (k := 1) dd_172_93 rfl rfl) (am_rs rfl (ok_iload dd_172_94 rfl) (am_rn rfl (am_rz))))))))
theorem kb_172_12 : am_row mi_172 96 kr_172_12 := am_rs rfl (ok_cv (M' := mi_174) dd_172_96 rfl rfl w_1266 w_1268 ps_174 ⟨lk_174.1, lk_174.2.1, lk_174.2.2, by decide, by decide⟩ rfl) (am_rn rfl (am_rn rfl (am_rs rfl (ok_iload_n (k := 3) dd_172_99 rfl rfl) (am_rs rfl (ok_icmp dd_172_100 (by decide) rfl) (am_rn rfl (am_rn rfl (am_rs rfl (ok_aload_n (k := 0) dd_172_103 rfl rfl) (am_rz))))))))
theorem kb_172_13 : am_row mi_172 104 kr_172_13 := am_rs rfl (ok_iload_n (k := 1) dd_172_104 rfl rfl) (am_rs rfl (ok_iload dd_172_105 rfl) (am_rn rfl (am_rs rfl (ok_cv (M' := mi_174) dd_172_107 rfl rfl w_1266 w_1268 ps_174 ⟨lk_174.1, lk_174.2.1, lk_174.2.2, by decide, by decide⟩ rfl) (am_rn rfl (am_rn rfl (am_rs rfl (ok_goto dd_172_110 (by decide)) (am_rn rfl (am_rz))))))))
theorem kb_172_14 : am_row mi_172 112 kr_172_14 := am_rn rfl (am_rs rfl (ok_iload_n (k := 3) dd_172_113 rfl rfl) (am_rs rfl (ok_iast dd_172_114 rfl) (am_rs rfl (ok_iinc dd_172_115 ic_1 rfl (by decide)) (am_rn rfl (am_rn rfl (am_rs rfl (ok_goto dd_172_118 (by decide)) (am_rn rfl (am_rz))))))))
theorem kb_172_15 : am_row mi_172 120 kr_172_15 := am_rn rfl (am_rs rfl (ok_iinc dd_172_121 ic_m1 rfl (by decide)) (am_rn rfl (am_rn rfl (am_rs rfl (ok_goto dd_172_124 (by decide)) (am_rn rfl (am_rn rfl (am_rs rfl (ok_vret dd_172_127 rfl) (am_rz))))))))
theorem ck_172 : am_rows mi_172 0 cd_172 := am_bs rfl kb_172_0 (am_bs rfl kb_172_1 (am_bs rfl kb_172_2 (am_bs rfl kb_172_3 (am_bs rfl kb_172_4 (am_bs rfl kb_172_5 (am_bs rfl kb_172_6 (am_bs rfl kb_172_7 (am_bs rfl kb_172_8 (am_bs rfl kb_172_9 (am_bs rfl kb_172_10 (am_bs rfl kb_172_11 (am_bs rfl kb_172_12 (am_bs rfl kb_172_13 (am_bs rfl kb_172_14 (am_bs rfl kb_172_15 (am_bz))))))))))))))))
/-- OverAndBackModel.bestGoing(II)I -/
noncomputable def kr_173_0 : List (Option am_Op) := [some (am_psh (.retAddr 4294967292) 2), none, some (am_ist 3 3), some (am_psh (.retAddr 0) 4), some (am_ist 4 6), none, some (am_ild 4 8), none]
noncomputable def kr_173_1 : List (Option am_Op) := [some (am_ald0 0 9), some (am_gf 12 2 12), none, none, some (am_br2 .ge 56 15), none, none, some (am_ild 4 17)]
noncomputable def kr_173_2 : List (Option am_Op) := [none, some (am_ild 2 18), some (am_br2 .eq 48 21), none, none, some (am_ild 3 22), some (am_psh (.retAddr 4294967292) 24), none]
noncomputable def kr_173_3 : List (Option am_Op) := [some (am_br2 .eq 43 27), none, none, some (am_ald0 0 28), some (am_ild 1 29), some (am_ild 4 31), none, some (am_cv 174 2 12 34)]
noncomputable def kr_173_4 : List (Option am_Op) := [none, none, some (am_ald0 0 35), some (am_ild 1 36), some (am_ild 3 37), some (am_cv 174 2 12 40), none, none]
noncomputable def kr_173_5 : List (Option am_Op) := [some (am_br2 .le 48 43), none, none, some (am_ild 4 45), none, some (am_jmp 49), none, none]
noncomputable def kr_173_6 : List (Option am_Op) := [some (am_ild 3 49), some (am_ist 3 50), some (am_inc 4 1 53), none, none, some (am_jmp 6), none, none]
noncomputable def kr_173_7 : List (Option am_Op) := [some (am_ild 3 57), some (am_iret)]
noncomputable def cd_173 : am_Cd := [kr_173_0, kr_173_1, kr_173_2, kr_173_3, kr_173_4, kr_173_5, kr_173_6, kr_173_7]
theorem dd_173_0 : decode prog_14_method_57_code 0 = .ok (.bipush (-4), 2) := by decide +kernel
theorem dd_173_2 : decode prog_14_method_57_code 2 = .ok (.istore_n 3, 1) := by decide +kernel
theorem dd_173_3 : decode prog_14_method_57_code 3 = .ok (.iconst 0, 1) := by decide +kernel
theorem dd_173_4 : decode prog_14_method_57_code 4 = .ok (.istore 4, 2) := by decide +kernel
theorem dd_173_6 : decode prog_14_method_57_code 6 = .ok (.iload 4, 2) := by decide +kernel
theorem dd_173_8 : decode prog_14_method_57_code 8 = .ok (.aload_n 0, 1) := by decide +kernel
theorem dd_173_9 : decode prog_14_method_57_code 9 = .ok (.getfield 16, 3) := by decide +kernel
theorem dd_173_12 : decode prog_14_method_57_code 12 = .ok (.if_icmp .ge 44, 3) := by decide +kernel
theorem dd_173_15 : decode prog_14_method_57_code 15 = .ok (.iload 4, 2) := by decide +kernel
theorem dd_173_17 : decode prog_14_method_57_code 17 = .ok (.iload_n 2, 1) := by decide +kernel
theorem dd_173_18 : decode prog_14_method_57_code 18 = .ok (.if_icmp .eq 30, 3) := by decide +kernel
theorem dd_173_21 : decode prog_14_method_57_code 21 = .ok (.iload_n 3, 1) := by decide +kernel
theorem dd_173_22 : decode prog_14_method_57_code 22 = .ok (.bipush (-4), 2) := by decide +kernel
theorem dd_173_24 : decode prog_14_method_57_code 24 = .ok (.if_icmp .eq 19, 3) := by decide +kernel
theorem dd_173_27 : decode prog_14_method_57_code 27 = .ok (.aload_n 0, 1) := by decide +kernel
theorem dd_173_28 : decode prog_14_method_57_code 28 = .ok (.iload_n 1, 1) := by decide +kernel
theorem dd_173_29 : decode prog_14_method_57_code 29 = .ok (.iload 4, 2) := by decide +kernel
theorem dd_173_31 : decode prog_14_method_57_code 31 = .ok (.invokevirtual 306, 3) := by decide +kernel
theorem dd_173_34 : decode prog_14_method_57_code 34 = .ok (.aload_n 0, 1) := by decide +kernel
theorem dd_173_35 : decode prog_14_method_57_code 35 = .ok (.iload_n 1, 1) := by decide +kernel
theorem dd_173_36 : decode prog_14_method_57_code 36 = .ok (.iload_n 3, 1) := by decide +kernel
theorem dd_173_37 : decode prog_14_method_57_code 37 = .ok (.invokevirtual 306, 3) := by decide +kernel
theorem dd_173_40 : decode prog_14_method_57_code 40 = .ok (.if_icmp .le 8, 3) := by decide +kernel
theorem dd_173_43 : decode prog_14_method_57_code 43 = .ok (.iload 4, 2) := by decide +kernel
theorem dd_173_45 : decode prog_14_method_57_code 45 = .ok (.goto 4, 3) := by decide +kernel
theorem dd_173_48 : decode prog_14_method_57_code 48 = .ok (.iload_n 3, 1) := by decide +kernel
theorem dd_173_49 : decode prog_14_method_57_code 49 = .ok (.istore_n 3, 1) := by decide +kernel
theorem dd_173_50 : decode prog_14_method_57_code 50 = .ok (.iinc 4 1, 3) := by decide +kernel
theorem dd_173_53 : decode prog_14_method_57_code 53 = .ok (.goto (-47), 3) := by decide +kernel
theorem dd_173_56 : decode prog_14_method_57_code 56 = .ok (.iload_n 3, 1) := by decide +kernel
theorem dd_173_57 : decode prog_14_method_57_code 57 = .ok (.ireturn, 1) := by decide +kernel
theorem kb_173_0 : am_row mi_173 0 kr_173_0 := am_rs rfl (ok_bipush dd_173_0 bi_m4 rfl) (am_rn rfl (am_rs rfl (ok_istore_n (k := 3) dd_173_2 rfl rfl (by decide)) (am_rs rfl (ok_iconst dd_173_3 ic_0 rfl) (am_rs rfl (ok_istore dd_173_4 rfl (by decide)) (am_rn rfl (am_rs rfl (ok_iload dd_173_6 rfl) (am_rn rfl (am_rz))))))))
theorem kb_173_1 : am_row mi_173 8 kr_173_1 := am_rs rfl (ok_aload_n (k := 0) dd_173_8 rfl rfl) (am_rs rfl (ok_gf dd_173_9 rfl am_ck12 (by decide) (Or.inl w_937)) (am_rn rfl (am_rn rfl (am_rs rfl (ok_icmp dd_173_12 (by decide) rfl) (am_rn rfl (am_rn rfl (am_rs rfl (ok_iload dd_173_15 rfl) (am_rz))))))))
theorem kb_173_2 : am_row mi_173 16 kr_173_2 := am_rn rfl (am_rs rfl (ok_iload_n (k := 2) dd_173_17 rfl rfl) (am_rs rfl (ok_icmp dd_173_18 (by decide) rfl) (am_rn rfl (am_rn rfl (am_rs rfl (ok_iload_n (k := 3) dd_173_21 rfl rfl) (am_rs rfl (ok_bipush dd_173_22 bi_m4 rfl) (am_rn rfl (am_rz))))))))
theorem kb_173_3 : am_row mi_173 24 kr_173_3 := am_rs rfl (ok_icmp dd_173_24 (by decide) rfl) (am_rn rfl (am_rn rfl (am_rs rfl (ok_aload_n (k := 0) dd_173_27 rfl rfl) (am_rs rfl (ok_iload_n (k := 1) dd_173_28 rfl rfl) (am_rs rfl (ok_iload dd_173_29 rfl) (am_rn rfl (am_rs rfl (ok_cv (M' := mi_174) dd_173_31 rfl rfl w_1266 w_1268 ps_174 ⟨lk_174.1, lk_174.2.1, lk_174.2.2, by decide, by decide⟩ rfl) (am_rz))))))))
theorem kb_173_4 : am_row mi_173 32 kr_173_4 := am_rn rfl (am_rn rfl (am_rs rfl (ok_aload_n (k := 0) dd_173_34 rfl rfl) (am_rs rfl (ok_iload_n (k := 1) dd_173_35 rfl rfl) (am_rs rfl (ok_iload_n (k := 3) dd_173_36 rfl rfl) (am_rs rfl (ok_cv (M' := mi_174) dd_173_37 rfl rfl w_1266 w_1268 ps_174 ⟨lk_174.1, lk_174.2.1, lk_174.2.2, by decide, by decide⟩ rfl) (am_rn rfl (am_rn rfl (am_rz))))))))
theorem kb_173_5 : am_row mi_173 40 kr_173_5 := am_rs rfl (ok_icmp dd_173_40 (by decide) rfl) (am_rn rfl (am_rn rfl (am_rs rfl (ok_iload dd_173_43 rfl) (am_rn rfl (am_rs rfl (ok_goto dd_173_45 (by decide)) (am_rn rfl (am_rn rfl (am_rz))))))))
theorem kb_173_6 : am_row mi_173 48 kr_173_6 := am_rs rfl (ok_iload_n (k := 3) dd_173_48 rfl rfl) (am_rs rfl (ok_istore_n (k := 3) dd_173_49 rfl rfl (by decide)) (am_rs rfl (ok_iinc dd_173_50 ic_1 rfl (by decide)) (am_rn rfl (am_rn rfl (am_rs rfl (ok_goto dd_173_53 (by decide)) (am_rn rfl (am_rn rfl (am_rz))))))))
theorem kb_173_7 : am_row mi_173 56 kr_173_7 := am_rs rfl (ok_iload_n (k := 3) dd_173_56 rfl rfl) (am_rs rfl (ok_iret dd_173_57 rfl) (am_rz))
theorem ck_173 : am_rows mi_173 0 cd_173 := am_bs rfl kb_173_0 (am_bs rfl kb_173_1 (am_bs rfl kb_173_2 (am_bs rfl kb_173_3 (am_bs rfl kb_173_4 (am_bs rfl kb_173_5 (am_bs rfl kb_173_6 (am_bs rfl kb_173_7 (am_bz))))))))
/-- OverAndBackModel.byGoing(II)I -/
noncomputable def kr_174_0 : List (Option am_Op) := [some (am_ald0 0 1), some (am_gf 12 1 4), none, none, some (am_br1 .ne 34 7), none, none, some (am_ald0 0 8)]
noncomputable def kr_174_1 : List (Option am_Op) := [some (am_gf 12 32 11), none, none, some (am_psh (.retAddr 64) 13), none, some (am_ild 2 14), some (am_bin am_mul 15), some (am_ild 1 16)]
noncomputable def kr_174_2 : List (Option am_Op) := [some (am_bin am_add 17), some (am_ald 0 18), some (am_ald0 0 19), some (am_gf 12 46 22), none, none, some (am_psh (.retAddr 4) 23), some (am_ild 1 24)]
noncomputable def kr_174_3 : List (Option am_Op) := [some (am_psh (.retAddr 1) 25), some (am_bin am_add 26), some (am_bin am_mul 27), some (am_ild 2 28), some (am_bin am_add 29), some (am_ald 0 30), some (am_bin am_add 31), some (am_jmp 49)]
noncomputable def kr_174_4 : List (Option am_Op) := [none, none, some (am_ald0 0 35), some (am_gf 12 46 38), none, none, some (am_psh (.retAddr 4) 39), some (am_ild 1 40)]
noncomputable def kr_174_5 : List (Option am_Op) := [some (am_ald0 0 41), some (am_gf 12 1 44), none, none, some (am_bin am_add 45), some (am_bin am_mul 46), some (am_ild 2 47), some (am_bin am_add 48)]
noncomputable def kr_174_6 : List (Option am_Op) := [some (am_ald 0 49), some (am_iret)]
noncomputable def cd_174 : am_Cd := [kr_174_0, kr_174_1, kr_174_2, kr_174_3, kr_174_4, kr_174_5, kr_174_6]
theorem dd_174_0 : decode prog_14_method_56_code 0 = .ok (.aload_n 0, 1) := by decide +kernel
theorem dd_174_1 : decode prog_14_method_56_code 1 = .ok (.getfield 13, 3) := by decide +kernel
theorem dd_174_4 : decode prog_14_method_56_code 4 = .ok (.ifCond .ne 30, 3) := by decide +kernel
theorem dd_174_7 : decode prog_14_method_56_code 7 = .ok (.aload_n 0, 1) := by decide +kernel
theorem dd_174_8 : decode prog_14_method_56_code 8 = .ok (.getfield 74, 3) := by decide +kernel
theorem dd_174_11 : decode prog_14_method_56_code 11 = .ok (.bipush 64, 2) := by decide +kernel
theorem dd_174_13 : decode prog_14_method_56_code 13 = .ok (.iload_n 2, 1) := by decide +kernel
theorem dd_174_14 : decode prog_14_method_56_code 14 = .ok (.imul, 1) := by decide +kernel
theorem dd_174_15 : decode prog_14_method_56_code 15 = .ok (.iload_n 1, 1) := by decide +kernel
theorem dd_174_16 : decode prog_14_method_56_code 16 = .ok (.iadd, 1) := by decide +kernel
theorem dd_174_17 : decode prog_14_method_56_code 17 = .ok (.iaload, 1) := by decide +kernel
theorem dd_174_18 : decode prog_14_method_56_code 18 = .ok (.aload_n 0, 1) := by decide +kernel
theorem dd_174_19 : decode prog_14_method_56_code 19 = .ok (.getfield 96, 3) := by decide +kernel
theorem dd_174_22 : decode prog_14_method_56_code 22 = .ok (.iconst 4, 1) := by decide +kernel
theorem dd_174_23 : decode prog_14_method_56_code 23 = .ok (.iload_n 1, 1) := by decide +kernel
theorem dd_174_24 : decode prog_14_method_56_code 24 = .ok (.iconst 1, 1) := by decide +kernel
theorem dd_174_25 : decode prog_14_method_56_code 25 = .ok (.iadd, 1) := by decide +kernel
theorem dd_174_26 : decode prog_14_method_56_code 26 = .ok (.imul, 1) := by decide +kernel
theorem dd_174_27 : decode prog_14_method_56_code 27 = .ok (.iload_n 2, 1) := by decide +kernel
theorem dd_174_28 : decode prog_14_method_56_code 28 = .ok (.iadd, 1) := by decide +kernel
theorem dd_174_29 : decode prog_14_method_56_code 29 = .ok (.iaload, 1) := by decide +kernel
theorem dd_174_30 : decode prog_14_method_56_code 30 = .ok (.iadd, 1) := by decide +kernel
theorem dd_174_31 : decode prog_14_method_56_code 31 = .ok (.goto 18, 3) := by decide +kernel
theorem dd_174_34 : decode prog_14_method_56_code 34 = .ok (.aload_n 0, 1) := by decide +kernel
theorem dd_174_35 : decode prog_14_method_56_code 35 = .ok (.getfield 96, 3) := by decide +kernel
theorem dd_174_38 : decode prog_14_method_56_code 38 = .ok (.iconst 4, 1) := by decide +kernel
theorem dd_174_39 : decode prog_14_method_56_code 39 = .ok (.iload_n 1, 1) := by decide +kernel
theorem dd_174_40 : decode prog_14_method_56_code 40 = .ok (.aload_n 0, 1) := by decide +kernel
theorem dd_174_41 : decode prog_14_method_56_code 41 = .ok (.getfield 13, 3) := by decide +kernel
theorem dd_174_44 : decode prog_14_method_56_code 44 = .ok (.iadd, 1) := by decide +kernel
theorem dd_174_45 : decode prog_14_method_56_code 45 = .ok (.imul, 1) := by decide +kernel
theorem dd_174_46 : decode prog_14_method_56_code 46 = .ok (.iload_n 2, 1) := by decide +kernel
theorem dd_174_47 : decode prog_14_method_56_code 47 = .ok (.iadd, 1) := by decide +kernel
theorem dd_174_48 : decode prog_14_method_56_code 48 = .ok (.iaload, 1) := by decide +kernel
theorem dd_174_49 : decode prog_14_method_56_code 49 = .ok (.ireturn, 1) := by decide +kernel
theorem kb_174_0 : am_row mi_174 0 kr_174_0 := am_rs rfl (ok_aload_n (k := 0) dd_174_0 rfl rfl) (am_rs rfl (ok_gf dd_174_1 rfl am_ck12 (by decide) (Or.inl w_936)) (am_rn rfl (am_rn rfl (am_rs rfl (ok_ifc dd_174_4 (by decide) rfl) (am_rn rfl (am_rn rfl (am_rs rfl (ok_aload_n (k := 0) dd_174_7 rfl rfl) (am_rz))))))))
theorem kb_174_1 : am_row mi_174 8 kr_174_1 := am_rs rfl (ok_gf dd_174_8 rfl am_ck12 (by decide) (Or.inl w_967)) (am_rn rfl (am_rn rfl (am_rs rfl (ok_bipush dd_174_11 bi_64 rfl) (am_rn rfl (am_rs rfl (ok_iload_n (k := 2) dd_174_13 rfl rfl) (am_rs rfl (ok_imul dd_174_14 rfl) (am_rs rfl (ok_iload_n (k := 1) dd_174_15 rfl rfl) (am_rz))))))))
theorem kb_174_2 : am_row mi_174 16 kr_174_2 := am_rs rfl (ok_iadd dd_174_16 rfl) (am_rs rfl (ok_iald dd_174_17 rfl) (am_rs rfl (ok_aload_n (k := 0) dd_174_18 rfl rfl) (am_rs rfl (ok_gf dd_174_19 rfl am_ck12 (by decide) (Or.inl w_981)) (am_rn rfl (am_rn rfl (am_rs rfl (ok_iconst dd_174_22 ic_4 rfl) (am_rs rfl (ok_iload_n (k := 1) dd_174_23 rfl rfl) (am_rz))))))))
theorem kb_174_3 : am_row mi_174 24 kr_174_3 := am_rs rfl (ok_iconst dd_174_24 ic_1 rfl) (am_rs rfl (ok_iadd dd_174_25 rfl) (am_rs rfl (ok_imul dd_174_26 rfl) (am_rs rfl (ok_iload_n (k := 2) dd_174_27 rfl rfl) (am_rs rfl (ok_iadd dd_174_28 rfl) (am_rs rfl (ok_iald dd_174_29 rfl) (am_rs rfl (ok_iadd dd_174_30 rfl) (am_rs rfl (ok_goto dd_174_31 (by decide)) (am_rz))))))))
theorem kb_174_4 : am_row mi_174 32 kr_174_4 := am_rn rfl (am_rn rfl (am_rs rfl (ok_aload_n (k := 0) dd_174_34 rfl rfl) (am_rs rfl (ok_gf dd_174_35 rfl am_ck12 (by decide) (Or.inl w_981)) (am_rn rfl (am_rn rfl (am_rs rfl (ok_iconst dd_174_38 ic_4 rfl) (am_rs rfl (ok_iload_n (k := 1) dd_174_39 rfl rfl) (am_rz))))))))
theorem kb_174_5 : am_row mi_174 40 kr_174_5 := am_rs rfl (ok_aload_n (k := 0) dd_174_40 rfl rfl) (am_rs rfl (ok_gf dd_174_41 rfl am_ck12 (by decide) (Or.inl w_936)) (am_rn rfl (am_rn rfl (am_rs rfl (ok_iadd dd_174_44 rfl) (am_rs rfl (ok_imul dd_174_45 rfl) (am_rs rfl (ok_iload_n (k := 2) dd_174_46 rfl rfl) (am_rs rfl (ok_iadd dd_174_47 rfl) (am_rz))))))))
theorem kb_174_6 : am_row mi_174 48 kr_174_6 := am_rs rfl (ok_iald dd_174_48 rfl) (am_rs rfl (ok_iret dd_174_49 rfl) (am_rz))
theorem ck_174 : am_rows mi_174 0 cd_174 := am_bs rfl kb_174_0 (am_bs rfl kb_174_1 (am_bs rfl kb_174_2 (am_bs rfl kb_174_3 (am_bs rfl kb_174_4 (am_bs rfl kb_174_5 (am_bs rfl kb_174_6 (am_bz)))))))
/-- OverAndBackModel.where(II)I -/
noncomputable def kr_175_0 : List (Option am_Op) := [some (am_ald0 0 1), some (am_ild 1 2), some (am_cv 164 1 12 5), none, none, some (am_br1 .eq 16 8), none, none]
noncomputable def kr_175_1 : List (Option am_Op) := [some (am_ald0 0 9), some (am_ild 2 10), some (am_cv 154 1 12 13), none, none, some (am_br1 .ne 18 16), none, none]
noncomputable def kr_175_2 : List (Option am_Op) := [some (am_psh (.retAddr 4294967295) 17), some (am_iret), some (am_ald0 0 19), some (am_psh (.retAddr 0) 20), some (am_psh (.retAddr 4294967292) 22), none, some (am_cv 155 2 12 25), none]
noncomputable def kr_175_3 : List (Option am_Op) := [none, some (am_ald0 0 26), some (am_ild 1 27), some (am_cv 165 1 12 30), none, none, some (am_ald0 0 31), some (am_gf 12 35 34)]
noncomputable def kr_175_4 : List (Option am_Op) := [none, none, some (am_ild 2 35), some (am_ald 0 36), some (am_iret)]
noncomputable def cd_175 : am_Cd := [kr_175_0, kr_175_1, kr_175_2, kr_175_3, kr_175_4]
theorem dd_175_0 : decode prog_14_method_46_code 0 = .ok (.aload_n 0, 1) := by decide +kernel
theorem dd_175_1 : decode prog_14_method_46_code 1 = .ok (.iload_n 1, 1) := by decide +kernel
theorem dd_175_2 : decode prog_14_method_46_code 2 = .ok (.invokevirtual 285, 3) := by decide +kernel
theorem dd_175_5 : decode prog_14_method_46_code 5 = .ok (.ifCond .eq 11, 3) := by decide +kernel
theorem dd_175_8 : decode prog_14_method_46_code 8 = .ok (.aload_n 0, 1) := by decide +kernel
theorem dd_175_9 : decode prog_14_method_46_code 9 = .ok (.iload_n 2, 1) := by decide +kernel
theorem dd_175_10 : decode prog_14_method_46_code 10 = .ok (.invokevirtual 243, 3) := by decide +kernel
theorem dd_175_13 : decode prog_14_method_46_code 13 = .ok (.ifCond .ne 5, 3) := by decide +kernel
theorem dd_175_16 : decode prog_14_method_46_code 16 = .ok (.iconst (-1), 1) := by decide +kernel
theorem dd_175_17 : decode prog_14_method_46_code 17 = .ok (.ireturn, 1) := by decide +kernel
theorem dd_175_18 : decode prog_14_method_46_code 18 = .ok (.aload_n 0, 1) := by decide +kernel
theorem dd_175_19 : decode prog_14_method_46_code 19 = .ok (.iconst 0, 1) := by decide +kernel
theorem dd_175_20 : decode prog_14_method_46_code 20 = .ok (.bipush (-4), 2) := by decide +kernel
theorem dd_175_22 : decode prog_14_method_46_code 22 = .ok (.invokevirtual 246, 3) := by decide +kernel
theorem dd_175_25 : decode prog_14_method_46_code 25 = .ok (.aload_n 0, 1) := by decide +kernel
theorem dd_175_26 : decode prog_14_method_46_code 26 = .ok (.iload_n 1, 1) := by decide +kernel
theorem dd_175_27 : decode prog_14_method_46_code 27 = .ok (.invokevirtual 288, 3) := by decide +kernel
theorem dd_175_30 : decode prog_14_method_46_code 30 = .ok (.aload_n 0, 1) := by decide +kernel
theorem dd_175_31 : decode prog_14_method_46_code 31 = .ok (.getfield 84, 3) := by decide +kernel
theorem dd_175_34 : decode prog_14_method_46_code 34 = .ok (.iload_n 2, 1) := by decide +kernel
theorem dd_175_35 : decode prog_14_method_46_code 35 = .ok (.iaload, 1) := by decide +kernel
theorem dd_175_36 : decode prog_14_method_46_code 36 = .ok (.ireturn, 1) := by decide +kernel
theorem kb_175_0 : am_row mi_175 0 kr_175_0 := am_rs rfl (ok_aload_n (k := 0) dd_175_0 rfl rfl) (am_rs rfl (ok_iload_n (k := 1) dd_175_1 rfl rfl) (am_rs rfl (ok_cv (M' := mi_164) dd_175_2 rfl rfl w_1226 w_1228 ps_164 ⟨lk_164.1, lk_164.2.1, lk_164.2.2, by decide, by decide⟩ rfl) (am_rn rfl (am_rn rfl (am_rs rfl (ok_ifc dd_175_5 (by decide) rfl) (am_rn rfl (am_rn rfl (am_rz))))))))
theorem kb_175_1 : am_row mi_175 8 kr_175_1 := am_rs rfl (ok_aload_n (k := 0) dd_175_8 rfl rfl) (am_rs rfl (ok_iload_n (k := 2) dd_175_9 rfl rfl) (am_rs rfl (ok_cv (M' := mi_154) dd_175_10 rfl rfl w_1188 w_1190 ps_154 ⟨lk_154.1, lk_154.2.1, lk_154.2.2, by decide, by decide⟩ rfl) (am_rn rfl (am_rn rfl (am_rs rfl (ok_ifc dd_175_13 (by decide) rfl) (am_rn rfl (am_rn rfl (am_rz))))))))
theorem kb_175_2 : am_row mi_175 16 kr_175_2 := am_rs rfl (ok_iconst dd_175_16 ic_m1 rfl) (am_rs rfl (ok_iret dd_175_17 rfl) (am_rs rfl (ok_aload_n (k := 0) dd_175_18 rfl rfl) (am_rs rfl (ok_iconst dd_175_19 ic_0 rfl) (am_rs rfl (ok_bipush dd_175_20 bi_m4 rfl) (am_rn rfl (am_rs rfl (ok_cv (M' := mi_155) dd_175_22 rfl rfl w_1192 w_1194 ps_155 ⟨lk_155.1, lk_155.2.1, lk_155.2.2, by decide, by decide⟩ rfl) (am_rn rfl (am_rz))))))))
theorem kb_175_3 : am_row mi_175 24 kr_175_3 := am_rn rfl (am_rs rfl (ok_aload_n (k := 0) dd_175_25 rfl rfl) (am_rs rfl (ok_iload_n (k := 1) dd_175_26 rfl rfl) (am_rs rfl (ok_cv (M' := mi_165) dd_175_27 rfl rfl w_1230 w_1232 ps_165 ⟨lk_165.1, lk_165.2.1, lk_165.2.2, by decide, by decide⟩ rfl) (am_rn rfl (am_rn rfl (am_rs rfl (ok_aload_n (k := 0) dd_175_30 rfl rfl) (am_rs rfl (ok_gf dd_175_31 rfl am_ck12 (by decide) (Or.inl w_970)) (am_rz))))))))
theorem kb_175_4 : am_row mi_175 32 kr_175_4 := am_rn rfl (am_rn rfl (am_rs rfl (ok_iload_n (k := 2) dd_175_34 rfl rfl) (am_rs rfl (ok_iald dd_175_35 rfl) (am_rs rfl (ok_iret dd_175_36 rfl) (am_rz)))))
theorem ck_175 : am_rows mi_175 0 cd_175 := am_bs rfl kb_175_0 (am_bs rfl kb_175_1 (am_bs rfl kb_175_2 (am_bs rfl kb_175_3 (am_bs rfl kb_175_4 (am_bz)))))
/-- OverAndBackModel.begin(I)I -/
noncomputable def kr_176_0 : List (Option am_Op) := [some (am_ald0 0 1), some (am_ild 1 2), some (am_cv 153 1 12 5), none, none, some (am_br1 .ne 10 8), none, none]
noncomputable def kr_176_1 : List (Option am_Op) := [some (am_psh (.retAddr 4294967295) 9), some (am_iret), some (am_ald0 0 11), some (am_gf 12 39 14), none, none, some (am_ist 2 15), some (am_ald0 0 16)]
noncomputable def kr_176_2 : List (Option am_Op) := [some (am_ild 2 17), some (am_cv 177 1 12 20), none, none, some (am_ald0 0 21), some (am_ild 1 22), some (am_pf 12 39 0 25), none]
noncomputable def kr_176_3 : List (Option am_Op) := [none, some (am_ild 2 26), some (am_iret)]
noncomputable def cd_176 : am_Cd := [kr_176_0, kr_176_1, kr_176_2, kr_176_3]
theorem dd_176_0 : decode prog_14_method_48_code 0 = .ok (.aload_n 0, 1) := by decide +kernel
theorem dd_176_1 : decode prog_14_method_48_code 1 = .ok (.iload_n 1, 1) := by decide +kernel
theorem dd_176_2 : decode prog_14_method_48_code 2 = .ok (.invokevirtual 240, 3) := by decide +kernel
theorem dd_176_5 : decode prog_14_method_48_code 5 = .ok (.ifCond .ne 5, 3) := by decide +kernel
theorem dd_176_8 : decode prog_14_method_48_code 8 = .ok (.iconst (-1), 1) := by decide +kernel
theorem dd_176_9 : decode prog_14_method_48_code 9 = .ok (.ireturn, 1) := by decide +kernel
theorem dd_176_10 : decode prog_14_method_48_code 10 = .ok (.aload_n 0, 1) := by decide +kernel
theorem dd_176_11 : decode prog_14_method_48_code 11 = .ok (.getfield 204, 3) := by decide +kernel
theorem dd_176_14 : decode prog_14_method_48_code 14 = .ok (.istore_n 2, 1) := by decide +kernel
theorem dd_176_15 : decode prog_14_method_48_code 15 = .ok (.aload_n 0, 1) := by decide +kernel
theorem dd_176_16 : decode prog_14_method_48_code 16 = .ok (.iload_n 2, 1) := by decide +kernel
theorem dd_176_17 : decode prog_14_method_48_code 17 = .ok (.invokevirtual 294, 3) := by decide +kernel
theorem dd_176_20 : decode prog_14_method_48_code 20 = .ok (.aload_n 0, 1) := by decide +kernel
theorem dd_176_21 : decode prog_14_method_48_code 21 = .ok (.iload_n 1, 1) := by decide +kernel
theorem dd_176_22 : decode prog_14_method_48_code 22 = .ok (.putfield 204, 3) := by decide +kernel
theorem dd_176_25 : decode prog_14_method_48_code 25 = .ok (.iload_n 2, 1) := by decide +kernel
theorem dd_176_26 : decode prog_14_method_48_code 26 = .ok (.ireturn, 1) := by decide +kernel
theorem kb_176_0 : am_row mi_176 0 kr_176_0 := am_rs rfl (ok_aload_n (k := 0) dd_176_0 rfl rfl) (am_rs rfl (ok_iload_n (k := 1) dd_176_1 rfl rfl) (am_rs rfl (ok_cv (M' := mi_153) dd_176_2 rfl rfl w_1184 w_1186 ps_153 ⟨lk_153.1, lk_153.2.1, lk_153.2.2, by decide, by decide⟩ rfl) (am_rn rfl (am_rn rfl (am_rs rfl (ok_ifc dd_176_5 (by decide) rfl) (am_rn rfl (am_rn rfl (am_rz))))))))
theorem kb_176_1 : am_row mi_176 8 kr_176_1 := am_rs rfl (ok_iconst dd_176_8 ic_m1 rfl) (am_rs rfl (ok_iret dd_176_9 rfl) (am_rs rfl (ok_aload_n (k := 0) dd_176_10 rfl rfl) (am_rs rfl (ok_gf dd_176_11 rfl am_ck12 (by decide) (Or.inl w_974)) (am_rn rfl (am_rn rfl (am_rs rfl (ok_istore_n (k := 2) dd_176_14 rfl rfl (by decide)) (am_rs rfl (ok_aload_n (k := 0) dd_176_15 rfl rfl) (am_rz))))))))
theorem kb_176_2 : am_row mi_176 16 kr_176_2 := am_rs rfl (ok_iload_n (k := 2) dd_176_16 rfl rfl) (am_rs rfl (ok_cv (M' := mi_177) dd_176_17 rfl rfl w_1278 w_1280 ps_177 ⟨lk_177.1, lk_177.2.1, lk_177.2.2, by decide, by decide⟩ rfl) (am_rn rfl (am_rn rfl (am_rs rfl (ok_aload_n (k := 0) dd_176_20 rfl rfl) (am_rs rfl (ok_iload_n (k := 1) dd_176_21 rfl rfl) (am_rs rfl (ok_pf dd_176_22 rfl am_ck12 (by decide) (Or.inl w_974) (Or.inl rfl) rfl) (am_rn rfl (am_rz))))))))
theorem kb_176_3 : am_row mi_176 24 kr_176_3 := am_rn rfl (am_rs rfl (ok_iload_n (k := 2) dd_176_25 rfl rfl) (am_rs rfl (ok_iret dd_176_26 rfl) (am_rz)))
theorem ck_176 : am_rows mi_176 0 cd_176 := am_bs rfl kb_176_0 (am_bs rfl kb_176_1 (am_bs rfl kb_176_2 (am_bs rfl kb_176_3 (am_bz))))
/-- OverAndBackModel.remembers(I)V -/
noncomputable def kr_177_0 : List (Option am_Op) := [some (am_ald0 0 1), some (am_gf 12 42 4), none, none, some (am_psh (.retAddr 8) 6), none, some (am_br2 .ne 47 9), none]
noncomputable def kr_177_1 : List (Option am_Op) := [none, some (am_psh (.retAddr 0) 10), some (am_ist 2 11), some (am_ild 2 12), some (am_psh (.retAddr 7) 14), none, some (am_br2 .ge 37 17), none]
noncomputable def kr_177_2 : List (Option am_Op) := [none, some (am_ald0 0 18), some (am_gf 12 43 21), none, none, some (am_ild 2 22), some (am_ald0 0 23), some (am_gf 12 43 26)]
noncomputable def kr_177_3 : List (Option am_Op) := [none, none, some (am_ild 2 27), some (am_psh (.retAddr 1) 28), some (am_bin am_add 29), some (am_ald 0 30), some (am_ast 0 (fun v => v) 31), some (am_inc 2 1 34)]
noncomputable def kr_177_4 : List (Option am_Op) := [none, none, some (am_jmp 11), none, none, some (am_ald0 0 38), some (am_dup 39), some (am_gf 12 42 42)]
noncomputable def kr_177_5 : List (Option am_Op) := [none, none, some (am_psh (.retAddr 1) 43), some (am_bin am_sub 44), some (am_pf 12 42 0 47), none, none, some (am_ald0 0 48)]
noncomputable def kr_177_6 : List (Option am_Op) := [some (am_gf 12 43 51), none, none, some (am_ald0 0 52), some (am_gf 12 42 55), none, none, some (am_ild 1 56)]
noncomputable def kr_177_7 : List (Option am_Op) := [some (am_ast 0 (fun v => v) 57), some (am_ald0 0 58), some (am_dup 59), some (am_gf 12 42 62), none, none, some (am_psh (.retAddr 1) 63), some (am_bin am_add 64)]
noncomputable def kr_177_8 : List (Option am_Op) := [some (am_pf 12 42 0 67), none, none, some (am_vret)]
noncomputable def cd_177 : am_Cd := [kr_177_0, kr_177_1, kr_177_2, kr_177_3, kr_177_4, kr_177_5, kr_177_6, kr_177_7, kr_177_8]
theorem dd_177_0 : decode prog_14_method_47_code 0 = .ok (.aload_n 0, 1) := by decide +kernel
theorem dd_177_1 : decode prog_14_method_47_code 1 = .ok (.getfield 210, 3) := by decide +kernel
theorem dd_177_4 : decode prog_14_method_47_code 4 = .ok (.bipush 8, 2) := by decide +kernel
theorem dd_177_6 : decode prog_14_method_47_code 6 = .ok (.if_icmp .ne 41, 3) := by decide +kernel
theorem dd_177_9 : decode prog_14_method_47_code 9 = .ok (.iconst 0, 1) := by decide +kernel
theorem dd_177_10 : decode prog_14_method_47_code 10 = .ok (.istore_n 2, 1) := by decide +kernel
theorem dd_177_11 : decode prog_14_method_47_code 11 = .ok (.iload_n 2, 1) := by decide +kernel
theorem dd_177_12 : decode prog_14_method_47_code 12 = .ok (.bipush 7, 2) := by decide +kernel
theorem dd_177_14 : decode prog_14_method_47_code 14 = .ok (.if_icmp .ge 23, 3) := by decide +kernel
theorem dd_177_17 : decode prog_14_method_47_code 17 = .ok (.aload_n 0, 1) := by decide +kernel
theorem dd_177_18 : decode prog_14_method_47_code 18 = .ok (.getfield 90, 3) := by decide +kernel
theorem dd_177_21 : decode prog_14_method_47_code 21 = .ok (.iload_n 2, 1) := by decide +kernel
theorem dd_177_22 : decode prog_14_method_47_code 22 = .ok (.aload_n 0, 1) := by decide +kernel
theorem dd_177_23 : decode prog_14_method_47_code 23 = .ok (.getfield 90, 3) := by decide +kernel
theorem dd_177_26 : decode prog_14_method_47_code 26 = .ok (.iload_n 2, 1) := by decide +kernel
theorem dd_177_27 : decode prog_14_method_47_code 27 = .ok (.iconst 1, 1) := by decide +kernel
theorem dd_177_28 : decode prog_14_method_47_code 28 = .ok (.iadd, 1) := by decide +kernel
theorem dd_177_29 : decode prog_14_method_47_code 29 = .ok (.iaload, 1) := by decide +kernel
theorem dd_177_30 : decode prog_14_method_47_code 30 = .ok (.iastore, 1) := by decide +kernel
theorem dd_177_31 : decode prog_14_method_47_code 31 = .ok (.iinc 2 1, 3) := by decide +kernel
theorem dd_177_34 : decode prog_14_method_47_code 34 = .ok (.goto (-23), 3) := by decide +kernel
theorem dd_177_37 : decode prog_14_method_47_code 37 = .ok (.aload_n 0, 1) := by decide +kernel
theorem dd_177_38 : decode prog_14_method_47_code 38 = .ok (.dup, 1) := by decide +kernel
theorem dd_177_39 : decode prog_14_method_47_code 39 = .ok (.getfield 210, 3) := by decide +kernel
theorem dd_177_42 : decode prog_14_method_47_code 42 = .ok (.iconst 1, 1) := by decide +kernel
theorem dd_177_43 : decode prog_14_method_47_code 43 = .ok (.isub, 1) := by decide +kernel
theorem dd_177_44 : decode prog_14_method_47_code 44 = .ok (.putfield 210, 3) := by decide +kernel
theorem dd_177_47 : decode prog_14_method_47_code 47 = .ok (.aload_n 0, 1) := by decide +kernel
theorem dd_177_48 : decode prog_14_method_47_code 48 = .ok (.getfield 90, 3) := by decide +kernel
theorem dd_177_51 : decode prog_14_method_47_code 51 = .ok (.aload_n 0, 1) := by decide +kernel
theorem dd_177_52 : decode prog_14_method_47_code 52 = .ok (.getfield 210, 3) := by decide +kernel
theorem dd_177_55 : decode prog_14_method_47_code 55 = .ok (.iload_n 1, 1) := by decide +kernel
theorem dd_177_56 : decode prog_14_method_47_code 56 = .ok (.iastore, 1) := by decide +kernel
theorem dd_177_57 : decode prog_14_method_47_code 57 = .ok (.aload_n 0, 1) := by decide +kernel
theorem dd_177_58 : decode prog_14_method_47_code 58 = .ok (.dup, 1) := by decide +kernel
theorem dd_177_59 : decode prog_14_method_47_code 59 = .ok (.getfield 210, 3) := by decide +kernel
theorem dd_177_62 : decode prog_14_method_47_code 62 = .ok (.iconst 1, 1) := by decide +kernel
theorem dd_177_63 : decode prog_14_method_47_code 63 = .ok (.iadd, 1) := by decide +kernel
theorem dd_177_64 : decode prog_14_method_47_code 64 = .ok (.putfield 210, 3) := by decide +kernel
theorem dd_177_67 : decode prog_14_method_47_code 67 = .ok (.return_, 1) := by decide +kernel
theorem kb_177_0 : am_row mi_177 0 kr_177_0 := am_rs rfl (ok_aload_n (k := 0) dd_177_0 rfl rfl) (am_rs rfl (ok_gf dd_177_1 rfl am_ck12 (by decide) (Or.inl w_977)) (am_rn rfl (am_rn rfl (am_rs rfl (ok_bipush dd_177_4 bi_8 rfl) (am_rn rfl (am_rs rfl (ok_icmp dd_177_6 (by decide) rfl) (am_rn rfl (am_rz))))))))
theorem kb_177_1 : am_row mi_177 8 kr_177_1 := am_rn rfl (am_rs rfl (ok_iconst dd_177_9 ic_0 rfl) (am_rs rfl (ok_istore_n (k := 2) dd_177_10 rfl rfl (by decide)) (am_rs rfl (ok_iload_n (k := 2) dd_177_11 rfl rfl) (am_rs rfl (ok_bipush dd_177_12 bi_7 rfl) (am_rn rfl (am_rs rfl (ok_icmp dd_177_14 (by decide) rfl) (am_rn rfl (am_rz))))))))
theorem kb_177_2 : am_row mi_177 16 kr_177_2 := am_rn rfl (am_rs rfl (ok_aload_n (k := 0) dd_177_17 rfl rfl) (am_rs rfl (ok_gf dd_177_18 rfl am_ck12 (by decide) (Or.inl w_978)) (am_rn rfl (am_rn rfl (am_rs rfl (ok_iload_n (k := 2) dd_177_21 rfl rfl) (am_rs rfl (ok_aload_n (k := 0) dd_177_22 rfl rfl) (am_rs rfl (ok_gf dd_177_23 rfl am_ck12 (by decide) (Or.inl w_978)) (am_rz))))))))
theorem kb_177_3 : am_row mi_177 24 kr_177_3 := am_rn rfl (am_rn rfl (am_rs rfl (ok_iload_n (k := 2) dd_177_26 rfl rfl) (am_rs rfl (ok_iconst dd_177_27 ic_1 rfl) (am_rs rfl (ok_iadd dd_177_28 rfl) (am_rs rfl (ok_iald dd_177_29 rfl) (am_rs rfl (ok_iast dd_177_30 rfl) (am_rs rfl (ok_iinc dd_177_31 ic_1 rfl (by decide)) (am_rz))))))))
theorem kb_177_4 : am_row mi_177 32 kr_177_4 := am_rn rfl (am_rn rfl (am_rs rfl (ok_goto dd_177_34 (by decide)) (am_rn rfl (am_rn rfl (am_rs rfl (ok_aload_n (k := 0) dd_177_37 rfl rfl) (am_rs rfl (ok_dup dd_177_38 rfl) (am_rs rfl (ok_gf dd_177_39 rfl am_ck12 (by decide) (Or.inl w_977)) (am_rz))))))))
theorem kb_177_5 : am_row mi_177 40 kr_177_5 := am_rn rfl (am_rn rfl (am_rs rfl (ok_iconst dd_177_42 ic_1 rfl) (am_rs rfl (ok_isub dd_177_43 rfl) (am_rs rfl (ok_pf dd_177_44 rfl am_ck12 (by decide) (Or.inl w_977) (Or.inl rfl) rfl) (am_rn rfl (am_rn rfl (am_rs rfl (ok_aload_n (k := 0) dd_177_47 rfl rfl) (am_rz))))))))
theorem kb_177_6 : am_row mi_177 48 kr_177_6 := am_rs rfl (ok_gf dd_177_48 rfl am_ck12 (by decide) (Or.inl w_978)) (am_rn rfl (am_rn rfl (am_rs rfl (ok_aload_n (k := 0) dd_177_51 rfl rfl) (am_rs rfl (ok_gf dd_177_52 rfl am_ck12 (by decide) (Or.inl w_977)) (am_rn rfl (am_rn rfl (am_rs rfl (ok_iload_n (k := 1) dd_177_55 rfl rfl) (am_rz))))))))
theorem kb_177_7 : am_row mi_177 56 kr_177_7 := am_rs rfl (ok_iast dd_177_56 rfl) (am_rs rfl (ok_aload_n (k := 0) dd_177_57 rfl rfl) (am_rs rfl (ok_dup dd_177_58 rfl) (am_rs rfl (ok_gf dd_177_59 rfl am_ck12 (by decide) (Or.inl w_977)) (am_rn rfl (am_rn rfl (am_rs rfl (ok_iconst dd_177_62 ic_1 rfl) (am_rs rfl (ok_iadd dd_177_63 rfl) (am_rz))))))))
theorem kb_177_8 : am_row mi_177 64 kr_177_8 := am_rs rfl (ok_pf dd_177_64 rfl am_ck12 (by decide) (Or.inl w_977) (Or.inl rfl) rfl) (am_rn rfl (am_rn rfl (am_rs rfl (ok_vret dd_177_67 rfl) (am_rz))))
theorem ck_177 : am_rows mi_177 0 cd_177 := am_bs rfl kb_177_0 (am_bs rfl kb_177_1 (am_bs rfl kb_177_2 (am_bs rfl kb_177_3 (am_bs rfl kb_177_4 (am_bs rfl kb_177_5 (am_bs rfl kb_177_6 (am_bs rfl kb_177_7 (am_bs rfl kb_177_8 (am_bz)))))))))
/-- OverAndBackModel.over(II)I -/
noncomputable def kr_178_0 : List (Option am_Op) := [some (am_ald0 0 1), some (am_ild 1 2), some (am_cv 154 1 12 5), none, none, some (am_br1 .eq 16 8), none, none]
noncomputable def kr_178_1 : List (Option am_Op) := [some (am_ald0 0 9), some (am_ild 2 10), some (am_cv 153 1 12 13), none, none, some (am_br1 .ne 18 16), none, none]
noncomputable def kr_178_2 : List (Option am_Op) := [some (am_psh (.retAddr 4294967295) 17), some (am_iret), some (am_ald0 0 19), some (am_gf 12 40 22), none, none, some (am_psh (.retAddr 9) 24), none]
noncomputable def kr_178_3 : List (Option am_Op) := [some (am_br2 .ne 30 27), none, none, some (am_psh (.retAddr 4294967293) 29), none, some (am_iret), some (am_ald0 0 31), some (am_psh (.retAddr 4294967292) 33)]
noncomputable def kr_178_4 : List (Option am_Op) := [none, some (am_cv 177 1 12 36), none, none, some (am_ald0 0 37), some (am_gf 12 41 40), none, none]
noncomputable def kr_178_5 : List (Option am_Op) := [some (am_psh (.retAddr 2) 41), some (am_ald0 0 42), some (am_gf 12 40 45), none, none, some (am_bin am_mul 46), some (am_ild 1 47), some (am_ast 0 (fun v => v) 48)]
noncomputable def kr_178_6 : List (Option am_Op) := [some (am_ald0 0 49), some (am_gf 12 41 52), none, none, some (am_psh (.retAddr 2) 53), some (am_ald0 0 54), some (am_gf 12 40 57), none]
noncomputable def kr_178_7 : List (Option am_Op) := [none, some (am_bin am_mul 58), some (am_psh (.retAddr 1) 59), some (am_bin am_add 60), some (am_ild 2 61), some (am_ast 0 (fun v => v) 62), some (am_ald0 0 63), some (am_dup 64)]
noncomputable def kr_178_8 : List (Option am_Op) := [some (am_gf 12 40 67), none, none, some (am_psh (.retAddr 1) 68), some (am_bin am_add 69), some (am_pf 12 40 0 72), none, none]
noncomputable def kr_178_9 : List (Option am_Op) := [some (am_ald0 0 73), some (am_gf 12 40 76), none, none, some (am_iret)]
noncomputable def cd_178 : am_Cd := [kr_178_0, kr_178_1, kr_178_2, kr_178_3, kr_178_4, kr_178_5, kr_178_6, kr_178_7, kr_178_8, kr_178_9]
theorem dd_178_0 : decode prog_14_method_49_code 0 = .ok (.aload_n 0, 1) := by decide +kernel
theorem dd_178_1 : decode prog_14_method_49_code 1 = .ok (.iload_n 1, 1) := by decide +kernel
theorem dd_178_2 : decode prog_14_method_49_code 2 = .ok (.invokevirtual 243, 3) := by decide +kernel
theorem dd_178_5 : decode prog_14_method_49_code 5 = .ok (.ifCond .eq 11, 3) := by decide +kernel
theorem dd_178_8 : decode prog_14_method_49_code 8 = .ok (.aload_n 0, 1) := by decide +kernel
theorem dd_178_9 : decode prog_14_method_49_code 9 = .ok (.iload_n 2, 1) := by decide +kernel
theorem dd_178_10 : decode prog_14_method_49_code 10 = .ok (.invokevirtual 240, 3) := by decide +kernel
theorem dd_178_13 : decode prog_14_method_49_code 13 = .ok (.ifCond .ne 5, 3) := by decide +kernel
theorem dd_178_16 : decode prog_14_method_49_code 16 = .ok (.iconst (-1), 1) := by decide +kernel
theorem dd_178_17 : decode prog_14_method_49_code 17 = .ok (.ireturn, 1) := by decide +kernel
theorem dd_178_18 : decode prog_14_method_49_code 18 = .ok (.aload_n 0, 1) := by decide +kernel
theorem dd_178_19 : decode prog_14_method_49_code 19 = .ok (.getfield 207, 3) := by decide +kernel
theorem dd_178_22 : decode prog_14_method_49_code 22 = .ok (.bipush 9, 2) := by decide +kernel
theorem dd_178_24 : decode prog_14_method_49_code 24 = .ok (.if_icmp .ne 6, 3) := by decide +kernel
theorem dd_178_27 : decode prog_14_method_49_code 27 = .ok (.bipush (-3), 2) := by decide +kernel
theorem dd_178_29 : decode prog_14_method_49_code 29 = .ok (.ireturn, 1) := by decide +kernel
theorem dd_178_30 : decode prog_14_method_49_code 30 = .ok (.aload_n 0, 1) := by decide +kernel
theorem dd_178_31 : decode prog_14_method_49_code 31 = .ok (.bipush (-4), 2) := by decide +kernel
theorem dd_178_33 : decode prog_14_method_49_code 33 = .ok (.invokevirtual 294, 3) := by decide +kernel
theorem dd_178_36 : decode prog_14_method_49_code 36 = .ok (.aload_n 0, 1) := by decide +kernel
theorem dd_178_37 : decode prog_14_method_49_code 37 = .ok (.getfield 87, 3) := by decide +kernel
theorem dd_178_40 : decode prog_14_method_49_code 40 = .ok (.iconst 2, 1) := by decide +kernel
theorem dd_178_41 : decode prog_14_method_49_code 41 = .ok (.aload_n 0, 1) := by decide +kernel
theorem dd_178_42 : decode prog_14_method_49_code 42 = .ok (.getfield 207, 3) := by decide +kernel
theorem dd_178_45 : decode prog_14_method_49_code 45 = .ok (.imul, 1) := by decide +kernel
theorem dd_178_46 : decode prog_14_method_49_code 46 = .ok (.iload_n 1, 1) := by decide +kernel
theorem dd_178_47 : decode prog_14_method_49_code 47 = .ok (.iastore, 1) := by decide +kernel
theorem dd_178_48 : decode prog_14_method_49_code 48 = .ok (.aload_n 0, 1) := by decide +kernel
theorem dd_178_49 : decode prog_14_method_49_code 49 = .ok (.getfield 87, 3) := by decide +kernel
theorem dd_178_52 : decode prog_14_method_49_code 52 = .ok (.iconst 2, 1) := by decide +kernel
theorem dd_178_53 : decode prog_14_method_49_code 53 = .ok (.aload_n 0, 1) := by decide +kernel
theorem dd_178_54 : decode prog_14_method_49_code 54 = .ok (.getfield 207, 3) := by decide +kernel
theorem dd_178_57 : decode prog_14_method_49_code 57 = .ok (.imul, 1) := by decide +kernel
theorem dd_178_58 : decode prog_14_method_49_code 58 = .ok (.iconst 1, 1) := by decide +kernel
theorem dd_178_59 : decode prog_14_method_49_code 59 = .ok (.iadd, 1) := by decide +kernel
theorem dd_178_60 : decode prog_14_method_49_code 60 = .ok (.iload_n 2, 1) := by decide +kernel
theorem dd_178_61 : decode prog_14_method_49_code 61 = .ok (.iastore, 1) := by decide +kernel
theorem dd_178_62 : decode prog_14_method_49_code 62 = .ok (.aload_n 0, 1) := by decide +kernel
theorem dd_178_63 : decode prog_14_method_49_code 63 = .ok (.dup, 1) := by decide +kernel
theorem dd_178_64 : decode prog_14_method_49_code 64 = .ok (.getfield 207, 3) := by decide +kernel
theorem dd_178_67 : decode prog_14_method_49_code 67 = .ok (.iconst 1, 1) := by decide +kernel
theorem dd_178_68 : decode prog_14_method_49_code 68 = .ok (.iadd, 1) := by decide +kernel
theorem dd_178_69 : decode prog_14_method_49_code 69 = .ok (.putfield 207, 3) := by decide +kernel
theorem dd_178_72 : decode prog_14_method_49_code 72 = .ok (.aload_n 0, 1) := by decide +kernel
theorem dd_178_73 : decode prog_14_method_49_code 73 = .ok (.getfield 207, 3) := by decide +kernel
theorem dd_178_76 : decode prog_14_method_49_code 76 = .ok (.ireturn, 1) := by decide +kernel
theorem kb_178_0 : am_row mi_178 0 kr_178_0 := am_rs rfl (ok_aload_n (k := 0) dd_178_0 rfl rfl) (am_rs rfl (ok_iload_n (k := 1) dd_178_1 rfl rfl) (am_rs rfl (ok_cv (M' := mi_154) dd_178_2 rfl rfl w_1188 w_1190 ps_154 ⟨lk_154.1, lk_154.2.1, lk_154.2.2, by decide, by decide⟩ rfl) (am_rn rfl (am_rn rfl (am_rs rfl (ok_ifc dd_178_5 (by decide) rfl) (am_rn rfl (am_rn rfl (am_rz))))))))
theorem kb_178_1 : am_row mi_178 8 kr_178_1 := am_rs rfl (ok_aload_n (k := 0) dd_178_8 rfl rfl) (am_rs rfl (ok_iload_n (k := 2) dd_178_9 rfl rfl) (am_rs rfl (ok_cv (M' := mi_153) dd_178_10 rfl rfl w_1184 w_1186 ps_153 ⟨lk_153.1, lk_153.2.1, lk_153.2.2, by decide, by decide⟩ rfl) (am_rn rfl (am_rn rfl (am_rs rfl (ok_ifc dd_178_13 (by decide) rfl) (am_rn rfl (am_rn rfl (am_rz))))))))
theorem kb_178_2 : am_row mi_178 16 kr_178_2 := am_rs rfl (ok_iconst dd_178_16 ic_m1 rfl) (am_rs rfl (ok_iret dd_178_17 rfl) (am_rs rfl (ok_aload_n (k := 0) dd_178_18 rfl rfl) (am_rs rfl (ok_gf dd_178_19 rfl am_ck12 (by decide) (Or.inl w_975)) (am_rn rfl (am_rn rfl (am_rs rfl (ok_bipush dd_178_22 bi_9 rfl) (am_rn rfl (am_rz))))))))
theorem kb_178_3 : am_row mi_178 24 kr_178_3 := am_rs rfl (ok_icmp dd_178_24 (by decide) rfl) (am_rn rfl (am_rn rfl (am_rs rfl (ok_bipush dd_178_27 bi_m3 rfl) (am_rn rfl (am_rs rfl (ok_iret dd_178_29 rfl) (am_rs rfl (ok_aload_n (k := 0) dd_178_30 rfl rfl) (am_rs rfl (ok_bipush dd_178_31 bi_m4 rfl) (am_rz))))))))
theorem kb_178_4 : am_row mi_178 32 kr_178_4 := am_rn rfl (am_rs rfl (ok_cv (M' := mi_177) dd_178_33 rfl rfl w_1278 w_1280 ps_177 ⟨lk_177.1, lk_177.2.1, lk_177.2.2, by decide, by decide⟩ rfl) (am_rn rfl (am_rn rfl (am_rs rfl (ok_aload_n (k := 0) dd_178_36 rfl rfl) (am_rs rfl (ok_gf dd_178_37 rfl am_ck12 (by decide) (Or.inl w_976)) (am_rn rfl (am_rn rfl (am_rz))))))))
theorem kb_178_5 : am_row mi_178 40 kr_178_5 := am_rs rfl (ok_iconst dd_178_40 ic_2 rfl) (am_rs rfl (ok_aload_n (k := 0) dd_178_41 rfl rfl) (am_rs rfl (ok_gf dd_178_42 rfl am_ck12 (by decide) (Or.inl w_975)) (am_rn rfl (am_rn rfl (am_rs rfl (ok_imul dd_178_45 rfl) (am_rs rfl (ok_iload_n (k := 1) dd_178_46 rfl rfl) (am_rs rfl (ok_iast dd_178_47 rfl) (am_rz))))))))
theorem kb_178_6 : am_row mi_178 48 kr_178_6 := am_rs rfl (ok_aload_n (k := 0) dd_178_48 rfl rfl) (am_rs rfl (ok_gf dd_178_49 rfl am_ck12 (by decide) (Or.inl w_976)) (am_rn rfl (am_rn rfl (am_rs rfl (ok_iconst dd_178_52 ic_2 rfl) (am_rs rfl (ok_aload_n (k := 0) dd_178_53 rfl rfl) (am_rs rfl (ok_gf dd_178_54 rfl am_ck12 (by decide) (Or.inl w_975)) (am_rn rfl (am_rz))))))))
theorem kb_178_7 : am_row mi_178 56 kr_178_7 := am_rn rfl (am_rs rfl (ok_imul dd_178_57 rfl) (am_rs rfl (ok_iconst dd_178_58 ic_1 rfl) (am_rs rfl (ok_iadd dd_178_59 rfl) (am_rs rfl (ok_iload_n (k := 2) dd_178_60 rfl rfl) (am_rs rfl (ok_iast dd_178_61 rfl) (am_rs rfl (ok_aload_n (k := 0) dd_178_62 rfl rfl) (am_rs rfl (ok_dup dd_178_63 rfl) (am_rz))))))))
theorem kb_178_8 : am_row mi_178 64 kr_178_8 := am_rs rfl (ok_gf dd_178_64 rfl am_ck12 (by decide) (Or.inl w_975)) (am_rn rfl (am_rn rfl (am_rs rfl (ok_iconst dd_178_67 ic_1 rfl) (am_rs rfl (ok_iadd dd_178_68 rfl) (am_rs rfl (ok_pf dd_178_69 rfl am_ck12 (by decide) (Or.inl w_975) (Or.inl rfl) rfl) (am_rn rfl (am_rn rfl (am_rz))))))))
theorem kb_178_9 : am_row mi_178 72 kr_178_9 := am_rs rfl (ok_aload_n (k := 0) dd_178_72 rfl rfl) (am_rs rfl (ok_gf dd_178_73 rfl am_ck12 (by decide) (Or.inl w_975)) (am_rn rfl (am_rn rfl (am_rs rfl (ok_iret dd_178_76 rfl) (am_rz)))))
theorem ck_178 : am_rows mi_178 0 cd_178 := am_bs rfl kb_178_0 (am_bs rfl kb_178_1 (am_bs rfl kb_178_2 (am_bs rfl kb_178_3 (am_bs rfl kb_178_4 (am_bs rfl kb_178_5 (am_bs rfl kb_178_6 (am_bs rfl kb_178_7 (am_bs rfl kb_178_8 (am_bs rfl kb_178_9 (am_bz))))))))))
