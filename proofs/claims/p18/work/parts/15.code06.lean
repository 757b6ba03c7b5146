/-- OverAndBackModel.undo()I -/
noncomputable def kr_179_0 : List (Option am_Op) := [some (am_ald0 0 1), some (am_gf 12 42 4), none, none, some (am_br1 .ne 10 7), none, none, some (am_psh (.retAddr 4294967294) 9)]
noncomputable def kr_179_1 : List (Option am_Op) := [none, some (am_iret), some (am_ald0 0 11), some (am_dup 12), some (am_gf 12 42 15), none, none, some (am_psh (.retAddr 1) 16)]
noncomputable def kr_179_2 : List (Option am_Op) := [some (am_bin am_sub 17), some (am_pf 12 42 0 20), none, none, some (am_ald0 0 21), some (am_gf 12 43 24), none, none]
noncomputable def kr_179_3 : List (Option am_Op) := [some (am_ald0 0 25), some (am_gf 12 42 28), none, none, some (am_ald 0 29), some (am_psh (.retAddr 4294967292) 31), none, some (am_br2 .ne 47 34)]
noncomputable def kr_179_4 : List (Option am_Op) := [none, none, some (am_ald0 0 35), some (am_dup 36), some (am_gf 12 40 39), none, none, some (am_psh (.retAddr 1) 40)]
noncomputable def kr_179_5 : List (Option am_Op) := [some (am_bin am_sub 41), some (am_pf 12 40 0 44), none, none, some (am_jmp 60), none, none, some (am_ald0 0 48)]
noncomputable def kr_179_6 : List (Option am_Op) := [some (am_ald0 0 49), some (am_gf 12 43 52), none, none, some (am_ald0 0 53), some (am_gf 12 42 56), none, none]
noncomputable def kr_179_7 : List (Option am_Op) := [some (am_ald 0 57), some (am_pf 12 39 0 60), none, none, some (am_ald0 0 61), some (am_gf 12 42 64), none, none]
noncomputable def kr_179_8 : List (Option am_Op) := [some (am_iret)]
noncomputable def cd_179 : am_Cd := [kr_179_0, kr_179_1, kr_179_2, kr_179_3, kr_179_4, kr_179_5, kr_179_6, kr_179_7, kr_179_8]
theorem dd_179_0 : decode prog_14_method_50_code 0 = .ok (.aload_n 0, 1) := by decide +kernel
theorem dd_179_1 : decode prog_14_method_50_code 1 = .ok (.getfield 210, 3) := by decide +kernel
theorem dd_179_4 : decode prog_14_method_50_code 4 = .ok (.ifCond .ne 6, 3) := by decide +kernel
theorem dd_179_7 : decode prog_14_method_50_code 7 = .ok (.bipush (-2), 2) := by decide +kernel
theorem dd_179_9 : decode prog_14_method_50_code 9 = .ok (.ireturn, 1) := by decide +kernel
theorem dd_179_10 : decode prog_14_method_50_code 10 = .ok (.aload_n 0, 1) := by decide +kernel
theorem dd_179_11 : decode prog_14_method_50_code 11 = .ok (.dup, 1) := by decide +kernel
theorem dd_179_12 : decode prog_14_method_50_code 12 = .ok (.getfield 210, 3) := by decide +kernel
theorem dd_179_15 : decode prog_14_method_50_code 15 = .ok (.iconst 1, 1) := by decide +kernel
theorem dd_179_16 : decode prog_14_method_50_code 16 = .ok (.isub, 1) := by decide +kernel
theorem dd_179_17 : decode prog_14_method_50_code 17 = .ok (.putfield 210, 3) := by decide +kernel
theorem dd_179_20 : decode prog_14_method_50_code 20 = .ok (.aload_n 0, 1) := by decide +kernel
theorem dd_179_21 : decode prog_14_method_50_code 21 = .ok (.getfield 90, 3) := by decide +kernel
theorem dd_179_24 : decode prog_14_method_50_code 24 = .ok (.aload_n 0, 1) := by decide +kernel
theorem dd_179_25 : decode prog_14_method_50_code 25 = .ok (.getfield 210, 3) := by decide +kernel
theorem dd_179_28 : decode prog_14_method_50_code 28 = .ok (.iaload, 1) := by decide +kernel
theorem dd_179_29 : decode prog_14_method_50_code 29 = .ok (.bipush (-4), 2) := by decide +kernel
theorem dd_179_31 : decode prog_14_method_50_code 31 = .ok (.if_icmp .ne 16, 3) := by decide +kernel
theorem dd_179_34 : decode prog_14_method_50_code 34 = .ok (.aload_n 0, 1) := by decide +kernel
theorem dd_179_35 : decode prog_14_method_50_code 35 = .ok (.dup, 1) := by decide +kernel
theorem dd_179_36 : decode prog_14_method_50_code 36 = .ok (.getfield 207, 3) := by decide +kernel
theorem dd_179_39 : decode prog_14_method_50_code 39 = .ok (.iconst 1, 1) := by decide +kernel
theorem dd_179_40 : decode prog_14_method_50_code 40 = .ok (.isub, 1) := by decide +kernel
theorem dd_179_41 : decode prog_14_method_50_code 41 = .ok (.putfield 207, 3) := by decide +kernel
theorem dd_179_44 : decode prog_14_method_50_code 44 = .ok (.goto 16, 3) := by decide +kernel
theorem dd_179_47 : decode prog_14_method_50_code 47 = .ok (.aload_n 0, 1) := by decide +kernel
theorem dd_179_48 : decode prog_14_method_50_code 48 = .ok (.aload_n 0, 1) := by decide +kernel
theorem dd_179_49 : decode prog_14_method_50_code 49 = .ok (.getfield 90, 3) := by decide +kernel
theorem dd_179_52 : decode prog_14_method_50_code 52 = .ok (.aload_n 0, 1) := by decide +kernel
theorem dd_179_53 : decode prog_14_method_50_code 53 = .ok (.getfield 210, 3) := by decide +kernel
theorem dd_179_56 : decode prog_14_method_50_code 56 = .ok (.iaload, 1) := by decide +kernel
theorem dd_179_57 : decode prog_14_method_50_code 57 = .ok (.putfield 204, 3) := by decide +kernel
theorem dd_179_60 : decode prog_14_method_50_code 60 = .ok (.aload_n 0, 1) := by decide +kernel
theorem dd_179_61 : decode prog_14_method_50_code 61 = .ok (.getfield 210, 3) := by decide +kernel
theorem dd_179_64 : decode prog_14_method_50_code 64 = .ok (.ireturn, 1) := by decide +kernel
theorem kb_179_0 : am_row mi_179 0 kr_179_0 := am_rs rfl (ok_aload_n (k := 0) dd_179_0 rfl rfl) (am_rs rfl (ok_gf dd_179_1 rfl am_ck12 (by decide) (Or.inl w_977)) (am_rn rfl (am_rn rfl (am_rs rfl (ok_ifc dd_179_4 (by decide) rfl) (am_rn rfl (am_rn rfl (am_rs rfl (ok_bipush dd_179_7 bi_m2 rfl) (am_rz))))))))
theorem kb_179_1 : am_row mi_179 8 kr_179_1 := am_rn rfl (am_rs rfl (ok_iret dd_179_9 rfl) (am_rs rfl (ok_aload_n (k := 0) dd_179_10 rfl rfl) (am_rs rfl (ok_dup dd_179_11 rfl) (am_rs rfl (ok_gf dd_179_12 rfl am_ck12 (by decide) (Or.inl w_977)) (am_rn rfl (am_rn rfl (am_rs rfl (ok_iconst dd_179_15 ic_1 rfl) (am_rz))))))))
theorem kb_179_2 : am_row mi_179 16 kr_179_2 := am_rs rfl (ok_isub dd_179_16 rfl) (am_rs rfl (ok_pf dd_179_17 rfl am_ck12 (by decide) (Or.inl w_977) (Or.inl rfl) rfl) (am_rn rfl (am_rn rfl (am_rs rfl (ok_aload_n (k := 0) dd_179_20 rfl rfl) (am_rs rfl (ok_gf dd_179_21 rfl am_ck12 (by decide) (Or.inl w_978)) (am_rn rfl (am_rn rfl (am_rz))))))))
theorem kb_179_3 : am_row mi_179 24 kr_179_3 := am_rs rfl (ok_aload_n (k := 0) dd_179_24 rfl rfl) (am_rs rfl (ok_gf dd_179_25 rfl am_ck12 (by decide) (Or.inl w_977)) (am_rn rfl (am_rn rfl (am_rs rfl (ok_iald dd_179_28 rfl) (am_rs rfl (ok_bipush dd_179_29 bi_m4 rfl) (am_rn rfl (am_rs rfl (ok_icmp dd_179_31 (by decide) rfl) (am_rz))))))))
theorem kb_179_4 : am_row mi_179 32 kr_179_4 := am_rn rfl (am_rn rfl (am_rs rfl (ok_aload_n (k := 0) dd_179_34 rfl rfl) (am_rs rfl (ok_dup dd_179_35 rfl) (am_rs rfl (ok_gf dd_179_36 rfl am_ck12 (by decide) (Or.inl w_975)) (am_rn rfl (am_rn rfl (am_rs rfl (ok_iconst dd_179_39 ic_1 rfl) (am_rz))))))))
theorem kb_179_5 : am_row mi_179 40 kr_179_5 := am_rs rfl (ok_isub dd_179_40 rfl) (am_rs rfl (ok_pf dd_179_41 rfl am_ck12 (by decide) (Or.inl w_975) (Or.inl rfl) rfl) (am_rn rfl (am_rn rfl (am_rs rfl (ok_goto dd_179_44 (by decide)) (am_rn rfl (am_rn rfl (am_rs rfl (ok_aload_n (k := 0) dd_179_47 rfl rfl) (am_rz))))))))
theorem kb_179_6 : am_row mi_179 48 kr_179_6 := am_rs rfl (ok_aload_n (k := 0) dd_179_48 rfl rfl) (am_rs rfl (ok_gf dd_179_49 rfl am_ck12 (by decide) (Or.inl w_978)) (am_rn rfl (am_rn rfl (am_rs rfl (ok_aload_n (k := 0) dd_179_52 rfl rfl) (am_rs rfl (ok_gf dd_179_53 rfl am_ck12 (by decide) (Or.inl w_977)) (am_rn rfl (am_rn rfl (am_rz))))))))
theorem kb_179_7 : am_row mi_179 56 kr_179_7 := am_rs rfl (ok_iald dd_179_56 rfl) (am_rs rfl (ok_pf dd_179_57 rfl am_ck12 (by decide) (Or.inl w_974) (Or.inl rfl) rfl) (am_rn rfl (am_rn rfl (am_rs rfl (ok_aload_n (k := 0) dd_179_60 rfl rfl) (am_rs rfl (ok_gf dd_179_61 rfl am_ck12 (by decide) (Or.inl w_977)) (am_rn rfl (am_rn rfl (am_rz))))))))
theorem kb_179_8 : am_row mi_179 64 kr_179_8 := am_rs rfl (ok_iret dd_179_64 rfl) (am_rz)
theorem ck_179 : am_rows mi_179 0 cd_179 := am_bs rfl kb_179_0 (am_bs rfl kb_179_1 (am_bs rfl kb_179_2 (am_bs rfl kb_179_3 (am_bs rfl kb_179_4 (am_bs rfl kb_179_5 (am_bs rfl kb_179_6 (am_bs rfl kb_179_7 (am_bs rfl kb_179_8 (am_bz)))))))))
/-- OverAndBackModel.judge()I -/
noncomputable def kr_180_0 : List (Option am_Op) := [some (am_ald0 0 1), some (am_cv 181 0 12 4), none, none, some (am_ald0 0 5), some (am_gf 12 44 8), none, none]
noncomputable def kr_180_1 : List (Option am_Op) := [some (am_iret)]
noncomputable def cd_180 : am_Cd := [kr_180_0, kr_180_1]
theorem dd_180_0 : decode prog_14_method_53_code 0 = .ok (.aload_n 0, 1) := by decide +kernel
theorem dd_180_1 : decode prog_14_method_53_code 1 = .ok (.invokevirtual 300, 3) := by decide +kernel
theorem dd_180_4 : decode prog_14_method_53_code 4 = .ok (.aload_n 0, 1) := by decide +kernel
theorem dd_180_5 : decode prog_14_method_53_code 5 = .ok (.getfield 297, 3) := by decide +kernel
theorem dd_180_8 : decode prog_14_method_53_code 8 = .ok (.ireturn, 1) := by decide +kernel
theorem kb_180_0 : am_row mi_180 0 kr_180_0 := am_rs rfl (ok_aload_n (k := 0) dd_180_0 rfl rfl) (am_rs rfl (ok_cv (M' := mi_181) dd_180_1 rfl rfl w_1294 w_1296 ps_181 ⟨lk_181.1, lk_181.2.1, lk_181.2.2, by decide, by decide⟩ rfl) (am_rn rfl (am_rn rfl (am_rs rfl (ok_aload_n (k := 0) dd_180_4 rfl rfl) (am_rs rfl (ok_gf dd_180_5 rfl am_ck12 (by decide) (Or.inl w_979)) (am_rn rfl (am_rn rfl (am_rz))))))))
theorem kb_180_1 : am_row mi_180 8 kr_180_1 := am_rs rfl (ok_iret dd_180_8 rfl) (am_rz)
theorem ck_180 : am_rows mi_180 0 cd_180 := am_bs rfl kb_180_0 (am_bs rfl kb_180_1 (am_bz))
/-- OverAndBackModel.layPlan()V -/
noncomputable def kr_181_0 : List (Option am_Op) := [some (am_psh (.retAddr 0) 1), some (am_ist 1 2), some (am_ild 1 3), some (am_psh (.retAddr 60) 5), none, some (am_br2 .ge 22 8), none, none]
noncomputable def kr_181_1 : List (Option am_Op) := [some (am_ald0 0 9), some (am_gf 12 45 12), none, none, some (am_ild 1 13), some (am_psh (.retAddr 4294967292) 15), none, some (am_ast 0 (fun v => v) 16)]
noncomputable def kr_181_2 : List (Option am_Op) := [some (am_inc 1 1 19), none, none, some (am_jmp 2), none, none, some (am_ald0 0 23), some (am_psh (.retAddr 4294967292) 25)]
noncomputable def kr_181_3 : List (Option am_Op) := [none, some (am_pf 12 44 0 28), none, none, some (am_ald0 0 29), some (am_gf 12 39 32), none, none]
noncomputable def kr_181_4 : List (Option am_Op) := [some (am_ist 1 33), some (am_psh (.retAddr 0) 34), some (am_ist 2 35), some (am_psh (.retAddr 0) 36), some (am_ist 3 37), some (am_ild 3 38), some (am_ald0 0 39), some (am_gf 12 40 42)]
noncomputable def kr_181_5 : List (Option am_Op) := [none, none, some (am_br2 .ge 169 45), none, none, some (am_ald0 0 46), some (am_gf 12 41 49), none]
noncomputable def kr_181_6 : List (Option am_Op) := [none, some (am_psh (.retAddr 2) 50), some (am_ild 3 51), some (am_bin am_mul 52), some (am_ald 0 53), some (am_ist 4 55), none, some (am_ild 4 57)]
noncomputable def kr_181_7 : List (Option am_Op) := [none, some (am_ild 2 58), some (am_br2 .lt 79 61), none, none, some (am_ald0 0 62), some (am_gf 12 41 65), none]
noncomputable def kr_181_8 : List (Option am_Op) := [none, some (am_psh (.retAddr 2) 66), some (am_ild 3 67), some (am_bin am_mul 68), some (am_psh (.retAddr 1) 69), some (am_bin am_add 70), some (am_ald 0 71), some (am_ild 1 72)]
noncomputable def kr_181_9 : List (Option am_Op) := [some (am_br2 .eq 79 75), none, none, some (am_psh (.retAddr 1) 76), some (am_jmp 80), none, none, some (am_psh (.retAddr 0) 80)]
noncomputable def kr_181_10 : List (Option am_Op) := [some (am_ist 5 82), none, some (am_ild 5 84), none, some (am_br1 .eq 137 87), none, none, some (am_ald0 0 88)]
noncomputable def kr_181_11 : List (Option am_Op) := [some (am_gf 12 45 91), none, none, some (am_ild 4 93), none, some (am_ald0 0 94), some (am_gf 12 41 97), none]
noncomputable def kr_181_12 : List (Option am_Op) := [none, some (am_psh (.retAddr 2) 98), some (am_ild 3 99), some (am_bin am_mul 100), some (am_psh (.retAddr 1) 101), some (am_bin am_add 102), some (am_ald 0 103), some (am_ast 0 (fun v => v) 104)]
noncomputable def kr_181_13 : List (Option am_Op) := [some (am_ald0 0 105), some (am_gf 12 41 108), none, none, some (am_psh (.retAddr 2) 109), some (am_ild 3 110), some (am_bin am_mul 111), some (am_psh (.retAddr 1) 112)]
noncomputable def kr_181_14 : List (Option am_Op) := [some (am_bin am_add 113), some (am_ald 0 114), some (am_ist 1 115), some (am_ald0 0 116), some (am_gf 12 1 119), none, none, some (am_br1 .ne 129 122)]
noncomputable def kr_181_15 : List (Option am_Op) := [none, none, some (am_ild 4 124), none, some (am_psh (.retAddr 1) 125), some (am_bin am_add 126), some (am_jmp 136), none]
noncomputable def kr_181_16 : List (Option am_Op) := [none, some (am_ild 4 131), none, some (am_ald0 0 132), some (am_gf 12 1 135), none, none, some (am_bin am_add 136)]
noncomputable def kr_181_17 : List (Option am_Op) := [some (am_ist 2 137), some (am_ald0 0 138), some (am_ild 5 140), none, some (am_br1 .ne 156 143), none, none, some (am_ald0 0 144)]
noncomputable def kr_181_18 : List (Option am_Op) := [some (am_gf 12 44 147), none, none, some (am_psh (.retAddr 4294967292) 149), none, some (am_br2 .ne 156 152), none, none]
noncomputable def kr_181_19 : List (Option am_Op) := [some (am_ild 3 153), some (am_jmp 160), none, none, some (am_ald0 0 157), some (am_gf 12 44 160), none, none]
noncomputable def kr_181_20 : List (Option am_Op) := [some (am_pf 12 44 0 163), none, none, some (am_inc 3 1 166), none, none, some (am_jmp 37), none]
noncomputable def kr_181_21 : List (Option am_Op) := [none, some (am_vret)]
noncomputable def cd_181 : am_Cd := [kr_181_0, kr_181_1, kr_181_2, kr_181_3, kr_181_4, kr_181_5, kr_181_6, kr_181_7, kr_181_8, kr_181_9, kr_181_10, kr_181_11, kr_181_12, kr_181_13, kr_181_14, kr_181_15, kr_181_16, kr_181_17, kr_181_18, kr_181_19, kr_181_20, kr_181_21]
theorem dd_181_0 : decode prog_14_method_51_code 0 = .ok (.iconst 0, 1) := by decide +kernel
theorem dd_181_1 : decode prog_14_method_51_code 1 = .ok (.istore_n 1, 1) := by decide +kernel
theorem dd_181_2 : decode prog_14_method_51_code 2 = .ok (.iload_n 1, 1) := by decide +kernel
theorem dd_181_3 : decode prog_14_method_51_code 3 = .ok (.bipush 60, 2) := by decide +kernel
theorem dd_181_5 : decode prog_14_method_51_code 5 = .ok (.if_icmp .ge 17, 3) := by decide +kernel
theorem dd_181_8 : decode prog_14_method_51_code 8 = .ok (.aload_n 0, 1) := by decide +kernel
theorem dd_181_9 : decode prog_14_method_51_code 9 = .ok (.getfield 93, 3) := by decide +kernel
theorem dd_181_12 : decode prog_14_method_51_code 12 = .ok (.iload_n 1, 1) := by decide +kernel
theorem dd_181_13 : decode prog_14_method_51_code 13 = .ok (.bipush (-4), 2) := by decide +kernel
theorem dd_181_15 : decode prog_14_method_51_code 15 = .ok (.iastore, 1) := by decide +kernel
theorem dd_181_16 : decode prog_14_method_51_code 16 = .ok (.iinc 1 1, 3) := by decide +kernel
theorem dd_181_19 : decode prog_14_method_51_code 19 = .ok (.goto (-17), 3) := by decide +kernel
theorem dd_181_22 : decode prog_14_method_51_code 22 = .ok (.aload_n 0, 1) := by decide +kernel
theorem dd_181_23 : decode prog_14_method_51_code 23 = .ok (.bipush (-4), 2) := by decide +kernel
theorem dd_181_25 : decode prog_14_method_51_code 25 = .ok (.putfield 297, 3) := by decide +kernel
theorem dd_181_28 : decode prog_14_method_51_code 28 = .ok (.aload_n 0, 1) := by decide +kernel
theorem dd_181_29 : decode prog_14_method_51_code 29 = .ok (.getfield 204, 3) := by decide +kernel
theorem dd_181_32 : decode prog_14_method_51_code 32 = .ok (.istore_n 1, 1) := by decide +kernel
theorem dd_181_33 : decode prog_14_method_51_code 33 = .ok (.iconst 0, 1) := by decide +kernel
theorem dd_181_34 : decode prog_14_method_51_code 34 = .ok (.istore_n 2, 1) := by decide +kernel
theorem dd_181_35 : decode prog_14_method_51_code 35 = .ok (.iconst 0, 1) := by decide +kernel
theorem dd_181_36 : decode prog_14_method_51_code 36 = .ok (.istore_n 3, 1) := by decide +kernel
theorem dd_181_37 : decode prog_14_method_51_code 37 = .ok (.iload_n 3, 1) := by decide +kernel
theorem dd_181_38 : decode prog_14_method_51_code 38 = .ok (.aload_n 0, 1) := by decide +kernel
theorem dd_181_39 : decode prog_14_method_51_code 39 = .ok (.getfield 207, 3) := by decide +kernel
theorem dd_181_42 : decode prog_14_method_51_code 42 = .ok (.if_icmp .ge 127, 3) := by decide +kernel
theorem dd_181_45 : decode prog_14_method_51_code 45 = .ok (.aload_n 0, 1) := by decide +kernel
theorem dd_181_46 : decode prog_14_method_51_code 46 = .ok (.getfield 87, 3) := by decide +kernel
theorem dd_181_49 : decode prog_14_method_51_code 49 = .ok (.iconst 2, 1) := by decide +kernel
theorem dd_181_50 : decode prog_14_method_51_code 50 = .ok (.iload_n 3, 1) := by decide +kernel
theorem dd_181_51 : decode prog_14_method_51_code 51 = .ok (.imul, 1) := by decide +kernel
theorem dd_181_52 : decode prog_14_method_51_code 52 = .ok (.iaload, 1) := by decide +kernel
theorem dd_181_53 : decode prog_14_method_51_code 53 = .ok (.istore 4, 2) := by decide +kernel
theorem dd_181_55 : decode prog_14_method_51_code 55 = .ok (.iload 4, 2) := by decide +kernel
theorem dd_181_57 : decode prog_14_method_51_code 57 = .ok (.iload_n 2, 1) := by decide +kernel
theorem dd_181_58 : decode prog_14_method_51_code 58 = .ok (.if_icmp .lt 21, 3) := by decide +kernel
theorem dd_181_61 : decode prog_14_method_51_code 61 = .ok (.aload_n 0, 1) := by decide +kernel
theorem dd_181_62 : decode prog_14_method_51_code 62 = .ok (.getfield 87, 3) := by decide +kernel
theorem dd_181_65 : decode prog_14_method_51_code 65 = .ok (.iconst 2, 1) := by decide +kernel
theorem dd_181_66 : decode prog_14_method_51_code 66 = .ok (.iload_n 3, 1) := by decide +kernel
theorem dd_181_67 : decode prog_14_method_51_code 67 = .ok (.imul, 1) := by decide +kernel
theorem dd_181_68 : decode prog_14_method_51_code 68 = .ok (.iconst 1, 1) := by decide +kernel
theorem dd_181_69 : decode prog_14_method_51_code 69 = .ok (.iadd, 1) := by decide +kernel
theorem dd_181_70 : decode prog_14_method_51_code 70 = .ok (.iaload, 1) := by decide +kernel
theorem dd_181_71 : decode prog_14_method_51_code 71 = .ok (.iload_n 1, 1) := by decide +kernel
theorem dd_181_72 : decode prog_14_method_51_code 72 = .ok (.if_icmp .eq 7, 3) := by decide +kernel
theorem dd_181_75 : decode prog_14_method_51_code 75 = .ok (.iconst 1, 1) := by decide +kernel
theorem dd_181_76 : decode prog_14_method_51_code 76 = .ok (.goto 4, 3) := by decide +kernel
theorem dd_181_79 : decode prog_14_method_51_code 79 = .ok (.iconst 0, 1) := by decide +kernel
theorem dd_181_80 : decode prog_14_method_51_code 80 = .ok (.istore 5, 2) := by decide +kernel
theorem dd_181_82 : decode prog_14_method_51_code 82 = .ok (.iload 5, 2) := by decide +kernel
theorem dd_181_84 : decode prog_14_method_51_code 84 = .ok (.ifCond .eq 53, 3) := by decide +kernel
theorem dd_181_87 : decode prog_14_method_51_code 87 = .ok (.aload_n 0, 1) := by decide +kernel
theorem dd_181_88 : decode prog_14_method_51_code 88 = .ok (.getfield 93, 3) := by decide +kernel
theorem dd_181_91 : decode prog_14_method_51_code 91 = .ok (.iload 4, 2) := by decide +kernel
theorem dd_181_93 : decode prog_14_method_51_code 93 = .ok (.aload_n 0, 1) := by decide +kernel
theorem dd_181_94 : decode prog_14_method_51_code 94 = .ok (.getfield 87, 3) := by decide +kernel
theorem dd_181_97 : decode prog_14_method_51_code 97 = .ok (.iconst 2, 1) := by decide +kernel
theorem dd_181_98 : decode prog_14_method_51_code 98 = .ok (.iload_n 3, 1) := by decide +kernel
theorem dd_181_99 : decode prog_14_method_51_code 99 = .ok (.imul, 1) := by decide +kernel
theorem dd_181_100 : decode prog_14_method_51_code 100 = .ok (.iconst 1, 1) := by decide +kernel
theorem dd_181_101 : decode prog_14_method_51_code 101 = .ok (.iadd, 1) := by decide +kernel
theorem dd_181_102 : decode prog_14_method_51_code 102 = .ok (.iaload, 1) := by decide +kernel
theorem dd_181_103 : decode prog_14_method_51_code 103 = .ok (.iastore, 1) := by decide +kernel
theorem dd_181_104 : decode prog_14_method_51_code 104 = .ok (.aload_n 0, 1) := by decide +kernel
theorem dd_181_105 : decode prog_14_method_51_code 105 = .ok (.getfield 87, 3) := by decide +kernel
theorem dd_181_108 : decode prog_14_method_51_code 108 = .ok (.iconst 2, 1) := by decide +kernel
theorem dd_181_109 : decode prog_14_method_51_code 109 = .ok (.iload_n 3, 1) := by decide +kernel
theorem dd_181_110 : decode prog_14_method_51_code 110 = .ok (.imul, 1) := by decide +kernel
theorem dd_181_111 : decode prog_14_method_51_code 111 = .ok (.iconst 1, 1) := by decide +kernel
theorem dd_181_112 : decode prog_14_method_51_code 112 = .ok (.iadd, 1) := by decide +kernel
theorem dd_181_113 : decode prog_14_method_51_code 113 = .ok (.iaload, 1) := by decide +kernel
theorem dd_181_114 : decode prog_14_method_51_code 114 = .ok (.istore_n 1, 1) := by decide +kernel
theorem dd_181_115 : decode prog_14_method_51_code 115 = .ok (.aload_n 0, 1) := by decide +kernel
theorem dd_181_116 : decode prog_14_method_51_code 116 = .ok (.getfield 13, 3) := by decide +kernel
theorem dd_181_119 : decode prog_14_method_51_code 119 = .ok (.ifCond .ne 10, 3) := by decide +kernel
theorem dd_181_122 : decode prog_14_method_51_code 122 = .ok (.iload 4, 2) := by decide +kernel
theorem dd_181_124 : decode prog_14_method_51_code 124 = .ok (.iconst 1, 1) := by decide +kernel
theorem dd_181_125 : decode prog_14_method_51_code 125 = .ok (.iadd, 1) := by decide +kernel
theorem dd_181_126 : decode prog_14_method_51_code 126 = .ok (.goto 10, 3) := by decide +kernel
theorem dd_181_129 : decode prog_14_method_51_code 129 = .ok (.iload 4, 2) := by decide +kernel
theorem dd_181_131 : decode prog_14_method_51_code 131 = .ok (.aload_n 0, 1) := by decide +kernel
theorem dd_181_132 : decode prog_14_method_51_code 132 = .ok (.getfield 13, 3) := by decide +kernel
theorem dd_181_135 : decode prog_14_method_51_code 135 = .ok (.iadd, 1) := by decide +kernel
theorem dd_181_136 : decode prog_14_method_51_code 136 = .ok (.istore_n 2, 1) := by decide +kernel
theorem dd_181_137 : decode prog_14_method_51_code 137 = .ok (.aload_n 0, 1) := by decide +kernel
theorem dd_181_138 : decode prog_14_method_51_code 138 = .ok (.iload 5, 2) := by decide +kernel
theorem dd_181_140 : decode prog_14_method_51_code 140 = .ok (.ifCond .ne 16, 3) := by decide +kernel
theorem dd_181_143 : decode prog_14_method_51_code 143 = .ok (.aload_n 0, 1) := by decide +kernel
theorem dd_181_144 : decode prog_14_method_51_code 144 = .ok (.getfield 297, 3) := by decide +kernel
theorem dd_181_147 : decode prog_14_method_51_code 147 = .ok (.bipush (-4), 2) := by decide +kernel
theorem dd_181_149 : decode prog_14_method_51_code 149 = .ok (.if_icmp .ne 7, 3) := by decide +kernel
theorem dd_181_152 : decode prog_14_method_51_code 152 = .ok (.iload_n 3, 1) := by decide +kernel
theorem dd_181_153 : decode prog_14_method_51_code 153 = .ok (.goto 7, 3) := by decide +kernel
theorem dd_181_156 : decode prog_14_method_51_code 156 = .ok (.aload_n 0, 1) := by decide +kernel
theorem dd_181_157 : decode prog_14_method_51_code 157 = .ok (.getfield 297, 3) := by decide +kernel
theorem dd_181_160 : decode prog_14_method_51_code 160 = .ok (.putfield 297, 3) := by decide +kernel
theorem dd_181_163 : decode prog_14_method_51_code 163 = .ok (.iinc 3 1, 3) := by decide +kernel
theorem dd_181_166 : decode prog_14_method_51_code 166 = .ok (.goto (-129), 3) := by decide +kernel
theorem dd_181_169 : decode prog_14_method_51_code 169 = .ok (.return_, 1) := by decide +kernel
theorem kb_181_0 : am_row mi_181 0 kr_181_0 := am_rs rfl (ok_iconst dd_181_0 ic_0 rfl) (am_rs rfl (ok_istore_n (k := 1) dd_181_1 rfl rfl (by decide)) (am_rs rfl (ok_iload_n (k := 1) dd_181_2 rfl rfl) (am_rs rfl (ok_bipush dd_181_3 bi_60 rfl) (am_rn rfl (am_rs rfl (ok_icmp dd_181_5 (by decide) rfl) (am_rn rfl (am_rn rfl (am_rz))))))))
theorem kb_181_1 : am_row mi_181 8 kr_181_1 := am_rs rfl (ok_aload_n (k := 0) dd_181_8 rfl rfl) (am_rs rfl (ok_gf dd_181_9 rfl am_ck12 (by decide) (Or.inl w_980)) (am_rn rfl (am_rn rfl (am_rs rfl (ok_iload_n (k := 1) dd_181_12 rfl rfl) (am_rs rfl (ok_bipush dd_181_13 bi_m4 rfl) (am_rn rfl (am_rs rfl (ok_iast dd_181_15 rfl) (am_rz))))))))
theorem kb_181_2 : am_row mi_181 16 kr_181_2 := am_rs rfl (ok_iinc dd_181_16 ic_1 rfl (by decide)) (am_rn rfl (am_rn rfl (am_rs rfl (ok_goto dd_181_19 (by decide)) (am_rn rfl (am_rn rfl (am_rs rfl (ok_aload_n (k := 0) dd_181_22 rfl rfl) (am_rs rfl (ok_bipush dd_181_23 bi_m4 rfl) (am_rz))))))))
theorem kb_181_3 : am_row mi_181 24 kr_181_3 := am_rn rfl (am_rs rfl (ok_pf dd_181_25 rfl am_ck12 (by decide) (Or.inl w_979) (Or.inl rfl) rfl) (am_rn rfl (am_rn rfl (am_rs rfl (ok_aload_n (k := 0) dd_181_28 rfl rfl) (am_rs rfl (ok_gf dd_181_29 rfl am_ck12 (by decide) (Or.inl w_974)) (am_rn rfl (am_rn rfl (am_rz))))))))
theorem kb_181_4 : am_row mi_181 32 kr_181_4 := am_rs rfl (ok_istore_n (k := 1) dd_181_32 rfl rfl (by decide)) (am_rs rfl (ok_iconst dd_181_33 ic_0 rfl) (am_rs rfl (ok_istore_n (k := 2) dd_181_34 rfl rfl (by decide)) (am_rs rfl (ok_iconst dd_181_35 ic_0 rfl) (am_rs rfl (ok_istore_n (k := 3) dd_181_36 rfl rfl (by decide)) (am_rs rfl (ok_iload_n (k := 3) dd_181_37 rfl rfl) (am_rs rfl (ok_aload_n (k := 0) dd_181_38 rfl rfl) (am_rs rfl (ok_gf dd_181_39 rfl am_ck12 (by decide) (Or.inl w_975)) (am_rz))))))))
theorem kb_181_5 : am_row mi_181 40 kr_181_5 := am_rn rfl (am_rn rfl (am_rs rfl (ok_icmp dd_181_42 (by decide) rfl) (am_rn rfl (am_rn rfl (am_rs rfl (ok_aload_n (k := 0) dd_181_45 rfl rfl) (am_rs rfl (ok_gf dd_181_46 rfl am_ck12 (by decide) (Or.inl w_976)) (am_rn rfl (am_rz))))))))
theorem kb_181_6 : am_row mi_181 48 kr_181_6 := am_rn rfl (am_rs rfl (ok_iconst dd_181_49 ic_2 rfl) (am_rs rfl (ok_iload_n (k := 3) dd_181_50 rfl rfl) (am_rs rfl (ok_imul dd_181_51 rfl) (am_rs rfl (ok_iald dd_181_52 rfl) (am_rs rfl (ok_istore dd_181_53 rfl (by decide)) (am_rn rfl (am_rs rfl (ok_iload dd_181_55 rfl) (am_rz))))))))
theorem kb_181_7 : am_row mi_181 56 kr_181_7 := am_rn rfl (am_rs rfl (ok_iload_n (k := 2) dd_181_57 rfl rfl) (am_rs rfl (ok_icmp dd_181_58 (by decide) rfl) (am_rn rfl (am_rn rfl (am_rs rfl (ok_aload_n (k := 0) dd_181_61 rfl rfl) (am_rs rfl (ok_gf dd_181_62 rfl am_ck12 (by decide) (Or.inl w_976)) (am_rn rfl (am_rz))))))))
theorem kb_181_8 : am_row mi_181 64 kr_181_8 := am_rn rfl (am_rs rfl (ok_iconst dd_181_65 ic_2 rfl) (am_rs rfl (ok_iload_n (k := 3) dd_181_66 rfl rfl) (am_rs rfl (ok_imul dd_181_67 rfl) (am_rs rfl (ok_iconst dd_181_68 ic_1 rfl) (am_rs rfl (ok_iadd dd_181_69 rfl) (am_rs rfl (ok_iald dd_181_70 rfl) (am_rs rfl (ok_iload_n (k := 1) dd_181_71 rfl rfl) (am_rz))))))))
theorem kb_181_9 : am_row mi_181 72 kr_181_9 := am_rs rfl (ok_icmp dd_181_72 (by decide) rfl) (am_rn rfl (am_rn rfl (am_rs rfl (ok_iconst dd_181_75 ic_1 rfl) (am_rs rfl (ok_goto dd_181_76 (by decide)) (am_rn rfl (am_rn rfl (am_rs rfl (ok_iconst dd_181_79 ic_0 rfl) (am_rz))))))))
theorem kb_181_10 : am_row mi_181 80 kr_181_10 := am_rs rfl (ok_istore dd_181_80 rfl (by decide)) (am_rn rfl (am_rs rfl (ok_iload dd_181_82 rfl) (am_rn rfl (am_rs rfl (ok_ifc dd_181_84 (by decide) rfl) (am_rn rfl (am_rn rfl (am_rs rfl (ok_aload_n (k := 0) dd_181_87 rfl rfl) (am_rz))))))))
theorem kb_181_11 : am_row mi_181 88 kr_181_11 := am_rs rfl (ok_gf dd_181_88 rfl am_ck12 (by decide) (Or.inl w_980)) (am_rn rfl (am_rn rfl (am_rs rfl (ok_iload dd_181_91 rfl) (am_rn rfl (am_rs rfl (ok_aload_n (k := 0) dd_181_93 rfl rfl) (am_rs rfl (ok_gf dd_181_94 rfl am_ck12 (by decide) (Or.inl w_976)) (am_rn rfl (am_rz))))))))
theorem kb_181_12 : am_row mi_181 96 kr_181_12 := am_rn rfl (am_rs rfl (ok_iconst dd_181_97 ic_2 rfl) (am_rs rfl (ok_iload_n (k := 3) dd_181_98 rfl rfl) (am_rs rfl (ok_imul dd_181_99 rfl) (am_rs rfl (ok_iconst dd_181_100 ic_1 rfl) (am_rs rfl (ok_iadd dd_181_101 rfl) (am_rs rfl (ok_iald dd_181_102 rfl) (am_rs rfl (ok_iast dd_181_103 rfl) (am_rz))))))))
theorem kb_181_13 : am_row mi_181 104 kr_181_13 := am_rs rfl (ok_aload_n (k := 0) dd_181_104 rfl rfl) (am_rs rfl (ok_gf dd_181_105 rfl am_ck12 (by decide) (Or.inl w_976)) (am_rn rfl (am_rn rfl (am_rs rfl (ok_iconst dd_181_108 ic_2 rfl) (am_rs rfl (ok_iload_n (k := 3) dd_181_109 rfl rfl) (am_rs rfl (ok_imul dd_181_110 rfl) (am_rs rfl (ok_iconst dd_181_111 ic_1 rfl) (am_rz))))))))
theorem kb_181_14 : am_row mi_181 112 kr_181_14 := am_rs rfl (ok_iadd dd_181_112 rfl) (am_rs rfl (ok_iald dd_181_113 rfl) (am_rs rfl (ok_istore_n (k := 1) dd_181_114 rfl rfl (by decide)) (am_rs rfl (ok_aload_n (k := 0) dd_181_115 rfl rfl) (am_rs rfl (ok_gf dd_181_116 rfl am_ck12 (by decide) (Or.inl w_936)) (am_rn rfl (am_rn rfl (am_rs rfl (ok_ifc dd_181_119 (by decide) rfl) (am_rz))))))))
theorem kb_181_15 : am_row mi_181 120 kr_181_15 := am_rn rfl (am_rn rfl (am_rs rfl (ok_iload dd_181_122 rfl) (am_rn rfl (am_rs rfl (ok_iconst dd_181_124 ic_1 rfl) (am_rs rfl (ok_iadd dd_181_125 rfl) (am_rs rfl (ok_goto dd_181_126 (by decide)) (am_rn rfl (am_rz))))))))
theorem kb_181_16 : am_row mi_181 128 kr_181_16 := am_rn rfl (am_rs rfl (ok_iload dd_181_129 rfl) (am_rn rfl (am_rs rfl (ok_aload_n (k := 0) dd_181_131 rfl rfl) (am_rs rfl (ok_gf dd_181_132 rfl am_ck12 (by decide) (Or.inl w_936)) (am_rn rfl (am_rn rfl (am_rs rfl (ok_iadd dd_181_135 rfl) (am_rz))))))))
theorem kb_181_17 : am_row mi_181 136 kr_181_17 := am_rs rfl (ok_istore_n (k := 2) dd_181_136 rfl rfl (by decide)) (am_rs rfl (ok_aload_n (k := 0) dd_181_137 rfl rfl) (am_rs rfl (ok_iload dd_181_138 rfl) (am_rn rfl (am_rs rfl (ok_ifc dd_181_140 (by decide) rfl) (am_rn rfl (am_rn rfl (am_rs rfl (ok_aload_n (k := 0) dd_181_143 rfl rfl) (am_rz))))))))
theorem kb_181_18 : am_row mi_181 144 kr_181_18 := am_rs rfl (ok_gf dd_181_144 rfl am_ck12 (by decide) (Or.inl w_979)) (am_rn rfl (am_rn rfl (am_rs rfl (ok_bipush dd_181_147 bi_m4 rfl) (am_rn rfl (am_rs rfl (ok_icmp dd_181_149 (by decide) rfl) (am_rn rfl (am_rn rfl (am_rz))))))))
theorem kb_181_19 : am_row mi_181 152 kr_181_19 := am_rs rfl (ok_iload_n (k := 3) dd_181_152 rfl rfl) (am_rs rfl (ok_goto dd_181_153 (by decide)) (am_rn rfl (am_rn rfl (am_rs rfl (ok_aload_n (k := 0) dd_181_156 rfl rfl) (am_rs rfl (ok_gf dd_181_157 rfl am_ck12 (by decide) (Or.inl w_979)) (am_rn rfl (am_rn rfl (am_rz))))))))
theorem kb_181_20 : am_row mi_181 160 kr_181_20 := am_rs rfl (ok_pf dd_181_160 rfl am_ck12 (by decide) (Or.inl w_979) (Or.inl rfl) rfl) (am_rn rfl (am_rn rfl (am_rs rfl (ok_iinc dd_181_163 ic_1 rfl (by decide)) (am_rn rfl (am_rn rfl (am_rs rfl (ok_goto dd_181_166 (by decide)) (am_rn rfl (am_rz))))))))
theorem kb_181_21 : am_row mi_181 168 kr_181_21 := am_rn rfl (am_rs rfl (ok_vret dd_181_169 rfl) (am_rz))
theorem ck_181 : am_rows mi_181 0 cd_181 := am_bs rfl kb_181_0 (am_bs rfl kb_181_1 (am_bs rfl kb_181_2 (am_bs rfl kb_181_3 (am_bs rfl kb_181_4 (am_bs rfl kb_181_5 (am_bs rfl kb_181_6 (am_bs rfl kb_181_7 (am_bs rfl kb_181_8 (am_bs rfl kb_181_9 (am_bs rfl kb_181_10 (am_bs rfl kb_181_11 (am_bs rfl kb_181_12 (am_bs rfl kb_181_13 (am_bs rfl kb_181_14 (am_bs rfl kb_181_15 (am_bs rfl kb_181_16 (am_bs rfl kb_181_17 (am_bs rfl kb_181_18 (am_bs rfl kb_181_19 (am_bs rfl kb_181_20 (am_bs rfl kb_181_21 (am_bz))))))))))))))))))))))
/-- OverAndBackModel.plan(I)I -/
noncomputable def kr_182_0 : List (Option am_Op) := [some (am_ild 1 1), some (am_psh (.retAddr 0) 2), some (am_psh (.retAddr 2) 3), some (am_cs 133 3 6), none, none, some (am_br1 .ne 11 9), none]
noncomputable def kr_182_1 : List (Option am_Op) := [none, some (am_psh (.retAddr 4294967295) 10), some (am_iret), some (am_ald0 0 12), some (am_psh (.retAddr 0) 13), some (am_psh (.retAddr 4294967292) 15), none, some (am_cv 155 2 12 18)]
noncomputable def kr_182_2 : List (Option am_Op) := [none, none, some (am_ald0 0 19), some (am_cv 183 0 12 22), none, none, some (am_ild 1 23), some (am_br1 .ne 33 26)]
noncomputable def kr_182_3 : List (Option am_Op) := [none, none, some (am_ald0 0 27), some (am_gf 12 36 30), none, none, some (am_jmp 53), none]
noncomputable def kr_182_4 : List (Option am_Op) := [none, some (am_ild 1 34), some (am_psh (.retAddr 1) 35), some (am_br2 .ne 49 38), none, none, some (am_ald0 0 39), some (am_ald0 0 40)]
noncomputable def kr_182_5 : List (Option am_Op) := [some (am_gf 12 37 43), none, none, some (am_cv 162 1 12 46), none, none, some (am_jmp 53), none]
noncomputable def kr_182_6 : List (Option am_Op) := [none, some (am_ald0 0 50), some (am_gf 12 38 53), none, none, some (am_iret)]
noncomputable def cd_182 : am_Cd := [kr_182_0, kr_182_1, kr_182_2, kr_182_3, kr_182_4, kr_182_5, kr_182_6]
theorem dd_182_0 : decode prog_14_method_54_code 0 = .ok (.iload_n 1, 1) := by decide +kernel
theorem dd_182_1 : decode prog_14_method_54_code 1 = .ok (.iconst 0, 1) := by decide +kernel
theorem dd_182_2 : decode prog_14_method_54_code 2 = .ok (.iconst 2, 1) := by decide +kernel
theorem dd_182_3 : decode prog_14_method_54_code 3 = .ok (.invokestatic 116, 3) := by decide +kernel
theorem dd_182_6 : decode prog_14_method_54_code 6 = .ok (.ifCond .ne 5, 3) := by decide +kernel
theorem dd_182_9 : decode prog_14_method_54_code 9 = .ok (.iconst (-1), 1) := by decide +kernel
theorem dd_182_10 : decode prog_14_method_54_code 10 = .ok (.ireturn, 1) := by decide +kernel
theorem dd_182_11 : decode prog_14_method_54_code 11 = .ok (.aload_n 0, 1) := by decide +kernel
theorem dd_182_12 : decode prog_14_method_54_code 12 = .ok (.iconst 0, 1) := by decide +kernel
theorem dd_182_13 : decode prog_14_method_54_code 13 = .ok (.bipush (-4), 2) := by decide +kernel
theorem dd_182_15 : decode prog_14_method_54_code 15 = .ok (.invokevirtual 246, 3) := by decide +kernel
theorem dd_182_18 : decode prog_14_method_54_code 18 = .ok (.aload_n 0, 1) := by decide +kernel
theorem dd_182_19 : decode prog_14_method_54_code 19 = .ok (.invokevirtual 303, 3) := by decide +kernel
theorem dd_182_22 : decode prog_14_method_54_code 22 = .ok (.iload_n 1, 1) := by decide +kernel
theorem dd_182_23 : decode prog_14_method_54_code 23 = .ok (.ifCond .ne 10, 3) := by decide +kernel
theorem dd_182_26 : decode prog_14_method_54_code 26 = .ok (.aload_n 0, 1) := by decide +kernel
theorem dd_182_27 : decode prog_14_method_54_code 27 = .ok (.getfield 256, 3) := by decide +kernel
theorem dd_182_30 : decode prog_14_method_54_code 30 = .ok (.goto 23, 3) := by decide +kernel
theorem dd_182_33 : decode prog_14_method_54_code 33 = .ok (.iload_n 1, 1) := by decide +kernel
theorem dd_182_34 : decode prog_14_method_54_code 34 = .ok (.iconst 1, 1) := by decide +kernel
theorem dd_182_35 : decode prog_14_method_54_code 35 = .ok (.if_icmp .ne 14, 3) := by decide +kernel
theorem dd_182_38 : decode prog_14_method_54_code 38 = .ok (.aload_n 0, 1) := by decide +kernel
theorem dd_182_39 : decode prog_14_method_54_code 39 = .ok (.aload_n 0, 1) := by decide +kernel
theorem dd_182_40 : decode prog_14_method_54_code 40 = .ok (.getfield 259, 3) := by decide +kernel
theorem dd_182_43 : decode prog_14_method_54_code 43 = .ok (.invokevirtual 253, 3) := by decide +kernel
theorem dd_182_46 : decode prog_14_method_54_code 46 = .ok (.goto 7, 3) := by decide +kernel
theorem dd_182_49 : decode prog_14_method_54_code 49 = .ok (.aload_n 0, 1) := by decide +kernel
theorem dd_182_50 : decode prog_14_method_54_code 50 = .ok (.getfield 262, 3) := by decide +kernel
theorem dd_182_53 : decode prog_14_method_54_code 53 = .ok (.ireturn, 1) := by decide +kernel
theorem kb_182_0 : am_row mi_182 0 kr_182_0 := am_rs rfl (ok_iload_n (k := 1) dd_182_0 rfl rfl) (am_rs rfl (ok_iconst dd_182_1 ic_0 rfl) (am_rs rfl (ok_iconst dd_182_2 ic_2 rfl) (am_rs rfl (ok_cs (M' := mi_133) dd_182_3 rfl rfl w_1106 w_1107 ⟨lk_133.1, lk_133.2.1, lk_133.2.2, by decide, by decide⟩) (am_rn rfl (am_rn rfl (am_rs rfl (ok_ifc dd_182_6 (by decide) rfl) (am_rn rfl (am_rz))))))))
theorem kb_182_1 : am_row mi_182 8 kr_182_1 := am_rn rfl (am_rs rfl (ok_iconst dd_182_9 ic_m1 rfl) (am_rs rfl (ok_iret dd_182_10 rfl) (am_rs rfl (ok_aload_n (k := 0) dd_182_11 rfl rfl) (am_rs rfl (ok_iconst dd_182_12 ic_0 rfl) (am_rs rfl (ok_bipush dd_182_13 bi_m4 rfl) (am_rn rfl (am_rs rfl (ok_cv (M' := mi_155) dd_182_15 rfl rfl w_1192 w_1194 ps_155 ⟨lk_155.1, lk_155.2.1, lk_155.2.2, by decide, by decide⟩ rfl) (am_rz))))))))
theorem kb_182_2 : am_row mi_182 16 kr_182_2 := am_rn rfl (am_rn rfl (am_rs rfl (ok_aload_n (k := 0) dd_182_18 rfl rfl) (am_rs rfl (ok_cv (M' := mi_183) dd_182_19 rfl rfl w_1302 w_1304 ps_183 ⟨lk_183.1, lk_183.2.1, lk_183.2.2, by decide, by decide⟩ rfl) (am_rn rfl (am_rn rfl (am_rs rfl (ok_iload_n (k := 1) dd_182_22 rfl rfl) (am_rs rfl (ok_ifc dd_182_23 (by decide) rfl) (am_rz))))))))
theorem kb_182_3 : am_row mi_182 24 kr_182_3 := am_rn rfl (am_rn rfl (am_rs rfl (ok_aload_n (k := 0) dd_182_26 rfl rfl) (am_rs rfl (ok_gf dd_182_27 rfl am_ck12 (by decide) (Or.inl w_971)) (am_rn rfl (am_rn rfl (am_rs rfl (ok_goto dd_182_30 (by decide)) (am_rn rfl (am_rz))))))))
theorem kb_182_4 : am_row mi_182 32 kr_182_4 := am_rn rfl (am_rs rfl (ok_iload_n (k := 1) dd_182_33 rfl rfl) (am_rs rfl (ok_iconst dd_182_34 ic_1 rfl) (am_rs rfl (ok_icmp dd_182_35 (by decide) rfl) (am_rn rfl (am_rn rfl (am_rs rfl (ok_aload_n (k := 0) dd_182_38 rfl rfl) (am_rs rfl (ok_aload_n (k := 0) dd_182_39 rfl rfl) (am_rz))))))))
theorem kb_182_5 : am_row mi_182 40 kr_182_5 := am_rs rfl (ok_gf dd_182_40 rfl am_ck12 (by decide) (Or.inl w_972)) (am_rn rfl (am_rn rfl (am_rs rfl (ok_cv (M' := mi_162) dd_182_43 rfl rfl w_1218 w_1220 ps_162 ⟨lk_162.1, lk_162.2.1, lk_162.2.2, by decide, by decide⟩ rfl) (am_rn rfl (am_rn rfl (am_rs rfl (ok_goto dd_182_46 (by decide)) (am_rn rfl (am_rz))))))))
theorem kb_182_6 : am_row mi_182 48 kr_182_6 := am_rn rfl (am_rs rfl (ok_aload_n (k := 0) dd_182_49 rfl rfl) (am_rs rfl (ok_gf dd_182_50 rfl am_ck12 (by decide) (Or.inl w_973)) (am_rn rfl (am_rn rfl (am_rs rfl (ok_iret dd_182_53 rfl) (am_rz))))))
theorem ck_182 : am_rows mi_182 0 cd_182 := am_bs rfl kb_182_0 (am_bs rfl kb_182_1 (am_bs rfl kb_182_2 (am_bs rfl kb_182_3 (am_bs rfl kb_182_4 (am_bs rfl kb_182_5 (am_bs rfl kb_182_6 (am_bz)))))))
/-- OverAndBackModel.plans()V -/
noncomputable def kr_183_0 : List (Option am_Op) := [some (am_ald0 0 1), some (am_cv 181 0 12 4), none, none, some (am_ald0 0 5), some (am_cv 167 0 12 8), none, none]
noncomputable def kr_183_1 : List (Option am_Op) := [some (am_ald0 0 9), some (am_gf 12 39 12), none, none, some (am_ist 1 13), some (am_psh (.retAddr 0) 14), some (am_ist 2 15), some (am_psh (.retAddr 0) 16)]
noncomputable def kr_183_2 : List (Option am_Op) := [some (am_ist 3 17), some (am_ild 3 18), some (am_ald0 0 19), some (am_gf 12 0 22), none, none, some (am_br2 .ge 85 25), none]
noncomputable def kr_183_3 : List (Option am_Op) := [none, some (am_ald0 0 26), some (am_gf 12 35 29), none, none, some (am_ild 3 30), some (am_psh (.retAddr 4294967292) 32), none]
noncomputable def kr_183_4 : List (Option am_Op) := [some (am_ast 0 (fun v => v) 33), some (am_ald0 0 34), some (am_gf 12 45 37), none, none, some (am_ild 3 38), some (am_ald 0 39), some (am_psh (.retAddr 4294967292) 41)]
noncomputable def kr_183_5 : List (Option am_Op) := [none, some (am_br2 .eq 68 44), none, none, some (am_ald0 0 45), some (am_gf 12 45 48), none, none]
noncomputable def kr_183_6 : List (Option am_Op) := [some (am_ild 3 49), some (am_ald 0 50), some (am_ist 1 51), some (am_ild 3 52), some (am_ald0 0 53), some (am_gf 12 1 56), none, none]
noncomputable def kr_183_7 : List (Option am_Op) := [some (am_bin am_add 57), some (am_ist 2 58), some (am_ald0 0 59), some (am_dup 60), some (am_gf 12 38 63), none, none, some (am_psh (.retAddr 1) 64)]
noncomputable def kr_183_8 : List (Option am_Op) := [some (am_bin am_add 65), some (am_pf 12 38 0 68), none, none, some (am_ild 3 69), some (am_ild 2 70), some (am_br2 .lt 79 73), none]
noncomputable def kr_183_9 : List (Option am_Op) := [none, some (am_ald0 0 74), some (am_ild 1 75), some (am_ild 3 76), some (am_cv 171 2 12 79), none, none, some (am_inc 3 1 82)]
noncomputable def kr_183_10 : List (Option am_Op) := [none, none, some (am_jmp 17), none, none, some (am_vret)]
noncomputable def cd_183 : am_Cd := [kr_183_0, kr_183_1, kr_183_2, kr_183_3, kr_183_4, kr_183_5, kr_183_6, kr_183_7, kr_183_8, kr_183_9, kr_183_10]
theorem dd_183_0 : decode prog_14_method_52_code 0 = .ok (.aload_n 0, 1) := by decide +kernel
theorem dd_183_1 : decode prog_14_method_52_code 1 = .ok (.invokevirtual 300, 3) := by decide +kernel
theorem dd_183_4 : decode prog_14_method_52_code 4 = .ok (.aload_n 0, 1) := by decide +kernel
theorem dd_183_5 : decode prog_14_method_52_code 5 = .ok (.invokevirtual 272, 3) := by decide +kernel
theorem dd_183_8 : decode prog_14_method_52_code 8 = .ok (.aload_n 0, 1) := by decide +kernel
theorem dd_183_9 : decode prog_14_method_52_code 9 = .ok (.getfield 204, 3) := by decide +kernel
theorem dd_183_12 : decode prog_14_method_52_code 12 = .ok (.istore_n 1, 1) := by decide +kernel
theorem dd_183_13 : decode prog_14_method_52_code 13 = .ok (.iconst 0, 1) := by decide +kernel
theorem dd_183_14 : decode prog_14_method_52_code 14 = .ok (.istore_n 2, 1) := by decide +kernel
theorem dd_183_15 : decode prog_14_method_52_code 15 = .ok (.iconst 0, 1) := by decide +kernel
theorem dd_183_16 : decode prog_14_method_52_code 16 = .ok (.istore_n 3, 1) := by decide +kernel
theorem dd_183_17 : decode prog_14_method_52_code 17 = .ok (.iload_n 3, 1) := by decide +kernel
theorem dd_183_18 : decode prog_14_method_52_code 18 = .ok (.aload_n 0, 1) := by decide +kernel
theorem dd_183_19 : decode prog_14_method_52_code 19 = .ok (.getfield 7, 3) := by decide +kernel
theorem dd_183_22 : decode prog_14_method_52_code 22 = .ok (.if_icmp .ge 63, 3) := by decide +kernel
theorem dd_183_25 : decode prog_14_method_52_code 25 = .ok (.aload_n 0, 1) := by decide +kernel
theorem dd_183_26 : decode prog_14_method_52_code 26 = .ok (.getfield 84, 3) := by decide +kernel
theorem dd_183_29 : decode prog_14_method_52_code 29 = .ok (.iload_n 3, 1) := by decide +kernel
theorem dd_183_30 : decode prog_14_method_52_code 30 = .ok (.bipush (-4), 2) := by decide +kernel
theorem dd_183_32 : decode prog_14_method_52_code 32 = .ok (.iastore, 1) := by decide +kernel
theorem dd_183_33 : decode prog_14_method_52_code 33 = .ok (.aload_n 0, 1) := by decide +kernel
theorem dd_183_34 : decode prog_14_method_52_code 34 = .ok (.getfield 93, 3) := by decide +kernel
theorem dd_183_37 : decode prog_14_method_52_code 37 = .ok (.iload_n 3, 1) := by decide +kernel
theorem dd_183_38 : decode prog_14_method_52_code 38 = .ok (.iaload, 1) := by decide +kernel
theorem dd_183_39 : decode prog_14_method_52_code 39 = .ok (.bipush (-4), 2) := by decide +kernel
theorem dd_183_41 : decode prog_14_method_52_code 41 = .ok (.if_icmp .eq 27, 3) := by decide +kernel
theorem dd_183_44 : decode prog_14_method_52_code 44 = .ok (.aload_n 0, 1) := by decide +kernel
theorem dd_183_45 : decode prog_14_method_52_code 45 = .ok (.getfield 93, 3) := by decide +kernel
theorem dd_183_48 : decode prog_14_method_52_code 48 = .ok (.iload_n 3, 1) := by decide +kernel
theorem dd_183_49 : decode prog_14_method_52_code 49 = .ok (.iaload, 1) := by decide +kernel
theorem dd_183_50 : decode prog_14_method_52_code 50 = .ok (.istore_n 1, 1) := by decide +kernel
theorem dd_183_51 : decode prog_14_method_52_code 51 = .ok (.iload_n 3, 1) := by decide +kernel
theorem dd_183_52 : decode prog_14_method_52_code 52 = .ok (.aload_n 0, 1) := by decide +kernel
theorem dd_183_53 : decode prog_14_method_52_code 53 = .ok (.getfield 13, 3) := by decide +kernel
theorem dd_183_56 : decode prog_14_method_52_code 56 = .ok (.iadd, 1) := by decide +kernel
theorem dd_183_57 : decode prog_14_method_52_code 57 = .ok (.istore_n 2, 1) := by decide +kernel
theorem dd_183_58 : decode prog_14_method_52_code 58 = .ok (.aload_n 0, 1) := by decide +kernel
theorem dd_183_59 : decode prog_14_method_52_code 59 = .ok (.dup, 1) := by decide +kernel
theorem dd_183_60 : decode prog_14_method_52_code 60 = .ok (.getfield 262, 3) := by decide +kernel
theorem dd_183_63 : decode prog_14_method_52_code 63 = .ok (.iconst 1, 1) := by decide +kernel
theorem dd_183_64 : decode prog_14_method_52_code 64 = .ok (.iadd, 1) := by decide +kernel
theorem dd_183_65 : decode prog_14_method_52_code 65 = .ok (.putfield 262, 3) := by decide +kernel
theorem dd_183_68 : decode prog_14_method_52_code 68 = .ok (.iload_n 3, 1) := by decide +kernel
theorem dd_183_69 : decode prog_14_method_52_code 69 = .ok (.iload_n 2, 1) := by decide +kernel
theorem dd_183_70 : decode prog_14_method_52_code 70 = .ok (.if_icmp .lt 9, 3) := by decide +kernel
theorem dd_183_73 : decode prog_14_method_52_code 73 = .ok (.aload_n 0, 1) := by decide +kernel
theorem dd_183_74 : decode prog_14_method_52_code 74 = .ok (.iload_n 1, 1) := by decide +kernel
theorem dd_183_75 : decode prog_14_method_52_code 75 = .ok (.iload_n 3, 1) := by decide +kernel
theorem dd_183_76 : decode prog_14_method_52_code 76 = .ok (.invokevirtual 279, 3) := by decide +kernel
theorem dd_183_79 : decode prog_14_method_52_code 79 = .ok (.iinc 3 1, 3) := by decide +kernel
theorem dd_183_82 : decode prog_14_method_52_code 82 = .ok (.goto (-65), 3) := by decide +kernel
theorem dd_183_85 : decode prog_14_method_52_code 85 = .ok (.return_, 1) := by decide +kernel
theorem kb_183_0 : am_row mi_183 0 kr_183_0 := am_rs rfl (ok_aload_n (k := 0) dd_183_0 rfl rfl) (am_rs rfl (ok_cv (M' := mi_181) dd_183_1 rfl rfl w_1294 w_1296 ps_181 ⟨lk_181.1, lk_181.2.1, lk_181.2.2, by decide, by decide⟩ rfl) (am_rn rfl (am_rn rfl (am_rs rfl (ok_aload_n (k := 0) dd_183_4 rfl rfl) (am_rs rfl (ok_cv (M' := mi_167) dd_183_5 rfl rfl w_1238 w_1240 ps_167 ⟨lk_167.1, lk_167.2.1, lk_167.2.2, by decide, by decide⟩ rfl) (am_rn rfl (am_rn rfl (am_rz))))))))
theorem kb_183_1 : am_row mi_183 8 kr_183_1 := am_rs rfl (ok_aload_n (k := 0) dd_183_8 rfl rfl) (am_rs rfl (ok_gf dd_183_9 rfl am_ck12 (by decide) (Or.inl w_974)) (am_rn rfl (am_rn rfl (am_rs rfl (ok_istore_n (k := 1) dd_183_12 rfl rfl (by decide)) (am_rs rfl (ok_iconst dd_183_13 ic_0 rfl) (am_rs rfl (ok_istore_n (k := 2) dd_183_14 rfl rfl (by decide)) (am_rs rfl (ok_iconst dd_183_15 ic_0 rfl) (am_rz))))))))
theorem kb_183_2 : am_row mi_183 16 kr_183_2 := am_rs rfl (ok_istore_n (k := 3) dd_183_16 rfl rfl (by decide)) (am_rs rfl (ok_iload_n (k := 3) dd_183_17 rfl rfl) (am_rs rfl (ok_aload_n (k := 0) dd_183_18 rfl rfl) (am_rs rfl (ok_gf dd_183_19 rfl am_ck12 (by decide) (Or.inl w_935)) (am_rn rfl (am_rn rfl (am_rs rfl (ok_icmp dd_183_22 (by decide) rfl) (am_rn rfl (am_rz))))))))
theorem kb_183_3 : am_row mi_183 24 kr_183_3 := am_rn rfl (am_rs rfl (ok_aload_n (k := 0) dd_183_25 rfl rfl) (am_rs rfl (ok_gf dd_183_26 rfl am_ck12 (by decide) (Or.inl w_970)) (am_rn rfl (am_rn rfl (am_rs rfl (ok_iload_n (k := 3) dd_183_29 rfl rfl) (am_rs rfl (ok_bipush dd_183_30 bi_m4 rfl) (am_rn rfl (am_rz))))))))
theorem kb_183_4 : am_row mi_183 32 kr_183_4 := am_rs rfl (ok_iast dd_183_32 rfl) (am_rs rfl (ok_aload_n (k := 0) dd_183_33 rfl rfl) (am_rs rfl (ok_gf dd_183_34 rfl am_ck12 (by decide) (Or.inl w_980)) (am_rn rfl (am_rn rfl (am_rs rfl (ok_iload_n (k := 3) dd_183_37 rfl rfl) (am_rs rfl (ok_iald dd_183_38 rfl) (am_rs rfl (ok_bipush dd_183_39 bi_m4 rfl) (am_rz))))))))
theorem kb_183_5 : am_row mi_183 40 kr_183_5 := am_rn rfl (am_rs rfl (ok_icmp dd_183_41 (by decide) rfl) (am_rn rfl (am_rn rfl (am_rs rfl (ok_aload_n (k := 0) dd_183_44 rfl rfl) (am_rs rfl (ok_gf dd_183_45 rfl am_ck12 (by decide) (Or.inl w_980)) (am_rn rfl (am_rn rfl (am_rz))))))))
theorem kb_183_6 : am_row mi_183 48 kr_183_6 := am_rs rfl (ok_iload_n (k := 3) dd_183_48 rfl rfl) (am_rs rfl (ok_iald dd_183_49 rfl) (am_rs rfl (ok_istore_n (k := 1) dd_183_50 rfl rfl (by decide)) (am_rs rfl (ok_iload_n (k := 3) dd_183_51 rfl rfl) (am_rs rfl (ok_aload_n (k := 0) dd_183_52 rfl rfl) (am_rs rfl (ok_gf dd_183_53 rfl am_ck12 (by decide) (Or.inl w_936)) (am_rn rfl (am_rn rfl (am_rz))))))))
theorem kb_183_7 : am_row mi_183 56 kr_183_7 := am_rs rfl (ok_iadd dd_183_56 rfl) (am_rs rfl (ok_istore_n (k := 2) dd_183_57 rfl rfl (by decide)) (am_rs rfl (ok_aload_n (k := 0) dd_183_58 rfl rfl) (am_rs rfl (ok_dup dd_183_59 rfl) (am_rs rfl (ok_gf dd_183_60 rfl am_ck12 (by decide) (Or.inl w_973)) (am_rn rfl (am_rn rfl (am_rs rfl (ok_iconst dd_183_63 ic_1 rfl) (am_rz))))))))
theorem kb_183_8 : am_row mi_183 64 kr_183_8 := am_rs rfl (ok_iadd dd_183_64 rfl) (am_rs rfl (ok_pf dd_183_65 rfl am_ck12 (by decide) (Or.inl w_973) (Or.inl rfl) rfl) (am_rn rfl (am_rn rfl (am_rs rfl (ok_iload_n (k := 3) dd_183_68 rfl rfl) (am_rs rfl (ok_iload_n (k := 2) dd_183_69 rfl rfl) (am_rs rfl (ok_icmp dd_183_70 (by decide) rfl) (am_rn rfl (am_rz))))))))
theorem kb_183_9 : am_row mi_183 72 kr_183_9 := am_rn rfl (am_rs rfl (ok_aload_n (k := 0) dd_183_73 rfl rfl) (am_rs rfl (ok_iload_n (k := 1) dd_183_74 rfl rfl) (am_rs rfl (ok_iload_n (k := 3) dd_183_75 rfl rfl) (am_rs rfl (ok_cv (M' := mi_171) dd_183_76 rfl rfl w_1254 w_1256 ps_171 ⟨lk_171.1, lk_171.2.1, lk_171.2.2, by decide, by decide⟩ rfl) (am_rn rfl (am_rn rfl (am_rs rfl (ok_iinc dd_183_79 ic_1 rfl (by decide)) (am_rz))))))))
theorem kb_183_10 : am_row mi_183 80 kr_183_10 := am_rn rfl (am_rn rfl (am_rs rfl (ok_goto dd_183_82 (by decide)) (am_rn rfl (am_rn rfl (am_rs rfl (ok_vret dd_183_85 rfl) (am_rz))))))
theorem ck_183 : am_rows mi_183 0 cd_183 := am_bs rfl kb_183_0 (am_bs rfl kb_183_1 (am_bs rfl kb_183_2 (am_bs rfl kb_183_3 (am_bs rfl kb_183_4 (am_bs rfl kb_183_5 (am_bs rfl kb_183_6 (am_bs rfl kb_183_7 (am_bs rfl kb_183_8 (am_bs rfl kb_183_9 (am_bs rfl kb_183_10 (am_bz)))))))))))
/-- OverAndBackModel.at(I)I -/
noncomputable def kr_184_0 : List (Option am_Op) := [some (am_ald0 0 1), some (am_ild 1 2), some (am_cv 154 1 12 5), none, none, some (am_br1 .ne 10 8), none, none]
noncomputable def kr_184_1 : List (Option am_Op) := [some (am_psh (.retAddr 4294967295) 9), some (am_iret), some (am_ald0 0 11), some (am_psh (.retAddr 0) 12), some (am_psh (.retAddr 4294967292) 14), none, some (am_cv 155 2 12 17), none]
noncomputable def kr_184_2 : List (Option am_Op) := [none, some (am_ald0 0 18), some (am_cv 183 0 12 21), none, none, some (am_ald0 0 22), some (am_gf 12 35 25), none]
noncomputable def kr_184_3 : List (Option am_Op) := [none, some (am_ild 1 26), some (am_ald 0 27), some (am_iret)]
noncomputable def cd_184 : am_Cd := [kr_184_0, kr_184_1, kr_184_2, kr_184_3]
theorem dd_184_0 : decode prog_14_method_55_code 0 = .ok (.aload_n 0, 1) := by decide +kernel
theorem dd_184_1 : decode prog_14_method_55_code 1 = .ok (.iload_n 1, 1) := by decide +kernel
theorem dd_184_2 : decode prog_14_method_55_code 2 = .ok (.invokevirtual 243, 3) := by decide +kernel
theorem dd_184_5 : decode prog_14_method_55_code 5 = .ok (.ifCond .ne 5, 3) := by decide +kernel
theorem dd_184_8 : decode prog_14_method_55_code 8 = .ok (.iconst (-1), 1) := by decide +kernel
theorem dd_184_9 : decode prog_14_method_55_code 9 = .ok (.ireturn, 1) := by decide +kernel
theorem dd_184_10 : decode prog_14_method_55_code 10 = .ok (.aload_n 0, 1) := by decide +kernel
theorem dd_184_11 : decode prog_14_method_55_code 11 = .ok (.iconst 0, 1) := by decide +kernel
theorem dd_184_12 : decode prog_14_method_55_code 12 = .ok (.bipush (-4), 2) := by decide +kernel
theorem dd_184_14 : decode prog_14_method_55_code 14 = .ok (.invokevirtual 246, 3) := by decide +kernel
theorem dd_184_17 : decode prog_14_method_55_code 17 = .ok (.aload_n 0, 1) := by decide +kernel
theorem dd_184_18 : decode prog_14_method_55_code 18 = .ok (.invokevirtual 303, 3) := by decide +kernel
theorem dd_184_21 : decode prog_14_method_55_code 21 = .ok (.aload_n 0, 1) := by decide +kernel
theorem dd_184_22 : decode prog_14_method_55_code 22 = .ok (.getfield 84, 3) := by decide +kernel
theorem dd_184_25 : decode prog_14_method_55_code 25 = .ok (.iload_n 1, 1) := by decide +kernel
theorem dd_184_26 : decode prog_14_method_55_code 26 = .ok (.iaload, 1) := by decide +kernel
theorem dd_184_27 : decode prog_14_method_55_code 27 = .ok (.ireturn, 1) := by decide +kernel
theorem kb_184_0 : am_row mi_184 0 kr_184_0 := am_rs rfl (ok_aload_n (k := 0) dd_184_0 rfl rfl) (am_rs rfl (ok_iload_n (k := 1) dd_184_1 rfl rfl) (am_rs rfl (ok_cv (M' := mi_154) dd_184_2 rfl rfl w_1188 w_1190 ps_154 ⟨lk_154.1, lk_154.2.1, lk_154.2.2, by decide, by decide⟩ rfl) (am_rn rfl (am_rn rfl (am_rs rfl (ok_ifc dd_184_5 (by decide) rfl) (am_rn rfl (am_rn rfl (am_rz))))))))
theorem kb_184_1 : am_row mi_184 8 kr_184_1 := am_rs rfl (ok_iconst dd_184_8 ic_m1 rfl) (am_rs rfl (ok_iret dd_184_9 rfl) (am_rs rfl (ok_aload_n (k := 0) dd_184_10 rfl rfl) (am_rs rfl (ok_iconst dd_184_11 ic_0 rfl) (am_rs rfl (ok_bipush dd_184_12 bi_m4 rfl) (am_rn rfl (am_rs rfl (ok_cv (M' := mi_155) dd_184_14 rfl rfl w_1192 w_1194 ps_155 ⟨lk_155.1, lk_155.2.1, lk_155.2.2, by decide, by decide⟩ rfl) (am_rn rfl (am_rz))))))))
theorem kb_184_2 : am_row mi_184 16 kr_184_2 := am_rn rfl (am_rs rfl (ok_aload_n (k := 0) dd_184_17 rfl rfl) (am_rs rfl (ok_cv (M' := mi_183) dd_184_18 rfl rfl w_1302 w_1304 ps_183 ⟨lk_183.1, lk_183.2.1, lk_183.2.2, by decide, by decide⟩ rfl) (am_rn rfl (am_rn rfl (am_rs rfl (ok_aload_n (k := 0) dd_184_21 rfl rfl) (am_rs rfl (ok_gf dd_184_22 rfl am_ck12 (by decide) (Or.inl w_970)) (am_rn rfl (am_rz))))))))
theorem kb_184_3 : am_row mi_184 24 kr_184_3 := am_rn rfl (am_rs rfl (ok_iload_n (k := 1) dd_184_25 rfl rfl) (am_rs rfl (ok_iald dd_184_26 rfl) (am_rs rfl (ok_iret dd_184_27 rfl) (am_rz))))
theorem ck_184 : am_rows mi_184 0 cd_184 := am_bs rfl kb_184_0 (am_bs rfl kb_184_1 (am_bs rfl kb_184_2 (am_bs rfl kb_184_3 (am_bz))))
/-- OverAndBackModel.most(III)I -/
noncomputable def kr_185_0 : List (Option am_Op) := [some (am_ald0 0 1), some (am_ild 1 2), some (am_cv 153 1 12 5), none, none, some (am_br1 .eq 25 8), none, none]
noncomputable def kr_185_1 : List (Option am_Op) := [some (am_ald0 0 9), some (am_ild 2 10), some (am_cv 154 1 12 13), none, none, some (am_br1 .eq 25 16), none, none]
noncomputable def kr_185_2 : List (Option am_Op) := [some (am_ild 3 17), some (am_psh (.retAddr 0) 18), some (am_psh (.retAddr 2) 19), some (am_cs 133 3 22), none, none, some (am_br1 .ne 27 25), none]
noncomputable def kr_185_3 : List (Option am_Op) := [none, some (am_psh (.retAddr 4294967295) 26), some (am_iret), some (am_ald0 0 28), some (am_psh (.retAddr 0) 29), some (am_psh (.retAddr 4294967292) 31), none, some (am_cv 155 2 12 34)]
noncomputable def kr_185_4 : List (Option am_Op) := [none, none, some (am_ald0 0 35), some (am_cv 172 0 12 38), none, none, some (am_ald0 0 39), some (am_gf 12 46 42)]
noncomputable def kr_185_5 : List (Option am_Op) := [none, none, some (am_psh (.retAddr 4) 43), some (am_ild 2 44), some (am_bin am_mul 45), some (am_ild 1 46), some (am_bin am_add 47), some (am_ald 0 48)]
noncomputable def kr_185_6 : List (Option am_Op) := [some (am_ist 4 50), none, some (am_ild 3 51), some (am_br1 .ne 57 54), none, none, some (am_ild 4 56), none]
noncomputable def kr_185_7 : List (Option am_Op) := [some (am_iret), some (am_psh (.retAddr 0) 58), some (am_ist 5 60), none, some (am_psh (.retAddr 4294967292) 62), none, some (am_ist 6 64), none]
noncomputable def kr_185_8 : List (Option am_Op) := [some (am_ild 2 65), some (am_ist 7 67), none, some (am_ild 7 69), none, some (am_ald0 0 70), some (am_gf 12 0 73), none]
noncomputable def kr_185_9 : List (Option am_Op) := [none, some (am_br2 .ge 140 76), none, none, some (am_ald0 0 77), some (am_ild 7 79), none, some (am_ild 1 80)]
noncomputable def kr_185_10 : List (Option am_Op) := [some (am_cv 173 2 12 83), none, none, some (am_ist 8 85), none, some (am_ild 8 87), none, some (am_psh (.retAddr 4294967292) 89)]
noncomputable def kr_185_11 : List (Option am_Op) := [none, some (am_br2 .eq 113 92), none, none, some (am_ild 5 94), none, some (am_ald0 0 95), some (am_ild 7 97)]
noncomputable def kr_185_12 : List (Option am_Op) := [none, some (am_ild 8 99), none, some (am_cv 174 2 12 102), none, none, some (am_bin am_add 103), some (am_ild 4 105)]
noncomputable def kr_185_13 : List (Option am_Op) := [none, some (am_br2 .ne 113 108), none, none, some (am_ild 7 110), none, some (am_jmp 115), none]
noncomputable def kr_185_14 : List (Option am_Op) := [none, some (am_ild 6 115), none, some (am_ist 6 117), none, some (am_ild 5 119), none, some (am_ald0 0 120)]
noncomputable def kr_185_15 : List (Option am_Op) := [some (am_gf 12 32 123), none, none, some (am_psh (.retAddr 64) 125), none, some (am_ild 1 126), some (am_bin am_mul 127), some (am_ild 7 129)]
noncomputable def kr_185_16 : List (Option am_Op) := [none, some (am_bin am_add 130), some (am_ald 0 131), some (am_bin am_add 132), some (am_ist 5 134), none, some (am_inc 7 1 137), none]
noncomputable def kr_185_17 : List (Option am_Op) := [none, some (am_jmp 67), none, none, some (am_ild 5 142), none, some (am_ild 4 144), none]
noncomputable def kr_185_18 : List (Option am_Op) := [some (am_br2 .ne 150 147), none, none, some (am_psh (.retAddr 4294967292) 149), none, some (am_iret), some (am_ild 3 151), some (am_psh (.retAddr 1) 152)]
noncomputable def kr_185_19 : List (Option am_Op) := [some (am_br2 .ne 160 155), none, none, some (am_ild 6 157), none, some (am_jmp 167), none, none]
noncomputable def kr_185_20 : List (Option am_Op) := [some (am_ald0 0 161), some (am_ild 6 163), none, some (am_ild 1 164), some (am_cv 173 2 12 167), none, none, some (am_iret)]
noncomputable def cd_185 : am_Cd := [kr_185_0, kr_185_1, kr_185_2, kr_185_3, kr_185_4, kr_185_5, kr_185_6, kr_185_7, kr_185_8, kr_185_9, kr_185_10, kr_185_11, kr_185_12, kr_185_13, kr_185_14, kr_185_15, kr_185_16, kr_185_17, kr_185_18, kr_185_19, kr_185_20]
theorem dd_185_0 : decode prog_14_method_59_code 0 = .ok (.aload_n 0, 1) := by decide +kernel
theorem dd_185_1 : decode prog_14_method_59_code 1 = .ok (.iload_n 1, 1) := by decide +kernel
theorem dd_185_2 : decode prog_14_method_59_code 2 = .ok (.invokevirtual 240, 3) := by decide +kernel
theorem dd_185_5 : decode prog_14_method_59_code 5 = .ok (.ifCond .eq 20, 3) := by decide +kernel
theorem dd_185_8 : decode prog_14_method_59_code 8 = .ok (.aload_n 0, 1) := by decide +kernel
theorem dd_185_9 : decode prog_14_method_59_code 9 = .ok (.iload_n 2, 1) := by decide +kernel
theorem dd_185_10 : decode prog_14_method_59_code 10 = .ok (.invokevirtual 243, 3) := by decide +kernel
theorem dd_185_13 : decode prog_14_method_59_code 13 = .ok (.ifCond .eq 12, 3) := by decide +kernel
theorem dd_185_16 : decode prog_14_method_59_code 16 = .ok (.iload_n 3, 1) := by decide +kernel
theorem dd_185_17 : decode prog_14_method_59_code 17 = .ok (.iconst 0, 1) := by decide +kernel
theorem dd_185_18 : decode prog_14_method_59_code 18 = .ok (.iconst 2, 1) := by decide +kernel
theorem dd_185_19 : decode prog_14_method_59_code 19 = .ok (.invokestatic 116, 3) := by decide +kernel
theorem dd_185_22 : decode prog_14_method_59_code 22 = .ok (.ifCond .ne 5, 3) := by decide +kernel
theorem dd_185_25 : decode prog_14_method_59_code 25 = .ok (.iconst (-1), 1) := by decide +kernel
theorem dd_185_26 : decode prog_14_method_59_code 26 = .ok (.ireturn, 1) := by decide +kernel
theorem dd_185_27 : decode prog_14_method_59_code 27 = .ok (.aload_n 0, 1) := by decide +kernel
theorem dd_185_28 : decode prog_14_method_59_code 28 = .ok (.iconst 0, 1) := by decide +kernel
theorem dd_185_29 : decode prog_14_method_59_code 29 = .ok (.bipush (-4), 2) := by decide +kernel
theorem dd_185_31 : decode prog_14_method_59_code 31 = .ok (.invokevirtual 246, 3) := by decide +kernel
theorem dd_185_34 : decode prog_14_method_59_code 34 = .ok (.aload_n 0, 1) := by decide +kernel
theorem dd_185_35 : decode prog_14_method_59_code 35 = .ok (.invokevirtual 291, 3) := by decide +kernel
theorem dd_185_38 : decode prog_14_method_59_code 38 = .ok (.aload_n 0, 1) := by decide +kernel
theorem dd_185_39 : decode prog_14_method_59_code 39 = .ok (.getfield 96, 3) := by decide +kernel
theorem dd_185_42 : decode prog_14_method_59_code 42 = .ok (.iconst 4, 1) := by decide +kernel
theorem dd_185_43 : decode prog_14_method_59_code 43 = .ok (.iload_n 2, 1) := by decide +kernel
theorem dd_185_44 : decode prog_14_method_59_code 44 = .ok (.imul, 1) := by decide +kernel
theorem dd_185_45 : decode prog_14_method_59_code 45 = .ok (.iload_n 1, 1) := by decide +kernel
theorem dd_185_46 : decode prog_14_method_59_code 46 = .ok (.iadd, 1) := by decide +kernel
theorem dd_185_47 : decode prog_14_method_59_code 47 = .ok (.iaload, 1) := by decide +kernel
theorem dd_185_48 : decode prog_14_method_59_code 48 = .ok (.istore 4, 2) := by decide +kernel
theorem dd_185_50 : decode prog_14_method_59_code 50 = .ok (.iload_n 3, 1) := by decide +kernel
theorem dd_185_51 : decode prog_14_method_59_code 51 = .ok (.ifCond .ne 6, 3) := by decide +kernel
theorem dd_185_54 : decode prog_14_method_59_code 54 = .ok (.iload 4, 2) := by decide +kernel
theorem dd_185_56 : decode prog_14_method_59_code 56 = .ok (.ireturn, 1) := by decide +kernel
theorem dd_185_57 : decode prog_14_method_59_code 57 = .ok (.iconst 0, 1) := by decide +kernel
theorem dd_185_58 : decode prog_14_method_59_code 58 = .ok (.istore 5, 2) := by decide +kernel
theorem dd_185_60 : decode prog_14_method_59_code 60 = .ok (.bipush (-4), 2) := by decide +kernel
theorem dd_185_62 : decode prog_14_method_59_code 62 = .ok (.istore 6, 2) := by decide +kernel
theorem dd_185_64 : decode prog_14_method_59_code 64 = .ok (.iload_n 2, 1) := by decide +kernel
theorem dd_185_65 : decode prog_14_method_59_code 65 = .ok (.istore 7, 2) := by decide +kernel
theorem dd_185_67 : decode prog_14_method_59_code 67 = .ok (.iload 7, 2) := by decide +kernel
theorem dd_185_69 : decode prog_14_method_59_code 69 = .ok (.aload_n 0, 1) := by decide +kernel
theorem dd_185_70 : decode prog_14_method_59_code 70 = .ok (.getfield 7, 3) := by decide +kernel
theorem dd_185_73 : decode prog_14_method_59_code 73 = .ok (.if_icmp .ge 67, 3) := by decide +kernel
theorem dd_185_76 : decode prog_14_method_59_code 76 = .ok (.aload_n 0, 1) := by decide +kernel
theorem dd_185_77 : decode prog_14_method_59_code 77 = .ok (.iload 7, 2) := by decide +kernel
theorem dd_185_79 : decode prog_14_method_59_code 79 = .ok (.iload_n 1, 1) := by decide +kernel
theorem dd_185_80 : decode prog_14_method_59_code 80 = .ok (.invokevirtual 309, 3) := by decide +kernel
theorem dd_185_83 : decode prog_14_method_59_code 83 = .ok (.istore 8, 2) := by decide +kernel
theorem dd_185_85 : decode prog_14_method_59_code 85 = .ok (.iload 8, 2) := by decide +kernel
theorem dd_185_87 : decode prog_14_method_59_code 87 = .ok (.bipush (-4), 2) := by decide +kernel
theorem dd_185_89 : decode prog_14_method_59_code 89 = .ok (.if_icmp .eq 24, 3) := by decide +kernel
theorem dd_185_92 : decode prog_14_method_59_code 92 = .ok (.iload 5, 2) := by decide +kernel
theorem dd_185_94 : decode prog_14_method_59_code 94 = .ok (.aload_n 0, 1) := by decide +kernel
theorem dd_185_95 : decode prog_14_method_59_code 95 = .ok (.iload 7, 2) := by decide +kernel
theorem dd_185_97 : decode prog_14_method_59_code 97 = .ok (.iload 8, 2) := by decide +kernel
theorem dd_185_99 : decode prog_14_method_59_code 99 = .ok (.invokevirtual 306, 3) := by decide +kernel
theorem dd_185_102 : decode prog_14_method_59_code 102 = .ok (.iadd, 1) := by decide +kernel
theorem dd_185_103 : decode prog_14_method_59_code 103 = .ok (.iload 4, 2) := by decide +kernel
theorem dd_185_105 : decode prog_14_method_59_code 105 = .ok (.if_icmp .ne 8, 3) := by decide +kernel
theorem dd_185_108 : decode prog_14_method_59_code 108 = .ok (.iload 7, 2) := by decide +kernel
theorem dd_185_110 : decode prog_14_method_59_code 110 = .ok (.goto 5, 3) := by decide +kernel
theorem dd_185_113 : decode prog_14_method_59_code 113 = .ok (.iload 6, 2) := by decide +kernel
theorem dd_185_115 : decode prog_14_method_59_code 115 = .ok (.istore 6, 2) := by decide +kernel
theorem dd_185_117 : decode prog_14_method_59_code 117 = .ok (.iload 5, 2) := by decide +kernel
theorem dd_185_119 : decode prog_14_method_59_code 119 = .ok (.aload_n 0, 1) := by decide +kernel
theorem dd_185_120 : decode prog_14_method_59_code 120 = .ok (.getfield 74, 3) := by decide +kernel
theorem dd_185_123 : decode prog_14_method_59_code 123 = .ok (.bipush 64, 2) := by decide +kernel
theorem dd_185_125 : decode prog_14_method_59_code 125 = .ok (.iload_n 1, 1) := by decide +kernel
theorem dd_185_126 : decode prog_14_method_59_code 126 = .ok (.imul, 1) := by decide +kernel
theorem dd_185_127 : decode prog_14_method_59_code 127 = .ok (.iload 7, 2) := by decide +kernel
theorem dd_185_129 : decode prog_14_method_59_code 129 = .ok (.iadd, 1) := by decide +kernel
theorem dd_185_130 : decode prog_14_method_59_code 130 = .ok (.iaload, 1) := by decide +kernel
theorem dd_185_131 : decode prog_14_method_59_code 131 = .ok (.iadd, 1) := by decide +kernel
theorem dd_185_132 : decode prog_14_method_59_code 132 = .ok (.istore 5, 2) := by decide +kernel
theorem dd_185_134 : decode prog_14_method_59_code 134 = .ok (.iinc 7 1, 3) := by decide +kernel
theorem dd_185_137 : decode prog_14_method_59_code 137 = .ok (.goto (-70), 3) := by decide +kernel
theorem dd_185_140 : decode prog_14_method_59_code 140 = .ok (.iload 5, 2) := by decide +kernel
theorem dd_185_142 : decode prog_14_method_59_code 142 = .ok (.iload 4, 2) := by decide +kernel
theorem dd_185_144 : decode prog_14_method_59_code 144 = .ok (.if_icmp .ne 6, 3) := by decide +kernel
theorem dd_185_147 : decode prog_14_method_59_code 147 = .ok (.bipush (-4), 2) := by decide +kernel
theorem dd_185_149 : decode prog_14_method_59_code 149 = .ok (.ireturn, 1) := by decide +kernel
theorem dd_185_150 : decode prog_14_method_59_code 150 = .ok (.iload_n 3, 1) := by decide +kernel
theorem dd_185_151 : decode prog_14_method_59_code 151 = .ok (.iconst 1, 1) := by decide +kernel
theorem dd_185_152 : decode prog_14_method_59_code 152 = .ok (.if_icmp .ne 8, 3) := by decide +kernel
theorem dd_185_155 : decode prog_14_method_59_code 155 = .ok (.iload 6, 2) := by decide +kernel
theorem dd_185_157 : decode prog_14_method_59_code 157 = .ok (.goto 10, 3) := by decide +kernel
theorem dd_185_160 : decode prog_14_method_59_code 160 = .ok (.aload_n 0, 1) := by decide +kernel
theorem dd_185_161 : decode prog_14_method_59_code 161 = .ok (.iload 6, 2) := by decide +kernel
theorem dd_185_163 : decode prog_14_method_59_code 163 = .ok (.iload_n 1, 1) := by decide +kernel
theorem dd_185_164 : decode prog_14_method_59_code 164 = .ok (.invokevirtual 309, 3) := by decide +kernel
theorem dd_185_167 : decode prog_14_method_59_code 167 = .ok (.ireturn, 1) := by decide +kernel
theorem kb_185_0 : am_row mi_185 0 kr_185_0 := am_rs rfl (ok_aload_n (k := 0) dd_185_0 rfl rfl) (am_rs rfl (ok_iload_n (k := 1) dd_185_1 rfl rfl) (am_rs rfl (ok_cv (M' := mi_153) dd_185_2 rfl rfl w_1184 w_1186 ps_153 ⟨lk_153.1, lk_153.2.1, lk_153.2.2, by decide, by decide⟩ rfl) (am_rn rfl (am_rn rfl (am_rs rfl (ok_ifc dd_185_5 (by decide) rfl) (am_rn rfl (am_rn rfl (am_rz))))))))
theorem kb_185_1 : am_row mi_185 8 kr_185_1 := am_rs rfl (ok_aload_n (k := 0) dd_185_8 rfl rfl) (am_rs rfl (ok_iload_n (k := 2) dd_185_9 rfl rfl) (am_rs rfl (ok_cv (M' := mi_154) dd_185_10 rfl rfl w_1188 w_1190 ps_154 ⟨lk_154.1, lk_154.2.1, lk_154.2.2, by decide, by decide⟩ rfl) (am_rn rfl (am_rn rfl (am_rs rfl (ok_ifc dd_185_13 (by decide) rfl) (am_rn rfl (am_rn rfl (am_rz))))))))
theorem kb_185_2 : am_row mi_185 16 kr_185_2 := am_rs rfl (ok_iload_n (k := 3) dd_185_16 rfl rfl) (am_rs rfl (ok_iconst dd_185_17 ic_0 rfl) (am_rs rfl (ok_iconst dd_185_18 ic_2 rfl) (am_rs rfl (ok_cs (M' := mi_133) dd_185_19 rfl rfl w_1106 w_1107 ⟨lk_133.1, lk_133.2.1, lk_133.2.2, by decide, by decide⟩) (am_rn rfl (am_rn rfl (am_rs rfl (ok_ifc dd_185_22 (by decide) rfl) (am_rn rfl (am_rz))))))))
theorem kb_185_3 : am_row mi_185 24 kr_185_3 := am_rn rfl (am_rs rfl (ok_iconst dd_185_25 ic_m1 rfl) (am_rs rfl (ok_iret dd_185_26 rfl) (am_rs rfl (ok_aload_n (k := 0) dd_185_27 rfl rfl) (am_rs rfl (ok_iconst dd_185_28 ic_0 rfl) (am_rs rfl (ok_bipush dd_185_29 bi_m4 rfl) (am_rn rfl (am_rs rfl (ok_cv (M' := mi_155) dd_185_31 rfl rfl w_1192 w_1194 ps_155 ⟨lk_155.1, lk_155.2.1, lk_155.2.2, by decide, by decide⟩ rfl) (am_rz))))))))
theorem kb_185_4 : am_row mi_185 32 kr_185_4 := am_rn rfl (am_rn rfl (am_rs rfl (ok_aload_n (k := 0) dd_185_34 rfl rfl) (am_rs rfl (ok_cv (M' := mi_172) dd_185_35 rfl rfl w_1258 w_1260 ps_172 ⟨lk_172.1, lk_172.2.1, lk_172.2.2, by decide, by decide⟩ rfl) (am_rn rfl (am_rn rfl (am_rs rfl (ok_aload_n (k := 0) dd_185_38 rfl rfl) (am_rs rfl (ok_gf dd_185_39 rfl am_ck12 (by decide) (Or.inl w_981)) (am_rz))))))))
theorem kb_185_5 : am_row mi_185 40 kr_185_5 := am_rn rfl (am_rn rfl (am_rs rfl (ok_iconst dd_185_42 ic_4 rfl) (am_rs rfl (ok_iload_n (k := 2) dd_185_43 rfl rfl) (am_rs rfl (ok_imul dd_185_44 rfl) (am_rs rfl (ok_iload_n (k := 1) dd_185_45 rfl rfl) (am_rs rfl (ok_iadd dd_185_46 rfl) (am_rs rfl (ok_iald dd_185_47 rfl) (am_rz))))))))
theorem kb_185_6 : am_row mi_185 48 kr_185_6 := am_rs rfl (ok_istore dd_185_48 rfl (by decide)) (am_rn rfl (am_rs rfl (ok_iload_n (k := 3) dd_185_50 rfl rfl) (am_rs rfl (ok_ifc dd_185_51 (by decide) rfl) (am_rn rfl (am_rn rfl (am_rs rfl (ok_iload dd_185_54 rfl) (am_rn rfl (am_rz))))))))
theorem kb_185_7 : am_row mi_185 56 kr_185_7 := am_rs rfl (ok_iret dd_185_56 rfl) (am_rs rfl (ok_iconst dd_185_57 ic_0 rfl) (am_rs rfl (ok_istore dd_185_58 rfl (by decide)) (am_rn rfl (am_rs rfl (ok_bipush dd_185_60 bi_m4 rfl) (am_rn rfl (am_rs rfl (ok_istore dd_185_62 rfl (by decide)) (am_rn rfl (am_rz))))))))
theorem kb_185_8 : am_row mi_185 64 kr_185_8 := am_rs rfl (ok_iload_n (k := 2) dd_185_64 rfl rfl) (am_rs rfl (ok_istore dd_185_65 rfl (by decide)) (am_rn rfl (am_rs rfl (ok_iload dd_185_67 rfl) (am_rn rfl (am_rs rfl (ok_aload_n (k := 0) dd_185_69 rfl rfl) (am_rs rfl (ok_gf dd_185_70 rfl am_ck12 (by decide) (Or.inl w_935)) (am_rn rfl (am_rz))))))))
theorem kb_185_9 : am_row mi_185 72 kr_185_9 := am_rn rfl (am_rs rfl (ok_icmp dd_185_73 (by decide) rfl) (am_rn rfl (am_rn rfl (am_rs rfl (ok_aload_n (k := 0) dd_185_76 rfl rfl) (am_rs rfl (ok_iload dd_185_77 rfl) (am_rn rfl (am_rs rfl (ok_iload_n (k := 1) dd_185_79 rfl rfl) (am_rz))))))))
theorem kb_185_10 : am_row mi_185 80 kr_185_10 := am_rs rfl (ok_cv (M' := mi_173) dd_185_80 rfl rfl w_1262 w_1264 ps_173 ⟨lk_173.1, lk_173.2.1, lk_173.2.2, by decide, by decide⟩ rfl) (am_rn rfl (am_rn rfl (am_rs rfl (ok_istore dd_185_83 rfl (by decide)) (am_rn rfl (am_rs rfl (ok_iload dd_185_85 rfl) (am_rn rfl (am_rs rfl (ok_bipush dd_185_87 bi_m4 rfl) (am_rz))))))))
theorem kb_185_11 : am_row mi_185 88 kr_185_11 := am_rn rfl (am_rs rfl (ok_icmp dd_185_89 (by decide) rfl) (am_rn rfl (am_rn rfl (am_rs rfl (ok_iload dd_185_92 rfl) (am_rn rfl (am_rs rfl (ok_aload_n (k := 0) dd_185_94 rfl rfl) (am_rs rfl (ok_iload dd_185_95 rfl) (am_rz))))))))
theorem kb_185_12 : am_row mi_185 96 kr_185_12 := am_rn rfl (am_rs rfl (ok_iload dd_185_97 rfl) (am_rn rfl (am_rs rfl (ok_cv (M' := mi_174) dd_185_99 rfl rfl w_1266 w_1268 ps_174 ⟨lk_174.1, lk_174.2.1, lk_174.2.2, by decide, by decide⟩ rfl) (am_rn rfl (am_rn rfl (am_rs rfl (ok_iadd dd_185_102 rfl) (am_rs rfl (ok_iload dd_185_103 rfl) (am_rz))))))))
theorem kb_185_13 : am_row mi_185 104 kr_185_13 := am_rn rfl (am_rs rfl (ok_icmp dd_185_105 (by decide) rfl) (am_rn rfl (am_rn rfl (am_rs rfl (ok_iload dd_185_108 rfl) (am_rn rfl (am_rs rfl (ok_goto dd_185_110 (by decide)) (am_rn rfl (am_rz))))))))
theorem kb_185_14 : am_row mi_185 112 kr_185_14 := am_rn rfl (am_rs rfl (ok_iload dd_185_113 rfl) (am_rn rfl (am_rs rfl (ok_istore dd_185_115 rfl (by decide)) (am_rn rfl (am_rs rfl (ok_iload dd_185_117 rfl) (am_rn rfl (am_rs rfl (ok_aload_n (k := 0) dd_185_119 rfl rfl) (am_rz))))))))
theorem kb_185_15 : am_row mi_185 120 kr_185_15 := am_rs rfl (ok_gf dd_185_120 rfl am_ck12 (by decide) (Or.inl w_967)) (am_rn rfl (am_rn rfl (am_rs rfl (ok_bipush dd_185_123 bi_64 rfl) (am_rn rfl (am_rs rfl (ok_iload_n (k := 1) dd_185_125 rfl rfl) (am_rs rfl (ok_imul dd_185_126 rfl) (am_rs rfl (ok_iload dd_185_127 rfl) (am_rz))))))))
theorem kb_185_16 : am_row mi_185 128 kr_185_16 := am_rn rfl (am_rs rfl (ok_iadd dd_185_129 rfl) (am_rs rfl (ok_iald dd_185_130 rfl) (am_rs rfl (ok_iadd dd_185_131 rfl) (am_rs rfl (ok_istore dd_185_132 rfl (by decide)) (am_rn rfl (am_rs rfl (ok_iinc dd_185_134 ic_1 rfl (by decide)) (am_rn rfl (am_rz))))))))
theorem kb_185_17 : am_row mi_185 136 kr_185_17 := am_rn rfl (am_rs rfl (ok_goto dd_185_137 (by decide)) (am_rn rfl (am_rn rfl (am_rs rfl (ok_iload dd_185_140 rfl) (am_rn rfl (am_rs rfl (ok_iload dd_185_142 rfl) (am_rn rfl (am_rz))))))))
theorem kb_185_18 : am_row mi_185 144 kr_185_18 := am_rs rfl (ok_icmp dd_185_144 (by decide) rfl) (am_rn rfl (am_rn rfl (am_rs rfl (ok_bipush dd_185_147 bi_m4 rfl) (am_rn rfl (am_rs rfl (ok_iret dd_185_149 rfl) (am_rs rfl (ok_iload_n (k := 3) dd_185_150 rfl rfl) (am_rs rfl (ok_iconst dd_185_151 ic_1 rfl) (am_rz))))))))
theorem kb_185_19 : am_row mi_185 152 kr_185_19 := am_rs rfl (ok_icmp dd_185_152 (by decide) rfl) (am_rn rfl (am_rn rfl (am_rs rfl (ok_iload dd_185_155 rfl) (am_rn rfl (am_rs rfl (ok_goto dd_185_157 (by decide)) (am_rn rfl (am_rn rfl (am_rz))))))))
theorem kb_185_20 : am_row mi_185 160 kr_185_20 := am_rs rfl (ok_aload_n (k := 0) dd_185_160 rfl rfl) (am_rs rfl (ok_iload dd_185_161 rfl) (am_rn rfl (am_rs rfl (ok_iload_n (k := 1) dd_185_163 rfl rfl) (am_rs rfl (ok_cv (M' := mi_173) dd_185_164 rfl rfl w_1262 w_1264 ps_173 ⟨lk_173.1, lk_173.2.1, lk_173.2.2, by decide, by decide⟩ rfl) (am_rn rfl (am_rn rfl (am_rs rfl (ok_iret dd_185_167 rfl) (am_rz))))))))
theorem ck_185 : am_rows mi_185 0 cd_185 := am_bs rfl kb_185_0 (am_bs rfl kb_185_1 (am_bs rfl kb_185_2 (am_bs rfl kb_185_3 (am_bs rfl kb_185_4 (am_bs rfl kb_185_5 (am_bs rfl kb_185_6 (am_bs rfl kb_185_7 (am_bs rfl kb_185_8 (am_bs rfl kb_185_9 (am_bs rfl kb_185_10 (am_bs rfl kb_185_11 (am_bs rfl kb_185_12 (am_bs rfl kb_185_13 (am_bs rfl kb_185_14 (am_bs rfl kb_185_15 (am_bs rfl kb_185_16 (am_bs rfl kb_185_17 (am_bs rfl kb_185_18 (am_bs rfl kb_185_19 (am_bs rfl kb_185_20 (am_bz)))))))))))))))))))))
/-- OverAndBackModel.understand(III)I -/
noncomputable def kr_186_0 : List (Option am_Op) := [some (am_ald0 0 1), some (am_ild 1 2), some (am_cv 153 1 12 5), none, none, some (am_br1 .eq 24 8), none, none]
noncomputable def kr_186_1 : List (Option am_Op) := [some (am_ild 2 9), some (am_cs 161 1 12), none, none, some (am_br1 .eq 24 15), none, none, some (am_ild 3 16)]
noncomputable def kr_186_2 : List (Option am_Op) := [some (am_psh (.retAddr 0) 17), some (am_psh (.retAddr 1) 18), some (am_cs 133 3 21), none, none, some (am_br1 .ne 26 24), none, none]
noncomputable def kr_186_3 : List (Option am_Op) := [some (am_psh (.retAddr 4294967295) 25), some (am_iret), some (am_ald0 0 27), some (am_psh (.retAddr 0) 28), some (am_psh (.retAddr 4294967292) 30), none, some (am_cv 155 2 12 33), none]
noncomputable def kr_186_4 : List (Option am_Op) := [none, some (am_ald0 0 34), some (am_ild 1 35), some (am_cv 187 1 12 38), none, none, some (am_ald0 0 39), some (am_ild 2 40)]
noncomputable def kr_186_5 : List (Option am_Op) := [some (am_cv 190 1 12 43), none, none, some (am_ald0 0 44), some (am_gf 12 49 47), none, none, some (am_psh (.retAddr 4294967292) 49)]
noncomputable def kr_186_6 : List (Option am_Op) := [none, some (am_br2 .ne 57 52), none, none, some (am_psh (.retAddr 4294967292) 54), none, some (am_jmp 72), none]
noncomputable def kr_186_7 : List (Option am_Op) := [none, some (am_ild 3 58), some (am_br1 .ne 68 61), none, none, some (am_ald0 0 62), some (am_gf 12 48 65), none]
noncomputable def kr_186_8 : List (Option am_Op) := [none, some (am_jmp 72), none, none, some (am_ald0 0 69), some (am_gf 12 49 72), none, none]
noncomputable def kr_186_9 : List (Option am_Op) := [some (am_iret)]
noncomputable def cd_186 : am_Cd := [kr_186_0, kr_186_1, kr_186_2, kr_186_3, kr_186_4, kr_186_5, kr_186_6, kr_186_7, kr_186_8, kr_186_9]
theorem dd_186_0 : decode prog_14_method_64_code 0 = .ok (.aload_n 0, 1) := by decide +kernel
theorem dd_186_1 : decode prog_14_method_64_code 1 = .ok (.iload_n 1, 1) := by decide +kernel
theorem dd_186_2 : decode prog_14_method_64_code 2 = .ok (.invokevirtual 240, 3) := by decide +kernel
theorem dd_186_5 : decode prog_14_method_64_code 5 = .ok (.ifCond .eq 19, 3) := by decide +kernel
theorem dd_186_8 : decode prog_14_method_64_code 8 = .ok (.iload_n 2, 1) := by decide +kernel
theorem dd_186_9 : decode prog_14_method_64_code 9 = .ok (.invokestatic 250, 3) := by decide +kernel
theorem dd_186_12 : decode prog_14_method_64_code 12 = .ok (.ifCond .eq 12, 3) := by decide +kernel
theorem dd_186_15 : decode prog_14_method_64_code 15 = .ok (.iload_n 3, 1) := by decide +kernel
theorem dd_186_16 : decode prog_14_method_64_code 16 = .ok (.iconst 0, 1) := by decide +kernel
theorem dd_186_17 : decode prog_14_method_64_code 17 = .ok (.iconst 1, 1) := by decide +kernel
theorem dd_186_18 : decode prog_14_method_64_code 18 = .ok (.invokestatic 116, 3) := by decide +kernel
theorem dd_186_21 : decode prog_14_method_64_code 21 = .ok (.ifCond .ne 5, 3) := by decide +kernel
theorem dd_186_24 : decode prog_14_method_64_code 24 = .ok (.iconst (-1), 1) := by decide +kernel
theorem dd_186_25 : decode prog_14_method_64_code 25 = .ok (.ireturn, 1) := by decide +kernel
theorem dd_186_26 : decode prog_14_method_64_code 26 = .ok (.aload_n 0, 1) := by decide +kernel
theorem dd_186_27 : decode prog_14_method_64_code 27 = .ok (.iconst 0, 1) := by decide +kernel
theorem dd_186_28 : decode prog_14_method_64_code 28 = .ok (.bipush (-4), 2) := by decide +kernel
theorem dd_186_30 : decode prog_14_method_64_code 30 = .ok (.invokevirtual 246, 3) := by decide +kernel
theorem dd_186_33 : decode prog_14_method_64_code 33 = .ok (.aload_n 0, 1) := by decide +kernel
theorem dd_186_34 : decode prog_14_method_64_code 34 = .ok (.iload_n 1, 1) := by decide +kernel
theorem dd_186_35 : decode prog_14_method_64_code 35 = .ok (.invokevirtual 328, 3) := by decide +kernel
theorem dd_186_38 : decode prog_14_method_64_code 38 = .ok (.aload_n 0, 1) := by decide +kernel
theorem dd_186_39 : decode prog_14_method_64_code 39 = .ok (.iload_n 2, 1) := by decide +kernel
theorem dd_186_40 : decode prog_14_method_64_code 40 = .ok (.invokevirtual 331, 3) := by decide +kernel
theorem dd_186_43 : decode prog_14_method_64_code 43 = .ok (.aload_n 0, 1) := by decide +kernel
theorem dd_186_44 : decode prog_14_method_64_code 44 = .ok (.getfield 322, 3) := by decide +kernel
theorem dd_186_47 : decode prog_14_method_64_code 47 = .ok (.bipush (-4), 2) := by decide +kernel
theorem dd_186_49 : decode prog_14_method_64_code 49 = .ok (.if_icmp .ne 8, 3) := by decide +kernel
theorem dd_186_52 : decode prog_14_method_64_code 52 = .ok (.bipush (-4), 2) := by decide +kernel
theorem dd_186_54 : decode prog_14_method_64_code 54 = .ok (.goto 18, 3) := by decide +kernel
theorem dd_186_57 : decode prog_14_method_64_code 57 = .ok (.iload_n 3, 1) := by decide +kernel
theorem dd_186_58 : decode prog_14_method_64_code 58 = .ok (.ifCond .ne 10, 3) := by decide +kernel
theorem dd_186_61 : decode prog_14_method_64_code 61 = .ok (.aload_n 0, 1) := by decide +kernel
theorem dd_186_62 : decode prog_14_method_64_code 62 = .ok (.getfield 319, 3) := by decide +kernel
theorem dd_186_65 : decode prog_14_method_64_code 65 = .ok (.goto 7, 3) := by decide +kernel
theorem dd_186_68 : decode prog_14_method_64_code 68 = .ok (.aload_n 0, 1) := by decide +kernel
theorem dd_186_69 : decode prog_14_method_64_code 69 = .ok (.getfield 322, 3) := by decide +kernel
theorem dd_186_72 : decode prog_14_method_64_code 72 = .ok (.ireturn, 1) := by decide +kernel
theorem kb_186_0 : am_row mi_186 0 kr_186_0 := am_rs rfl (ok_aload_n (k := 0) dd_186_0 rfl rfl) (am_rs rfl (ok_iload_n (k := 1) dd_186_1 rfl rfl) (am_rs rfl (ok_cv (M' := mi_153) dd_186_2 rfl rfl w_1184 w_1186 ps_153 ⟨lk_153.1, lk_153.2.1, lk_153.2.2, by decide, by decide⟩ rfl) (am_rn rfl (am_rn rfl (am_rs rfl (ok_ifc dd_186_5 (by decide) rfl) (am_rn rfl (am_rn rfl (am_rz))))))))
theorem kb_186_1 : am_row mi_186 8 kr_186_1 := am_rs rfl (ok_iload_n (k := 2) dd_186_8 rfl rfl) (am_rs rfl (ok_cs (M' := mi_161) dd_186_9 rfl rfl w_1215 w_1216 ⟨lk_161.1, lk_161.2.1, lk_161.2.2, by decide, by decide⟩) (am_rn rfl (am_rn rfl (am_rs rfl (ok_ifc dd_186_12 (by decide) rfl) (am_rn rfl (am_rn rfl (am_rs rfl (ok_iload_n (k := 3) dd_186_15 rfl rfl) (am_rz))))))))
theorem kb_186_2 : am_row mi_186 16 kr_186_2 := am_rs rfl (ok_iconst dd_186_16 ic_0 rfl) (am_rs rfl (ok_iconst dd_186_17 ic_1 rfl) (am_rs rfl (ok_cs (M' := mi_133) dd_186_18 rfl rfl w_1106 w_1107 ⟨lk_133.1, lk_133.2.1, lk_133.2.2, by decide, by decide⟩) (am_rn rfl (am_rn rfl (am_rs rfl (ok_ifc dd_186_21 (by decide) rfl) (am_rn rfl (am_rn rfl (am_rz))))))))
theorem kb_186_3 : am_row mi_186 24 kr_186_3 := am_rs rfl (ok_iconst dd_186_24 ic_m1 rfl) (am_rs rfl (ok_iret dd_186_25 rfl) (am_rs rfl (ok_aload_n (k := 0) dd_186_26 rfl rfl) (am_rs rfl (ok_iconst dd_186_27 ic_0 rfl) (am_rs rfl (ok_bipush dd_186_28 bi_m4 rfl) (am_rn rfl (am_rs rfl (ok_cv (M' := mi_155) dd_186_30 rfl rfl w_1192 w_1194 ps_155 ⟨lk_155.1, lk_155.2.1, lk_155.2.2, by decide, by decide⟩ rfl) (am_rn rfl (am_rz))))))))
theorem kb_186_4 : am_row mi_186 32 kr_186_4 := am_rn rfl (am_rs rfl (ok_aload_n (k := 0) dd_186_33 rfl rfl) (am_rs rfl (ok_iload_n (k := 1) dd_186_34 rfl rfl) (am_rs rfl (ok_cv (M' := mi_187) dd_186_35 rfl rfl w_1318 w_1320 ps_187 ⟨lk_187.1, lk_187.2.1, lk_187.2.2, by decide, by decide⟩ rfl) (am_rn rfl (am_rn rfl (am_rs rfl (ok_aload_n (k := 0) dd_186_38 rfl rfl) (am_rs rfl (ok_iload_n (k := 2) dd_186_39 rfl rfl) (am_rz))))))))
theorem kb_186_5 : am_row mi_186 40 kr_186_5 := am_rs rfl (ok_cv (M' := mi_190) dd_186_40 rfl rfl w_1329 w_1331 ps_190 ⟨lk_190.1, lk_190.2.1, lk_190.2.2, by decide, by decide⟩ rfl) (am_rn rfl (am_rn rfl (am_rs rfl (ok_aload_n (k := 0) dd_186_43 rfl rfl) (am_rs rfl (ok_gf dd_186_44 rfl am_ck12 (by decide) (Or.inl w_984)) (am_rn rfl (am_rn rfl (am_rs rfl (ok_bipush dd_186_47 bi_m4 rfl) (am_rz))))))))
theorem kb_186_6 : am_row mi_186 48 kr_186_6 := am_rn rfl (am_rs rfl (ok_icmp dd_186_49 (by decide) rfl) (am_rn rfl (am_rn rfl (am_rs rfl (ok_bipush dd_186_52 bi_m4 rfl) (am_rn rfl (am_rs rfl (ok_goto dd_186_54 (by decide)) (am_rn rfl (am_rz))))))))
theorem kb_186_7 : am_row mi_186 56 kr_186_7 := am_rn rfl (am_rs rfl (ok_iload_n (k := 3) dd_186_57 rfl rfl) (am_rs rfl (ok_ifc dd_186_58 (by decide) rfl) (am_rn rfl (am_rn rfl (am_rs rfl (ok_aload_n (k := 0) dd_186_61 rfl rfl) (am_rs rfl (ok_gf dd_186_62 rfl am_ck12 (by decide) (Or.inl w_983)) (am_rn rfl (am_rz))))))))
theorem kb_186_8 : am_row mi_186 64 kr_186_8 := am_rn rfl (am_rs rfl (ok_goto dd_186_65 (by decide)) (am_rn rfl (am_rn rfl (am_rs rfl (ok_aload_n (k := 0) dd_186_68 rfl rfl) (am_rs rfl (ok_gf dd_186_69 rfl am_ck12 (by decide) (Or.inl w_984)) (am_rn rfl (am_rn rfl (am_rz))))))))
theorem kb_186_9 : am_row mi_186 72 kr_186_9 := am_rs rfl (ok_iret dd_186_72 rfl) (am_rz)
theorem ck_186 : am_rows mi_186 0 cd_186 := am_bs rfl kb_186_0 (am_bs rfl kb_186_1 (am_bs rfl kb_186_2 (am_bs rfl kb_186_3 (am_bs rfl kb_186_4 (am_bs rfl kb_186_5 (am_bs rfl kb_186_6 (am_bs rfl kb_186_7 (am_bs rfl kb_186_8 (am_bs rfl kb_186_9 (am_bz))))))))))
/-- OverAndBackModel.layFew(I)V -/
noncomputable def kr_187_0 : List (Option am_Op) := [some (am_psh (.retAddr 0) 1), some (am_ist 2 2), some (am_ild 2 3), some (am_psh (.retAddr 62464) 5), none, some (am_br2 .ge 22 8), none, none]
noncomputable def kr_187_1 : List (Option am_Op) := [some (am_ald0 0 9), some (am_gf 12 47 12), none, none, some (am_ild 2 13), some (am_psh (.retAddr 7) 15), none, some (am_ast 0 (fun v => v) 16)]
noncomputable def kr_187_2 : List (Option am_Op) := [some (am_inc 2 1 19), none, none, some (am_jmp 2), none, none, some (am_ald0 0 23), some (am_gf 12 47 26)]
noncomputable def kr_187_3 : List (Option am_Op) := [none, none, some (am_psh (.retAddr 256) 29), none, none, some (am_ild 1 30), some (am_bin am_mul 31), some (am_psh (.retAddr 0) 32)]
noncomputable def kr_187_4 : List (Option am_Op) := [some (am_ast 0 (fun v => v) 33), some (am_psh (.retAddr 0) 34), some (am_ist 2 35), some (am_ild 2 36), some (am_psh (.retAddr 1024) 39), none, none, some (am_ald0 0 40)]
noncomputable def kr_187_5 : List (Option am_Op) := [some (am_gf 12 0 43), none, none, some (am_bin am_mul 44), some (am_br2 .ge 209 47), none, none, some (am_ild 2 48)]
noncomputable def kr_187_6 : List (Option am_Op) := [some (am_psh (.retAddr 1024) 51), none, none, some (am_bin2 Nat.div 52), some (am_ist 3 53), some (am_ild 2 54), some (am_psh (.retAddr 256) 57), none]
noncomputable def kr_187_7 : List (Option am_Op) := [none, some (am_bin2 Nat.div 58), some (am_psh (.retAddr 4) 59), some (am_bin2 Nat.mod 60), some (am_ist 4 62), none, some (am_ild 2 63), some (am_psh (.retAddr 256) 66)]
noncomputable def kr_187_8 : List (Option am_Op) := [none, none, some (am_bin2 Nat.mod 67), some (am_ist 5 69), none, some (am_ald0 0 70), some (am_gf 12 47 73), none]
noncomputable def kr_187_9 : List (Option am_Op) := [none, some (am_ild 2 74), some (am_ald 0 75), some (am_psh (.retAddr 6) 77), none, some (am_br2 .gt 203 80), none, none]
noncomputable def kr_187_10 : List (Option am_Op) := [some (am_ald0 0 81), some (am_ild 3 82), some (am_psh (.retAddr 1) 83), some (am_bin am_add 84), some (am_ild 4 86), none, some (am_ild 5 88), none]
noncomputable def kr_187_11 : List (Option am_Op) := [some (am_ald0 0 89), some (am_gf 12 33 92), none, none, some (am_psh (.retAddr 64) 94), none, some (am_ild 4 96), none]
noncomputable def kr_187_12 : List (Option am_Op) := [some (am_bin am_mul 97), some (am_ild 3 98), some (am_bin am_add 99), some (am_ald 0 100), some (am_cs 188 2 103), none, none, some (am_ald0 0 104)]
noncomputable def kr_187_13 : List (Option am_Op) := [some (am_gf 12 47 107), none, none, some (am_ild 2 108), some (am_ald 0 109), some (am_cv 189 4 12 112), none, none]
noncomputable def kr_187_14 : List (Option am_Op) := [some (am_psh (.retAddr 0) 113), some (am_ist 6 115), none, some (am_ild 6 117), none, some (am_ald0 0 118), some (am_gf 12 2 121), none]
noncomputable def kr_187_15 : List (Option am_Op) := [none, some (am_br2 .ge 203 124), none, none, some (am_ild 6 126), none, some (am_ild 4 128), none]
noncomputable def kr_187_16 : List (Option am_Op) := [some (am_br2 .eq 197 131), none, none, some (am_ald0 0 132), some (am_gf 12 1 135), none, none, some (am_br1 .ne 158 138)]
noncomputable def kr_187_17 : List (Option am_Op) := [none, none, some (am_ild 5 140), none, some (am_ald0 0 141), some (am_gf 12 33 144), none, none]
noncomputable def kr_187_18 : List (Option am_Op) := [some (am_psh (.retAddr 64) 146), none, some (am_ild 6 148), none, some (am_bin am_mul 149), some (am_ild 3 150), some (am_bin am_add 151), some (am_ald 0 152)]
noncomputable def kr_187_19 : List (Option am_Op) := [some (am_cs 188 2 155), none, none, some (am_jmp 160), none, none, some (am_ild 5 160), none]
noncomputable def kr_187_20 : List (Option am_Op) := [some (am_ist 7 162), none, some (am_ald0 0 163), some (am_ald0 0 164), some (am_gf 12 1 167), none, none, some (am_br1 .ne 176 170)]
noncomputable def kr_187_21 : List (Option am_Op) := [none, none, some (am_ild 3 171), some (am_psh (.retAddr 1) 172), some (am_bin am_add 173), some (am_jmp 182), none, none]
noncomputable def kr_187_22 : List (Option am_Op) := [some (am_ild 3 177), some (am_ald0 0 178), some (am_gf 12 1 181), none, none, some (am_bin am_add 182), some (am_ild 6 184), none]
noncomputable def kr_187_23 : List (Option am_Op) := [some (am_ild 7 186), none, some (am_ald0 0 187), some (am_gf 12 47 190), none, none, some (am_ild 2 191), some (am_ald 0 192)]
noncomputable def kr_187_24 : List (Option am_Op) := [some (am_psh (.retAddr 1) 193), some (am_bin am_add 194), some (am_cv 189 4 12 197), none, none, some (am_inc 6 1 200), none, none]
noncomputable def kr_187_25 : List (Option am_Op) := [some (am_jmp 115), none, none, some (am_inc 2 1 206), none, none, some (am_jmp 35), none]
noncomputable def kr_187_26 : List (Option am_Op) := [none, some (am_vret)]
noncomputable def cd_187 : am_Cd := [kr_187_0, kr_187_1, kr_187_2, kr_187_3, kr_187_4, kr_187_5, kr_187_6, kr_187_7, kr_187_8, kr_187_9, kr_187_10, kr_187_11, kr_187_12, kr_187_13, kr_187_14, kr_187_15, kr_187_16, kr_187_17, kr_187_18, kr_187_19, kr_187_20, kr_187_21, kr_187_22, kr_187_23, kr_187_24, kr_187_25, kr_187_26]
theorem dd_187_0 : decode prog_14_method_62_code 0 = .ok (.iconst 0, 1) := by decide +kernel
theorem dd_187_1 : decode prog_14_method_62_code 1 = .ok (.istore_n 2, 1) := by decide +kernel
theorem dd_187_2 : decode prog_14_method_62_code 2 = .ok (.iload_n 2, 1) := by decide +kernel
theorem dd_187_3 : decode prog_14_method_62_code 3 = .ok (.ldc 99, 2) := by decide +kernel
theorem dd_187_5 : decode prog_14_method_62_code 5 = .ok (.if_icmp .ge 17, 3) := by decide +kernel
theorem dd_187_8 : decode prog_14_method_62_code 8 = .ok (.aload_n 0, 1) := by decide +kernel
theorem dd_187_9 : decode prog_14_method_62_code 9 = .ok (.getfield 100, 3) := by decide +kernel
theorem dd_187_12 : decode prog_14_method_62_code 12 = .ok (.iload_n 2, 1) := by decide +kernel
theorem dd_187_13 : decode prog_14_method_62_code 13 = .ok (.bipush 7, 2) := by decide +kernel
theorem dd_187_15 : decode prog_14_method_62_code 15 = .ok (.iastore, 1) := by decide +kernel
theorem dd_187_16 : decode prog_14_method_62_code 16 = .ok (.iinc 2 1, 3) := by decide +kernel
theorem dd_187_19 : decode prog_14_method_62_code 19 = .ok (.goto (-17), 3) := by decide +kernel
theorem dd_187_22 : decode prog_14_method_62_code 22 = .ok (.aload_n 0, 1) := by decide +kernel
theorem dd_187_23 : decode prog_14_method_62_code 23 = .ok (.getfield 100, 3) := by decide +kernel
theorem dd_187_26 : decode prog_14_method_62_code 26 = .ok (.sipush 256, 3) := by decide +kernel
theorem dd_187_29 : decode prog_14_method_62_code 29 = .ok (.iload_n 1, 1) := by decide +kernel
theorem dd_187_30 : decode prog_14_method_62_code 30 = .ok (.imul, 1) := by decide +kernel
theorem dd_187_31 : decode prog_14_method_62_code 31 = .ok (.iconst 0, 1) := by decide +kernel
theorem dd_187_32 : decode prog_14_method_62_code 32 = .ok (.iastore, 1) := by decide +kernel
theorem dd_187_33 : decode prog_14_method_62_code 33 = .ok (.iconst 0, 1) := by decide +kernel
theorem dd_187_34 : decode prog_14_method_62_code 34 = .ok (.istore_n 2, 1) := by decide +kernel
theorem dd_187_35 : decode prog_14_method_62_code 35 = .ok (.iload_n 2, 1) := by decide +kernel
theorem dd_187_36 : decode prog_14_method_62_code 36 = .ok (.sipush 1024, 3) := by decide +kernel
theorem dd_187_39 : decode prog_14_method_62_code 39 = .ok (.aload_n 0, 1) := by decide +kernel
theorem dd_187_40 : decode prog_14_method_62_code 40 = .ok (.getfield 7, 3) := by decide +kernel
theorem dd_187_43 : decode prog_14_method_62_code 43 = .ok (.imul, 1) := by decide +kernel
theorem dd_187_44 : decode prog_14_method_62_code 44 = .ok (.if_icmp .ge 165, 3) := by decide +kernel
theorem dd_187_47 : decode prog_14_method_62_code 47 = .ok (.iload_n 2, 1) := by decide +kernel
theorem dd_187_48 : decode prog_14_method_62_code 48 = .ok (.sipush 1024, 3) := by decide +kernel
theorem dd_187_51 : decode prog_14_method_62_code 51 = .ok (.idiv, 1) := by decide +kernel
theorem dd_187_52 : decode prog_14_method_62_code 52 = .ok (.istore_n 3, 1) := by decide +kernel
theorem dd_187_53 : decode prog_14_method_62_code 53 = .ok (.iload_n 2, 1) := by decide +kernel
theorem dd_187_54 : decode prog_14_method_62_code 54 = .ok (.sipush 256, 3) := by decide +kernel
theorem dd_187_57 : decode prog_14_method_62_code 57 = .ok (.idiv, 1) := by decide +kernel
theorem dd_187_58 : decode prog_14_method_62_code 58 = .ok (.iconst 4, 1) := by decide +kernel
theorem dd_187_59 : decode prog_14_method_62_code 59 = .ok (.irem, 1) := by decide +kernel
theorem dd_187_60 : decode prog_14_method_62_code 60 = .ok (.istore 4, 2) := by decide +kernel
theorem dd_187_62 : decode prog_14_method_62_code 62 = .ok (.iload_n 2, 1) := by decide +kernel
theorem dd_187_63 : decode prog_14_method_62_code 63 = .ok (.sipush 256, 3) := by decide +kernel
theorem dd_187_66 : decode prog_14_method_62_code 66 = .ok (.irem, 1) := by decide +kernel
theorem dd_187_67 : decode prog_14_method_62_code 67 = .ok (.istore 5, 2) := by decide +kernel
theorem dd_187_69 : decode prog_14_method_62_code 69 = .ok (.aload_n 0, 1) := by decide +kernel
theorem dd_187_70 : decode prog_14_method_62_code 70 = .ok (.getfield 100, 3) := by decide +kernel
theorem dd_187_73 : decode prog_14_method_62_code 73 = .ok (.iload_n 2, 1) := by decide +kernel
theorem dd_187_74 : decode prog_14_method_62_code 74 = .ok (.iaload, 1) := by decide +kernel
theorem dd_187_75 : decode prog_14_method_62_code 75 = .ok (.bipush 6, 2) := by decide +kernel
theorem dd_187_77 : decode prog_14_method_62_code 77 = .ok (.if_icmp .gt 126, 3) := by decide +kernel
theorem dd_187_80 : decode prog_14_method_62_code 80 = .ok (.aload_n 0, 1) := by decide +kernel
theorem dd_187_81 : decode prog_14_method_62_code 81 = .ok (.iload_n 3, 1) := by decide +kernel
theorem dd_187_82 : decode prog_14_method_62_code 82 = .ok (.iconst 1, 1) := by decide +kernel
theorem dd_187_83 : decode prog_14_method_62_code 83 = .ok (.iadd, 1) := by decide +kernel
theorem dd_187_84 : decode prog_14_method_62_code 84 = .ok (.iload 4, 2) := by decide +kernel
theorem dd_187_86 : decode prog_14_method_62_code 86 = .ok (.iload 5, 2) := by decide +kernel
theorem dd_187_88 : decode prog_14_method_62_code 88 = .ok (.aload_n 0, 1) := by decide +kernel
theorem dd_187_89 : decode prog_14_method_62_code 89 = .ok (.getfield 77, 3) := by decide +kernel
theorem dd_187_92 : decode prog_14_method_62_code 92 = .ok (.bipush 64, 2) := by decide +kernel
theorem dd_187_94 : decode prog_14_method_62_code 94 = .ok (.iload 4, 2) := by decide +kernel
theorem dd_187_96 : decode prog_14_method_62_code 96 = .ok (.imul, 1) := by decide +kernel
theorem dd_187_97 : decode prog_14_method_62_code 97 = .ok (.iload_n 3, 1) := by decide +kernel
theorem dd_187_98 : decode prog_14_method_62_code 98 = .ok (.iadd, 1) := by decide +kernel
theorem dd_187_99 : decode prog_14_method_62_code 99 = .ok (.iaload, 1) := by decide +kernel
theorem dd_187_100 : decode prog_14_method_62_code 100 = .ok (.invokestatic 312, 3) := by decide +kernel
theorem dd_187_103 : decode prog_14_method_62_code 103 = .ok (.aload_n 0, 1) := by decide +kernel
theorem dd_187_104 : decode prog_14_method_62_code 104 = .ok (.getfield 100, 3) := by decide +kernel
theorem dd_187_107 : decode prog_14_method_62_code 107 = .ok (.iload_n 2, 1) := by decide +kernel
theorem dd_187_108 : decode prog_14_method_62_code 108 = .ok (.iaload, 1) := by decide +kernel
theorem dd_187_109 : decode prog_14_method_62_code 109 = .ok (.invokevirtual 315, 3) := by decide +kernel
theorem dd_187_112 : decode prog_14_method_62_code 112 = .ok (.iconst 0, 1) := by decide +kernel
theorem dd_187_113 : decode prog_14_method_62_code 113 = .ok (.istore 6, 2) := by decide +kernel
theorem dd_187_115 : decode prog_14_method_62_code 115 = .ok (.iload 6, 2) := by decide +kernel
theorem dd_187_117 : decode prog_14_method_62_code 117 = .ok (.aload_n 0, 1) := by decide +kernel
theorem dd_187_118 : decode prog_14_method_62_code 118 = .ok (.getfield 16, 3) := by decide +kernel
theorem dd_187_121 : decode prog_14_method_62_code 121 = .ok (.if_icmp .ge 82, 3) := by decide +kernel
theorem dd_187_124 : decode prog_14_method_62_code 124 = .ok (.iload 6, 2) := by decide +kernel
theorem dd_187_126 : decode prog_14_method_62_code 126 = .ok (.iload 4, 2) := by decide +kernel
theorem dd_187_128 : decode prog_14_method_62_code 128 = .ok (.if_icmp .eq 69, 3) := by decide +kernel
theorem dd_187_131 : decode prog_14_method_62_code 131 = .ok (.aload_n 0, 1) := by decide +kernel
theorem dd_187_132 : decode prog_14_method_62_code 132 = .ok (.getfield 13, 3) := by decide +kernel
theorem dd_187_135 : decode prog_14_method_62_code 135 = .ok (.ifCond .ne 23, 3) := by decide +kernel
theorem dd_187_138 : decode prog_14_method_62_code 138 = .ok (.iload 5, 2) := by decide +kernel
theorem dd_187_140 : decode prog_14_method_62_code 140 = .ok (.aload_n 0, 1) := by decide +kernel
theorem dd_187_141 : decode prog_14_method_62_code 141 = .ok (.getfield 77, 3) := by decide +kernel
theorem dd_187_144 : decode prog_14_method_62_code 144 = .ok (.bipush 64, 2) := by decide +kernel
theorem dd_187_146 : decode prog_14_method_62_code 146 = .ok (.iload 6, 2) := by decide +kernel
theorem dd_187_148 : decode prog_14_method_62_code 148 = .ok (.imul, 1) := by decide +kernel
theorem dd_187_149 : decode prog_14_method_62_code 149 = .ok (.iload_n 3, 1) := by decide +kernel
theorem dd_187_150 : decode prog_14_method_62_code 150 = .ok (.iadd, 1) := by decide +kernel
theorem dd_187_151 : decode prog_14_method_62_code 151 = .ok (.iaload, 1) := by decide +kernel
theorem dd_187_152 : decode prog_14_method_62_code 152 = .ok (.invokestatic 312, 3) := by decide +kernel
theorem dd_187_155 : decode prog_14_method_62_code 155 = .ok (.goto 5, 3) := by decide +kernel
theorem dd_187_158 : decode prog_14_method_62_code 158 = .ok (.iload 5, 2) := by decide +kernel
theorem dd_187_160 : decode prog_14_method_62_code 160 = .ok (.istore 7, 2) := by decide +kernel
theorem dd_187_162 : decode prog_14_method_62_code 162 = .ok (.aload_n 0, 1) := by decide +kernel
theorem dd_187_163 : decode prog_14_method_62_code 163 = .ok (.aload_n 0, 1) := by decide +kernel
theorem dd_187_164 : decode prog_14_method_62_code 164 = .ok (.getfield 13, 3) := by decide +kernel
theorem dd_187_167 : decode prog_14_method_62_code 167 = .ok (.ifCond .ne 9, 3) := by decide +kernel
theorem dd_187_170 : decode prog_14_method_62_code 170 = .ok (.iload_n 3, 1) := by decide +kernel
theorem dd_187_171 : decode prog_14_method_62_code 171 = .ok (.iconst 1, 1) := by decide +kernel
theorem dd_187_172 : decode prog_14_method_62_code 172 = .ok (.iadd, 1) := by decide +kernel
theorem dd_187_173 : decode prog_14_method_62_code 173 = .ok (.goto 9, 3) := by decide +kernel
theorem dd_187_176 : decode prog_14_method_62_code 176 = .ok (.iload_n 3, 1) := by decide +kernel
theorem dd_187_177 : decode prog_14_method_62_code 177 = .ok (.aload_n 0, 1) := by decide +kernel
theorem dd_187_178 : decode prog_14_method_62_code 178 = .ok (.getfield 13, 3) := by decide +kernel
theorem dd_187_181 : decode prog_14_method_62_code 181 = .ok (.iadd, 1) := by decide +kernel
theorem dd_187_182 : decode prog_14_method_62_code 182 = .ok (.iload 6, 2) := by decide +kernel
theorem dd_187_184 : decode prog_14_method_62_code 184 = .ok (.iload 7, 2) := by decide +kernel
theorem dd_187_186 : decode prog_14_method_62_code 186 = .ok (.aload_n 0, 1) := by decide +kernel
theorem dd_187_187 : decode prog_14_method_62_code 187 = .ok (.getfield 100, 3) := by decide +kernel
theorem dd_187_190 : decode prog_14_method_62_code 190 = .ok (.iload_n 2, 1) := by decide +kernel
theorem dd_187_191 : decode prog_14_method_62_code 191 = .ok (.iaload, 1) := by decide +kernel
theorem dd_187_192 : decode prog_14_method_62_code 192 = .ok (.iconst 1, 1) := by decide +kernel
theorem dd_187_193 : decode prog_14_method_62_code 193 = .ok (.iadd, 1) := by decide +kernel
theorem dd_187_194 : decode prog_14_method_62_code 194 = .ok (.invokevirtual 315, 3) := by decide +kernel
theorem dd_187_197 : decode prog_14_method_62_code 197 = .ok (.iinc 6 1, 3) := by decide +kernel
theorem dd_187_200 : decode prog_14_method_62_code 200 = .ok (.goto (-85), 3) := by decide +kernel
theorem dd_187_203 : decode prog_14_method_62_code 203 = .ok (.iinc 2 1, 3) := by decide +kernel
theorem dd_187_206 : decode prog_14_method_62_code 206 = .ok (.goto (-171), 3) := by decide +kernel
theorem dd_187_209 : decode prog_14_method_62_code 209 = .ok (.return_, 1) := by decide +kernel
theorem kb_187_0 : am_row mi_187 0 kr_187_0 := am_rs rfl (ok_iconst dd_187_0 ic_0 rfl) (am_rs rfl (ok_istore_n (k := 2) dd_187_1 rfl rfl (by decide)) (am_rs rfl (ok_iload_n (k := 2) dd_187_2 rfl rfl) (am_rs rfl (ok_ldc dd_187_3 w_931 rfl) (am_rn rfl (am_rs rfl (ok_icmp dd_187_5 (by decide) rfl) (am_rn rfl (am_rn rfl (am_rz))))))))
theorem kb_187_1 : am_row mi_187 8 kr_187_1 := am_rs rfl (ok_aload_n (k := 0) dd_187_8 rfl rfl) (am_rs rfl (ok_gf dd_187_9 rfl am_ck12 (by decide) (Or.inl w_982)) (am_rn rfl (am_rn rfl (am_rs rfl (ok_iload_n (k := 2) dd_187_12 rfl rfl) (am_rs rfl (ok_bipush dd_187_13 bi_7 rfl) (am_rn rfl (am_rs rfl (ok_iast dd_187_15 rfl) (am_rz))))))))
theorem kb_187_2 : am_row mi_187 16 kr_187_2 := am_rs rfl (ok_iinc dd_187_16 ic_1 rfl (by decide)) (am_rn rfl (am_rn rfl (am_rs rfl (ok_goto dd_187_19 (by decide)) (am_rn rfl (am_rn rfl (am_rs rfl (ok_aload_n (k := 0) dd_187_22 rfl rfl) (am_rs rfl (ok_gf dd_187_23 rfl am_ck12 (by decide) (Or.inl w_982)) (am_rz))))))))
theorem kb_187_3 : am_row mi_187 24 kr_187_3 := am_rn rfl (am_rn rfl (am_rs rfl (ok_sipush dd_187_26 si_256 rfl) (am_rn rfl (am_rn rfl (am_rs rfl (ok_iload_n (k := 1) dd_187_29 rfl rfl) (am_rs rfl (ok_imul dd_187_30 rfl) (am_rs rfl (ok_iconst dd_187_31 ic_0 rfl) (am_rz))))))))
theorem kb_187_4 : am_row mi_187 32 kr_187_4 := am_rs rfl (ok_iast dd_187_32 rfl) (am_rs rfl (ok_iconst dd_187_33 ic_0 rfl) (am_rs rfl (ok_istore_n (k := 2) dd_187_34 rfl rfl (by decide)) (am_rs rfl (ok_iload_n (k := 2) dd_187_35 rfl rfl) (am_rs rfl (ok_sipush dd_187_36 si_1024 rfl) (am_rn rfl (am_rn rfl (am_rs rfl (ok_aload_n (k := 0) dd_187_39 rfl rfl) (am_rz))))))))
theorem kb_187_5 : am_row mi_187 40 kr_187_5 := am_rs rfl (ok_gf dd_187_40 rfl am_ck12 (by decide) (Or.inl w_935)) (am_rn rfl (am_rn rfl (am_rs rfl (ok_imul dd_187_43 rfl) (am_rs rfl (ok_icmp dd_187_44 (by decide) rfl) (am_rn rfl (am_rn rfl (am_rs rfl (ok_iload_n (k := 2) dd_187_47 rfl rfl) (am_rz))))))))
theorem kb_187_6 : am_row mi_187 48 kr_187_6 := am_rs rfl (ok_sipush dd_187_48 si_1024 rfl) (am_rn rfl (am_rn rfl (am_rs rfl (ok_idiv dd_187_51 rfl) (am_rs rfl (ok_istore_n (k := 3) dd_187_52 rfl rfl (by decide)) (am_rs rfl (ok_iload_n (k := 2) dd_187_53 rfl rfl) (am_rs rfl (ok_sipush dd_187_54 si_256 rfl) (am_rn rfl (am_rz))))))))
theorem kb_187_7 : am_row mi_187 56 kr_187_7 := am_rn rfl (am_rs rfl (ok_idiv dd_187_57 rfl) (am_rs rfl (ok_iconst dd_187_58 ic_4 rfl) (am_rs rfl (ok_irem dd_187_59 rfl) (am_rs rfl (ok_istore dd_187_60 rfl (by decide)) (am_rn rfl (am_rs rfl (ok_iload_n (k := 2) dd_187_62 rfl rfl) (am_rs rfl (ok_sipush dd_187_63 si_256 rfl) (am_rz))))))))
theorem kb_187_8 : am_row mi_187 64 kr_187_8 := am_rn rfl (am_rn rfl (am_rs rfl (ok_irem dd_187_66 rfl) (am_rs rfl (ok_istore dd_187_67 rfl (by decide)) (am_rn rfl (am_rs rfl (ok_aload_n (k := 0) dd_187_69 rfl rfl) (am_rs rfl (ok_gf dd_187_70 rfl am_ck12 (by decide) (Or.inl w_982)) (am_rn rfl (am_rz))))))))
theorem kb_187_9 : am_row mi_187 72 kr_187_9 := am_rn rfl (am_rs rfl (ok_iload_n (k := 2) dd_187_73 rfl rfl) (am_rs rfl (ok_iald dd_187_74 rfl) (am_rs rfl (ok_bipush dd_187_75 bi_6 rfl) (am_rn rfl (am_rs rfl (ok_icmp dd_187_77 (by decide) rfl) (am_rn rfl (am_rn rfl (am_rz))))))))
theorem kb_187_10 : am_row mi_187 80 kr_187_10 := am_rs rfl (ok_aload_n (k := 0) dd_187_80 rfl rfl) (am_rs rfl (ok_iload_n (k := 3) dd_187_81 rfl rfl) (am_rs rfl (ok_iconst dd_187_82 ic_1 rfl) (am_rs rfl (ok_iadd dd_187_83 rfl) (am_rs rfl (ok_iload dd_187_84 rfl) (am_rn rfl (am_rs rfl (ok_iload dd_187_86 rfl) (am_rn rfl (am_rz))))))))
theorem kb_187_11 : am_row mi_187 88 kr_187_11 := am_rs rfl (ok_aload_n (k := 0) dd_187_88 rfl rfl) (am_rs rfl (ok_gf dd_187_89 rfl am_ck12 (by decide) (Or.inl w_968)) (am_rn rfl (am_rn rfl (am_rs rfl (ok_bipush dd_187_92 bi_64 rfl) (am_rn rfl (am_rs rfl (ok_iload dd_187_94 rfl) (am_rn rfl (am_rz))))))))
theorem kb_187_12 : am_row mi_187 96 kr_187_12 := am_rs rfl (ok_imul dd_187_96 rfl) (am_rs rfl (ok_iload_n (k := 3) dd_187_97 rfl rfl) (am_rs rfl (ok_iadd dd_187_98 rfl) (am_rs rfl (ok_iald dd_187_99 rfl) (am_rs rfl (ok_cs (M' := mi_188) dd_187_100 rfl rfl w_1322 w_1323 ⟨lk_188.1, lk_188.2.1, lk_188.2.2, by decide, by decide⟩) (am_rn rfl (am_rn rfl (am_rs rfl (ok_aload_n (k := 0) dd_187_103 rfl rfl) (am_rz))))))))
theorem kb_187_13 : am_row mi_187 104 kr_187_13 := am_rs rfl (ok_gf dd_187_104 rfl am_ck12 (by decide) (Or.inl w_982)) (am_rn rfl (am_rn rfl (am_rs rfl (ok_iload_n (k := 2) dd_187_107 rfl rfl) (am_rs rfl (ok_iald dd_187_108 rfl) (am_rs rfl (ok_cv (M' := mi_189) dd_187_109 rfl rfl w_1325 w_1327 ps_189 ⟨lk_189.1, lk_189.2.1, lk_189.2.2, by decide, by decide⟩ rfl) (am_rn rfl (am_rn rfl (am_rz))))))))
theorem kb_187_14 : am_row mi_187 112 kr_187_14 := am_rs rfl (ok_iconst dd_187_112 ic_0 rfl) (am_rs rfl (ok_istore dd_187_113 rfl (by decide)) (am_rn rfl (am_rs rfl (ok_iload dd_187_115 rfl) (am_rn rfl (am_rs rfl (ok_aload_n (k := 0) dd_187_117 rfl rfl) (am_rs rfl (ok_gf dd_187_118 rfl am_ck12 (by decide) (Or.inl w_937)) (am_rn rfl (am_rz))))))))
theorem kb_187_15 : am_row mi_187 120 kr_187_15 := am_rn rfl (am_rs rfl (ok_icmp dd_187_121 (by decide) rfl) (am_rn rfl (am_rn rfl (am_rs rfl (ok_iload dd_187_124 rfl) (am_rn rfl (am_rs rfl (ok_iload dd_187_126 rfl) (am_rn rfl (am_rz))))))))
theorem kb_187_16 : am_row mi_187 128 kr_187_16 := am_rs rfl (ok_icmp dd_187_128 (by decide) rfl) (am_rn rfl (am_rn rfl (am_rs rfl (ok_aload_n (k := 0) dd_187_131 rfl rfl) (am_rs rfl (ok_gf dd_187_132 rfl am_ck12 (by decide) (Or.inl w_936)) (am_rn rfl (am_rn rfl (am_rs rfl (ok_ifc dd_187_135 (by decide) rfl) (am_rz))))))))
theorem kb_187_17 : am_row mi_187 136 kr_187_17 := am_rn rfl (am_rn rfl (am_rs rfl (ok_iload dd_187_138 rfl) (am_rn rfl (am_rs rfl (ok_aload_n (k := 0) dd_187_140 rfl rfl) (am_rs rfl (ok_gf dd_187_141 rfl am_ck12 (by decide) (Or.inl w_968)) (am_rn rfl (am_rn rfl (am_rz))))))))
theorem kb_187_18 : am_row mi_187 144 kr_187_18 := am_rs rfl (ok_bipush dd_187_144 bi_64 rfl) (am_rn rfl (am_rs rfl (ok_iload dd_187_146 rfl) (am_rn rfl (am_rs rfl (ok_imul dd_187_148 rfl) (am_rs rfl (ok_iload_n (k := 3) dd_187_149 rfl rfl) (am_rs rfl (ok_iadd dd_187_150 rfl) (am_rs rfl (ok_iald dd_187_151 rfl) (am_rz))))))))
theorem kb_187_19 : am_row mi_187 152 kr_187_19 := am_rs rfl (ok_cs (M' := mi_188) dd_187_152 rfl rfl w_1322 w_1323 ⟨lk_188.1, lk_188.2.1, lk_188.2.2, by decide, by decide⟩) (am_rn rfl (am_rn rfl (am_rs rfl (ok_goto dd_187_155 (by decide)) (am_rn rfl (am_rn rfl (am_rs rfl (ok_iload dd_187_158 rfl) (am_rn rfl (am_rz))))))))
theorem kb_187_20 : am_row mi_187 160 kr_187_20 := am_rs rfl (ok_istore dd_187_160 rfl (by decide)) (am_rn rfl (am_rs rfl (ok_aload_n (k := 0) dd_187_162 rfl rfl) (am_rs rfl (ok_aload_n (k := 0) dd_187_163 rfl rfl) (am_rs rfl (ok_gf dd_187_164 rfl am_ck12 (by decide) (Or.inl w_936)) (am_rn rfl (am_rn rfl (am_rs rfl (ok_ifc dd_187_167 (by decide) rfl) (am_rz))))))))
theorem kb_187_21 : am_row mi_187 168 kr_187_21 := am_rn rfl (am_rn rfl (am_rs rfl (ok_iload_n (k := 3) dd_187_170 rfl rfl) (am_rs rfl (ok_iconst dd_187_171 ic_1 rfl) (am_rs rfl (ok_iadd dd_187_172 rfl) (am_rs rfl (ok_goto dd_187_173 (by decide)) (am_rn rfl (am_rn rfl (am_rz))))))))
theorem kb_187_22 : am_row mi_187 176 kr_187_22 := am_rs rfl (ok_iload_n (k := 3) dd_187_176 rfl rfl) (am_rs rfl (ok_aload_n (k := 0) dd_187_177 rfl rfl) (am_rs rfl (ok_gf dd_187_178 rfl am_ck12 (by decide) (Or.inl w_936)) (am_rn rfl (am_rn rfl (am_rs rfl (ok_iadd dd_187_181 rfl) (am_rs rfl (ok_iload dd_187_182 rfl) (am_rn rfl (am_rz))))))))
theorem kb_187_23 : am_row mi_187 184 kr_187_23 := am_rs rfl (ok_iload dd_187_184 rfl) (am_rn rfl (am_rs rfl (ok_aload_n (k := 0) dd_187_186 rfl rfl) (am_rs rfl (ok_gf dd_187_187 rfl am_ck12 (by decide) (Or.inl w_982)) (am_rn rfl (am_rn rfl (am_rs rfl (ok_iload_n (k := 2) dd_187_190 rfl rfl) (am_rs rfl (ok_iald dd_187_191 rfl) (am_rz))))))))
theorem kb_187_24 : am_row mi_187 192 kr_187_24 := am_rs rfl (ok_iconst dd_187_192 ic_1 rfl) (am_rs rfl (ok_iadd dd_187_193 rfl) (am_rs rfl (ok_cv (M' := mi_189) dd_187_194 rfl rfl w_1325 w_1327 ps_189 ⟨lk_189.1, lk_189.2.1, lk_189.2.2, by decide, by decide⟩ rfl) (am_rn rfl (am_rn rfl (am_rs rfl (ok_iinc dd_187_197 ic_1 rfl (by decide)) (am_rn rfl (am_rn rfl (am_rz))))))))
theorem kb_187_25 : am_row mi_187 200 kr_187_25 := am_rs rfl (ok_goto dd_187_200 (by decide)) (am_rn rfl (am_rn rfl (am_rs rfl (ok_iinc dd_187_203 ic_1 rfl (by decide)) (am_rn rfl (am_rn rfl (am_rs rfl (ok_goto dd_187_206 (by decide)) (am_rn rfl (am_rz))))))))
theorem kb_187_26 : am_row mi_187 208 kr_187_26 := am_rn rfl (am_rs rfl (ok_vret dd_187_209 rfl) (am_rz))
theorem ck_187 : am_rows mi_187 0 cd_187 := am_bs rfl kb_187_0 (am_bs rfl kb_187_1 (am_bs rfl kb_187_2 (am_bs rfl kb_187_3 (am_bs rfl kb_187_4 (am_bs rfl kb_187_5 (am_bs rfl kb_187_6 (am_bs rfl kb_187_7 (am_bs rfl kb_187_8 (am_bs rfl kb_187_9 (am_bs rfl kb_187_10 (am_bs rfl kb_187_11 (am_bs rfl kb_187_12 (am_bs rfl kb_187_13 (am_bs rfl kb_187_14 (am_bs rfl kb_187_15 (am_bs rfl kb_187_16 (am_bs rfl kb_187_17 (am_bs rfl kb_187_18 (am_bs rfl kb_187_19 (am_bs rfl kb_187_20 (am_bs rfl kb_187_21 (am_bs rfl kb_187_22 (am_bs rfl kb_187_23 (am_bs rfl kb_187_24 (am_bs rfl kb_187_25 (am_bs rfl kb_187_26 (am_bz)))))))))))))))))))))))))))
/-- OverAndBackModel.plus(II)I -/
noncomputable def kr_188_0 : List (Option am_Op) := [some (am_ild 1 1), some (am_psh (.retAddr 4294967292) 3), none, some (am_br2 .ne 10 6), none, none, some (am_ild 0 7), some (am_jmp 15)]
noncomputable def kr_188_1 : List (Option am_Op) := [none, none, some (am_ild 0 11), some (am_psh (.retAddr 1) 12), some (am_ild 1 13), some (am_bin am_shl 14), some (am_bin Nat.lor 15), some (am_iret)]
noncomputable def cd_188 : am_Cd := [kr_188_0, kr_188_1]
theorem dd_188_0 : decode prog_14_method_61_code 0 = .ok (.iload_n 1, 1) := by decide +kernel
theorem dd_188_1 : decode prog_14_method_61_code 1 = .ok (.bipush (-4), 2) := by decide +kernel
theorem dd_188_3 : decode prog_14_method_61_code 3 = .ok (.if_icmp .ne 7, 3) := by decide +kernel
theorem dd_188_6 : decode prog_14_method_61_code 6 = .ok (.iload_n 0, 1) := by decide +kernel
theorem dd_188_7 : decode prog_14_method_61_code 7 = .ok (.goto 8, 3) := by decide +kernel
theorem dd_188_10 : decode prog_14_method_61_code 10 = .ok (.iload_n 0, 1) := by decide +kernel
theorem dd_188_11 : decode prog_14_method_61_code 11 = .ok (.iconst 1, 1) := by decide +kernel
theorem dd_188_12 : decode prog_14_method_61_code 12 = .ok (.iload_n 1, 1) := by decide +kernel
theorem dd_188_13 : decode prog_14_method_61_code 13 = .ok (.ishl, 1) := by decide +kernel
theorem dd_188_14 : decode prog_14_method_61_code 14 = .ok (.ior, 1) := by decide +kernel
theorem dd_188_15 : decode prog_14_method_61_code 15 = .ok (.ireturn, 1) := by decide +kernel
theorem kb_188_0 : am_row mi_188 0 kr_188_0 := am_rs rfl (ok_iload_n (k := 1) dd_188_0 rfl rfl) (am_rs rfl (ok_bipush dd_188_1 bi_m4 rfl) (am_rn rfl (am_rs rfl (ok_icmp dd_188_3 (by decide) rfl) (am_rn rfl (am_rn rfl (am_rs rfl (ok_iload_n (k := 0) dd_188_6 rfl rfl) (am_rs rfl (ok_goto dd_188_7 (by decide)) (am_rz))))))))
theorem kb_188_1 : am_row mi_188 8 kr_188_1 := am_rn rfl (am_rn rfl (am_rs rfl (ok_iload_n (k := 0) dd_188_10 rfl rfl) (am_rs rfl (ok_iconst dd_188_11 ic_1 rfl) (am_rs rfl (ok_iload_n (k := 1) dd_188_12 rfl rfl) (am_rs rfl (ok_ishl dd_188_13 rfl) (am_rs rfl (ok_ior dd_188_14 rfl) (am_rs rfl (ok_iret dd_188_15 rfl) (am_rz))))))))
theorem ck_188 : am_rows mi_188 0 cd_188 := am_bs rfl kb_188_0 (am_bs rfl kb_188_1 (am_bz))
/-- OverAndBackModel.comes(IIII)V -/
noncomputable def kr_189_0 : List (Option am_Op) := [some (am_ild 1 1), some (am_ald0 0 2), some (am_gf 12 0 5), none, none, some (am_br2 .gt 54 8), none, none]
noncomputable def kr_189_1 : List (Option am_Op) := [some (am_psh (.retAddr 1024) 11), none, none, some (am_ild 1 12), some (am_bin am_mul 13), some (am_psh (.retAddr 256) 16), none, none]
noncomputable def kr_189_2 : List (Option am_Op) := [some (am_ild 2 17), some (am_bin am_mul 18), some (am_bin am_add 19), some (am_ild 3 20), some (am_bin am_add 21), some (am_ist 5 23), none, some (am_ald0 0 24)]
noncomputable def kr_189_3 : List (Option am_Op) := [some (am_gf 12 47 27), none, none, some (am_ild 5 29), none, some (am_ild 4 31), none, some (am_ald0 0 32)]
noncomputable def kr_189_4 : List (Option am_Op) := [some (am_gf 12 47 35), none, none, some (am_ild 5 37), none, some (am_ald 0 38), some (am_br2 .ge 46 41), none]
noncomputable def kr_189_5 : List (Option am_Op) := [none, some (am_ild 4 43), none, some (am_jmp 53), none, none, some (am_ald0 0 47), some (am_gf 12 47 50)]
noncomputable def kr_189_6 : List (Option am_Op) := [none, none, some (am_ild 5 52), none, some (am_ald 0 53), some (am_ast 0 (fun v => v) 54), some (am_vret)]
noncomputable def cd_189 : am_Cd := [kr_189_0, kr_189_1, kr_189_2, kr_189_3, kr_189_4, kr_189_5, kr_189_6]
theorem dd_189_0 : decode prog_14_method_60_code 0 = .ok (.iload_n 1, 1) := by decide +kernel
theorem dd_189_1 : decode prog_14_method_60_code 1 = .ok (.aload_n 0, 1) := by decide +kernel
theorem dd_189_2 : decode prog_14_method_60_code 2 = .ok (.getfield 7, 3) := by decide +kernel
theorem dd_189_5 : decode prog_14_method_60_code 5 = .ok (.if_icmp .gt 49, 3) := by decide +kernel
theorem dd_189_8 : decode prog_14_method_60_code 8 = .ok (.sipush 1024, 3) := by decide +kernel
theorem dd_189_11 : decode prog_14_method_60_code 11 = .ok (.iload_n 1, 1) := by decide +kernel
theorem dd_189_12 : decode prog_14_method_60_code 12 = .ok (.imul, 1) := by decide +kernel
theorem dd_189_13 : decode prog_14_method_60_code 13 = .ok (.sipush 256, 3) := by decide +kernel
theorem dd_189_16 : decode prog_14_method_60_code 16 = .ok (.iload_n 2, 1) := by decide +kernel
theorem dd_189_17 : decode prog_14_method_60_code 17 = .ok (.imul, 1) := by decide +kernel
theorem dd_189_18 : decode prog_14_method_60_code 18 = .ok (.iadd, 1) := by decide +kernel
theorem dd_189_19 : decode prog_14_method_60_code 19 = .ok (.iload_n 3, 1) := by decide +kernel
theorem dd_189_20 : decode prog_14_method_60_code 20 = .ok (.iadd, 1) := by decide +kernel
theorem dd_189_21 : decode prog_14_method_60_code 21 = .ok (.istore 5, 2) := by decide +kernel
theorem dd_189_23 : decode prog_14_method_60_code 23 = .ok (.aload_n 0, 1) := by decide +kernel
theorem dd_189_24 : decode prog_14_method_60_code 24 = .ok (.getfield 100, 3) := by decide +kernel
theorem dd_189_27 : decode prog_14_method_60_code 27 = .ok (.iload 5, 2) := by decide +kernel
theorem dd_189_29 : decode prog_14_method_60_code 29 = .ok (.iload 4, 2) := by decide +kernel
theorem dd_189_31 : decode prog_14_method_60_code 31 = .ok (.aload_n 0, 1) := by decide +kernel
theorem dd_189_32 : decode prog_14_method_60_code 32 = .ok (.getfield 100, 3) := by decide +kernel
theorem dd_189_35 : decode prog_14_method_60_code 35 = .ok (.iload 5, 2) := by decide +kernel
theorem dd_189_37 : decode prog_14_method_60_code 37 = .ok (.iaload, 1) := by decide +kernel
theorem dd_189_38 : decode prog_14_method_60_code 38 = .ok (.if_icmp .ge 8, 3) := by decide +kernel
theorem dd_189_41 : decode prog_14_method_60_code 41 = .ok (.iload 4, 2) := by decide +kernel
theorem dd_189_43 : decode prog_14_method_60_code 43 = .ok (.goto 10, 3) := by decide +kernel
theorem dd_189_46 : decode prog_14_method_60_code 46 = .ok (.aload_n 0, 1) := by decide +kernel
theorem dd_189_47 : decode prog_14_method_60_code 47 = .ok (.getfield 100, 3) := by decide +kernel
theorem dd_189_50 : decode prog_14_method_60_code 50 = .ok (.iload 5, 2) := by decide +kernel
theorem dd_189_52 : decode prog_14_method_60_code 52 = .ok (.iaload, 1) := by decide +kernel
theorem dd_189_53 : decode prog_14_method_60_code 53 = .ok (.iastore, 1) := by decide +kernel
theorem dd_189_54 : decode prog_14_method_60_code 54 = .ok (.return_, 1) := by decide +kernel
theorem kb_189_0 : am_row mi_189 0 kr_189_0 := am_rs rfl (ok_iload_n (k := 1) dd_189_0 rfl rfl) (am_rs rfl (ok_aload_n (k := 0) dd_189_1 rfl rfl) (am_rs rfl (ok_gf dd_189_2 rfl am_ck12 (by decide) (Or.inl w_935)) (am_rn rfl (am_rn rfl (am_rs rfl (ok_icmp dd_189_5 (by decide) rfl) (am_rn rfl (am_rn rfl (am_rz))))))))
theorem kb_189_1 : am_row mi_189 8 kr_189_1 := am_rs rfl (ok_sipush dd_189_8 si_1024 rfl) (am_rn rfl (am_rn rfl (am_rs rfl (ok_iload_n (k := 1) dd_189_11 rfl rfl) (am_rs rfl (ok_imul dd_189_12 rfl) (am_rs rfl (ok_sipush dd_189_13 si_256 rfl) (am_rn rfl (am_rn rfl (am_rz))))))))
theorem kb_189_2 : am_row mi_189 16 kr_189_2 := am_rs rfl (ok_iload_n (k := 2) dd_189_16 rfl rfl) (am_rs rfl (ok_imul dd_189_17 rfl) (am_rs rfl (ok_iadd dd_189_18 rfl) (am_rs rfl (ok_iload_n (k := 3) dd_189_19 rfl rfl) (am_rs rfl (ok_iadd dd_189_20 rfl) (am_rs rfl (ok_istore dd_189_21 rfl (by decide)) (am_rn rfl (am_rs rfl (ok_aload_n (k := 0) dd_189_23 rfl rfl) (am_rz))))))))
theorem kb_189_3 : am_row mi_189 24 kr_189_3 := am_rs rfl (ok_gf dd_189_24 rfl am_ck12 (by decide) (Or.inl w_982)) (am_rn rfl (am_rn rfl (am_rs rfl (ok_iload dd_189_27 rfl) (am_rn rfl (am_rs rfl (ok_iload dd_189_29 rfl) (am_rn rfl (am_rs rfl (ok_aload_n (k := 0) dd_189_31 rfl rfl) (am_rz))))))))
theorem kb_189_4 : am_row mi_189 32 kr_189_4 := am_rs rfl (ok_gf dd_189_32 rfl am_ck12 (by decide) (Or.inl w_982)) (am_rn rfl (am_rn rfl (am_rs rfl (ok_iload dd_189_35 rfl) (am_rn rfl (am_rs rfl (ok_iald dd_189_37 rfl) (am_rs rfl (ok_icmp dd_189_38 (by decide) rfl) (am_rn rfl (am_rz))))))))
theorem kb_189_5 : am_row mi_189 40 kr_189_5 := am_rn rfl (am_rs rfl (ok_iload dd_189_41 rfl) (am_rn rfl (am_rs rfl (ok_goto dd_189_43 (by decide)) (am_rn rfl (am_rn rfl (am_rs rfl (ok_aload_n (k := 0) dd_189_46 rfl rfl) (am_rs rfl (ok_gf dd_189_47 rfl am_ck12 (by decide) (Or.inl w_982)) (am_rz))))))))
theorem kb_189_6 : am_row mi_189 48 kr_189_6 := am_rn rfl (am_rn rfl (am_rs rfl (ok_iload dd_189_50 rfl) (am_rn rfl (am_rs rfl (ok_iald dd_189_52 rfl) (am_rs rfl (ok_iast dd_189_53 rfl) (am_rs rfl (ok_vret dd_189_54 rfl) (am_rz)))))))
theorem ck_189 : am_rows mi_189 0 cd_189 := am_bs rfl kb_189_0 (am_bs rfl kb_189_1 (am_bs rfl kb_189_2 (am_bs rfl kb_189_3 (am_bs rfl kb_189_4 (am_bs rfl kb_189_5 (am_bs rfl kb_189_6 (am_bz)))))))
/-- OverAndBackModel.findFew(I)V -/
noncomputable def kr_190_0 : List (Option am_Op) := [some (am_ald0 0 1), some (am_psh (.retAddr 7) 3), none, some (am_pf 12 48 0 6), none, none, some (am_ald0 0 7), some (am_psh (.retAddr 4294967292) 9)]
noncomputable def kr_190_1 : List (Option am_Op) := [none, some (am_pf 12 49 0 12), none, none, some (am_ald0 0 13), some (am_psh (.retAddr 4294967292) 15), none, some (am_pf 12 50 0 18)]
noncomputable def kr_190_2 : List (Option am_Op) := [none, none, some (am_psh (.retAddr 0) 19), some (am_ist 2 20), some (am_ild 2 21), some (am_psh (.retAddr 1024) 24), none, none]
noncomputable def kr_190_3 : List (Option am_Op) := [some (am_ald0 0 25), some (am_gf 12 0 28), none, none, some (am_psh (.retAddr 1) 29), some (am_bin am_add 30), some (am_bin am_mul 31), some (am_br2 .ge 151 34)]
noncomputable def kr_190_4 : List (Option am_Op) := [none, none, some (am_ald0 0 35), some (am_gf 12 47 38), none, none, some (am_ild 2 39), some (am_ald 0 40)]
noncomputable def kr_190_5 : List (Option am_Op) := [some (am_psh (.retAddr 6) 42), none, some (am_br2 .gt 145 45), none, none, some (am_ild 1 46), some (am_ald0 0 47), some (am_ild 2 48)]
noncomputable def kr_190_6 : List (Option am_Op) := [some (am_psh (.retAddr 256) 51), none, none, some (am_bin2 Nat.mod 52), some (am_cv 162 1 12 55), none, none, some (am_psh (.retAddr 4294967295) 56)]
noncomputable def kr_190_7 : List (Option am_Op) := [some (am_bin Nat.xor 57), some (am_bin Nat.land 58), some (am_br1 .ne 145 61), none, none, some (am_ald0 0 62), some (am_ald0 0 63), some (am_gf 12 50 66)]
noncomputable def kr_190_8 : List (Option am_Op) := [none, none, some (am_psh (.retAddr 4294967292) 68), none, some (am_br2 .ne 79 71), none, none, some (am_ild 2 72)]
noncomputable def kr_190_9 : List (Option am_Op) := [some (am_psh (.retAddr 1024) 75), none, none, some (am_bin2 Nat.div 76), some (am_jmp 83), none, none, some (am_ald0 0 80)]
noncomputable def kr_190_10 : List (Option am_Op) := [some (am_gf 12 50 83), none, none, some (am_pf 12 50 0 86), none, none, some (am_ald0 0 87), some (am_ald0 0 88)]
noncomputable def kr_190_11 : List (Option am_Op) := [some (am_gf 12 47 91), none, none, some (am_ild 2 92), some (am_ald 0 93), some (am_ald0 0 94), some (am_gf 12 48 97), none]
noncomputable def kr_190_12 : List (Option am_Op) := [none, some (am_br2 .ge 108 100), none, none, some (am_ild 2 101), some (am_psh (.retAddr 1024) 104), none, none]
noncomputable def kr_190_13 : List (Option am_Op) := [some (am_bin2 Nat.div 105), some (am_jmp 112), none, none, some (am_ald0 0 109), some (am_gf 12 49 112), none, none]
noncomputable def kr_190_14 : List (Option am_Op) := [some (am_pf 12 49 0 115), none, none, some (am_ald0 0 116), some (am_ald0 0 117), some (am_gf 12 47 120), none, none]
noncomputable def kr_190_15 : List (Option am_Op) := [some (am_ild 2 121), some (am_ald 0 122), some (am_ald0 0 123), some (am_gf 12 48 126), none, none, some (am_br2 .ge 138 129), none]
noncomputable def kr_190_16 : List (Option am_Op) := [none, some (am_ald0 0 130), some (am_gf 12 47 133), none, none, some (am_ild 2 134), some (am_ald 0 135), some (am_jmp 142)]
noncomputable def kr_190_17 : List (Option am_Op) := [none, none, some (am_ald0 0 139), some (am_gf 12 48 142), none, none, some (am_pf 12 48 0 145), none]
noncomputable def kr_190_18 : List (Option am_Op) := [none, some (am_inc 2 1 148), none, none, some (am_jmp 20), none, none, some (am_vret)]
noncomputable def cd_190 : am_Cd := [kr_190_0, kr_190_1, kr_190_2, kr_190_3, kr_190_4, kr_190_5, kr_190_6, kr_190_7, kr_190_8, kr_190_9, kr_190_10, kr_190_11, kr_190_12, kr_190_13, kr_190_14, kr_190_15, kr_190_16, kr_190_17, kr_190_18]
theorem dd_190_0 : decode prog_14_method_63_code 0 = .ok (.aload_n 0, 1) := by decide +kernel
theorem dd_190_1 : decode prog_14_method_63_code 1 = .ok (.bipush 7, 2) := by decide +kernel
theorem dd_190_3 : decode prog_14_method_63_code 3 = .ok (.putfield 319, 3) := by decide +kernel
theorem dd_190_6 : decode prog_14_method_63_code 6 = .ok (.aload_n 0, 1) := by decide +kernel
theorem dd_190_7 : decode prog_14_method_63_code 7 = .ok (.bipush (-4), 2) := by decide +kernel
theorem dd_190_9 : decode prog_14_method_63_code 9 = .ok (.putfield 322, 3) := by decide +kernel
theorem dd_190_12 : decode prog_14_method_63_code 12 = .ok (.aload_n 0, 1) := by decide +kernel
theorem dd_190_13 : decode prog_14_method_63_code 13 = .ok (.bipush (-4), 2) := by decide +kernel
theorem dd_190_15 : decode prog_14_method_63_code 15 = .ok (.putfield 325, 3) := by decide +kernel
theorem dd_190_18 : decode prog_14_method_63_code 18 = .ok (.iconst 0, 1) := by decide +kernel
theorem dd_190_19 : decode prog_14_method_63_code 19 = .ok (.istore_n 2, 1) := by decide +kernel
theorem dd_190_20 : decode prog_14_method_63_code 20 = .ok (.iload_n 2, 1) := by decide +kernel
theorem dd_190_21 : decode prog_14_method_63_code 21 = .ok (.sipush 1024, 3) := by decide +kernel
theorem dd_190_24 : decode prog_14_method_63_code 24 = .ok (.aload_n 0, 1) := by decide +kernel
theorem dd_190_25 : decode prog_14_method_63_code 25 = .ok (.getfield 7, 3) := by decide +kernel
theorem dd_190_28 : decode prog_14_method_63_code 28 = .ok (.iconst 1, 1) := by decide +kernel
theorem dd_190_29 : decode prog_14_method_63_code 29 = .ok (.iadd, 1) := by decide +kernel
theorem dd_190_30 : decode prog_14_method_63_code 30 = .ok (.imul, 1) := by decide +kernel
theorem dd_190_31 : decode prog_14_method_63_code 31 = .ok (.if_icmp .ge 120, 3) := by decide +kernel
theorem dd_190_34 : decode prog_14_method_63_code 34 = .ok (.aload_n 0, 1) := by decide +kernel
theorem dd_190_35 : decode prog_14_method_63_code 35 = .ok (.getfield 100, 3) := by decide +kernel
theorem dd_190_38 : decode prog_14_method_63_code 38 = .ok (.iload_n 2, 1) := by decide +kernel
theorem dd_190_39 : decode prog_14_method_63_code 39 = .ok (.iaload, 1) := by decide +kernel
theorem dd_190_40 : decode prog_14_method_63_code 40 = .ok (.bipush 6, 2) := by decide +kernel
theorem dd_190_42 : decode prog_14_method_63_code 42 = .ok (.if_icmp .gt 103, 3) := by decide +kernel
theorem dd_190_45 : decode prog_14_method_63_code 45 = .ok (.iload_n 1, 1) := by decide +kernel
theorem dd_190_46 : decode prog_14_method_63_code 46 = .ok (.aload_n 0, 1) := by decide +kernel
theorem dd_190_47 : decode prog_14_method_63_code 47 = .ok (.iload_n 2, 1) := by decide +kernel
theorem dd_190_48 : decode prog_14_method_63_code 48 = .ok (.sipush 256, 3) := by decide +kernel
theorem dd_190_51 : decode prog_14_method_63_code 51 = .ok (.irem, 1) := by decide +kernel
theorem dd_190_52 : decode prog_14_method_63_code 52 = .ok (.invokevirtual 253, 3) := by decide +kernel
theorem dd_190_55 : decode prog_14_method_63_code 55 = .ok (.iconst (-1), 1) := by decide +kernel
theorem dd_190_56 : decode prog_14_method_63_code 56 = .ok (.ixor, 1) := by decide +kernel
theorem dd_190_57 : decode prog_14_method_63_code 57 = .ok (.iand, 1) := by decide +kernel
theorem dd_190_58 : decode prog_14_method_63_code 58 = .ok (.ifCond .ne 87, 3) := by decide +kernel
theorem dd_190_61 : decode prog_14_method_63_code 61 = .ok (.aload_n 0, 1) := by decide +kernel
theorem dd_190_62 : decode prog_14_method_63_code 62 = .ok (.aload_n 0, 1) := by decide +kernel
theorem dd_190_63 : decode prog_14_method_63_code 63 = .ok (.getfield 325, 3) := by decide +kernel
theorem dd_190_66 : decode prog_14_method_63_code 66 = .ok (.bipush (-4), 2) := by decide +kernel
theorem dd_190_68 : decode prog_14_method_63_code 68 = .ok (.if_icmp .ne 11, 3) := by decide +kernel
theorem dd_190_71 : decode prog_14_method_63_code 71 = .ok (.iload_n 2, 1) := by decide +kernel
theorem dd_190_72 : decode prog_14_method_63_code 72 = .ok (.sipush 1024, 3) := by decide +kernel
theorem dd_190_75 : decode prog_14_method_63_code 75 = .ok (.idiv, 1) := by decide +kernel
theorem dd_190_76 : decode prog_14_method_63_code 76 = .ok (.goto 7, 3) := by decide +kernel
theorem dd_190_79 : decode prog_14_method_63_code 79 = .ok (.aload_n 0, 1) := by decide +kernel
theorem dd_190_80 : decode prog_14_method_63_code 80 = .ok (.getfield 325, 3) := by decide +kernel
theorem dd_190_83 : decode prog_14_method_63_code 83 = .ok (.putfield 325, 3) := by decide +kernel
theorem dd_190_86 : decode prog_14_method_63_code 86 = .ok (.aload_n 0, 1) := by decide +kernel
theorem dd_190_87 : decode prog_14_method_63_code 87 = .ok (.aload_n 0, 1) := by decide +kernel
theorem dd_190_88 : decode prog_14_method_63_code 88 = .ok (.getfield 100, 3) := by decide +kernel
theorem dd_190_91 : decode prog_14_method_63_code 91 = .ok (.iload_n 2, 1) := by decide +kernel
theorem dd_190_92 : decode prog_14_method_63_code 92 = .ok (.iaload, 1) := by decide +kernel
theorem dd_190_93 : decode prog_14_method_63_code 93 = .ok (.aload_n 0, 1) := by decide +kernel
theorem dd_190_94 : decode prog_14_method_63_code 94 = .ok (.getfield 319, 3) := by decide +kernel
theorem dd_190_97 : decode prog_14_method_63_code 97 = .ok (.if_icmp .ge 11, 3) := by decide +kernel
theorem dd_190_100 : decode prog_14_method_63_code 100 = .ok (.iload_n 2, 1) := by decide +kernel
theorem dd_190_101 : decode prog_14_method_63_code 101 = .ok (.sipush 1024, 3) := by decide +kernel
theorem dd_190_104 : decode prog_14_method_63_code 104 = .ok (.idiv, 1) := by decide +kernel
theorem dd_190_105 : decode prog_14_method_63_code 105 = .ok (.goto 7, 3) := by decide +kernel
theorem dd_190_108 : decode prog_14_method_63_code 108 = .ok (.aload_n 0, 1) := by decide +kernel
theorem dd_190_109 : decode prog_14_method_63_code 109 = .ok (.getfield 322, 3) := by decide +kernel
theorem dd_190_112 : decode prog_14_method_63_code 112 = .ok (.putfield 322, 3) := by decide +kernel
theorem dd_190_115 : decode prog_14_method_63_code 115 = .ok (.aload_n 0, 1) := by decide +kernel
theorem dd_190_116 : decode prog_14_method_63_code 116 = .ok (.aload_n 0, 1) := by decide +kernel
theorem dd_190_117 : decode prog_14_method_63_code 117 = .ok (.getfield 100, 3) := by decide +kernel
theorem dd_190_120 : decode prog_14_method_63_code 120 = .ok (.iload_n 2, 1) := by decide +kernel
theorem dd_190_121 : decode prog_14_method_63_code 121 = .ok (.iaload, 1) := by decide +kernel
theorem dd_190_122 : decode prog_14_method_63_code 122 = .ok (.aload_n 0, 1) := by decide +kernel
theorem dd_190_123 : decode prog_14_method_63_code 123 = .ok (.getfield 319, 3) := by decide +kernel
theorem dd_190_126 : decode prog_14_method_63_code 126 = .ok (.if_icmp .ge 12, 3) := by decide +kernel
theorem dd_190_129 : decode prog_14_method_63_code 129 = .ok (.aload_n 0, 1) := by decide +kernel
theorem dd_190_130 : decode prog_14_method_63_code 130 = .ok (.getfield 100, 3) := by decide +kernel
theorem dd_190_133 : decode prog_14_method_63_code 133 = .ok (.iload_n 2, 1) := by decide +kernel
theorem dd_190_134 : decode prog_14_method_63_code 134 = .ok (.iaload, 1) := by decide +kernel
theorem dd_190_135 : decode prog_14_method_63_code 135 = .ok (.goto 7, 3) := by decide +kernel
theorem dd_190_138 : decode prog_14_method_63_code 138 = .ok (.aload_n 0, 1) := by decide +kernel
theorem dd_190_139 : decode prog_14_method_63_code 139 = .ok (.getfield 319, 3) := by decide +kernel
theorem dd_190_142 : decode prog_14_method_63_code 142 = .ok (.putfield 319, 3) := by decide +kernel
theorem dd_190_145 : decode prog_14_method_63_code 145 = .ok (.iinc 2 1, 3) := by decide +kernel
theorem dd_190_148 : decode prog_14_method_63_code 148 = .ok (.goto (-128), 3) := by decide +kernel
theorem dd_190_151 : decode prog_14_method_63_code 151 = .ok (.return_, 1) := by decide +kernel
theorem kb_190_0 : am_row mi_190 0 kr_190_0 := am_rs rfl (ok_aload_n (k := 0) dd_190_0 rfl rfl) (am_rs rfl (ok_bipush dd_190_1 bi_7 rfl) (am_rn rfl (am_rs rfl (ok_pf dd_190_3 rfl am_ck12 (by decide) (Or.inl w_983) (Or.inl rfl) rfl) (am_rn rfl (am_rn rfl (am_rs rfl (ok_aload_n (k := 0) dd_190_6 rfl rfl) (am_rs rfl (ok_bipush dd_190_7 bi_m4 rfl) (am_rz))))))))
theorem kb_190_1 : am_row mi_190 8 kr_190_1 := am_rn rfl (am_rs rfl (ok_pf dd_190_9 rfl am_ck12 (by decide) (Or.inl w_984) (Or.inl rfl) rfl) (am_rn rfl (am_rn rfl (am_rs rfl (ok_aload_n (k := 0) dd_190_12 rfl rfl) (am_rs rfl (ok_bipush dd_190_13 bi_m4 rfl) (am_rn rfl (am_rs rfl (ok_pf dd_190_15 rfl am_ck12 (by decide) (Or.inl w_985) (Or.inl rfl) rfl) (am_rz))))))))
theorem kb_190_2 : am_row mi_190 16 kr_190_2 := am_rn rfl (am_rn rfl (am_rs rfl (ok_iconst dd_190_18 ic_0 rfl) (am_rs rfl (ok_istore_n (k := 2) dd_190_19 rfl rfl (by decide)) (am_rs rfl (ok_iload_n (k := 2) dd_190_20 rfl rfl) (am_rs rfl (ok_sipush dd_190_21 si_1024 rfl) (am_rn rfl (am_rn rfl (am_rz))))))))
theorem kb_190_3 : am_row mi_190 24 kr_190_3 := am_rs rfl (ok_aload_n (k := 0) dd_190_24 rfl rfl) (am_rs rfl (ok_gf dd_190_25 rfl am_ck12 (by decide) (Or.inl w_935)) (am_rn rfl (am_rn rfl (am_rs rfl (ok_iconst dd_190_28 ic_1 rfl) (am_rs rfl (ok_iadd dd_190_29 rfl) (am_rs rfl (ok_imul dd_190_30 rfl) (am_rs rfl (ok_icmp dd_190_31 (by decide) rfl) (am_rz))))))))
theorem kb_190_4 : am_row mi_190 32 kr_190_4 := am_rn rfl (am_rn rfl (am_rs rfl (ok_aload_n (k := 0) dd_190_34 rfl rfl) (am_rs rfl (ok_gf dd_190_35 rfl am_ck12 (by decide) (Or.inl w_982)) (am_rn rfl (am_rn rfl (am_rs rfl (ok_iload_n (k := 2) dd_190_38 rfl rfl) (am_rs rfl (ok_iald dd_190_39 rfl) (am_rz))))))))
theorem kb_190_5 : am_row mi_190 40 kr_190_5 := am_rs rfl (ok_bipush dd_190_40 bi_6 rfl) (am_rn rfl (am_rs rfl (ok_icmp dd_190_42 (by decide) rfl) (am_rn rfl (am_rn rfl (am_rs rfl (ok_iload_n (k := 1) dd_190_45 rfl rfl) (am_rs rfl (ok_aload_n (k := 0) dd_190_46 rfl rfl) (am_rs rfl (ok_iload_n (k := 2) dd_190_47 rfl rfl) (am_rz))))))))
theorem kb_190_6 : am_row mi_190 48 kr_190_6 := am_rs rfl (ok_sipush dd_190_48 si_256 rfl) (am_rn rfl (am_rn rfl (am_rs rfl (ok_irem dd_190_51 rfl) (am_rs rfl (ok_cv (M' := mi_162) dd_190_52 rfl rfl w_1218 w_1220 ps_162 ⟨lk_162.1, lk_162.2.1, lk_162.2.2, by decide, by decide⟩ rfl) (am_rn rfl (am_rn rfl (am_rs rfl (ok_iconst dd_190_55 ic_m1 rfl) (am_rz))))))))
theorem kb_190_7 : am_row mi_190 56 kr_190_7 := am_rs rfl (ok_ixor dd_190_56 rfl) (am_rs rfl (ok_iand dd_190_57 rfl) (am_rs rfl (ok_ifc dd_190_58 (by decide) rfl) (am_rn rfl (am_rn rfl (am_rs rfl (ok_aload_n (k := 0) dd_190_61 rfl rfl) (am_rs rfl (ok_aload_n (k := 0) dd_190_62 rfl rfl) (am_rs rfl (ok_gf dd_190_63 rfl am_ck12 (by decide) (Or.inl w_985)) (am_rz))))))))
theorem kb_190_8 : am_row mi_190 64 kr_190_8 := am_rn rfl (am_rn rfl (am_rs rfl (ok_bipush dd_190_66 bi_m4 rfl) (am_rn rfl (am_rs rfl (ok_icmp dd_190_68 (by decide) rfl) (am_rn rfl (am_rn rfl (am_rs rfl (ok_iload_n (k := 2) dd_190_71 rfl rfl) (am_rz))))))))
theorem kb_190_9 : am_row mi_190 72 kr_190_9 := am_rs rfl (ok_sipush dd_190_72 si_1024 rfl) (am_rn rfl (am_rn rfl (am_rs rfl (ok_idiv dd_190_75 rfl) (am_rs rfl (ok_goto dd_190_76 (by decide)) (am_rn rfl (am_rn rfl (am_rs rfl (ok_aload_n (k := 0) dd_190_79 rfl rfl) (am_rz))))))))
theorem kb_190_10 : am_row mi_190 80 kr_190_10 := am_rs rfl (ok_gf dd_190_80 rfl am_ck12 (by decide) (Or.inl w_985)) (am_rn rfl (am_rn rfl (am_rs rfl (ok_pf dd_190_83 rfl am_ck12 (by decide) (Or.inl w_985) (Or.inl rfl) rfl) (am_rn rfl (am_rn rfl (am_rs rfl (ok_aload_n (k := 0) dd_190_86 rfl rfl) (am_rs rfl (ok_aload_n (k := 0) dd_190_87 rfl rfl) (am_rz))))))))
theorem kb_190_11 : am_row mi_190 88 kr_190_11 := am_rs rfl (ok_gf dd_190_88 rfl am_ck12 (by decide) (Or.inl w_982)) (am_rn rfl (am_rn rfl (am_rs rfl (ok_iload_n (k := 2) dd_190_91 rfl rfl) (am_rs rfl (ok_iald dd_190_92 rfl) (am_rs rfl (ok_aload_n (k := 0) dd_190_93 rfl rfl) (am_rs rfl (ok_gf dd_190_94 rfl am_ck12 (by decide) (Or.inl w_983)) (am_rn rfl (am_rz))))))))
theorem kb_190_12 : am_row mi_190 96 kr_190_12 := am_rn rfl (am_rs rfl (ok_icmp dd_190_97 (by decide) rfl) (am_rn rfl (am_rn rfl (am_rs rfl (ok_iload_n (k := 2) dd_190_100 rfl rfl) (am_rs rfl (ok_sipush dd_190_101 si_1024 rfl) (am_rn rfl (am_rn rfl (am_rz))))))))
theorem kb_190_13 : am_row mi_190 104 kr_190_13 := am_rs rfl (ok_idiv dd_190_104 rfl) (am_rs rfl (ok_goto dd_190_105 (by decide)) (am_rn rfl (am_rn rfl (am_rs rfl (ok_aload_n (k := 0) dd_190_108 rfl rfl) (am_rs rfl (ok_gf dd_190_109 rfl am_ck12 (by decide) (Or.inl w_984)) (am_rn rfl (am_rn rfl (am_rz))))))))
theorem kb_190_14 : am_row mi_190 112 kr_190_14 := am_rs rfl (ok_pf dd_190_112 rfl am_ck12 (by decide) (Or.inl w_984) (Or.inl rfl) rfl) (am_rn rfl (am_rn rfl (am_rs rfl (ok_aload_n (k := 0) dd_190_115 rfl rfl) (am_rs rfl (ok_aload_n (k := 0) dd_190_116 rfl rfl) (am_rs rfl (ok_gf dd_190_117 rfl am_ck12 (by decide) (Or.inl w_982)) (am_rn rfl (am_rn rfl (am_rz))))))))
theorem kb_190_15 : am_row mi_190 120 kr_190_15 := am_rs rfl (ok_iload_n (k := 2) dd_190_120 rfl rfl) (am_rs rfl (ok_iald dd_190_121 rfl) (am_rs rfl (ok_aload_n (k := 0) dd_190_122 rfl rfl) (am_rs rfl (ok_gf dd_190_123 rfl am_ck12 (by decide) (Or.inl w_983)) (am_rn rfl (am_rn rfl (am_rs rfl (ok_icmp dd_190_126 (by decide) rfl) (am_rn rfl (am_rz))))))))
theorem kb_190_16 : am_row mi_190 128 kr_190_16 := am_rn rfl (am_rs rfl (ok_aload_n (k := 0) dd_190_129 rfl rfl) (am_rs rfl (ok_gf dd_190_130 rfl am_ck12 (by decide) (Or.inl w_982)) (am_rn rfl (am_rn rfl (am_rs rfl (ok_iload_n (k := 2) dd_190_133 rfl rfl) (am_rs rfl (ok_iald dd_190_134 rfl) (am_rs rfl (ok_goto dd_190_135 (by decide)) (am_rz))))))))
theorem kb_190_17 : am_row mi_190 136 kr_190_17 := am_rn rfl (am_rn rfl (am_rs rfl (ok_aload_n (k := 0) dd_190_138 rfl rfl) (am_rs rfl (ok_gf dd_190_139 rfl am_ck12 (by decide) (Or.inl w_983)) (am_rn rfl (am_rn rfl (am_rs rfl (ok_pf dd_190_142 rfl am_ck12 (by decide) (Or.inl w_983) (Or.inl rfl) rfl) (am_rn rfl (am_rz))))))))
theorem kb_190_18 : am_row mi_190 144 kr_190_18 := am_rn rfl (am_rs rfl (ok_iinc dd_190_145 ic_1 rfl (by decide)) (am_rn rfl (am_rn rfl (am_rs rfl (ok_goto dd_190_148 (by decide)) (am_rn rfl (am_rn rfl (am_rs rfl (ok_vret dd_190_151 rfl) (am_rz))))))))
theorem ck_190 : am_rows mi_190 0 cd_190 := am_bs rfl kb_190_0 (am_bs rfl kb_190_1 (am_bs rfl kb_190_2 (am_bs rfl kb_190_3 (am_bs rfl kb_190_4 (am_bs rfl kb_190_5 (am_bs rfl kb_190_6 (am_bs rfl kb_190_7 (am_bs rfl kb_190_8 (am_bs rfl kb_190_9 (am_bs rfl kb_190_10 (am_bs rfl kb_190_11 (am_bs rfl kb_190_12 (am_bs rfl kb_190_13 (am_bs rfl kb_190_14 (am_bs rfl kb_190_15 (am_bs rfl kb_190_16 (am_bs rfl kb_190_17 (am_bs rfl kb_190_18 (am_bz)))))))))))))))))))
/-- OverAndBackModel.soonest(II)I -/
noncomputable def kr_191_0 : List (Option am_Op) := [some (am_ald0 0 1), some (am_ild 1 2), some (am_cv 153 1 12 5), none, none, some (am_br1 .eq 15 8), none, none]
noncomputable def kr_191_1 : List (Option am_Op) := [some (am_ild 2 9), some (am_cs 161 1 12), none, none, some (am_br1 .ne 17 15), none, none, some (am_psh (.retAddr 4294967295) 16)]
noncomputable def kr_191_2 : List (Option am_Op) := [some (am_iret), some (am_ald0 0 18), some (am_psh (.retAddr 0) 19), some (am_psh (.retAddr 4294967292) 21), none, some (am_cv 155 2 12 24), none, none]
noncomputable def kr_191_3 : List (Option am_Op) := [some (am_ald0 0 25), some (am_ild 1 26), some (am_cv 187 1 12 29), none, none, some (am_ald0 0 30), some (am_ild 2 31), some (am_cv 190 1 12 34)]
noncomputable def kr_191_4 : List (Option am_Op) := [none, none, some (am_ald0 0 35), some (am_gf 12 50 38), none, none, some (am_iret)]
noncomputable def cd_191 : am_Cd := [kr_191_0, kr_191_1, kr_191_2, kr_191_3, kr_191_4]
theorem dd_191_0 : decode prog_14_method_65_code 0 = .ok (.aload_n 0, 1) := by decide +kernel
theorem dd_191_1 : decode prog_14_method_65_code 1 = .ok (.iload_n 1, 1) := by decide +kernel
theorem dd_191_2 : decode prog_14_method_65_code 2 = .ok (.invokevirtual 240, 3) := by decide +kernel
theorem dd_191_5 : decode prog_14_method_65_code 5 = .ok (.ifCond .eq 10, 3) := by decide +kernel
theorem dd_191_8 : decode prog_14_method_65_code 8 = .ok (.iload_n 2, 1) := by decide +kernel
theorem dd_191_9 : decode prog_14_method_65_code 9 = .ok (.invokestatic 250, 3) := by decide +kernel
theorem dd_191_12 : decode prog_14_method_65_code 12 = .ok (.ifCond .ne 5, 3) := by decide +kernel
theorem dd_191_15 : decode prog_14_method_65_code 15 = .ok (.iconst (-1), 1) := by decide +kernel
theorem dd_191_16 : decode prog_14_method_65_code 16 = .ok (.ireturn, 1) := by decide +kernel
theorem dd_191_17 : decode prog_14_method_65_code 17 = .ok (.aload_n 0, 1) := by decide +kernel
theorem dd_191_18 : decode prog_14_method_65_code 18 = .ok (.iconst 0, 1) := by decide +kernel
theorem dd_191_19 : decode prog_14_method_65_code 19 = .ok (.bipush (-4), 2) := by decide +kernel
theorem dd_191_21 : decode prog_14_method_65_code 21 = .ok (.invokevirtual 246, 3) := by decide +kernel
theorem dd_191_24 : decode prog_14_method_65_code 24 = .ok (.aload_n 0, 1) := by decide +kernel
theorem dd_191_25 : decode prog_14_method_65_code 25 = .ok (.iload_n 1, 1) := by decide +kernel
theorem dd_191_26 : decode prog_14_method_65_code 26 = .ok (.invokevirtual 328, 3) := by decide +kernel
theorem dd_191_29 : decode prog_14_method_65_code 29 = .ok (.aload_n 0, 1) := by decide +kernel
theorem dd_191_30 : decode prog_14_method_65_code 30 = .ok (.iload_n 2, 1) := by decide +kernel
theorem dd_191_31 : decode prog_14_method_65_code 31 = .ok (.invokevirtual 331, 3) := by decide +kernel
theorem dd_191_34 : decode prog_14_method_65_code 34 = .ok (.aload_n 0, 1) := by decide +kernel
theorem dd_191_35 : decode prog_14_method_65_code 35 = .ok (.getfield 325, 3) := by decide +kernel
theorem dd_191_38 : decode prog_14_method_65_code 38 = .ok (.ireturn, 1) := by decide +kernel
theorem kb_191_0 : am_row mi_191 0 kr_191_0 := am_rs rfl (ok_aload_n (k := 0) dd_191_0 rfl rfl) (am_rs rfl (ok_iload_n (k := 1) dd_191_1 rfl rfl) (am_rs rfl (ok_cv (M' := mi_153) dd_191_2 rfl rfl w_1184 w_1186 ps_153 ⟨lk_153.1, lk_153.2.1, lk_153.2.2, by decide, by decide⟩ rfl) (am_rn rfl (am_rn rfl (am_rs rfl (ok_ifc dd_191_5 (by decide) rfl) (am_rn rfl (am_rn rfl (am_rz))))))))
theorem kb_191_1 : am_row mi_191 8 kr_191_1 := am_rs rfl (ok_iload_n (k := 2) dd_191_8 rfl rfl) (am_rs rfl (ok_cs (M' := mi_161) dd_191_9 rfl rfl w_1215 w_1216 ⟨lk_161.1, lk_161.2.1, lk_161.2.2, by decide, by decide⟩) (am_rn rfl (am_rn rfl (am_rs rfl (ok_ifc dd_191_12 (by decide) rfl) (am_rn rfl (am_rn rfl (am_rs rfl (ok_iconst dd_191_15 ic_m1 rfl) (am_rz))))))))
theorem kb_191_2 : am_row mi_191 16 kr_191_2 := am_rs rfl (ok_iret dd_191_16 rfl) (am_rs rfl (ok_aload_n (k := 0) dd_191_17 rfl rfl) (am_rs rfl (ok_iconst dd_191_18 ic_0 rfl) (am_rs rfl (ok_bipush dd_191_19 bi_m4 rfl) (am_rn rfl (am_rs rfl (ok_cv (M' := mi_155) dd_191_21 rfl rfl w_1192 w_1194 ps_155 ⟨lk_155.1, lk_155.2.1, lk_155.2.2, by decide, by decide⟩ rfl) (am_rn rfl (am_rn rfl (am_rz))))))))
theorem kb_191_3 : am_row mi_191 24 kr_191_3 := am_rs rfl (ok_aload_n (k := 0) dd_191_24 rfl rfl) (am_rs rfl (ok_iload_n (k := 1) dd_191_25 rfl rfl) (am_rs rfl (ok_cv (M' := mi_187) dd_191_26 rfl rfl w_1318 w_1320 ps_187 ⟨lk_187.1, lk_187.2.1, lk_187.2.2, by decide, by decide⟩ rfl) (am_rn rfl (am_rn rfl (am_rs rfl (ok_aload_n (k := 0) dd_191_29 rfl rfl) (am_rs rfl (ok_iload_n (k := 2) dd_191_30 rfl rfl) (am_rs rfl (ok_cv (M' := mi_190) dd_191_31 rfl rfl w_1329 w_1331 ps_190 ⟨lk_190.1, lk_190.2.1, lk_190.2.2, by decide, by decide⟩ rfl) (am_rz))))))))
theorem kb_191_4 : am_row mi_191 32 kr_191_4 := am_rn rfl (am_rn rfl (am_rs rfl (ok_aload_n (k := 0) dd_191_34 rfl rfl) (am_rs rfl (ok_gf dd_191_35 rfl am_ck12 (by decide) (Or.inl w_985)) (am_rn rfl (am_rn rfl (am_rs rfl (ok_iret dd_191_38 rfl) (am_rz)))))))
theorem ck_191 : am_rows mi_191 0 cd_191 := am_bs rfl kb_191_0 (am_bs rfl kb_191_1 (am_bs rfl kb_191_2 (am_bs rfl kb_191_3 (am_bs rfl kb_191_4 (am_bz)))))
/-- OverAndBackModel.ask(II)I -/
noncomputable def kr_192_0 : List (Option am_Op) := [some (am_ild 1 1), some (am_cs 161 1 4), none, none, some (am_br1 .eq 14 7), none, none, some (am_ild 2 8)]
noncomputable def kr_192_1 : List (Option am_Op) := [some (am_cs 161 1 11), none, none, some (am_br1 .ne 16 14), none, none, some (am_psh (.retAddr 4294967295) 15), some (am_iret)]
noncomputable def kr_192_2 : List (Option am_Op) := [some (am_ald0 0 17), some (am_ild 1 18), some (am_cv 162 1 12 21), none, none, some (am_ist 3 22), some (am_psh (.retAddr 4294967292) 24), none]
noncomputable def kr_192_3 : List (Option am_Op) := [some (am_ist 4 26), none, some (am_psh (.retAddr 0) 27), some (am_ist 5 29), none, some (am_ild 5 31), none, some (am_psh (.retAddr 256) 34)]
noncomputable def kr_192_4 : List (Option am_Op) := [none, none, some (am_br2 .ge 106 37), none, none, some (am_ild 5 39), none, some (am_ild 3 40)]
noncomputable def kr_192_5 : List (Option am_Op) := [some (am_bin Nat.land 41), some (am_br1 .ne 68 44), none, none, some (am_ild 4 46), none, some (am_psh (.retAddr 4294967292) 48), none]
noncomputable def kr_192_6 : List (Option am_Op) := [some (am_br2 .eq 64 51), none, none, some (am_ild 5 53), none, some (am_cs 193 1 56), none, none]
noncomputable def kr_192_7 : List (Option am_Op) := [some (am_ild 4 58), none, some (am_cs 193 1 61), none, none, some (am_br2 .ge 68 64), none, none]
noncomputable def kr_192_8 : List (Option am_Op) := [some (am_psh (.retAddr 1) 65), some (am_jmp 69), none, none, some (am_psh (.retAddr 0) 69), some (am_ist 6 71), none, some (am_ild 6 73)]
noncomputable def kr_192_9 : List (Option am_Op) := [none, some (am_br1 .eq 96 76), none, none, some (am_ild 2 77), some (am_ald0 0 78), some (am_ild 3 79), some (am_ild 5 81)]
noncomputable def kr_192_10 : List (Option am_Op) := [none, some (am_bin Nat.lor 82), some (am_cv 162 1 12 85), none, none, some (am_psh (.retAddr 4294967295) 86), some (am_bin Nat.xor 87), some (am_bin Nat.land 88)]
noncomputable def kr_192_11 : List (Option am_Op) := [some (am_br1 .ne 96 91), none, none, some (am_ild 5 93), none, some (am_jmp 98), none, none]
noncomputable def kr_192_12 : List (Option am_Op) := [some (am_ild 4 98), none, some (am_ist 4 100), none, some (am_inc 5 1 103), none, none, some (am_jmp 29)]
noncomputable def kr_192_13 : List (Option am_Op) := [none, none, some (am_ild 4 108), none, some (am_iret)]
noncomputable def cd_192 : am_Cd := [kr_192_0, kr_192_1, kr_192_2, kr_192_3, kr_192_4, kr_192_5, kr_192_6, kr_192_7, kr_192_8, kr_192_9, kr_192_10, kr_192_11, kr_192_12, kr_192_13]
theorem dd_192_0 : decode prog_14_method_66_code 0 = .ok (.iload_n 1, 1) := by decide +kernel
theorem dd_192_1 : decode prog_14_method_66_code 1 = .ok (.invokestatic 250, 3) := by decide +kernel
theorem dd_192_4 : decode prog_14_method_66_code 4 = .ok (.ifCond .eq 10, 3) := by decide +kernel
theorem dd_192_7 : decode prog_14_method_66_code 7 = .ok (.iload_n 2, 1) := by decide +kernel
theorem dd_192_8 : decode prog_14_method_66_code 8 = .ok (.invokestatic 250, 3) := by decide +kernel
theorem dd_192_11 : decode prog_14_method_66_code 11 = .ok (.ifCond .ne 5, 3) := by decide +kernel
theorem dd_192_14 : decode prog_14_method_66_code 14 = .ok (.iconst (-1), 1) := by decide +kernel
theorem dd_192_15 : decode prog_14_method_66_code 15 = .ok (.ireturn, 1) := by decide +kernel
theorem dd_192_16 : decode prog_14_method_66_code 16 = .ok (.aload_n 0, 1) := by decide +kernel
theorem dd_192_17 : decode prog_14_method_66_code 17 = .ok (.iload_n 1, 1) := by decide +kernel
theorem dd_192_18 : decode prog_14_method_66_code 18 = .ok (.invokevirtual 253, 3) := by decide +kernel
theorem dd_192_21 : decode prog_14_method_66_code 21 = .ok (.istore_n 3, 1) := by decide +kernel
theorem dd_192_22 : decode prog_14_method_66_code 22 = .ok (.bipush (-4), 2) := by decide +kernel
theorem dd_192_24 : decode prog_14_method_66_code 24 = .ok (.istore 4, 2) := by decide +kernel
theorem dd_192_26 : decode prog_14_method_66_code 26 = .ok (.iconst 0, 1) := by decide +kernel
theorem dd_192_27 : decode prog_14_method_66_code 27 = .ok (.istore 5, 2) := by decide +kernel
theorem dd_192_29 : decode prog_14_method_66_code 29 = .ok (.iload 5, 2) := by decide +kernel
theorem dd_192_31 : decode prog_14_method_66_code 31 = .ok (.sipush 256, 3) := by decide +kernel
theorem dd_192_34 : decode prog_14_method_66_code 34 = .ok (.if_icmp .ge 72, 3) := by decide +kernel
theorem dd_192_37 : decode prog_14_method_66_code 37 = .ok (.iload 5, 2) := by decide +kernel
theorem dd_192_39 : decode prog_14_method_66_code 39 = .ok (.iload_n 3, 1) := by decide +kernel
theorem dd_192_40 : decode prog_14_method_66_code 40 = .ok (.iand, 1) := by decide +kernel
theorem dd_192_41 : decode prog_14_method_66_code 41 = .ok (.ifCond .ne 27, 3) := by decide +kernel
theorem dd_192_44 : decode prog_14_method_66_code 44 = .ok (.iload 4, 2) := by decide +kernel
theorem dd_192_46 : decode prog_14_method_66_code 46 = .ok (.bipush (-4), 2) := by decide +kernel
theorem dd_192_48 : decode prog_14_method_66_code 48 = .ok (.if_icmp .eq 16, 3) := by decide +kernel
theorem dd_192_51 : decode prog_14_method_66_code 51 = .ok (.iload 5, 2) := by decide +kernel
theorem dd_192_53 : decode prog_14_method_66_code 53 = .ok (.invokestatic 334, 3) := by decide +kernel
theorem dd_192_56 : decode prog_14_method_66_code 56 = .ok (.iload 4, 2) := by decide +kernel
theorem dd_192_58 : decode prog_14_method_66_code 58 = .ok (.invokestatic 334, 3) := by decide +kernel
theorem dd_192_61 : decode prog_14_method_66_code 61 = .ok (.if_icmp .ge 7, 3) := by decide +kernel
theorem dd_192_64 : decode prog_14_method_66_code 64 = .ok (.iconst 1, 1) := by decide +kernel
theorem dd_192_65 : decode prog_14_method_66_code 65 = .ok (.goto 4, 3) := by decide +kernel
theorem dd_192_68 : decode prog_14_method_66_code 68 = .ok (.iconst 0, 1) := by decide +kernel
theorem dd_192_69 : decode prog_14_method_66_code 69 = .ok (.istore 6, 2) := by decide +kernel
theorem dd_192_71 : decode prog_14_method_66_code 71 = .ok (.iload 6, 2) := by decide +kernel
theorem dd_192_73 : decode prog_14_method_66_code 73 = .ok (.ifCond .eq 23, 3) := by decide +kernel
theorem dd_192_76 : decode prog_14_method_66_code 76 = .ok (.iload_n 2, 1) := by decide +kernel
theorem dd_192_77 : decode prog_14_method_66_code 77 = .ok (.aload_n 0, 1) := by decide +kernel
theorem dd_192_78 : decode prog_14_method_66_code 78 = .ok (.iload_n 3, 1) := by decide +kernel
theorem dd_192_79 : decode prog_14_method_66_code 79 = .ok (.iload 5, 2) := by decide +kernel
theorem dd_192_81 : decode prog_14_method_66_code 81 = .ok (.ior, 1) := by decide +kernel
theorem dd_192_82 : decode prog_14_method_66_code 82 = .ok (.invokevirtual 253, 3) := by decide +kernel
theorem dd_192_85 : decode prog_14_method_66_code 85 = .ok (.iconst (-1), 1) := by decide +kernel
theorem dd_192_86 : decode prog_14_method_66_code 86 = .ok (.ixor, 1) := by decide +kernel
theorem dd_192_87 : decode prog_14_method_66_code 87 = .ok (.iand, 1) := by decide +kernel
theorem dd_192_88 : decode prog_14_method_66_code 88 = .ok (.ifCond .ne 8, 3) := by decide +kernel
theorem dd_192_91 : decode prog_14_method_66_code 91 = .ok (.iload 5, 2) := by decide +kernel
theorem dd_192_93 : decode prog_14_method_66_code 93 = .ok (.goto 5, 3) := by decide +kernel
theorem dd_192_96 : decode prog_14_method_66_code 96 = .ok (.iload 4, 2) := by decide +kernel
theorem dd_192_98 : decode prog_14_method_66_code 98 = .ok (.istore 4, 2) := by decide +kernel
theorem dd_192_100 : decode prog_14_method_66_code 100 = .ok (.iinc 5 1, 3) := by decide +kernel
theorem dd_192_103 : decode prog_14_method_66_code 103 = .ok (.goto (-74), 3) := by decide +kernel
theorem dd_192_106 : decode prog_14_method_66_code 106 = .ok (.iload 4, 2) := by decide +kernel
theorem dd_192_108 : decode prog_14_method_66_code 108 = .ok (.ireturn, 1) := by decide +kernel
theorem kb_192_0 : am_row mi_192 0 kr_192_0 := am_rs rfl (ok_iload_n (k := 1) dd_192_0 rfl rfl) (am_rs rfl (ok_cs (M' := mi_161) dd_192_1 rfl rfl w_1215 w_1216 ⟨lk_161.1, lk_161.2.1, lk_161.2.2, by decide, by decide⟩) (am_rn rfl (am_rn rfl (am_rs rfl (ok_ifc dd_192_4 (by decide) rfl) (am_rn rfl (am_rn rfl (am_rs rfl (ok_iload_n (k := 2) dd_192_7 rfl rfl) (am_rz))))))))
theorem kb_192_1 : am_row mi_192 8 kr_192_1 := am_rs rfl (ok_cs (M' := mi_161) dd_192_8 rfl rfl w_1215 w_1216 ⟨lk_161.1, lk_161.2.1, lk_161.2.2, by decide, by decide⟩) (am_rn rfl (am_rn rfl (am_rs rfl (ok_ifc dd_192_11 (by decide) rfl) (am_rn rfl (am_rn rfl (am_rs rfl (ok_iconst dd_192_14 ic_m1 rfl) (am_rs rfl (ok_iret dd_192_15 rfl) (am_rz))))))))
theorem kb_192_2 : am_row mi_192 16 kr_192_2 := am_rs rfl (ok_aload_n (k := 0) dd_192_16 rfl rfl) (am_rs rfl (ok_iload_n (k := 1) dd_192_17 rfl rfl) (am_rs rfl (ok_cv (M' := mi_162) dd_192_18 rfl rfl w_1218 w_1220 ps_162 ⟨lk_162.1, lk_162.2.1, lk_162.2.2, by decide, by decide⟩ rfl) (am_rn rfl (am_rn rfl (am_rs rfl (ok_istore_n (k := 3) dd_192_21 rfl rfl (by decide)) (am_rs rfl (ok_bipush dd_192_22 bi_m4 rfl) (am_rn rfl (am_rz))))))))
theorem kb_192_3 : am_row mi_192 24 kr_192_3 := am_rs rfl (ok_istore dd_192_24 rfl (by decide)) (am_rn rfl (am_rs rfl (ok_iconst dd_192_26 ic_0 rfl) (am_rs rfl (ok_istore dd_192_27 rfl (by decide)) (am_rn rfl (am_rs rfl (ok_iload dd_192_29 rfl) (am_rn rfl (am_rs rfl (ok_sipush dd_192_31 si_256 rfl) (am_rz))))))))
theorem kb_192_4 : am_row mi_192 32 kr_192_4 := am_rn rfl (am_rn rfl (am_rs rfl (ok_icmp dd_192_34 (by decide) rfl) (am_rn rfl (am_rn rfl (am_rs rfl (ok_iload dd_192_37 rfl) (am_rn rfl (am_rs rfl (ok_iload_n (k := 3) dd_192_39 rfl rfl) (am_rz))))))))
theorem kb_192_5 : am_row mi_192 40 kr_192_5 := am_rs rfl (ok_iand dd_192_40 rfl) (am_rs rfl (ok_ifc dd_192_41 (by decide) rfl) (am_rn rfl (am_rn rfl (am_rs rfl (ok_iload dd_192_44 rfl) (am_rn rfl (am_rs rfl (ok_bipush dd_192_46 bi_m4 rfl) (am_rn rfl (am_rz))))))))
theorem kb_192_6 : am_row mi_192 48 kr_192_6 := am_rs rfl (ok_icmp dd_192_48 (by decide) rfl) (am_rn rfl (am_rn rfl (am_rs rfl (ok_iload dd_192_51 rfl) (am_rn rfl (am_rs rfl (ok_cs (M' := mi_193) dd_192_53 rfl rfl w_1341 w_1342 ⟨lk_193.1, lk_193.2.1, lk_193.2.2, by decide, by decide⟩) (am_rn rfl (am_rn rfl (am_rz))))))))
theorem kb_192_7 : am_row mi_192 56 kr_192_7 := am_rs rfl (ok_iload dd_192_56 rfl) (am_rn rfl (am_rs rfl (ok_cs (M' := mi_193) dd_192_58 rfl rfl w_1341 w_1342 ⟨lk_193.1, lk_193.2.1, lk_193.2.2, by decide, by decide⟩) (am_rn rfl (am_rn rfl (am_rs rfl (ok_icmp dd_192_61 (by decide) rfl) (am_rn rfl (am_rn rfl (am_rz))))))))
theorem kb_192_8 : am_row mi_192 64 kr_192_8 := am_rs rfl (ok_iconst dd_192_64 ic_1 rfl) (am_rs rfl (ok_goto dd_192_65 (by decide)) (am_rn rfl (am_rn rfl (am_rs rfl (ok_iconst dd_192_68 ic_0 rfl) (am_rs rfl (ok_istore dd_192_69 rfl (by decide)) (am_rn rfl (am_rs rfl (ok_iload dd_192_71 rfl) (am_rz))))))))
theorem kb_192_9 : am_row mi_192 72 kr_192_9 := am_rn rfl (am_rs rfl (ok_ifc dd_192_73 (by decide) rfl) (am_rn rfl (am_rn rfl (am_rs rfl (ok_iload_n (k := 2) dd_192_76 rfl rfl) (am_rs rfl (ok_aload_n (k := 0) dd_192_77 rfl rfl) (am_rs rfl (ok_iload_n (k := 3) dd_192_78 rfl rfl) (am_rs rfl (ok_iload dd_192_79 rfl) (am_rz))))))))
theorem kb_192_10 : am_row mi_192 80 kr_192_10 := am_rn rfl (am_rs rfl (ok_ior dd_192_81 rfl) (am_rs rfl (ok_cv (M' := mi_162) dd_192_82 rfl rfl w_1218 w_1220 ps_162 ⟨lk_162.1, lk_162.2.1, lk_162.2.2, by decide, by decide⟩ rfl) (am_rn rfl (am_rn rfl (am_rs rfl (ok_iconst dd_192_85 ic_m1 rfl) (am_rs rfl (ok_ixor dd_192_86 rfl) (am_rs rfl (ok_iand dd_192_87 rfl) (am_rz))))))))
theorem kb_192_11 : am_row mi_192 88 kr_192_11 := am_rs rfl (ok_ifc dd_192_88 (by decide) rfl) (am_rn rfl (am_rn rfl (am_rs rfl (ok_iload dd_192_91 rfl) (am_rn rfl (am_rs rfl (ok_goto dd_192_93 (by decide)) (am_rn rfl (am_rn rfl (am_rz))))))))
theorem kb_192_12 : am_row mi_192 96 kr_192_12 := am_rs rfl (ok_iload dd_192_96 rfl) (am_rn rfl (am_rs rfl (ok_istore dd_192_98 rfl (by decide)) (am_rn rfl (am_rs rfl (ok_iinc dd_192_100 ic_1 rfl (by decide)) (am_rn rfl (am_rn rfl (am_rs rfl (ok_goto dd_192_103 (by decide)) (am_rz))))))))
theorem kb_192_13 : am_row mi_192 104 kr_192_13 := am_rn rfl (am_rn rfl (am_rs rfl (ok_iload dd_192_106 rfl) (am_rn rfl (am_rs rfl (ok_iret dd_192_108 rfl) (am_rz)))))
theorem ck_192 : am_rows mi_192 0 cd_192 := am_bs rfl kb_192_0 (am_bs rfl kb_192_1 (am_bs rfl kb_192_2 (am_bs rfl kb_192_3 (am_bs rfl kb_192_4 (am_bs rfl kb_192_5 (am_bs rfl kb_192_6 (am_bs rfl kb_192_7 (am_bs rfl kb_192_8 (am_bs rfl kb_192_9 (am_bs rfl kb_192_10 (am_bs rfl kb_192_11 (am_bs rfl kb_192_12 (am_bs rfl kb_192_13 (am_bz))))))))))))))
/-- OverAndBackModel.bits(I)I -/
noncomputable def kr_193_0 : List (Option am_Op) := [some (am_psh (.retAddr 0) 1), some (am_ist 1 2), some (am_ild 0 3), some (am_ist 2 4), some (am_ild 2 5), some (am_br1 .le 20 8), none, none]
noncomputable def kr_193_1 : List (Option am_Op) := [some (am_inc 1 1 11), none, none, some (am_ild 2 12), some (am_ild 2 13), some (am_psh (.retAddr 1) 14), some (am_bin am_sub 15), some (am_bin Nat.land 16)]
noncomputable def kr_193_2 : List (Option am_Op) := [some (am_ist 2 17), some (am_jmp 4), none, none, some (am_ild 1 21), some (am_iret)]
noncomputable def cd_193 : am_Cd := [kr_193_0, kr_193_1, kr_193_2]
theorem dd_193_0 : decode prog_14_method_6_code 0 = .ok (.iconst 0, 1) := by decide +kernel
theorem dd_193_1 : decode prog_14_method_6_code 1 = .ok (.istore_n 1, 1) := by decide +kernel
theorem dd_193_2 : decode prog_14_method_6_code 2 = .ok (.iload_n 0, 1) := by decide +kernel
theorem dd_193_3 : decode prog_14_method_6_code 3 = .ok (.istore_n 2, 1) := by decide +kernel
theorem dd_193_4 : decode prog_14_method_6_code 4 = .ok (.iload_n 2, 1) := by decide +kernel
theorem dd_193_5 : decode prog_14_method_6_code 5 = .ok (.ifCond .le 15, 3) := by decide +kernel
theorem dd_193_8 : decode prog_14_method_6_code 8 = .ok (.iinc 1 1, 3) := by decide +kernel
theorem dd_193_11 : decode prog_14_method_6_code 11 = .ok (.iload_n 2, 1) := by decide +kernel
theorem dd_193_12 : decode prog_14_method_6_code 12 = .ok (.iload_n 2, 1) := by decide +kernel
theorem dd_193_13 : decode prog_14_method_6_code 13 = .ok (.iconst 1, 1) := by decide +kernel
theorem dd_193_14 : decode prog_14_method_6_code 14 = .ok (.isub, 1) := by decide +kernel
theorem dd_193_15 : decode prog_14_method_6_code 15 = .ok (.iand, 1) := by decide +kernel
theorem dd_193_16 : decode prog_14_method_6_code 16 = .ok (.istore_n 2, 1) := by decide +kernel
theorem dd_193_17 : decode prog_14_method_6_code 17 = .ok (.goto (-13), 3) := by decide +kernel
theorem dd_193_20 : decode prog_14_method_6_code 20 = .ok (.iload_n 1, 1) := by decide +kernel
theorem dd_193_21 : decode prog_14_method_6_code 21 = .ok (.ireturn, 1) := by decide +kernel
theorem kb_193_0 : am_row mi_193 0 kr_193_0 := am_rs rfl (ok_iconst dd_193_0 ic_0 rfl) (am_rs rfl (ok_istore_n (k := 1) dd_193_1 rfl rfl (by decide)) (am_rs rfl (ok_iload_n (k := 0) dd_193_2 rfl rfl) (am_rs rfl (ok_istore_n (k := 2) dd_193_3 rfl rfl (by decide)) (am_rs rfl (ok_iload_n (k := 2) dd_193_4 rfl rfl) (am_rs rfl (ok_ifc dd_193_5 (by decide) rfl) (am_rn rfl (am_rn rfl (am_rz))))))))
theorem kb_193_1 : am_row mi_193 8 kr_193_1 := am_rs rfl (ok_iinc dd_193_8 ic_1 rfl (by decide)) (am_rn rfl (am_rn rfl (am_rs rfl (ok_iload_n (k := 2) dd_193_11 rfl rfl) (am_rs rfl (ok_iload_n (k := 2) dd_193_12 rfl rfl) (am_rs rfl (ok_iconst dd_193_13 ic_1 rfl) (am_rs rfl (ok_isub dd_193_14 rfl) (am_rs rfl (ok_iand dd_193_15 rfl) (am_rz))))))))
theorem kb_193_2 : am_row mi_193 16 kr_193_2 := am_rs rfl (ok_istore_n (k := 2) dd_193_16 rfl rfl (by decide)) (am_rs rfl (ok_goto dd_193_17 (by decide)) (am_rn rfl (am_rn rfl (am_rs rfl (ok_iload_n (k := 1) dd_193_20 rfl rfl) (am_rs rfl (ok_iret dd_193_21 rfl) (am_rz))))))
theorem ck_193 : am_rows mi_193 0 cd_193 := am_bs rfl kb_193_0 (am_bs rfl kb_193_1 (am_bs rfl kb_193_2 (am_bz)))
/-- OverAndBackModel.fair(II)I -/
noncomputable def kr_194_0 : List (Option am_Op) := [some (am_ild 2 1), some (am_br1 .ne 8 4), none, none, some (am_psh (.retAddr 0) 5), some (am_jmp 39), none, none]
noncomputable def kr_194_1 : List (Option am_Op) := [some (am_ild 2 9), some (am_psh (.retAddr 1) 10), some (am_br2 .ne 22 13), none, none, some (am_ald0 0 14), some (am_cv 195 0 12 17), none]
noncomputable def kr_194_2 : List (Option am_Op) := [none, some (am_psh (.retAddr 1) 18), some (am_bin am_sub 19), some (am_jmp 39), none, none, some (am_ald0 0 23), some (am_gf 12 12 26)]
noncomputable def kr_194_3 : List (Option am_Op) := [none, none, some (am_br1 .ne 33 29), none, none, some (am_psh (.retAddr 0) 30), some (am_jmp 39), none]
noncomputable def kr_194_4 : List (Option am_Op) := [none, some (am_ald0 0 34), some (am_gf 12 12 37), none, none, some (am_psh (.retAddr 1) 38), some (am_bin am_sub 39), some (am_ist 3 40)]
noncomputable def kr_194_5 : List (Option am_Op) := [some (am_ild 2 41), some (am_psh (.retAddr 0) 42), some (am_psh (.retAddr 2) 43), some (am_cs 133 3 46), none, none, some (am_br1 .eq 58 49), none]
noncomputable def kr_194_6 : List (Option am_Op) := [none, some (am_ild 1 50), some (am_psh (.retAddr 0) 51), some (am_ild 3 52), some (am_cs 133 3 55), none, none, some (am_br1 .ne 60 58)]
noncomputable def kr_194_7 : List (Option am_Op) := [none, none, some (am_psh (.retAddr 4294967295) 59), some (am_iret), some (am_ald0 0 61), some (am_gf 12 12 64), none, none]
noncomputable def kr_194_8 : List (Option am_Op) := [some (am_br1 .ne 70 67), none, none, some (am_psh (.retAddr 4294967292) 69), none, some (am_iret), some (am_ald0 0 71), some (am_psh (.retAddr 0) 72)]
noncomputable def kr_194_9 : List (Option am_Op) := [some (am_psh (.retAddr 4294967292) 74), none, some (am_cv 155 2 12 77), none, none, some (am_psh (.retAddr 1) 78), some (am_ist 4 80), none]
noncomputable def kr_194_10 : List (Option am_Op) := [some (am_psh (.retAddr 0) 81), some (am_ist 5 83), none, some (am_ild 5 85), none, some (am_ald0 0 86), some (am_cv 195 0 12 89), none]
noncomputable def kr_194_11 : List (Option am_Op) := [none, some (am_br2 .ge 107 92), none, none, some (am_ild 4 94), none, some (am_ald0 0 95), some (am_gf 12 12 98)]
noncomputable def kr_194_12 : List (Option am_Op) := [none, none, some (am_bin am_mul 99), some (am_ist 4 101), none, some (am_inc 5 1 104), none, none]
noncomputable def kr_194_13 : List (Option am_Op) := [some (am_jmp 83), none, none, some (am_psh (.retAddr 0) 108), some (am_ist 5 110), none, some (am_psh (.retAddr 4294967295) 111), some (am_ist 6 113)]
noncomputable def kr_194_14 : List (Option am_Op) := [none, some (am_psh (.retAddr 0) 114), some (am_ist 7 116), none, some (am_ild 7 118), none, some (am_ild 4 120), none]
noncomputable def kr_194_15 : List (Option am_Op) := [some (am_br2 .ge 173 123), none, none, some (am_ald0 0 124), some (am_ild 7 126), none, some (am_cv 196 1 12 129), none]
noncomputable def kr_194_16 : List (Option am_Op) := [none, some (am_ald0 0 130), some (am_cv 198 0 12 133), none, none, some (am_ild 6 135), none, some (am_br2 .le 143 138)]
noncomputable def kr_194_17 : List (Option am_Op) := [none, none, some (am_ild 7 140), none, some (am_jmp 145), none, none, some (am_ild 5 145)]
noncomputable def kr_194_18 : List (Option am_Op) := [none, some (am_ist 5 147), none, some (am_ald0 0 148), some (am_cv 198 0 12 151), none, none, some (am_ild 6 153)]
noncomputable def kr_194_19 : List (Option am_Op) := [none, some (am_br2 .le 163 156), none, none, some (am_ald0 0 157), some (am_cv 198 0 12 160), none, none]
noncomputable def kr_194_20 : List (Option am_Op) := [some (am_jmp 165), none, none, some (am_ild 6 165), none, some (am_ist 6 167), none, some (am_inc 7 1 170)]
noncomputable def kr_194_21 : List (Option am_Op) := [none, none, some (am_jmp 116), none, none, some (am_ald0 0 174), some (am_ild 5 176), none]
noncomputable def kr_194_22 : List (Option am_Op) := [some (am_cv 196 1 12 179), none, none, some (am_ild 2 180), some (am_br1 .ne 188 183), none, none, some (am_ild 6 185)]
noncomputable def kr_194_23 : List (Option am_Op) := [none, some (am_jmp 217), none, none, some (am_ild 2 189), some (am_psh (.retAddr 1) 190), some (am_br2 .ne 202 193), none]
noncomputable def kr_194_24 : List (Option am_Op) := [none, some (am_ald0 0 194), some (am_gf 12 51 197), none, none, some (am_ild 1 198), some (am_ald 0 199), some (am_jmp 217)]
noncomputable def kr_194_25 : List (Option am_Op) := [none, none, some (am_ald0 0 203), some (am_gf 12 52 206), none, none, some (am_ald0 0 207), some (am_gf 12 13 210)]
noncomputable def kr_194_26 : List (Option am_Op) := [none, none, some (am_psh (.retAddr 2) 211), some (am_ild 1 212), some (am_bin am_mul 213), some (am_psh (.retAddr 1) 214), some (am_bin am_add 215), some (am_ald 0 216)]
noncomputable def kr_194_27 : List (Option am_Op) := [some (am_ald 0 217), some (am_iret)]
noncomputable def cd_194 : am_Cd := [kr_194_0, kr_194_1, kr_194_2, kr_194_3, kr_194_4, kr_194_5, kr_194_6, kr_194_7, kr_194_8, kr_194_9, kr_194_10, kr_194_11, kr_194_12, kr_194_13, kr_194_14, kr_194_15, kr_194_16, kr_194_17, kr_194_18, kr_194_19, kr_194_20, kr_194_21, kr_194_22, kr_194_23, kr_194_24, kr_194_25, kr_194_26, kr_194_27]
theorem dd_194_0 : decode prog_14_method_71_code 0 = .ok (.iload_n 2, 1) := by decide +kernel
theorem dd_194_1 : decode prog_14_method_71_code 1 = .ok (.ifCond .ne 7, 3) := by decide +kernel
theorem dd_194_4 : decode prog_14_method_71_code 4 = .ok (.iconst 0, 1) := by decide +kernel
theorem dd_194_5 : decode prog_14_method_71_code 5 = .ok (.goto 34, 3) := by decide +kernel
theorem dd_194_8 : decode prog_14_method_71_code 8 = .ok (.iload_n 2, 1) := by decide +kernel
theorem dd_194_9 : decode prog_14_method_71_code 9 = .ok (.iconst 1, 1) := by decide +kernel
theorem dd_194_10 : decode prog_14_method_71_code 10 = .ok (.if_icmp .ne 12, 3) := by decide +kernel
theorem dd_194_13 : decode prog_14_method_71_code 13 = .ok (.aload_n 0, 1) := by decide +kernel
theorem dd_194_14 : decode prog_14_method_71_code 14 = .ok (.invokevirtual 337, 3) := by decide +kernel
theorem dd_194_17 : decode prog_14_method_71_code 17 = .ok (.iconst 1, 1) := by decide +kernel
theorem dd_194_18 : decode prog_14_method_71_code 18 = .ok (.isub, 1) := by decide +kernel
theorem dd_194_19 : decode prog_14_method_71_code 19 = .ok (.goto 20, 3) := by decide +kernel
theorem dd_194_22 : decode prog_14_method_71_code 22 = .ok (.aload_n 0, 1) := by decide +kernel
theorem dd_194_23 : decode prog_14_method_71_code 23 = .ok (.getfield 44, 3) := by decide +kernel
theorem dd_194_26 : decode prog_14_method_71_code 26 = .ok (.ifCond .ne 7, 3) := by decide +kernel
theorem dd_194_29 : decode prog_14_method_71_code 29 = .ok (.iconst 0, 1) := by decide +kernel
theorem dd_194_30 : decode prog_14_method_71_code 30 = .ok (.goto 9, 3) := by decide +kernel
theorem dd_194_33 : decode prog_14_method_71_code 33 = .ok (.aload_n 0, 1) := by decide +kernel
theorem dd_194_34 : decode prog_14_method_71_code 34 = .ok (.getfield 44, 3) := by decide +kernel
theorem dd_194_37 : decode prog_14_method_71_code 37 = .ok (.iconst 1, 1) := by decide +kernel
theorem dd_194_38 : decode prog_14_method_71_code 38 = .ok (.isub, 1) := by decide +kernel
theorem dd_194_39 : decode prog_14_method_71_code 39 = .ok (.istore_n 3, 1) := by decide +kernel
theorem dd_194_40 : decode prog_14_method_71_code 40 = .ok (.iload_n 2, 1) := by decide +kernel
theorem dd_194_41 : decode prog_14_method_71_code 41 = .ok (.iconst 0, 1) := by decide +kernel
theorem dd_194_42 : decode prog_14_method_71_code 42 = .ok (.iconst 2, 1) := by decide +kernel
theorem dd_194_43 : decode prog_14_method_71_code 43 = .ok (.invokestatic 116, 3) := by decide +kernel
theorem dd_194_46 : decode prog_14_method_71_code 46 = .ok (.ifCond .eq 12, 3) := by decide +kernel
theorem dd_194_49 : decode prog_14_method_71_code 49 = .ok (.iload_n 1, 1) := by decide +kernel
theorem dd_194_50 : decode prog_14_method_71_code 50 = .ok (.iconst 0, 1) := by decide +kernel
theorem dd_194_51 : decode prog_14_method_71_code 51 = .ok (.iload_n 3, 1) := by decide +kernel
theorem dd_194_52 : decode prog_14_method_71_code 52 = .ok (.invokestatic 116, 3) := by decide +kernel
theorem dd_194_55 : decode prog_14_method_71_code 55 = .ok (.ifCond .ne 5, 3) := by decide +kernel
theorem dd_194_58 : decode prog_14_method_71_code 58 = .ok (.iconst (-1), 1) := by decide +kernel
theorem dd_194_59 : decode prog_14_method_71_code 59 = .ok (.ireturn, 1) := by decide +kernel
theorem dd_194_60 : decode prog_14_method_71_code 60 = .ok (.aload_n 0, 1) := by decide +kernel
theorem dd_194_61 : decode prog_14_method_71_code 61 = .ok (.getfield 44, 3) := by decide +kernel
theorem dd_194_64 : decode prog_14_method_71_code 64 = .ok (.ifCond .ne 6, 3) := by decide +kernel
theorem dd_194_67 : decode prog_14_method_71_code 67 = .ok (.bipush (-4), 2) := by decide +kernel
theorem dd_194_69 : decode prog_14_method_71_code 69 = .ok (.ireturn, 1) := by decide +kernel
theorem dd_194_70 : decode prog_14_method_71_code 70 = .ok (.aload_n 0, 1) := by decide +kernel
theorem dd_194_71 : decode prog_14_method_71_code 71 = .ok (.iconst 0, 1) := by decide +kernel
theorem dd_194_72 : decode prog_14_method_71_code 72 = .ok (.bipush (-4), 2) := by decide +kernel
theorem dd_194_74 : decode prog_14_method_71_code 74 = .ok (.invokevirtual 246, 3) := by decide +kernel
theorem dd_194_77 : decode prog_14_method_71_code 77 = .ok (.iconst 1, 1) := by decide +kernel
theorem dd_194_78 : decode prog_14_method_71_code 78 = .ok (.istore 4, 2) := by decide +kernel
theorem dd_194_80 : decode prog_14_method_71_code 80 = .ok (.iconst 0, 1) := by decide +kernel
theorem dd_194_81 : decode prog_14_method_71_code 81 = .ok (.istore 5, 2) := by decide +kernel
theorem dd_194_83 : decode prog_14_method_71_code 83 = .ok (.iload 5, 2) := by decide +kernel
theorem dd_194_85 : decode prog_14_method_71_code 85 = .ok (.aload_n 0, 1) := by decide +kernel
theorem dd_194_86 : decode prog_14_method_71_code 86 = .ok (.invokevirtual 337, 3) := by decide +kernel
theorem dd_194_89 : decode prog_14_method_71_code 89 = .ok (.if_icmp .ge 18, 3) := by decide +kernel
theorem dd_194_92 : decode prog_14_method_71_code 92 = .ok (.iload 4, 2) := by decide +kernel
theorem dd_194_94 : decode prog_14_method_71_code 94 = .ok (.aload_n 0, 1) := by decide +kernel
theorem dd_194_95 : decode prog_14_method_71_code 95 = .ok (.getfield 44, 3) := by decide +kernel
theorem dd_194_98 : decode prog_14_method_71_code 98 = .ok (.imul, 1) := by decide +kernel
theorem dd_194_99 : decode prog_14_method_71_code 99 = .ok (.istore 4, 2) := by decide +kernel
theorem dd_194_101 : decode prog_14_method_71_code 101 = .ok (.iinc 5 1, 3) := by decide +kernel
theorem dd_194_104 : decode prog_14_method_71_code 104 = .ok (.goto (-21), 3) := by decide +kernel
theorem dd_194_107 : decode prog_14_method_71_code 107 = .ok (.iconst 0, 1) := by decide +kernel
theorem dd_194_108 : decode prog_14_method_71_code 108 = .ok (.istore 5, 2) := by decide +kernel
theorem dd_194_110 : decode prog_14_method_71_code 110 = .ok (.iconst (-1), 1) := by decide +kernel
theorem dd_194_111 : decode prog_14_method_71_code 111 = .ok (.istore 6, 2) := by decide +kernel
theorem dd_194_113 : decode prog_14_method_71_code 113 = .ok (.iconst 0, 1) := by decide +kernel
theorem dd_194_114 : decode prog_14_method_71_code 114 = .ok (.istore 7, 2) := by decide +kernel
theorem dd_194_116 : decode prog_14_method_71_code 116 = .ok (.iload 7, 2) := by decide +kernel
theorem dd_194_118 : decode prog_14_method_71_code 118 = .ok (.iload 4, 2) := by decide +kernel
theorem dd_194_120 : decode prog_14_method_71_code 120 = .ok (.if_icmp .ge 53, 3) := by decide +kernel
theorem dd_194_123 : decode prog_14_method_71_code 123 = .ok (.aload_n 0, 1) := by decide +kernel
theorem dd_194_124 : decode prog_14_method_71_code 124 = .ok (.iload 7, 2) := by decide +kernel
theorem dd_194_126 : decode prog_14_method_71_code 126 = .ok (.invokevirtual 343, 3) := by decide +kernel
theorem dd_194_129 : decode prog_14_method_71_code 129 = .ok (.aload_n 0, 1) := by decide +kernel
theorem dd_194_130 : decode prog_14_method_71_code 130 = .ok (.invokevirtual 346, 3) := by decide +kernel
theorem dd_194_133 : decode prog_14_method_71_code 133 = .ok (.iload 6, 2) := by decide +kernel
theorem dd_194_135 : decode prog_14_method_71_code 135 = .ok (.if_icmp .le 8, 3) := by decide +kernel
theorem dd_194_138 : decode prog_14_method_71_code 138 = .ok (.iload 7, 2) := by decide +kernel
theorem dd_194_140 : decode prog_14_method_71_code 140 = .ok (.goto 5, 3) := by decide +kernel
theorem dd_194_143 : decode prog_14_method_71_code 143 = .ok (.iload 5, 2) := by decide +kernel
theorem dd_194_145 : decode prog_14_method_71_code 145 = .ok (.istore 5, 2) := by decide +kernel
theorem dd_194_147 : decode prog_14_method_71_code 147 = .ok (.aload_n 0, 1) := by decide +kernel
theorem dd_194_148 : decode prog_14_method_71_code 148 = .ok (.invokevirtual 346, 3) := by decide +kernel
theorem dd_194_151 : decode prog_14_method_71_code 151 = .ok (.iload 6, 2) := by decide +kernel
theorem dd_194_153 : decode prog_14_method_71_code 153 = .ok (.if_icmp .le 10, 3) := by decide +kernel
theorem dd_194_156 : decode prog_14_method_71_code 156 = .ok (.aload_n 0, 1) := by decide +kernel
theorem dd_194_157 : decode prog_14_method_71_code 157 = .ok (.invokevirtual 346, 3) := by decide +kernel
theorem dd_194_160 : decode prog_14_method_71_code 160 = .ok (.goto 5, 3) := by decide +kernel
theorem dd_194_163 : decode prog_14_method_71_code 163 = .ok (.iload 6, 2) := by decide +kernel
theorem dd_194_165 : decode prog_14_method_71_code 165 = .ok (.istore 6, 2) := by decide +kernel
theorem dd_194_167 : decode prog_14_method_71_code 167 = .ok (.iinc 7 1, 3) := by decide +kernel
theorem dd_194_170 : decode prog_14_method_71_code 170 = .ok (.goto (-54), 3) := by decide +kernel
theorem dd_194_173 : decode prog_14_method_71_code 173 = .ok (.aload_n 0, 1) := by decide +kernel
theorem dd_194_174 : decode prog_14_method_71_code 174 = .ok (.iload 5, 2) := by decide +kernel
theorem dd_194_176 : decode prog_14_method_71_code 176 = .ok (.invokevirtual 343, 3) := by decide +kernel
theorem dd_194_179 : decode prog_14_method_71_code 179 = .ok (.iload_n 2, 1) := by decide +kernel
theorem dd_194_180 : decode prog_14_method_71_code 180 = .ok (.ifCond .ne 8, 3) := by decide +kernel
theorem dd_194_183 : decode prog_14_method_71_code 183 = .ok (.iload 6, 2) := by decide +kernel
theorem dd_194_185 : decode prog_14_method_71_code 185 = .ok (.goto 32, 3) := by decide +kernel
theorem dd_194_188 : decode prog_14_method_71_code 188 = .ok (.iload_n 2, 1) := by decide +kernel
theorem dd_194_189 : decode prog_14_method_71_code 189 = .ok (.iconst 1, 1) := by decide +kernel
theorem dd_194_190 : decode prog_14_method_71_code 190 = .ok (.if_icmp .ne 12, 3) := by decide +kernel
theorem dd_194_193 : decode prog_14_method_71_code 193 = .ok (.aload_n 0, 1) := by decide +kernel
theorem dd_194_194 : decode prog_14_method_71_code 194 = .ok (.getfield 103, 3) := by decide +kernel
theorem dd_194_197 : decode prog_14_method_71_code 197 = .ok (.iload_n 1, 1) := by decide +kernel
theorem dd_194_198 : decode prog_14_method_71_code 198 = .ok (.iaload, 1) := by decide +kernel
theorem dd_194_199 : decode prog_14_method_71_code 199 = .ok (.goto 18, 3) := by decide +kernel
theorem dd_194_202 : decode prog_14_method_71_code 202 = .ok (.aload_n 0, 1) := by decide +kernel
theorem dd_194_203 : decode prog_14_method_71_code 203 = .ok (.getfield 106, 3) := by decide +kernel
theorem dd_194_206 : decode prog_14_method_71_code 206 = .ok (.aload_n 0, 1) := by decide +kernel
theorem dd_194_207 : decode prog_14_method_71_code 207 = .ok (.getfield 47, 3) := by decide +kernel
theorem dd_194_210 : decode prog_14_method_71_code 210 = .ok (.iconst 2, 1) := by decide +kernel
theorem dd_194_211 : decode prog_14_method_71_code 211 = .ok (.iload_n 1, 1) := by decide +kernel
theorem dd_194_212 : decode prog_14_method_71_code 212 = .ok (.imul, 1) := by decide +kernel
theorem dd_194_213 : decode prog_14_method_71_code 213 = .ok (.iconst 1, 1) := by decide +kernel
theorem dd_194_214 : decode prog_14_method_71_code 214 = .ok (.iadd, 1) := by decide +kernel
theorem dd_194_215 : decode prog_14_method_71_code 215 = .ok (.iaload, 1) := by decide +kernel
theorem dd_194_216 : decode prog_14_method_71_code 216 = .ok (.iaload, 1) := by decide +kernel
theorem dd_194_217 : decode prog_14_method_71_code 217 = .ok (.ireturn, 1) := by decide +kernel
theorem kb_194_0 : am_row mi_194 0 kr_194_0 := am_rs rfl (ok_iload_n (k := 2) dd_194_0 rfl rfl) (am_rs rfl (ok_ifc dd_194_1 (by decide) rfl) (am_rn rfl (am_rn rfl (am_rs rfl (ok_iconst dd_194_4 ic_0 rfl) (am_rs rfl (ok_goto dd_194_5 (by decide)) (am_rn rfl (am_rn rfl (am_rz))))))))
theorem kb_194_1 : am_row mi_194 8 kr_194_1 := am_rs rfl (ok_iload_n (k := 2) dd_194_8 rfl rfl) (am_rs rfl (ok_iconst dd_194_9 ic_1 rfl) (am_rs rfl (ok_icmp dd_194_10 (by decide) rfl) (am_rn rfl (am_rn rfl (am_rs rfl (ok_aload_n (k := 0) dd_194_13 rfl rfl) (am_rs rfl (ok_cv (M' := mi_195) dd_194_14 rfl rfl w_1348 w_1350 ps_195 ⟨lk_195.1, lk_195.2.1, lk_195.2.2, by decide, by decide⟩ rfl) (am_rn rfl (am_rz))))))))
theorem kb_194_2 : am_row mi_194 16 kr_194_2 := am_rn rfl (am_rs rfl (ok_iconst dd_194_17 ic_1 rfl) (am_rs rfl (ok_isub dd_194_18 rfl) (am_rs rfl (ok_goto dd_194_19 (by decide)) (am_rn rfl (am_rn rfl (am_rs rfl (ok_aload_n (k := 0) dd_194_22 rfl rfl) (am_rs rfl (ok_gf dd_194_23 rfl am_ck12 (by decide) (Or.inl w_947)) (am_rz))))))))
theorem kb_194_3 : am_row mi_194 24 kr_194_3 := am_rn rfl (am_rn rfl (am_rs rfl (ok_ifc dd_194_26 (by decide) rfl) (am_rn rfl (am_rn rfl (am_rs rfl (ok_iconst dd_194_29 ic_0 rfl) (am_rs rfl (ok_goto dd_194_30 (by decide)) (am_rn rfl (am_rz))))))))
theorem kb_194_4 : am_row mi_194 32 kr_194_4 := am_rn rfl (am_rs rfl (ok_aload_n (k := 0) dd_194_33 rfl rfl) (am_rs rfl (ok_gf dd_194_34 rfl am_ck12 (by decide) (Or.inl w_947)) (am_rn rfl (am_rn rfl (am_rs rfl (ok_iconst dd_194_37 ic_1 rfl) (am_rs rfl (ok_isub dd_194_38 rfl) (am_rs rfl (ok_istore_n (k := 3) dd_194_39 rfl rfl (by decide)) (am_rz))))))))
theorem kb_194_5 : am_row mi_194 40 kr_194_5 := am_rs rfl (ok_iload_n (k := 2) dd_194_40 rfl rfl) (am_rs rfl (ok_iconst dd_194_41 ic_0 rfl) (am_rs rfl (ok_iconst dd_194_42 ic_2 rfl) (am_rs rfl (ok_cs (M' := mi_133) dd_194_43 rfl rfl w_1106 w_1107 ⟨lk_133.1, lk_133.2.1, lk_133.2.2, by decide, by decide⟩) (am_rn rfl (am_rn rfl (am_rs rfl (ok_ifc dd_194_46 (by decide) rfl) (am_rn rfl (am_rz))))))))
theorem kb_194_6 : am_row mi_194 48 kr_194_6 := am_rn rfl (am_rs rfl (ok_iload_n (k := 1) dd_194_49 rfl rfl) (am_rs rfl (ok_iconst dd_194_50 ic_0 rfl) (am_rs rfl (ok_iload_n (k := 3) dd_194_51 rfl rfl) (am_rs rfl (ok_cs (M' := mi_133) dd_194_52 rfl rfl w_1106 w_1107 ⟨lk_133.1, lk_133.2.1, lk_133.2.2, by decide, by decide⟩) (am_rn rfl (am_rn rfl (am_rs rfl (ok_ifc dd_194_55 (by decide) rfl) (am_rz))))))))
theorem kb_194_7 : am_row mi_194 56 kr_194_7 := am_rn rfl (am_rn rfl (am_rs rfl (ok_iconst dd_194_58 ic_m1 rfl) (am_rs rfl (ok_iret dd_194_59 rfl) (am_rs rfl (ok_aload_n (k := 0) dd_194_60 rfl rfl) (am_rs rfl (ok_gf dd_194_61 rfl am_ck12 (by decide) (Or.inl w_947)) (am_rn rfl (am_rn rfl (am_rz))))))))
theorem kb_194_8 : am_row mi_194 64 kr_194_8 := am_rs rfl (ok_ifc dd_194_64 (by decide) rfl) (am_rn rfl (am_rn rfl (am_rs rfl (ok_bipush dd_194_67 bi_m4 rfl) (am_rn rfl (am_rs rfl (ok_iret dd_194_69 rfl) (am_rs rfl (ok_aload_n (k := 0) dd_194_70 rfl rfl) (am_rs rfl (ok_iconst dd_194_71 ic_0 rfl) (am_rz))))))))
theorem kb_194_9 : am_row mi_194 72 kr_194_9 := am_rs rfl (ok_bipush dd_194_72 bi_m4 rfl) (am_rn rfl (am_rs rfl (ok_cv (M' := mi_155) dd_194_74 rfl rfl w_1192 w_1194 ps_155 ⟨lk_155.1, lk_155.2.1, lk_155.2.2, by decide, by decide⟩ rfl) (am_rn rfl (am_rn rfl (am_rs rfl (ok_iconst dd_194_77 ic_1 rfl) (am_rs rfl (ok_istore dd_194_78 rfl (by decide)) (am_rn rfl (am_rz))))))))
theorem kb_194_10 : am_row mi_194 80 kr_194_10 := am_rs rfl (ok_iconst dd_194_80 ic_0 rfl) (am_rs rfl (ok_istore dd_194_81 rfl (by decide)) (am_rn rfl (am_rs rfl (ok_iload dd_194_83 rfl) (am_rn rfl (am_rs rfl (ok_aload_n (k := 0) dd_194_85 rfl rfl) (am_rs rfl (ok_cv (M' := mi_195) dd_194_86 rfl rfl w_1348 w_1350 ps_195 ⟨lk_195.1, lk_195.2.1, lk_195.2.2, by decide, by decide⟩ rfl) (am_rn rfl (am_rz))))))))
theorem kb_194_11 : am_row mi_194 88 kr_194_11 := am_rn rfl (am_rs rfl (ok_icmp dd_194_89 (by decide) rfl) (am_rn rfl (am_rn rfl (am_rs rfl (ok_iload dd_194_92 rfl) (am_rn rfl (am_rs rfl (ok_aload_n (k := 0) dd_194_94 rfl rfl) (am_rs rfl (ok_gf dd_194_95 rfl am_ck12 (by decide) (Or.inl w_947)) (am_rz))))))))
theorem kb_194_12 : am_row mi_194 96 kr_194_12 := am_rn rfl (am_rn rfl (am_rs rfl (ok_imul dd_194_98 rfl) (am_rs rfl (ok_istore dd_194_99 rfl (by decide)) (am_rn rfl (am_rs rfl (ok_iinc dd_194_101 ic_1 rfl (by decide)) (am_rn rfl (am_rn rfl (am_rz))))))))
theorem kb_194_13 : am_row mi_194 104 kr_194_13 := am_rs rfl (ok_goto dd_194_104 (by decide)) (am_rn rfl (am_rn rfl (am_rs rfl (ok_iconst dd_194_107 ic_0 rfl) (am_rs rfl (ok_istore dd_194_108 rfl (by decide)) (am_rn rfl (am_rs rfl (ok_iconst dd_194_110 ic_m1 rfl) (am_rs rfl (ok_istore dd_194_111 rfl (by decide)) (am_rz))))))))
theorem kb_194_14 : am_row mi_194 112 kr_194_14 := am_rn rfl (am_rs rfl (ok_iconst dd_194_113 ic_0 rfl) (am_rs rfl (ok_istore dd_194_114 rfl (by decide)) (am_rn rfl (am_rs rfl (ok_iload dd_194_116 rfl) (am_rn rfl (am_rs rfl (ok_iload dd_194_118 rfl) (am_rn rfl (am_rz))))))))
theorem kb_194_15 : am_row mi_194 120 kr_194_15 := am_rs rfl (ok_icmp dd_194_120 (by decide) rfl) (am_rn rfl (am_rn rfl (am_rs rfl (ok_aload_n (k := 0) dd_194_123 rfl rfl) (am_rs rfl (ok_iload dd_194_124 rfl) (am_rn rfl (am_rs rfl (ok_cv (M' := mi_196) dd_194_126 rfl rfl w_1352 w_1354 ps_196 ⟨lk_196.1, lk_196.2.1, lk_196.2.2, by decide, by decide⟩ rfl) (am_rn rfl (am_rz))))))))
theorem kb_194_16 : am_row mi_194 128 kr_194_16 := am_rn rfl (am_rs rfl (ok_aload_n (k := 0) dd_194_129 rfl rfl) (am_rs rfl (ok_cv (M' := mi_198) dd_194_130 rfl rfl w_1360 w_1362 ps_198 ⟨lk_198.1, lk_198.2.1, lk_198.2.2, by decide, by decide⟩ rfl) (am_rn rfl (am_rn rfl (am_rs rfl (ok_iload dd_194_133 rfl) (am_rn rfl (am_rs rfl (ok_icmp dd_194_135 (by decide) rfl) (am_rz))))))))
theorem kb_194_17 : am_row mi_194 136 kr_194_17 := am_rn rfl (am_rn rfl (am_rs rfl (ok_iload dd_194_138 rfl) (am_rn rfl (am_rs rfl (ok_goto dd_194_140 (by decide)) (am_rn rfl (am_rn rfl (am_rs rfl (ok_iload dd_194_143 rfl) (am_rz))))))))
theorem kb_194_18 : am_row mi_194 144 kr_194_18 := am_rn rfl (am_rs rfl (ok_istore dd_194_145 rfl (by decide)) (am_rn rfl (am_rs rfl (ok_aload_n (k := 0) dd_194_147 rfl rfl) (am_rs rfl (ok_cv (M' := mi_198) dd_194_148 rfl rfl w_1360 w_1362 ps_198 ⟨lk_198.1, lk_198.2.1, lk_198.2.2, by decide, by decide⟩ rfl) (am_rn rfl (am_rn rfl (am_rs rfl (ok_iload dd_194_151 rfl) (am_rz))))))))
theorem kb_194_19 : am_row mi_194 152 kr_194_19 := am_rn rfl (am_rs rfl (ok_icmp dd_194_153 (by decide) rfl) (am_rn rfl (am_rn rfl (am_rs rfl (ok_aload_n (k := 0) dd_194_156 rfl rfl) (am_rs rfl (ok_cv (M' := mi_198) dd_194_157 rfl rfl w_1360 w_1362 ps_198 ⟨lk_198.1, lk_198.2.1, lk_198.2.2, by decide, by decide⟩ rfl) (am_rn rfl (am_rn rfl (am_rz))))))))
theorem kb_194_20 : am_row mi_194 160 kr_194_20 := am_rs rfl (ok_goto dd_194_160 (by decide)) (am_rn rfl (am_rn rfl (am_rs rfl (ok_iload dd_194_163 rfl) (am_rn rfl (am_rs rfl (ok_istore dd_194_165 rfl (by decide)) (am_rn rfl (am_rs rfl (ok_iinc dd_194_167 ic_1 rfl (by decide)) (am_rz))))))))
theorem kb_194_21 : am_row mi_194 168 kr_194_21 := am_rn rfl (am_rn rfl (am_rs rfl (ok_goto dd_194_170 (by decide)) (am_rn rfl (am_rn rfl (am_rs rfl (ok_aload_n (k := 0) dd_194_173 rfl rfl) (am_rs rfl (ok_iload dd_194_174 rfl) (am_rn rfl (am_rz))))))))
theorem kb_194_22 : am_row mi_194 176 kr_194_22 := am_rs rfl (ok_cv (M' := mi_196) dd_194_176 rfl rfl w_1352 w_1354 ps_196 ⟨lk_196.1, lk_196.2.1, lk_196.2.2, by decide, by decide⟩ rfl) (am_rn rfl (am_rn rfl (am_rs rfl (ok_iload_n (k := 2) dd_194_179 rfl rfl) (am_rs rfl (ok_ifc dd_194_180 (by decide) rfl) (am_rn rfl (am_rn rfl (am_rs rfl (ok_iload dd_194_183 rfl) (am_rz))))))))
theorem kb_194_23 : am_row mi_194 184 kr_194_23 := am_rn rfl (am_rs rfl (ok_goto dd_194_185 (by decide)) (am_rn rfl (am_rn rfl (am_rs rfl (ok_iload_n (k := 2) dd_194_188 rfl rfl) (am_rs rfl (ok_iconst dd_194_189 ic_1 rfl) (am_rs rfl (ok_icmp dd_194_190 (by decide) rfl) (am_rn rfl (am_rz))))))))
theorem kb_194_24 : am_row mi_194 192 kr_194_24 := am_rn rfl (am_rs rfl (ok_aload_n (k := 0) dd_194_193 rfl rfl) (am_rs rfl (ok_gf dd_194_194 rfl am_ck12 (by decide) (Or.inl w_986)) (am_rn rfl (am_rn rfl (am_rs rfl (ok_iload_n (k := 1) dd_194_197 rfl rfl) (am_rs rfl (ok_iald dd_194_198 rfl) (am_rs rfl (ok_goto dd_194_199 (by decide)) (am_rz))))))))
theorem kb_194_25 : am_row mi_194 200 kr_194_25 := am_rn rfl (am_rn rfl (am_rs rfl (ok_aload_n (k := 0) dd_194_202 rfl rfl) (am_rs rfl (ok_gf dd_194_203 rfl am_ck12 (by decide) (Or.inl w_987)) (am_rn rfl (am_rn rfl (am_rs rfl (ok_aload_n (k := 0) dd_194_206 rfl rfl) (am_rs rfl (ok_gf dd_194_207 rfl am_ck12 (by decide) (Or.inl w_948)) (am_rz))))))))
theorem kb_194_26 : am_row mi_194 208 kr_194_26 := am_rn rfl (am_rn rfl (am_rs rfl (ok_iconst dd_194_210 ic_2 rfl) (am_rs rfl (ok_iload_n (k := 1) dd_194_211 rfl rfl) (am_rs rfl (ok_imul dd_194_212 rfl) (am_rs rfl (ok_iconst dd_194_213 ic_1 rfl) (am_rs rfl (ok_iadd dd_194_214 rfl) (am_rs rfl (ok_iald dd_194_215 rfl) (am_rz))))))))
theorem kb_194_27 : am_row mi_194 216 kr_194_27 := am_rs rfl (ok_iald dd_194_216 rfl) (am_rs rfl (ok_iret dd_194_217 rfl) (am_rz))
theorem ck_194 : am_rows mi_194 0 cd_194 := am_bs rfl kb_194_0 (am_bs rfl kb_194_1 (am_bs rfl kb_194_2 (am_bs rfl kb_194_3 (am_bs rfl kb_194_4 (am_bs rfl kb_194_5 (am_bs rfl kb_194_6 (am_bs rfl kb_194_7 (am_bs rfl kb_194_8 (am_bs rfl kb_194_9 (am_bs rfl kb_194_10 (am_bs rfl kb_194_11 (am_bs rfl kb_194_12 (am_bs rfl kb_194_13 (am_bs rfl kb_194_14 (am_bs rfl kb_194_15 (am_bs rfl kb_194_16 (am_bs rfl kb_194_17 (am_bs rfl kb_194_18 (am_bs rfl kb_194_19 (am_bs rfl kb_194_20 (am_bs rfl kb_194_21 (am_bs rfl kb_194_22 (am_bs rfl kb_194_23 (am_bs rfl kb_194_24 (am_bs rfl kb_194_25 (am_bs rfl kb_194_26 (am_bs rfl kb_194_27 (am_bz))))))))))))))))))))))))))))
/-- OverAndBackModel.turns()I -/
noncomputable def kr_195_0 : List (Option am_Op) := [some (am_ald0 0 1), some (am_gf 12 0 4), none, none, some (am_psh (.retAddr 9) 6), none, some (am_bin am_add 7), some (am_psh (.retAddr 10) 9)]
noncomputable def kr_195_1 : List (Option am_Op) := [none, some (am_bin2 Nat.div 10), some (am_iret)]
noncomputable def cd_195 : am_Cd := [kr_195_0, kr_195_1]
theorem dd_195_0 : decode prog_14_method_67_code 0 = .ok (.aload_n 0, 1) := by decide +kernel
theorem dd_195_1 : decode prog_14_method_67_code 1 = .ok (.getfield 7, 3) := by decide +kernel
theorem dd_195_4 : decode prog_14_method_67_code 4 = .ok (.bipush 9, 2) := by decide +kernel
theorem dd_195_6 : decode prog_14_method_67_code 6 = .ok (.iadd, 1) := by decide +kernel
theorem dd_195_7 : decode prog_14_method_67_code 7 = .ok (.bipush 10, 2) := by decide +kernel
theorem dd_195_9 : decode prog_14_method_67_code 9 = .ok (.idiv, 1) := by decide +kernel
theorem dd_195_10 : decode prog_14_method_67_code 10 = .ok (.ireturn, 1) := by decide +kernel
theorem kb_195_0 : am_row mi_195 0 kr_195_0 := am_rs rfl (ok_aload_n (k := 0) dd_195_0 rfl rfl) (am_rs rfl (ok_gf dd_195_1 rfl am_ck12 (by decide) (Or.inl w_935)) (am_rn rfl (am_rn rfl (am_rs rfl (ok_bipush dd_195_4 bi_9 rfl) (am_rn rfl (am_rs rfl (ok_iadd dd_195_6 rfl) (am_rs rfl (ok_bipush dd_195_7 bi_10 rfl) (am_rz))))))))
theorem kb_195_1 : am_row mi_195 8 kr_195_1 := am_rn rfl (am_rs rfl (ok_idiv dd_195_9 rfl) (am_rs rfl (ok_iret dd_195_10 rfl) (am_rz)))
theorem ck_195 : am_rows mi_195 0 cd_195 := am_bs rfl kb_195_0 (am_bs rfl kb_195_1 (am_bz))
/-- OverAndBackModel.holds(I)V -/
noncomputable def kr_196_0 : List (Option am_Op) := [some (am_ild 1 1), some (am_ist 2 2), some (am_ald0 0 3), some (am_cv 195 0 12 6), none, none, some (am_psh (.retAddr 1) 7), some (am_bin am_sub 8)]
noncomputable def kr_196_1 : List (Option am_Op) := [some (am_ist 3 9), some (am_ild 3 10), some (am_br1 .lt 38 13), none, none, some (am_ald0 0 14), some (am_gf 12 51 17), none]
noncomputable def kr_196_2 : List (Option am_Op) := [none, some (am_ild 3 18), some (am_ild 2 19), some (am_ald0 0 20), some (am_gf 12 12 23), none, none, some (am_bin2 Nat.mod 24)]
noncomputable def kr_196_3 : List (Option am_Op) := [some (am_ast 0 (fun v => v) 25), some (am_ild 2 26), some (am_ald0 0 27), some (am_gf 12 12 30), none, none, some (am_bin2 Nat.div 31), some (am_ist 2 32)]
noncomputable def kr_196_4 : List (Option am_Op) := [some (am_inc 3 4294967295 35), none, none, some (am_jmp 9), none, none, some (am_ald0 0 39), some (am_cv 197 0 12 42)]
noncomputable def kr_196_5 : List (Option am_Op) := [none, none, some (am_vret)]
noncomputable def cd_196 : am_Cd := [kr_196_0, kr_196_1, kr_196_2, kr_196_3, kr_196_4, kr_196_5]
theorem dd_196_0 : decode prog_14_method_69_code 0 = .ok (.iload_n 1, 1) := by decide +kernel
theorem dd_196_1 : decode prog_14_method_69_code 1 = .ok (.istore_n 2, 1) := by decide +kernel
theorem dd_196_2 : decode prog_14_method_69_code 2 = .ok (.aload_n 0, 1) := by decide +kernel
theorem dd_196_3 : decode prog_14_method_69_code 3 = .ok (.invokevirtual 337, 3) := by decide +kernel
theorem dd_196_6 : decode prog_14_method_69_code 6 = .ok (.iconst 1, 1) := by decide +kernel
theorem dd_196_7 : decode prog_14_method_69_code 7 = .ok (.isub, 1) := by decide +kernel
theorem dd_196_8 : decode prog_14_method_69_code 8 = .ok (.istore_n 3, 1) := by decide +kernel
theorem dd_196_9 : decode prog_14_method_69_code 9 = .ok (.iload_n 3, 1) := by decide +kernel
theorem dd_196_10 : decode prog_14_method_69_code 10 = .ok (.ifCond .lt 28, 3) := by decide +kernel
theorem dd_196_13 : decode prog_14_method_69_code 13 = .ok (.aload_n 0, 1) := by decide +kernel
theorem dd_196_14 : decode prog_14_method_69_code 14 = .ok (.getfield 103, 3) := by decide +kernel
theorem dd_196_17 : decode prog_14_method_69_code 17 = .ok (.iload_n 3, 1) := by decide +kernel
theorem dd_196_18 : decode prog_14_method_69_code 18 = .ok (.iload_n 2, 1) := by decide +kernel
theorem dd_196_19 : decode prog_14_method_69_code 19 = .ok (.aload_n 0, 1) := by decide +kernel
theorem dd_196_20 : decode prog_14_method_69_code 20 = .ok (.getfield 44, 3) := by decide +kernel
theorem dd_196_23 : decode prog_14_method_69_code 23 = .ok (.irem, 1) := by decide +kernel
theorem dd_196_24 : decode prog_14_method_69_code 24 = .ok (.iastore, 1) := by decide +kernel
theorem dd_196_25 : decode prog_14_method_69_code 25 = .ok (.iload_n 2, 1) := by decide +kernel
theorem dd_196_26 : decode prog_14_method_69_code 26 = .ok (.aload_n 0, 1) := by decide +kernel
theorem dd_196_27 : decode prog_14_method_69_code 27 = .ok (.getfield 44, 3) := by decide +kernel
theorem dd_196_30 : decode prog_14_method_69_code 30 = .ok (.idiv, 1) := by decide +kernel
theorem dd_196_31 : decode prog_14_method_69_code 31 = .ok (.istore_n 2, 1) := by decide +kernel
theorem dd_196_32 : decode prog_14_method_69_code 32 = .ok (.iinc 3 (-1), 3) := by decide +kernel
theorem dd_196_35 : decode prog_14_method_69_code 35 = .ok (.goto (-26), 3) := by decide +kernel
theorem dd_196_38 : decode prog_14_method_69_code 38 = .ok (.aload_n 0, 1) := by decide +kernel
theorem dd_196_39 : decode prog_14_method_69_code 39 = .ok (.invokevirtual 340, 3) := by decide +kernel
theorem dd_196_42 : decode prog_14_method_69_code 42 = .ok (.return_, 1) := by decide +kernel
theorem kb_196_0 : am_row mi_196 0 kr_196_0 := am_rs rfl (ok_iload_n (k := 1) dd_196_0 rfl rfl) (am_rs rfl (ok_istore_n (k := 2) dd_196_1 rfl rfl (by decide)) (am_rs rfl (ok_aload_n (k := 0) dd_196_2 rfl rfl) (am_rs rfl (ok_cv (M' := mi_195) dd_196_3 rfl rfl w_1348 w_1350 ps_195 ⟨lk_195.1, lk_195.2.1, lk_195.2.2, by decide, by decide⟩ rfl) (am_rn rfl (am_rn rfl (am_rs rfl (ok_iconst dd_196_6 ic_1 rfl) (am_rs rfl (ok_isub dd_196_7 rfl) (am_rz))))))))
theorem kb_196_1 : am_row mi_196 8 kr_196_1 := am_rs rfl (ok_istore_n (k := 3) dd_196_8 rfl rfl (by decide)) (am_rs rfl (ok_iload_n (k := 3) dd_196_9 rfl rfl) (am_rs rfl (ok_ifc dd_196_10 (by decide) rfl) (am_rn rfl (am_rn rfl (am_rs rfl (ok_aload_n (k := 0) dd_196_13 rfl rfl) (am_rs rfl (ok_gf dd_196_14 rfl am_ck12 (by decide) (Or.inl w_986)) (am_rn rfl (am_rz))))))))
theorem kb_196_2 : am_row mi_196 16 kr_196_2 := am_rn rfl (am_rs rfl (ok_iload_n (k := 3) dd_196_17 rfl rfl) (am_rs rfl (ok_iload_n (k := 2) dd_196_18 rfl rfl) (am_rs rfl (ok_aload_n (k := 0) dd_196_19 rfl rfl) (am_rs rfl (ok_gf dd_196_20 rfl am_ck12 (by decide) (Or.inl w_947)) (am_rn rfl (am_rn rfl (am_rs rfl (ok_irem dd_196_23 rfl) (am_rz))))))))
theorem kb_196_3 : am_row mi_196 24 kr_196_3 := am_rs rfl (ok_iast dd_196_24 rfl) (am_rs rfl (ok_iload_n (k := 2) dd_196_25 rfl rfl) (am_rs rfl (ok_aload_n (k := 0) dd_196_26 rfl rfl) (am_rs rfl (ok_gf dd_196_27 rfl am_ck12 (by decide) (Or.inl w_947)) (am_rn rfl (am_rn rfl (am_rs rfl (ok_idiv dd_196_30 rfl) (am_rs rfl (ok_istore_n (k := 2) dd_196_31 rfl rfl (by decide)) (am_rz))))))))
theorem kb_196_4 : am_row mi_196 32 kr_196_4 := am_rs rfl (ok_iinc dd_196_32 ic_m1 rfl (by decide)) (am_rn rfl (am_rn rfl (am_rs rfl (ok_goto dd_196_35 (by decide)) (am_rn rfl (am_rn rfl (am_rs rfl (ok_aload_n (k := 0) dd_196_38 rfl rfl) (am_rs rfl (ok_cv (M' := mi_197) dd_196_39 rfl rfl w_1356 w_1358 ps_197 ⟨lk_197.1, lk_197.2.1, lk_197.2.2, by decide, by decide⟩ rfl) (am_rz))))))))
theorem kb_196_5 : am_row mi_196 40 kr_196_5 := am_rn rfl (am_rn rfl (am_rs rfl (ok_vret dd_196_42 rfl) (am_rz)))
theorem ck_196 : am_rows mi_196 0 cd_196 := am_bs rfl kb_196_0 (am_bs rfl kb_196_1 (am_bs rfl kb_196_2 (am_bs rfl kb_196_3 (am_bs rfl kb_196_4 (am_bs rfl kb_196_5 (am_bz))))))
/-- OverAndBackModel.shows()V -/
noncomputable def kr_197_0 : List (Option am_Op) := [some (am_psh (.retAddr 0) 1), some (am_ist 1 2), some (am_ild 1 3), some (am_psh (.retAddr 4) 4), some (am_br2 .ge 20 7), none, none, some (am_ald0 0 8)]
noncomputable def kr_197_1 : List (Option am_Op) := [some (am_gf 12 52 11), none, none, some (am_ild 1 12), some (am_psh (.retAddr 0) 13), some (am_ast 0 (fun v => v) 14), some (am_inc 1 1 17), none]
noncomputable def kr_197_2 : List (Option am_Op) := [none, some (am_jmp 2), none, none, some (am_psh (.retAddr 0) 21), some (am_ist 1 22), some (am_ild 1 23), some (am_ald0 0 24)]
noncomputable def kr_197_3 : List (Option am_Op) := [some (am_cv 195 0 12 27), none, none, some (am_br2 .ge 169 30), none, none, some (am_ald0 0 31), some (am_gf 12 13 34)]
noncomputable def kr_197_4 : List (Option am_Op) := [none, none, some (am_psh (.retAddr 2) 35), some (am_ald0 0 36), some (am_gf 12 51 39), none, none, some (am_ild 1 40)]
noncomputable def kr_197_5 : List (Option am_Op) := [some (am_ald 0 41), some (am_bin am_mul 42), some (am_psh (.retAddr 1) 43), some (am_bin am_add 44), some (am_ald 0 45), some (am_ist 2 46), some (am_ild 1 47), some (am_br1 .le 75 50)]
noncomputable def kr_197_6 : List (Option am_Op) := [none, none, some (am_ald0 0 51), some (am_gf 12 13 54), none, none, some (am_psh (.retAddr 2) 55), some (am_ald0 0 56)]
noncomputable def kr_197_7 : List (Option am_Op) := [some (am_gf 12 51 59), none, none, some (am_ild 1 60), some (am_psh (.retAddr 1) 61), some (am_bin am_sub 62), some (am_ald 0 63), some (am_bin am_mul 64)]
noncomputable def kr_197_8 : List (Option am_Op) := [some (am_psh (.retAddr 1) 65), some (am_bin am_add 66), some (am_ald 0 67), some (am_ild 2 68), some (am_br2 .eq 75 71), none, none, some (am_psh (.retAddr 1) 72)]
noncomputable def kr_197_9 : List (Option am_Op) := [some (am_jmp 76), none, none, some (am_psh (.retAddr 0) 76), some (am_ist 3 77), some (am_psh (.retAddr 10) 79), none, some (am_ild 1 80)]
noncomputable def kr_197_10 : List (Option am_Op) := [some (am_bin am_mul 81), some (am_psh (.retAddr 10) 83), none, some (am_bin am_add 84), some (am_ald0 0 85), some (am_gf 12 0 88), none, none]
noncomputable def kr_197_11 : List (Option am_Op) := [some (am_br2 .ge 101 91), none, none, some (am_psh (.retAddr 10) 93), none, some (am_ild 1 94), some (am_bin am_mul 95), some (am_psh (.retAddr 10) 97)]
noncomputable def kr_197_12 : List (Option am_Op) := [none, some (am_bin am_add 98), some (am_jmp 105), none, none, some (am_ald0 0 102), some (am_gf 12 0 105), none]
noncomputable def kr_197_13 : List (Option am_Op) := [none, some (am_ist 4 107), none, some (am_ild 3 108), some (am_br1 .eq 123 111), none, none, some (am_psh (.retAddr 10) 113)]
noncomputable def kr_197_14 : List (Option am_Op) := [none, some (am_ild 1 114), some (am_bin am_mul 115), some (am_ald0 0 116), some (am_gf 12 1 119), none, none, some (am_bin am_add 120)]
noncomputable def kr_197_15 : List (Option am_Op) := [some (am_jmp 127), none, none, some (am_psh (.retAddr 10) 125), none, some (am_ild 1 126), some (am_bin am_mul 127), some (am_ist 5 129)]
noncomputable def kr_197_16 : List (Option am_Op) := [none, some (am_ild 5 131), none, some (am_ild 4 133), none, some (am_br2 .ge 163 136), none, none]
noncomputable def kr_197_17 : List (Option am_Op) := [some (am_ald0 0 137), some (am_gf 12 52 140), none, none, some (am_ild 2 141), some (am_dup2 142), some (am_ald 0 143), some (am_ald0 0 144)]
noncomputable def kr_197_18 : List (Option am_Op) := [some (am_gf 12 32 147), none, none, some (am_psh (.retAddr 64) 149), none, some (am_ild 2 150), some (am_bin am_mul 151), some (am_ild 5 153)]
noncomputable def kr_197_19 : List (Option am_Op) := [none, some (am_bin am_add 154), some (am_ald 0 155), some (am_bin am_add 156), some (am_ast 0 (fun v => v) 157), some (am_inc 5 1 160), none, none]
noncomputable def kr_197_20 : List (Option am_Op) := [some (am_jmp 129), none, none, some (am_inc 1 1 166), none, none, some (am_jmp 22), none]
noncomputable def kr_197_21 : List (Option am_Op) := [none, some (am_vret)]
noncomputable def cd_197 : am_Cd := [kr_197_0, kr_197_1, kr_197_2, kr_197_3, kr_197_4, kr_197_5, kr_197_6, kr_197_7, kr_197_8, kr_197_9, kr_197_10, kr_197_11, kr_197_12, kr_197_13, kr_197_14, kr_197_15, kr_197_16, kr_197_17, kr_197_18, kr_197_19, kr_197_20, kr_197_21]
theorem dd_197_0 : decode prog_14_method_68_code 0 = .ok (.iconst 0, 1) := by decide +kernel
theorem dd_197_1 : decode prog_14_method_68_code 1 = .ok (.istore_n 1, 1) := by decide +kernel
theorem dd_197_2 : decode prog_14_method_68_code 2 = .ok (.iload_n 1, 1) := by decide +kernel
theorem dd_197_3 : decode prog_14_method_68_code 3 = .ok (.iconst 4, 1) := by decide +kernel
theorem dd_197_4 : decode prog_14_method_68_code 4 = .ok (.if_icmp .ge 16, 3) := by decide +kernel
theorem dd_197_7 : decode prog_14_method_68_code 7 = .ok (.aload_n 0, 1) := by decide +kernel
theorem dd_197_8 : decode prog_14_method_68_code 8 = .ok (.getfield 106, 3) := by decide +kernel
theorem dd_197_11 : decode prog_14_method_68_code 11 = .ok (.iload_n 1, 1) := by decide +kernel
theorem dd_197_12 : decode prog_14_method_68_code 12 = .ok (.iconst 0, 1) := by decide +kernel
theorem dd_197_13 : decode prog_14_method_68_code 13 = .ok (.iastore, 1) := by decide +kernel
theorem dd_197_14 : decode prog_14_method_68_code 14 = .ok (.iinc 1 1, 3) := by decide +kernel
theorem dd_197_17 : decode prog_14_method_68_code 17 = .ok (.goto (-15), 3) := by decide +kernel
theorem dd_197_20 : decode prog_14_method_68_code 20 = .ok (.iconst 0, 1) := by decide +kernel
theorem dd_197_21 : decode prog_14_method_68_code 21 = .ok (.istore_n 1, 1) := by decide +kernel
theorem dd_197_22 : decode prog_14_method_68_code 22 = .ok (.iload_n 1, 1) := by decide +kernel
theorem dd_197_23 : decode prog_14_method_68_code 23 = .ok (.aload_n 0, 1) := by decide +kernel
theorem dd_197_24 : decode prog_14_method_68_code 24 = .ok (.invokevirtual 337, 3) := by decide +kernel
theorem dd_197_27 : decode prog_14_method_68_code 27 = .ok (.if_icmp .ge 142, 3) := by decide +kernel
theorem dd_197_30 : decode prog_14_method_68_code 30 = .ok (.aload_n 0, 1) := by decide +kernel
theorem dd_197_31 : decode prog_14_method_68_code 31 = .ok (.getfield 47, 3) := by decide +kernel
theorem dd_197_34 : decode prog_14_method_68_code 34 = .ok (.iconst 2, 1) := by decide +kernel
theorem dd_197_35 : decode prog_14_method_68_code 35 = .ok (.aload_n 0, 1) := by decide +kernel
theorem dd_197_36 : decode prog_14_method_68_code 36 = .ok (.getfield 103, 3) := by decide +kernel
theorem dd_197_39 : decode prog_14_method_68_code 39 = .ok (.iload_n 1, 1) := by decide +kernel
theorem dd_197_40 : decode prog_14_method_68_code 40 = .ok (.iaload, 1) := by decide +kernel
theorem dd_197_41 : decode prog_14_method_68_code 41 = .ok (.imul, 1) := by decide +kernel
theorem dd_197_42 : decode prog_14_method_68_code 42 = .ok (.iconst 1, 1) := by decide +kernel
theorem dd_197_43 : decode prog_14_method_68_code 43 = .ok (.iadd, 1) := by decide +kernel
theorem dd_197_44 : decode prog_14_method_68_code 44 = .ok (.iaload, 1) := by decide +kernel
theorem dd_197_45 : decode prog_14_method_68_code 45 = .ok (.istore_n 2, 1) := by decide +kernel
theorem dd_197_46 : decode prog_14_method_68_code 46 = .ok (.iload_n 1, 1) := by decide +kernel
theorem dd_197_47 : decode prog_14_method_68_code 47 = .ok (.ifCond .le 28, 3) := by decide +kernel
theorem dd_197_50 : decode prog_14_method_68_code 50 = .ok (.aload_n 0, 1) := by decide +kernel
theorem dd_197_51 : decode prog_14_method_68_code 51 = .ok (.getfield 47, 3) := by decide +kernel
theorem dd_197_54 : decode prog_14_method_68_code 54 = .ok (.iconst 2, 1) := by decide +kernel
theorem dd_197_55 : decode prog_14_method_68_code 55 = .ok (.aload_n 0, 1) := by decide +kernel
theorem dd_197_56 : decode prog_14_method_68_code 56 = .ok (.getfield 103, 3) := by decide +kernel
theorem dd_197_59 : decode prog_14_method_68_code 59 = .ok (.iload_n 1, 1) := by decide +kernel
theorem dd_197_60 : decode prog_14_method_68_code 60 = .ok (.iconst 1, 1) := by decide +kernel
theorem dd_197_61 : decode prog_14_method_68_code 61 = .ok (.isub, 1) := by decide +kernel
theorem dd_197_62 : decode prog_14_method_68_code 62 = .ok (.iaload, 1) := by decide +kernel
theorem dd_197_63 : decode prog_14_method_68_code 63 = .ok (.imul, 1) := by decide +kernel
theorem dd_197_64 : decode prog_14_method_68_code 64 = .ok (.iconst 1, 1) := by decide +kernel
theorem dd_197_65 : decode prog_14_method_68_code 65 = .ok (.iadd, 1) := by decide +kernel
theorem dd_197_66 : decode prog_14_method_68_code 66 = .ok (.iaload, 1) := by decide +kernel
theorem dd_197_67 : decode prog_14_method_68_code 67 = .ok (.iload_n 2, 1) := by decide +kernel
theorem dd_197_68 : decode prog_14_method_68_code 68 = .ok (.if_icmp .eq 7, 3) := by decide +kernel
theorem dd_197_71 : decode prog_14_method_68_code 71 = .ok (.iconst 1, 1) := by decide +kernel
theorem dd_197_72 : decode prog_14_method_68_code 72 = .ok (.goto 4, 3) := by decide +kernel
theorem dd_197_75 : decode prog_14_method_68_code 75 = .ok (.iconst 0, 1) := by decide +kernel
theorem dd_197_76 : decode prog_14_method_68_code 76 = .ok (.istore_n 3, 1) := by decide +kernel
theorem dd_197_77 : decode prog_14_method_68_code 77 = .ok (.bipush 10, 2) := by decide +kernel
theorem dd_197_79 : decode prog_14_method_68_code 79 = .ok (.iload_n 1, 1) := by decide +kernel
theorem dd_197_80 : decode prog_14_method_68_code 80 = .ok (.imul, 1) := by decide +kernel
theorem dd_197_81 : decode prog_14_method_68_code 81 = .ok (.bipush 10, 2) := by decide +kernel
theorem dd_197_83 : decode prog_14_method_68_code 83 = .ok (.iadd, 1) := by decide +kernel
theorem dd_197_84 : decode prog_14_method_68_code 84 = .ok (.aload_n 0, 1) := by decide +kernel
theorem dd_197_85 : decode prog_14_method_68_code 85 = .ok (.getfield 7, 3) := by decide +kernel
theorem dd_197_88 : decode prog_14_method_68_code 88 = .ok (.if_icmp .ge 13, 3) := by decide +kernel
theorem dd_197_91 : decode prog_14_method_68_code 91 = .ok (.bipush 10, 2) := by decide +kernel
theorem dd_197_93 : decode prog_14_method_68_code 93 = .ok (.iload_n 1, 1) := by decide +kernel
theorem dd_197_94 : decode prog_14_method_68_code 94 = .ok (.imul, 1) := by decide +kernel
theorem dd_197_95 : decode prog_14_method_68_code 95 = .ok (.bipush 10, 2) := by decide +kernel
theorem dd_197_97 : decode prog_14_method_68_code 97 = .ok (.iadd, 1) := by decide +kernel
theorem dd_197_98 : decode prog_14_method_68_code 98 = .ok (.goto 7, 3) := by decide +kernel
theorem dd_197_101 : decode prog_14_method_68_code 101 = .ok (.aload_n 0, 1) := by decide +kernel
theorem dd_197_102 : decode prog_14_method_68_code 102 = .ok (.getfield 7, 3) := by decide +kernel
theorem dd_197_105 : decode prog_14_method_68_code 105 = .ok (.istore 4, 2) := by decide +kernel
theorem dd_197_107 : decode prog_14_method_68_code 107 = .ok (.iload_n 3, 1) := by decide +kernel
theorem dd_197_108 : decode prog_14_method_68_code 108 = .ok (.ifCond .eq 15, 3) := by decide +kernel
theorem dd_197_111 : decode prog_14_method_68_code 111 = .ok (.bipush 10, 2) := by decide +kernel
theorem dd_197_113 : decode prog_14_method_68_code 113 = .ok (.iload_n 1, 1) := by decide +kernel
theorem dd_197_114 : decode prog_14_method_68_code 114 = .ok (.imul, 1) := by decide +kernel
theorem dd_197_115 : decode prog_14_method_68_code 115 = .ok (.aload_n 0, 1) := by decide +kernel
theorem dd_197_116 : decode prog_14_method_68_code 116 = .ok (.getfield 13, 3) := by decide +kernel
theorem dd_197_119 : decode prog_14_method_68_code 119 = .ok (.iadd, 1) := by decide +kernel
theorem dd_197_120 : decode prog_14_method_68_code 120 = .ok (.goto 7, 3) := by decide +kernel
theorem dd_197_123 : decode prog_14_method_68_code 123 = .ok (.bipush 10, 2) := by decide +kernel
theorem dd_197_125 : decode prog_14_method_68_code 125 = .ok (.iload_n 1, 1) := by decide +kernel
theorem dd_197_126 : decode prog_14_method_68_code 126 = .ok (.imul, 1) := by decide +kernel
theorem dd_197_127 : decode prog_14_method_68_code 127 = .ok (.istore 5, 2) := by decide +kernel
theorem dd_197_129 : decode prog_14_method_68_code 129 = .ok (.iload 5, 2) := by decide +kernel
theorem dd_197_131 : decode prog_14_method_68_code 131 = .ok (.iload 4, 2) := by decide +kernel
theorem dd_197_133 : decode prog_14_method_68_code 133 = .ok (.if_icmp .ge 30, 3) := by decide +kernel
theorem dd_197_136 : decode prog_14_method_68_code 136 = .ok (.aload_n 0, 1) := by decide +kernel
theorem dd_197_137 : decode prog_14_method_68_code 137 = .ok (.getfield 106, 3) := by decide +kernel
theorem dd_197_140 : decode prog_14_method_68_code 140 = .ok (.iload_n 2, 1) := by decide +kernel
theorem dd_197_141 : decode prog_14_method_68_code 141 = .ok (.dup2, 1) := by decide +kernel
theorem dd_197_142 : decode prog_14_method_68_code 142 = .ok (.iaload, 1) := by decide +kernel
theorem dd_197_143 : decode prog_14_method_68_code 143 = .ok (.aload_n 0, 1) := by decide +kernel
theorem dd_197_144 : decode prog_14_method_68_code 144 = .ok (.getfield 74, 3) := by decide +kernel
theorem dd_197_147 : decode prog_14_method_68_code 147 = .ok (.bipush 64, 2) := by decide +kernel
theorem dd_197_149 : decode prog_14_method_68_code 149 = .ok (.iload_n 2, 1) := by decide +kernel
theorem dd_197_150 : decode prog_14_method_68_code 150 = .ok (.imul, 1) := by decide +kernel
theorem dd_197_151 : decode prog_14_method_68_code 151 = .ok (.iload 5, 2) := by decide +kernel
theorem dd_197_153 : decode prog_14_method_68_code 153 = .ok (.iadd, 1) := by decide +kernel
theorem dd_197_154 : decode prog_14_method_68_code 154 = .ok (.iaload, 1) := by decide +kernel
theorem dd_197_155 : decode prog_14_method_68_code 155 = .ok (.iadd, 1) := by decide +kernel
theorem dd_197_156 : decode prog_14_method_68_code 156 = .ok (.iastore, 1) := by decide +kernel
theorem dd_197_157 : decode prog_14_method_68_code 157 = .ok (.iinc 5 1, 3) := by decide +kernel
theorem dd_197_160 : decode prog_14_method_68_code 160 = .ok (.goto (-31), 3) := by decide +kernel
theorem dd_197_163 : decode prog_14_method_68_code 163 = .ok (.iinc 1 1, 3) := by decide +kernel
theorem dd_197_166 : decode prog_14_method_68_code 166 = .ok (.goto (-144), 3) := by decide +kernel
theorem dd_197_169 : decode prog_14_method_68_code 169 = .ok (.return_, 1) := by decide +kernel
theorem kb_197_0 : am_row mi_197 0 kr_197_0 := am_rs rfl (ok_iconst dd_197_0 ic_0 rfl) (am_rs rfl (ok_istore_n (k := 1) dd_197_1 rfl rfl (by decide)) (am_rs rfl (ok_iload_n (k := 1) dd_197_2 rfl rfl) (am_rs rfl (ok_iconst dd_197_3 ic_4 rfl) (am_rs rfl (ok_icmp dd_197_4 (by decide) rfl) (am_rn rfl (am_rn rfl (am_rs rfl (ok_aload_n (k := 0) dd_197_7 rfl rfl) (am_rz))))))))
theorem kb_197_1 : am_row mi_197 8 kr_197_1 := am_rs rfl (ok_gf dd_197_8 rfl am_ck12 (by decide) (Or.inl w_987)) (am_rn rfl (am_rn rfl (am_rs rfl (ok_iload_n (k := 1) dd_197_11 rfl rfl) (am_rs rfl (ok_iconst dd_197_12 ic_0 rfl) (am_rs rfl (ok_iast dd_197_13 rfl) (am_rs rfl (ok_iinc dd_197_14 ic_1 rfl (by decide)) (am_rn rfl (am_rz))))))))
theorem kb_197_2 : am_row mi_197 16 kr_197_2 := am_rn rfl (am_rs rfl (ok_goto dd_197_17 (by decide)) (am_rn rfl (am_rn rfl (am_rs rfl (ok_iconst dd_197_20 ic_0 rfl) (am_rs rfl (ok_istore_n (k := 1) dd_197_21 rfl rfl (by decide)) (am_rs rfl (ok_iload_n (k := 1) dd_197_22 rfl rfl) (am_rs rfl (ok_aload_n (k := 0) dd_197_23 rfl rfl) (am_rz))))))))
theorem kb_197_3 : am_row mi_197 24 kr_197_3 := am_rs rfl (ok_cv (M' := mi_195) dd_197_24 rfl rfl w_1348 w_1350 ps_195 ⟨lk_195.1, lk_195.2.1, lk_195.2.2, by decide, by decide⟩ rfl) (am_rn rfl (am_rn rfl (am_rs rfl (ok_icmp dd_197_27 (by decide) rfl) (am_rn rfl (am_rn rfl (am_rs rfl (ok_aload_n (k := 0) dd_197_30 rfl rfl) (am_rs rfl (ok_gf dd_197_31 rfl am_ck12 (by decide) (Or.inl w_948)) (am_rz))))))))
theorem kb_197_4 : am_row mi_197 32 kr_197_4 := am_rn rfl (am_rn rfl (am_rs rfl (ok_iconst dd_197_34 ic_2 rfl) (am_rs rfl (ok_aload_n (k := 0) dd_197_35 rfl rfl) (am_rs rfl (ok_gf dd_197_36 rfl am_ck12 (by decide) (Or.inl w_986)) (am_rn rfl (am_rn rfl (am_rs rfl (ok_iload_n (k := 1) dd_197_39 rfl rfl) (am_rz))))))))
theorem kb_197_5 : am_row mi_197 40 kr_197_5 := am_rs rfl (ok_iald dd_197_40 rfl) (am_rs rfl (ok_imul dd_197_41 rfl) (am_rs rfl (ok_iconst dd_197_42 ic_1 rfl) (am_rs rfl (ok_iadd dd_197_43 rfl) (am_rs rfl (ok_iald dd_197_44 rfl) (am_rs rfl (ok_istore_n (k := 2) dd_197_45 rfl rfl (by decide)) (am_rs rfl (ok_iload_n (k := 1) dd_197_46 rfl rfl) (am_rs rfl (ok_ifc dd_197_47 (by decide) rfl) (am_rz))))))))
theorem kb_197_6 : am_row mi_197 48 kr_197_6 := am_rn rfl (am_rn rfl (am_rs rfl (ok_aload_n (k := 0) dd_197_50 rfl rfl) (am_rs rfl (ok_gf dd_197_51 rfl am_ck12 (by decide) (Or.inl w_948)) (am_rn rfl (am_rn rfl (am_rs rfl (ok_iconst dd_197_54 ic_2 rfl) (am_rs rfl (ok_aload_n (k := 0) dd_197_55 rfl rfl) (am_rz))))))))
theorem kb_197_7 : am_row mi_197 56 kr_197_7 := am_rs rfl (ok_gf dd_197_56 rfl am_ck12 (by decide) (Or.inl w_986)) (am_rn rfl (am_rn rfl (am_rs rfl (ok_iload_n (k := 1) dd_197_59 rfl rfl) (am_rs rfl (ok_iconst dd_197_60 ic_1 rfl) (am_rs rfl (ok_isub dd_197_61 rfl) (am_rs rfl (ok_iald dd_197_62 rfl) (am_rs rfl (ok_imul dd_197_63 rfl) (am_rz))))))))
theorem kb_197_8 : am_row mi_197 64 kr_197_8 := am_rs rfl (ok_iconst dd_197_64 ic_1 rfl) (am_rs rfl (ok_iadd dd_197_65 rfl) (am_rs rfl (ok_iald dd_197_66 rfl) (am_rs rfl (ok_iload_n (k := 2) dd_197_67 rfl rfl) (am_rs rfl (ok_icmp dd_197_68 (by decide) rfl) (am_rn rfl (am_rn rfl (am_rs rfl (ok_iconst dd_197_71 ic_1 rfl) (am_rz))))))))
theorem kb_197_9 : am_row mi_197 72 kr_197_9 := am_rs rfl (ok_goto dd_197_72 (by decide)) (am_rn rfl (am_rn rfl (am_rs rfl (ok_iconst dd_197_75 ic_0 rfl) (am_rs rfl (ok_istore_n (k := 3) dd_197_76 rfl rfl (by decide)) (am_rs rfl (ok_bipush dd_197_77 bi_10 rfl) (am_rn rfl (am_rs rfl (ok_iload_n (k := 1) dd_197_79 rfl rfl) (am_rz))))))))
theorem kb_197_10 : am_row mi_197 80 kr_197_10 := am_rs rfl (ok_imul dd_197_80 rfl) (am_rs rfl (ok_bipush dd_197_81 bi_10 rfl) (am_rn rfl (am_rs rfl (ok_iadd dd_197_83 rfl) (am_rs rfl (ok_aload_n (k := 0) dd_197_84 rfl rfl) (am_rs rfl (ok_gf dd_197_85 rfl am_ck12 (by decide) (Or.inl w_935)) (am_rn rfl (am_rn rfl (am_rz))))))))
theorem kb_197_11 : am_row mi_197 88 kr_197_11 := am_rs rfl (ok_icmp dd_197_88 (by decide) rfl) (am_rn rfl (am_rn rfl (am_rs rfl (ok_bipush dd_197_91 bi_10 rfl) (am_rn rfl (am_rs rfl (ok_iload_n (k := 1) dd_197_93 rfl rfl) (am_rs rfl (ok_imul dd_197_94 rfl) (am_rs rfl (ok_bipush dd_197_95 bi_10 rfl) (am_rz))))))))
theorem kb_197_12 : am_row mi_197 96 kr_197_12 := am_rn rfl (am_rs rfl (ok_iadd dd_197_97 rfl) (am_rs rfl (ok_goto dd_197_98 (by decide)) (am_rn rfl (am_rn rfl (am_rs rfl (ok_aload_n (k := 0) dd_197_101 rfl rfl) (am_rs rfl (ok_gf dd_197_102 rfl am_ck12 (by decide) (Or.inl w_935)) (am_rn rfl (am_rz))))))))
theorem kb_197_13 : am_row mi_197 104 kr_197_13 := am_rn rfl (am_rs rfl (ok_istore dd_197_105 rfl (by decide)) (am_rn rfl (am_rs rfl (ok_iload_n (k := 3) dd_197_107 rfl rfl) (am_rs rfl (ok_ifc dd_197_108 (by decide) rfl) (am_rn rfl (am_rn rfl (am_rs rfl (ok_bipush dd_197_111 bi_10 rfl) (am_rz))))))))
theorem kb_197_14 : am_row mi_197 112 kr_197_14 := am_rn rfl (am_rs rfl (ok_iload_n (k := 1) dd_197_113 rfl rfl) (am_rs rfl (ok_imul dd_197_114 rfl) (am_rs rfl (ok_aload_n (k := 0) dd_197_115 rfl rfl) (am_rs rfl (ok_gf dd_197_116 rfl am_ck12 (by decide) (Or.inl w_936)) (am_rn rfl (am_rn rfl (am_rs rfl (ok_iadd dd_197_119 rfl) (am_rz))))))))
theorem kb_197_15 : am_row mi_197 120 kr_197_15 := am_rs rfl (ok_goto dd_197_120 (by decide)) (am_rn rfl (am_rn rfl (am_rs rfl (ok_bipush dd_197_123 bi_10 rfl) (am_rn rfl (am_rs rfl (ok_iload_n (k := 1) dd_197_125 rfl rfl) (am_rs rfl (ok_imul dd_197_126 rfl) (am_rs rfl (ok_istore dd_197_127 rfl (by decide)) (am_rz))))))))
theorem kb_197_16 : am_row mi_197 128 kr_197_16 := am_rn rfl (am_rs rfl (ok_iload dd_197_129 rfl) (am_rn rfl (am_rs rfl (ok_iload dd_197_131 rfl) (am_rn rfl (am_rs rfl (ok_icmp dd_197_133 (by decide) rfl) (am_rn rfl (am_rn rfl (am_rz))))))))
theorem kb_197_17 : am_row mi_197 136 kr_197_17 := am_rs rfl (ok_aload_n (k := 0) dd_197_136 rfl rfl) (am_rs rfl (ok_gf dd_197_137 rfl am_ck12 (by decide) (Or.inl w_987)) (am_rn rfl (am_rn rfl (am_rs rfl (ok_iload_n (k := 2) dd_197_140 rfl rfl) (am_rs rfl (ok_dup2 dd_197_141 rfl) (am_rs rfl (ok_iald dd_197_142 rfl) (am_rs rfl (ok_aload_n (k := 0) dd_197_143 rfl rfl) (am_rz))))))))
theorem kb_197_18 : am_row mi_197 144 kr_197_18 := am_rs rfl (ok_gf dd_197_144 rfl am_ck12 (by decide) (Or.inl w_967)) (am_rn rfl (am_rn rfl (am_rs rfl (ok_bipush dd_197_147 bi_64 rfl) (am_rn rfl (am_rs rfl (ok_iload_n (k := 2) dd_197_149 rfl rfl) (am_rs rfl (ok_imul dd_197_150 rfl) (am_rs rfl (ok_iload dd_197_151 rfl) (am_rz))))))))
theorem kb_197_19 : am_row mi_197 152 kr_197_19 := am_rn rfl (am_rs rfl (ok_iadd dd_197_153 rfl) (am_rs rfl (ok_iald dd_197_154 rfl) (am_rs rfl (ok_iadd dd_197_155 rfl) (am_rs rfl (ok_iast dd_197_156 rfl) (am_rs rfl (ok_iinc dd_197_157 ic_1 rfl (by decide)) (am_rn rfl (am_rn rfl (am_rz))))))))
theorem kb_197_20 : am_row mi_197 160 kr_197_20 := am_rs rfl (ok_goto dd_197_160 (by decide)) (am_rn rfl (am_rn rfl (am_rs rfl (ok_iinc dd_197_163 ic_1 rfl (by decide)) (am_rn rfl (am_rn rfl (am_rs rfl (ok_goto dd_197_166 (by decide)) (am_rn rfl (am_rz))))))))
theorem kb_197_21 : am_row mi_197 168 kr_197_21 := am_rn rfl (am_rs rfl (ok_vret dd_197_169 rfl) (am_rz))
theorem ck_197 : am_rows mi_197 0 cd_197 := am_bs rfl kb_197_0 (am_bs rfl kb_197_1 (am_bs rfl kb_197_2 (am_bs rfl kb_197_3 (am_bs rfl kb_197_4 (am_bs rfl kb_197_5 (am_bs rfl kb_197_6 (am_bs rfl kb_197_7 (am_bs rfl kb_197_8 (am_bs rfl kb_197_9 (am_bs rfl kb_197_10 (am_bs rfl kb_197_11 (am_bs rfl kb_197_12 (am_bs rfl kb_197_13 (am_bs rfl kb_197_14 (am_bs rfl kb_197_15 (am_bs rfl kb_197_16 (am_bs rfl kb_197_17 (am_bs rfl kb_197_18 (am_bs rfl kb_197_19 (am_bs rfl kb_197_20 (am_bs rfl kb_197_21 (am_bz))))))))))))))))))))))
