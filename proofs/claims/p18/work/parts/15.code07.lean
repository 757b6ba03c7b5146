/-- OverAndBackModel.leastOf()I -/
noncomputable def kr_198_0 : List (Option am_Op) := [some (am_ald0 0 1), some (am_gf 12 52 4), none, none, some (am_ald0 0 5), some (am_gf 12 13 8), none, none]
noncomputable def kr_198_1 : List (Option am_Op) := [some (am_psh (.retAddr 1) 9), some (am_ald 0 10), some (am_ald 0 11), some (am_ist 1 12), some (am_psh (.retAddr 1) 13), some (am_ist 2 14), some (am_ild 2 15), some (am_ald0 0 16)]
noncomputable def kr_198_2 : List (Option am_Op) := [some (am_gf 12 12 19), none, none, some (am_br2 .ge 55 22), none, none, some (am_ald0 0 23), some (am_gf 12 52 26)]
noncomputable def kr_198_3 : List (Option am_Op) := [none, none, some (am_ald0 0 27), some (am_gf 12 13 30), none, none, some (am_psh (.retAddr 2) 31), some (am_ild 2 32)]
noncomputable def kr_198_4 : List (Option am_Op) := [some (am_bin am_mul 33), some (am_psh (.retAddr 1) 34), some (am_bin am_add 35), some (am_ald 0 36), some (am_ald 0 37), some (am_ist 3 38), some (am_ild 3 39), some (am_ild 1 40)]
noncomputable def kr_198_5 : List (Option am_Op) := [some (am_br2 .ge 47 43), none, none, some (am_ild 3 44), some (am_jmp 48), none, none, some (am_ild 1 48)]
noncomputable def kr_198_6 : List (Option am_Op) := [some (am_ist 1 49), some (am_inc 2 1 52), none, none, some (am_jmp 14), none, none, some (am_ild 1 56)]
noncomputable def kr_198_7 : List (Option am_Op) := [some (am_iret)]
noncomputable def cd_198 : am_Cd := [kr_198_0, kr_198_1, kr_198_2, kr_198_3, kr_198_4, kr_198_5, kr_198_6, kr_198_7]
theorem dd_198_0 : decode prog_14_method_70_code 0 = .ok (.aload_n 0, 1) := by decide +kernel
theorem dd_198_1 : decode prog_14_method_70_code 1 = .ok (.getfield 106, 3) := by decide +kernel
theorem dd_198_4 : decode prog_14_method_70_code 4 = .ok (.aload_n 0, 1) := by decide +kernel
theorem dd_198_5 : decode prog_14_method_70_code 5 = .ok (.getfield 47, 3) := by decide +kernel
theorem dd_198_8 : decode prog_14_method_70_code 8 = .ok (.iconst 1, 1) := by decide +kernel
theorem dd_198_9 : decode prog_14_method_70_code 9 = .ok (.iaload, 1) := by decide +kernel
theorem dd_198_10 : decode prog_14_method_70_code 10 = .ok (.iaload, 1) := by decide +kernel
theorem dd_198_11 : decode prog_14_method_70_code 11 = .ok (.istore_n 1, 1) := by decide +kernel
theorem dd_198_12 : decode prog_14_method_70_code 12 = .ok (.iconst 1, 1) := by decide +kernel
theorem dd_198_13 : decode prog_14_method_70_code 13 = .ok (.istore_n 2, 1) := by decide +kernel
theorem dd_198_14 : decode prog_14_method_70_code 14 = .ok (.iload_n 2, 1) := by decide +kernel
theorem dd_198_15 : decode prog_14_method_70_code 15 = .ok (.aload_n 0, 1) := by decide +kernel
theorem dd_198_16 : decode prog_14_method_70_code 16 = .ok (.getfield 44, 3) := by decide +kernel
theorem dd_198_19 : decode prog_14_method_70_code 19 = .ok (.if_icmp .ge 36, 3) := by decide +kernel
theorem dd_198_22 : decode prog_14_method_70_code 22 = .ok (.aload_n 0, 1) := by decide +kernel
theorem dd_198_23 : decode prog_14_method_70_code 23 = .ok (.getfield 106, 3) := by decide +kernel
theorem dd_198_26 : decode prog_14_method_70_code 26 = .ok (.aload_n 0, 1) := by decide +kernel
theorem dd_198_27 : decode prog_14_method_70_code 27 = .ok (.getfield 47, 3) := by decide +kernel
theorem dd_198_30 : decode prog_14_method_70_code 30 = .ok (.iconst 2, 1) := by decide +kernel
theorem dd_198_31 : decode prog_14_method_70_code 31 = .ok (.iload_n 2, 1) := by decide +kernel
theorem dd_198_32 : decode prog_14_method_70_code 32 = .ok (.imul, 1) := by decide +kernel
theorem dd_198_33 : decode prog_14_method_70_code 33 = .ok (.iconst 1, 1) := by decide +kernel
theorem dd_198_34 : decode prog_14_method_70_code 34 = .ok (.iadd, 1) := by decide +kernel
theorem dd_198_35 : decode prog_14_method_70_code 35 = .ok (.iaload, 1) := by decide +kernel
theorem dd_198_36 : decode prog_14_method_70_code 36 = .ok (.iaload, 1) := by decide +kernel
theorem dd_198_37 : decode prog_14_method_70_code 37 = .ok (.istore_n 3, 1) := by decide +kernel
theorem dd_198_38 : decode prog_14_method_70_code 38 = .ok (.iload_n 3, 1) := by decide +kernel
theorem dd_198_39 : decode prog_14_method_70_code 39 = .ok (.iload_n 1, 1) := by decide +kernel
theorem dd_198_40 : decode prog_14_method_70_code 40 = .ok (.if_icmp .ge 7, 3) := by decide +kernel
theorem dd_198_43 : decode prog_14_method_70_code 43 = .ok (.iload_n 3, 1) := by decide +kernel
theorem dd_198_44 : decode prog_14_method_70_code 44 = .ok (.goto 4, 3) := by decide +kernel
theorem dd_198_47 : decode prog_14_method_70_code 47 = .ok (.iload_n 1, 1) := by decide +kernel
theorem dd_198_48 : decode prog_14_method_70_code 48 = .ok (.istore_n 1, 1) := by decide +kernel
theorem dd_198_49 : decode prog_14_method_70_code 49 = .ok (.iinc 2 1, 3) := by decide +kernel
theorem dd_198_52 : decode prog_14_method_70_code 52 = .ok (.goto (-38), 3) := by decide +kernel
theorem dd_198_55 : decode prog_14_method_70_code 55 = .ok (.iload_n 1, 1) := by decide +kernel
theorem dd_198_56 : decode prog_14_method_70_code 56 = .ok (.ireturn, 1) := by decide +kernel
theorem kb_198_0 : am_row mi_198 0 kr_198_0 := am_rs rfl (ok_aload_n (k := 0) dd_198_0 rfl rfl) (am_rs rfl (ok_gf dd_198_1 rfl am_ck12 (by decide) (Or.inl w_987)) (am_rn rfl (am_rn rfl (am_rs rfl (ok_aload_n (k := 0) dd_198_4 rfl rfl) (am_rs rfl (ok_gf dd_198_5 rfl am_ck12 (by decide) (Or.inl w_948)) (am_rn rfl (am_rn rfl (am_rz))))))))
theorem kb_198_1 : am_row mi_198 8 kr_198_1 := am_rs rfl (ok_iconst dd_198_8 ic_1 rfl) (am_rs rfl (ok_iald dd_198_9 rfl) (am_rs rfl (ok_iald dd_198_10 rfl) (am_rs rfl (ok_istore_n (k := 1) dd_198_11 rfl rfl (by decide)) (am_rs rfl (ok_iconst dd_198_12 ic_1 rfl) (am_rs rfl (ok_istore_n (k := 2) dd_198_13 rfl rfl (by decide)) (am_rs rfl (ok_iload_n (k := 2) dd_198_14 rfl rfl) (am_rs rfl (ok_aload_n (k := 0) dd_198_15 rfl rfl) (am_rz))))))))
theorem kb_198_2 : am_row mi_198 16 kr_198_2 := am_rs rfl (ok_gf dd_198_16 rfl am_ck12 (by decide) (Or.inl w_947)) (am_rn rfl (am_rn rfl (am_rs rfl (ok_icmp dd_198_19 (by decide) rfl) (am_rn rfl (am_rn rfl (am_rs rfl (ok_aload_n (k := 0) dd_198_22 rfl rfl) (am_rs rfl (ok_gf dd_198_23 rfl am_ck12 (by decide) (Or.inl w_987)) (am_rz))))))))
theorem kb_198_3 : am_row mi_198 24 kr_198_3 := am_rn rfl (am_rn rfl (am_rs rfl (ok_aload_n (k := 0) dd_198_26 rfl rfl) (am_rs rfl (ok_gf dd_198_27 rfl am_ck12 (by decide) (Or.inl w_948)) (am_rn rfl (am_rn rfl (am_rs rfl (ok_iconst dd_198_30 ic_2 rfl) (am_rs rfl (ok_iload_n (k := 2) dd_198_31 rfl rfl) (am_rz))))))))
theorem kb_198_4 : am_row mi_198 32 kr_198_4 := am_rs rfl (ok_imul dd_198_32 rfl) (am_rs rfl (ok_iconst dd_198_33 ic_1 rfl) (am_rs rfl (ok_iadd dd_198_34 rfl) (am_rs rfl (ok_iald dd_198_35 rfl) (am_rs rfl (ok_iald dd_198_36 rfl) (am_rs rfl (ok_istore_n (k := 3) dd_198_37 rfl rfl (by decide)) (am_rs rfl (ok_iload_n (k := 3) dd_198_38 rfl rfl) (am_rs rfl (ok_iload_n (k := 1) dd_198_39 rfl rfl) (am_rz))))))))
theorem kb_198_5 : am_row mi_198 40 kr_198_5 := am_rs rfl (ok_icmp dd_198_40 (by decide) rfl) (am_rn rfl (am_rn rfl (am_rs rfl (ok_iload_n (k := 3) dd_198_43 rfl rfl) (am_rs rfl (ok_goto dd_198_44 (by decide)) (am_rn rfl (am_rn rfl (am_rs rfl (ok_iload_n (k := 1) dd_198_47 rfl rfl) (am_rz))))))))
theorem kb_198_6 : am_row mi_198 48 kr_198_6 := am_rs rfl (ok_istore_n (k := 1) dd_198_48 rfl rfl (by decide)) (am_rs rfl (ok_iinc dd_198_49 ic_1 rfl (by decide)) (am_rn rfl (am_rn rfl (am_rs rfl (ok_goto dd_198_52 (by decide)) (am_rn rfl (am_rn rfl (am_rs rfl (ok_iload_n (k := 1) dd_198_55 rfl rfl) (am_rz))))))))
theorem kb_198_7 : am_row mi_198 56 kr_198_7 := am_rs rfl (ok_iret dd_198_56 rfl) (am_rz)
theorem ck_198 : am_rows mi_198 0 cd_198 := am_bs rfl kb_198_0 (am_bs rfl kb_198_1 (am_bs rfl kb_198_2 (am_bs rfl kb_198_3 (am_bs rfl kb_198_4 (am_bs rfl kb_198_5 (am_bs rfl kb_198_6 (am_bs rfl kb_198_7 (am_bz))))))))
/-- OverAndBackModel.mean(II)I -/
noncomputable def kr_199_0 : List (Option am_Op) := [some (am_ild 1 1), some (am_psh (.retAddr 4294967295) 2), some (am_br2 .eq 13 5), none, none, some (am_ald0 0 6), some (am_ild 1 7), some (am_cv 164 1 12 10)]
noncomputable def kr_199_1 : List (Option am_Op) := [none, none, some (am_br1 .eq 22 13), none, none, some (am_ild 2 14), some (am_psh (.retAddr 0) 15), some (am_psh (.retAddr 1) 16)]
noncomputable def kr_199_2 : List (Option am_Op) := [some (am_cs 133 3 19), none, none, some (am_br1 .ne 24 22), none, none, some (am_psh (.retAddr 4294967295) 23), some (am_iret)]
noncomputable def kr_199_3 : List (Option am_Op) := [some (am_psh (.retAddr 0) 25), some (am_ist 3 26), some (am_psh (.retAddr 1) 27), some (am_ist 4 29), none, some (am_psh (.retAddr 0) 30), some (am_ist 5 32), none]
noncomputable def kr_199_4 : List (Option am_Op) := [some (am_ild 5 34), none, some (am_ald0 0 35), some (am_gf 12 8 38), none, none, some (am_br2 .ge 54 41), none]
noncomputable def kr_199_5 : List (Option am_Op) := [none, some (am_ild 4 43), none, some (am_psh (.retAddr 10) 45), none, some (am_bin am_mul 46), some (am_ist 4 48), none]
noncomputable def kr_199_6 : List (Option am_Op) := [some (am_inc 5 1 51), none, none, some (am_jmp 32), none, none, some (am_psh (.retAddr 0) 55), some (am_ist 5 57)]
noncomputable def kr_199_7 : List (Option am_Op) := [none, some (am_ild 5 59), none, some (am_psh (.retAddr 1) 60), some (am_ald0 0 61), some (am_gf 12 8 64), none, none]
noncomputable def kr_199_8 : List (Option am_Op) := [some (am_bin am_shl 65), some (am_br2 .ge 101 68), none, none, some (am_ald0 0 69), some (am_ild 5 71), none, some (am_psh (.retAddr 4294967292) 73)]
noncomputable def kr_199_9 : List (Option am_Op) := [none, some (am_cv 155 2 12 76), none, none, some (am_ald0 0 77), some (am_ild 1 78), some (am_cv 200 1 12 81), none]
noncomputable def kr_199_10 : List (Option am_Op) := [none, some (am_ild 3 82), some (am_ald0 0 83), some (am_ild 5 85), none, some (am_cv 201 1 12 88), none, none]
noncomputable def kr_199_11 : List (Option am_Op) := [some (am_ald0 0 89), some (am_gf 12 36 92), none, none, some (am_bin am_mul 93), some (am_bin am_add 94), some (am_ist 3 95), some (am_inc 5 1 98)]
noncomputable def kr_199_12 : List (Option am_Op) := [none, none, some (am_jmp 57), none, none, some (am_ild 3 102), some (am_ist 5 104), none]
noncomputable def kr_199_13 : List (Option am_Op) := [some (am_ild 4 106), none, some (am_ist 6 108), none, some (am_ild 6 110), none, some (am_br1 .le 131 113), none]
noncomputable def kr_199_14 : List (Option am_Op) := [none, some (am_ild 5 115), none, some (am_ild 6 117), none, some (am_bin2 Nat.mod 118), some (am_ist 7 120), none]
noncomputable def kr_199_15 : List (Option am_Op) := [some (am_ild 6 122), none, some (am_ist 5 124), none, some (am_ild 7 126), none, some (am_ist 6 128), none]
noncomputable def kr_199_16 : List (Option am_Op) := [some (am_jmp 108), none, none, some (am_ild 2 132), some (am_br1 .ne 139 135), none, none, some (am_ild 3 136)]
noncomputable def kr_199_17 : List (Option am_Op) := [some (am_jmp 141), none, none, some (am_ild 4 141), none, some (am_ild 5 143), none, some (am_bin2 Nat.div 144)]
noncomputable def kr_199_18 : List (Option am_Op) := [some (am_iret)]
noncomputable def cd_199 : am_Cd := [kr_199_0, kr_199_1, kr_199_2, kr_199_3, kr_199_4, kr_199_5, kr_199_6, kr_199_7, kr_199_8, kr_199_9, kr_199_10, kr_199_11, kr_199_12, kr_199_13, kr_199_14, kr_199_15, kr_199_16, kr_199_17, kr_199_18]
theorem dd_199_0 : decode prog_14_method_74_code 0 = .ok (.iload_n 1, 1) := by decide +kernel
theorem dd_199_1 : decode prog_14_method_74_code 1 = .ok (.iconst (-1), 1) := by decide +kernel
theorem dd_199_2 : decode prog_14_method_74_code 2 = .ok (.if_icmp .eq 11, 3) := by decide +kernel
theorem dd_199_5 : decode prog_14_method_74_code 5 = .ok (.aload_n 0, 1) := by decide +kernel
theorem dd_199_6 : decode prog_14_method_74_code 6 = .ok (.iload_n 1, 1) := by decide +kernel
theorem dd_199_7 : decode prog_14_method_74_code 7 = .ok (.invokevirtual 285, 3) := by decide +kernel
theorem dd_199_10 : decode prog_14_method_74_code 10 = .ok (.ifCond .eq 12, 3) := by decide +kernel
theorem dd_199_13 : decode prog_14_method_74_code 13 = .ok (.iload_n 2, 1) := by decide +kernel
theorem dd_199_14 : decode prog_14_method_74_code 14 = .ok (.iconst 0, 1) := by decide +kernel
theorem dd_199_15 : decode prog_14_method_74_code 15 = .ok (.iconst 1, 1) := by decide +kernel
theorem dd_199_16 : decode prog_14_method_74_code 16 = .ok (.invokestatic 116, 3) := by decide +kernel
theorem dd_199_19 : decode prog_14_method_74_code 19 = .ok (.ifCond .ne 5, 3) := by decide +kernel
theorem dd_199_22 : decode prog_14_method_74_code 22 = .ok (.iconst (-1), 1) := by decide +kernel
theorem dd_199_23 : decode prog_14_method_74_code 23 = .ok (.ireturn, 1) := by decide +kernel
theorem dd_199_24 : decode prog_14_method_74_code 24 = .ok (.iconst 0, 1) := by decide +kernel
theorem dd_199_25 : decode prog_14_method_74_code 25 = .ok (.istore_n 3, 1) := by decide +kernel
theorem dd_199_26 : decode prog_14_method_74_code 26 = .ok (.iconst 1, 1) := by decide +kernel
theorem dd_199_27 : decode prog_14_method_74_code 27 = .ok (.istore 4, 2) := by decide +kernel
theorem dd_199_29 : decode prog_14_method_74_code 29 = .ok (.iconst 0, 1) := by decide +kernel
theorem dd_199_30 : decode prog_14_method_74_code 30 = .ok (.istore 5, 2) := by decide +kernel
theorem dd_199_32 : decode prog_14_method_74_code 32 = .ok (.iload 5, 2) := by decide +kernel
theorem dd_199_34 : decode prog_14_method_74_code 34 = .ok (.aload_n 0, 1) := by decide +kernel
theorem dd_199_35 : decode prog_14_method_74_code 35 = .ok (.getfield 201, 3) := by decide +kernel
theorem dd_199_38 : decode prog_14_method_74_code 38 = .ok (.if_icmp .ge 16, 3) := by decide +kernel
theorem dd_199_41 : decode prog_14_method_74_code 41 = .ok (.iload 4, 2) := by decide +kernel
theorem dd_199_43 : decode prog_14_method_74_code 43 = .ok (.bipush 10, 2) := by decide +kernel
theorem dd_199_45 : decode prog_14_method_74_code 45 = .ok (.imul, 1) := by decide +kernel
theorem dd_199_46 : decode prog_14_method_74_code 46 = .ok (.istore 4, 2) := by decide +kernel
theorem dd_199_48 : decode prog_14_method_74_code 48 = .ok (.iinc 5 1, 3) := by decide +kernel
theorem dd_199_51 : decode prog_14_method_74_code 51 = .ok (.goto (-19), 3) := by decide +kernel
theorem dd_199_54 : decode prog_14_method_74_code 54 = .ok (.iconst 0, 1) := by decide +kernel
theorem dd_199_55 : decode prog_14_method_74_code 55 = .ok (.istore 5, 2) := by decide +kernel
theorem dd_199_57 : decode prog_14_method_74_code 57 = .ok (.iload 5, 2) := by decide +kernel
theorem dd_199_59 : decode prog_14_method_74_code 59 = .ok (.iconst 1, 1) := by decide +kernel
theorem dd_199_60 : decode prog_14_method_74_code 60 = .ok (.aload_n 0, 1) := by decide +kernel
theorem dd_199_61 : decode prog_14_method_74_code 61 = .ok (.getfield 201, 3) := by decide +kernel
theorem dd_199_64 : decode prog_14_method_74_code 64 = .ok (.ishl, 1) := by decide +kernel
theorem dd_199_65 : decode prog_14_method_74_code 65 = .ok (.if_icmp .ge 36, 3) := by decide +kernel
theorem dd_199_68 : decode prog_14_method_74_code 68 = .ok (.aload_n 0, 1) := by decide +kernel
theorem dd_199_69 : decode prog_14_method_74_code 69 = .ok (.iload 5, 2) := by decide +kernel
theorem dd_199_71 : decode prog_14_method_74_code 71 = .ok (.bipush (-4), 2) := by decide +kernel
theorem dd_199_73 : decode prog_14_method_74_code 73 = .ok (.invokevirtual 246, 3) := by decide +kernel
theorem dd_199_76 : decode prog_14_method_74_code 76 = .ok (.aload_n 0, 1) := by decide +kernel
theorem dd_199_77 : decode prog_14_method_74_code 77 = .ok (.iload_n 1, 1) := by decide +kernel
theorem dd_199_78 : decode prog_14_method_74_code 78 = .ok (.invokevirtual 349, 3) := by decide +kernel
theorem dd_199_81 : decode prog_14_method_74_code 81 = .ok (.iload_n 3, 1) := by decide +kernel
theorem dd_199_82 : decode prog_14_method_74_code 82 = .ok (.aload_n 0, 1) := by decide +kernel
theorem dd_199_83 : decode prog_14_method_74_code 83 = .ok (.iload 5, 2) := by decide +kernel
theorem dd_199_85 : decode prog_14_method_74_code 85 = .ok (.invokevirtual 352, 3) := by decide +kernel
theorem dd_199_88 : decode prog_14_method_74_code 88 = .ok (.aload_n 0, 1) := by decide +kernel
theorem dd_199_89 : decode prog_14_method_74_code 89 = .ok (.getfield 256, 3) := by decide +kernel
theorem dd_199_92 : decode prog_14_method_74_code 92 = .ok (.imul, 1) := by decide +kernel
theorem dd_199_93 : decode prog_14_method_74_code 93 = .ok (.iadd, 1) := by decide +kernel
theorem dd_199_94 : decode prog_14_method_74_code 94 = .ok (.istore_n 3, 1) := by decide +kernel
theorem dd_199_95 : decode prog_14_method_74_code 95 = .ok (.iinc 5 1, 3) := by decide +kernel
theorem dd_199_98 : decode prog_14_method_74_code 98 = .ok (.goto (-41), 3) := by decide +kernel
theorem dd_199_101 : decode prog_14_method_74_code 101 = .ok (.iload_n 3, 1) := by decide +kernel
theorem dd_199_102 : decode prog_14_method_74_code 102 = .ok (.istore 5, 2) := by decide +kernel
theorem dd_199_104 : decode prog_14_method_74_code 104 = .ok (.iload 4, 2) := by decide +kernel
theorem dd_199_106 : decode prog_14_method_74_code 106 = .ok (.istore 6, 2) := by decide +kernel
theorem dd_199_108 : decode prog_14_method_74_code 108 = .ok (.iload 6, 2) := by decide +kernel
theorem dd_199_110 : decode prog_14_method_74_code 110 = .ok (.ifCond .le 21, 3) := by decide +kernel
theorem dd_199_113 : decode prog_14_method_74_code 113 = .ok (.iload 5, 2) := by decide +kernel
theorem dd_199_115 : decode prog_14_method_74_code 115 = .ok (.iload 6, 2) := by decide +kernel
theorem dd_199_117 : decode prog_14_method_74_code 117 = .ok (.irem, 1) := by decide +kernel
theorem dd_199_118 : decode prog_14_method_74_code 118 = .ok (.istore 7, 2) := by decide +kernel
theorem dd_199_120 : decode prog_14_method_74_code 120 = .ok (.iload 6, 2) := by decide +kernel
theorem dd_199_122 : decode prog_14_method_74_code 122 = .ok (.istore 5, 2) := by decide +kernel
theorem dd_199_124 : decode prog_14_method_74_code 124 = .ok (.iload 7, 2) := by decide +kernel
theorem dd_199_126 : decode prog_14_method_74_code 126 = .ok (.istore 6, 2) := by decide +kernel
theorem dd_199_128 : decode prog_14_method_74_code 128 = .ok (.goto (-20), 3) := by decide +kernel
theorem dd_199_131 : decode prog_14_method_74_code 131 = .ok (.iload_n 2, 1) := by decide +kernel
theorem dd_199_132 : decode prog_14_method_74_code 132 = .ok (.ifCond .ne 7, 3) := by decide +kernel
theorem dd_199_135 : decode prog_14_method_74_code 135 = .ok (.iload_n 3, 1) := by decide +kernel
theorem dd_199_136 : decode prog_14_method_74_code 136 = .ok (.goto 5, 3) := by decide +kernel
theorem dd_199_139 : decode prog_14_method_74_code 139 = .ok (.iload 4, 2) := by decide +kernel
theorem dd_199_141 : decode prog_14_method_74_code 141 = .ok (.iload 5, 2) := by decide +kernel
theorem dd_199_143 : decode prog_14_method_74_code 143 = .ok (.idiv, 1) := by decide +kernel
theorem dd_199_144 : decode prog_14_method_74_code 144 = .ok (.ireturn, 1) := by decide +kernel
theorem kb_199_0 : am_row mi_199 0 kr_199_0 := am_rs rfl (ok_iload_n (k := 1) dd_199_0 rfl rfl) (am_rs rfl (ok_iconst dd_199_1 ic_m1 rfl) (am_rs rfl (ok_icmp dd_199_2 (by decide) rfl) (am_rn rfl (am_rn rfl (am_rs rfl (ok_aload_n (k := 0) dd_199_5 rfl rfl) (am_rs rfl (ok_iload_n (k := 1) dd_199_6 rfl rfl) (am_rs rfl (ok_cv (M' := mi_164) dd_199_7 rfl rfl w_1226 w_1228 ps_164 ⟨lk_164.1, lk_164.2.1, lk_164.2.2, by decide, by decide⟩ rfl) (am_rz))))))))
theorem kb_199_1 : am_row mi_199 8 kr_199_1 := am_rn rfl (am_rn rfl (am_rs rfl (ok_ifc dd_199_10 (by decide) rfl) (am_rn rfl (am_rn rfl (am_rs rfl (ok_iload_n (k := 2) dd_199_13 rfl rfl) (am_rs rfl (ok_iconst dd_199_14 ic_0 rfl) (am_rs rfl (ok_iconst dd_199_15 ic_1 rfl) (am_rz))))))))
theorem kb_199_2 : am_row mi_199 16 kr_199_2 := am_rs rfl (ok_cs (M' := mi_133) dd_199_16 rfl rfl w_1106 w_1107 ⟨lk_133.1, lk_133.2.1, lk_133.2.2, by decide, by decide⟩) (am_rn rfl (am_rn rfl (am_rs rfl (ok_ifc dd_199_19 (by decide) rfl) (am_rn rfl (am_rn rfl (am_rs rfl (ok_iconst dd_199_22 ic_m1 rfl) (am_rs rfl (ok_iret dd_199_23 rfl) (am_rz))))))))
theorem kb_199_3 : am_row mi_199 24 kr_199_3 := am_rs rfl (ok_iconst dd_199_24 ic_0 rfl) (am_rs rfl (ok_istore_n (k := 3) dd_199_25 rfl rfl (by decide)) (am_rs rfl (ok_iconst dd_199_26 ic_1 rfl) (am_rs rfl (ok_istore dd_199_27 rfl (by decide)) (am_rn rfl (am_rs rfl (ok_iconst dd_199_29 ic_0 rfl) (am_rs rfl (ok_istore dd_199_30 rfl (by decide)) (am_rn rfl (am_rz))))))))
theorem kb_199_4 : am_row mi_199 32 kr_199_4 := am_rs rfl (ok_iload dd_199_32 rfl) (am_rn rfl (am_rs rfl (ok_aload_n (k := 0) dd_199_34 rfl rfl) (am_rs rfl (ok_gf dd_199_35 rfl am_ck12 (by decide) (Or.inl w_943)) (am_rn rfl (am_rn rfl (am_rs rfl (ok_icmp dd_199_38 (by decide) rfl) (am_rn rfl (am_rz))))))))
theorem kb_199_5 : am_row mi_199 40 kr_199_5 := am_rn rfl (am_rs rfl (ok_iload dd_199_41 rfl) (am_rn rfl (am_rs rfl (ok_bipush dd_199_43 bi_10 rfl) (am_rn rfl (am_rs rfl (ok_imul dd_199_45 rfl) (am_rs rfl (ok_istore dd_199_46 rfl (by decide)) (am_rn rfl (am_rz))))))))
theorem kb_199_6 : am_row mi_199 48 kr_199_6 := am_rs rfl (ok_iinc dd_199_48 ic_1 rfl (by decide)) (am_rn rfl (am_rn rfl (am_rs rfl (ok_goto dd_199_51 (by decide)) (am_rn rfl (am_rn rfl (am_rs rfl (ok_iconst dd_199_54 ic_0 rfl) (am_rs rfl (ok_istore dd_199_55 rfl (by decide)) (am_rz))))))))
theorem kb_199_7 : am_row mi_199 56 kr_199_7 := am_rn rfl (am_rs rfl (ok_iload dd_199_57 rfl) (am_rn rfl (am_rs rfl (ok_iconst dd_199_59 ic_1 rfl) (am_rs rfl (ok_aload_n (k := 0) dd_199_60 rfl rfl) (am_rs rfl (ok_gf dd_199_61 rfl am_ck12 (by decide) (Or.inl w_943)) (am_rn rfl (am_rn rfl (am_rz))))))))
theorem kb_199_8 : am_row mi_199 64 kr_199_8 := am_rs rfl (ok_ishl dd_199_64 rfl) (am_rs rfl (ok_icmp dd_199_65 (by decide) rfl) (am_rn rfl (am_rn rfl (am_rs rfl (ok_aload_n (k := 0) dd_199_68 rfl rfl) (am_rs rfl (ok_iload dd_199_69 rfl) (am_rn rfl (am_rs rfl (ok_bipush dd_199_71 bi_m4 rfl) (am_rz))))))))
theorem kb_199_9 : am_row mi_199 72 kr_199_9 := am_rn rfl (am_rs rfl (ok_cv (M' := mi_155) dd_199_73 rfl rfl w_1192 w_1194 ps_155 ⟨lk_155.1, lk_155.2.1, lk_155.2.2, by decide, by decide⟩ rfl) (am_rn rfl (am_rn rfl (am_rs rfl (ok_aload_n (k := 0) dd_199_76 rfl rfl) (am_rs rfl (ok_iload_n (k := 1) dd_199_77 rfl rfl) (am_rs rfl (ok_cv (M' := mi_200) dd_199_78 rfl rfl w_1368 w_1370 ps_200 ⟨lk_200.1, lk_200.2.1, lk_200.2.2, by decide, by decide⟩ rfl) (am_rn rfl (am_rz))))))))
theorem kb_199_10 : am_row mi_199 80 kr_199_10 := am_rn rfl (am_rs rfl (ok_iload_n (k := 3) dd_199_81 rfl rfl) (am_rs rfl (ok_aload_n (k := 0) dd_199_82 rfl rfl) (am_rs rfl (ok_iload dd_199_83 rfl) (am_rn rfl (am_rs rfl (ok_cv (M' := mi_201) dd_199_85 rfl rfl w_1372 w_1374 ps_201 ⟨lk_201.1, lk_201.2.1, lk_201.2.2, by decide, by decide⟩ rfl) (am_rn rfl (am_rn rfl (am_rz))))))))
theorem kb_199_11 : am_row mi_199 88 kr_199_11 := am_rs rfl (ok_aload_n (k := 0) dd_199_88 rfl rfl) (am_rs rfl (ok_gf dd_199_89 rfl am_ck12 (by decide) (Or.inl w_971)) (am_rn rfl (am_rn rfl (am_rs rfl (ok_imul dd_199_92 rfl) (am_rs rfl (ok_iadd dd_199_93 rfl) (am_rs rfl (ok_istore_n (k := 3) dd_199_94 rfl rfl (by decide)) (am_rs rfl (ok_iinc dd_199_95 ic_1 rfl (by decide)) (am_rz))))))))
theorem kb_199_12 : am_row mi_199 96 kr_199_12 := am_rn rfl (am_rn rfl (am_rs rfl (ok_goto dd_199_98 (by decide)) (am_rn rfl (am_rn rfl (am_rs rfl (ok_iload_n (k := 3) dd_199_101 rfl rfl) (am_rs rfl (ok_istore dd_199_102 rfl (by decide)) (am_rn rfl (am_rz))))))))
theorem kb_199_13 : am_row mi_199 104 kr_199_13 := am_rs rfl (ok_iload dd_199_104 rfl) (am_rn rfl (am_rs rfl (ok_istore dd_199_106 rfl (by decide)) (am_rn rfl (am_rs rfl (ok_iload dd_199_108 rfl) (am_rn rfl (am_rs rfl (ok_ifc dd_199_110 (by decide) rfl) (am_rn rfl (am_rz))))))))
theorem kb_199_14 : am_row mi_199 112 kr_199_14 := am_rn rfl (am_rs rfl (ok_iload dd_199_113 rfl) (am_rn rfl (am_rs rfl (ok_iload dd_199_115 rfl) (am_rn rfl (am_rs rfl (ok_irem dd_199_117 rfl) (am_rs rfl (ok_istore dd_199_118 rfl (by decide)) (am_rn rfl (am_rz))))))))
theorem kb_199_15 : am_row mi_199 120 kr_199_15 := am_rs rfl (ok_iload dd_199_120 rfl) (am_rn rfl (am_rs rfl (ok_istore dd_199_122 rfl (by decide)) (am_rn rfl (am_rs rfl (ok_iload dd_199_124 rfl) (am_rn rfl (am_rs rfl (ok_istore dd_199_126 rfl (by decide)) (am_rn rfl (am_rz))))))))
theorem kb_199_16 : am_row mi_199 128 kr_199_16 := am_rs rfl (ok_goto dd_199_128 (by decide)) (am_rn rfl (am_rn rfl (am_rs rfl (ok_iload_n (k := 2) dd_199_131 rfl rfl) (am_rs rfl (ok_ifc dd_199_132 (by decide) rfl) (am_rn rfl (am_rn rfl (am_rs rfl (ok_iload_n (k := 3) dd_199_135 rfl rfl) (am_rz))))))))
theorem kb_199_17 : am_row mi_199 136 kr_199_17 := am_rs rfl (ok_goto dd_199_136 (by decide)) (am_rn rfl (am_rn rfl (am_rs rfl (ok_iload dd_199_139 rfl) (am_rn rfl (am_rs rfl (ok_iload dd_199_141 rfl) (am_rn rfl (am_rs rfl (ok_idiv dd_199_143 rfl) (am_rz))))))))
theorem kb_199_18 : am_row mi_199 144 kr_199_18 := am_rs rfl (ok_iret dd_199_144 rfl) (am_rz)
theorem ck_199 : am_rows mi_199 0 cd_199 := am_bs rfl kb_199_0 (am_bs rfl kb_199_1 (am_bs rfl kb_199_2 (am_bs rfl kb_199_3 (am_bs rfl kb_199_4 (am_bs rfl kb_199_5 (am_bs rfl kb_199_6 (am_bs rfl kb_199_7 (am_bs rfl kb_199_8 (am_bs rfl kb_199_9 (am_bs rfl kb_199_10 (am_bs rfl kb_199_11 (am_bs rfl kb_199_12 (am_bs rfl kb_199_13 (am_bs rfl kb_199_14 (am_bs rfl kb_199_15 (am_bs rfl kb_199_16 (am_bs rfl kb_199_17 (am_bs rfl kb_199_18 (am_bz)))))))))))))))))))
/-- OverAndBackModel.goesOn(I)V -/
noncomputable def kr_200_0 : List (Option am_Op) := [some (am_ild 1 1), some (am_br1 .ge 11 4), none, none, some (am_ald0 0 5), some (am_cv 183 0 12 8), none, none]
noncomputable def kr_200_1 : List (Option am_Op) := [some (am_jmp 16), none, none, some (am_ald0 0 12), some (am_ild 1 13), some (am_cv 165 1 12 16), none, none]
noncomputable def kr_200_2 : List (Option am_Op) := [some (am_vret)]
noncomputable def cd_200 : am_Cd := [kr_200_0, kr_200_1, kr_200_2]
theorem dd_200_0 : decode prog_14_method_73_code 0 = .ok (.iload_n 1, 1) := by decide +kernel
theorem dd_200_1 : decode prog_14_method_73_code 1 = .ok (.ifCond .ge 10, 3) := by decide +kernel
theorem dd_200_4 : decode prog_14_method_73_code 4 = .ok (.aload_n 0, 1) := by decide +kernel
theorem dd_200_5 : decode prog_14_method_73_code 5 = .ok (.invokevirtual 303, 3) := by decide +kernel
theorem dd_200_8 : decode prog_14_method_73_code 8 = .ok (.goto 8, 3) := by decide +kernel
theorem dd_200_11 : decode prog_14_method_73_code 11 = .ok (.aload_n 0, 1) := by decide +kernel
theorem dd_200_12 : decode prog_14_method_73_code 12 = .ok (.iload_n 1, 1) := by decide +kernel
theorem dd_200_13 : decode prog_14_method_73_code 13 = .ok (.invokevirtual 288, 3) := by decide +kernel
theorem dd_200_16 : decode prog_14_method_73_code 16 = .ok (.return_, 1) := by decide +kernel
theorem kb_200_0 : am_row mi_200 0 kr_200_0 := am_rs rfl (ok_iload_n (k := 1) dd_200_0 rfl rfl) (am_rs rfl (ok_ifc dd_200_1 (by decide) rfl) (am_rn rfl (am_rn rfl (am_rs rfl (ok_aload_n (k := 0) dd_200_4 rfl rfl) (am_rs rfl (ok_cv (M' := mi_183) dd_200_5 rfl rfl w_1302 w_1304 ps_183 ⟨lk_183.1, lk_183.2.1, lk_183.2.2, by decide, by decide⟩ rfl) (am_rn rfl (am_rn rfl (am_rz))))))))
theorem kb_200_1 : am_row mi_200 8 kr_200_1 := am_rs rfl (ok_goto dd_200_8 (by decide)) (am_rn rfl (am_rn rfl (am_rs rfl (ok_aload_n (k := 0) dd_200_11 rfl rfl) (am_rs rfl (ok_iload_n (k := 1) dd_200_12 rfl rfl) (am_rs rfl (ok_cv (M' := mi_165) dd_200_13 rfl rfl w_1230 w_1232 ps_165 ⟨lk_165.1, lk_165.2.1, lk_165.2.2, by decide, by decide⟩ rfl) (am_rn rfl (am_rn rfl (am_rz))))))))
theorem kb_200_2 : am_row mi_200 16 kr_200_2 := am_rs rfl (ok_vret dd_200_16 rfl) (am_rz)
theorem ck_200 : am_rows mi_200 0 cd_200 := am_bs rfl kb_200_0 (am_bs rfl kb_200_1 (am_bs rfl kb_200_2 (am_bz)))
/-- OverAndBackModel.weight(I)I -/
noncomputable def kr_201_0 : List (Option am_Op) := [some (am_psh (.retAddr 1) 1), some (am_ist 2 2), some (am_psh (.retAddr 0) 3), some (am_ist 3 4), some (am_ild 3 5), some (am_ald0 0 6), some (am_gf 12 8 9), none]
noncomputable def kr_201_1 : List (Option am_Op) := [none, some (am_br2 .ge 55 12), none, none, some (am_ild 2 13), some (am_ild 1 14), some (am_ild 3 15), some (am_cs 158 2 18)]
noncomputable def kr_201_2 : List (Option am_Op) := [none, none, some (am_br1 .eq 34 21), none, none, some (am_ald0 0 22), some (am_gf 12 9 25), none]
noncomputable def kr_201_3 : List (Option am_Op) := [none, some (am_psh (.retAddr 4) 26), some (am_ild 3 27), some (am_bin am_mul 28), some (am_psh (.retAddr 3) 29), some (am_bin am_add 30), some (am_ald 0 31), some (am_jmp 47)]
noncomputable def kr_201_4 : List (Option am_Op) := [none, none, some (am_psh (.retAddr 10) 36), none, some (am_ald0 0 37), some (am_gf 12 9 40), none, none]
noncomputable def kr_201_5 : List (Option am_Op) := [some (am_psh (.retAddr 4) 41), some (am_ild 3 42), some (am_bin am_mul 43), some (am_psh (.retAddr 3) 44), some (am_bin am_add 45), some (am_ald 0 46), some (am_bin am_sub 47), some (am_bin am_mul 48)]
noncomputable def kr_201_6 : List (Option am_Op) := [some (am_ist 2 49), some (am_inc 3 1 52), none, none, some (am_jmp 4), none, none, some (am_ild 2 56)]
noncomputable def kr_201_7 : List (Option am_Op) := [some (am_iret)]
noncomputable def cd_201 : am_Cd := [kr_201_0, kr_201_1, kr_201_2, kr_201_3, kr_201_4, kr_201_5, kr_201_6, kr_201_7]
theorem dd_201_0 : decode prog_14_method_72_code 0 = .ok (.iconst 1, 1) := by decide +kernel
theorem dd_201_1 : decode prog_14_method_72_code 1 = .ok (.istore_n 2, 1) := by decide +kernel
theorem dd_201_2 : decode prog_14_method_72_code 2 = .ok (.iconst 0, 1) := by decide +kernel
theorem dd_201_3 : decode prog_14_method_72_code 3 = .ok (.istore_n 3, 1) := by decide +kernel
theorem dd_201_4 : decode prog_14_method_72_code 4 = .ok (.iload_n 3, 1) := by decide +kernel
theorem dd_201_5 : decode prog_14_method_72_code 5 = .ok (.aload_n 0, 1) := by decide +kernel
theorem dd_201_6 : decode prog_14_method_72_code 6 = .ok (.getfield 201, 3) := by decide +kernel
theorem dd_201_9 : decode prog_14_method_72_code 9 = .ok (.if_icmp .ge 46, 3) := by decide +kernel
theorem dd_201_12 : decode prog_14_method_72_code 12 = .ok (.iload_n 2, 1) := by decide +kernel
theorem dd_201_13 : decode prog_14_method_72_code 13 = .ok (.iload_n 1, 1) := by decide +kernel
theorem dd_201_14 : decode prog_14_method_72_code 14 = .ok (.iload_n 3, 1) := by decide +kernel
theorem dd_201_15 : decode prog_14_method_72_code 15 = .ok (.invokestatic 223, 3) := by decide +kernel
theorem dd_201_18 : decode prog_14_method_72_code 18 = .ok (.ifCond .eq 16, 3) := by decide +kernel
theorem dd_201_21 : decode prog_14_method_72_code 21 = .ok (.aload_n 0, 1) := by decide +kernel
theorem dd_201_22 : decode prog_14_method_72_code 22 = .ok (.getfield 35, 3) := by decide +kernel
theorem dd_201_25 : decode prog_14_method_72_code 25 = .ok (.iconst 4, 1) := by decide +kernel
theorem dd_201_26 : decode prog_14_method_72_code 26 = .ok (.iload_n 3, 1) := by decide +kernel
theorem dd_201_27 : decode prog_14_method_72_code 27 = .ok (.imul, 1) := by decide +kernel
theorem dd_201_28 : decode prog_14_method_72_code 28 = .ok (.iconst 3, 1) := by decide +kernel
theorem dd_201_29 : decode prog_14_method_72_code 29 = .ok (.iadd, 1) := by decide +kernel
theorem dd_201_30 : decode prog_14_method_72_code 30 = .ok (.iaload, 1) := by decide +kernel
theorem dd_201_31 : decode prog_14_method_72_code 31 = .ok (.goto 16, 3) := by decide +kernel
theorem dd_201_34 : decode prog_14_method_72_code 34 = .ok (.bipush 10, 2) := by decide +kernel
theorem dd_201_36 : decode prog_14_method_72_code 36 = .ok (.aload_n 0, 1) := by decide +kernel
theorem dd_201_37 : decode prog_14_method_72_code 37 = .ok (.getfield 35, 3) := by decide +kernel
theorem dd_201_40 : decode prog_14_method_72_code 40 = .ok (.iconst 4, 1) := by decide +kernel
theorem dd_201_41 : decode prog_14_method_72_code 41 = .ok (.iload_n 3, 1) := by decide +kernel
theorem dd_201_42 : decode prog_14_method_72_code 42 = .ok (.imul, 1) := by decide +kernel
theorem dd_201_43 : decode prog_14_method_72_code 43 = .ok (.iconst 3, 1) := by decide +kernel
theorem dd_201_44 : decode prog_14_method_72_code 44 = .ok (.iadd, 1) := by decide +kernel
theorem dd_201_45 : decode prog_14_method_72_code 45 = .ok (.iaload, 1) := by decide +kernel
theorem dd_201_46 : decode prog_14_method_72_code 46 = .ok (.isub, 1) := by decide +kernel
theorem dd_201_47 : decode prog_14_method_72_code 47 = .ok (.imul, 1) := by decide +kernel
theorem dd_201_48 : decode prog_14_method_72_code 48 = .ok (.istore_n 2, 1) := by decide +kernel
theorem dd_201_49 : decode prog_14_method_72_code 49 = .ok (.iinc 3 1, 3) := by decide +kernel
theorem dd_201_52 : decode prog_14_method_72_code 52 = .ok (.goto (-48), 3) := by decide +kernel
theorem dd_201_55 : decode prog_14_method_72_code 55 = .ok (.iload_n 2, 1) := by decide +kernel
theorem dd_201_56 : decode prog_14_method_72_code 56 = .ok (.ireturn, 1) := by decide +kernel
theorem kb_201_0 : am_row mi_201 0 kr_201_0 := am_rs rfl (ok_iconst dd_201_0 ic_1 rfl) (am_rs rfl (ok_istore_n (k := 2) dd_201_1 rfl rfl (by decide)) (am_rs rfl (ok_iconst dd_201_2 ic_0 rfl) (am_rs rfl (ok_istore_n (k := 3) dd_201_3 rfl rfl (by decide)) (am_rs rfl (ok_iload_n (k := 3) dd_201_4 rfl rfl) (am_rs rfl (ok_aload_n (k := 0) dd_201_5 rfl rfl) (am_rs rfl (ok_gf dd_201_6 rfl am_ck12 (by decide) (Or.inl w_943)) (am_rn rfl (am_rz))))))))
theorem kb_201_1 : am_row mi_201 8 kr_201_1 := am_rn rfl (am_rs rfl (ok_icmp dd_201_9 (by decide) rfl) (am_rn rfl (am_rn rfl (am_rs rfl (ok_iload_n (k := 2) dd_201_12 rfl rfl) (am_rs rfl (ok_iload_n (k := 1) dd_201_13 rfl rfl) (am_rs rfl (ok_iload_n (k := 3) dd_201_14 rfl rfl) (am_rs rfl (ok_cs (M' := mi_158) dd_201_15 rfl rfl w_1204 w_1205 ⟨lk_158.1, lk_158.2.1, lk_158.2.2, by decide, by decide⟩) (am_rz))))))))
theorem kb_201_2 : am_row mi_201 16 kr_201_2 := am_rn rfl (am_rn rfl (am_rs rfl (ok_ifc dd_201_18 (by decide) rfl) (am_rn rfl (am_rn rfl (am_rs rfl (ok_aload_n (k := 0) dd_201_21 rfl rfl) (am_rs rfl (ok_gf dd_201_22 rfl am_ck12 (by decide) (Or.inl w_944)) (am_rn rfl (am_rz))))))))
theorem kb_201_3 : am_row mi_201 24 kr_201_3 := am_rn rfl (am_rs rfl (ok_iconst dd_201_25 ic_4 rfl) (am_rs rfl (ok_iload_n (k := 3) dd_201_26 rfl rfl) (am_rs rfl (ok_imul dd_201_27 rfl) (am_rs rfl (ok_iconst dd_201_28 ic_3 rfl) (am_rs rfl (ok_iadd dd_201_29 rfl) (am_rs rfl (ok_iald dd_201_30 rfl) (am_rs rfl (ok_goto dd_201_31 (by decide)) (am_rz))))))))
theorem kb_201_4 : am_row mi_201 32 kr_201_4 := am_rn rfl (am_rn rfl (am_rs rfl (ok_bipush dd_201_34 bi_10 rfl) (am_rn rfl (am_rs rfl (ok_aload_n (k := 0) dd_201_36 rfl rfl) (am_rs rfl (ok_gf dd_201_37 rfl am_ck12 (by decide) (Or.inl w_944)) (am_rn rfl (am_rn rfl (am_rz))))))))
theorem kb_201_5 : am_row mi_201 40 kr_201_5 := am_rs rfl (ok_iconst dd_201_40 ic_4 rfl) (am_rs rfl (ok_iload_n (k := 3) dd_201_41 rfl rfl) (am_rs rfl (ok_imul dd_201_42 rfl) (am_rs rfl (ok_iconst dd_201_43 ic_3 rfl) (am_rs rfl (ok_iadd dd_201_44 rfl) (am_rs rfl (ok_iald dd_201_45 rfl) (am_rs rfl (ok_isub dd_201_46 rfl) (am_rs rfl (ok_imul dd_201_47 rfl) (am_rz))))))))
theorem kb_201_6 : am_row mi_201 48 kr_201_6 := am_rs rfl (ok_istore_n (k := 2) dd_201_48 rfl rfl (by decide)) (am_rs rfl (ok_iinc dd_201_49 ic_1 rfl (by decide)) (am_rn rfl (am_rn rfl (am_rs rfl (ok_goto dd_201_52 (by decide)) (am_rn rfl (am_rn rfl (am_rs rfl (ok_iload_n (k := 2) dd_201_55 rfl rfl) (am_rz))))))))
theorem kb_201_7 : am_row mi_201 56 kr_201_7 := am_rs rfl (ok_iret dd_201_56 rfl) (am_rz)
theorem ck_201 : am_rows mi_201 0 cd_201 := am_bs rfl kb_201_0 (am_bs rfl kb_201_1 (am_bs rfl kb_201_2 (am_bs rfl kb_201_3 (am_bs rfl kb_201_4 (am_bs rfl kb_201_5 (am_bs rfl kb_201_6 (am_bs rfl kb_201_7 (am_bz))))))))
/-- OverAndBackModel.sure(I)I -/
noncomputable def kr_202_0 : List (Option am_Op) := [some (am_ild 1 1), some (am_psh (.retAddr 4294967295) 2), some (am_br2 .eq 15 5), none, none, some (am_ald0 0 6), some (am_ild 1 7), some (am_cv 164 1 12 10)]
noncomputable def kr_202_1 : List (Option am_Op) := [none, none, some (am_br1 .ne 15 13), none, none, some (am_psh (.retAddr 4294967295) 14), some (am_iret), some (am_psh (.retAddr 255) 18)]
noncomputable def kr_202_2 : List (Option am_Op) := [none, none, some (am_ist 2 19), some (am_psh (.retAddr 0) 20), some (am_ist 3 21), some (am_ild 3 22), some (am_psh (.retAddr 1) 23), some (am_ald0 0 24)]
noncomputable def kr_202_3 : List (Option am_Op) := [some (am_gf 12 8 27), none, none, some (am_bin am_shl 28), some (am_br2 .ge 74 31), none, none, some (am_ald0 0 32)]
noncomputable def kr_202_4 : List (Option am_Op) := [some (am_ild 3 33), some (am_psh (.retAddr 4294967292) 35), none, some (am_cv 155 2 12 38), none, none, some (am_ald0 0 39), some (am_ild 1 40)]
noncomputable def kr_202_5 : List (Option am_Op) := [some (am_cv 200 1 12 43), none, none, some (am_ild 2 44), some (am_ald0 0 45), some (am_ild 3 46), some (am_cv 201 1 12 49), none]
noncomputable def kr_202_6 : List (Option am_Op) := [none, some (am_br1 .le 63 52), none, none, some (am_ald0 0 53), some (am_ald0 0 54), some (am_gf 12 37 57), none]
noncomputable def kr_202_7 : List (Option am_Op) := [none, some (am_cv 162 1 12 60), none, none, some (am_jmp 66), none, none, some (am_psh (.retAddr 255) 66)]
noncomputable def kr_202_8 : List (Option am_Op) := [none, none, some (am_bin Nat.land 67), some (am_ist 2 68), some (am_inc 3 1 71), none, none, some (am_jmp 21)]
noncomputable def kr_202_9 : List (Option am_Op) := [none, none, some (am_ild 2 75), some (am_iret)]
noncomputable def cd_202 : am_Cd := [kr_202_0, kr_202_1, kr_202_2, kr_202_3, kr_202_4, kr_202_5, kr_202_6, kr_202_7, kr_202_8, kr_202_9]
theorem dd_202_0 : decode prog_14_method_75_code 0 = .ok (.iload_n 1, 1) := by decide +kernel
theorem dd_202_1 : decode prog_14_method_75_code 1 = .ok (.iconst (-1), 1) := by decide +kernel
theorem dd_202_2 : decode prog_14_method_75_code 2 = .ok (.if_icmp .eq 13, 3) := by decide +kernel
theorem dd_202_5 : decode prog_14_method_75_code 5 = .ok (.aload_n 0, 1) := by decide +kernel
theorem dd_202_6 : decode prog_14_method_75_code 6 = .ok (.iload_n 1, 1) := by decide +kernel
theorem dd_202_7 : decode prog_14_method_75_code 7 = .ok (.invokevirtual 285, 3) := by decide +kernel
theorem dd_202_10 : decode prog_14_method_75_code 10 = .ok (.ifCond .ne 5, 3) := by decide +kernel
theorem dd_202_13 : decode prog_14_method_75_code 13 = .ok (.iconst (-1), 1) := by decide +kernel
theorem dd_202_14 : decode prog_14_method_75_code 14 = .ok (.ireturn, 1) := by decide +kernel
theorem dd_202_15 : decode prog_14_method_75_code 15 = .ok (.sipush 255, 3) := by decide +kernel
theorem dd_202_18 : decode prog_14_method_75_code 18 = .ok (.istore_n 2, 1) := by decide +kernel
theorem dd_202_19 : decode prog_14_method_75_code 19 = .ok (.iconst 0, 1) := by decide +kernel
theorem dd_202_20 : decode prog_14_method_75_code 20 = .ok (.istore_n 3, 1) := by decide +kernel
theorem dd_202_21 : decode prog_14_method_75_code 21 = .ok (.iload_n 3, 1) := by decide +kernel
theorem dd_202_22 : decode prog_14_method_75_code 22 = .ok (.iconst 1, 1) := by decide +kernel
theorem dd_202_23 : decode prog_14_method_75_code 23 = .ok (.aload_n 0, 1) := by decide +kernel
theorem dd_202_24 : decode prog_14_method_75_code 24 = .ok (.getfield 201, 3) := by decide +kernel
theorem dd_202_27 : decode prog_14_method_75_code 27 = .ok (.ishl, 1) := by decide +kernel
theorem dd_202_28 : decode prog_14_method_75_code 28 = .ok (.if_icmp .ge 46, 3) := by decide +kernel
theorem dd_202_31 : decode prog_14_method_75_code 31 = .ok (.aload_n 0, 1) := by decide +kernel
theorem dd_202_32 : decode prog_14_method_75_code 32 = .ok (.iload_n 3, 1) := by decide +kernel
theorem dd_202_33 : decode prog_14_method_75_code 33 = .ok (.bipush (-4), 2) := by decide +kernel
theorem dd_202_35 : decode prog_14_method_75_code 35 = .ok (.invokevirtual 246, 3) := by decide +kernel
theorem dd_202_38 : decode prog_14_method_75_code 38 = .ok (.aload_n 0, 1) := by decide +kernel
theorem dd_202_39 : decode prog_14_method_75_code 39 = .ok (.iload_n 1, 1) := by decide +kernel
theorem dd_202_40 : decode prog_14_method_75_code 40 = .ok (.invokevirtual 349, 3) := by decide +kernel
theorem dd_202_43 : decode prog_14_method_75_code 43 = .ok (.iload_n 2, 1) := by decide +kernel
theorem dd_202_44 : decode prog_14_method_75_code 44 = .ok (.aload_n 0, 1) := by decide +kernel
theorem dd_202_45 : decode prog_14_method_75_code 45 = .ok (.iload_n 3, 1) := by decide +kernel
theorem dd_202_46 : decode prog_14_method_75_code 46 = .ok (.invokevirtual 352, 3) := by decide +kernel
theorem dd_202_49 : decode prog_14_method_75_code 49 = .ok (.ifCond .le 14, 3) := by decide +kernel
theorem dd_202_52 : decode prog_14_method_75_code 52 = .ok (.aload_n 0, 1) := by decide +kernel
theorem dd_202_53 : decode prog_14_method_75_code 53 = .ok (.aload_n 0, 1) := by decide +kernel
theorem dd_202_54 : decode prog_14_method_75_code 54 = .ok (.getfield 259, 3) := by decide +kernel
theorem dd_202_57 : decode prog_14_method_75_code 57 = .ok (.invokevirtual 253, 3) := by decide +kernel
theorem dd_202_60 : decode prog_14_method_75_code 60 = .ok (.goto 6, 3) := by decide +kernel
theorem dd_202_63 : decode prog_14_method_75_code 63 = .ok (.sipush 255, 3) := by decide +kernel
theorem dd_202_66 : decode prog_14_method_75_code 66 = .ok (.iand, 1) := by decide +kernel
theorem dd_202_67 : decode prog_14_method_75_code 67 = .ok (.istore_n 2, 1) := by decide +kernel
theorem dd_202_68 : decode prog_14_method_75_code 68 = .ok (.iinc 3 1, 3) := by decide +kernel
theorem dd_202_71 : decode prog_14_method_75_code 71 = .ok (.goto (-50), 3) := by decide +kernel
theorem dd_202_74 : decode prog_14_method_75_code 74 = .ok (.iload_n 2, 1) := by decide +kernel
theorem dd_202_75 : decode prog_14_method_75_code 75 = .ok (.ireturn, 1) := by decide +kernel
theorem kb_202_0 : am_row mi_202 0 kr_202_0 := am_rs rfl (ok_iload_n (k := 1) dd_202_0 rfl rfl) (am_rs rfl (ok_iconst dd_202_1 ic_m1 rfl) (am_rs rfl (ok_icmp dd_202_2 (by decide) rfl) (am_rn rfl (am_rn rfl (am_rs rfl (ok_aload_n (k := 0) dd_202_5 rfl rfl) (am_rs rfl (ok_iload_n (k := 1) dd_202_6 rfl rfl) (am_rs rfl (ok_cv (M' := mi_164) dd_202_7 rfl rfl w_1226 w_1228 ps_164 ⟨lk_164.1, lk_164.2.1, lk_164.2.2, by decide, by decide⟩ rfl) (am_rz))))))))
theorem kb_202_1 : am_row mi_202 8 kr_202_1 := am_rn rfl (am_rn rfl (am_rs rfl (ok_ifc dd_202_10 (by decide) rfl) (am_rn rfl (am_rn rfl (am_rs rfl (ok_iconst dd_202_13 ic_m1 rfl) (am_rs rfl (ok_iret dd_202_14 rfl) (am_rs rfl (ok_sipush dd_202_15 si_255 rfl) (am_rz))))))))
theorem kb_202_2 : am_row mi_202 16 kr_202_2 := am_rn rfl (am_rn rfl (am_rs rfl (ok_istore_n (k := 2) dd_202_18 rfl rfl (by decide)) (am_rs rfl (ok_iconst dd_202_19 ic_0 rfl) (am_rs rfl (ok_istore_n (k := 3) dd_202_20 rfl rfl (by decide)) (am_rs rfl (ok_iload_n (k := 3) dd_202_21 rfl rfl) (am_rs rfl (ok_iconst dd_202_22 ic_1 rfl) (am_rs rfl (ok_aload_n (k := 0) dd_202_23 rfl rfl) (am_rz))))))))
theorem kb_202_3 : am_row mi_202 24 kr_202_3 := am_rs rfl (ok_gf dd_202_24 rfl am_ck12 (by decide) (Or.inl w_943)) (am_rn rfl (am_rn rfl (am_rs rfl (ok_ishl dd_202_27 rfl) (am_rs rfl (ok_icmp dd_202_28 (by decide) rfl) (am_rn rfl (am_rn rfl (am_rs rfl (ok_aload_n (k := 0) dd_202_31 rfl rfl) (am_rz))))))))
theorem kb_202_4 : am_row mi_202 32 kr_202_4 := am_rs rfl (ok_iload_n (k := 3) dd_202_32 rfl rfl) (am_rs rfl (ok_bipush dd_202_33 bi_m4 rfl) (am_rn rfl (am_rs rfl (ok_cv (M' := mi_155) dd_202_35 rfl rfl w_1192 w_1194 ps_155 ⟨lk_155.1, lk_155.2.1, lk_155.2.2, by decide, by decide⟩ rfl) (am_rn rfl (am_rn rfl (am_rs rfl (ok_aload_n (k := 0) dd_202_38 rfl rfl) (am_rs rfl (ok_iload_n (k := 1) dd_202_39 rfl rfl) (am_rz))))))))
theorem kb_202_5 : am_row mi_202 40 kr_202_5 := am_rs rfl (ok_cv (M' := mi_200) dd_202_40 rfl rfl w_1368 w_1370 ps_200 ⟨lk_200.1, lk_200.2.1, lk_200.2.2, by decide, by decide⟩ rfl) (am_rn rfl (am_rn rfl (am_rs rfl (ok_iload_n (k := 2) dd_202_43 rfl rfl) (am_rs rfl (ok_aload_n (k := 0) dd_202_44 rfl rfl) (am_rs rfl (ok_iload_n (k := 3) dd_202_45 rfl rfl) (am_rs rfl (ok_cv (M' := mi_201) dd_202_46 rfl rfl w_1372 w_1374 ps_201 ⟨lk_201.1, lk_201.2.1, lk_201.2.2, by decide, by decide⟩ rfl) (am_rn rfl (am_rz))))))))
theorem kb_202_6 : am_row mi_202 48 kr_202_6 := am_rn rfl (am_rs rfl (ok_ifc dd_202_49 (by decide) rfl) (am_rn rfl (am_rn rfl (am_rs rfl (ok_aload_n (k := 0) dd_202_52 rfl rfl) (am_rs rfl (ok_aload_n (k := 0) dd_202_53 rfl rfl) (am_rs rfl (ok_gf dd_202_54 rfl am_ck12 (by decide) (Or.inl w_972)) (am_rn rfl (am_rz))))))))
theorem kb_202_7 : am_row mi_202 56 kr_202_7 := am_rn rfl (am_rs rfl (ok_cv (M' := mi_162) dd_202_57 rfl rfl w_1218 w_1220 ps_162 ⟨lk_162.1, lk_162.2.1, lk_162.2.2, by decide, by decide⟩ rfl) (am_rn rfl (am_rn rfl (am_rs rfl (ok_goto dd_202_60 (by decide)) (am_rn rfl (am_rn rfl (am_rs rfl (ok_sipush dd_202_63 si_255 rfl) (am_rz))))))))
theorem kb_202_8 : am_row mi_202 64 kr_202_8 := am_rn rfl (am_rn rfl (am_rs rfl (ok_iand dd_202_66 rfl) (am_rs rfl (ok_istore_n (k := 2) dd_202_67 rfl rfl (by decide)) (am_rs rfl (ok_iinc dd_202_68 ic_1 rfl (by decide)) (am_rn rfl (am_rn rfl (am_rs rfl (ok_goto dd_202_71 (by decide)) (am_rz))))))))
theorem kb_202_9 : am_row mi_202 72 kr_202_9 := am_rn rfl (am_rn rfl (am_rs rfl (ok_iload_n (k := 2) dd_202_74 rfl rfl) (am_rs rfl (ok_iret dd_202_75 rfl) (am_rz))))
theorem ck_202 : am_rows mi_202 0 cd_202 := am_bs rfl kb_202_0 (am_bs rfl kb_202_1 (am_bs rfl kb_202_2 (am_bs rfl kb_202_3 (am_bs rfl kb_202_4 (am_bs rfl kb_202_5 (am_bs rfl kb_202_6 (am_bs rfl kb_202_7 (am_bs rfl kb_202_8 (am_bs rfl kb_202_9 (am_bz))))))))))
/-- OverAndBackModel.fits(I)I -/
noncomputable def kr_203_0 : List (Option am_Op) := [some (am_ild 1 1), some (am_cs 161 1 4), none, none, some (am_br1 .ne 9 7), none, none, some (am_psh (.retAddr 4294967295) 8)]
noncomputable def kr_203_1 : List (Option am_Op) := [some (am_iret), some (am_ald0 0 10), some (am_psh (.retAddr 0) 11), some (am_psh (.retAddr 4294967292) 13), none, some (am_cv 155 2 12 16), none, none]
noncomputable def kr_203_2 : List (Option am_Op) := [some (am_psh (.retAddr 0) 17), some (am_ist 2 18), some (am_psh (.retAddr 0) 19), some (am_ist 3 20), some (am_ild 3 21), some (am_psh (.retAddr 3) 22), some (am_br2 .gt 83 25), none]
noncomputable def kr_203_3 : List (Option am_Op) := [none, some (am_psh (.retAddr 0) 26), some (am_ist 4 28), none, some (am_ild 4 30), none, some (am_ald0 0 31), some (am_gf 12 2 34)]
noncomputable def kr_203_4 : List (Option am_Op) := [none, none, some (am_br2 .ge 77 37), none, none, some (am_ald0 0 38), some (am_ild 3 39), some (am_ild 4 41)]
noncomputable def kr_203_5 : List (Option am_Op) := [none, some (am_cv 166 2 12 44), none, none, some (am_ild 2 45), some (am_ald0 0 46), some (am_ald0 0 47), some (am_gf 12 37 50)]
noncomputable def kr_203_6 : List (Option am_Op) := [none, none, some (am_cv 162 1 12 53), none, none, some (am_ild 1 54), some (am_br2 .ne 68 57), none]
noncomputable def kr_203_7 : List (Option am_Op) := [none, some (am_psh (.retAddr 1) 58), some (am_psh (.retAddr 4) 59), some (am_ild 3 60), some (am_bin am_mul 61), some (am_ild 4 63), none, some (am_bin am_add 64)]
noncomputable def kr_203_8 : List (Option am_Op) := [some (am_bin am_shl 65), some (am_jmp 69), none, none, some (am_psh (.retAddr 0) 69), some (am_bin Nat.lor 70), some (am_ist 2 71), some (am_inc 4 1 74)]
noncomputable def kr_203_9 : List (Option am_Op) := [none, none, some (am_jmp 28), none, none, some (am_inc 3 1 80), none, none]
noncomputable def kr_203_10 : List (Option am_Op) := [some (am_jmp 20), none, none, some (am_ild 2 84), some (am_iret)]
noncomputable def cd_203 : am_Cd := [kr_203_0, kr_203_1, kr_203_2, kr_203_3, kr_203_4, kr_203_5, kr_203_6, kr_203_7, kr_203_8, kr_203_9, kr_203_10]
theorem dd_203_0 : decode prog_14_method_76_code 0 = .ok (.iload_n 1, 1) := by decide +kernel
theorem dd_203_1 : decode prog_14_method_76_code 1 = .ok (.invokestatic 250, 3) := by decide +kernel
theorem dd_203_4 : decode prog_14_method_76_code 4 = .ok (.ifCond .ne 5, 3) := by decide +kernel
theorem dd_203_7 : decode prog_14_method_76_code 7 = .ok (.iconst (-1), 1) := by decide +kernel
theorem dd_203_8 : decode prog_14_method_76_code 8 = .ok (.ireturn, 1) := by decide +kernel
theorem dd_203_9 : decode prog_14_method_76_code 9 = .ok (.aload_n 0, 1) := by decide +kernel
theorem dd_203_10 : decode prog_14_method_76_code 10 = .ok (.iconst 0, 1) := by decide +kernel
theorem dd_203_11 : decode prog_14_method_76_code 11 = .ok (.bipush (-4), 2) := by decide +kernel
theorem dd_203_13 : decode prog_14_method_76_code 13 = .ok (.invokevirtual 246, 3) := by decide +kernel
theorem dd_203_16 : decode prog_14_method_76_code 16 = .ok (.iconst 0, 1) := by decide +kernel
theorem dd_203_17 : decode prog_14_method_76_code 17 = .ok (.istore_n 2, 1) := by decide +kernel
theorem dd_203_18 : decode prog_14_method_76_code 18 = .ok (.iconst 0, 1) := by decide +kernel
theorem dd_203_19 : decode prog_14_method_76_code 19 = .ok (.istore_n 3, 1) := by decide +kernel
theorem dd_203_20 : decode prog_14_method_76_code 20 = .ok (.iload_n 3, 1) := by decide +kernel
theorem dd_203_21 : decode prog_14_method_76_code 21 = .ok (.iconst 3, 1) := by decide +kernel
theorem dd_203_22 : decode prog_14_method_76_code 22 = .ok (.if_icmp .gt 61, 3) := by decide +kernel
theorem dd_203_25 : decode prog_14_method_76_code 25 = .ok (.iconst 0, 1) := by decide +kernel
theorem dd_203_26 : decode prog_14_method_76_code 26 = .ok (.istore 4, 2) := by decide +kernel
theorem dd_203_28 : decode prog_14_method_76_code 28 = .ok (.iload 4, 2) := by decide +kernel
theorem dd_203_30 : decode prog_14_method_76_code 30 = .ok (.aload_n 0, 1) := by decide +kernel
theorem dd_203_31 : decode prog_14_method_76_code 31 = .ok (.getfield 16, 3) := by decide +kernel
theorem dd_203_34 : decode prog_14_method_76_code 34 = .ok (.if_icmp .ge 43, 3) := by decide +kernel
theorem dd_203_37 : decode prog_14_method_76_code 37 = .ok (.aload_n 0, 1) := by decide +kernel
theorem dd_203_38 : decode prog_14_method_76_code 38 = .ok (.iload_n 3, 1) := by decide +kernel
theorem dd_203_39 : decode prog_14_method_76_code 39 = .ok (.iload 4, 2) := by decide +kernel
theorem dd_203_41 : decode prog_14_method_76_code 41 = .ok (.invokevirtual 282, 3) := by decide +kernel
theorem dd_203_44 : decode prog_14_method_76_code 44 = .ok (.iload_n 2, 1) := by decide +kernel
theorem dd_203_45 : decode prog_14_method_76_code 45 = .ok (.aload_n 0, 1) := by decide +kernel
theorem dd_203_46 : decode prog_14_method_76_code 46 = .ok (.aload_n 0, 1) := by decide +kernel
theorem dd_203_47 : decode prog_14_method_76_code 47 = .ok (.getfield 259, 3) := by decide +kernel
theorem dd_203_50 : decode prog_14_method_76_code 50 = .ok (.invokevirtual 253, 3) := by decide +kernel
theorem dd_203_53 : decode prog_14_method_76_code 53 = .ok (.iload_n 1, 1) := by decide +kernel
theorem dd_203_54 : decode prog_14_method_76_code 54 = .ok (.if_icmp .ne 14, 3) := by decide +kernel
theorem dd_203_57 : decode prog_14_method_76_code 57 = .ok (.iconst 1, 1) := by decide +kernel
theorem dd_203_58 : decode prog_14_method_76_code 58 = .ok (.iconst 4, 1) := by decide +kernel
theorem dd_203_59 : decode prog_14_method_76_code 59 = .ok (.iload_n 3, 1) := by decide +kernel
theorem dd_203_60 : decode prog_14_method_76_code 60 = .ok (.imul, 1) := by decide +kernel
theorem dd_203_61 : decode prog_14_method_76_code 61 = .ok (.iload 4, 2) := by decide +kernel
theorem dd_203_63 : decode prog_14_method_76_code 63 = .ok (.iadd, 1) := by decide +kernel
theorem dd_203_64 : decode prog_14_method_76_code 64 = .ok (.ishl, 1) := by decide +kernel
theorem dd_203_65 : decode prog_14_method_76_code 65 = .ok (.goto 4, 3) := by decide +kernel
theorem dd_203_68 : decode prog_14_method_76_code 68 = .ok (.iconst 0, 1) := by decide +kernel
theorem dd_203_69 : decode prog_14_method_76_code 69 = .ok (.ior, 1) := by decide +kernel
theorem dd_203_70 : decode prog_14_method_76_code 70 = .ok (.istore_n 2, 1) := by decide +kernel
theorem dd_203_71 : decode prog_14_method_76_code 71 = .ok (.iinc 4 1, 3) := by decide +kernel
theorem dd_203_74 : decode prog_14_method_76_code 74 = .ok (.goto (-46), 3) := by decide +kernel
theorem dd_203_77 : decode prog_14_method_76_code 77 = .ok (.iinc 3 1, 3) := by decide +kernel
theorem dd_203_80 : decode prog_14_method_76_code 80 = .ok (.goto (-60), 3) := by decide +kernel
theorem dd_203_83 : decode prog_14_method_76_code 83 = .ok (.iload_n 2, 1) := by decide +kernel
theorem dd_203_84 : decode prog_14_method_76_code 84 = .ok (.ireturn, 1) := by decide +kernel
theorem kb_203_0 : am_row mi_203 0 kr_203_0 := am_rs rfl (ok_iload_n (k := 1) dd_203_0 rfl rfl) (am_rs rfl (ok_cs (M' := mi_161) dd_203_1 rfl rfl w_1215 w_1216 ⟨lk_161.1, lk_161.2.1, lk_161.2.2, by decide, by decide⟩) (am_rn rfl (am_rn rfl (am_rs rfl (ok_ifc dd_203_4 (by decide) rfl) (am_rn rfl (am_rn rfl (am_rs rfl (ok_iconst dd_203_7 ic_m1 rfl) (am_rz))))))))
theorem kb_203_1 : am_row mi_203 8 kr_203_1 := am_rs rfl (ok_iret dd_203_8 rfl) (am_rs rfl (ok_aload_n (k := 0) dd_203_9 rfl rfl) (am_rs rfl (ok_iconst dd_203_10 ic_0 rfl) (am_rs rfl (ok_bipush dd_203_11 bi_m4 rfl) (am_rn rfl (am_rs rfl (ok_cv (M' := mi_155) dd_203_13 rfl rfl w_1192 w_1194 ps_155 ⟨lk_155.1, lk_155.2.1, lk_155.2.2, by decide, by decide⟩ rfl) (am_rn rfl (am_rn rfl (am_rz))))))))
theorem kb_203_2 : am_row mi_203 16 kr_203_2 := am_rs rfl (ok_iconst dd_203_16 ic_0 rfl) (am_rs rfl (ok_istore_n (k := 2) dd_203_17 rfl rfl (by decide)) (am_rs rfl (ok_iconst dd_203_18 ic_0 rfl) (am_rs rfl (ok_istore_n (k := 3) dd_203_19 rfl rfl (by decide)) (am_rs rfl (ok_iload_n (k := 3) dd_203_20 rfl rfl) (am_rs rfl (ok_iconst dd_203_21 ic_3 rfl) (am_rs rfl (ok_icmp dd_203_22 (by decide) rfl) (am_rn rfl (am_rz))))))))
theorem kb_203_3 : am_row mi_203 24 kr_203_3 := am_rn rfl (am_rs rfl (ok_iconst dd_203_25 ic_0 rfl) (am_rs rfl (ok_istore dd_203_26 rfl (by decide)) (am_rn rfl (am_rs rfl (ok_iload dd_203_28 rfl) (am_rn rfl (am_rs rfl (ok_aload_n (k := 0) dd_203_30 rfl rfl) (am_rs rfl (ok_gf dd_203_31 rfl am_ck12 (by decide) (Or.inl w_937)) (am_rz))))))))
theorem kb_203_4 : am_row mi_203 32 kr_203_4 := am_rn rfl (am_rn rfl (am_rs rfl (ok_icmp dd_203_34 (by decide) rfl) (am_rn rfl (am_rn rfl (am_rs rfl (ok_aload_n (k := 0) dd_203_37 rfl rfl) (am_rs rfl (ok_iload_n (k := 3) dd_203_38 rfl rfl) (am_rs rfl (ok_iload dd_203_39 rfl) (am_rz))))))))
theorem kb_203_5 : am_row mi_203 40 kr_203_5 := am_rn rfl (am_rs rfl (ok_cv (M' := mi_166) dd_203_41 rfl rfl w_1234 w_1236 ps_166 ⟨lk_166.1, lk_166.2.1, lk_166.2.2, by decide, by decide⟩ rfl) (am_rn rfl (am_rn rfl (am_rs rfl (ok_iload_n (k := 2) dd_203_44 rfl rfl) (am_rs rfl (ok_aload_n (k := 0) dd_203_45 rfl rfl) (am_rs rfl (ok_aload_n (k := 0) dd_203_46 rfl rfl) (am_rs rfl (ok_gf dd_203_47 rfl am_ck12 (by decide) (Or.inl w_972)) (am_rz))))))))
theorem kb_203_6 : am_row mi_203 48 kr_203_6 := am_rn rfl (am_rn rfl (am_rs rfl (ok_cv (M' := mi_162) dd_203_50 rfl rfl w_1218 w_1220 ps_162 ⟨lk_162.1, lk_162.2.1, lk_162.2.2, by decide, by decide⟩ rfl) (am_rn rfl (am_rn rfl (am_rs rfl (ok_iload_n (k := 1) dd_203_53 rfl rfl) (am_rs rfl (ok_icmp dd_203_54 (by decide) rfl) (am_rn rfl (am_rz))))))))
theorem kb_203_7 : am_row mi_203 56 kr_203_7 := am_rn rfl (am_rs rfl (ok_iconst dd_203_57 ic_1 rfl) (am_rs rfl (ok_iconst dd_203_58 ic_4 rfl) (am_rs rfl (ok_iload_n (k := 3) dd_203_59 rfl rfl) (am_rs rfl (ok_imul dd_203_60 rfl) (am_rs rfl (ok_iload dd_203_61 rfl) (am_rn rfl (am_rs rfl (ok_iadd dd_203_63 rfl) (am_rz))))))))
theorem kb_203_8 : am_row mi_203 64 kr_203_8 := am_rs rfl (ok_ishl dd_203_64 rfl) (am_rs rfl (ok_goto dd_203_65 (by decide)) (am_rn rfl (am_rn rfl (am_rs rfl (ok_iconst dd_203_68 ic_0 rfl) (am_rs rfl (ok_ior dd_203_69 rfl) (am_rs rfl (ok_istore_n (k := 2) dd_203_70 rfl rfl (by decide)) (am_rs rfl (ok_iinc dd_203_71 ic_1 rfl (by decide)) (am_rz))))))))
theorem kb_203_9 : am_row mi_203 72 kr_203_9 := am_rn rfl (am_rn rfl (am_rs rfl (ok_goto dd_203_74 (by decide)) (am_rn rfl (am_rn rfl (am_rs rfl (ok_iinc dd_203_77 ic_1 rfl (by decide)) (am_rn rfl (am_rn rfl (am_rz))))))))
theorem kb_203_10 : am_row mi_203 80 kr_203_10 := am_rs rfl (ok_goto dd_203_80 (by decide)) (am_rn rfl (am_rn rfl (am_rs rfl (ok_iload_n (k := 2) dd_203_83 rfl rfl) (am_rs rfl (ok_iret dd_203_84 rfl) (am_rz)))))
theorem ck_203 : am_rows mi_203 0 cd_203 := am_bs rfl kb_203_0 (am_bs rfl kb_203_1 (am_bs rfl kb_203_2 (am_bs rfl kb_203_3 (am_bs rfl kb_203_4 (am_bs rfl kb_203_5 (am_bs rfl kb_203_6 (am_bs rfl kb_203_7 (am_bs rfl kb_203_8 (am_bs rfl kb_203_9 (am_bs rfl kb_203_10 (am_bz)))))))))))
/-- OverAndBackModel.matters(I)I -/
noncomputable def kr_204_0 : List (Option am_Op) := [some (am_ald0 0 1), some (am_ild 1 2), some (am_cv 164 1 12 5), none, none, some (am_br1 .ne 10 8), none, none]
noncomputable def kr_204_1 : List (Option am_Op) := [some (am_psh (.retAddr 4294967295) 9), some (am_iret), some (am_ald0 0 11), some (am_psh (.retAddr 0) 12), some (am_psh (.retAddr 4294967292) 14), none, some (am_cv 155 2 12 17), none]
noncomputable def kr_204_2 : List (Option am_Op) := [none, some (am_ald0 0 18), some (am_ild 1 19), some (am_cv 165 1 12 22), none, none, some (am_ald0 0 23), some (am_gf 12 36 26)]
noncomputable def kr_204_3 : List (Option am_Op) := [none, none, some (am_ist 2 27), some (am_ald0 0 28), some (am_ald0 0 29), some (am_gf 12 37 32), none, none]
noncomputable def kr_204_4 : List (Option am_Op) := [some (am_cv 162 1 12 35), none, none, some (am_ist 3 36), some (am_psh (.retAddr 0) 37), some (am_ist 4 39), none, some (am_psh (.retAddr 0) 40)]
noncomputable def kr_204_5 : List (Option am_Op) := [some (am_ist 5 42), none, some (am_ild 5 44), none, some (am_ald0 0 45), some (am_gf 12 4 48), none, none]
noncomputable def kr_204_6 : List (Option am_Op) := [some (am_br2 .ge 102 51), none, none, some (am_ald0 0 52), some (am_psh (.retAddr 0) 53), some (am_ild 5 55), none, some (am_cv 155 2 12 58)]
noncomputable def kr_204_7 : List (Option am_Op) := [none, none, some (am_ald0 0 59), some (am_ild 1 60), some (am_cv 165 1 12 63), none, none, some (am_ild 4 65)]
noncomputable def kr_204_8 : List (Option am_Op) := [none, some (am_ald0 0 66), some (am_gf 12 36 69), none, none, some (am_ild 2 70), some (am_br2 .ne 85 73), none]
noncomputable def kr_204_9 : List (Option am_Op) := [none, some (am_ald0 0 74), some (am_ald0 0 75), some (am_gf 12 37 78), none, none, some (am_cv 162 1 12 81), none]
noncomputable def kr_204_10 : List (Option am_Op) := [none, some (am_ild 3 82), some (am_br2 .eq 92 85), none, none, some (am_psh (.retAddr 1) 86), some (am_ild 5 88), none]
noncomputable def kr_204_11 : List (Option am_Op) := [some (am_bin am_shl 89), some (am_jmp 93), none, none, some (am_psh (.retAddr 0) 93), some (am_bin Nat.lor 94), some (am_ist 4 96), none]
noncomputable def kr_204_12 : List (Option am_Op) := [some (am_inc 5 1 99), none, none, some (am_jmp 42), none, none, some (am_ild 4 104), none]
noncomputable def kr_204_13 : List (Option am_Op) := [some (am_iret)]
noncomputable def cd_204 : am_Cd := [kr_204_0, kr_204_1, kr_204_2, kr_204_3, kr_204_4, kr_204_5, kr_204_6, kr_204_7, kr_204_8, kr_204_9, kr_204_10, kr_204_11, kr_204_12, kr_204_13]
theorem dd_204_0 : decode prog_14_method_77_code 0 = .ok (.aload_n 0, 1) := by decide +kernel
theorem dd_204_1 : decode prog_14_method_77_code 1 = .ok (.iload_n 1, 1) := by decide +kernel
theorem dd_204_2 : decode prog_14_method_77_code 2 = .ok (.invokevirtual 285, 3) := by decide +kernel
theorem dd_204_5 : decode prog_14_method_77_code 5 = .ok (.ifCond .ne 5, 3) := by decide +kernel
theorem dd_204_8 : decode prog_14_method_77_code 8 = .ok (.iconst (-1), 1) := by decide +kernel
theorem dd_204_9 : decode prog_14_method_77_code 9 = .ok (.ireturn, 1) := by decide +kernel
theorem dd_204_10 : decode prog_14_method_77_code 10 = .ok (.aload_n 0, 1) := by decide +kernel
theorem dd_204_11 : decode prog_14_method_77_code 11 = .ok (.iconst 0, 1) := by decide +kernel
theorem dd_204_12 : decode prog_14_method_77_code 12 = .ok (.bipush (-4), 2) := by decide +kernel
theorem dd_204_14 : decode prog_14_method_77_code 14 = .ok (.invokevirtual 246, 3) := by decide +kernel
theorem dd_204_17 : decode prog_14_method_77_code 17 = .ok (.aload_n 0, 1) := by decide +kernel
theorem dd_204_18 : decode prog_14_method_77_code 18 = .ok (.iload_n 1, 1) := by decide +kernel
theorem dd_204_19 : decode prog_14_method_77_code 19 = .ok (.invokevirtual 288, 3) := by decide +kernel
theorem dd_204_22 : decode prog_14_method_77_code 22 = .ok (.aload_n 0, 1) := by decide +kernel
theorem dd_204_23 : decode prog_14_method_77_code 23 = .ok (.getfield 256, 3) := by decide +kernel
theorem dd_204_26 : decode prog_14_method_77_code 26 = .ok (.istore_n 2, 1) := by decide +kernel
theorem dd_204_27 : decode prog_14_method_77_code 27 = .ok (.aload_n 0, 1) := by decide +kernel
theorem dd_204_28 : decode prog_14_method_77_code 28 = .ok (.aload_n 0, 1) := by decide +kernel
theorem dd_204_29 : decode prog_14_method_77_code 29 = .ok (.getfield 259, 3) := by decide +kernel
theorem dd_204_32 : decode prog_14_method_77_code 32 = .ok (.invokevirtual 253, 3) := by decide +kernel
theorem dd_204_35 : decode prog_14_method_77_code 35 = .ok (.istore_n 3, 1) := by decide +kernel
theorem dd_204_36 : decode prog_14_method_77_code 36 = .ok (.iconst 0, 1) := by decide +kernel
theorem dd_204_37 : decode prog_14_method_77_code 37 = .ok (.istore 4, 2) := by decide +kernel
theorem dd_204_39 : decode prog_14_method_77_code 39 = .ok (.iconst 0, 1) := by decide +kernel
theorem dd_204_40 : decode prog_14_method_77_code 40 = .ok (.istore 5, 2) := by decide +kernel
theorem dd_204_42 : decode prog_14_method_77_code 42 = .ok (.iload 5, 2) := by decide +kernel
theorem dd_204_44 : decode prog_14_method_77_code 44 = .ok (.aload_n 0, 1) := by decide +kernel
theorem dd_204_45 : decode prog_14_method_77_code 45 = .ok (.getfield 23, 3) := by decide +kernel
theorem dd_204_48 : decode prog_14_method_77_code 48 = .ok (.if_icmp .ge 54, 3) := by decide +kernel
theorem dd_204_51 : decode prog_14_method_77_code 51 = .ok (.aload_n 0, 1) := by decide +kernel
theorem dd_204_52 : decode prog_14_method_77_code 52 = .ok (.iconst 0, 1) := by decide +kernel
theorem dd_204_53 : decode prog_14_method_77_code 53 = .ok (.iload 5, 2) := by decide +kernel
theorem dd_204_55 : decode prog_14_method_77_code 55 = .ok (.invokevirtual 246, 3) := by decide +kernel
theorem dd_204_58 : decode prog_14_method_77_code 58 = .ok (.aload_n 0, 1) := by decide +kernel
theorem dd_204_59 : decode prog_14_method_77_code 59 = .ok (.iload_n 1, 1) := by decide +kernel
theorem dd_204_60 : decode prog_14_method_77_code 60 = .ok (.invokevirtual 288, 3) := by decide +kernel
theorem dd_204_63 : decode prog_14_method_77_code 63 = .ok (.iload 4, 2) := by decide +kernel
theorem dd_204_65 : decode prog_14_method_77_code 65 = .ok (.aload_n 0, 1) := by decide +kernel
theorem dd_204_66 : decode prog_14_method_77_code 66 = .ok (.getfield 256, 3) := by decide +kernel
theorem dd_204_69 : decode prog_14_method_77_code 69 = .ok (.iload_n 2, 1) := by decide +kernel
theorem dd_204_70 : decode prog_14_method_77_code 70 = .ok (.if_icmp .ne 15, 3) := by decide +kernel
theorem dd_204_73 : decode prog_14_method_77_code 73 = .ok (.aload_n 0, 1) := by decide +kernel
theorem dd_204_74 : decode prog_14_method_77_code 74 = .ok (.aload_n 0, 1) := by decide +kernel
theorem dd_204_75 : decode prog_14_method_77_code 75 = .ok (.getfield 259, 3) := by decide +kernel
theorem dd_204_78 : decode prog_14_method_77_code 78 = .ok (.invokevirtual 253, 3) := by decide +kernel
theorem dd_204_81 : decode prog_14_method_77_code 81 = .ok (.iload_n 3, 1) := by decide +kernel
theorem dd_204_82 : decode prog_14_method_77_code 82 = .ok (.if_icmp .eq 10, 3) := by decide +kernel
theorem dd_204_85 : decode prog_14_method_77_code 85 = .ok (.iconst 1, 1) := by decide +kernel
theorem dd_204_86 : decode prog_14_method_77_code 86 = .ok (.iload 5, 2) := by decide +kernel
theorem dd_204_88 : decode prog_14_method_77_code 88 = .ok (.ishl, 1) := by decide +kernel
theorem dd_204_89 : decode prog_14_method_77_code 89 = .ok (.goto 4, 3) := by decide +kernel
theorem dd_204_92 : decode prog_14_method_77_code 92 = .ok (.iconst 0, 1) := by decide +kernel
theorem dd_204_93 : decode prog_14_method_77_code 93 = .ok (.ior, 1) := by decide +kernel
theorem dd_204_94 : decode prog_14_method_77_code 94 = .ok (.istore 4, 2) := by decide +kernel
theorem dd_204_96 : decode prog_14_method_77_code 96 = .ok (.iinc 5 1, 3) := by decide +kernel
theorem dd_204_99 : decode prog_14_method_77_code 99 = .ok (.goto (-57), 3) := by decide +kernel
theorem dd_204_102 : decode prog_14_method_77_code 102 = .ok (.iload 4, 2) := by decide +kernel
theorem dd_204_104 : decode prog_14_method_77_code 104 = .ok (.ireturn, 1) := by decide +kernel
theorem kb_204_0 : am_row mi_204 0 kr_204_0 := am_rs rfl (ok_aload_n (k := 0) dd_204_0 rfl rfl) (am_rs rfl (ok_iload_n (k := 1) dd_204_1 rfl rfl) (am_rs rfl (ok_cv (M' := mi_164) dd_204_2 rfl rfl w_1226 w_1228 ps_164 ⟨lk_164.1, lk_164.2.1, lk_164.2.2, by decide, by decide⟩ rfl) (am_rn rfl (am_rn rfl (am_rs rfl (ok_ifc dd_204_5 (by decide) rfl) (am_rn rfl (am_rn rfl (am_rz))))))))
theorem kb_204_1 : am_row mi_204 8 kr_204_1 := am_rs rfl (ok_iconst dd_204_8 ic_m1 rfl) (am_rs rfl (ok_iret dd_204_9 rfl) (am_rs rfl (ok_aload_n (k := 0) dd_204_10 rfl rfl) (am_rs rfl (ok_iconst dd_204_11 ic_0 rfl) (am_rs rfl (ok_bipush dd_204_12 bi_m4 rfl) (am_rn rfl (am_rs rfl (ok_cv (M' := mi_155) dd_204_14 rfl rfl w_1192 w_1194 ps_155 ⟨lk_155.1, lk_155.2.1, lk_155.2.2, by decide, by decide⟩ rfl) (am_rn rfl (am_rz))))))))
theorem kb_204_2 : am_row mi_204 16 kr_204_2 := am_rn rfl (am_rs rfl (ok_aload_n (k := 0) dd_204_17 rfl rfl) (am_rs rfl (ok_iload_n (k := 1) dd_204_18 rfl rfl) (am_rs rfl (ok_cv (M' := mi_165) dd_204_19 rfl rfl w_1230 w_1232 ps_165 ⟨lk_165.1, lk_165.2.1, lk_165.2.2, by decide, by decide⟩ rfl) (am_rn rfl (am_rn rfl (am_rs rfl (ok_aload_n (k := 0) dd_204_22 rfl rfl) (am_rs rfl (ok_gf dd_204_23 rfl am_ck12 (by decide) (Or.inl w_971)) (am_rz))))))))
theorem kb_204_3 : am_row mi_204 24 kr_204_3 := am_rn rfl (am_rn rfl (am_rs rfl (ok_istore_n (k := 2) dd_204_26 rfl rfl (by decide)) (am_rs rfl (ok_aload_n (k := 0) dd_204_27 rfl rfl) (am_rs rfl (ok_aload_n (k := 0) dd_204_28 rfl rfl) (am_rs rfl (ok_gf dd_204_29 rfl am_ck12 (by decide) (Or.inl w_972)) (am_rn rfl (am_rn rfl (am_rz))))))))
theorem kb_204_4 : am_row mi_204 32 kr_204_4 := am_rs rfl (ok_cv (M' := mi_162) dd_204_32 rfl rfl w_1218 w_1220 ps_162 ⟨lk_162.1, lk_162.2.1, lk_162.2.2, by decide, by decide⟩ rfl) (am_rn rfl (am_rn rfl (am_rs rfl (ok_istore_n (k := 3) dd_204_35 rfl rfl (by decide)) (am_rs rfl (ok_iconst dd_204_36 ic_0 rfl) (am_rs rfl (ok_istore dd_204_37 rfl (by decide)) (am_rn rfl (am_rs rfl (ok_iconst dd_204_39 ic_0 rfl) (am_rz))))))))
theorem kb_204_5 : am_row mi_204 40 kr_204_5 := am_rs rfl (ok_istore dd_204_40 rfl (by decide)) (am_rn rfl (am_rs rfl (ok_iload dd_204_42 rfl) (am_rn rfl (am_rs rfl (ok_aload_n (k := 0) dd_204_44 rfl rfl) (am_rs rfl (ok_gf dd_204_45 rfl am_ck12 (by decide) (Or.inl w_939)) (am_rn rfl (am_rn rfl (am_rz))))))))
theorem kb_204_6 : am_row mi_204 48 kr_204_6 := am_rs rfl (ok_icmp dd_204_48 (by decide) rfl) (am_rn rfl (am_rn rfl (am_rs rfl (ok_aload_n (k := 0) dd_204_51 rfl rfl) (am_rs rfl (ok_iconst dd_204_52 ic_0 rfl) (am_rs rfl (ok_iload dd_204_53 rfl) (am_rn rfl (am_rs rfl (ok_cv (M' := mi_155) dd_204_55 rfl rfl w_1192 w_1194 ps_155 ⟨lk_155.1, lk_155.2.1, lk_155.2.2, by decide, by decide⟩ rfl) (am_rz))))))))
theorem kb_204_7 : am_row mi_204 56 kr_204_7 := am_rn rfl (am_rn rfl (am_rs rfl (ok_aload_n (k := 0) dd_204_58 rfl rfl) (am_rs rfl (ok_iload_n (k := 1) dd_204_59 rfl rfl) (am_rs rfl (ok_cv (M' := mi_165) dd_204_60 rfl rfl w_1230 w_1232 ps_165 ⟨lk_165.1, lk_165.2.1, lk_165.2.2, by decide, by decide⟩ rfl) (am_rn rfl (am_rn rfl (am_rs rfl (ok_iload dd_204_63 rfl) (am_rz))))))))
theorem kb_204_8 : am_row mi_204 64 kr_204_8 := am_rn rfl (am_rs rfl (ok_aload_n (k := 0) dd_204_65 rfl rfl) (am_rs rfl (ok_gf dd_204_66 rfl am_ck12 (by decide) (Or.inl w_971)) (am_rn rfl (am_rn rfl (am_rs rfl (ok_iload_n (k := 2) dd_204_69 rfl rfl) (am_rs rfl (ok_icmp dd_204_70 (by decide) rfl) (am_rn rfl (am_rz))))))))
theorem kb_204_9 : am_row mi_204 72 kr_204_9 := am_rn rfl (am_rs rfl (ok_aload_n (k := 0) dd_204_73 rfl rfl) (am_rs rfl (ok_aload_n (k := 0) dd_204_74 rfl rfl) (am_rs rfl (ok_gf dd_204_75 rfl am_ck12 (by decide) (Or.inl w_972)) (am_rn rfl (am_rn rfl (am_rs rfl (ok_cv (M' := mi_162) dd_204_78 rfl rfl w_1218 w_1220 ps_162 ⟨lk_162.1, lk_162.2.1, lk_162.2.2, by decide, by decide⟩ rfl) (am_rn rfl (am_rz))))))))
theorem kb_204_10 : am_row mi_204 80 kr_204_10 := am_rn rfl (am_rs rfl (ok_iload_n (k := 3) dd_204_81 rfl rfl) (am_rs rfl (ok_icmp dd_204_82 (by decide) rfl) (am_rn rfl (am_rn rfl (am_rs rfl (ok_iconst dd_204_85 ic_1 rfl) (am_rs rfl (ok_iload dd_204_86 rfl) (am_rn rfl (am_rz))))))))
theorem kb_204_11 : am_row mi_204 88 kr_204_11 := am_rs rfl (ok_ishl dd_204_88 rfl) (am_rs rfl (ok_goto dd_204_89 (by decide)) (am_rn rfl (am_rn rfl (am_rs rfl (ok_iconst dd_204_92 ic_0 rfl) (am_rs rfl (ok_ior dd_204_93 rfl) (am_rs rfl (ok_istore dd_204_94 rfl (by decide)) (am_rn rfl (am_rz))))))))
theorem kb_204_12 : am_row mi_204 96 kr_204_12 := am_rs rfl (ok_iinc dd_204_96 ic_1 rfl (by decide)) (am_rn rfl (am_rn rfl (am_rs rfl (ok_goto dd_204_99 (by decide)) (am_rn rfl (am_rn rfl (am_rs rfl (ok_iload dd_204_102 rfl) (am_rn rfl (am_rz))))))))
theorem kb_204_13 : am_row mi_204 104 kr_204_13 := am_rs rfl (ok_iret dd_204_104 rfl) (am_rz)
theorem ck_204 : am_rows mi_204 0 cd_204 := am_bs rfl kb_204_0 (am_bs rfl kb_204_1 (am_bs rfl kb_204_2 (am_bs rfl kb_204_3 (am_bs rfl kb_204_4 (am_bs rfl kb_204_5 (am_bs rfl kb_204_6 (am_bs rfl kb_204_7 (am_bs rfl kb_204_8 (am_bs rfl kb_204_9 (am_bs rfl kb_204_10 (am_bs rfl kb_204_11 (am_bs rfl kb_204_12 (am_bs rfl kb_204_13 (am_bz))))))))))))))
/-- OverAndBackModel.night(III)I -/
noncomputable def kr_205_0 : List (Option am_Op) := [some (am_ild 1 1), some (am_psh (.retAddr 0) 2), some (am_psh (.retAddr 9999) 5), none, none, some (am_cs 133 3 8), none, none]
noncomputable def kr_205_1 : List (Option am_Op) := [some (am_br1 .eq 28 11), none, none, some (am_ald0 0 12), some (am_ild 2 13), some (am_cv 164 1 12 16), none, none]
noncomputable def kr_205_2 : List (Option am_Op) := [some (am_br1 .eq 28 19), none, none, some (am_ild 3 20), some (am_psh (.retAddr 0) 21), some (am_psh (.retAddr 1) 22), some (am_cs 133 3 25), none]
noncomputable def kr_205_3 : List (Option am_Op) := [none, some (am_br1 .ne 30 28), none, none, some (am_psh (.retAddr 4294967295) 29), some (am_iret), some (am_ald0 0 31), some (am_ild 1 32)]
noncomputable def kr_205_4 : List (Option am_Op) := [some (am_cv 206 1 12 35), none, none, some (am_ald0 0 36), some (am_ild 2 37), some (am_cv 165 1 12 40), none, none]
noncomputable def kr_205_5 : List (Option am_Op) := [some (am_ild 3 41), some (am_br1 .ne 51 44), none, none, some (am_ald0 0 45), some (am_gf 12 36 48), none, none]
noncomputable def kr_205_6 : List (Option am_Op) := [some (am_jmp 55), none, none, some (am_ald0 0 52), some (am_gf 12 38 55), none, none, some (am_iret)]
noncomputable def cd_205 : am_Cd := [kr_205_0, kr_205_1, kr_205_2, kr_205_3, kr_205_4, kr_205_5, kr_205_6]
theorem dd_205_0 : decode prog_14_method_78_code 0 = .ok (.iload_n 1, 1) := by decide +kernel
theorem dd_205_1 : decode prog_14_method_78_code 1 = .ok (.iconst 0, 1) := by decide +kernel
theorem dd_205_2 : decode prog_14_method_78_code 2 = .ok (.sipush 9999, 3) := by decide +kernel
theorem dd_205_5 : decode prog_14_method_78_code 5 = .ok (.invokestatic 116, 3) := by decide +kernel
theorem dd_205_8 : decode prog_14_method_78_code 8 = .ok (.ifCond .eq 20, 3) := by decide +kernel
theorem dd_205_11 : decode prog_14_method_78_code 11 = .ok (.aload_n 0, 1) := by decide +kernel
theorem dd_205_12 : decode prog_14_method_78_code 12 = .ok (.iload_n 2, 1) := by decide +kernel
theorem dd_205_13 : decode prog_14_method_78_code 13 = .ok (.invokevirtual 285, 3) := by decide +kernel
theorem dd_205_16 : decode prog_14_method_78_code 16 = .ok (.ifCond .eq 12, 3) := by decide +kernel
theorem dd_205_19 : decode prog_14_method_78_code 19 = .ok (.iload_n 3, 1) := by decide +kernel
theorem dd_205_20 : decode prog_14_method_78_code 20 = .ok (.iconst 0, 1) := by decide +kernel
theorem dd_205_21 : decode prog_14_method_78_code 21 = .ok (.iconst 1, 1) := by decide +kernel
theorem dd_205_22 : decode prog_14_method_78_code 22 = .ok (.invokestatic 116, 3) := by decide +kernel
theorem dd_205_25 : decode prog_14_method_78_code 25 = .ok (.ifCond .ne 5, 3) := by decide +kernel
theorem dd_205_28 : decode prog_14_method_78_code 28 = .ok (.iconst (-1), 1) := by decide +kernel
theorem dd_205_29 : decode prog_14_method_78_code 29 = .ok (.ireturn, 1) := by decide +kernel
theorem dd_205_30 : decode prog_14_method_78_code 30 = .ok (.aload_n 0, 1) := by decide +kernel
theorem dd_205_31 : decode prog_14_method_78_code 31 = .ok (.iload_n 1, 1) := by decide +kernel
theorem dd_205_32 : decode prog_14_method_78_code 32 = .ok (.invokevirtual 355, 3) := by decide +kernel
theorem dd_205_35 : decode prog_14_method_78_code 35 = .ok (.aload_n 0, 1) := by decide +kernel
theorem dd_205_36 : decode prog_14_method_78_code 36 = .ok (.iload_n 2, 1) := by decide +kernel
theorem dd_205_37 : decode prog_14_method_78_code 37 = .ok (.invokevirtual 288, 3) := by decide +kernel
theorem dd_205_40 : decode prog_14_method_78_code 40 = .ok (.iload_n 3, 1) := by decide +kernel
theorem dd_205_41 : decode prog_14_method_78_code 41 = .ok (.ifCond .ne 10, 3) := by decide +kernel
theorem dd_205_44 : decode prog_14_method_78_code 44 = .ok (.aload_n 0, 1) := by decide +kernel
theorem dd_205_45 : decode prog_14_method_78_code 45 = .ok (.getfield 256, 3) := by decide +kernel
theorem dd_205_48 : decode prog_14_method_78_code 48 = .ok (.goto 7, 3) := by decide +kernel
theorem dd_205_51 : decode prog_14_method_78_code 51 = .ok (.aload_n 0, 1) := by decide +kernel
theorem dd_205_52 : decode prog_14_method_78_code 52 = .ok (.getfield 262, 3) := by decide +kernel
theorem dd_205_55 : decode prog_14_method_78_code 55 = .ok (.ireturn, 1) := by decide +kernel
theorem kb_205_0 : am_row mi_205 0 kr_205_0 := am_rs rfl (ok_iload_n (k := 1) dd_205_0 rfl rfl) (am_rs rfl (ok_iconst dd_205_1 ic_0 rfl) (am_rs rfl (ok_sipush dd_205_2 si_9999 rfl) (am_rn rfl (am_rn rfl (am_rs rfl (ok_cs (M' := mi_133) dd_205_5 rfl rfl w_1106 w_1107 ⟨lk_133.1, lk_133.2.1, lk_133.2.2, by decide, by decide⟩) (am_rn rfl (am_rn rfl (am_rz))))))))
theorem kb_205_1 : am_row mi_205 8 kr_205_1 := am_rs rfl (ok_ifc dd_205_8 (by decide) rfl) (am_rn rfl (am_rn rfl (am_rs rfl (ok_aload_n (k := 0) dd_205_11 rfl rfl) (am_rs rfl (ok_iload_n (k := 2) dd_205_12 rfl rfl) (am_rs rfl (ok_cv (M' := mi_164) dd_205_13 rfl rfl w_1226 w_1228 ps_164 ⟨lk_164.1, lk_164.2.1, lk_164.2.2, by decide, by decide⟩ rfl) (am_rn rfl (am_rn rfl (am_rz))))))))
theorem kb_205_2 : am_row mi_205 16 kr_205_2 := am_rs rfl (ok_ifc dd_205_16 (by decide) rfl) (am_rn rfl (am_rn rfl (am_rs rfl (ok_iload_n (k := 3) dd_205_19 rfl rfl) (am_rs rfl (ok_iconst dd_205_20 ic_0 rfl) (am_rs rfl (ok_iconst dd_205_21 ic_1 rfl) (am_rs rfl (ok_cs (M' := mi_133) dd_205_22 rfl rfl w_1106 w_1107 ⟨lk_133.1, lk_133.2.1, lk_133.2.2, by decide, by decide⟩) (am_rn rfl (am_rz))))))))
theorem kb_205_3 : am_row mi_205 24 kr_205_3 := am_rn rfl (am_rs rfl (ok_ifc dd_205_25 (by decide) rfl) (am_rn rfl (am_rn rfl (am_rs rfl (ok_iconst dd_205_28 ic_m1 rfl) (am_rs rfl (ok_iret dd_205_29 rfl) (am_rs rfl (ok_aload_n (k := 0) dd_205_30 rfl rfl) (am_rs rfl (ok_iload_n (k := 1) dd_205_31 rfl rfl) (am_rz))))))))
theorem kb_205_4 : am_row mi_205 32 kr_205_4 := am_rs rfl (ok_cv (M' := mi_206) dd_205_32 rfl rfl w_1392 w_1394 ps_206 ⟨lk_206.1, lk_206.2.1, lk_206.2.2, by decide, by decide⟩ rfl) (am_rn rfl (am_rn rfl (am_rs rfl (ok_aload_n (k := 0) dd_205_35 rfl rfl) (am_rs rfl (ok_iload_n (k := 2) dd_205_36 rfl rfl) (am_rs rfl (ok_cv (M' := mi_165) dd_205_37 rfl rfl w_1230 w_1232 ps_165 ⟨lk_165.1, lk_165.2.1, lk_165.2.2, by decide, by decide⟩ rfl) (am_rn rfl (am_rn rfl (am_rz))))))))
theorem kb_205_5 : am_row mi_205 40 kr_205_5 := am_rs rfl (ok_iload_n (k := 3) dd_205_40 rfl rfl) (am_rs rfl (ok_ifc dd_205_41 (by decide) rfl) (am_rn rfl (am_rn rfl (am_rs rfl (ok_aload_n (k := 0) dd_205_44 rfl rfl) (am_rs rfl (ok_gf dd_205_45 rfl am_ck12 (by decide) (Or.inl w_971)) (am_rn rfl (am_rn rfl (am_rz))))))))
theorem kb_205_6 : am_row mi_205 48 kr_205_6 := am_rs rfl (ok_goto dd_205_48 (by decide)) (am_rn rfl (am_rn rfl (am_rs rfl (ok_aload_n (k := 0) dd_205_51 rfl rfl) (am_rs rfl (ok_gf dd_205_52 rfl am_ck12 (by decide) (Or.inl w_973)) (am_rn rfl (am_rn rfl (am_rs rfl (ok_iret dd_205_55 rfl) (am_rz))))))))
theorem ck_205 : am_rows mi_205 0 cd_205 := am_bs rfl kb_205_0 (am_bs rfl kb_205_1 (am_bs rfl kb_205_2 (am_bs rfl kb_205_3 (am_bs rfl kb_205_4 (am_bs rfl kb_205_5 (am_bs rfl kb_205_6 (am_bz)))))))
/-- OverAndBackModel.layNight(I)V -/
noncomputable def kr_206_0 : List (Option am_Op) := [some (am_ald0 0 1), some (am_psh (.retAddr 4294967292) 3), none, some (am_cv 156 1 12 6), none, none, some (am_psh (.retAddr 0) 7), some (am_ist 2 8)]
noncomputable def kr_206_1 : List (Option am_Op) := [some (am_ild 2 9), some (am_ald0 0 10), some (am_gf 12 2 13), none, none, some (am_br2 .ge 96 16), none, none]
noncomputable def kr_206_2 : List (Option am_Op) := [some (am_psh (.retAddr 0) 17), some (am_ist 3 18), some (am_ild 3 19), some (am_ald0 0 20), some (am_gf 12 0 23), none, none, some (am_br2 .ge 90 26)]
noncomputable def kr_206_3 : List (Option am_Op) := [none, none, some (am_psh (.long 7919) 29), none, none, some (am_ild 1 30), some (am_i2l 31), some (am_lbin (fun a b => a * b) 32)]
noncomputable def kr_206_4 : List (Option am_Op) := [some (am_psh (.long 6151) 35), none, none, some (am_ild 3 36), some (am_i2l 37), some (am_lbin (fun a b => a * b) 38), some (am_lbin (fun a b => a + b) 39), some (am_psh (.long 3571) 42)]
noncomputable def kr_206_5 : List (Option am_Op) := [none, none, some (am_ild 2 43), some (am_i2l 44), some (am_lbin (fun a b => a * b) 45), some (am_lbin (fun a b => a + b) 46), some (am_psh (.long 1) 47), some (am_lbin (fun a b => a + b) 48)]
noncomputable def kr_206_6 : List (Option am_Op) := [some (am_lst 4 50), none, some (am_ald0 0 51), some (am_gf 12 34 54), none, none, some (am_psh (.retAddr 64) 56), none]
noncomputable def kr_206_7 : List (Option am_Op) := [some (am_ild 2 57), some (am_bin am_mul 58), some (am_ild 3 59), some (am_bin am_add 60), some (am_lld 4 62), none, some (am_lld 4 64), none]
noncomputable def kr_206_8 : List (Option am_Op) := [some (am_lbin (fun a b => a * b) 65), some (am_psh (.long 65521) 68), none, none, some (am_lrm 69), some (am_psh (.long 4) 72), none, none]
noncomputable def kr_206_9 : List (Option am_Op) := [some (am_lrm 73), some (am_psh (.long 0) 74), some (am_lcp 75), some (am_br1 .ne 82 78), none, none, some (am_psh (.retAddr 1) 79), some (am_jmp 83)]
noncomputable def kr_206_10 : List (Option am_Op) := [none, none, some (am_psh (.retAddr 0) 83), some (am_ast 2 (fun v => v % 2) 84), some (am_inc 3 1 87), none, none, some (am_jmp 18)]
noncomputable def kr_206_11 : List (Option am_Op) := [none, none, some (am_inc 2 1 93), none, none, some (am_jmp 8), none, none]
noncomputable def kr_206_12 : List (Option am_Op) := [some (am_ald0 0 97), some (am_cv 159 0 12 100), none, none, some (am_vret)]
noncomputable def cd_206 : am_Cd := [kr_206_0, kr_206_1, kr_206_2, kr_206_3, kr_206_4, kr_206_5, kr_206_6, kr_206_7, kr_206_8, kr_206_9, kr_206_10, kr_206_11, kr_206_12]
theorem dd_206_0 : decode prog_14_method_34_code 0 = .ok (.aload_n 0, 1) := by decide +kernel
theorem dd_206_1 : decode prog_14_method_34_code 1 = .ok (.bipush (-4), 2) := by decide +kernel
theorem dd_206_3 : decode prog_14_method_34_code 3 = .ok (.invokevirtual 216, 3) := by decide +kernel
theorem dd_206_6 : decode prog_14_method_34_code 6 = .ok (.iconst 0, 1) := by decide +kernel
theorem dd_206_7 : decode prog_14_method_34_code 7 = .ok (.istore_n 2, 1) := by decide +kernel
theorem dd_206_8 : decode prog_14_method_34_code 8 = .ok (.iload_n 2, 1) := by decide +kernel
theorem dd_206_9 : decode prog_14_method_34_code 9 = .ok (.aload_n 0, 1) := by decide +kernel
theorem dd_206_10 : decode prog_14_method_34_code 10 = .ok (.getfield 16, 3) := by decide +kernel
theorem dd_206_13 : decode prog_14_method_34_code 13 = .ok (.if_icmp .ge 83, 3) := by decide +kernel
theorem dd_206_16 : decode prog_14_method_34_code 16 = .ok (.iconst 0, 1) := by decide +kernel
theorem dd_206_17 : decode prog_14_method_34_code 17 = .ok (.istore_n 3, 1) := by decide +kernel
theorem dd_206_18 : decode prog_14_method_34_code 18 = .ok (.iload_n 3, 1) := by decide +kernel
theorem dd_206_19 : decode prog_14_method_34_code 19 = .ok (.aload_n 0, 1) := by decide +kernel
theorem dd_206_20 : decode prog_14_method_34_code 20 = .ok (.getfield 7, 3) := by decide +kernel
theorem dd_206_23 : decode prog_14_method_34_code 23 = .ok (.if_icmp .ge 67, 3) := by decide +kernel
theorem dd_206_26 : decode prog_14_method_34_code 26 = .ok (.ldc2_w 230, 3) := by decide +kernel
theorem dd_206_29 : decode prog_14_method_34_code 29 = .ok (.iload_n 1, 1) := by decide +kernel
theorem dd_206_30 : decode prog_14_method_34_code 30 = .ok (.i2l, 1) := by decide +kernel
theorem dd_206_31 : decode prog_14_method_34_code 31 = .ok (.lmul, 1) := by decide +kernel
theorem dd_206_32 : decode prog_14_method_34_code 32 = .ok (.ldc2_w 232, 3) := by decide +kernel
theorem dd_206_35 : decode prog_14_method_34_code 35 = .ok (.iload_n 3, 1) := by decide +kernel
theorem dd_206_36 : decode prog_14_method_34_code 36 = .ok (.i2l, 1) := by decide +kernel
theorem dd_206_37 : decode prog_14_method_34_code 37 = .ok (.lmul, 1) := by decide +kernel
theorem dd_206_38 : decode prog_14_method_34_code 38 = .ok (.ladd, 1) := by decide +kernel
theorem dd_206_39 : decode prog_14_method_34_code 39 = .ok (.ldc2_w 234, 3) := by decide +kernel
theorem dd_206_42 : decode prog_14_method_34_code 42 = .ok (.iload_n 2, 1) := by decide +kernel
theorem dd_206_43 : decode prog_14_method_34_code 43 = .ok (.i2l, 1) := by decide +kernel
theorem dd_206_44 : decode prog_14_method_34_code 44 = .ok (.lmul, 1) := by decide +kernel
theorem dd_206_45 : decode prog_14_method_34_code 45 = .ok (.ladd, 1) := by decide +kernel
theorem dd_206_46 : decode prog_14_method_34_code 46 = .ok (.lconst 1, 1) := by decide +kernel
theorem dd_206_47 : decode prog_14_method_34_code 47 = .ok (.ladd, 1) := by decide +kernel
theorem dd_206_48 : decode prog_14_method_34_code 48 = .ok (.lstore 4, 2) := by decide +kernel
theorem dd_206_50 : decode prog_14_method_34_code 50 = .ok (.aload_n 0, 1) := by decide +kernel
theorem dd_206_51 : decode prog_14_method_34_code 51 = .ok (.getfield 80, 3) := by decide +kernel
theorem dd_206_54 : decode prog_14_method_34_code 54 = .ok (.bipush 64, 2) := by decide +kernel
theorem dd_206_56 : decode prog_14_method_34_code 56 = .ok (.iload_n 2, 1) := by decide +kernel
theorem dd_206_57 : decode prog_14_method_34_code 57 = .ok (.imul, 1) := by decide +kernel
theorem dd_206_58 : decode prog_14_method_34_code 58 = .ok (.iload_n 3, 1) := by decide +kernel
theorem dd_206_59 : decode prog_14_method_34_code 59 = .ok (.iadd, 1) := by decide +kernel
theorem dd_206_60 : decode prog_14_method_34_code 60 = .ok (.lload 4, 2) := by decide +kernel
theorem dd_206_62 : decode prog_14_method_34_code 62 = .ok (.lload 4, 2) := by decide +kernel
theorem dd_206_64 : decode prog_14_method_34_code 64 = .ok (.lmul, 1) := by decide +kernel
theorem dd_206_65 : decode prog_14_method_34_code 65 = .ok (.ldc2_w 236, 3) := by decide +kernel
theorem dd_206_68 : decode prog_14_method_34_code 68 = .ok (.lrem, 1) := by decide +kernel
theorem dd_206_69 : decode prog_14_method_34_code 69 = .ok (.ldc2_w 238, 3) := by decide +kernel
theorem dd_206_72 : decode prog_14_method_34_code 72 = .ok (.lrem, 1) := by decide +kernel
theorem dd_206_73 : decode prog_14_method_34_code 73 = .ok (.lconst 0, 1) := by decide +kernel
theorem dd_206_74 : decode prog_14_method_34_code 74 = .ok (.lcmp, 1) := by decide +kernel
theorem dd_206_75 : decode prog_14_method_34_code 75 = .ok (.ifCond .ne 7, 3) := by decide +kernel
theorem dd_206_78 : decode prog_14_method_34_code 78 = .ok (.iconst 1, 1) := by decide +kernel
theorem dd_206_79 : decode prog_14_method_34_code 79 = .ok (.goto 4, 3) := by decide +kernel
theorem dd_206_82 : decode prog_14_method_34_code 82 = .ok (.iconst 0, 1) := by decide +kernel
theorem dd_206_83 : decode prog_14_method_34_code 83 = .ok (.bastore, 1) := by decide +kernel
theorem dd_206_84 : decode prog_14_method_34_code 84 = .ok (.iinc 3 1, 3) := by decide +kernel
theorem dd_206_87 : decode prog_14_method_34_code 87 = .ok (.goto (-69), 3) := by decide +kernel
theorem dd_206_90 : decode prog_14_method_34_code 90 = .ok (.iinc 2 1, 3) := by decide +kernel
theorem dd_206_93 : decode prog_14_method_34_code 93 = .ok (.goto (-85), 3) := by decide +kernel
theorem dd_206_96 : decode prog_14_method_34_code 96 = .ok (.aload_n 0, 1) := by decide +kernel
theorem dd_206_97 : decode prog_14_method_34_code 97 = .ok (.invokevirtual 227, 3) := by decide +kernel
theorem dd_206_100 : decode prog_14_method_34_code 100 = .ok (.return_, 1) := by decide +kernel
theorem kb_206_0 : am_row mi_206 0 kr_206_0 := am_rs rfl (ok_aload_n (k := 0) dd_206_0 rfl rfl) (am_rs rfl (ok_bipush dd_206_1 bi_m4 rfl) (am_rn rfl (am_rs rfl (ok_cv (M' := mi_156) dd_206_3 rfl rfl w_1196 w_1198 ps_156 ⟨lk_156.1, lk_156.2.1, lk_156.2.2, by decide, by decide⟩ rfl) (am_rn rfl (am_rn rfl (am_rs rfl (ok_iconst dd_206_6 ic_0 rfl) (am_rs rfl (ok_istore_n (k := 2) dd_206_7 rfl rfl (by decide)) (am_rz))))))))
theorem kb_206_1 : am_row mi_206 8 kr_206_1 := am_rs rfl (ok_iload_n (k := 2) dd_206_8 rfl rfl) (am_rs rfl (ok_aload_n (k := 0) dd_206_9 rfl rfl) (am_rs rfl (ok_gf dd_206_10 rfl am_ck12 (by decide) (Or.inl w_937)) (am_rn rfl (am_rn rfl (am_rs rfl (ok_icmp dd_206_13 (by decide) rfl) (am_rn rfl (am_rn rfl (am_rz))))))))
theorem kb_206_2 : am_row mi_206 16 kr_206_2 := am_rs rfl (ok_iconst dd_206_16 ic_0 rfl) (am_rs rfl (ok_istore_n (k := 3) dd_206_17 rfl rfl (by decide)) (am_rs rfl (ok_iload_n (k := 3) dd_206_18 rfl rfl) (am_rs rfl (ok_aload_n (k := 0) dd_206_19 rfl rfl) (am_rs rfl (ok_gf dd_206_20 rfl am_ck12 (by decide) (Or.inl w_935)) (am_rn rfl (am_rn rfl (am_rs rfl (ok_icmp dd_206_23 (by decide) rfl) (am_rz))))))))
theorem kb_206_3 : am_row mi_206 24 kr_206_3 := am_rn rfl (am_rn rfl (am_rs rfl (ok_ldc2 dd_206_26 w_1396 rfl) (am_rn rfl (am_rn rfl (am_rs rfl (ok_iload_n (k := 1) dd_206_29 rfl rfl) (am_rs rfl (ok_i2l dd_206_30 rfl) (am_rs rfl (ok_lmul dd_206_31 rfl) (am_rz))))))))
theorem kb_206_4 : am_row mi_206 32 kr_206_4 := am_rs rfl (ok_ldc2 dd_206_32 w_1397 rfl) (am_rn rfl (am_rn rfl (am_rs rfl (ok_iload_n (k := 3) dd_206_35 rfl rfl) (am_rs rfl (ok_i2l dd_206_36 rfl) (am_rs rfl (ok_lmul dd_206_37 rfl) (am_rs rfl (ok_ladd dd_206_38 rfl) (am_rs rfl (ok_ldc2 dd_206_39 w_1398 rfl) (am_rz))))))))
theorem kb_206_5 : am_row mi_206 40 kr_206_5 := am_rn rfl (am_rn rfl (am_rs rfl (ok_iload_n (k := 2) dd_206_42 rfl rfl) (am_rs rfl (ok_i2l dd_206_43 rfl) (am_rs rfl (ok_lmul dd_206_44 rfl) (am_rs rfl (ok_ladd dd_206_45 rfl) (am_rs rfl (ok_lconst (d := 1) dd_206_46 (by decide +kernel) rfl) (am_rs rfl (ok_ladd dd_206_47 rfl) (am_rz))))))))
theorem kb_206_6 : am_row mi_206 48 kr_206_6 := am_rs rfl (ok_lstore dd_206_48 rfl (by decide)) (am_rn rfl (am_rs rfl (ok_aload_n (k := 0) dd_206_50 rfl rfl) (am_rs rfl (ok_gf dd_206_51 rfl am_ck12 (by decide) (Or.inl w_969)) (am_rn rfl (am_rn rfl (am_rs rfl (ok_bipush dd_206_54 bi_64 rfl) (am_rn rfl (am_rz))))))))
theorem kb_206_7 : am_row mi_206 56 kr_206_7 := am_rs rfl (ok_iload_n (k := 2) dd_206_56 rfl rfl) (am_rs rfl (ok_imul dd_206_57 rfl) (am_rs rfl (ok_iload_n (k := 3) dd_206_58 rfl rfl) (am_rs rfl (ok_iadd dd_206_59 rfl) (am_rs rfl (ok_lload dd_206_60 rfl) (am_rn rfl (am_rs rfl (ok_lload dd_206_62 rfl) (am_rn rfl (am_rz))))))))
theorem kb_206_8 : am_row mi_206 64 kr_206_8 := am_rs rfl (ok_lmul dd_206_64 rfl) (am_rs rfl (ok_ldc2 dd_206_65 w_1399 rfl) (am_rn rfl (am_rn rfl (am_rs rfl (ok_lrem dd_206_68 rfl) (am_rs rfl (ok_ldc2 dd_206_69 w_1400 rfl) (am_rn rfl (am_rn rfl (am_rz))))))))
theorem kb_206_9 : am_row mi_206 72 kr_206_9 := am_rs rfl (ok_lrem dd_206_72 rfl) (am_rs rfl (ok_lconst (d := 0) dd_206_73 (by decide +kernel) rfl) (am_rs rfl (ok_lcmp dd_206_74 rfl) (am_rs rfl (ok_ifc dd_206_75 (by decide) rfl) (am_rn rfl (am_rn rfl (am_rs rfl (ok_iconst dd_206_78 ic_1 rfl) (am_rs rfl (ok_goto dd_206_79 (by decide)) (am_rz))))))))
theorem kb_206_10 : am_row mi_206 80 kr_206_10 := am_rn rfl (am_rn rfl (am_rs rfl (ok_iconst dd_206_82 ic_0 rfl) (am_rs rfl (ok_zast dd_206_83 rfl) (am_rs rfl (ok_iinc dd_206_84 ic_1 rfl (by decide)) (am_rn rfl (am_rn rfl (am_rs rfl (ok_goto dd_206_87 (by decide)) (am_rz))))))))
theorem kb_206_11 : am_row mi_206 88 kr_206_11 := am_rn rfl (am_rn rfl (am_rs rfl (ok_iinc dd_206_90 ic_1 rfl (by decide)) (am_rn rfl (am_rn rfl (am_rs rfl (ok_goto dd_206_93 (by decide)) (am_rn rfl (am_rn rfl (am_rz))))))))
theorem kb_206_12 : am_row mi_206 96 kr_206_12 := am_rs rfl (ok_aload_n (k := 0) dd_206_96 rfl rfl) (am_rs rfl (ok_cv (M' := mi_159) dd_206_97 rfl rfl w_1207 w_1209 ps_159 ⟨lk_159.1, lk_159.2.1, lk_159.2.2, by decide, by decide⟩ rfl) (am_rn rfl (am_rn rfl (am_rs rfl (ok_vret dd_206_100 rfl) (am_rz)))))
theorem ck_206 : am_rows mi_206 0 cd_206 := am_bs rfl kb_206_0 (am_bs rfl kb_206_1 (am_bs rfl kb_206_2 (am_bs rfl kb_206_3 (am_bs rfl kb_206_4 (am_bs rfl kb_206_5 (am_bs rfl kb_206_6 (am_bs rfl kb_206_7 (am_bs rfl kb_206_8 (am_bs rfl kb_206_9 (am_bs rfl kb_206_10 (am_bs rfl kb_206_11 (am_bs rfl kb_206_12 (am_bz)))))))))))))
/-- OverAndBackModel.keep()I -/
noncomputable def kr_207_0 : List (Option am_Op) := [some (am_ald0 0 1), some (am_gf 12 53 4), none, none, some (am_psh (.retAddr 2) 5), some (am_br2 .ne 11 8), none, none]
noncomputable def kr_207_1 : List (Option am_Op) := [some (am_psh (.retAddr 4294967293) 10), none, some (am_iret), some (am_ald0 0 12), some (am_gf 12 54 15), none, none, some (am_psh (.retAddr 20) 17)]
noncomputable def kr_207_2 : List (Option am_Op) := [none, some (am_ald0 0 18), some (am_gf 12 53 21), none, none, some (am_bin am_mul 22), some (am_ald0 0 23), some (am_gf 12 39 26)]
noncomputable def kr_207_3 : List (Option am_Op) := [none, none, some (am_ast 0 (fun v => v) 27), some (am_ald0 0 28), some (am_gf 12 54 31), none, none, some (am_psh (.retAddr 20) 33)]
noncomputable def kr_207_4 : List (Option am_Op) := [none, some (am_ald0 0 34), some (am_gf 12 53 37), none, none, some (am_bin am_mul 38), some (am_psh (.retAddr 1) 39), some (am_bin am_add 40)]
noncomputable def kr_207_5 : List (Option am_Op) := [some (am_ald0 0 41), some (am_gf 12 40 44), none, none, some (am_ast 0 (fun v => v) 45), some (am_psh (.retAddr 0) 46), some (am_ist 1 47), some (am_ild 1 48)]
noncomputable def kr_207_6 : List (Option am_Op) := [some (am_psh (.retAddr 18) 50), none, some (am_br2 .ge 81 53), none, none, some (am_ald0 0 54), some (am_gf 12 54 57), none]
noncomputable def kr_207_7 : List (Option am_Op) := [none, some (am_psh (.retAddr 20) 59), none, some (am_ald0 0 60), some (am_gf 12 53 63), none, none, some (am_bin am_mul 64)]
noncomputable def kr_207_8 : List (Option am_Op) := [some (am_psh (.retAddr 2) 65), some (am_bin am_add 66), some (am_ild 1 67), some (am_bin am_add 68), some (am_ald0 0 69), some (am_gf 12 41 72), none, none]
noncomputable def kr_207_9 : List (Option am_Op) := [some (am_ild 1 73), some (am_ald 0 74), some (am_ast 0 (fun v => v) 75), some (am_inc 1 1 78), none, none, some (am_jmp 47), none]
noncomputable def kr_207_10 : List (Option am_Op) := [none, some (am_ald0 0 82), some (am_dup 83), some (am_gf 12 53 86), none, none, some (am_psh (.retAddr 1) 87), some (am_bin am_add 88)]
noncomputable def kr_207_11 : List (Option am_Op) := [some (am_pf 12 53 0 91), none, none, some (am_ald0 0 92), some (am_gf 12 53 95), none, none, some (am_iret)]
noncomputable def cd_207 : am_Cd := [kr_207_0, kr_207_1, kr_207_2, kr_207_3, kr_207_4, kr_207_5, kr_207_6, kr_207_7, kr_207_8, kr_207_9, kr_207_10, kr_207_11]
theorem dd_207_0 : decode prog_14_method_79_code 0 = .ok (.aload_n 0, 1) := by decide +kernel
theorem dd_207_1 : decode prog_14_method_79_code 1 = .ok (.getfield 213, 3) := by decide +kernel
theorem dd_207_4 : decode prog_14_method_79_code 4 = .ok (.iconst 2, 1) := by decide +kernel
theorem dd_207_5 : decode prog_14_method_79_code 5 = .ok (.if_icmp .ne 6, 3) := by decide +kernel
theorem dd_207_8 : decode prog_14_method_79_code 8 = .ok (.bipush (-3), 2) := by decide +kernel
theorem dd_207_10 : decode prog_14_method_79_code 10 = .ok (.ireturn, 1) := by decide +kernel
theorem dd_207_11 : decode prog_14_method_79_code 11 = .ok (.aload_n 0, 1) := by decide +kernel
theorem dd_207_12 : decode prog_14_method_79_code 12 = .ok (.getfield 109, 3) := by decide +kernel
theorem dd_207_15 : decode prog_14_method_79_code 15 = .ok (.bipush 20, 2) := by decide +kernel
theorem dd_207_17 : decode prog_14_method_79_code 17 = .ok (.aload_n 0, 1) := by decide +kernel
theorem dd_207_18 : decode prog_14_method_79_code 18 = .ok (.getfield 213, 3) := by decide +kernel
theorem dd_207_21 : decode prog_14_method_79_code 21 = .ok (.imul, 1) := by decide +kernel
theorem dd_207_22 : decode prog_14_method_79_code 22 = .ok (.aload_n 0, 1) := by decide +kernel
theorem dd_207_23 : decode prog_14_method_79_code 23 = .ok (.getfield 204, 3) := by decide +kernel
theorem dd_207_26 : decode prog_14_method_79_code 26 = .ok (.iastore, 1) := by decide +kernel
theorem dd_207_27 : decode prog_14_method_79_code 27 = .ok (.aload_n 0, 1) := by decide +kernel
theorem dd_207_28 : decode prog_14_method_79_code 28 = .ok (.getfield 109, 3) := by decide +kernel
theorem dd_207_31 : decode prog_14_method_79_code 31 = .ok (.bipush 20, 2) := by decide +kernel
theorem dd_207_33 : decode prog_14_method_79_code 33 = .ok (.aload_n 0, 1) := by decide +kernel
theorem dd_207_34 : decode prog_14_method_79_code 34 = .ok (.getfield 213, 3) := by decide +kernel
theorem dd_207_37 : decode prog_14_method_79_code 37 = .ok (.imul, 1) := by decide +kernel
theorem dd_207_38 : decode prog_14_method_79_code 38 = .ok (.iconst 1, 1) := by decide +kernel
theorem dd_207_39 : decode prog_14_method_79_code 39 = .ok (.iadd, 1) := by decide +kernel
theorem dd_207_40 : decode prog_14_method_79_code 40 = .ok (.aload_n 0, 1) := by decide +kernel
theorem dd_207_41 : decode prog_14_method_79_code 41 = .ok (.getfield 207, 3) := by decide +kernel
theorem dd_207_44 : decode prog_14_method_79_code 44 = .ok (.iastore, 1) := by decide +kernel
theorem dd_207_45 : decode prog_14_method_79_code 45 = .ok (.iconst 0, 1) := by decide +kernel
theorem dd_207_46 : decode prog_14_method_79_code 46 = .ok (.istore_n 1, 1) := by decide +kernel
theorem dd_207_47 : decode prog_14_method_79_code 47 = .ok (.iload_n 1, 1) := by decide +kernel
theorem dd_207_48 : decode prog_14_method_79_code 48 = .ok (.bipush 18, 2) := by decide +kernel
theorem dd_207_50 : decode prog_14_method_79_code 50 = .ok (.if_icmp .ge 31, 3) := by decide +kernel
theorem dd_207_53 : decode prog_14_method_79_code 53 = .ok (.aload_n 0, 1) := by decide +kernel
theorem dd_207_54 : decode prog_14_method_79_code 54 = .ok (.getfield 109, 3) := by decide +kernel
theorem dd_207_57 : decode prog_14_method_79_code 57 = .ok (.bipush 20, 2) := by decide +kernel
theorem dd_207_59 : decode prog_14_method_79_code 59 = .ok (.aload_n 0, 1) := by decide +kernel
theorem dd_207_60 : decode prog_14_method_79_code 60 = .ok (.getfield 213, 3) := by decide +kernel
theorem dd_207_63 : decode prog_14_method_79_code 63 = .ok (.imul, 1) := by decide +kernel
theorem dd_207_64 : decode prog_14_method_79_code 64 = .ok (.iconst 2, 1) := by decide +kernel
theorem dd_207_65 : decode prog_14_method_79_code 65 = .ok (.iadd, 1) := by decide +kernel
theorem dd_207_66 : decode prog_14_method_79_code 66 = .ok (.iload_n 1, 1) := by decide +kernel
theorem dd_207_67 : decode prog_14_method_79_code 67 = .ok (.iadd, 1) := by decide +kernel
theorem dd_207_68 : decode prog_14_method_79_code 68 = .ok (.aload_n 0, 1) := by decide +kernel
theorem dd_207_69 : decode prog_14_method_79_code 69 = .ok (.getfield 87, 3) := by decide +kernel
theorem dd_207_72 : decode prog_14_method_79_code 72 = .ok (.iload_n 1, 1) := by decide +kernel
theorem dd_207_73 : decode prog_14_method_79_code 73 = .ok (.iaload, 1) := by decide +kernel
theorem dd_207_74 : decode prog_14_method_79_code 74 = .ok (.iastore, 1) := by decide +kernel
theorem dd_207_75 : decode prog_14_method_79_code 75 = .ok (.iinc 1 1, 3) := by decide +kernel
theorem dd_207_78 : decode prog_14_method_79_code 78 = .ok (.goto (-31), 3) := by decide +kernel
theorem dd_207_81 : decode prog_14_method_79_code 81 = .ok (.aload_n 0, 1) := by decide +kernel
theorem dd_207_82 : decode prog_14_method_79_code 82 = .ok (.dup, 1) := by decide +kernel
theorem dd_207_83 : decode prog_14_method_79_code 83 = .ok (.getfield 213, 3) := by decide +kernel
theorem dd_207_86 : decode prog_14_method_79_code 86 = .ok (.iconst 1, 1) := by decide +kernel
theorem dd_207_87 : decode prog_14_method_79_code 87 = .ok (.iadd, 1) := by decide +kernel
theorem dd_207_88 : decode prog_14_method_79_code 88 = .ok (.putfield 213, 3) := by decide +kernel
theorem dd_207_91 : decode prog_14_method_79_code 91 = .ok (.aload_n 0, 1) := by decide +kernel
theorem dd_207_92 : decode prog_14_method_79_code 92 = .ok (.getfield 213, 3) := by decide +kernel
theorem dd_207_95 : decode prog_14_method_79_code 95 = .ok (.ireturn, 1) := by decide +kernel
theorem kb_207_0 : am_row mi_207 0 kr_207_0 := am_rs rfl (ok_aload_n (k := 0) dd_207_0 rfl rfl) (am_rs rfl (ok_gf dd_207_1 rfl am_ck12 (by decide) (Or.inl w_988)) (am_rn rfl (am_rn rfl (am_rs rfl (ok_iconst dd_207_4 ic_2 rfl) (am_rs rfl (ok_icmp dd_207_5 (by decide) rfl) (am_rn rfl (am_rn rfl (am_rz))))))))
theorem kb_207_1 : am_row mi_207 8 kr_207_1 := am_rs rfl (ok_bipush dd_207_8 bi_m3 rfl) (am_rn rfl (am_rs rfl (ok_iret dd_207_10 rfl) (am_rs rfl (ok_aload_n (k := 0) dd_207_11 rfl rfl) (am_rs rfl (ok_gf dd_207_12 rfl am_ck12 (by decide) (Or.inl w_989)) (am_rn rfl (am_rn rfl (am_rs rfl (ok_bipush dd_207_15 bi_20 rfl) (am_rz))))))))
theorem kb_207_2 : am_row mi_207 16 kr_207_2 := am_rn rfl (am_rs rfl (ok_aload_n (k := 0) dd_207_17 rfl rfl) (am_rs rfl (ok_gf dd_207_18 rfl am_ck12 (by decide) (Or.inl w_988)) (am_rn rfl (am_rn rfl (am_rs rfl (ok_imul dd_207_21 rfl) (am_rs rfl (ok_aload_n (k := 0) dd_207_22 rfl rfl) (am_rs rfl (ok_gf dd_207_23 rfl am_ck12 (by decide) (Or.inl w_974)) (am_rz))))))))
theorem kb_207_3 : am_row mi_207 24 kr_207_3 := am_rn rfl (am_rn rfl (am_rs rfl (ok_iast dd_207_26 rfl) (am_rs rfl (ok_aload_n (k := 0) dd_207_27 rfl rfl) (am_rs rfl (ok_gf dd_207_28 rfl am_ck12 (by decide) (Or.inl w_989)) (am_rn rfl (am_rn rfl (am_rs rfl (ok_bipush dd_207_31 bi_20 rfl) (am_rz))))))))
theorem kb_207_4 : am_row mi_207 32 kr_207_4 := am_rn rfl (am_rs rfl (ok_aload_n (k := 0) dd_207_33 rfl rfl) (am_rs rfl (ok_gf dd_207_34 rfl am_ck12 (by decide) (Or.inl w_988)) (am_rn rfl (am_rn rfl (am_rs rfl (ok_imul dd_207_37 rfl) (am_rs rfl (ok_iconst dd_207_38 ic_1 rfl) (am_rs rfl (ok_iadd dd_207_39 rfl) (am_rz))))))))
theorem kb_207_5 : am_row mi_207 40 kr_207_5 := am_rs rfl (ok_aload_n (k := 0) dd_207_40 rfl rfl) (am_rs rfl (ok_gf dd_207_41 rfl am_ck12 (by decide) (Or.inl w_975)) (am_rn rfl (am_rn rfl (am_rs rfl (ok_iast dd_207_44 rfl) (am_rs rfl (ok_iconst dd_207_45 ic_0 rfl) (am_rs rfl (ok_istore_n (k := 1) dd_207_46 rfl rfl (by decide)) (am_rs rfl (ok_iload_n (k := 1) dd_207_47 rfl rfl) (am_rz))))))))
theorem kb_207_6 : am_row mi_207 48 kr_207_6 := am_rs rfl (ok_bipush dd_207_48 bi_18 rfl) (am_rn rfl (am_rs rfl (ok_icmp dd_207_50 (by decide) rfl) (am_rn rfl (am_rn rfl (am_rs rfl (ok_aload_n (k := 0) dd_207_53 rfl rfl) (am_rs rfl (ok_gf dd_207_54 rfl am_ck12 (by decide) (Or.inl w_989)) (am_rn rfl (am_rz))))))))
theorem kb_207_7 : am_row mi_207 56 kr_207_7 := am_rn rfl (am_rs rfl (ok_bipush dd_207_57 bi_20 rfl) (am_rn rfl (am_rs rfl (ok_aload_n (k := 0) dd_207_59 rfl rfl) (am_rs rfl (ok_gf dd_207_60 rfl am_ck12 (by decide) (Or.inl w_988)) (am_rn rfl (am_rn rfl (am_rs rfl (ok_imul dd_207_63 rfl) (am_rz))))))))
theorem kb_207_8 : am_row mi_207 64 kr_207_8 := am_rs rfl (ok_iconst dd_207_64 ic_2 rfl) (am_rs rfl (ok_iadd dd_207_65 rfl) (am_rs rfl (ok_iload_n (k := 1) dd_207_66 rfl rfl) (am_rs rfl (ok_iadd dd_207_67 rfl) (am_rs rfl (ok_aload_n (k := 0) dd_207_68 rfl rfl) (am_rs rfl (ok_gf dd_207_69 rfl am_ck12 (by decide) (Or.inl w_976)) (am_rn rfl (am_rn rfl (am_rz))))))))
theorem kb_207_9 : am_row mi_207 72 kr_207_9 := am_rs rfl (ok_iload_n (k := 1) dd_207_72 rfl rfl) (am_rs rfl (ok_iald dd_207_73 rfl) (am_rs rfl (ok_iast dd_207_74 rfl) (am_rs rfl (ok_iinc dd_207_75 ic_1 rfl (by decide)) (am_rn rfl (am_rn rfl (am_rs rfl (ok_goto dd_207_78 (by decide)) (am_rn rfl (am_rz))))))))
theorem kb_207_10 : am_row mi_207 80 kr_207_10 := am_rn rfl (am_rs rfl (ok_aload_n (k := 0) dd_207_81 rfl rfl) (am_rs rfl (ok_dup dd_207_82 rfl) (am_rs rfl (ok_gf dd_207_83 rfl am_ck12 (by decide) (Or.inl w_988)) (am_rn rfl (am_rn rfl (am_rs rfl (ok_iconst dd_207_86 ic_1 rfl) (am_rs rfl (ok_iadd dd_207_87 rfl) (am_rz))))))))
theorem kb_207_11 : am_row mi_207 88 kr_207_11 := am_rs rfl (ok_pf dd_207_88 rfl am_ck12 (by decide) (Or.inl w_988) (Or.inl rfl) rfl) (am_rn rfl (am_rn rfl (am_rs rfl (ok_aload_n (k := 0) dd_207_91 rfl rfl) (am_rs rfl (ok_gf dd_207_92 rfl am_ck12 (by decide) (Or.inl w_988)) (am_rn rfl (am_rn rfl (am_rs rfl (ok_iret dd_207_95 rfl) (am_rz))))))))
theorem ck_207 : am_rows mi_207 0 cd_207 := am_bs rfl kb_207_0 (am_bs rfl kb_207_1 (am_bs rfl kb_207_2 (am_bs rfl kb_207_3 (am_bs rfl kb_207_4 (am_bs rfl kb_207_5 (am_bs rfl kb_207_6 (am_bs rfl kb_207_7 (am_bs rfl kb_207_8 (am_bs rfl kb_207_9 (am_bs rfl kb_207_10 (am_bs rfl kb_207_11 (am_bz))))))))))))
/-- OverAndBackModel.back()I -/
noncomputable def kr_208_0 : List (Option am_Op) := [some (am_ald0 0 1), some (am_gf 12 53 4), none, none, some (am_br1 .ne 10 7), none, none, some (am_psh (.retAddr 4294967294) 9)]
noncomputable def kr_208_1 : List (Option am_Op) := [none, some (am_iret), some (am_ald0 0 11), some (am_dup 12), some (am_gf 12 53 15), none, none, some (am_psh (.retAddr 1) 16)]
noncomputable def kr_208_2 : List (Option am_Op) := [some (am_bin am_sub 17), some (am_pf 12 53 0 20), none, none, some (am_ald0 0 21), some (am_ald0 0 22), some (am_gf 12 54 25), none]
noncomputable def kr_208_3 : List (Option am_Op) := [none, some (am_psh (.retAddr 20) 27), none, some (am_ald0 0 28), some (am_gf 12 53 31), none, none, some (am_bin am_mul 32)]
noncomputable def kr_208_4 : List (Option am_Op) := [some (am_ald 0 33), some (am_pf 12 39 0 36), none, none, some (am_ald0 0 37), some (am_ald0 0 38), some (am_gf 12 54 41), none]
noncomputable def kr_208_5 : List (Option am_Op) := [none, some (am_psh (.retAddr 20) 43), none, some (am_ald0 0 44), some (am_gf 12 53 47), none, none, some (am_bin am_mul 48)]
noncomputable def kr_208_6 : List (Option am_Op) := [some (am_psh (.retAddr 1) 49), some (am_bin am_add 50), some (am_ald 0 51), some (am_pf 12 40 0 54), none, none, some (am_psh (.retAddr 0) 55), some (am_ist 1 56)]
noncomputable def kr_208_7 : List (Option am_Op) := [some (am_ild 1 57), some (am_psh (.retAddr 18) 59), none, some (am_br2 .ge 90 62), none, none, some (am_ald0 0 63), some (am_gf 12 41 66)]
noncomputable def kr_208_8 : List (Option am_Op) := [none, none, some (am_ild 1 67), some (am_ald0 0 68), some (am_gf 12 54 71), none, none, some (am_psh (.retAddr 20) 73)]
noncomputable def kr_208_9 : List (Option am_Op) := [none, some (am_ald0 0 74), some (am_gf 12 53 77), none, none, some (am_bin am_mul 78), some (am_psh (.retAddr 2) 79), some (am_bin am_add 80)]
noncomputable def kr_208_10 : List (Option am_Op) := [some (am_ild 1 81), some (am_bin am_add 82), some (am_ald 0 83), some (am_ast 0 (fun v => v) 84), some (am_inc 1 1 87), none, none, some (am_jmp 56)]
noncomputable def kr_208_11 : List (Option am_Op) := [none, none, some (am_ald0 0 91), some (am_psh (.retAddr 0) 92), some (am_pf 12 42 0 95), none, none, some (am_ald0 0 96)]
noncomputable def kr_208_12 : List (Option am_Op) := [some (am_gf 12 53 99), none, none, some (am_iret)]
noncomputable def cd_208 : am_Cd := [kr_208_0, kr_208_1, kr_208_2, kr_208_3, kr_208_4, kr_208_5, kr_208_6, kr_208_7, kr_208_8, kr_208_9, kr_208_10, kr_208_11, kr_208_12]
theorem dd_208_0 : decode prog_14_method_80_code 0 = .ok (.aload_n 0, 1) := by decide +kernel
theorem dd_208_1 : decode prog_14_method_80_code 1 = .ok (.getfield 213, 3) := by decide +kernel
theorem dd_208_4 : decode prog_14_method_80_code 4 = .ok (.ifCond .ne 6, 3) := by decide +kernel
theorem dd_208_7 : decode prog_14_method_80_code 7 = .ok (.bipush (-2), 2) := by decide +kernel
theorem dd_208_9 : decode prog_14_method_80_code 9 = .ok (.ireturn, 1) := by decide +kernel
theorem dd_208_10 : decode prog_14_method_80_code 10 = .ok (.aload_n 0, 1) := by decide +kernel
theorem dd_208_11 : decode prog_14_method_80_code 11 = .ok (.dup, 1) := by decide +kernel
theorem dd_208_12 : decode prog_14_method_80_code 12 = .ok (.getfield 213, 3) := by decide +kernel
theorem dd_208_15 : decode prog_14_method_80_code 15 = .ok (.iconst 1, 1) := by decide +kernel
theorem dd_208_16 : decode prog_14_method_80_code 16 = .ok (.isub, 1) := by decide +kernel
theorem dd_208_17 : decode prog_14_method_80_code 17 = .ok (.putfield 213, 3) := by decide +kernel
theorem dd_208_20 : decode prog_14_method_80_code 20 = .ok (.aload_n 0, 1) := by decide +kernel
theorem dd_208_21 : decode prog_14_method_80_code 21 = .ok (.aload_n 0, 1) := by decide +kernel
theorem dd_208_22 : decode prog_14_method_80_code 22 = .ok (.getfield 109, 3) := by decide +kernel
theorem dd_208_25 : decode prog_14_method_80_code 25 = .ok (.bipush 20, 2) := by decide +kernel
theorem dd_208_27 : decode prog_14_method_80_code 27 = .ok (.aload_n 0, 1) := by decide +kernel
theorem dd_208_28 : decode prog_14_method_80_code 28 = .ok (.getfield 213, 3) := by decide +kernel
theorem dd_208_31 : decode prog_14_method_80_code 31 = .ok (.imul, 1) := by decide +kernel
theorem dd_208_32 : decode prog_14_method_80_code 32 = .ok (.iaload, 1) := by decide +kernel
theorem dd_208_33 : decode prog_14_method_80_code 33 = .ok (.putfield 204, 3) := by decide +kernel
theorem dd_208_36 : decode prog_14_method_80_code 36 = .ok (.aload_n 0, 1) := by decide +kernel
theorem dd_208_37 : decode prog_14_method_80_code 37 = .ok (.aload_n 0, 1) := by decide +kernel
theorem dd_208_38 : decode prog_14_method_80_code 38 = .ok (.getfield 109, 3) := by decide +kernel
theorem dd_208_41 : decode prog_14_method_80_code 41 = .ok (.bipush 20, 2) := by decide +kernel
theorem dd_208_43 : decode prog_14_method_80_code 43 = .ok (.aload_n 0, 1) := by decide +kernel
theorem dd_208_44 : decode prog_14_method_80_code 44 = .ok (.getfield 213, 3) := by decide +kernel
theorem dd_208_47 : decode prog_14_method_80_code 47 = .ok (.imul, 1) := by decide +kernel
theorem dd_208_48 : decode prog_14_method_80_code 48 = .ok (.iconst 1, 1) := by decide +kernel
theorem dd_208_49 : decode prog_14_method_80_code 49 = .ok (.iadd, 1) := by decide +kernel
theorem dd_208_50 : decode prog_14_method_80_code 50 = .ok (.iaload, 1) := by decide +kernel
theorem dd_208_51 : decode prog_14_method_80_code 51 = .ok (.putfield 207, 3) := by decide +kernel
theorem dd_208_54 : decode prog_14_method_80_code 54 = .ok (.iconst 0, 1) := by decide +kernel
theorem dd_208_55 : decode prog_14_method_80_code 55 = .ok (.istore_n 1, 1) := by decide +kernel
theorem dd_208_56 : decode prog_14_method_80_code 56 = .ok (.iload_n 1, 1) := by decide +kernel
theorem dd_208_57 : decode prog_14_method_80_code 57 = .ok (.bipush 18, 2) := by decide +kernel
theorem dd_208_59 : decode prog_14_method_80_code 59 = .ok (.if_icmp .ge 31, 3) := by decide +kernel
theorem dd_208_62 : decode prog_14_method_80_code 62 = .ok (.aload_n 0, 1) := by decide +kernel
theorem dd_208_63 : decode prog_14_method_80_code 63 = .ok (.getfield 87, 3) := by decide +kernel
theorem dd_208_66 : decode prog_14_method_80_code 66 = .ok (.iload_n 1, 1) := by decide +kernel
theorem dd_208_67 : decode prog_14_method_80_code 67 = .ok (.aload_n 0, 1) := by decide +kernel
theorem dd_208_68 : decode prog_14_method_80_code 68 = .ok (.getfield 109, 3) := by decide +kernel
theorem dd_208_71 : decode prog_14_method_80_code 71 = .ok (.bipush 20, 2) := by decide +kernel
theorem dd_208_73 : decode prog_14_method_80_code 73 = .ok (.aload_n 0, 1) := by decide +kernel
theorem dd_208_74 : decode prog_14_method_80_code 74 = .ok (.getfield 213, 3) := by decide +kernel
theorem dd_208_77 : decode prog_14_method_80_code 77 = .ok (.imul, 1) := by decide +kernel
theorem dd_208_78 : decode prog_14_method_80_code 78 = .ok (.iconst 2, 1) := by decide +kernel
theorem dd_208_79 : decode prog_14_method_80_code 79 = .ok (.iadd, 1) := by decide +kernel
theorem dd_208_80 : decode prog_14_method_80_code 80 = .ok (.iload_n 1, 1) := by decide +kernel
theorem dd_208_81 : decode prog_14_method_80_code 81 = .ok (.iadd, 1) := by decide +kernel
theorem dd_208_82 : decode prog_14_method_80_code 82 = .ok (.iaload, 1) := by decide +kernel
theorem dd_208_83 : decode prog_14_method_80_code 83 = .ok (.iastore, 1) := by decide +kernel
theorem dd_208_84 : decode prog_14_method_80_code 84 = .ok (.iinc 1 1, 3) := by decide +kernel
theorem dd_208_87 : decode prog_14_method_80_code 87 = .ok (.goto (-31), 3) := by decide +kernel
theorem dd_208_90 : decode prog_14_method_80_code 90 = .ok (.aload_n 0, 1) := by decide +kernel
theorem dd_208_91 : decode prog_14_method_80_code 91 = .ok (.iconst 0, 1) := by decide +kernel
theorem dd_208_92 : decode prog_14_method_80_code 92 = .ok (.putfield 210, 3) := by decide +kernel
theorem dd_208_95 : decode prog_14_method_80_code 95 = .ok (.aload_n 0, 1) := by decide +kernel
theorem dd_208_96 : decode prog_14_method_80_code 96 = .ok (.getfield 213, 3) := by decide +kernel
theorem dd_208_99 : decode prog_14_method_80_code 99 = .ok (.ireturn, 1) := by decide +kernel
theorem kb_208_0 : am_row mi_208 0 kr_208_0 := am_rs rfl (ok_aload_n (k := 0) dd_208_0 rfl rfl) (am_rs rfl (ok_gf dd_208_1 rfl am_ck12 (by decide) (Or.inl w_988)) (am_rn rfl (am_rn rfl (am_rs rfl (ok_ifc dd_208_4 (by decide) rfl) (am_rn rfl (am_rn rfl (am_rs rfl (ok_bipush dd_208_7 bi_m2 rfl) (am_rz))))))))
theorem kb_208_1 : am_row mi_208 8 kr_208_1 := am_rn rfl (am_rs rfl (ok_iret dd_208_9 rfl) (am_rs rfl (ok_aload_n (k := 0) dd_208_10 rfl rfl) (am_rs rfl (ok_dup dd_208_11 rfl) (am_rs rfl (ok_gf dd_208_12 rfl am_ck12 (by decide) (Or.inl w_988)) (am_rn rfl (am_rn rfl (am_rs rfl (ok_iconst dd_208_15 ic_1 rfl) (am_rz))))))))
theorem kb_208_2 : am_row mi_208 16 kr_208_2 := am_rs rfl (ok_isub dd_208_16 rfl) (am_rs rfl (ok_pf dd_208_17 rfl am_ck12 (by decide) (Or.inl w_988) (Or.inl rfl) rfl) (am_rn rfl (am_rn rfl (am_rs rfl (ok_aload_n (k := 0) dd_208_20 rfl rfl) (am_rs rfl (ok_aload_n (k := 0) dd_208_21 rfl rfl) (am_rs rfl (ok_gf dd_208_22 rfl am_ck12 (by decide) (Or.inl w_989)) (am_rn rfl (am_rz))))))))
theorem kb_208_3 : am_row mi_208 24 kr_208_3 := am_rn rfl (am_rs rfl (ok_bipush dd_208_25 bi_20 rfl) (am_rn rfl (am_rs rfl (ok_aload_n (k := 0) dd_208_27 rfl rfl) (am_rs rfl (ok_gf dd_208_28 rfl am_ck12 (by decide) (Or.inl w_988)) (am_rn rfl (am_rn rfl (am_rs rfl (ok_imul dd_208_31 rfl) (am_rz))))))))
theorem kb_208_4 : am_row mi_208 32 kr_208_4 := am_rs rfl (ok_iald dd_208_32 rfl) (am_rs rfl (ok_pf dd_208_33 rfl am_ck12 (by decide) (Or.inl w_974) (Or.inl rfl) rfl) (am_rn rfl (am_rn rfl (am_rs rfl (ok_aload_n (k := 0) dd_208_36 rfl rfl) (am_rs rfl (ok_aload_n (k := 0) dd_208_37 rfl rfl) (am_rs rfl (ok_gf dd_208_38 rfl am_ck12 (by decide) (Or.inl w_989)) (am_rn rfl (am_rz))))))))
theorem kb_208_5 : am_row mi_208 40 kr_208_5 := am_rn rfl (am_rs rfl (ok_bipush dd_208_41 bi_20 rfl) (am_rn rfl (am_rs rfl (ok_aload_n (k := 0) dd_208_43 rfl rfl) (am_rs rfl (ok_gf dd_208_44 rfl am_ck12 (by decide) (Or.inl w_988)) (am_rn rfl (am_rn rfl (am_rs rfl (ok_imul dd_208_47 rfl) (am_rz))))))))
theorem kb_208_6 : am_row mi_208 48 kr_208_6 := am_rs rfl (ok_iconst dd_208_48 ic_1 rfl) (am_rs rfl (ok_iadd dd_208_49 rfl) (am_rs rfl (ok_iald dd_208_50 rfl) (am_rs rfl (ok_pf dd_208_51 rfl am_ck12 (by decide) (Or.inl w_975) (Or.inl rfl) rfl) (am_rn rfl (am_rn rfl (am_rs rfl (ok_iconst dd_208_54 ic_0 rfl) (am_rs rfl (ok_istore_n (k := 1) dd_208_55 rfl rfl (by decide)) (am_rz))))))))
theorem kb_208_7 : am_row mi_208 56 kr_208_7 := am_rs rfl (ok_iload_n (k := 1) dd_208_56 rfl rfl) (am_rs rfl (ok_bipush dd_208_57 bi_18 rfl) (am_rn rfl (am_rs rfl (ok_icmp dd_208_59 (by decide) rfl) (am_rn rfl (am_rn rfl (am_rs rfl (ok_aload_n (k := 0) dd_208_62 rfl rfl) (am_rs rfl (ok_gf dd_208_63 rfl am_ck12 (by decide) (Or.inl w_976)) (am_rz))))))))
theorem kb_208_8 : am_row mi_208 64 kr_208_8 := am_rn rfl (am_rn rfl (am_rs rfl (ok_iload_n (k := 1) dd_208_66 rfl rfl) (am_rs rfl (ok_aload_n (k := 0) dd_208_67 rfl rfl) (am_rs rfl (ok_gf dd_208_68 rfl am_ck12 (by decide) (Or.inl w_989)) (am_rn rfl (am_rn rfl (am_rs rfl (ok_bipush dd_208_71 bi_20 rfl) (am_rz))))))))
theorem kb_208_9 : am_row mi_208 72 kr_208_9 := am_rn rfl (am_rs rfl (ok_aload_n (k := 0) dd_208_73 rfl rfl) (am_rs rfl (ok_gf dd_208_74 rfl am_ck12 (by decide) (Or.inl w_988)) (am_rn rfl (am_rn rfl (am_rs rfl (ok_imul dd_208_77 rfl) (am_rs rfl (ok_iconst dd_208_78 ic_2 rfl) (am_rs rfl (ok_iadd dd_208_79 rfl) (am_rz))))))))
theorem kb_208_10 : am_row mi_208 80 kr_208_10 := am_rs rfl (ok_iload_n (k := 1) dd_208_80 rfl rfl) (am_rs rfl (ok_iadd dd_208_81 rfl) (am_rs rfl (ok_iald dd_208_82 rfl) (am_rs rfl (ok_iast dd_208_83 rfl) (am_rs rfl (ok_iinc dd_208_84 ic_1 rfl (by decide)) (am_rn rfl (am_rn rfl (am_rs rfl (ok_goto dd_208_87 (by decide)) (am_rz))))))))
theorem kb_208_11 : am_row mi_208 88 kr_208_11 := am_rn rfl (am_rn rfl (am_rs rfl (ok_aload_n (k := 0) dd_208_90 rfl rfl) (am_rs rfl (ok_iconst dd_208_91 ic_0 rfl) (am_rs rfl (ok_pf dd_208_92 rfl am_ck12 (by decide) (Or.inl w_977) (Or.inl rfl) rfl) (am_rn rfl (am_rn rfl (am_rs rfl (ok_aload_n (k := 0) dd_208_95 rfl rfl) (am_rz))))))))
theorem kb_208_12 : am_row mi_208 96 kr_208_12 := am_rs rfl (ok_gf dd_208_96 rfl am_ck12 (by decide) (Or.inl w_988)) (am_rn rfl (am_rn rfl (am_rs rfl (ok_iret dd_208_99 rfl) (am_rz))))
theorem ck_208 : am_rows mi_208 0 cd_208 := am_bs rfl kb_208_0 (am_bs rfl kb_208_1 (am_bs rfl kb_208_2 (am_bs rfl kb_208_3 (am_bs rfl kb_208_4 (am_bs rfl kb_208_5 (am_bs rfl kb_208_6 (am_bs rfl kb_208_7 (am_bs rfl kb_208_8 (am_bs rfl kb_208_9 (am_bs rfl kb_208_10 (am_bs rfl kb_208_11 (am_bs rfl kb_208_12 (am_bz)))))))))))))
/-- OverAndBackModel.count(I)I -/
noncomputable def kr_209_0 : List (Option am_Op) := [some (am_ild 1 1), some (am_tsw 0 [56, 61, 66, 71, 76, 81, 86, 91, 96, 101] 106), none, none, none, none, none, none]
noncomputable def kr_209_1 : List (Option am_Op) := [none, none, none, none, none, none, none, none]
noncomputable def kr_209_2 : List (Option am_Op) := [none, none, none, none, none, none, none, none]
noncomputable def kr_209_3 : List (Option am_Op) := [none, none, none, none, none, none, none, none]
noncomputable def kr_209_4 : List (Option am_Op) := [none, none, none, none, none, none, none, none]
noncomputable def kr_209_5 : List (Option am_Op) := [none, none, none, none, none, none, none, none]
noncomputable def kr_209_6 : List (Option am_Op) := [none, none, none, none, none, none, none, none]
noncomputable def kr_209_7 : List (Option am_Op) := [some (am_ald0 0 57), some (am_gf 12 2 60), none, none, some (am_iret), some (am_ald0 0 62), some (am_gf 12 0 65), none]
noncomputable def kr_209_8 : List (Option am_Op) := [none, some (am_iret), some (am_ald0 0 67), some (am_gf 12 4 70), none, none, some (am_iret), some (am_ald0 0 72)]
noncomputable def kr_209_9 : List (Option am_Op) := [some (am_gf 12 6 75), none, none, some (am_iret), some (am_ald0 0 77), some (am_gf 12 8 80), none, none]
noncomputable def kr_209_10 : List (Option am_Op) := [some (am_iret), some (am_ald0 0 82), some (am_gf 12 12 85), none, none, some (am_iret), some (am_ald0 0 87), some (am_gf 12 40 90)]
noncomputable def kr_209_11 : List (Option am_Op) := [none, none, some (am_iret), some (am_ald0 0 92), some (am_gf 12 42 95), none, none, some (am_iret)]
noncomputable def kr_209_12 : List (Option am_Op) := [some (am_ald0 0 97), some (am_gf 12 53 100), none, none, some (am_iret), some (am_ald0 0 102), some (am_gf 12 15 105), none]
noncomputable def kr_209_13 : List (Option am_Op) := [none, some (am_iret), some (am_psh (.retAddr 4294967295) 107), some (am_iret)]
noncomputable def cd_209 : am_Cd := [kr_209_0, kr_209_1, kr_209_2, kr_209_3, kr_209_4, kr_209_5, kr_209_6, kr_209_7, kr_209_8, kr_209_9, kr_209_10, kr_209_11, kr_209_12, kr_209_13]
theorem dd_209_0 : decode prog_14_method_81_code 0 = .ok (.iload_n 1, 1) := by decide +kernel
theorem dd_209_1 : decode prog_14_method_81_code 1 = .ok (.tableswitch 105 ((0 : Nat) : Int) 9 #[55, 60, 65, 70, 75, 80, 85, 90, 95, 100], 55) := by decide +kernel
theorem dd_209_56 : decode prog_14_method_81_code 56 = .ok (.aload_n 0, 1) := by decide +kernel
theorem dd_209_57 : decode prog_14_method_81_code 57 = .ok (.getfield 16, 3) := by decide +kernel
theorem dd_209_60 : decode prog_14_method_81_code 60 = .ok (.ireturn, 1) := by decide +kernel
theorem dd_209_61 : decode prog_14_method_81_code 61 = .ok (.aload_n 0, 1) := by decide +kernel
theorem dd_209_62 : decode prog_14_method_81_code 62 = .ok (.getfield 7, 3) := by decide +kernel
theorem dd_209_65 : decode prog_14_method_81_code 65 = .ok (.ireturn, 1) := by decide +kernel
theorem dd_209_66 : decode prog_14_method_81_code 66 = .ok (.aload_n 0, 1) := by decide +kernel
theorem dd_209_67 : decode prog_14_method_81_code 67 = .ok (.getfield 23, 3) := by decide +kernel
theorem dd_209_70 : decode prog_14_method_81_code 70 = .ok (.ireturn, 1) := by decide +kernel
theorem dd_209_71 : decode prog_14_method_81_code 71 = .ok (.aload_n 0, 1) := by decide +kernel
theorem dd_209_72 : decode prog_14_method_81_code 72 = .ok (.getfield 29, 3) := by decide +kernel
theorem dd_209_75 : decode prog_14_method_81_code 75 = .ok (.ireturn, 1) := by decide +kernel
theorem dd_209_76 : decode prog_14_method_81_code 76 = .ok (.aload_n 0, 1) := by decide +kernel
theorem dd_209_77 : decode prog_14_method_81_code 77 = .ok (.getfield 201, 3) := by decide +kernel
theorem dd_209_80 : decode prog_14_method_81_code 80 = .ok (.ireturn, 1) := by decide +kernel
theorem dd_209_81 : decode prog_14_method_81_code 81 = .ok (.aload_n 0, 1) := by decide +kernel
theorem dd_209_82 : decode prog_14_method_81_code 82 = .ok (.getfield 44, 3) := by decide +kernel
theorem dd_209_85 : decode prog_14_method_81_code 85 = .ok (.ireturn, 1) := by decide +kernel
theorem dd_209_86 : decode prog_14_method_81_code 86 = .ok (.aload_n 0, 1) := by decide +kernel
theorem dd_209_87 : decode prog_14_method_81_code 87 = .ok (.getfield 207, 3) := by decide +kernel
theorem dd_209_90 : decode prog_14_method_81_code 90 = .ok (.ireturn, 1) := by decide +kernel
theorem dd_209_91 : decode prog_14_method_81_code 91 = .ok (.aload_n 0, 1) := by decide +kernel
theorem dd_209_92 : decode prog_14_method_81_code 92 = .ok (.getfield 210, 3) := by decide +kernel
theorem dd_209_95 : decode prog_14_method_81_code 95 = .ok (.ireturn, 1) := by decide +kernel
theorem dd_209_96 : decode prog_14_method_81_code 96 = .ok (.aload_n 0, 1) := by decide +kernel
theorem dd_209_97 : decode prog_14_method_81_code 97 = .ok (.getfield 213, 3) := by decide +kernel
theorem dd_209_100 : decode prog_14_method_81_code 100 = .ok (.ireturn, 1) := by decide +kernel
theorem dd_209_101 : decode prog_14_method_81_code 101 = .ok (.aload_n 0, 1) := by decide +kernel
theorem dd_209_102 : decode prog_14_method_81_code 102 = .ok (.getfield 120, 3) := by decide +kernel
theorem dd_209_105 : decode prog_14_method_81_code 105 = .ok (.ireturn, 1) := by decide +kernel
theorem dd_209_106 : decode prog_14_method_81_code 106 = .ok (.iconst (-1), 1) := by decide +kernel
theorem dd_209_107 : decode prog_14_method_81_code 107 = .ok (.ireturn, 1) := by decide +kernel
theorem kb_209_0 : am_row mi_209 0 kr_209_0 := am_rs rfl (ok_iload_n (k := 1) dd_209_0 rfl rfl) (am_rs rfl (ok_tsw dd_209_1 (by decide) (by decide) (by decide) (by decide)) (am_rn rfl (am_rn rfl (am_rn rfl (am_rn rfl (am_rn rfl (am_rn rfl (am_rz))))))))
theorem kb_209_1 : am_row mi_209 8 kr_209_1 := am_rn rfl (am_rn rfl (am_rn rfl (am_rn rfl (am_rn rfl (am_rn rfl (am_rn rfl (am_rn rfl (am_rz))))))))
theorem kb_209_2 : am_row mi_209 16 kr_209_2 := am_rn rfl (am_rn rfl (am_rn rfl (am_rn rfl (am_rn rfl (am_rn rfl (am_rn rfl (am_rn rfl (am_rz))))))))
theorem kb_209_3 : am_row mi_209 24 kr_209_3 := am_rn rfl (am_rn rfl (am_rn rfl (am_rn rfl (am_rn rfl (am_rn rfl (am_rn rfl (am_rn rfl (am_rz))))))))
theorem kb_209_4 : am_row mi_209 32 kr_209_4 := am_rn rfl (am_rn rfl (am_rn rfl (am_rn rfl (am_rn rfl (am_rn rfl (am_rn rfl (am_rn rfl (am_rz))))))))
theorem kb_209_5 : am_row mi_209 40 kr_209_5 := am_rn rfl (am_rn rfl (am_rn rfl (am_rn rfl (am_rn rfl (am_rn rfl (am_rn rfl (am_rn rfl (am_rz))))))))
theorem kb_209_6 : am_row mi_209 48 kr_209_6 := am_rn rfl (am_rn rfl (am_rn rfl (am_rn rfl (am_rn rfl (am_rn rfl (am_rn rfl (am_rn rfl (am_rz))))))))
theorem kb_209_7 : am_row mi_209 56 kr_209_7 := am_rs rfl (ok_aload_n (k := 0) dd_209_56 rfl rfl) (am_rs rfl (ok_gf dd_209_57 rfl am_ck12 (by decide) (Or.inl w_937)) (am_rn rfl (am_rn rfl (am_rs rfl (ok_iret dd_209_60 rfl) (am_rs rfl (ok_aload_n (k := 0) dd_209_61 rfl rfl) (am_rs rfl (ok_gf dd_209_62 rfl am_ck12 (by decide) (Or.inl w_935)) (am_rn rfl (am_rz))))))))
theorem kb_209_8 : am_row mi_209 64 kr_209_8 := am_rn rfl (am_rs rfl (ok_iret dd_209_65 rfl) (am_rs rfl (ok_aload_n (k := 0) dd_209_66 rfl rfl) (am_rs rfl (ok_gf dd_209_67 rfl am_ck12 (by decide) (Or.inl w_939)) (am_rn rfl (am_rn rfl (am_rs rfl (ok_iret dd_209_70 rfl) (am_rs rfl (ok_aload_n (k := 0) dd_209_71 rfl rfl) (am_rz))))))))
theorem kb_209_9 : am_row mi_209 72 kr_209_9 := am_rs rfl (ok_gf dd_209_72 rfl am_ck12 (by decide) (Or.inl w_941)) (am_rn rfl (am_rn rfl (am_rs rfl (ok_iret dd_209_75 rfl) (am_rs rfl (ok_aload_n (k := 0) dd_209_76 rfl rfl) (am_rs rfl (ok_gf dd_209_77 rfl am_ck12 (by decide) (Or.inl w_943)) (am_rn rfl (am_rn rfl (am_rz))))))))
theorem kb_209_10 : am_row mi_209 80 kr_209_10 := am_rs rfl (ok_iret dd_209_80 rfl) (am_rs rfl (ok_aload_n (k := 0) dd_209_81 rfl rfl) (am_rs rfl (ok_gf dd_209_82 rfl am_ck12 (by decide) (Or.inl w_947)) (am_rn rfl (am_rn rfl (am_rs rfl (ok_iret dd_209_85 rfl) (am_rs rfl (ok_aload_n (k := 0) dd_209_86 rfl rfl) (am_rs rfl (ok_gf dd_209_87 rfl am_ck12 (by decide) (Or.inl w_975)) (am_rz))))))))
theorem kb_209_11 : am_row mi_209 88 kr_209_11 := am_rn rfl (am_rn rfl (am_rs rfl (ok_iret dd_209_90 rfl) (am_rs rfl (ok_aload_n (k := 0) dd_209_91 rfl rfl) (am_rs rfl (ok_gf dd_209_92 rfl am_ck12 (by decide) (Or.inl w_977)) (am_rn rfl (am_rn rfl (am_rs rfl (ok_iret dd_209_95 rfl) (am_rz))))))))
theorem kb_209_12 : am_row mi_209 96 kr_209_12 := am_rs rfl (ok_aload_n (k := 0) dd_209_96 rfl rfl) (am_rs rfl (ok_gf dd_209_97 rfl am_ck12 (by decide) (Or.inl w_988)) (am_rn rfl (am_rn rfl (am_rs rfl (ok_iret dd_209_100 rfl) (am_rs rfl (ok_aload_n (k := 0) dd_209_101 rfl rfl) (am_rs rfl (ok_gf dd_209_102 rfl am_ck12 (by decide) (Or.inl w_950)) (am_rn rfl (am_rz))))))))
theorem kb_209_13 : am_row mi_209 104 kr_209_13 := am_rn rfl (am_rs rfl (ok_iret dd_209_105 rfl) (am_rs rfl (ok_iconst dd_209_106 ic_m1 rfl) (am_rs rfl (ok_iret dd_209_107 rfl) (am_rz))))
theorem ck_209 : am_rows mi_209 0 cd_209 := am_bs rfl kb_209_0 (am_bs rfl kb_209_1 (am_bs rfl kb_209_2 (am_bs rfl kb_209_3 (am_bs rfl kb_209_4 (am_bs rfl kb_209_5 (am_bs rfl kb_209_6 (am_bs rfl kb_209_7 (am_bs rfl kb_209_8 (am_bs rfl kb_209_9 (am_bs rfl kb_209_10 (am_bs rfl kb_209_11 (am_bs rfl kb_209_12 (am_bs rfl kb_209_13 (am_bz))))))))))))))
