/-- OverAndBack.<init>()V -/
noncomputable def kr_0_0 : List (Option am_Op) := [some (am_ald0 0 1), some (am_co 4), none, none, some (am_ald0 0 5), some (am_psh (.retAddr 200) 8), none, none]
noncomputable def kr_0_1 : List (Option am_Op) := [some (am_nwa 1 10), none, some (am_pf 11 0 2 13), none, none, some (am_ald0 0 14), some (am_psh (.retAddr 0) 15), some (am_pf 11 1 0 18)]
noncomputable def kr_0_2 : List (Option am_Op) := [none, none, some (am_ald0 0 19), some (am_nw 6 2 dfs_6 22), none, none, some (am_dup 23), some (am_cn 1 0 26)]
noncomputable def kr_0_3 : List (Option am_Op) := [none, none, some (am_pf 11 2 2 29), none, none, some (am_ald0 0 30), some (am_nw 1 8 dfs_1 33), none]
noncomputable def kr_0_4 : List (Option am_Op) := [none, some (am_dup 34), some (am_cn 2 0 37), none, none, some (am_pf 11 3 2 40), none, none]
noncomputable def kr_0_5 : List (Option am_Op) := [some (am_ald0 0 41), some (am_nw 1 8 dfs_1 44), none, none, some (am_dup 45), some (am_cn 2 0 48), none, none]
noncomputable def kr_0_6 : List (Option am_Op) := [some (am_pf 11 4 2 51), none, none, some (am_ald0 0 52), some (am_nw 2 1 dfs_2 55), none, none, some (am_dup 56)]
noncomputable def kr_0_7 : List (Option am_Op) := [some (am_cn 4 0 59), none, none, some (am_pf 11 5 2 62), none, none, some (am_ald0 0 63), some (am_nw 9 3 dfs_9 66)]
noncomputable def kr_0_8 : List (Option am_Op) := [none, none, some (am_dup 67), some (am_cn 5 0 70), none, none, some (am_pf 11 6 2 73), none]
noncomputable def kr_0_9 : List (Option am_Op) := [none, some (am_ald0 0 74), some (am_nw 9 3 dfs_9 77), none, none, some (am_dup 78), some (am_cn 5 0 81), none]
noncomputable def kr_0_10 : List (Option am_Op) := [none, some (am_pf 11 7 2 84), none, none, some (am_ald0 0 85), some (am_nw 10 7 dfs_10 88), none, none]
noncomputable def kr_0_11 : List (Option am_Op) := [some (am_dup 89), some (am_cn 6 0 92), none, none, some (am_pf 11 8 2 95), none, none, some (am_ald0 0 96)]
noncomputable def kr_0_12 : List (Option am_Op) := [some (am_nw 7 4 dfs_7 99), none, none, some (am_dup 100), some (am_cn 7 0 103), none, none, some (am_pf 11 9 2 106)]
noncomputable def kr_0_13 : List (Option am_Op) := [none, none, some (am_ald0 0 107), some (am_nw 3 11 dfs_3 110), none, none, some (am_dup 111), some (am_ald0 0 112)]
noncomputable def kr_0_14 : List (Option am_Op) := [some (am_gf 11 6 115), none, none, some (am_ald0 0 116), some (am_gf 11 5 119), none, none, some (am_cn 8 2 122)]
noncomputable def kr_0_15 : List (Option am_Op) := [none, none, some (am_pf 11 10 2 125), none, none, some (am_ald0 0 126), some (am_nw 0 9 dfs_0 129), none]
noncomputable def kr_0_16 : List (Option am_Op) := [none, some (am_dup 130), some (am_cn 10 0 133), none, none, some (am_pf 11 11 2 136), none, none]
noncomputable def kr_0_17 : List (Option am_Op) := [some (am_ald0 0 137), some (am_nw 5 4 dfs_5 140), none, none, some (am_dup 141), some (am_cn 11 0 144), none, none]
noncomputable def kr_0_18 : List (Option am_Op) := [some (am_pf 11 12 2 147), none, none, some (am_ald0 0 148), some (am_nw 4 2 dfs_4 151), none, none, some (am_dup 152)]
noncomputable def kr_0_19 : List (Option am_Op) := [some (am_cn 12 0 155), none, none, some (am_pf 11 13 2 158), none, none, some (am_ald0 0 159), some (am_nw 5 4 dfs_5 162)]
noncomputable def kr_0_20 : List (Option am_Op) := [none, none, some (am_dup 163), some (am_cn 11 0 166), none, none, some (am_pf 11 14 2 169), none]
noncomputable def kr_0_21 : List (Option am_Op) := [none, some (am_ald0 0 170), some (am_nw 5 4 dfs_5 173), none, none, some (am_dup 174), some (am_cn 11 0 177), none]
noncomputable def kr_0_22 : List (Option am_Op) := [none, some (am_pf 11 15 2 180), none, none, some (am_ald0 0 181), some (am_psh (.retAddr 0) 182), some (am_pf 11 16 0 185), none]
noncomputable def kr_0_23 : List (Option am_Op) := [none, some (am_ft 190), none, none, none, none, some (am_ast0 1 191), some (am_ald0 0 192)]
noncomputable def kr_0_24 : List (Option am_Op) := [some (am_gf 11 2 195), none, none, some (am_ald0 1 196), some (am_ald0 1 197), some (am_len 198), some (am_ald0 0 199), some (am_gf 11 3 202)]
noncomputable def kr_0_25 : List (Option am_Op) := [none, none, some (am_cv 13 3 6 205), none, none, some (am_pp 206), some (am_ald0 0 207), some (am_cv 28 0 11 210)]
noncomputable def kr_0_26 : List (Option am_Op) := [none, none, some (am_vret)]
noncomputable def cd_0 : am_Cd := [kr_0_0, kr_0_1, kr_0_2, kr_0_3, kr_0_4, kr_0_5, kr_0_6, kr_0_7, kr_0_8, kr_0_9, kr_0_10, kr_0_11, kr_0_12, kr_0_13, kr_0_14, kr_0_15, kr_0_16, kr_0_17, kr_0_18, kr_0_19, kr_0_20, kr_0_21, kr_0_22, kr_0_23, kr_0_24, kr_0_25, kr_0_26]
theorem dd_0_0 : decode prog_1_method_1_code 0 = .ok (.aload_n 0, 1) := by decide +kernel
theorem dd_0_1 : decode prog_1_method_1_code 1 = .ok (.invokespecial 1, 3) := by decide +kernel
theorem dd_0_4 : decode prog_1_method_1_code 4 = .ok (.aload_n 0, 1) := by decide +kernel
theorem dd_0_5 : decode prog_1_method_1_code 5 = .ok (.sipush 200, 3) := by decide +kernel
theorem dd_0_8 : decode prog_1_method_1_code 8 = .ok (.newarray .char, 2) := by decide +kernel
theorem dd_0_10 : decode prog_1_method_1_code 10 = .ok (.putfield 9, 3) := by decide +kernel
theorem dd_0_13 : decode prog_1_method_1_code 13 = .ok (.aload_n 0, 1) := by decide +kernel
theorem dd_0_14 : decode prog_1_method_1_code 14 = .ok (.iconst 0, 1) := by decide +kernel
theorem dd_0_15 : decode prog_1_method_1_code 15 = .ok (.putfield 13, 3) := by decide +kernel
theorem dd_0_18 : decode prog_1_method_1_code 18 = .ok (.aload_n 0, 1) := by decide +kernel
theorem dd_0_19 : decode prog_1_method_1_code 19 = .ok (.new 17, 3) := by decide +kernel
theorem dd_0_22 : decode prog_1_method_1_code 22 = .ok (.dup, 1) := by decide +kernel
theorem dd_0_23 : decode prog_1_method_1_code 23 = .ok (.invokespecial 19, 3) := by decide +kernel
theorem dd_0_26 : decode prog_1_method_1_code 26 = .ok (.putfield 20, 3) := by decide +kernel
theorem dd_0_29 : decode prog_1_method_1_code 29 = .ok (.aload_n 0, 1) := by decide +kernel
theorem dd_0_30 : decode prog_1_method_1_code 30 = .ok (.new 24, 3) := by decide +kernel
theorem dd_0_33 : decode prog_1_method_1_code 33 = .ok (.dup, 1) := by decide +kernel
theorem dd_0_34 : decode prog_1_method_1_code 34 = .ok (.invokespecial 26, 3) := by decide +kernel
theorem dd_0_37 : decode prog_1_method_1_code 37 = .ok (.putfield 27, 3) := by decide +kernel
theorem dd_0_40 : decode prog_1_method_1_code 40 = .ok (.aload_n 0, 1) := by decide +kernel
theorem dd_0_41 : decode prog_1_method_1_code 41 = .ok (.new 24, 3) := by decide +kernel
theorem dd_0_44 : decode prog_1_method_1_code 44 = .ok (.dup, 1) := by decide +kernel
theorem dd_0_45 : decode prog_1_method_1_code 45 = .ok (.invokespecial 26, 3) := by decide +kernel
theorem dd_0_48 : decode prog_1_method_1_code 48 = .ok (.putfield 31, 3) := by decide +kernel
theorem dd_0_51 : decode prog_1_method_1_code 51 = .ok (.aload_n 0, 1) := by decide +kernel
theorem dd_0_52 : decode prog_1_method_1_code 52 = .ok (.new 34, 3) := by decide +kernel
theorem dd_0_55 : decode prog_1_method_1_code 55 = .ok (.dup, 1) := by decide +kernel
theorem dd_0_56 : decode prog_1_method_1_code 56 = .ok (.invokespecial 36, 3) := by decide +kernel
theorem dd_0_59 : decode prog_1_method_1_code 59 = .ok (.putfield 37, 3) := by decide +kernel
theorem dd_0_62 : decode prog_1_method_1_code 62 = .ok (.aload_n 0, 1) := by decide +kernel
theorem dd_0_63 : decode prog_1_method_1_code 63 = .ok (.new 41, 3) := by decide +kernel
theorem dd_0_66 : decode prog_1_method_1_code 66 = .ok (.dup, 1) := by decide +kernel
theorem dd_0_67 : decode prog_1_method_1_code 67 = .ok (.invokespecial 43, 3) := by decide +kernel
theorem dd_0_70 : decode prog_1_method_1_code 70 = .ok (.putfield 44, 3) := by decide +kernel
theorem dd_0_73 : decode prog_1_method_1_code 73 = .ok (.aload_n 0, 1) := by decide +kernel
theorem dd_0_74 : decode prog_1_method_1_code 74 = .ok (.new 41, 3) := by decide +kernel
theorem dd_0_77 : decode prog_1_method_1_code 77 = .ok (.dup, 1) := by decide +kernel
theorem dd_0_78 : decode prog_1_method_1_code 78 = .ok (.invokespecial 43, 3) := by decide +kernel
theorem dd_0_81 : decode prog_1_method_1_code 81 = .ok (.putfield 48, 3) := by decide +kernel
theorem dd_0_84 : decode prog_1_method_1_code 84 = .ok (.aload_n 0, 1) := by decide +kernel
theorem dd_0_85 : decode prog_1_method_1_code 85 = .ok (.new 51, 3) := by decide +kernel
theorem dd_0_88 : decode prog_1_method_1_code 88 = .ok (.dup, 1) := by decide +kernel
theorem dd_0_89 : decode prog_1_method_1_code 89 = .ok (.invokespecial 53, 3) := by decide +kernel
theorem dd_0_92 : decode prog_1_method_1_code 92 = .ok (.putfield 54, 3) := by decide +kernel
theorem dd_0_95 : decode prog_1_method_1_code 95 = .ok (.aload_n 0, 1) := by decide +kernel
theorem dd_0_96 : decode prog_1_method_1_code 96 = .ok (.new 58, 3) := by decide +kernel
theorem dd_0_99 : decode prog_1_method_1_code 99 = .ok (.dup, 1) := by decide +kernel
theorem dd_0_100 : decode prog_1_method_1_code 100 = .ok (.invokespecial 60, 3) := by decide +kernel
theorem dd_0_103 : decode prog_1_method_1_code 103 = .ok (.putfield 61, 3) := by decide +kernel
theorem dd_0_106 : decode prog_1_method_1_code 106 = .ok (.aload_n 0, 1) := by decide +kernel
theorem dd_0_107 : decode prog_1_method_1_code 107 = .ok (.new 65, 3) := by decide +kernel
theorem dd_0_110 : decode prog_1_method_1_code 110 = .ok (.dup, 1) := by decide +kernel
theorem dd_0_111 : decode prog_1_method_1_code 111 = .ok (.aload_n 0, 1) := by decide +kernel
theorem dd_0_112 : decode prog_1_method_1_code 112 = .ok (.getfield 44, 3) := by decide +kernel
theorem dd_0_115 : decode prog_1_method_1_code 115 = .ok (.aload_n 0, 1) := by decide +kernel
theorem dd_0_116 : decode prog_1_method_1_code 116 = .ok (.getfield 37, 3) := by decide +kernel
theorem dd_0_119 : decode prog_1_method_1_code 119 = .ok (.invokespecial 67, 3) := by decide +kernel
theorem dd_0_122 : decode prog_1_method_1_code 122 = .ok (.putfield 70, 3) := by decide +kernel
theorem dd_0_125 : decode prog_1_method_1_code 125 = .ok (.aload_n 0, 1) := by decide +kernel
theorem dd_0_126 : decode prog_1_method_1_code 126 = .ok (.new 74, 3) := by decide +kernel
theorem dd_0_129 : decode prog_1_method_1_code 129 = .ok (.dup, 1) := by decide +kernel
theorem dd_0_130 : decode prog_1_method_1_code 130 = .ok (.invokespecial 76, 3) := by decide +kernel
theorem dd_0_133 : decode prog_1_method_1_code 133 = .ok (.putfield 77, 3) := by decide +kernel
theorem dd_0_136 : decode prog_1_method_1_code 136 = .ok (.aload_n 0, 1) := by decide +kernel
theorem dd_0_137 : decode prog_1_method_1_code 137 = .ok (.new 81, 3) := by decide +kernel
theorem dd_0_140 : decode prog_1_method_1_code 140 = .ok (.dup, 1) := by decide +kernel
theorem dd_0_141 : decode prog_1_method_1_code 141 = .ok (.invokespecial 83, 3) := by decide +kernel
theorem dd_0_144 : decode prog_1_method_1_code 144 = .ok (.putfield 84, 3) := by decide +kernel
theorem dd_0_147 : decode prog_1_method_1_code 147 = .ok (.aload_n 0, 1) := by decide +kernel
theorem dd_0_148 : decode prog_1_method_1_code 148 = .ok (.new 88, 3) := by decide +kernel
theorem dd_0_151 : decode prog_1_method_1_code 151 = .ok (.dup, 1) := by decide +kernel
theorem dd_0_152 : decode prog_1_method_1_code 152 = .ok (.invokespecial 90, 3) := by decide +kernel
theorem dd_0_155 : decode prog_1_method_1_code 155 = .ok (.putfield 91, 3) := by decide +kernel
theorem dd_0_158 : decode prog_1_method_1_code 158 = .ok (.aload_n 0, 1) := by decide +kernel
theorem dd_0_159 : decode prog_1_method_1_code 159 = .ok (.new 81, 3) := by decide +kernel
theorem dd_0_162 : decode prog_1_method_1_code 162 = .ok (.dup, 1) := by decide +kernel
theorem dd_0_163 : decode prog_1_method_1_code 163 = .ok (.invokespecial 83, 3) := by decide +kernel
theorem dd_0_166 : decode prog_1_method_1_code 166 = .ok (.putfield 95, 3) := by decide +kernel
theorem dd_0_169 : decode prog_1_method_1_code 169 = .ok (.aload_n 0, 1) := by decide +kernel
theorem dd_0_170 : decode prog_1_method_1_code 170 = .ok (.new 81, 3) := by decide +kernel
theorem dd_0_173 : decode prog_1_method_1_code 173 = .ok (.dup, 1) := by decide +kernel
theorem dd_0_174 : decode prog_1_method_1_code 174 = .ok (.invokespecial 83, 3) := by decide +kernel
theorem dd_0_177 : decode prog_1_method_1_code 177 = .ok (.putfield 98, 3) := by decide +kernel
theorem dd_0_180 : decode prog_1_method_1_code 180 = .ok (.aload_n 0, 1) := by decide +kernel
theorem dd_0_181 : decode prog_1_method_1_code 181 = .ok (.iconst 0, 1) := by decide +kernel
theorem dd_0_182 : decode prog_1_method_1_code 182 = .ok (.putfield 101, 3) := by decide +kernel
theorem dd_0_190 : decode prog_1_method_1_code 190 = .ok (.astore_n 1, 1) := by decide +kernel
theorem dd_0_191 : decode prog_1_method_1_code 191 = .ok (.aload_n 0, 1) := by decide +kernel
theorem dd_0_192 : decode prog_1_method_1_code 192 = .ok (.getfield 20, 3) := by decide +kernel
theorem dd_0_195 : decode prog_1_method_1_code 195 = .ok (.aload_n 1, 1) := by decide +kernel
theorem dd_0_196 : decode prog_1_method_1_code 196 = .ok (.aload_n 1, 1) := by decide +kernel
theorem dd_0_197 : decode prog_1_method_1_code 197 = .ok (.arraylength, 1) := by decide +kernel
theorem dd_0_198 : decode prog_1_method_1_code 198 = .ok (.aload_n 0, 1) := by decide +kernel
theorem dd_0_199 : decode prog_1_method_1_code 199 = .ok (.getfield 27, 3) := by decide +kernel
theorem dd_0_202 : decode prog_1_method_1_code 202 = .ok (.invokevirtual 112, 3) := by decide +kernel
theorem dd_0_205 : decode prog_1_method_1_code 205 = .ok (.pop, 1) := by decide +kernel
theorem dd_0_206 : decode prog_1_method_1_code 206 = .ok (.aload_n 0, 1) := by decide +kernel
theorem dd_0_207 : decode prog_1_method_1_code 207 = .ok (.invokevirtual 116, 3) := by decide +kernel
theorem dd_0_210 : decode prog_1_method_1_code 210 = .ok (.return_, 1) := by decide +kernel
theorem kb_0_0 : am_row mi_0 0 kr_0_0 := am_rs rfl (ok_aload_n (k := 0) dd_0_0 rfl rfl) (am_rs rfl (ok_co dd_0_1 rfl w_27 w_28 w_29 ⟨by decide, by decide⟩) (am_rn rfl (am_rn rfl (am_rs rfl (ok_aload_n (k := 0) dd_0_4 rfl rfl) (am_rs rfl (ok_sipush dd_0_5 si_200 rfl) (am_rn rfl (am_rn rfl (am_rz))))))))
theorem kb_0_1 : am_row mi_0 8 kr_0_1 := am_rs rfl (ok_nwa (at' := .char) dd_0_8 rfl (Or.inr (Or.inl ⟨rfl, rfl⟩)) w_43) (am_rn rfl (am_rs rfl (ok_pf dd_0_10 rfl am_ck11 (by decide) (Or.inl w_511) (Or.inr ⟨rfl, rfl, rfl, w_511⟩) rfl) (am_rn rfl (am_rn rfl (am_rs rfl (ok_aload_n (k := 0) dd_0_13 rfl rfl) (am_rs rfl (ok_iconst dd_0_14 ic_0 rfl) (am_rs rfl (ok_pf dd_0_15 rfl am_ck11 (by decide) (Or.inl w_512) (Or.inl rfl) rfl) (am_rz))))))))
theorem kb_0_2 : am_row mi_0 16 kr_0_2 := am_rn rfl (am_rn rfl (am_rs rfl (ok_aload_n (k := 0) dd_0_18 rfl rfl) (am_rs rfl (ok_nw dd_0_19 rfl am_ck6 w_30 w_31 w_2 df_6) (am_rn rfl (am_rn rfl (am_rs rfl (ok_dup dd_0_22 rfl) (am_rs rfl (ok_cn (M' := mi_1) dd_0_23 rfl rfl (Or.inr ⟨_, w_32⟩) w_33 ⟨rfl, rfl⟩ ⟨lk_1.1, lk_1.2.1, lk_1.2.2, by decide, by decide⟩) (am_rz))))))))
theorem kb_0_3 : am_row mi_0 24 kr_0_3 := am_rn rfl (am_rn rfl (am_rs rfl (ok_pf dd_0_26 rfl am_ck11 (by decide) (Or.inl w_513) (Or.inr ⟨rfl, rfl, rfl, w_513⟩) rfl) (am_rn rfl (am_rn rfl (am_rs rfl (ok_aload_n (k := 0) dd_0_29 rfl rfl) (am_rs rfl (ok_nw dd_0_30 rfl am_ck1 w_45 w_46 w_3 df_1) (am_rn rfl (am_rz))))))))
theorem kb_0_4 : am_row mi_0 32 kr_0_4 := am_rn rfl (am_rs rfl (ok_dup dd_0_33 rfl) (am_rs rfl (ok_cn (M' := mi_2) dd_0_34 rfl rfl (Or.inr ⟨_, w_47⟩) w_48 ⟨rfl, rfl⟩ ⟨lk_2.1, lk_2.2.1, lk_2.2.2, by decide, by decide⟩) (am_rn rfl (am_rn rfl (am_rs rfl (ok_pf dd_0_37 rfl am_ck11 (by decide) (Or.inl w_514) (Or.inl rfl) rfl) (am_rn rfl (am_rn rfl (am_rz))))))))
theorem kb_0_5 : am_row mi_0 40 kr_0_5 := am_rs rfl (ok_aload_n (k := 0) dd_0_40 rfl rfl) (am_rs rfl (ok_nw dd_0_41 rfl am_ck1 w_45 w_46 w_3 df_1) (am_rn rfl (am_rn rfl (am_rs rfl (ok_dup dd_0_44 rfl) (am_rs rfl (ok_cn (M' := mi_2) dd_0_45 rfl rfl (Or.inr ⟨_, w_47⟩) w_48 ⟨rfl, rfl⟩ ⟨lk_2.1, lk_2.2.1, lk_2.2.2, by decide, by decide⟩) (am_rn rfl (am_rn rfl (am_rz))))))))
theorem kb_0_6 : am_row mi_0 48 kr_0_6 := am_rs rfl (ok_pf dd_0_48 rfl am_ck11 (by decide) (Or.inl w_515) (Or.inl rfl) rfl) (am_rn rfl (am_rn rfl (am_rs rfl (ok_aload_n (k := 0) dd_0_51 rfl rfl) (am_rs rfl (ok_nw dd_0_52 rfl am_ck2 w_137 w_138 w_5 df_2) (am_rn rfl (am_rn rfl (am_rs rfl (ok_dup dd_0_55 rfl) (am_rz))))))))
theorem kb_0_7 : am_row mi_0 56 kr_0_7 := am_rs rfl (ok_cn (M' := mi_4) dd_0_56 rfl rfl (Or.inr ⟨_, w_139⟩) w_140 ⟨rfl, rfl⟩ ⟨lk_4.1, lk_4.2.1, lk_4.2.2, by decide, by decide⟩) (am_rn rfl (am_rn rfl (am_rs rfl (ok_pf dd_0_59 rfl am_ck11 (by decide) (Or.inl w_516) (Or.inr ⟨rfl, rfl, rfl, w_516⟩) rfl) (am_rn rfl (am_rn rfl (am_rs rfl (ok_aload_n (k := 0) dd_0_62 rfl rfl) (am_rs rfl (ok_nw dd_0_63 rfl am_ck9 w_147 w_148 w_6 df_9) (am_rz))))))))
theorem kb_0_8 : am_row mi_0 64 kr_0_8 := am_rn rfl (am_rn rfl (am_rs rfl (ok_dup dd_0_66 rfl) (am_rs rfl (ok_cn (M' := mi_5) dd_0_67 rfl rfl (Or.inr ⟨_, w_149⟩) w_150 ⟨rfl, rfl⟩ ⟨lk_5.1, lk_5.2.1, lk_5.2.2, by decide, by decide⟩) (am_rn rfl (am_rn rfl (am_rs rfl (ok_pf dd_0_70 rfl am_ck11 (by decide) (Or.inl w_517) (Or.inr ⟨rfl, rfl, rfl, w_517⟩) rfl) (am_rn rfl (am_rz))))))))
theorem kb_0_9 : am_row mi_0 72 kr_0_9 := am_rn rfl (am_rs rfl (ok_aload_n (k := 0) dd_0_73 rfl rfl) (am_rs rfl (ok_nw dd_0_74 rfl am_ck9 w_147 w_148 w_6 df_9) (am_rn rfl (am_rn rfl (am_rs rfl (ok_dup dd_0_77 rfl) (am_rs rfl (ok_cn (M' := mi_5) dd_0_78 rfl rfl (Or.inr ⟨_, w_149⟩) w_150 ⟨rfl, rfl⟩ ⟨lk_5.1, lk_5.2.1, lk_5.2.2, by decide, by decide⟩) (am_rn rfl (am_rz))))))))
theorem kb_0_10 : am_row mi_0 80 kr_0_10 := am_rn rfl (am_rs rfl (ok_pf dd_0_81 rfl am_ck11 (by decide) (Or.inl w_518) (Or.inr ⟨rfl, rfl, rfl, w_518⟩) rfl) (am_rn rfl (am_rn rfl (am_rs rfl (ok_aload_n (k := 0) dd_0_84 rfl rfl) (am_rs rfl (ok_nw dd_0_85 rfl am_ck10 w_163 w_164 w_7 df_10) (am_rn rfl (am_rn rfl (am_rz))))))))
theorem kb_0_11 : am_row mi_0 88 kr_0_11 := am_rs rfl (ok_dup dd_0_88 rfl) (am_rs rfl (ok_cn (M' := mi_6) dd_0_89 rfl rfl (Or.inr ⟨_, w_165⟩) w_166 ⟨rfl, rfl⟩ ⟨lk_6.1, lk_6.2.1, lk_6.2.2, by decide, by decide⟩) (am_rn rfl (am_rn rfl (am_rs rfl (ok_pf dd_0_92 rfl am_ck11 (by decide) (Or.inl w_519) (Or.inr ⟨rfl, rfl, rfl, w_519⟩) rfl) (am_rn rfl (am_rn rfl (am_rs rfl (ok_aload_n (k := 0) dd_0_95 rfl rfl) (am_rz))))))))
theorem kb_0_12 : am_row mi_0 96 kr_0_12 := am_rs rfl (ok_nw dd_0_96 rfl am_ck7 w_194 w_195 w_8 df_7) (am_rn rfl (am_rn rfl (am_rs rfl (ok_dup dd_0_99 rfl) (am_rs rfl (ok_cn (M' := mi_7) dd_0_100 rfl rfl (Or.inr ⟨_, w_196⟩) w_197 ⟨rfl, rfl⟩ ⟨lk_7.1, lk_7.2.1, lk_7.2.2, by decide, by decide⟩) (am_rn rfl (am_rn rfl (am_rs rfl (ok_pf dd_0_103 rfl am_ck11 (by decide) (Or.inl w_520) (Or.inr ⟨rfl, rfl, rfl, w_520⟩) rfl) (am_rz))))))))
theorem kb_0_13 : am_row mi_0 104 kr_0_13 := am_rn rfl (am_rn rfl (am_rs rfl (ok_aload_n (k := 0) dd_0_106 rfl rfl) (am_rs rfl (ok_nw dd_0_107 rfl am_ck3 w_215 w_216 w_9 df_3) (am_rn rfl (am_rn rfl (am_rs rfl (ok_dup dd_0_110 rfl) (am_rs rfl (ok_aload_n (k := 0) dd_0_111 rfl rfl) (am_rz))))))))
theorem kb_0_14 : am_row mi_0 112 kr_0_14 := am_rs rfl (ok_gf dd_0_112 rfl am_ck11 (by decide) (Or.inl w_517)) (am_rn rfl (am_rn rfl (am_rs rfl (ok_aload_n (k := 0) dd_0_115 rfl rfl) (am_rs rfl (ok_gf dd_0_116 rfl am_ck11 (by decide) (Or.inl w_516)) (am_rn rfl (am_rn rfl (am_rs rfl (ok_cn (M' := mi_8) dd_0_119 rfl rfl (Or.inl w_217) w_218 ⟨rfl, rfl⟩ ⟨lk_8.1, lk_8.2.1, lk_8.2.2, by decide, by decide⟩) (am_rz))))))))
theorem kb_0_15 : am_row mi_0 120 kr_0_15 := am_rn rfl (am_rn rfl (am_rs rfl (ok_pf dd_0_122 rfl am_ck11 (by decide) (Or.inl w_521) (Or.inr ⟨rfl, rfl, rfl, w_521⟩) rfl) (am_rn rfl (am_rn rfl (am_rs rfl (ok_aload_n (k := 0) dd_0_125 rfl rfl) (am_rs rfl (ok_nw dd_0_126 rfl am_ck0 w_261 w_262 w_11 df_0) (am_rn rfl (am_rz))))))))
theorem kb_0_16 : am_row mi_0 128 kr_0_16 := am_rn rfl (am_rs rfl (ok_dup dd_0_129 rfl) (am_rs rfl (ok_cn (M' := mi_10) dd_0_130 rfl rfl (Or.inr ⟨_, w_263⟩) w_264 ⟨rfl, rfl⟩ ⟨lk_10.1, lk_10.2.1, lk_10.2.2, by decide, by decide⟩) (am_rn rfl (am_rn rfl (am_rs rfl (ok_pf dd_0_133 rfl am_ck11 (by decide) (Or.inl w_522) (Or.inr ⟨rfl, rfl, rfl, w_522⟩) rfl) (am_rn rfl (am_rn rfl (am_rz))))))))
theorem kb_0_17 : am_row mi_0 136 kr_0_17 := am_rs rfl (ok_aload_n (k := 0) dd_0_136 rfl rfl) (am_rs rfl (ok_nw dd_0_137 rfl am_ck5 w_297 w_298 w_12 df_5) (am_rn rfl (am_rn rfl (am_rs rfl (ok_dup dd_0_140 rfl) (am_rs rfl (ok_cn (M' := mi_11) dd_0_141 rfl rfl (Or.inr ⟨_, w_299⟩) w_300 ⟨rfl, rfl⟩ ⟨lk_11.1, lk_11.2.1, lk_11.2.2, by decide, by decide⟩) (am_rn rfl (am_rn rfl (am_rz))))))))
theorem kb_0_18 : am_row mi_0 144 kr_0_18 := am_rs rfl (ok_pf dd_0_144 rfl am_ck11 (by decide) (Or.inl w_523) (Or.inr ⟨rfl, rfl, rfl, w_523⟩) rfl) (am_rn rfl (am_rn rfl (am_rs rfl (ok_aload_n (k := 0) dd_0_147 rfl rfl) (am_rs rfl (ok_nw dd_0_148 rfl am_ck4 w_320 w_321 w_13 df_4) (am_rn rfl (am_rn rfl (am_rs rfl (ok_dup dd_0_151 rfl) (am_rz))))))))
theorem kb_0_19 : am_row mi_0 152 kr_0_19 := am_rs rfl (ok_cn (M' := mi_12) dd_0_152 rfl rfl (Or.inr ⟨_, w_322⟩) w_323 ⟨rfl, rfl⟩ ⟨lk_12.1, lk_12.2.1, lk_12.2.2, by decide, by decide⟩) (am_rn rfl (am_rn rfl (am_rs rfl (ok_pf dd_0_155 rfl am_ck11 (by decide) (Or.inl w_524) (Or.inr ⟨rfl, rfl, rfl, w_524⟩) rfl) (am_rn rfl (am_rn rfl (am_rs rfl (ok_aload_n (k := 0) dd_0_158 rfl rfl) (am_rs rfl (ok_nw dd_0_159 rfl am_ck5 w_297 w_298 w_12 df_5) (am_rz))))))))
theorem kb_0_20 : am_row mi_0 160 kr_0_20 := am_rn rfl (am_rn rfl (am_rs rfl (ok_dup dd_0_162 rfl) (am_rs rfl (ok_cn (M' := mi_11) dd_0_163 rfl rfl (Or.inr ⟨_, w_299⟩) w_300 ⟨rfl, rfl⟩ ⟨lk_11.1, lk_11.2.1, lk_11.2.2, by decide, by decide⟩) (am_rn rfl (am_rn rfl (am_rs rfl (ok_pf dd_0_166 rfl am_ck11 (by decide) (Or.inl w_525) (Or.inr ⟨rfl, rfl, rfl, w_525⟩) rfl) (am_rn rfl (am_rz))))))))
theorem kb_0_21 : am_row mi_0 168 kr_0_21 := am_rn rfl (am_rs rfl (ok_aload_n (k := 0) dd_0_169 rfl rfl) (am_rs rfl (ok_nw dd_0_170 rfl am_ck5 w_297 w_298 w_12 df_5) (am_rn rfl (am_rn rfl (am_rs rfl (ok_dup dd_0_173 rfl) (am_rs rfl (ok_cn (M' := mi_11) dd_0_174 rfl rfl (Or.inr ⟨_, w_299⟩) w_300 ⟨rfl, rfl⟩ ⟨lk_11.1, lk_11.2.1, lk_11.2.2, by decide, by decide⟩) (am_rn rfl (am_rz))))))))
theorem kb_0_22 : am_row mi_0 176 kr_0_22 := am_rn rfl (am_rs rfl (ok_pf dd_0_177 rfl am_ck11 (by decide) (Or.inl w_526) (Or.inr ⟨rfl, rfl, rfl, w_526⟩) rfl) (am_rn rfl (am_rn rfl (am_rs rfl (ok_aload_n (k := 0) dd_0_180 rfl rfl) (am_rs rfl (ok_iconst dd_0_181 ic_0 rfl) (am_rs rfl (ok_pf dd_0_182 rfl am_ck11 (by decide) (Or.inl w_527) (Or.inl rfl) rfl) (am_rn rfl (am_rz))))))))
theorem kb_0_23 (hft : am_OpOk mi_0 185 (am_ft 190)) : am_row mi_0 184 kr_0_23 := am_rn rfl (am_rs rfl (hft) (am_rn rfl (am_rn rfl (am_rn rfl (am_rn rfl (am_rs rfl (ok_astore_n (k := 1) dd_0_190 rfl rfl (by decide)) (am_rs rfl (ok_aload_n (k := 0) dd_0_191 rfl rfl) (am_rz))))))))
theorem kb_0_24 : am_row mi_0 192 kr_0_24 := am_rs rfl (ok_gf dd_0_192 rfl am_ck11 (by decide) (Or.inl w_513)) (am_rn rfl (am_rn rfl (am_rs rfl (ok_aload_n (k := 1) dd_0_195 rfl rfl) (am_rs rfl (ok_aload_n (k := 1) dd_0_196 rfl rfl) (am_rs rfl (ok_len dd_0_197 rfl) (am_rs rfl (ok_aload_n (k := 0) dd_0_198 rfl rfl) (am_rs rfl (ok_gf dd_0_199 rfl am_ck11 (by decide) (Or.inl w_514)) (am_rz))))))))
theorem kb_0_25 : am_row mi_0 200 kr_0_25 := am_rn rfl (am_rn rfl (am_rs rfl (ok_cv (M' := mi_13) dd_0_202 rfl rfl w_380 w_381 w_382 ⟨lk_13.1, lk_13.2.1, lk_13.2.2, by decide, by decide⟩ rfl) (am_rn rfl (am_rn rfl (am_rs rfl (ok_pop dd_0_205 rfl) (am_rs rfl (ok_aload_n (k := 0) dd_0_206 rfl rfl) (am_rs rfl (ok_cv (M' := mi_28) dd_0_207 rfl rfl w_438 w_440 ps_28 ⟨lk_28.1, lk_28.2.1, lk_28.2.2, by decide, by decide⟩ rfl) (am_rz))))))))
theorem kb_0_26 : am_row mi_0 208 kr_0_26 := am_rn rfl (am_rn rfl (am_rs rfl (ok_vret dd_0_210 rfl) (am_rz)))
theorem ck_0 (hft : am_OpOk mi_0 185 (am_ft 190)) : am_rows mi_0 0 cd_0 := am_bs rfl kb_0_0 (am_bs rfl kb_0_1 (am_bs rfl kb_0_2 (am_bs rfl kb_0_3 (am_bs rfl kb_0_4 (am_bs rfl kb_0_5 (am_bs rfl kb_0_6 (am_bs rfl kb_0_7 (am_bs rfl kb_0_8 (am_bs rfl kb_0_9 (am_bs rfl kb_0_10 (am_bs rfl kb_0_11 (am_bs rfl kb_0_12 (am_bs rfl kb_0_13 (am_bs rfl kb_0_14 (am_bs rfl kb_0_15 (am_bs rfl kb_0_16 (am_bs rfl kb_0_17 (am_bs rfl kb_0_18 (am_bs rfl kb_0_19 (am_bs rfl kb_0_20 (am_bs rfl kb_0_21 (am_bs rfl kb_0_22 (am_bs rfl (kb_0_23 hft) (am_bs rfl kb_0_24 (am_bs rfl kb_0_25 (am_bs rfl kb_0_26 (am_bz)))))))))))))))))))))))))))
/-- OverAndBack$Reader.<init>()V -/
noncomputable def kr_1_0 : List (Option am_Op) := [some (am_ald0 0 1), some (am_co 4), none, none, some (am_ald0 0 5), some (am_psh (.retAddr 5) 6), some (am_nwa 0 8), none]
noncomputable def kr_1_1 : List (Option am_Op) := [some (am_pf 6 0 2 11), none, none, some (am_ald0 0 12), some (am_psh (.retAddr 0) 13), some (am_pf 6 1 0 16), none, none]
noncomputable def kr_1_2 : List (Option am_Op) := [some (am_vret)]
noncomputable def cd_1 : am_Cd := [kr_1_0, kr_1_1, kr_1_2]
theorem dd_1_0 : decode prog_8_method_1_code 0 = .ok (.aload_n 0, 1) := by decide +kernel
theorem dd_1_1 : decode prog_8_method_1_code 1 = .ok (.invokespecial 3, 3) := by decide +kernel
theorem dd_1_4 : decode prog_8_method_1_code 4 = .ok (.aload_n 0, 1) := by decide +kernel
theorem dd_1_5 : decode prog_8_method_1_code 5 = .ok (.iconst 5, 1) := by decide +kernel
theorem dd_1_6 : decode prog_8_method_1_code 6 = .ok (.newarray .int, 2) := by decide +kernel
theorem dd_1_8 : decode prog_8_method_1_code 8 = .ok (.putfield 9, 3) := by decide +kernel
theorem dd_1_11 : decode prog_8_method_1_code 11 = .ok (.aload_n 0, 1) := by decide +kernel
theorem dd_1_12 : decode prog_8_method_1_code 12 = .ok (.iconst 0, 1) := by decide +kernel
theorem dd_1_13 : decode prog_8_method_1_code 13 = .ok (.putfield 15, 3) := by decide +kernel
theorem dd_1_16 : decode prog_8_method_1_code 16 = .ok (.return_, 1) := by decide +kernel
theorem kb_1_0 : am_row mi_1 0 kr_1_0 := am_rs rfl (ok_aload_n (k := 0) dd_1_0 rfl rfl) (am_rs rfl (ok_co dd_1_1 rfl w_35 w_28 w_29 ⟨by decide, by decide⟩) (am_rn rfl (am_rn rfl (am_rs rfl (ok_aload_n (k := 0) dd_1_4 rfl rfl) (am_rs rfl (ok_iconst dd_1_5 ic_5 rfl) (am_rs rfl (ok_nwa (at' := .int) dd_1_6 rfl (Or.inl ⟨rfl, rfl⟩) w_44) (am_rn rfl (am_rz))))))))
theorem kb_1_1 : am_row mi_1 8 kr_1_1 := am_rs rfl (ok_pf dd_1_8 rfl am_ck6 (by decide) (Or.inl w_36) (Or.inr ⟨rfl, rfl, rfl, w_36⟩) rfl) (am_rn rfl (am_rn rfl (am_rs rfl (ok_aload_n (k := 0) dd_1_11 rfl rfl) (am_rs rfl (ok_iconst dd_1_12 ic_0 rfl) (am_rs rfl (ok_pf dd_1_13 rfl am_ck6 (by decide) (Or.inl w_37) (Or.inl rfl) rfl) (am_rn rfl (am_rn rfl (am_rz))))))))
theorem kb_1_2 : am_row mi_1 16 kr_1_2 := am_rs rfl (ok_vret dd_1_16 rfl) (am_rz)
theorem ck_1 : am_rows mi_1 0 cd_1 := am_bs rfl kb_1_0 (am_bs rfl kb_1_1 (am_bs rfl kb_1_2 (am_bz)))
/-- OverAndBack$Evening.<init>()V -/
noncomputable def kr_2_0 : List (Option am_Op) := [some (am_ald0 0 1), some (am_co 4), none, none, some (am_ald0 0 5), some (am_nw 8 4 dfs_8 8), none, none]
noncomputable def kr_2_1 : List (Option am_Op) := [some (am_dup 9), some (am_psh (.retAddr 1) 10), some (am_psh (.retAddr 4) 11), some (am_cn 3 2 14), none, none, some (am_pf 1 0 2 17), none]
noncomputable def kr_2_2 : List (Option am_Op) := [none, some (am_ald0 0 18), some (am_nw 8 4 dfs_8 21), none, none, some (am_dup 22), some (am_psh (.retAddr 5) 23), some (am_psh (.retAddr 9) 25)]
noncomputable def kr_2_3 : List (Option am_Op) := [none, some (am_cn 3 2 28), none, none, some (am_pf 1 1 2 31), none, none, some (am_ald0 0 32)]
noncomputable def kr_2_4 : List (Option am_Op) := [some (am_nw 8 4 dfs_8 35), none, none, some (am_dup 36), some (am_psh (.retAddr 3) 37), some (am_psh (.retAddr 6) 39), none, some (am_cn 3 2 42)]
noncomputable def kr_2_5 : List (Option am_Op) := [none, none, some (am_pf 1 2 2 45), none, none, some (am_ald0 0 46), some (am_nw 8 4 dfs_8 49), none]
noncomputable def kr_2_6 : List (Option am_Op) := [none, some (am_dup 50), some (am_psh (.retAddr 4) 51), some (am_psh (.retAddr 4) 52), some (am_cn 3 2 55), none, none, some (am_pf 1 3 2 58)]
noncomputable def kr_2_7 : List (Option am_Op) := [none, none, some (am_ald0 0 59), some (am_nw 8 4 dfs_8 62), none, none, some (am_dup 63), some (am_psh (.retAddr 3) 64)]
noncomputable def kr_2_8 : List (Option am_Op) := [some (am_psh (.retAddr 6) 66), none, some (am_cn 3 2 69), none, none, some (am_pf 1 4 2 72), none, none]
noncomputable def kr_2_9 : List (Option am_Op) := [some (am_ald0 0 73), some (am_nw 8 4 dfs_8 76), none, none, some (am_dup 77), some (am_psh (.retAddr 2) 78), some (am_psh (.retAddr 4) 79), some (am_cn 3 2 82)]
noncomputable def kr_2_10 : List (Option am_Op) := [none, none, some (am_pf 1 5 2 85), none, none, some (am_ald0 0 86), some (am_psh (.retAddr 30) 88), none]
noncomputable def kr_2_11 : List (Option am_Op) := [some (am_pf 1 6 0 91), none, none, some (am_ald0 0 92), some (am_psh (.retAddr 1) 93), some (am_pf 1 7 0 96), none, none]
noncomputable def kr_2_12 : List (Option am_Op) := [some (am_vret)]
noncomputable def cd_2 : am_Cd := [kr_2_0, kr_2_1, kr_2_2, kr_2_3, kr_2_4, kr_2_5, kr_2_6, kr_2_7, kr_2_8, kr_2_9, kr_2_10, kr_2_11, kr_2_12]
theorem dd_2_0 : decode prog_3_method_1_code 0 = .ok (.aload_n 0, 1) := by decide +kernel
theorem dd_2_1 : decode prog_3_method_1_code 1 = .ok (.invokespecial 3, 3) := by decide +kernel
theorem dd_2_4 : decode prog_3_method_1_code 4 = .ok (.aload_n 0, 1) := by decide +kernel
theorem dd_2_5 : decode prog_3_method_1_code 5 = .ok (.new 9, 3) := by decide +kernel
theorem dd_2_8 : decode prog_3_method_1_code 8 = .ok (.dup, 1) := by decide +kernel
theorem dd_2_9 : decode prog_3_method_1_code 9 = .ok (.iconst 1, 1) := by decide +kernel
theorem dd_2_10 : decode prog_3_method_1_code 10 = .ok (.iconst 4, 1) := by decide +kernel
theorem dd_2_11 : decode prog_3_method_1_code 11 = .ok (.invokespecial 11, 3) := by decide +kernel
theorem dd_2_14 : decode prog_3_method_1_code 14 = .ok (.putfield 14, 3) := by decide +kernel
theorem dd_2_17 : decode prog_3_method_1_code 17 = .ok (.aload_n 0, 1) := by decide +kernel
theorem dd_2_18 : decode prog_3_method_1_code 18 = .ok (.new 9, 3) := by decide +kernel
theorem dd_2_21 : decode prog_3_method_1_code 21 = .ok (.dup, 1) := by decide +kernel
theorem dd_2_22 : decode prog_3_method_1_code 22 = .ok (.iconst 5, 1) := by decide +kernel
theorem dd_2_23 : decode prog_3_method_1_code 23 = .ok (.bipush 9, 2) := by decide +kernel
theorem dd_2_25 : decode prog_3_method_1_code 25 = .ok (.invokespecial 11, 3) := by decide +kernel
theorem dd_2_28 : decode prog_3_method_1_code 28 = .ok (.putfield 20, 3) := by decide +kernel
theorem dd_2_31 : decode prog_3_method_1_code 31 = .ok (.aload_n 0, 1) := by decide +kernel
theorem dd_2_32 : decode prog_3_method_1_code 32 = .ok (.new 9, 3) := by decide +kernel
theorem dd_2_35 : decode prog_3_method_1_code 35 = .ok (.dup, 1) := by decide +kernel
theorem dd_2_36 : decode prog_3_method_1_code 36 = .ok (.iconst 3, 1) := by decide +kernel
theorem dd_2_37 : decode prog_3_method_1_code 37 = .ok (.bipush 6, 2) := by decide +kernel
theorem dd_2_39 : decode prog_3_method_1_code 39 = .ok (.invokespecial 11, 3) := by decide +kernel
theorem dd_2_42 : decode prog_3_method_1_code 42 = .ok (.putfield 23, 3) := by decide +kernel
theorem dd_2_45 : decode prog_3_method_1_code 45 = .ok (.aload_n 0, 1) := by decide +kernel
theorem dd_2_46 : decode prog_3_method_1_code 46 = .ok (.new 9, 3) := by decide +kernel
theorem dd_2_49 : decode prog_3_method_1_code 49 = .ok (.dup, 1) := by decide +kernel
theorem dd_2_50 : decode prog_3_method_1_code 50 = .ok (.iconst 4, 1) := by decide +kernel
theorem dd_2_51 : decode prog_3_method_1_code 51 = .ok (.iconst 4, 1) := by decide +kernel
theorem dd_2_52 : decode prog_3_method_1_code 52 = .ok (.invokespecial 11, 3) := by decide +kernel
theorem dd_2_55 : decode prog_3_method_1_code 55 = .ok (.putfield 26, 3) := by decide +kernel
theorem dd_2_58 : decode prog_3_method_1_code 58 = .ok (.aload_n 0, 1) := by decide +kernel
theorem dd_2_59 : decode prog_3_method_1_code 59 = .ok (.new 9, 3) := by decide +kernel
theorem dd_2_62 : decode prog_3_method_1_code 62 = .ok (.dup, 1) := by decide +kernel
theorem dd_2_63 : decode prog_3_method_1_code 63 = .ok (.iconst 3, 1) := by decide +kernel
theorem dd_2_64 : decode prog_3_method_1_code 64 = .ok (.bipush 6, 2) := by decide +kernel
theorem dd_2_66 : decode prog_3_method_1_code 66 = .ok (.invokespecial 11, 3) := by decide +kernel
theorem dd_2_69 : decode prog_3_method_1_code 69 = .ok (.putfield 29, 3) := by decide +kernel
theorem dd_2_72 : decode prog_3_method_1_code 72 = .ok (.aload_n 0, 1) := by decide +kernel
theorem dd_2_73 : decode prog_3_method_1_code 73 = .ok (.new 9, 3) := by decide +kernel
theorem dd_2_76 : decode prog_3_method_1_code 76 = .ok (.dup, 1) := by decide +kernel
theorem dd_2_77 : decode prog_3_method_1_code 77 = .ok (.iconst 2, 1) := by decide +kernel
theorem dd_2_78 : decode prog_3_method_1_code 78 = .ok (.iconst 4, 1) := by decide +kernel
theorem dd_2_79 : decode prog_3_method_1_code 79 = .ok (.invokespecial 11, 3) := by decide +kernel
theorem dd_2_82 : decode prog_3_method_1_code 82 = .ok (.putfield 32, 3) := by decide +kernel
theorem dd_2_85 : decode prog_3_method_1_code 85 = .ok (.aload_n 0, 1) := by decide +kernel
theorem dd_2_86 : decode prog_3_method_1_code 86 = .ok (.bipush 30, 2) := by decide +kernel
theorem dd_2_88 : decode prog_3_method_1_code 88 = .ok (.putfield 35, 3) := by decide +kernel
theorem dd_2_91 : decode prog_3_method_1_code 91 = .ok (.aload_n 0, 1) := by decide +kernel
theorem dd_2_92 : decode prog_3_method_1_code 92 = .ok (.iconst 1, 1) := by decide +kernel
theorem dd_2_93 : decode prog_3_method_1_code 93 = .ok (.putfield 39, 3) := by decide +kernel
theorem dd_2_96 : decode prog_3_method_1_code 96 = .ok (.return_, 1) := by decide +kernel
theorem kb_2_0 : am_row mi_2 0 kr_2_0 := am_rs rfl (ok_aload_n (k := 0) dd_2_0 rfl rfl) (am_rs rfl (ok_co dd_2_1 rfl w_50 w_28 w_29 ⟨by decide, by decide⟩) (am_rn rfl (am_rn rfl (am_rs rfl (ok_aload_n (k := 0) dd_2_4 rfl rfl) (am_rs rfl (ok_nw dd_2_5 rfl am_ck8 w_51 w_52 w_4 df_8) (am_rn rfl (am_rn rfl (am_rz))))))))
theorem kb_2_1 : am_row mi_2 8 kr_2_1 := am_rs rfl (ok_dup dd_2_8 rfl) (am_rs rfl (ok_iconst dd_2_9 ic_1 rfl) (am_rs rfl (ok_iconst dd_2_10 ic_4 rfl) (am_rs rfl (ok_cn (M' := mi_3) dd_2_11 rfl rfl (Or.inl w_53) w_54 ⟨rfl, rfl⟩ ⟨lk_3.1, lk_3.2.1, lk_3.2.2, by decide, by decide⟩) (am_rn rfl (am_rn rfl (am_rs rfl (ok_pf dd_2_14 rfl am_ck1 (by decide) (Or.inl w_79) (Or.inr ⟨rfl, rfl, rfl, w_79⟩) rfl) (am_rn rfl (am_rz))))))))
theorem kb_2_2 : am_row mi_2 16 kr_2_2 := am_rn rfl (am_rs rfl (ok_aload_n (k := 0) dd_2_17 rfl rfl) (am_rs rfl (ok_nw dd_2_18 rfl am_ck8 w_51 w_52 w_4 df_8) (am_rn rfl (am_rn rfl (am_rs rfl (ok_dup dd_2_21 rfl) (am_rs rfl (ok_iconst dd_2_22 ic_5 rfl) (am_rs rfl (ok_bipush dd_2_23 bi_9 rfl) (am_rz))))))))
theorem kb_2_3 : am_row mi_2 24 kr_2_3 := am_rn rfl (am_rs rfl (ok_cn (M' := mi_3) dd_2_25 rfl rfl (Or.inl w_53) w_54 ⟨rfl, rfl⟩ ⟨lk_3.1, lk_3.2.1, lk_3.2.2, by decide, by decide⟩) (am_rn rfl (am_rn rfl (am_rs rfl (ok_pf dd_2_28 rfl am_ck1 (by decide) (Or.inl w_86) (Or.inr ⟨rfl, rfl, rfl, w_86⟩) rfl) (am_rn rfl (am_rn rfl (am_rs rfl (ok_aload_n (k := 0) dd_2_31 rfl rfl) (am_rz))))))))
theorem kb_2_4 : am_row mi_2 32 kr_2_4 := am_rs rfl (ok_nw dd_2_32 rfl am_ck8 w_51 w_52 w_4 df_8) (am_rn rfl (am_rn rfl (am_rs rfl (ok_dup dd_2_35 rfl) (am_rs rfl (ok_iconst dd_2_36 ic_3 rfl) (am_rs rfl (ok_bipush dd_2_37 bi_6 rfl) (am_rn rfl (am_rs rfl (ok_cn (M' := mi_3) dd_2_39 rfl rfl (Or.inl w_53) w_54 ⟨rfl, rfl⟩ ⟨lk_3.1, lk_3.2.1, lk_3.2.2, by decide, by decide⟩) (am_rz))))))))
theorem kb_2_5 : am_row mi_2 40 kr_2_5 := am_rn rfl (am_rn rfl (am_rs rfl (ok_pf dd_2_42 rfl am_ck1 (by decide) (Or.inl w_90) (Or.inr ⟨rfl, rfl, rfl, w_90⟩) rfl) (am_rn rfl (am_rn rfl (am_rs rfl (ok_aload_n (k := 0) dd_2_45 rfl rfl) (am_rs rfl (ok_nw dd_2_46 rfl am_ck8 w_51 w_52 w_4 df_8) (am_rn rfl (am_rz))))))))
theorem kb_2_6 : am_row mi_2 48 kr_2_6 := am_rn rfl (am_rs rfl (ok_dup dd_2_49 rfl) (am_rs rfl (ok_iconst dd_2_50 ic_4 rfl) (am_rs rfl (ok_iconst dd_2_51 ic_4 rfl) (am_rs rfl (ok_cn (M' := mi_3) dd_2_52 rfl rfl (Or.inl w_53) w_54 ⟨rfl, rfl⟩ ⟨lk_3.1, lk_3.2.1, lk_3.2.2, by decide, by decide⟩) (am_rn rfl (am_rn rfl (am_rs rfl (ok_pf dd_2_55 rfl am_ck1 (by decide) (Or.inl w_94) (Or.inr ⟨rfl, rfl, rfl, w_94⟩) rfl) (am_rz))))))))
theorem kb_2_7 : am_row mi_2 56 kr_2_7 := am_rn rfl (am_rn rfl (am_rs rfl (ok_aload_n (k := 0) dd_2_58 rfl rfl) (am_rs rfl (ok_nw dd_2_59 rfl am_ck8 w_51 w_52 w_4 df_8) (am_rn rfl (am_rn rfl (am_rs rfl (ok_dup dd_2_62 rfl) (am_rs rfl (ok_iconst dd_2_63 ic_3 rfl) (am_rz))))))))
theorem kb_2_8 : am_row mi_2 64 kr_2_8 := am_rs rfl (ok_bipush dd_2_64 bi_6 rfl) (am_rn rfl (am_rs rfl (ok_cn (M' := mi_3) dd_2_66 rfl rfl (Or.inl w_53) w_54 ⟨rfl, rfl⟩ ⟨lk_3.1, lk_3.2.1, lk_3.2.2, by decide, by decide⟩) (am_rn rfl (am_rn rfl (am_rs rfl (ok_pf dd_2_69 rfl am_ck1 (by decide) (Or.inl w_98) (Or.inr ⟨rfl, rfl, rfl, w_98⟩) rfl) (am_rn rfl (am_rn rfl (am_rz))))))))
theorem kb_2_9 : am_row mi_2 72 kr_2_9 := am_rs rfl (ok_aload_n (k := 0) dd_2_72 rfl rfl) (am_rs rfl (ok_nw dd_2_73 rfl am_ck8 w_51 w_52 w_4 df_8) (am_rn rfl (am_rn rfl (am_rs rfl (ok_dup dd_2_76 rfl) (am_rs rfl (ok_iconst dd_2_77 ic_2 rfl) (am_rs rfl (ok_iconst dd_2_78 ic_4 rfl) (am_rs rfl (ok_cn (M' := mi_3) dd_2_79 rfl rfl (Or.inl w_53) w_54 ⟨rfl, rfl⟩ ⟨lk_3.1, lk_3.2.1, lk_3.2.2, by decide, by decide⟩) (am_rz))))))))
theorem kb_2_10 : am_row mi_2 80 kr_2_10 := am_rn rfl (am_rn rfl (am_rs rfl (ok_pf dd_2_82 rfl am_ck1 (by decide) (Or.inl w_101) (Or.inr ⟨rfl, rfl, rfl, w_101⟩) rfl) (am_rn rfl (am_rn rfl (am_rs rfl (ok_aload_n (k := 0) dd_2_85 rfl rfl) (am_rs rfl (ok_bipush dd_2_86 bi_30 rfl) (am_rn rfl (am_rz))))))))
theorem kb_2_11 : am_row mi_2 88 kr_2_11 := am_rs rfl (ok_pf dd_2_88 rfl am_ck1 (by decide) (Or.inl w_105) (Or.inl rfl) rfl) (am_rn rfl (am_rn rfl (am_rs rfl (ok_aload_n (k := 0) dd_2_91 rfl rfl) (am_rs rfl (ok_iconst dd_2_92 ic_1 rfl) (am_rs rfl (ok_pf dd_2_93 rfl am_ck1 (by decide) (Or.inl w_113) (Or.inl rfl) rfl) (am_rn rfl (am_rn rfl (am_rz))))))))
theorem kb_2_12 : am_row mi_2 96 kr_2_12 := am_rs rfl (ok_vret dd_2_96 rfl) (am_rz)
theorem ck_2 : am_rows mi_2 0 cd_2 := am_bs rfl kb_2_0 (am_bs rfl kb_2_1 (am_bs rfl kb_2_2 (am_bs rfl kb_2_3 (am_bs rfl kb_2_4 (am_bs rfl kb_2_5 (am_bs rfl kb_2_6 (am_bs rfl kb_2_7 (am_bs rfl kb_2_8 (am_bs rfl kb_2_9 (am_bs rfl kb_2_10 (am_bs rfl kb_2_11 (am_bs rfl kb_2_12 (am_bz)))))))))))))
/-- OverAndBack$Rows.<init>(II)V -/
noncomputable def kr_3_0 : List (Option am_Op) := [some (am_ald0 0 1), some (am_co 4), none, none, some (am_ald0 0 5), some (am_psh (.retAddr 45) 7), none, some (am_nwa 0 9)]
noncomputable def kr_3_1 : List (Option am_Op) := [none, some (am_pf 8 0 2 12), none, none, some (am_ald0 0 13), some (am_psh (.retAddr 0) 14), some (am_pf 8 3 0 17), none]
noncomputable def kr_3_2 : List (Option am_Op) := [none, some (am_ald0 0 18), some (am_ild 1 19), some (am_pf 8 1 0 22), none, none, some (am_ald0 0 23), some (am_ild 2 24)]
noncomputable def kr_3_3 : List (Option am_Op) := [some (am_pf 8 2 0 27), none, none, some (am_vret)]
noncomputable def cd_3 : am_Cd := [kr_3_0, kr_3_1, kr_3_2, kr_3_3]
theorem dd_3_0 : decode prog_10_method_1_code 0 = .ok (.aload_n 0, 1) := by decide +kernel
theorem dd_3_1 : decode prog_10_method_1_code 1 = .ok (.invokespecial 3, 3) := by decide +kernel
theorem dd_3_4 : decode prog_10_method_1_code 4 = .ok (.aload_n 0, 1) := by decide +kernel
theorem dd_3_5 : decode prog_10_method_1_code 5 = .ok (.bipush 45, 2) := by decide +kernel
theorem dd_3_7 : decode prog_10_method_1_code 7 = .ok (.newarray .int, 2) := by decide +kernel
theorem dd_3_9 : decode prog_10_method_1_code 9 = .ok (.putfield 9, 3) := by decide +kernel
theorem dd_3_12 : decode prog_10_method_1_code 12 = .ok (.aload_n 0, 1) := by decide +kernel
theorem dd_3_13 : decode prog_10_method_1_code 13 = .ok (.iconst 0, 1) := by decide +kernel
theorem dd_3_14 : decode prog_10_method_1_code 14 = .ok (.putfield 15, 3) := by decide +kernel
theorem dd_3_17 : decode prog_10_method_1_code 17 = .ok (.aload_n 0, 1) := by decide +kernel
theorem dd_3_18 : decode prog_10_method_1_code 18 = .ok (.iload_n 1, 1) := by decide +kernel
theorem dd_3_19 : decode prog_10_method_1_code 19 = .ok (.putfield 19, 3) := by decide +kernel
theorem dd_3_22 : decode prog_10_method_1_code 22 = .ok (.aload_n 0, 1) := by decide +kernel
theorem dd_3_23 : decode prog_10_method_1_code 23 = .ok (.iload_n 2, 1) := by decide +kernel
theorem dd_3_24 : decode prog_10_method_1_code 24 = .ok (.putfield 22, 3) := by decide +kernel
theorem dd_3_27 : decode prog_10_method_1_code 27 = .ok (.return_, 1) := by decide +kernel
theorem kb_3_0 : am_row mi_3 0 kr_3_0 := am_rs rfl (ok_aload_n (k := 0) dd_3_0 rfl rfl) (am_rs rfl (ok_co dd_3_1 rfl w_56 w_28 w_29 ⟨by decide, by decide⟩) (am_rn rfl (am_rn rfl (am_rs rfl (ok_aload_n (k := 0) dd_3_4 rfl rfl) (am_rs rfl (ok_bipush dd_3_5 bi_45 rfl) (am_rn rfl (am_rs rfl (ok_nwa (at' := .int) dd_3_7 rfl (Or.inl ⟨rfl, rfl⟩) w_44) (am_rz))))))))
theorem kb_3_1 : am_row mi_3 8 kr_3_1 := am_rn rfl (am_rs rfl (ok_pf dd_3_9 rfl am_ck8 (by decide) (Or.inl w_57) (Or.inr ⟨rfl, rfl, rfl, w_57⟩) rfl) (am_rn rfl (am_rn rfl (am_rs rfl (ok_aload_n (k := 0) dd_3_12 rfl rfl) (am_rs rfl (ok_iconst dd_3_13 ic_0 rfl) (am_rs rfl (ok_pf dd_3_14 rfl am_ck8 (by decide) (Or.inl w_60) (Or.inl rfl) rfl) (am_rn rfl (am_rz))))))))
theorem kb_3_2 : am_row mi_3 16 kr_3_2 := am_rn rfl (am_rs rfl (ok_aload_n (k := 0) dd_3_17 rfl rfl) (am_rs rfl (ok_iload_n (k := 1) dd_3_18 rfl rfl) (am_rs rfl (ok_pf dd_3_19 rfl am_ck8 (by decide) (Or.inl w_58) (Or.inr ⟨rfl, rfl, rfl, w_58⟩) rfl) (am_rn rfl (am_rn rfl (am_rs rfl (ok_aload_n (k := 0) dd_3_22 rfl rfl) (am_rs rfl (ok_iload_n (k := 2) dd_3_23 rfl rfl) (am_rz))))))))
theorem kb_3_3 : am_row mi_3 24 kr_3_3 := am_rs rfl (ok_pf dd_3_24 rfl am_ck8 (by decide) (Or.inl w_59) (Or.inr ⟨rfl, rfl, rfl, w_59⟩) rfl) (am_rn rfl (am_rn rfl (am_rs rfl (ok_vret dd_3_27 rfl) (am_rz))))
theorem ck_3 : am_rows mi_3 0 cd_3 := am_bs rfl kb_3_0 (am_bs rfl kb_3_1 (am_bs rfl kb_3_2 (am_bs rfl kb_3_3 (am_bz))))
/-- OverAndBack$Facts.<init>()V -/
noncomputable def kr_4_0 : List (Option am_Op) := [some (am_ald0 0 1), some (am_co 4), none, none, some (am_ald0 0 5), some (am_psh (.retAddr 256) 8), none, none]
noncomputable def kr_4_1 : List (Option am_Op) := [some (am_nwa 0 10), none, some (am_pf 2 0 2 13), none, none, some (am_vret)]
noncomputable def cd_4 : am_Cd := [kr_4_0, kr_4_1]
theorem dd_4_0 : decode prog_4_method_1_code 0 = .ok (.aload_n 0, 1) := by decide +kernel
theorem dd_4_1 : decode prog_4_method_1_code 1 = .ok (.invokespecial 3, 3) := by decide +kernel
theorem dd_4_4 : decode prog_4_method_1_code 4 = .ok (.aload_n 0, 1) := by decide +kernel
theorem dd_4_5 : decode prog_4_method_1_code 5 = .ok (.sipush 256, 3) := by decide +kernel
theorem dd_4_8 : decode prog_4_method_1_code 8 = .ok (.newarray .int, 2) := by decide +kernel
theorem dd_4_10 : decode prog_4_method_1_code 10 = .ok (.putfield 9, 3) := by decide +kernel
theorem dd_4_13 : decode prog_4_method_1_code 13 = .ok (.return_, 1) := by decide +kernel
theorem kb_4_0 : am_row mi_4 0 kr_4_0 := am_rs rfl (ok_aload_n (k := 0) dd_4_0 rfl rfl) (am_rs rfl (ok_co dd_4_1 rfl w_142 w_28 w_29 ⟨by decide, by decide⟩) (am_rn rfl (am_rn rfl (am_rs rfl (ok_aload_n (k := 0) dd_4_4 rfl rfl) (am_rs rfl (ok_sipush dd_4_5 si_256 rfl) (am_rn rfl (am_rn rfl (am_rz))))))))
theorem kb_4_1 : am_row mi_4 8 kr_4_1 := am_rs rfl (ok_nwa (at' := .int) dd_4_8 rfl (Or.inl ⟨rfl, rfl⟩) w_44) (am_rn rfl (am_rs rfl (ok_pf dd_4_10 rfl am_ck2 (by decide) (Or.inl w_143) (Or.inr ⟨rfl, rfl, rfl, w_143⟩) rfl) (am_rn rfl (am_rn rfl (am_rs rfl (ok_vret dd_4_13 rfl) (am_rz))))))
theorem ck_4 : am_rows mi_4 0 cd_4 := am_bs rfl kb_4_0 (am_bs rfl kb_4_1 (am_bz))
/-- OverAndBack$Screen.<init>()V -/
noncomputable def kr_5_0 : List (Option am_Op) := [some (am_ald0 0 1), some (am_co 4), none, none, some (am_ald0 0 5), some (am_psh (.retAddr 240) 8), none, none]
noncomputable def kr_5_1 : List (Option am_Op) := [some (am_nwa 0 10), none, some (am_pf 9 0 2 13), none, none, some (am_ald0 0 14), some (am_psh (.retAddr 240) 17), none]
noncomputable def kr_5_2 : List (Option am_Op) := [none, some (am_nwa 0 19), none, some (am_pf 9 1 2 22), none, none, some (am_ald0 0 23), some (am_psh (.retAddr 240) 26)]
noncomputable def kr_5_3 : List (Option am_Op) := [none, none, some (am_nwa 0 28), none, some (am_pf 9 2 2 31), none, none, some (am_vret)]
noncomputable def cd_5 : am_Cd := [kr_5_0, kr_5_1, kr_5_2, kr_5_3]
theorem dd_5_0 : decode prog_11_method_1_code 0 = .ok (.aload_n 0, 1) := by decide +kernel
theorem dd_5_1 : decode prog_11_method_1_code 1 = .ok (.invokespecial 3, 3) := by decide +kernel
theorem dd_5_4 : decode prog_11_method_1_code 4 = .ok (.aload_n 0, 1) := by decide +kernel
theorem dd_5_5 : decode prog_11_method_1_code 5 = .ok (.sipush 240, 3) := by decide +kernel
theorem dd_5_8 : decode prog_11_method_1_code 8 = .ok (.newarray .int, 2) := by decide +kernel
theorem dd_5_10 : decode prog_11_method_1_code 10 = .ok (.putfield 9, 3) := by decide +kernel
theorem dd_5_13 : decode prog_11_method_1_code 13 = .ok (.aload_n 0, 1) := by decide +kernel
theorem dd_5_14 : decode prog_11_method_1_code 14 = .ok (.sipush 240, 3) := by decide +kernel
theorem dd_5_17 : decode prog_11_method_1_code 17 = .ok (.newarray .int, 2) := by decide +kernel
theorem dd_5_19 : decode prog_11_method_1_code 19 = .ok (.putfield 15, 3) := by decide +kernel
theorem dd_5_22 : decode prog_11_method_1_code 22 = .ok (.aload_n 0, 1) := by decide +kernel
theorem dd_5_23 : decode prog_11_method_1_code 23 = .ok (.sipush 240, 3) := by decide +kernel
theorem dd_5_26 : decode prog_11_method_1_code 26 = .ok (.newarray .int, 2) := by decide +kernel
theorem dd_5_28 : decode prog_11_method_1_code 28 = .ok (.putfield 18, 3) := by decide +kernel
theorem dd_5_31 : decode prog_11_method_1_code 31 = .ok (.return_, 1) := by decide +kernel
theorem kb_5_0 : am_row mi_5 0 kr_5_0 := am_rs rfl (ok_aload_n (k := 0) dd_5_0 rfl rfl) (am_rs rfl (ok_co dd_5_1 rfl w_152 w_28 w_29 ⟨by decide, by decide⟩) (am_rn rfl (am_rn rfl (am_rs rfl (ok_aload_n (k := 0) dd_5_4 rfl rfl) (am_rs rfl (ok_sipush dd_5_5 si_240 rfl) (am_rn rfl (am_rn rfl (am_rz))))))))
theorem kb_5_1 : am_row mi_5 8 kr_5_1 := am_rs rfl (ok_nwa (at' := .int) dd_5_8 rfl (Or.inl ⟨rfl, rfl⟩) w_44) (am_rn rfl (am_rs rfl (ok_pf dd_5_10 rfl am_ck9 (by decide) (Or.inl w_153) (Or.inr ⟨rfl, rfl, rfl, w_153⟩) rfl) (am_rn rfl (am_rn rfl (am_rs rfl (ok_aload_n (k := 0) dd_5_13 rfl rfl) (am_rs rfl (ok_sipush dd_5_14 si_240 rfl) (am_rn rfl (am_rz))))))))
theorem kb_5_2 : am_row mi_5 16 kr_5_2 := am_rn rfl (am_rs rfl (ok_nwa (at' := .int) dd_5_17 rfl (Or.inl ⟨rfl, rfl⟩) w_44) (am_rn rfl (am_rs rfl (ok_pf dd_5_19 rfl am_ck9 (by decide) (Or.inl w_154) (Or.inr ⟨rfl, rfl, rfl, w_154⟩) rfl) (am_rn rfl (am_rn rfl (am_rs rfl (ok_aload_n (k := 0) dd_5_22 rfl rfl) (am_rs rfl (ok_sipush dd_5_23 si_240 rfl) (am_rz))))))))
theorem kb_5_3 : am_row mi_5 24 kr_5_3 := am_rn rfl (am_rn rfl (am_rs rfl (ok_nwa (at' := .int) dd_5_26 rfl (Or.inl ⟨rfl, rfl⟩) w_44) (am_rn rfl (am_rs rfl (ok_pf dd_5_28 rfl am_ck9 (by decide) (Or.inl w_155) (Or.inr ⟨rfl, rfl, rfl, w_155⟩) rfl) (am_rn rfl (am_rn rfl (am_rs rfl (ok_vret dd_5_31 rfl) (am_rz))))))))
theorem ck_5 : am_rows mi_5 0 cd_5 := am_bs rfl kb_5_0 (am_bs rfl kb_5_1 (am_bs rfl kb_5_2 (am_bs rfl kb_5_3 (am_bz))))
/-- OverAndBack$Walk.<init>()V -/
noncomputable def kr_6_0 : List (Option am_Op) := [some (am_ald0 0 1), some (am_co 4), none, none, some (am_ald0 0 5), some (am_psh (.retAddr 60) 7), none, some (am_nwa 0 9)]
noncomputable def kr_6_1 : List (Option am_Op) := [none, some (am_pf 10 0 2 12), none, none, some (am_ald0 0 13), some (am_psh (.retAddr 60) 15), none, some (am_nwa 0 17)]
noncomputable def kr_6_2 : List (Option am_Op) := [none, some (am_pf 10 1 2 20), none, none, some (am_ald0 0 21), some (am_psh (.retAddr 0) 22), some (am_pf 10 2 0 25), none]
noncomputable def kr_6_3 : List (Option am_Op) := [none, some (am_ald0 0 26), some (am_psh (.retAddr 0) 27), some (am_pf 10 3 0 30), none, none, some (am_ald0 0 31), some (am_psh (.retAddr 0) 32)]
noncomputable def kr_6_4 : List (Option am_Op) := [some (am_pf 10 4 0 35), none, none, some (am_ald0 0 36), some (am_psh (.retAddr 0) 37), some (am_pf 10 5 0 40), none, none]
noncomputable def kr_6_5 : List (Option am_Op) := [some (am_ald0 0 41), some (am_psh (.retAddr 0) 42), some (am_pf 10 6 0 45), none, none, some (am_vret)]
noncomputable def cd_6 : am_Cd := [kr_6_0, kr_6_1, kr_6_2, kr_6_3, kr_6_4, kr_6_5]
theorem dd_6_0 : decode prog_12_method_1_code 0 = .ok (.aload_n 0, 1) := by decide +kernel
theorem dd_6_1 : decode prog_12_method_1_code 1 = .ok (.invokespecial 3, 3) := by decide +kernel
theorem dd_6_4 : decode prog_12_method_1_code 4 = .ok (.aload_n 0, 1) := by decide +kernel
theorem dd_6_5 : decode prog_12_method_1_code 5 = .ok (.bipush 60, 2) := by decide +kernel
theorem dd_6_7 : decode prog_12_method_1_code 7 = .ok (.newarray .int, 2) := by decide +kernel
theorem dd_6_9 : decode prog_12_method_1_code 9 = .ok (.putfield 9, 3) := by decide +kernel
theorem dd_6_12 : decode prog_12_method_1_code 12 = .ok (.aload_n 0, 1) := by decide +kernel
theorem dd_6_13 : decode prog_12_method_1_code 13 = .ok (.bipush 60, 2) := by decide +kernel
theorem dd_6_15 : decode prog_12_method_1_code 15 = .ok (.newarray .int, 2) := by decide +kernel
theorem dd_6_17 : decode prog_12_method_1_code 17 = .ok (.putfield 15, 3) := by decide +kernel
theorem dd_6_20 : decode prog_12_method_1_code 20 = .ok (.aload_n 0, 1) := by decide +kernel
theorem dd_6_21 : decode prog_12_method_1_code 21 = .ok (.iconst 0, 1) := by decide +kernel
theorem dd_6_22 : decode prog_12_method_1_code 22 = .ok (.putfield 18, 3) := by decide +kernel
theorem dd_6_25 : decode prog_12_method_1_code 25 = .ok (.aload_n 0, 1) := by decide +kernel
theorem dd_6_26 : decode prog_12_method_1_code 26 = .ok (.iconst 0, 1) := by decide +kernel
theorem dd_6_27 : decode prog_12_method_1_code 27 = .ok (.putfield 22, 3) := by decide +kernel
theorem dd_6_30 : decode prog_12_method_1_code 30 = .ok (.aload_n 0, 1) := by decide +kernel
theorem dd_6_31 : decode prog_12_method_1_code 31 = .ok (.iconst 0, 1) := by decide +kernel
theorem dd_6_32 : decode prog_12_method_1_code 32 = .ok (.putfield 25, 3) := by decide +kernel
theorem dd_6_35 : decode prog_12_method_1_code 35 = .ok (.aload_n 0, 1) := by decide +kernel
theorem dd_6_36 : decode prog_12_method_1_code 36 = .ok (.iconst 0, 1) := by decide +kernel
theorem dd_6_37 : decode prog_12_method_1_code 37 = .ok (.putfield 28, 3) := by decide +kernel
theorem dd_6_40 : decode prog_12_method_1_code 40 = .ok (.aload_n 0, 1) := by decide +kernel
theorem dd_6_41 : decode prog_12_method_1_code 41 = .ok (.iconst 0, 1) := by decide +kernel
theorem dd_6_42 : decode prog_12_method_1_code 42 = .ok (.putfield 31, 3) := by decide +kernel
theorem dd_6_45 : decode prog_12_method_1_code 45 = .ok (.return_, 1) := by decide +kernel
theorem kb_6_0 : am_row mi_6 0 kr_6_0 := am_rs rfl (ok_aload_n (k := 0) dd_6_0 rfl rfl) (am_rs rfl (ok_co dd_6_1 rfl w_168 w_28 w_29 ⟨by decide, by decide⟩) (am_rn rfl (am_rn rfl (am_rs rfl (ok_aload_n (k := 0) dd_6_4 rfl rfl) (am_rs rfl (ok_bipush dd_6_5 bi_60 rfl) (am_rn rfl (am_rs rfl (ok_nwa (at' := .int) dd_6_7 rfl (Or.inl ⟨rfl, rfl⟩) w_44) (am_rz))))))))
theorem kb_6_1 : am_row mi_6 8 kr_6_1 := am_rn rfl (am_rs rfl (ok_pf dd_6_9 rfl am_ck10 (by decide) (Or.inl w_169) (Or.inr ⟨rfl, rfl, rfl, w_169⟩) rfl) (am_rn rfl (am_rn rfl (am_rs rfl (ok_aload_n (k := 0) dd_6_12 rfl rfl) (am_rs rfl (ok_bipush dd_6_13 bi_60 rfl) (am_rn rfl (am_rs rfl (ok_nwa (at' := .int) dd_6_15 rfl (Or.inl ⟨rfl, rfl⟩) w_44) (am_rz))))))))
theorem kb_6_2 : am_row mi_6 16 kr_6_2 := am_rn rfl (am_rs rfl (ok_pf dd_6_17 rfl am_ck10 (by decide) (Or.inl w_170) (Or.inr ⟨rfl, rfl, rfl, w_170⟩) rfl) (am_rn rfl (am_rn rfl (am_rs rfl (ok_aload_n (k := 0) dd_6_20 rfl rfl) (am_rs rfl (ok_iconst dd_6_21 ic_0 rfl) (am_rs rfl (ok_pf dd_6_22 rfl am_ck10 (by decide) (Or.inl w_171) (Or.inl rfl) rfl) (am_rn rfl (am_rz))))))))
theorem kb_6_3 : am_row mi_6 24 kr_6_3 := am_rn rfl (am_rs rfl (ok_aload_n (k := 0) dd_6_25 rfl rfl) (am_rs rfl (ok_iconst dd_6_26 ic_0 rfl) (am_rs rfl (ok_pf dd_6_27 rfl am_ck10 (by decide) (Or.inl w_172) (Or.inl rfl) rfl) (am_rn rfl (am_rn rfl (am_rs rfl (ok_aload_n (k := 0) dd_6_30 rfl rfl) (am_rs rfl (ok_iconst dd_6_31 ic_0 rfl) (am_rz))))))))
theorem kb_6_4 : am_row mi_6 32 kr_6_4 := am_rs rfl (ok_pf dd_6_32 rfl am_ck10 (by decide) (Or.inl w_173) (Or.inl rfl) rfl) (am_rn rfl (am_rn rfl (am_rs rfl (ok_aload_n (k := 0) dd_6_35 rfl rfl) (am_rs rfl (ok_iconst dd_6_36 ic_0 rfl) (am_rs rfl (ok_pf dd_6_37 rfl am_ck10 (by decide) (Or.inl w_175) (Or.inl rfl) rfl) (am_rn rfl (am_rn rfl (am_rz))))))))
theorem kb_6_5 : am_row mi_6 40 kr_6_5 := am_rs rfl (ok_aload_n (k := 0) dd_6_40 rfl rfl) (am_rs rfl (ok_iconst dd_6_41 ic_0 rfl) (am_rs rfl (ok_pf dd_6_42 rfl am_ck10 (by decide) (Or.inl w_177) (Or.inl rfl) rfl) (am_rn rfl (am_rn rfl (am_rs rfl (ok_vret dd_6_45 rfl) (am_rz))))))
theorem ck_6 : am_rows mi_6 0 cd_6 := am_bs rfl kb_6_0 (am_bs rfl kb_6_1 (am_bs rfl kb_6_2 (am_bs rfl kb_6_3 (am_bs rfl kb_6_4 (am_bs rfl kb_6_5 (am_bz))))))
/-- OverAndBack$Routes.<init>()V -/
noncomputable def kr_7_0 : List (Option am_Op) := [some (am_ald0 0 1), some (am_co 4), none, none, some (am_ald0 0 5), some (am_psh (.retAddr 240) 8), none, none]
noncomputable def kr_7_1 : List (Option am_Op) := [some (am_nwa 0 10), none, some (am_pf 7 0 2 13), none, none, some (am_ald0 0 14), some (am_psh (.retAddr 0) 15), some (am_pf 7 1 0 18)]
noncomputable def kr_7_2 : List (Option am_Op) := [none, none, some (am_ald0 0 19), some (am_psh (.retAddr 4294967292) 21), none, some (am_pf 7 2 0 24), none, none]
noncomputable def kr_7_3 : List (Option am_Op) := [some (am_ald0 0 25), some (am_psh (.retAddr 4294967292) 27), none, some (am_pf 7 3 0 30), none, none, some (am_vret)]
noncomputable def cd_7 : am_Cd := [kr_7_0, kr_7_1, kr_7_2, kr_7_3]
theorem dd_7_0 : decode prog_9_method_1_code 0 = .ok (.aload_n 0, 1) := by decide +kernel
theorem dd_7_1 : decode prog_9_method_1_code 1 = .ok (.invokespecial 3, 3) := by decide +kernel
theorem dd_7_4 : decode prog_9_method_1_code 4 = .ok (.aload_n 0, 1) := by decide +kernel
theorem dd_7_5 : decode prog_9_method_1_code 5 = .ok (.sipush 240, 3) := by decide +kernel
theorem dd_7_8 : decode prog_9_method_1_code 8 = .ok (.newarray .int, 2) := by decide +kernel
theorem dd_7_10 : decode prog_9_method_1_code 10 = .ok (.putfield 9, 3) := by decide +kernel
theorem dd_7_13 : decode prog_9_method_1_code 13 = .ok (.aload_n 0, 1) := by decide +kernel
theorem dd_7_14 : decode prog_9_method_1_code 14 = .ok (.iconst 0, 1) := by decide +kernel
theorem dd_7_15 : decode prog_9_method_1_code 15 = .ok (.putfield 15, 3) := by decide +kernel
theorem dd_7_18 : decode prog_9_method_1_code 18 = .ok (.aload_n 0, 1) := by decide +kernel
theorem dd_7_19 : decode prog_9_method_1_code 19 = .ok (.bipush (-4), 2) := by decide +kernel
theorem dd_7_21 : decode prog_9_method_1_code 21 = .ok (.putfield 19, 3) := by decide +kernel
theorem dd_7_24 : decode prog_9_method_1_code 24 = .ok (.aload_n 0, 1) := by decide +kernel
theorem dd_7_25 : decode prog_9_method_1_code 25 = .ok (.bipush (-4), 2) := by decide +kernel
theorem dd_7_27 : decode prog_9_method_1_code 27 = .ok (.putfield 22, 3) := by decide +kernel
theorem dd_7_30 : decode prog_9_method_1_code 30 = .ok (.return_, 1) := by decide +kernel
theorem kb_7_0 : am_row mi_7 0 kr_7_0 := am_rs rfl (ok_aload_n (k := 0) dd_7_0 rfl rfl) (am_rs rfl (ok_co dd_7_1 rfl w_199 w_28 w_29 ⟨by decide, by decide⟩) (am_rn rfl (am_rn rfl (am_rs rfl (ok_aload_n (k := 0) dd_7_4 rfl rfl) (am_rs rfl (ok_sipush dd_7_5 si_240 rfl) (am_rn rfl (am_rn rfl (am_rz))))))))
theorem kb_7_1 : am_row mi_7 8 kr_7_1 := am_rs rfl (ok_nwa (at' := .int) dd_7_8 rfl (Or.inl ⟨rfl, rfl⟩) w_44) (am_rn rfl (am_rs rfl (ok_pf dd_7_10 rfl am_ck7 (by decide) (Or.inl w_200) (Or.inr ⟨rfl, rfl, rfl, w_200⟩) rfl) (am_rn rfl (am_rn rfl (am_rs rfl (ok_aload_n (k := 0) dd_7_13 rfl rfl) (am_rs rfl (ok_iconst dd_7_14 ic_0 rfl) (am_rs rfl (ok_pf dd_7_15 rfl am_ck7 (by decide) (Or.inl w_201) (Or.inl rfl) rfl) (am_rz))))))))
theorem kb_7_2 : am_row mi_7 16 kr_7_2 := am_rn rfl (am_rn rfl (am_rs rfl (ok_aload_n (k := 0) dd_7_18 rfl rfl) (am_rs rfl (ok_bipush dd_7_19 bi_m4 rfl) (am_rn rfl (am_rs rfl (ok_pf dd_7_21 rfl am_ck7 (by decide) (Or.inl w_202) (Or.inl rfl) rfl) (am_rn rfl (am_rn rfl (am_rz))))))))
theorem kb_7_3 : am_row mi_7 24 kr_7_3 := am_rs rfl (ok_aload_n (k := 0) dd_7_24 rfl rfl) (am_rs rfl (ok_bipush dd_7_25 bi_m4 rfl) (am_rn rfl (am_rs rfl (ok_pf dd_7_27 rfl am_ck7 (by decide) (Or.inl w_204) (Or.inl rfl) rfl) (am_rn rfl (am_rn rfl (am_rs rfl (ok_vret dd_7_30 rfl) (am_rz)))))))
theorem ck_7 : am_rows mi_7 0 cd_7 := am_bs rfl kb_7_0 (am_bs rfl kb_7_1 (am_bs rfl kb_7_2 (am_bs rfl kb_7_3 (am_bz))))
/-- OverAndBack$Learning.<init>(LOverAndBack$Screen;LOverAndBack$Facts;)V -/
noncomputable def kr_8_0 : List (Option am_Op) := [some (am_ald0 0 1), some (am_co 4), none, none, some (am_ald0 0 5), some (am_psh (.retAddr 4096) 8), none, none]
noncomputable def kr_8_1 : List (Option am_Op) := [some (am_nwa 0 10), none, some (am_pf 3 0 2 13), none, none, some (am_ald0 0 14), some (am_psh (.retAddr 0) 15), some (am_pf 3 3 0 18)]
noncomputable def kr_8_2 : List (Option am_Op) := [none, none, some (am_ald0 0 19), some (am_psh (.retAddr 0) 20), some (am_pf 3 4 0 23), none, none, some (am_ald0 0 24)]
noncomputable def kr_8_3 : List (Option am_Op) := [some (am_psh (.retAddr 0) 25), some (am_pf 3 5 0 28), none, none, some (am_ald0 0 29), some (am_psh (.retAddr 0) 30), some (am_pf 3 6 0 33), none]
noncomputable def kr_8_4 : List (Option am_Op) := [none, some (am_ald0 0 34), some (am_psh (.retAddr 4294967292) 36), none, some (am_pf 3 7 0 39), none, none, some (am_ald0 0 40)]
noncomputable def kr_8_5 : List (Option am_Op) := [some (am_psh (.retAddr 4294967292) 42), none, some (am_pf 3 8 0 45), none, none, some (am_ald0 0 46), some (am_psh (.retAddr 4294967292) 48), none]
noncomputable def kr_8_6 : List (Option am_Op) := [some (am_pf 3 9 0 51), none, none, some (am_ald0 0 52), some (am_psh (.retAddr 0) 53), some (am_pf 3 10 0 56), none, none]
noncomputable def kr_8_7 : List (Option am_Op) := [some (am_ald0 0 57), some (am_ald0 1 58), some (am_pf 3 1 2 61), none, none, some (am_ald0 0 62), some (am_ald0 2 63), some (am_pf 3 2 2 66)]
noncomputable def kr_8_8 : List (Option am_Op) := [none, none, some (am_ald0 0 67), some (am_gf 3 0 70), none, none, some (am_psh (.retAddr 99) 72), none]
noncomputable def kr_8_9 : List (Option am_Op) := [some (am_cs 9 2 75), none, none, some (am_vret)]
noncomputable def cd_8 : am_Cd := [kr_8_0, kr_8_1, kr_8_2, kr_8_3, kr_8_4, kr_8_5, kr_8_6, kr_8_7, kr_8_8, kr_8_9]
theorem dd_8_0 : decode prog_5_method_1_code 0 = .ok (.aload_n 0, 1) := by decide +kernel
theorem dd_8_1 : decode prog_5_method_1_code 1 = .ok (.invokespecial 3, 3) := by decide +kernel
theorem dd_8_4 : decode prog_5_method_1_code 4 = .ok (.aload_n 0, 1) := by decide +kernel
theorem dd_8_5 : decode prog_5_method_1_code 5 = .ok (.sipush 4096, 3) := by decide +kernel
theorem dd_8_8 : decode prog_5_method_1_code 8 = .ok (.newarray .int, 2) := by decide +kernel
theorem dd_8_10 : decode prog_5_method_1_code 10 = .ok (.putfield 11, 3) := by decide +kernel
theorem dd_8_13 : decode prog_5_method_1_code 13 = .ok (.aload_n 0, 1) := by decide +kernel
theorem dd_8_14 : decode prog_5_method_1_code 14 = .ok (.iconst 0, 1) := by decide +kernel
theorem dd_8_15 : decode prog_5_method_1_code 15 = .ok (.putfield 15, 3) := by decide +kernel
theorem dd_8_18 : decode prog_5_method_1_code 18 = .ok (.aload_n 0, 1) := by decide +kernel
theorem dd_8_19 : decode prog_5_method_1_code 19 = .ok (.iconst 0, 1) := by decide +kernel
theorem dd_8_20 : decode prog_5_method_1_code 20 = .ok (.putfield 19, 3) := by decide +kernel
theorem dd_8_23 : decode prog_5_method_1_code 23 = .ok (.aload_n 0, 1) := by decide +kernel
theorem dd_8_24 : decode prog_5_method_1_code 24 = .ok (.iconst 0, 1) := by decide +kernel
theorem dd_8_25 : decode prog_5_method_1_code 25 = .ok (.putfield 22, 3) := by decide +kernel
theorem dd_8_28 : decode prog_5_method_1_code 28 = .ok (.aload_n 0, 1) := by decide +kernel
theorem dd_8_29 : decode prog_5_method_1_code 29 = .ok (.iconst 0, 1) := by decide +kernel
theorem dd_8_30 : decode prog_5_method_1_code 30 = .ok (.putfield 25, 3) := by decide +kernel
theorem dd_8_33 : decode prog_5_method_1_code 33 = .ok (.aload_n 0, 1) := by decide +kernel
theorem dd_8_34 : decode prog_5_method_1_code 34 = .ok (.bipush (-4), 2) := by decide +kernel
theorem dd_8_36 : decode prog_5_method_1_code 36 = .ok (.putfield 28, 3) := by decide +kernel
theorem dd_8_39 : decode prog_5_method_1_code 39 = .ok (.aload_n 0, 1) := by decide +kernel
theorem dd_8_40 : decode prog_5_method_1_code 40 = .ok (.bipush (-4), 2) := by decide +kernel
theorem dd_8_42 : decode prog_5_method_1_code 42 = .ok (.putfield 31, 3) := by decide +kernel
theorem dd_8_45 : decode prog_5_method_1_code 45 = .ok (.aload_n 0, 1) := by decide +kernel
theorem dd_8_46 : decode prog_5_method_1_code 46 = .ok (.bipush (-4), 2) := by decide +kernel
theorem dd_8_48 : decode prog_5_method_1_code 48 = .ok (.putfield 34, 3) := by decide +kernel
theorem dd_8_51 : decode prog_5_method_1_code 51 = .ok (.aload_n 0, 1) := by decide +kernel
theorem dd_8_52 : decode prog_5_method_1_code 52 = .ok (.iconst 0, 1) := by decide +kernel
theorem dd_8_53 : decode prog_5_method_1_code 53 = .ok (.putfield 37, 3) := by decide +kernel
theorem dd_8_56 : decode prog_5_method_1_code 56 = .ok (.aload_n 0, 1) := by decide +kernel
theorem dd_8_57 : decode prog_5_method_1_code 57 = .ok (.aload_n 1, 1) := by decide +kernel
theorem dd_8_58 : decode prog_5_method_1_code 58 = .ok (.putfield 40, 3) := by decide +kernel
theorem dd_8_61 : decode prog_5_method_1_code 61 = .ok (.aload_n 0, 1) := by decide +kernel
theorem dd_8_62 : decode prog_5_method_1_code 62 = .ok (.aload_n 2, 1) := by decide +kernel
theorem dd_8_63 : decode prog_5_method_1_code 63 = .ok (.putfield 44, 3) := by decide +kernel
theorem dd_8_66 : decode prog_5_method_1_code 66 = .ok (.aload_n 0, 1) := by decide +kernel
theorem dd_8_67 : decode prog_5_method_1_code 67 = .ok (.getfield 11, 3) := by decide +kernel
theorem dd_8_70 : decode prog_5_method_1_code 70 = .ok (.bipush 99, 2) := by decide +kernel
theorem dd_8_72 : decode prog_5_method_1_code 72 = .ok (.invokestatic 48, 3) := by decide +kernel
theorem dd_8_75 : decode prog_5_method_1_code 75 = .ok (.return_, 1) := by decide +kernel
theorem kb_8_0 : am_row mi_8 0 kr_8_0 := am_rs rfl (ok_aload_n (k := 0) dd_8_0 rfl rfl) (am_rs rfl (ok_co dd_8_1 rfl w_220 w_28 w_29 ⟨by decide, by decide⟩) (am_rn rfl (am_rn rfl (am_rs rfl (ok_aload_n (k := 0) dd_8_4 rfl rfl) (am_rs rfl (ok_sipush dd_8_5 si_4096 rfl) (am_rn rfl (am_rn rfl (am_rz))))))))
theorem kb_8_1 : am_row mi_8 8 kr_8_1 := am_rs rfl (ok_nwa (at' := .int) dd_8_8 rfl (Or.inl ⟨rfl, rfl⟩) w_44) (am_rn rfl (am_rs rfl (ok_pf dd_8_10 rfl am_ck3 (by decide) (Or.inl w_224) (Or.inr ⟨rfl, rfl, rfl, w_224⟩) rfl) (am_rn rfl (am_rn rfl (am_rs rfl (ok_aload_n (k := 0) dd_8_13 rfl rfl) (am_rs rfl (ok_iconst dd_8_14 ic_0 rfl) (am_rs rfl (ok_pf dd_8_15 rfl am_ck3 (by decide) (Or.inl w_227) (Or.inl rfl) rfl) (am_rz))))))))
theorem kb_8_2 : am_row mi_8 16 kr_8_2 := am_rn rfl (am_rn rfl (am_rs rfl (ok_aload_n (k := 0) dd_8_18 rfl rfl) (am_rs rfl (ok_iconst dd_8_19 ic_0 rfl) (am_rs rfl (ok_pf dd_8_20 rfl am_ck3 (by decide) (Or.inl w_228) (Or.inl rfl) rfl) (am_rn rfl (am_rn rfl (am_rs rfl (ok_aload_n (k := 0) dd_8_23 rfl rfl) (am_rz))))))))
theorem kb_8_3 : am_row mi_8 24 kr_8_3 := am_rs rfl (ok_iconst dd_8_24 ic_0 rfl) (am_rs rfl (ok_pf dd_8_25 rfl am_ck3 (by decide) (Or.inl w_229) (Or.inl rfl) rfl) (am_rn rfl (am_rn rfl (am_rs rfl (ok_aload_n (k := 0) dd_8_28 rfl rfl) (am_rs rfl (ok_iconst dd_8_29 ic_0 rfl) (am_rs rfl (ok_pf dd_8_30 rfl am_ck3 (by decide) (Or.inl w_230) (Or.inl rfl) rfl) (am_rn rfl (am_rz))))))))
theorem kb_8_4 : am_row mi_8 32 kr_8_4 := am_rn rfl (am_rs rfl (ok_aload_n (k := 0) dd_8_33 rfl rfl) (am_rs rfl (ok_bipush dd_8_34 bi_m4 rfl) (am_rn rfl (am_rs rfl (ok_pf dd_8_36 rfl am_ck3 (by decide) (Or.inl w_231) (Or.inl rfl) rfl) (am_rn rfl (am_rn rfl (am_rs rfl (ok_aload_n (k := 0) dd_8_39 rfl rfl) (am_rz))))))))
theorem kb_8_5 : am_row mi_8 40 kr_8_5 := am_rs rfl (ok_bipush dd_8_40 bi_m4 rfl) (am_rn rfl (am_rs rfl (ok_pf dd_8_42 rfl am_ck3 (by decide) (Or.inl w_233) (Or.inl rfl) rfl) (am_rn rfl (am_rn rfl (am_rs rfl (ok_aload_n (k := 0) dd_8_45 rfl rfl) (am_rs rfl (ok_bipush dd_8_46 bi_m4 rfl) (am_rn rfl (am_rz))))))))
theorem kb_8_6 : am_row mi_8 48 kr_8_6 := am_rs rfl (ok_pf dd_8_48 rfl am_ck3 (by decide) (Or.inl w_235) (Or.inl rfl) rfl) (am_rn rfl (am_rn rfl (am_rs rfl (ok_aload_n (k := 0) dd_8_51 rfl rfl) (am_rs rfl (ok_iconst dd_8_52 ic_0 rfl) (am_rs rfl (ok_pf dd_8_53 rfl am_ck3 (by decide) (Or.inl w_237) (Or.inl rfl) rfl) (am_rn rfl (am_rn rfl (am_rz))))))))
theorem kb_8_7 : am_row mi_8 56 kr_8_7 := am_rs rfl (ok_aload_n (k := 0) dd_8_56 rfl rfl) (am_rs rfl (ok_aload_n (k := 1) dd_8_57 rfl rfl) (am_rs rfl (ok_pf dd_8_58 rfl am_ck3 (by decide) (Or.inl w_225) (Or.inr ⟨rfl, rfl, rfl, w_225⟩) rfl) (am_rn rfl (am_rn rfl (am_rs rfl (ok_aload_n (k := 0) dd_8_61 rfl rfl) (am_rs rfl (ok_aload_n (k := 2) dd_8_62 rfl rfl) (am_rs rfl (ok_pf dd_8_63 rfl am_ck3 (by decide) (Or.inl w_226) (Or.inr ⟨rfl, rfl, rfl, w_226⟩) rfl) (am_rz))))))))
theorem kb_8_8 : am_row mi_8 64 kr_8_8 := am_rn rfl (am_rn rfl (am_rs rfl (ok_aload_n (k := 0) dd_8_66 rfl rfl) (am_rs rfl (ok_gf dd_8_67 rfl am_ck3 (by decide) (Or.inl w_224)) (am_rn rfl (am_rn rfl (am_rs rfl (ok_bipush dd_8_70 bi_99 rfl) (am_rn rfl (am_rz))))))))
theorem kb_8_9 : am_row mi_8 72 kr_8_9 := am_rs rfl (ok_cs (M' := mi_9) dd_8_72 rfl rfl w_221 w_222 ⟨lk_9.1, lk_9.2.1, lk_9.2.2, by decide, by decide⟩) (am_rn rfl (am_rn rfl (am_rs rfl (ok_vret dd_8_75 rfl) (am_rz))))
theorem ck_8 : am_rows mi_8 0 cd_8 := am_bs rfl kb_8_0 (am_bs rfl kb_8_1 (am_bs rfl kb_8_2 (am_bs rfl kb_8_3 (am_bs rfl kb_8_4 (am_bs rfl kb_8_5 (am_bs rfl kb_8_6 (am_bs rfl kb_8_7 (am_bs rfl kb_8_8 (am_bs rfl kb_8_9 (am_bz))))))))))
/-- java/util/Arrays.fill([II)V -/
noncomputable def kr_9_0 : List (Option am_Op) := [some (am_psh (.retAddr 0) 1), some (am_ist 2 2), some (am_ald0 0 3), some (am_len 4), some (am_ist 3 5), some (am_ild 2 6), some (am_ild 3 7), some (am_br2 .ge 20 10)]
noncomputable def kr_9_1 : List (Option am_Op) := [none, none, some (am_ald0 0 11), some (am_ild 2 12), some (am_ild 1 13), some (am_ast 0 (fun v => v) 14), some (am_inc 2 1 17), none]
noncomputable def kr_9_2 : List (Option am_Op) := [none, some (am_jmp 5), none, none, some (am_vret)]
noncomputable def cd_9 : am_Cd := [kr_9_0, kr_9_1, kr_9_2]
theorem dd_9_0 : decode prog_21_method_103_code 0 = .ok (.iconst 0, 1) := by decide +kernel
theorem dd_9_1 : decode prog_21_method_103_code 1 = .ok (.istore_n 2, 1) := by decide +kernel
theorem dd_9_2 : decode prog_21_method_103_code 2 = .ok (.aload_n 0, 1) := by decide +kernel
theorem dd_9_3 : decode prog_21_method_103_code 3 = .ok (.arraylength, 1) := by decide +kernel
theorem dd_9_4 : decode prog_21_method_103_code 4 = .ok (.istore_n 3, 1) := by decide +kernel
theorem dd_9_5 : decode prog_21_method_103_code 5 = .ok (.iload_n 2, 1) := by decide +kernel
theorem dd_9_6 : decode prog_21_method_103_code 6 = .ok (.iload_n 3, 1) := by decide +kernel
theorem dd_9_7 : decode prog_21_method_103_code 7 = .ok (.if_icmp .ge 13, 3) := by decide +kernel
theorem dd_9_10 : decode prog_21_method_103_code 10 = .ok (.aload_n 0, 1) := by decide +kernel
theorem dd_9_11 : decode prog_21_method_103_code 11 = .ok (.iload_n 2, 1) := by decide +kernel
theorem dd_9_12 : decode prog_21_method_103_code 12 = .ok (.iload_n 1, 1) := by decide +kernel
theorem dd_9_13 : decode prog_21_method_103_code 13 = .ok (.iastore, 1) := by decide +kernel
theorem dd_9_14 : decode prog_21_method_103_code 14 = .ok (.iinc 2 1, 3) := by decide +kernel
theorem dd_9_17 : decode prog_21_method_103_code 17 = .ok (.goto (-12), 3) := by decide +kernel
theorem dd_9_20 : decode prog_21_method_103_code 20 = .ok (.return_, 1) := by decide +kernel
theorem kb_9_0 : am_row mi_9 0 kr_9_0 := am_rs rfl (ok_iconst dd_9_0 ic_0 rfl) (am_rs rfl (ok_istore_n (k := 2) dd_9_1 rfl rfl (by decide)) (am_rs rfl (ok_aload_n (k := 0) dd_9_2 rfl rfl) (am_rs rfl (ok_len dd_9_3 rfl) (am_rs rfl (ok_istore_n (k := 3) dd_9_4 rfl rfl (by decide)) (am_rs rfl (ok_iload_n (k := 2) dd_9_5 rfl rfl) (am_rs rfl (ok_iload_n (k := 3) dd_9_6 rfl rfl) (am_rs rfl (ok_icmp dd_9_7 (by decide) rfl) (am_rz))))))))
theorem kb_9_1 : am_row mi_9 8 kr_9_1 := am_rn rfl (am_rn rfl (am_rs rfl (ok_aload_n (k := 0) dd_9_10 rfl rfl) (am_rs rfl (ok_iload_n (k := 2) dd_9_11 rfl rfl) (am_rs rfl (ok_iload_n (k := 1) dd_9_12 rfl rfl) (am_rs rfl (ok_iast dd_9_13 rfl) (am_rs rfl (ok_iinc dd_9_14 ic_1 rfl (by decide)) (am_rn rfl (am_rz))))))))
theorem kb_9_2 : am_row mi_9 16 kr_9_2 := am_rn rfl (am_rs rfl (ok_goto dd_9_17 (by decide)) (am_rn rfl (am_rn rfl (am_rs rfl (ok_vret dd_9_20 rfl) (am_rz)))))
theorem ck_9 : am_rows mi_9 0 cd_9 := am_bs rfl kb_9_0 (am_bs rfl kb_9_1 (am_bs rfl kb_9_2 (am_bz)))
/-- OverAndBack$Box.<init>()V -/
noncomputable def kr_10_0 : List (Option am_Op) := [some (am_ald0 0 1), some (am_co 4), none, none, some (am_ald0 0 5), some (am_psh (.retAddr 24) 7), none, some (am_nwa 0 9)]
noncomputable def kr_10_1 : List (Option am_Op) := [none, some (am_pf 0 0 2 12), none, none, some (am_ald0 0 13), some (am_psh (.retAddr 24) 15), none, some (am_nwa 0 17)]
noncomputable def kr_10_2 : List (Option am_Op) := [none, some (am_pf 0 1 2 20), none, none, some (am_ald0 0 21), some (am_psh (.retAddr 6) 23), none, some (am_nwa 0 25)]
noncomputable def kr_10_3 : List (Option am_Op) := [none, some (am_pf 0 2 2 28), none, none, some (am_ald0 0 29), some (am_psh (.retAddr 6) 31), none, some (am_nwa 0 33)]
noncomputable def kr_10_4 : List (Option am_Op) := [none, some (am_pf 0 3 2 36), none, none, some (am_ald0 0 37), some (am_psh (.retAddr 4) 38), some (am_nwa 0 40), none]
noncomputable def kr_10_5 : List (Option am_Op) := [some (am_pf 0 4 2 43), none, none, some (am_ald0 0 44), some (am_psh (.retAddr 4) 45), some (am_nwa 0 47), none, some (am_pf 0 5 2 50)]
noncomputable def kr_10_6 : List (Option am_Op) := [none, none, some (am_ald0 0 51), some (am_psh (.retAddr 0) 52), some (am_pf 0 6 0 55), none, none, some (am_ald0 0 56)]
noncomputable def kr_10_7 : List (Option am_Op) := [some (am_psh (.retAddr 4294967292) 58), none, some (am_pf 0 7 0 61), none, none, some (am_ald0 0 62), some (am_psh (.retAddr 0) 63), some (am_pf 0 8 1 66)]
noncomputable def kr_10_8 : List (Option am_Op) := [none, none, some (am_vret)]
noncomputable def cd_10 : am_Cd := [kr_10_0, kr_10_1, kr_10_2, kr_10_3, kr_10_4, kr_10_5, kr_10_6, kr_10_7, kr_10_8]
theorem dd_10_0 : decode prog_2_method_1_code 0 = .ok (.aload_n 0, 1) := by decide +kernel
theorem dd_10_1 : decode prog_2_method_1_code 1 = .ok (.invokespecial 3, 3) := by decide +kernel
theorem dd_10_4 : decode prog_2_method_1_code 4 = .ok (.aload_n 0, 1) := by decide +kernel
theorem dd_10_5 : decode prog_2_method_1_code 5 = .ok (.bipush 24, 2) := by decide +kernel
theorem dd_10_7 : decode prog_2_method_1_code 7 = .ok (.newarray .int, 2) := by decide +kernel
theorem dd_10_9 : decode prog_2_method_1_code 9 = .ok (.putfield 11, 3) := by decide +kernel
theorem dd_10_12 : decode prog_2_method_1_code 12 = .ok (.aload_n 0, 1) := by decide +kernel
theorem dd_10_13 : decode prog_2_method_1_code 13 = .ok (.bipush 24, 2) := by decide +kernel
theorem dd_10_15 : decode prog_2_method_1_code 15 = .ok (.newarray .int, 2) := by decide +kernel
theorem dd_10_17 : decode prog_2_method_1_code 17 = .ok (.putfield 15, 3) := by decide +kernel
theorem dd_10_20 : decode prog_2_method_1_code 20 = .ok (.aload_n 0, 1) := by decide +kernel
theorem dd_10_21 : decode prog_2_method_1_code 21 = .ok (.bipush 6, 2) := by decide +kernel
theorem dd_10_23 : decode prog_2_method_1_code 23 = .ok (.newarray .int, 2) := by decide +kernel
theorem dd_10_25 : decode prog_2_method_1_code 25 = .ok (.putfield 18, 3) := by decide +kernel
theorem dd_10_28 : decode prog_2_method_1_code 28 = .ok (.aload_n 0, 1) := by decide +kernel
theorem dd_10_29 : decode prog_2_method_1_code 29 = .ok (.bipush 6, 2) := by decide +kernel
theorem dd_10_31 : decode prog_2_method_1_code 31 = .ok (.newarray .int, 2) := by decide +kernel
theorem dd_10_33 : decode prog_2_method_1_code 33 = .ok (.putfield 21, 3) := by decide +kernel
theorem dd_10_36 : decode prog_2_method_1_code 36 = .ok (.aload_n 0, 1) := by decide +kernel
theorem dd_10_37 : decode prog_2_method_1_code 37 = .ok (.iconst 4, 1) := by decide +kernel
theorem dd_10_38 : decode prog_2_method_1_code 38 = .ok (.newarray .int, 2) := by decide +kernel
theorem dd_10_40 : decode prog_2_method_1_code 40 = .ok (.putfield 24, 3) := by decide +kernel
theorem dd_10_43 : decode prog_2_method_1_code 43 = .ok (.aload_n 0, 1) := by decide +kernel
theorem dd_10_44 : decode prog_2_method_1_code 44 = .ok (.iconst 4, 1) := by decide +kernel
theorem dd_10_45 : decode prog_2_method_1_code 45 = .ok (.newarray .int, 2) := by decide +kernel
theorem dd_10_47 : decode prog_2_method_1_code 47 = .ok (.putfield 27, 3) := by decide +kernel
theorem dd_10_50 : decode prog_2_method_1_code 50 = .ok (.aload_n 0, 1) := by decide +kernel
theorem dd_10_51 : decode prog_2_method_1_code 51 = .ok (.iconst 0, 1) := by decide +kernel
theorem dd_10_52 : decode prog_2_method_1_code 52 = .ok (.putfield 30, 3) := by decide +kernel
theorem dd_10_55 : decode prog_2_method_1_code 55 = .ok (.aload_n 0, 1) := by decide +kernel
theorem dd_10_56 : decode prog_2_method_1_code 56 = .ok (.bipush (-4), 2) := by decide +kernel
theorem dd_10_58 : decode prog_2_method_1_code 58 = .ok (.putfield 34, 3) := by decide +kernel
theorem dd_10_61 : decode prog_2_method_1_code 61 = .ok (.aload_n 0, 1) := by decide +kernel
theorem dd_10_62 : decode prog_2_method_1_code 62 = .ok (.iconst 0, 1) := by decide +kernel
theorem dd_10_63 : decode prog_2_method_1_code 63 = .ok (.putfield 37, 3) := by decide +kernel
theorem dd_10_66 : decode prog_2_method_1_code 66 = .ok (.return_, 1) := by decide +kernel
theorem kb_10_0 : am_row mi_10 0 kr_10_0 := am_rs rfl (ok_aload_n (k := 0) dd_10_0 rfl rfl) (am_rs rfl (ok_co dd_10_1 rfl w_266 w_28 w_29 ⟨by decide, by decide⟩) (am_rn rfl (am_rn rfl (am_rs rfl (ok_aload_n (k := 0) dd_10_4 rfl rfl) (am_rs rfl (ok_bipush dd_10_5 bi_24 rfl) (am_rn rfl (am_rs rfl (ok_nwa (at' := .int) dd_10_7 rfl (Or.inl ⟨rfl, rfl⟩) w_44) (am_rz))))))))
theorem kb_10_1 : am_row mi_10 8 kr_10_1 := am_rn rfl (am_rs rfl (ok_pf dd_10_9 rfl am_ck0 (by decide) (Or.inl w_267) (Or.inr ⟨rfl, rfl, rfl, w_267⟩) rfl) (am_rn rfl (am_rn rfl (am_rs rfl (ok_aload_n (k := 0) dd_10_12 rfl rfl) (am_rs rfl (ok_bipush dd_10_13 bi_24 rfl) (am_rn rfl (am_rs rfl (ok_nwa (at' := .int) dd_10_15 rfl (Or.inl ⟨rfl, rfl⟩) w_44) (am_rz))))))))
theorem kb_10_2 : am_row mi_10 16 kr_10_2 := am_rn rfl (am_rs rfl (ok_pf dd_10_17 rfl am_ck0 (by decide) (Or.inl w_268) (Or.inr ⟨rfl, rfl, rfl, w_268⟩) rfl) (am_rn rfl (am_rn rfl (am_rs rfl (ok_aload_n (k := 0) dd_10_20 rfl rfl) (am_rs rfl (ok_bipush dd_10_21 bi_6 rfl) (am_rn rfl (am_rs rfl (ok_nwa (at' := .int) dd_10_23 rfl (Or.inl ⟨rfl, rfl⟩) w_44) (am_rz))))))))
theorem kb_10_3 : am_row mi_10 24 kr_10_3 := am_rn rfl (am_rs rfl (ok_pf dd_10_25 rfl am_ck0 (by decide) (Or.inl w_269) (Or.inr ⟨rfl, rfl, rfl, w_269⟩) rfl) (am_rn rfl (am_rn rfl (am_rs rfl (ok_aload_n (k := 0) dd_10_28 rfl rfl) (am_rs rfl (ok_bipush dd_10_29 bi_6 rfl) (am_rn rfl (am_rs rfl (ok_nwa (at' := .int) dd_10_31 rfl (Or.inl ⟨rfl, rfl⟩) w_44) (am_rz))))))))
theorem kb_10_4 : am_row mi_10 32 kr_10_4 := am_rn rfl (am_rs rfl (ok_pf dd_10_33 rfl am_ck0 (by decide) (Or.inl w_270) (Or.inr ⟨rfl, rfl, rfl, w_270⟩) rfl) (am_rn rfl (am_rn rfl (am_rs rfl (ok_aload_n (k := 0) dd_10_36 rfl rfl) (am_rs rfl (ok_iconst dd_10_37 ic_4 rfl) (am_rs rfl (ok_nwa (at' := .int) dd_10_38 rfl (Or.inl ⟨rfl, rfl⟩) w_44) (am_rn rfl (am_rz))))))))
theorem kb_10_5 : am_row mi_10 40 kr_10_5 := am_rs rfl (ok_pf dd_10_40 rfl am_ck0 (by decide) (Or.inl w_271) (Or.inr ⟨rfl, rfl, rfl, w_271⟩) rfl) (am_rn rfl (am_rn rfl (am_rs rfl (ok_aload_n (k := 0) dd_10_43 rfl rfl) (am_rs rfl (ok_iconst dd_10_44 ic_4 rfl) (am_rs rfl (ok_nwa (at' := .int) dd_10_45 rfl (Or.inl ⟨rfl, rfl⟩) w_44) (am_rn rfl (am_rs rfl (ok_pf dd_10_47 rfl am_ck0 (by decide) (Or.inl w_272) (Or.inr ⟨rfl, rfl, rfl, w_272⟩) rfl) (am_rz))))))))
theorem kb_10_6 : am_row mi_10 48 kr_10_6 := am_rn rfl (am_rn rfl (am_rs rfl (ok_aload_n (k := 0) dd_10_50 rfl rfl) (am_rs rfl (ok_iconst dd_10_51 ic_0 rfl) (am_rs rfl (ok_pf dd_10_52 rfl am_ck0 (by decide) (Or.inl w_273) (Or.inl rfl) rfl) (am_rn rfl (am_rn rfl (am_rs rfl (ok_aload_n (k := 0) dd_10_55 rfl rfl) (am_rz))))))))
theorem kb_10_7 : am_row mi_10 56 kr_10_7 := am_rs rfl (ok_bipush dd_10_56 bi_m4 rfl) (am_rn rfl (am_rs rfl (ok_pf dd_10_58 rfl am_ck0 (by decide) (Or.inl w_274) (Or.inl rfl) rfl) (am_rn rfl (am_rn rfl (am_rs rfl (ok_aload_n (k := 0) dd_10_61 rfl rfl) (am_rs rfl (ok_iconst dd_10_62 ic_0 rfl) (am_rs rfl (ok_pf dd_10_63 rfl am_ck0 (by decide) (Or.inl w_276) (Or.inl rfl) rfl) (am_rz))))))))
theorem kb_10_8 : am_row mi_10 64 kr_10_8 := am_rn rfl (am_rn rfl (am_rs rfl (ok_vret dd_10_66 rfl) (am_rz)))
theorem ck_10 : am_rows mi_10 0 cd_10 := am_bs rfl kb_10_0 (am_bs rfl kb_10_1 (am_bs rfl kb_10_2 (am_bs rfl kb_10_3 (am_bs rfl kb_10_4 (am_bs rfl kb_10_5 (am_bs rfl kb_10_6 (am_bs rfl kb_10_7 (am_bs rfl kb_10_8 (am_bz)))))))))
/-- OverAndBack$Plan.<init>()V -/
noncomputable def kr_11_0 : List (Option am_Op) := [some (am_ald0 0 1), some (am_co 4), none, none, some (am_ald0 0 5), some (am_psh (.retAddr 9) 7), none, some (am_nwa 0 9)]
noncomputable def kr_11_1 : List (Option am_Op) := [none, some (am_pf 5 0 2 12), none, none, some (am_ald0 0 13), some (am_psh (.retAddr 9) 15), none, some (am_nwa 0 17)]
noncomputable def kr_11_2 : List (Option am_Op) := [none, some (am_pf 5 1 2 20), none, none, some (am_ald0 0 21), some (am_psh (.retAddr 0) 22), some (am_pf 5 2 0 25), none]
noncomputable def kr_11_3 : List (Option am_Op) := [none, some (am_ald0 0 26), some (am_psh (.retAddr 0) 27), some (am_pf 5 3 0 30), none, none, some (am_vret)]
noncomputable def cd_11 : am_Cd := [kr_11_0, kr_11_1, kr_11_2, kr_11_3]
theorem dd_11_0 : decode prog_7_method_1_code 0 = .ok (.aload_n 0, 1) := by decide +kernel
theorem dd_11_1 : decode prog_7_method_1_code 1 = .ok (.invokespecial 3, 3) := by decide +kernel
theorem dd_11_4 : decode prog_7_method_1_code 4 = .ok (.aload_n 0, 1) := by decide +kernel
theorem dd_11_5 : decode prog_7_method_1_code 5 = .ok (.bipush 9, 2) := by decide +kernel
theorem dd_11_7 : decode prog_7_method_1_code 7 = .ok (.newarray .int, 2) := by decide +kernel
theorem dd_11_9 : decode prog_7_method_1_code 9 = .ok (.putfield 9, 3) := by decide +kernel
theorem dd_11_12 : decode prog_7_method_1_code 12 = .ok (.aload_n 0, 1) := by decide +kernel
theorem dd_11_13 : decode prog_7_method_1_code 13 = .ok (.bipush 9, 2) := by decide +kernel
theorem dd_11_15 : decode prog_7_method_1_code 15 = .ok (.newarray .int, 2) := by decide +kernel
theorem dd_11_17 : decode prog_7_method_1_code 17 = .ok (.putfield 15, 3) := by decide +kernel
theorem dd_11_20 : decode prog_7_method_1_code 20 = .ok (.aload_n 0, 1) := by decide +kernel
theorem dd_11_21 : decode prog_7_method_1_code 21 = .ok (.iconst 0, 1) := by decide +kernel
theorem dd_11_22 : decode prog_7_method_1_code 22 = .ok (.putfield 18, 3) := by decide +kernel
theorem dd_11_25 : decode prog_7_method_1_code 25 = .ok (.aload_n 0, 1) := by decide +kernel
theorem dd_11_26 : decode prog_7_method_1_code 26 = .ok (.iconst 0, 1) := by decide +kernel
theorem dd_11_27 : decode prog_7_method_1_code 27 = .ok (.putfield 22, 3) := by decide +kernel
theorem dd_11_30 : decode prog_7_method_1_code 30 = .ok (.return_, 1) := by decide +kernel
theorem kb_11_0 : am_row mi_11 0 kr_11_0 := am_rs rfl (ok_aload_n (k := 0) dd_11_0 rfl rfl) (am_rs rfl (ok_co dd_11_1 rfl w_302 w_28 w_29 ⟨by decide, by decide⟩) (am_rn rfl (am_rn rfl (am_rs rfl (ok_aload_n (k := 0) dd_11_4 rfl rfl) (am_rs rfl (ok_bipush dd_11_5 bi_9 rfl) (am_rn rfl (am_rs rfl (ok_nwa (at' := .int) dd_11_7 rfl (Or.inl ⟨rfl, rfl⟩) w_44) (am_rz))))))))
theorem kb_11_1 : am_row mi_11 8 kr_11_1 := am_rn rfl (am_rs rfl (ok_pf dd_11_9 rfl am_ck5 (by decide) (Or.inl w_303) (Or.inr ⟨rfl, rfl, rfl, w_303⟩) rfl) (am_rn rfl (am_rn rfl (am_rs rfl (ok_aload_n (k := 0) dd_11_12 rfl rfl) (am_rs rfl (ok_bipush dd_11_13 bi_9 rfl) (am_rn rfl (am_rs rfl (ok_nwa (at' := .int) dd_11_15 rfl (Or.inl ⟨rfl, rfl⟩) w_44) (am_rz))))))))
theorem kb_11_2 : am_row mi_11 16 kr_11_2 := am_rn rfl (am_rs rfl (ok_pf dd_11_17 rfl am_ck5 (by decide) (Or.inl w_304) (Or.inr ⟨rfl, rfl, rfl, w_304⟩) rfl) (am_rn rfl (am_rn rfl (am_rs rfl (ok_aload_n (k := 0) dd_11_20 rfl rfl) (am_rs rfl (ok_iconst dd_11_21 ic_0 rfl) (am_rs rfl (ok_pf dd_11_22 rfl am_ck5 (by decide) (Or.inl w_305) (Or.inl rfl) rfl) (am_rn rfl (am_rz))))))))
theorem kb_11_3 : am_row mi_11 24 kr_11_3 := am_rn rfl (am_rs rfl (ok_aload_n (k := 0) dd_11_25 rfl rfl) (am_rs rfl (ok_iconst dd_11_26 ic_0 rfl) (am_rs rfl (ok_pf dd_11_27 rfl am_ck5 (by decide) (Or.inl w_308) (Or.inl rfl) rfl) (am_rn rfl (am_rn rfl (am_rs rfl (ok_vret dd_11_30 rfl) (am_rz)))))))
theorem ck_11 : am_rows mi_11 0 cd_11 := am_bs rfl kb_11_0 (am_bs rfl kb_11_1 (am_bs rfl kb_11_2 (am_bs rfl kb_11_3 (am_bz))))
/-- OverAndBack$Past.<init>()V -/
noncomputable def kr_12_0 : List (Option am_Op) := [some (am_ald0 0 1), some (am_co 4), none, none, some (am_ald0 0 5), some (am_psh (.retAddr 8) 7), none, some (am_nwa 0 9)]
noncomputable def kr_12_1 : List (Option am_Op) := [none, some (am_pf 4 0 2 12), none, none, some (am_ald0 0 13), some (am_psh (.retAddr 0) 14), some (am_pf 4 1 0 17), none]
noncomputable def kr_12_2 : List (Option am_Op) := [none, some (am_vret)]
noncomputable def cd_12 : am_Cd := [kr_12_0, kr_12_1, kr_12_2]
theorem dd_12_0 : decode prog_6_method_1_code 0 = .ok (.aload_n 0, 1) := by decide +kernel
theorem dd_12_1 : decode prog_6_method_1_code 1 = .ok (.invokespecial 3, 3) := by decide +kernel
theorem dd_12_4 : decode prog_6_method_1_code 4 = .ok (.aload_n 0, 1) := by decide +kernel
theorem dd_12_5 : decode prog_6_method_1_code 5 = .ok (.bipush 8, 2) := by decide +kernel
theorem dd_12_7 : decode prog_6_method_1_code 7 = .ok (.newarray .int, 2) := by decide +kernel
theorem dd_12_9 : decode prog_6_method_1_code 9 = .ok (.putfield 9, 3) := by decide +kernel
theorem dd_12_12 : decode prog_6_method_1_code 12 = .ok (.aload_n 0, 1) := by decide +kernel
theorem dd_12_13 : decode prog_6_method_1_code 13 = .ok (.iconst 0, 1) := by decide +kernel
theorem dd_12_14 : decode prog_6_method_1_code 14 = .ok (.putfield 15, 3) := by decide +kernel
theorem dd_12_17 : decode prog_6_method_1_code 17 = .ok (.return_, 1) := by decide +kernel
theorem kb_12_0 : am_row mi_12 0 kr_12_0 := am_rs rfl (ok_aload_n (k := 0) dd_12_0 rfl rfl) (am_rs rfl (ok_co dd_12_1 rfl w_325 w_28 w_29 ⟨by decide, by decide⟩) (am_rn rfl (am_rn rfl (am_rs rfl (ok_aload_n (k := 0) dd_12_4 rfl rfl) (am_rs rfl (ok_bipush dd_12_5 bi_8 rfl) (am_rn rfl (am_rs rfl (ok_nwa (at' := .int) dd_12_7 rfl (Or.inl ⟨rfl, rfl⟩) w_44) (am_rz))))))))
theorem kb_12_1 : am_row mi_12 8 kr_12_1 := am_rn rfl (am_rs rfl (ok_pf dd_12_9 rfl am_ck4 (by decide) (Or.inl w_326) (Or.inr ⟨rfl, rfl, rfl, w_326⟩) rfl) (am_rn rfl (am_rn rfl (am_rs rfl (ok_aload_n (k := 0) dd_12_12 rfl rfl) (am_rs rfl (ok_iconst dd_12_13 ic_0 rfl) (am_rs rfl (ok_pf dd_12_14 rfl am_ck4 (by decide) (Or.inl w_327) (Or.inl rfl) rfl) (am_rn rfl (am_rz))))))))
theorem kb_12_2 : am_row mi_12 16 kr_12_2 := am_rn rfl (am_rs rfl (ok_vret dd_12_17 rfl) (am_rz))
theorem ck_12 : am_rows mi_12 0 cd_12 := am_bs rfl kb_12_0 (am_bs rfl kb_12_1 (am_bs rfl kb_12_2 (am_bz)))
/-- OverAndBack$Reader.read([CILOverAndBack$Evening;)I -/
noncomputable def kr_13_0 : List (Option am_Op) := [some (am_ald0 3 1), some (am_cv 14 0 1 4), none, none, some (am_ild 2 5), some (am_ald0 1 6), some (am_len 7), some (am_mmin 10)]
noncomputable def kr_13_1 : List (Option am_Op) := [none, none, some (am_ist 4 12), none, some (am_psh (.retAddr 0) 13), some (am_ist 5 15), none, some (am_ild 5 17)]
noncomputable def kr_13_2 : List (Option am_Op) := [none, some (am_ild 4 19), none, some (am_br2 .ge 64 22), none, none, some (am_ald0 0 23), some (am_ald0 1 24)]
noncomputable def kr_13_3 : List (Option am_Op) := [some (am_ild 4 26), none, some (am_ild 5 28), none, some (am_psh (.retAddr 1) 29), some (am_bin am_add 30), some (am_cv 17 3 6 33), none]
noncomputable def kr_13_4 : List (Option am_Op) := [none, some (am_ist 6 35), none, some (am_ild 6 37), none, some (am_ild 5 39), none, some (am_br2 .le 54 42)]
noncomputable def kr_13_5 : List (Option am_Op) := [none, none, some (am_ald0 0 43), some (am_ald0 1 44), some (am_ild 5 46), none, some (am_ald 1 47), some (am_ald0 3 48)]
noncomputable def kr_13_6 : List (Option am_Op) := [some (am_cv 22 2 6 51), none, none, some (am_br1 .ne 57 54), none, none, some (am_ild 5 56), none]
noncomputable def kr_13_7 : List (Option am_Op) := [some (am_iret), some (am_ild 6 59), none, some (am_ist 5 61), none, some (am_jmp 15), none, none]
noncomputable def kr_13_8 : List (Option am_Op) := [some (am_psh (.retAddr 4294967292) 66), none, some (am_iret)]
noncomputable def cd_13 : am_Cd := [kr_13_0, kr_13_1, kr_13_2, kr_13_3, kr_13_4, kr_13_5, kr_13_6, kr_13_7, kr_13_8]
theorem dd_13_0 : decode prog_8_method_2_code 0 = .ok (.aload_n 3, 1) := by decide +kernel
theorem dd_13_1 : decode prog_8_method_2_code 1 = .ok (.invokevirtual 19, 3) := by decide +kernel
theorem dd_13_4 : decode prog_8_method_2_code 4 = .ok (.iload_n 2, 1) := by decide +kernel
theorem dd_13_5 : decode prog_8_method_2_code 5 = .ok (.aload_n 1, 1) := by decide +kernel
theorem dd_13_6 : decode prog_8_method_2_code 6 = .ok (.arraylength, 1) := by decide +kernel
theorem dd_13_7 : decode prog_8_method_2_code 7 = .ok (.invokestatic 24, 3) := by decide +kernel
theorem dd_13_10 : decode prog_8_method_2_code 10 = .ok (.istore 4, 2) := by decide +kernel
theorem dd_13_12 : decode prog_8_method_2_code 12 = .ok (.iconst 0, 1) := by decide +kernel
theorem dd_13_13 : decode prog_8_method_2_code 13 = .ok (.istore 5, 2) := by decide +kernel
theorem dd_13_15 : decode prog_8_method_2_code 15 = .ok (.iload 5, 2) := by decide +kernel
theorem dd_13_17 : decode prog_8_method_2_code 17 = .ok (.iload 4, 2) := by decide +kernel
theorem dd_13_19 : decode prog_8_method_2_code 19 = .ok (.if_icmp .ge 45, 3) := by decide +kernel
theorem dd_13_22 : decode prog_8_method_2_code 22 = .ok (.aload_n 0, 1) := by decide +kernel
theorem dd_13_23 : decode prog_8_method_2_code 23 = .ok (.aload_n 1, 1) := by decide +kernel
theorem dd_13_24 : decode prog_8_method_2_code 24 = .ok (.iload 4, 2) := by decide +kernel
theorem dd_13_26 : decode prog_8_method_2_code 26 = .ok (.iload 5, 2) := by decide +kernel
theorem dd_13_28 : decode prog_8_method_2_code 28 = .ok (.iconst 1, 1) := by decide +kernel
theorem dd_13_29 : decode prog_8_method_2_code 29 = .ok (.iadd, 1) := by decide +kernel
theorem dd_13_30 : decode prog_8_method_2_code 30 = .ok (.invokevirtual 30, 3) := by decide +kernel
theorem dd_13_33 : decode prog_8_method_2_code 33 = .ok (.istore 6, 2) := by decide +kernel
theorem dd_13_35 : decode prog_8_method_2_code 35 = .ok (.iload 6, 2) := by decide +kernel
theorem dd_13_37 : decode prog_8_method_2_code 37 = .ok (.iload 5, 2) := by decide +kernel
theorem dd_13_39 : decode prog_8_method_2_code 39 = .ok (.if_icmp .le 15, 3) := by decide +kernel
theorem dd_13_42 : decode prog_8_method_2_code 42 = .ok (.aload_n 0, 1) := by decide +kernel
theorem dd_13_43 : decode prog_8_method_2_code 43 = .ok (.aload_n 1, 1) := by decide +kernel
theorem dd_13_44 : decode prog_8_method_2_code 44 = .ok (.iload 5, 2) := by decide +kernel
theorem dd_13_46 : decode prog_8_method_2_code 46 = .ok (.caload, 1) := by decide +kernel
theorem dd_13_47 : decode prog_8_method_2_code 47 = .ok (.aload_n 3, 1) := by decide +kernel
theorem dd_13_48 : decode prog_8_method_2_code 48 = .ok (.invokevirtual 34, 3) := by decide +kernel
theorem dd_13_51 : decode prog_8_method_2_code 51 = .ok (.ifCond .ne 6, 3) := by decide +kernel
theorem dd_13_54 : decode prog_8_method_2_code 54 = .ok (.iload 5, 2) := by decide +kernel
theorem dd_13_56 : decode prog_8_method_2_code 56 = .ok (.ireturn, 1) := by decide +kernel
theorem dd_13_57 : decode prog_8_method_2_code 57 = .ok (.iload 6, 2) := by decide +kernel
theorem dd_13_59 : decode prog_8_method_2_code 59 = .ok (.istore 5, 2) := by decide +kernel
theorem dd_13_61 : decode prog_8_method_2_code 61 = .ok (.goto (-46), 3) := by decide +kernel
theorem dd_13_64 : decode prog_8_method_2_code 64 = .ok (.bipush (-4), 2) := by decide +kernel
theorem dd_13_66 : decode prog_8_method_2_code 66 = .ok (.ireturn, 1) := by decide +kernel
theorem kb_13_0 : am_row mi_13 0 kr_13_0 := am_rs rfl (ok_aload_n (k := 3) dd_13_0 rfl rfl) (am_rs rfl (ok_cv (M' := mi_14) dd_13_1 rfl rfl w_384 w_385 w_386 ⟨lk_14.1, lk_14.2.1, lk_14.2.2, by decide, by decide⟩ rfl) (am_rn rfl (am_rn rfl (am_rs rfl (ok_iload_n (k := 2) dd_13_4 rfl rfl) (am_rs rfl (ok_aload_n (k := 1) dd_13_5 rfl rfl) (am_rs rfl (ok_len dd_13_6 rfl) (am_rs rfl (ok_mmin dd_13_7 rfl w_392 w_393 w_18 w_394 ⟨by decide, by decide⟩) (am_rz))))))))
theorem kb_13_1 : am_row mi_13 8 kr_13_1 := am_rn rfl (am_rn rfl (am_rs rfl (ok_istore dd_13_10 rfl (by decide)) (am_rn rfl (am_rs rfl (ok_iconst dd_13_12 ic_0 rfl) (am_rs rfl (ok_istore dd_13_13 rfl (by decide)) (am_rn rfl (am_rs rfl (ok_iload dd_13_15 rfl) (am_rz))))))))
theorem kb_13_2 : am_row mi_13 16 kr_13_2 := am_rn rfl (am_rs rfl (ok_iload dd_13_17 rfl) (am_rn rfl (am_rs rfl (ok_icmp dd_13_19 (by decide) rfl) (am_rn rfl (am_rn rfl (am_rs rfl (ok_aload_n (k := 0) dd_13_22 rfl rfl) (am_rs rfl (ok_aload_n (k := 1) dd_13_23 rfl rfl) (am_rz))))))))
theorem kb_13_3 : am_row mi_13 24 kr_13_3 := am_rs rfl (ok_iload dd_13_24 rfl) (am_rn rfl (am_rs rfl (ok_iload dd_13_26 rfl) (am_rn rfl (am_rs rfl (ok_iconst dd_13_28 ic_1 rfl) (am_rs rfl (ok_iadd dd_13_29 rfl) (am_rs rfl (ok_cv (M' := mi_17) dd_13_30 rfl rfl w_395 w_397 ps_17 ⟨lk_17.1, lk_17.2.1, lk_17.2.2, by decide, by decide⟩ rfl) (am_rn rfl (am_rz))))))))
theorem kb_13_4 : am_row mi_13 32 kr_13_4 := am_rn rfl (am_rs rfl (ok_istore dd_13_33 rfl (by decide)) (am_rn rfl (am_rs rfl (ok_iload dd_13_35 rfl) (am_rn rfl (am_rs rfl (ok_iload dd_13_37 rfl) (am_rn rfl (am_rs rfl (ok_icmp dd_13_39 (by decide) rfl) (am_rz))))))))
theorem kb_13_5 : am_row mi_13 40 kr_13_5 := am_rn rfl (am_rn rfl (am_rs rfl (ok_aload_n (k := 0) dd_13_42 rfl rfl) (am_rs rfl (ok_aload_n (k := 1) dd_13_43 rfl rfl) (am_rs rfl (ok_iload dd_13_44 rfl) (am_rn rfl (am_rs rfl (ok_cald dd_13_46 rfl) (am_rs rfl (ok_aload_n (k := 3) dd_13_47 rfl rfl) (am_rz))))))))
theorem kb_13_6 : am_row mi_13 48 kr_13_6 := am_rs rfl (ok_cv (M' := mi_22) dd_13_48 rfl rfl w_411 w_413 ps_22 ⟨lk_22.1, lk_22.2.1, lk_22.2.2, by decide, by decide⟩ rfl) (am_rn rfl (am_rn rfl (am_rs rfl (ok_ifc dd_13_51 (by decide) rfl) (am_rn rfl (am_rn rfl (am_rs rfl (ok_iload dd_13_54 rfl) (am_rn rfl (am_rz))))))))
theorem kb_13_7 : am_row mi_13 56 kr_13_7 := am_rs rfl (ok_iret dd_13_56 rfl) (am_rs rfl (ok_iload dd_13_57 rfl) (am_rn rfl (am_rs rfl (ok_istore dd_13_59 rfl (by decide)) (am_rn rfl (am_rs rfl (ok_goto dd_13_61 (by decide)) (am_rn rfl (am_rn rfl (am_rz))))))))
theorem kb_13_8 : am_row mi_13 64 kr_13_8 := am_rs rfl (ok_bipush dd_13_64 bi_m4 rfl) (am_rn rfl (am_rs rfl (ok_iret dd_13_66 rfl) (am_rz)))
theorem ck_13 : am_rows mi_13 0 cd_13 := am_bs rfl kb_13_0 (am_bs rfl kb_13_1 (am_bs rfl kb_13_2 (am_bs rfl kb_13_3 (am_bs rfl kb_13_4 (am_bs rfl kb_13_5 (am_bs rfl kb_13_6 (am_bs rfl kb_13_7 (am_bs rfl kb_13_8 (am_bz)))))))))
/-- OverAndBack$Evening.clear()V -/
noncomputable def kr_14_0 : List (Option am_Op) := [some (am_ald0 0 1), some (am_gf 1 0 4), none, none, some (am_cv 15 0 8 7), none, none, some (am_ald0 0 8)]
noncomputable def kr_14_1 : List (Option am_Op) := [some (am_gf 1 1 11), none, none, some (am_cv 15 0 8 14), none, none, some (am_ald0 0 15), some (am_gf 1 2 18)]
noncomputable def kr_14_2 : List (Option am_Op) := [none, none, some (am_cv 15 0 8 21), none, none, some (am_ald0 0 22), some (am_gf 1 3 25), none]
noncomputable def kr_14_3 : List (Option am_Op) := [none, some (am_cv 15 0 8 28), none, none, some (am_ald0 0 29), some (am_gf 1 4 32), none, none]
noncomputable def kr_14_4 : List (Option am_Op) := [some (am_cv 15 0 8 35), none, none, some (am_ald0 0 36), some (am_gf 1 5 39), none, none, some (am_cv 15 0 8 42)]
noncomputable def kr_14_5 : List (Option am_Op) := [none, none, some (am_ald0 0 43), some (am_psh (.retAddr 30) 45), none, some (am_pf 1 6 0 48), none, none]
noncomputable def kr_14_6 : List (Option am_Op) := [some (am_ald0 0 49), some (am_psh (.retAddr 1) 50), some (am_pf 1 7 0 53), none, none, some (am_vret)]
noncomputable def cd_14 : am_Cd := [kr_14_0, kr_14_1, kr_14_2, kr_14_3, kr_14_4, kr_14_5, kr_14_6]
theorem dd_14_0 : decode prog_3_method_2_code 0 = .ok (.aload_n 0, 1) := by decide +kernel
theorem dd_14_1 : decode prog_3_method_2_code 1 = .ok (.getfield 14, 3) := by decide +kernel
theorem dd_14_4 : decode prog_3_method_2_code 4 = .ok (.invokevirtual 42, 3) := by decide +kernel
theorem dd_14_7 : decode prog_3_method_2_code 7 = .ok (.aload_n 0, 1) := by decide +kernel
theorem dd_14_8 : decode prog_3_method_2_code 8 = .ok (.getfield 20, 3) := by decide +kernel
theorem dd_14_11 : decode prog_3_method_2_code 11 = .ok (.invokevirtual 42, 3) := by decide +kernel
theorem dd_14_14 : decode prog_3_method_2_code 14 = .ok (.aload_n 0, 1) := by decide +kernel
theorem dd_14_15 : decode prog_3_method_2_code 15 = .ok (.getfield 23, 3) := by decide +kernel
theorem dd_14_18 : decode prog_3_method_2_code 18 = .ok (.invokevirtual 42, 3) := by decide +kernel
theorem dd_14_21 : decode prog_3_method_2_code 21 = .ok (.aload_n 0, 1) := by decide +kernel
theorem dd_14_22 : decode prog_3_method_2_code 22 = .ok (.getfield 26, 3) := by decide +kernel
theorem dd_14_25 : decode prog_3_method_2_code 25 = .ok (.invokevirtual 42, 3) := by decide +kernel
theorem dd_14_28 : decode prog_3_method_2_code 28 = .ok (.aload_n 0, 1) := by decide +kernel
theorem dd_14_29 : decode prog_3_method_2_code 29 = .ok (.getfield 29, 3) := by decide +kernel
theorem dd_14_32 : decode prog_3_method_2_code 32 = .ok (.invokevirtual 42, 3) := by decide +kernel
theorem dd_14_35 : decode prog_3_method_2_code 35 = .ok (.aload_n 0, 1) := by decide +kernel
theorem dd_14_36 : decode prog_3_method_2_code 36 = .ok (.getfield 32, 3) := by decide +kernel
theorem dd_14_39 : decode prog_3_method_2_code 39 = .ok (.invokevirtual 42, 3) := by decide +kernel
theorem dd_14_42 : decode prog_3_method_2_code 42 = .ok (.aload_n 0, 1) := by decide +kernel
theorem dd_14_43 : decode prog_3_method_2_code 43 = .ok (.bipush 30, 2) := by decide +kernel
theorem dd_14_45 : decode prog_3_method_2_code 45 = .ok (.putfield 35, 3) := by decide +kernel
theorem dd_14_48 : decode prog_3_method_2_code 48 = .ok (.aload_n 0, 1) := by decide +kernel
theorem dd_14_49 : decode prog_3_method_2_code 49 = .ok (.iconst 1, 1) := by decide +kernel
theorem dd_14_50 : decode prog_3_method_2_code 50 = .ok (.putfield 39, 3) := by decide +kernel
theorem dd_14_53 : decode prog_3_method_2_code 53 = .ok (.return_, 1) := by decide +kernel
theorem kb_14_0 : am_row mi_14 0 kr_14_0 := am_rs rfl (ok_aload_n (k := 0) dd_14_0 rfl rfl) (am_rs rfl (ok_gf dd_14_1 rfl am_ck1 (by decide) (Or.inl w_79)) (am_rn rfl (am_rn rfl (am_rs rfl (ok_cv (M' := mi_15) dd_14_4 rfl rfl w_388 w_389 w_390 ⟨lk_15.1, lk_15.2.1, lk_15.2.2, by decide, by decide⟩ rfl) (am_rn rfl (am_rn rfl (am_rs rfl (ok_aload_n (k := 0) dd_14_7 rfl rfl) (am_rz))))))))
theorem kb_14_1 : am_row mi_14 8 kr_14_1 := am_rs rfl (ok_gf dd_14_8 rfl am_ck1 (by decide) (Or.inl w_86)) (am_rn rfl (am_rn rfl (am_rs rfl (ok_cv (M' := mi_15) dd_14_11 rfl rfl w_388 w_389 w_390 ⟨lk_15.1, lk_15.2.1, lk_15.2.2, by decide, by decide⟩ rfl) (am_rn rfl (am_rn rfl (am_rs rfl (ok_aload_n (k := 0) dd_14_14 rfl rfl) (am_rs rfl (ok_gf dd_14_15 rfl am_ck1 (by decide) (Or.inl w_90)) (am_rz))))))))
theorem kb_14_2 : am_row mi_14 16 kr_14_2 := am_rn rfl (am_rn rfl (am_rs rfl (ok_cv (M' := mi_15) dd_14_18 rfl rfl w_388 w_389 w_390 ⟨lk_15.1, lk_15.2.1, lk_15.2.2, by decide, by decide⟩ rfl) (am_rn rfl (am_rn rfl (am_rs rfl (ok_aload_n (k := 0) dd_14_21 rfl rfl) (am_rs rfl (ok_gf dd_14_22 rfl am_ck1 (by decide) (Or.inl w_94)) (am_rn rfl (am_rz))))))))
theorem kb_14_3 : am_row mi_14 24 kr_14_3 := am_rn rfl (am_rs rfl (ok_cv (M' := mi_15) dd_14_25 rfl rfl w_388 w_389 w_390 ⟨lk_15.1, lk_15.2.1, lk_15.2.2, by decide, by decide⟩ rfl) (am_rn rfl (am_rn rfl (am_rs rfl (ok_aload_n (k := 0) dd_14_28 rfl rfl) (am_rs rfl (ok_gf dd_14_29 rfl am_ck1 (by decide) (Or.inl w_98)) (am_rn rfl (am_rn rfl (am_rz))))))))
theorem kb_14_4 : am_row mi_14 32 kr_14_4 := am_rs rfl (ok_cv (M' := mi_15) dd_14_32 rfl rfl w_388 w_389 w_390 ⟨lk_15.1, lk_15.2.1, lk_15.2.2, by decide, by decide⟩ rfl) (am_rn rfl (am_rn rfl (am_rs rfl (ok_aload_n (k := 0) dd_14_35 rfl rfl) (am_rs rfl (ok_gf dd_14_36 rfl am_ck1 (by decide) (Or.inl w_101)) (am_rn rfl (am_rn rfl (am_rs rfl (ok_cv (M' := mi_15) dd_14_39 rfl rfl w_388 w_389 w_390 ⟨lk_15.1, lk_15.2.1, lk_15.2.2, by decide, by decide⟩ rfl) (am_rz))))))))
theorem kb_14_5 : am_row mi_14 40 kr_14_5 := am_rn rfl (am_rn rfl (am_rs rfl (ok_aload_n (k := 0) dd_14_42 rfl rfl) (am_rs rfl (ok_bipush dd_14_43 bi_30 rfl) (am_rn rfl (am_rs rfl (ok_pf dd_14_45 rfl am_ck1 (by decide) (Or.inl w_105) (Or.inl rfl) rfl) (am_rn rfl (am_rn rfl (am_rz))))))))
theorem kb_14_6 : am_row mi_14 48 kr_14_6 := am_rs rfl (ok_aload_n (k := 0) dd_14_48 rfl rfl) (am_rs rfl (ok_iconst dd_14_49 ic_1 rfl) (am_rs rfl (ok_pf dd_14_50 rfl am_ck1 (by decide) (Or.inl w_113) (Or.inl rfl) rfl) (am_rn rfl (am_rn rfl (am_rs rfl (ok_vret dd_14_53 rfl) (am_rz))))))
theorem ck_14 : am_rows mi_14 0 cd_14 := am_bs rfl kb_14_0 (am_bs rfl kb_14_1 (am_bs rfl kb_14_2 (am_bs rfl kb_14_3 (am_bs rfl kb_14_4 (am_bs rfl kb_14_5 (am_bs rfl kb_14_6 (am_bz)))))))
/-- OverAndBack$Rows.clear()V -/
noncomputable def kr_15_0 : List (Option am_Op) := [some (am_ald0 0 1), some (am_psh (.retAddr 0) 2), some (am_pf 8 3 0 5), none, none, some (am_vret)]
noncomputable def cd_15 : am_Cd := [kr_15_0]
theorem dd_15_0 : decode prog_10_method_2_code 0 = .ok (.aload_n 0, 1) := by decide +kernel
theorem dd_15_1 : decode prog_10_method_2_code 1 = .ok (.iconst 0, 1) := by decide +kernel
theorem dd_15_2 : decode prog_10_method_2_code 2 = .ok (.putfield 15, 3) := by decide +kernel
theorem dd_15_5 : decode prog_10_method_2_code 5 = .ok (.return_, 1) := by decide +kernel
theorem kb_15_0 : am_row mi_15 0 kr_15_0 := am_rs rfl (ok_aload_n (k := 0) dd_15_0 rfl rfl) (am_rs rfl (ok_iconst dd_15_1 ic_0 rfl) (am_rs rfl (ok_pf dd_15_2 rfl am_ck8 (by decide) (Or.inl w_60) (Or.inl rfl) rfl) (am_rn rfl (am_rn rfl (am_rs rfl (ok_vret dd_15_5 rfl) (am_rz))))))
theorem ck_15 : am_rows mi_15 0 cd_15 := am_bs rfl kb_15_0 (am_bz)
/-- java/lang/Math.min(II)I -/
noncomputable def kr_16_0 : List (Option am_Op) := [some (am_ild 0 1), some (am_ild 1 2), some (am_br2 .gt 9 5), none, none, some (am_ild 0 6), some (am_jmp 10), none]
noncomputable def kr_16_1 : List (Option am_Op) := [none, some (am_ild 1 10), some (am_iret)]
noncomputable def cd_16 : am_Cd := [kr_16_0, kr_16_1]
theorem dd_16_0 : decode prog_16_method_69_code 0 = .ok (.iload_n 0, 1) := by decide +kernel
theorem dd_16_1 : decode prog_16_method_69_code 1 = .ok (.iload_n 1, 1) := by decide +kernel
theorem dd_16_2 : decode prog_16_method_69_code 2 = .ok (.if_icmp .gt 7, 3) := by decide +kernel
theorem dd_16_5 : decode prog_16_method_69_code 5 = .ok (.iload_n 0, 1) := by decide +kernel
theorem dd_16_6 : decode prog_16_method_69_code 6 = .ok (.goto 4, 3) := by decide +kernel
theorem dd_16_9 : decode prog_16_method_69_code 9 = .ok (.iload_n 1, 1) := by decide +kernel
theorem dd_16_10 : decode prog_16_method_69_code 10 = .ok (.ireturn, 1) := by decide +kernel
theorem kb_16_0 : am_row mi_16 0 kr_16_0 := am_rs rfl (ok_iload_n (k := 0) dd_16_0 rfl rfl) (am_rs rfl (ok_iload_n (k := 1) dd_16_1 rfl rfl) (am_rs rfl (ok_icmp dd_16_2 (by decide) rfl) (am_rn rfl (am_rn rfl (am_rs rfl (ok_iload_n (k := 0) dd_16_5 rfl rfl) (am_rs rfl (ok_goto dd_16_6 (by decide)) (am_rn rfl (am_rz))))))))
theorem kb_16_1 : am_row mi_16 8 kr_16_1 := am_rn rfl (am_rs rfl (ok_iload_n (k := 1) dd_16_9 rfl rfl) (am_rs rfl (ok_iret dd_16_10 rfl) (am_rz)))
theorem ck_16 : am_rows mi_16 0 cd_16 := am_bs rfl kb_16_0 (am_bs rfl kb_16_1 (am_bz))
/-- OverAndBack$Reader.readNumbers([CII)I -/
noncomputable def kr_17_0 : List (Option am_Op) := [some (am_ild 3 1), some (am_ist 4 3), none, some (am_psh (.retAddr 0) 4), some (am_ist 5 6), none, some (am_ild 5 8), none]
noncomputable def kr_17_1 : List (Option am_Op) := [some (am_psh (.retAddr 5) 9), some (am_br2 .ge 98 12), none, none, some (am_ald0 1 13), some (am_ild 2 14), some (am_ild 4 16), none]
noncomputable def kr_17_2 : List (Option am_Op) := [some (am_cs 18 3 19), none, none, some (am_ist 6 21), none, some (am_ild 4 23), none, some (am_ild 6 25)]
noncomputable def kr_17_3 : List (Option am_Op) := [none, some (am_bin am_add 26), some (am_ist 4 28), none, some (am_ild 6 30), none, some (am_br1 .eq 39 33), none]
noncomputable def kr_17_4 : List (Option am_Op) := [none, some (am_ild 4 35), none, some (am_ild 2 36), some (am_br2 .lt 41 39), none, none, some (am_psh (.retAddr 4294967295) 40)]
noncomputable def kr_17_5 : List (Option am_Op) := [some (am_iret), some (am_ald0 0 42), some (am_gf 6 0 45), none, none, some (am_ild 5 47), none, some (am_ald0 1 48)]
noncomputable def kr_17_6 : List (Option am_Op) := [some (am_ild 4 50), none, some (am_ild 6 52), none, some (am_cs 20 3 55), none, none, some (am_ast 0 (fun v => v) 56)]
noncomputable def kr_17_7 : List (Option am_Op) := [some (am_ald0 0 57), some (am_ild 5 59), none, some (am_psh (.retAddr 1) 60), some (am_bin am_add 61), some (am_pf 6 1 0 64), none, none]
noncomputable def kr_17_8 : List (Option am_Op) := [some (am_ald0 1 65), some (am_ild 4 67), none, some (am_ald 1 68), some (am_ist 7 70), none, some (am_inc 4 1 73), none]
noncomputable def kr_17_9 : List (Option am_Op) := [none, some (am_ild 7 75), none, some (am_psh (.retAddr 59) 77), none, some (am_br2 .ne 83 80), none, none]
noncomputable def kr_17_10 : List (Option am_Op) := [some (am_ild 4 82), none, some (am_iret), some (am_ild 7 85), none, some (am_psh (.retAddr 44) 87), none, some (am_br2 .eq 92 90)]
noncomputable def kr_17_11 : List (Option am_Op) := [none, none, some (am_psh (.retAddr 4294967295) 91), some (am_iret), some (am_inc 5 1 95), none, none, some (am_jmp 6)]
noncomputable def kr_17_12 : List (Option am_Op) := [none, none, some (am_psh (.retAddr 4294967295) 99), some (am_iret)]
noncomputable def cd_17 : am_Cd := [kr_17_0, kr_17_1, kr_17_2, kr_17_3, kr_17_4, kr_17_5, kr_17_6, kr_17_7, kr_17_8, kr_17_9, kr_17_10, kr_17_11, kr_17_12]
theorem dd_17_0 : decode prog_8_method_3_code 0 = .ok (.iload_n 3, 1) := by decide +kernel
theorem dd_17_1 : decode prog_8_method_3_code 1 = .ok (.istore 4, 2) := by decide +kernel
theorem dd_17_3 : decode prog_8_method_3_code 3 = .ok (.iconst 0, 1) := by decide +kernel
theorem dd_17_4 : decode prog_8_method_3_code 4 = .ok (.istore 5, 2) := by decide +kernel
theorem dd_17_6 : decode prog_8_method_3_code 6 = .ok (.iload 5, 2) := by decide +kernel
theorem dd_17_8 : decode prog_8_method_3_code 8 = .ok (.iconst 5, 1) := by decide +kernel
theorem dd_17_9 : decode prog_8_method_3_code 9 = .ok (.if_icmp .ge 89, 3) := by decide +kernel
theorem dd_17_12 : decode prog_8_method_3_code 12 = .ok (.aload_n 1, 1) := by decide +kernel
theorem dd_17_13 : decode prog_8_method_3_code 13 = .ok (.iload_n 2, 1) := by decide +kernel
theorem dd_17_14 : decode prog_8_method_3_code 14 = .ok (.iload 4, 2) := by decide +kernel
theorem dd_17_16 : decode prog_8_method_3_code 16 = .ok (.invokestatic 38, 3) := by decide +kernel
theorem dd_17_19 : decode prog_8_method_3_code 19 = .ok (.istore 6, 2) := by decide +kernel
theorem dd_17_21 : decode prog_8_method_3_code 21 = .ok (.iload 4, 2) := by decide +kernel
theorem dd_17_23 : decode prog_8_method_3_code 23 = .ok (.iload 6, 2) := by decide +kernel
theorem dd_17_25 : decode prog_8_method_3_code 25 = .ok (.iadd, 1) := by decide +kernel
theorem dd_17_26 : decode prog_8_method_3_code 26 = .ok (.istore 4, 2) := by decide +kernel
theorem dd_17_28 : decode prog_8_method_3_code 28 = .ok (.iload 6, 2) := by decide +kernel
theorem dd_17_30 : decode prog_8_method_3_code 30 = .ok (.ifCond .eq 9, 3) := by decide +kernel
theorem dd_17_33 : decode prog_8_method_3_code 33 = .ok (.iload 4, 2) := by decide +kernel
theorem dd_17_35 : decode prog_8_method_3_code 35 = .ok (.iload_n 2, 1) := by decide +kernel
theorem dd_17_36 : decode prog_8_method_3_code 36 = .ok (.if_icmp .lt 5, 3) := by decide +kernel
theorem dd_17_39 : decode prog_8_method_3_code 39 = .ok (.iconst (-1), 1) := by decide +kernel
theorem dd_17_40 : decode prog_8_method_3_code 40 = .ok (.ireturn, 1) := by decide +kernel
theorem dd_17_41 : decode prog_8_method_3_code 41 = .ok (.aload_n 0, 1) := by decide +kernel
theorem dd_17_42 : decode prog_8_method_3_code 42 = .ok (.getfield 9, 3) := by decide +kernel
theorem dd_17_45 : decode prog_8_method_3_code 45 = .ok (.iload 5, 2) := by decide +kernel
theorem dd_17_47 : decode prog_8_method_3_code 47 = .ok (.aload_n 1, 1) := by decide +kernel
theorem dd_17_48 : decode prog_8_method_3_code 48 = .ok (.iload 4, 2) := by decide +kernel
theorem dd_17_50 : decode prog_8_method_3_code 50 = .ok (.iload 6, 2) := by decide +kernel
theorem dd_17_52 : decode prog_8_method_3_code 52 = .ok (.invokestatic 41, 3) := by decide +kernel
theorem dd_17_55 : decode prog_8_method_3_code 55 = .ok (.iastore, 1) := by decide +kernel
theorem dd_17_56 : decode prog_8_method_3_code 56 = .ok (.aload_n 0, 1) := by decide +kernel
theorem dd_17_57 : decode prog_8_method_3_code 57 = .ok (.iload 5, 2) := by decide +kernel
theorem dd_17_59 : decode prog_8_method_3_code 59 = .ok (.iconst 1, 1) := by decide +kernel
theorem dd_17_60 : decode prog_8_method_3_code 60 = .ok (.iadd, 1) := by decide +kernel
theorem dd_17_61 : decode prog_8_method_3_code 61 = .ok (.putfield 15, 3) := by decide +kernel
theorem dd_17_64 : decode prog_8_method_3_code 64 = .ok (.aload_n 1, 1) := by decide +kernel
theorem dd_17_65 : decode prog_8_method_3_code 65 = .ok (.iload 4, 2) := by decide +kernel
theorem dd_17_67 : decode prog_8_method_3_code 67 = .ok (.caload, 1) := by decide +kernel
theorem dd_17_68 : decode prog_8_method_3_code 68 = .ok (.istore 7, 2) := by decide +kernel
theorem dd_17_70 : decode prog_8_method_3_code 70 = .ok (.iinc 4 1, 3) := by decide +kernel
theorem dd_17_73 : decode prog_8_method_3_code 73 = .ok (.iload 7, 2) := by decide +kernel
theorem dd_17_75 : decode prog_8_method_3_code 75 = .ok (.bipush 59, 2) := by decide +kernel
theorem dd_17_77 : decode prog_8_method_3_code 77 = .ok (.if_icmp .ne 6, 3) := by decide +kernel
theorem dd_17_80 : decode prog_8_method_3_code 80 = .ok (.iload 4, 2) := by decide +kernel
theorem dd_17_82 : decode prog_8_method_3_code 82 = .ok (.ireturn, 1) := by decide +kernel
theorem dd_17_83 : decode prog_8_method_3_code 83 = .ok (.iload 7, 2) := by decide +kernel
theorem dd_17_85 : decode prog_8_method_3_code 85 = .ok (.bipush 44, 2) := by decide +kernel
theorem dd_17_87 : decode prog_8_method_3_code 87 = .ok (.if_icmp .eq 5, 3) := by decide +kernel
theorem dd_17_90 : decode prog_8_method_3_code 90 = .ok (.iconst (-1), 1) := by decide +kernel
theorem dd_17_91 : decode prog_8_method_3_code 91 = .ok (.ireturn, 1) := by decide +kernel
theorem dd_17_92 : decode prog_8_method_3_code 92 = .ok (.iinc 5 1, 3) := by decide +kernel
theorem dd_17_95 : decode prog_8_method_3_code 95 = .ok (.goto (-89), 3) := by decide +kernel
theorem dd_17_98 : decode prog_8_method_3_code 98 = .ok (.iconst (-1), 1) := by decide +kernel
theorem dd_17_99 : decode prog_8_method_3_code 99 = .ok (.ireturn, 1) := by decide +kernel
theorem kb_17_0 : am_row mi_17 0 kr_17_0 := am_rs rfl (ok_iload_n (k := 3) dd_17_0 rfl rfl) (am_rs rfl (ok_istore dd_17_1 rfl (by decide)) (am_rn rfl (am_rs rfl (ok_iconst dd_17_3 ic_0 rfl) (am_rs rfl (ok_istore dd_17_4 rfl (by decide)) (am_rn rfl (am_rs rfl (ok_iload dd_17_6 rfl) (am_rn rfl (am_rz))))))))
theorem kb_17_1 : am_row mi_17 8 kr_17_1 := am_rs rfl (ok_iconst dd_17_8 ic_5 rfl) (am_rs rfl (ok_icmp dd_17_9 (by decide) rfl) (am_rn rfl (am_rn rfl (am_rs rfl (ok_aload_n (k := 1) dd_17_12 rfl rfl) (am_rs rfl (ok_iload_n (k := 2) dd_17_13 rfl rfl) (am_rs rfl (ok_iload dd_17_14 rfl) (am_rn rfl (am_rz))))))))
theorem kb_17_2 : am_row mi_17 16 kr_17_2 := am_rs rfl (ok_cs (M' := mi_18) dd_17_16 rfl rfl w_399 w_400 ⟨lk_18.1, lk_18.2.1, lk_18.2.2, by decide, by decide⟩) (am_rn rfl (am_rn rfl (am_rs rfl (ok_istore dd_17_19 rfl (by decide)) (am_rn rfl (am_rs rfl (ok_iload dd_17_21 rfl) (am_rn rfl (am_rs rfl (ok_iload dd_17_23 rfl) (am_rz))))))))
theorem kb_17_3 : am_row mi_17 24 kr_17_3 := am_rn rfl (am_rs rfl (ok_iadd dd_17_25 rfl) (am_rs rfl (ok_istore dd_17_26 rfl (by decide)) (am_rn rfl (am_rs rfl (ok_iload dd_17_28 rfl) (am_rn rfl (am_rs rfl (ok_ifc dd_17_30 (by decide) rfl) (am_rn rfl (am_rz))))))))
theorem kb_17_4 : am_row mi_17 32 kr_17_4 := am_rn rfl (am_rs rfl (ok_iload dd_17_33 rfl) (am_rn rfl (am_rs rfl (ok_iload_n (k := 2) dd_17_35 rfl rfl) (am_rs rfl (ok_icmp dd_17_36 (by decide) rfl) (am_rn rfl (am_rn rfl (am_rs rfl (ok_iconst dd_17_39 ic_m1 rfl) (am_rz))))))))
theorem kb_17_5 : am_row mi_17 40 kr_17_5 := am_rs rfl (ok_iret dd_17_40 rfl) (am_rs rfl (ok_aload_n (k := 0) dd_17_41 rfl rfl) (am_rs rfl (ok_gf dd_17_42 rfl am_ck6 (by decide) (Or.inl w_36)) (am_rn rfl (am_rn rfl (am_rs rfl (ok_iload dd_17_45 rfl) (am_rn rfl (am_rs rfl (ok_aload_n (k := 1) dd_17_47 rfl rfl) (am_rz))))))))
theorem kb_17_6 : am_row mi_17 48 kr_17_6 := am_rs rfl (ok_iload dd_17_48 rfl) (am_rn rfl (am_rs rfl (ok_iload dd_17_50 rfl) (am_rn rfl (am_rs rfl (ok_cs (M' := mi_20) dd_17_52 rfl rfl w_405 w_406 ⟨lk_20.1, lk_20.2.1, lk_20.2.2, by decide, by decide⟩) (am_rn rfl (am_rn rfl (am_rs rfl (ok_iast dd_17_55 rfl) (am_rz))))))))
theorem kb_17_7 : am_row mi_17 56 kr_17_7 := am_rs rfl (ok_aload_n (k := 0) dd_17_56 rfl rfl) (am_rs rfl (ok_iload dd_17_57 rfl) (am_rn rfl (am_rs rfl (ok_iconst dd_17_59 ic_1 rfl) (am_rs rfl (ok_iadd dd_17_60 rfl) (am_rs rfl (ok_pf dd_17_61 rfl am_ck6 (by decide) (Or.inl w_37) (Or.inl rfl) rfl) (am_rn rfl (am_rn rfl (am_rz))))))))
theorem kb_17_8 : am_row mi_17 64 kr_17_8 := am_rs rfl (ok_aload_n (k := 1) dd_17_64 rfl rfl) (am_rs rfl (ok_iload dd_17_65 rfl) (am_rn rfl (am_rs rfl (ok_cald dd_17_67 rfl) (am_rs rfl (ok_istore dd_17_68 rfl (by decide)) (am_rn rfl (am_rs rfl (ok_iinc dd_17_70 ic_1 rfl (by decide)) (am_rn rfl (am_rz))))))))
theorem kb_17_9 : am_row mi_17 72 kr_17_9 := am_rn rfl (am_rs rfl (ok_iload dd_17_73 rfl) (am_rn rfl (am_rs rfl (ok_bipush dd_17_75 bi_59 rfl) (am_rn rfl (am_rs rfl (ok_icmp dd_17_77 (by decide) rfl) (am_rn rfl (am_rn rfl (am_rz))))))))
theorem kb_17_10 : am_row mi_17 80 kr_17_10 := am_rs rfl (ok_iload dd_17_80 rfl) (am_rn rfl (am_rs rfl (ok_iret dd_17_82 rfl) (am_rs rfl (ok_iload dd_17_83 rfl) (am_rn rfl (am_rs rfl (ok_bipush dd_17_85 bi_44 rfl) (am_rn rfl (am_rs rfl (ok_icmp dd_17_87 (by decide) rfl) (am_rz))))))))
theorem kb_17_11 : am_row mi_17 88 kr_17_11 := am_rn rfl (am_rn rfl (am_rs rfl (ok_iconst dd_17_90 ic_m1 rfl) (am_rs rfl (ok_iret dd_17_91 rfl) (am_rs rfl (ok_iinc dd_17_92 ic_1 rfl (by decide)) (am_rn rfl (am_rn rfl (am_rs rfl (ok_goto dd_17_95 (by decide)) (am_rz))))))))
theorem kb_17_12 : am_row mi_17 96 kr_17_12 := am_rn rfl (am_rn rfl (am_rs rfl (ok_iconst dd_17_98 ic_m1 rfl) (am_rs rfl (ok_iret dd_17_99 rfl) (am_rz))))
theorem ck_17 : am_rows mi_17 0 cd_17 := am_bs rfl kb_17_0 (am_bs rfl kb_17_1 (am_bs rfl kb_17_2 (am_bs rfl kb_17_3 (am_bs rfl kb_17_4 (am_bs rfl kb_17_5 (am_bs rfl kb_17_6 (am_bs rfl kb_17_7 (am_bs rfl kb_17_8 (am_bs rfl kb_17_9 (am_bs rfl kb_17_10 (am_bs rfl kb_17_11 (am_bs rfl kb_17_12 (am_bz)))))))))))))
/-- OverAndBack$Reader.figuresAt([CII)I -/
noncomputable def kr_18_0 : List (Option am_Op) := [some (am_psh (.retAddr 0) 1), some (am_ist 3 2), some (am_ild 3 3), some (am_psh (.retAddr 2) 4), some (am_br2 .ge 31 7), none, none, some (am_ild 2 8)]
noncomputable def kr_18_1 : List (Option am_Op) := [some (am_ild 3 9), some (am_bin am_add 10), some (am_ild 1 11), some (am_br2 .ge 31 14), none, none, some (am_ald0 0 15), some (am_ild 2 16)]
noncomputable def kr_18_2 : List (Option am_Op) := [some (am_ild 3 17), some (am_bin am_add 18), some (am_ald 1 19), some (am_cs 19 1 22), none, none, some (am_br1 .eq 31 25), none]
noncomputable def kr_18_3 : List (Option am_Op) := [none, some (am_inc 3 1 28), none, none, some (am_jmp 2), none, none, some (am_ild 3 32)]
noncomputable def kr_18_4 : List (Option am_Op) := [some (am_iret)]
noncomputable def cd_18 : am_Cd := [kr_18_0, kr_18_1, kr_18_2, kr_18_3, kr_18_4]
theorem dd_18_0 : decode prog_8_method_4_code 0 = .ok (.iconst 0, 1) := by decide +kernel
theorem dd_18_1 : decode prog_8_method_4_code 1 = .ok (.istore_n 3, 1) := by decide +kernel
theorem dd_18_2 : decode prog_8_method_4_code 2 = .ok (.iload_n 3, 1) := by decide +kernel
theorem dd_18_3 : decode prog_8_method_4_code 3 = .ok (.iconst 2, 1) := by decide +kernel
theorem dd_18_4 : decode prog_8_method_4_code 4 = .ok (.if_icmp .ge 27, 3) := by decide +kernel
theorem dd_18_7 : decode prog_8_method_4_code 7 = .ok (.iload_n 2, 1) := by decide +kernel
theorem dd_18_8 : decode prog_8_method_4_code 8 = .ok (.iload_n 3, 1) := by decide +kernel
theorem dd_18_9 : decode prog_8_method_4_code 9 = .ok (.iadd, 1) := by decide +kernel
theorem dd_18_10 : decode prog_8_method_4_code 10 = .ok (.iload_n 1, 1) := by decide +kernel
theorem dd_18_11 : decode prog_8_method_4_code 11 = .ok (.if_icmp .ge 20, 3) := by decide +kernel
theorem dd_18_14 : decode prog_8_method_4_code 14 = .ok (.aload_n 0, 1) := by decide +kernel
theorem dd_18_15 : decode prog_8_method_4_code 15 = .ok (.iload_n 2, 1) := by decide +kernel
theorem dd_18_16 : decode prog_8_method_4_code 16 = .ok (.iload_n 3, 1) := by decide +kernel
theorem dd_18_17 : decode prog_8_method_4_code 17 = .ok (.iadd, 1) := by decide +kernel
theorem dd_18_18 : decode prog_8_method_4_code 18 = .ok (.caload, 1) := by decide +kernel
theorem dd_18_19 : decode prog_8_method_4_code 19 = .ok (.invokestatic 44, 3) := by decide +kernel
theorem dd_18_22 : decode prog_8_method_4_code 22 = .ok (.ifCond .eq 9, 3) := by decide +kernel
theorem dd_18_25 : decode prog_8_method_4_code 25 = .ok (.iinc 3 1, 3) := by decide +kernel
theorem dd_18_28 : decode prog_8_method_4_code 28 = .ok (.goto (-26), 3) := by decide +kernel
theorem dd_18_31 : decode prog_8_method_4_code 31 = .ok (.iload_n 3, 1) := by decide +kernel
theorem dd_18_32 : decode prog_8_method_4_code 32 = .ok (.ireturn, 1) := by decide +kernel
theorem kb_18_0 : am_row mi_18 0 kr_18_0 := am_rs rfl (ok_iconst dd_18_0 ic_0 rfl) (am_rs rfl (ok_istore_n (k := 3) dd_18_1 rfl rfl (by decide)) (am_rs rfl (ok_iload_n (k := 3) dd_18_2 rfl rfl) (am_rs rfl (ok_iconst dd_18_3 ic_2 rfl) (am_rs rfl (ok_icmp dd_18_4 (by decide) rfl) (am_rn rfl (am_rn rfl (am_rs rfl (ok_iload_n (k := 2) dd_18_7 rfl rfl) (am_rz))))))))
theorem kb_18_1 : am_row mi_18 8 kr_18_1 := am_rs rfl (ok_iload_n (k := 3) dd_18_8 rfl rfl) (am_rs rfl (ok_iadd dd_18_9 rfl) (am_rs rfl (ok_iload_n (k := 1) dd_18_10 rfl rfl) (am_rs rfl (ok_icmp dd_18_11 (by decide) rfl) (am_rn rfl (am_rn rfl (am_rs rfl (ok_aload_n (k := 0) dd_18_14 rfl rfl) (am_rs rfl (ok_iload_n (k := 2) dd_18_15 rfl rfl) (am_rz))))))))
theorem kb_18_2 : am_row mi_18 16 kr_18_2 := am_rs rfl (ok_iload_n (k := 3) dd_18_16 rfl rfl) (am_rs rfl (ok_iadd dd_18_17 rfl) (am_rs rfl (ok_cald dd_18_18 rfl) (am_rs rfl (ok_cs (M' := mi_19) dd_18_19 rfl rfl w_402 w_403 ⟨lk_19.1, lk_19.2.1, lk_19.2.2, by decide, by decide⟩) (am_rn rfl (am_rn rfl (am_rs rfl (ok_ifc dd_18_22 (by decide) rfl) (am_rn rfl (am_rz))))))))
theorem kb_18_3 : am_row mi_18 24 kr_18_3 := am_rn rfl (am_rs rfl (ok_iinc dd_18_25 ic_1 rfl (by decide)) (am_rn rfl (am_rn rfl (am_rs rfl (ok_goto dd_18_28 (by decide)) (am_rn rfl (am_rn rfl (am_rs rfl (ok_iload_n (k := 3) dd_18_31 rfl rfl) (am_rz))))))))
theorem kb_18_4 : am_row mi_18 32 kr_18_4 := am_rs rfl (ok_iret dd_18_32 rfl) (am_rz)
theorem ck_18 : am_rows mi_18 0 cd_18 := am_bs rfl kb_18_0 (am_bs rfl kb_18_1 (am_bs rfl kb_18_2 (am_bs rfl kb_18_3 (am_bs rfl kb_18_4 (am_bz)))))
/-- OverAndBack$Reader.isFigure(C)Z -/
noncomputable def kr_19_0 : List (Option am_Op) := [some (am_ild 0 1), some (am_psh (.retAddr 48) 3), none, some (am_br2 .lt 16 6), none, none, some (am_ild 0 7), some (am_psh (.retAddr 57) 9)]
noncomputable def kr_19_1 : List (Option am_Op) := [none, some (am_br2 .gt 16 12), none, none, some (am_psh (.retAddr 1) 13), some (am_jmp 17), none, none]
noncomputable def kr_19_2 : List (Option am_Op) := [some (am_psh (.retAddr 0) 17), some (am_zret)]
noncomputable def cd_19 : am_Cd := [kr_19_0, kr_19_1, kr_19_2]
theorem dd_19_0 : decode prog_8_method_6_code 0 = .ok (.iload_n 0, 1) := by decide +kernel
theorem dd_19_1 : decode prog_8_method_6_code 1 = .ok (.bipush 48, 2) := by decide +kernel
theorem dd_19_3 : decode prog_8_method_6_code 3 = .ok (.if_icmp .lt 13, 3) := by decide +kernel
theorem dd_19_6 : decode prog_8_method_6_code 6 = .ok (.iload_n 0, 1) := by decide +kernel
theorem dd_19_7 : decode prog_8_method_6_code 7 = .ok (.bipush 57, 2) := by decide +kernel
theorem dd_19_9 : decode prog_8_method_6_code 9 = .ok (.if_icmp .gt 7, 3) := by decide +kernel
theorem dd_19_12 : decode prog_8_method_6_code 12 = .ok (.iconst 1, 1) := by decide +kernel
theorem dd_19_13 : decode prog_8_method_6_code 13 = .ok (.goto 4, 3) := by decide +kernel
theorem dd_19_16 : decode prog_8_method_6_code 16 = .ok (.iconst 0, 1) := by decide +kernel
theorem dd_19_17 : decode prog_8_method_6_code 17 = .ok (.ireturn, 1) := by decide +kernel
theorem kb_19_0 : am_row mi_19 0 kr_19_0 := am_rs rfl (ok_iload_n (k := 0) dd_19_0 rfl rfl) (am_rs rfl (ok_bipush dd_19_1 bi_48 rfl) (am_rn rfl (am_rs rfl (ok_icmp dd_19_3 (by decide) rfl) (am_rn rfl (am_rn rfl (am_rs rfl (ok_iload_n (k := 0) dd_19_6 rfl rfl) (am_rs rfl (ok_bipush dd_19_7 bi_57 rfl) (am_rz))))))))
theorem kb_19_1 : am_row mi_19 8 kr_19_1 := am_rn rfl (am_rs rfl (ok_icmp dd_19_9 (by decide) rfl) (am_rn rfl (am_rn rfl (am_rs rfl (ok_iconst dd_19_12 ic_1 rfl) (am_rs rfl (ok_goto dd_19_13 (by decide)) (am_rn rfl (am_rn rfl (am_rz))))))))
theorem kb_19_2 : am_row mi_19 16 kr_19_2 := am_rs rfl (ok_iconst dd_19_16 ic_0 rfl) (am_rs rfl (ok_zret dd_19_17 rfl) (am_rz))
theorem ck_19 : am_rows mi_19 0 cd_19 := am_bs rfl kb_19_0 (am_bs rfl kb_19_1 (am_bs rfl kb_19_2 (am_bz)))
/-- OverAndBack$Reader.valueAhead([CII)I -/
noncomputable def kr_20_0 : List (Option am_Op) := [some (am_psh (.retAddr 0) 1), some (am_ist 3 2), some (am_psh (.retAddr 0) 3), some (am_ild 1 4), some (am_ild 2 5), some (am_bin am_sub 6), some (am_mmax 9), none]
noncomputable def kr_20_1 : List (Option am_Op) := [none, some (am_ist 4 11), none, some (am_ild 4 13), none, some (am_ild 1 14), some (am_br2 .ge 43 17), none]
noncomputable def kr_20_2 : List (Option am_Op) := [none, some (am_ild 4 19), none, some (am_ald0 0 20), some (am_len 21), some (am_br2 .ge 43 24), none, none]
noncomputable def kr_20_3 : List (Option am_Op) := [some (am_psh (.retAddr 10) 26), none, some (am_ild 3 27), some (am_bin am_mul 28), some (am_ald0 0 29), some (am_ild 4 31), none, some (am_ald 1 32)]
noncomputable def kr_20_4 : List (Option am_Op) := [some (am_bin am_add 33), some (am_psh (.retAddr 48) 35), none, some (am_bin am_sub 36), some (am_ist 3 37), some (am_inc 4 1 40), none, none]
noncomputable def kr_20_5 : List (Option am_Op) := [some (am_jmp 11), none, none, some (am_ild 3 44), some (am_iret)]
noncomputable def cd_20 : am_Cd := [kr_20_0, kr_20_1, kr_20_2, kr_20_3, kr_20_4, kr_20_5]
theorem dd_20_0 : decode prog_8_method_5_code 0 = .ok (.iconst 0, 1) := by decide +kernel
theorem dd_20_1 : decode prog_8_method_5_code 1 = .ok (.istore_n 3, 1) := by decide +kernel
theorem dd_20_2 : decode prog_8_method_5_code 2 = .ok (.iconst 0, 1) := by decide +kernel
theorem dd_20_3 : decode prog_8_method_5_code 3 = .ok (.iload_n 1, 1) := by decide +kernel
theorem dd_20_4 : decode prog_8_method_5_code 4 = .ok (.iload_n 2, 1) := by decide +kernel
theorem dd_20_5 : decode prog_8_method_5_code 5 = .ok (.isub, 1) := by decide +kernel
theorem dd_20_6 : decode prog_8_method_5_code 6 = .ok (.invokestatic 48, 3) := by decide +kernel
theorem dd_20_9 : decode prog_8_method_5_code 9 = .ok (.istore 4, 2) := by decide +kernel
theorem dd_20_11 : decode prog_8_method_5_code 11 = .ok (.iload 4, 2) := by decide +kernel
theorem dd_20_13 : decode prog_8_method_5_code 13 = .ok (.iload_n 1, 1) := by decide +kernel
theorem dd_20_14 : decode prog_8_method_5_code 14 = .ok (.if_icmp .ge 29, 3) := by decide +kernel
theorem dd_20_17 : decode prog_8_method_5_code 17 = .ok (.iload 4, 2) := by decide +kernel
theorem dd_20_19 : decode prog_8_method_5_code 19 = .ok (.aload_n 0, 1) := by decide +kernel
theorem dd_20_20 : decode prog_8_method_5_code 20 = .ok (.arraylength, 1) := by decide +kernel
theorem dd_20_21 : decode prog_8_method_5_code 21 = .ok (.if_icmp .ge 22, 3) := by decide +kernel
theorem dd_20_24 : decode prog_8_method_5_code 24 = .ok (.bipush 10, 2) := by decide +kernel
theorem dd_20_26 : decode prog_8_method_5_code 26 = .ok (.iload_n 3, 1) := by decide +kernel
theorem dd_20_27 : decode prog_8_method_5_code 27 = .ok (.imul, 1) := by decide +kernel
theorem dd_20_28 : decode prog_8_method_5_code 28 = .ok (.aload_n 0, 1) := by decide +kernel
theorem dd_20_29 : decode prog_8_method_5_code 29 = .ok (.iload 4, 2) := by decide +kernel
theorem dd_20_31 : decode prog_8_method_5_code 31 = .ok (.caload, 1) := by decide +kernel
theorem dd_20_32 : decode prog_8_method_5_code 32 = .ok (.iadd, 1) := by decide +kernel
theorem dd_20_33 : decode prog_8_method_5_code 33 = .ok (.bipush 48, 2) := by decide +kernel
theorem dd_20_35 : decode prog_8_method_5_code 35 = .ok (.isub, 1) := by decide +kernel
theorem dd_20_36 : decode prog_8_method_5_code 36 = .ok (.istore_n 3, 1) := by decide +kernel
theorem dd_20_37 : decode prog_8_method_5_code 37 = .ok (.iinc 4 1, 3) := by decide +kernel
theorem dd_20_40 : decode prog_8_method_5_code 40 = .ok (.goto (-29), 3) := by decide +kernel
theorem dd_20_43 : decode prog_8_method_5_code 43 = .ok (.iload_n 3, 1) := by decide +kernel
theorem dd_20_44 : decode prog_8_method_5_code 44 = .ok (.ireturn, 1) := by decide +kernel
theorem kb_20_0 : am_row mi_20 0 kr_20_0 := am_rs rfl (ok_iconst dd_20_0 ic_0 rfl) (am_rs rfl (ok_istore_n (k := 3) dd_20_1 rfl rfl (by decide)) (am_rs rfl (ok_iconst dd_20_2 ic_0 rfl) (am_rs rfl (ok_iload_n (k := 1) dd_20_3 rfl rfl) (am_rs rfl (ok_iload_n (k := 2) dd_20_4 rfl rfl) (am_rs rfl (ok_isub dd_20_5 rfl) (am_rs rfl (ok_mmax dd_20_6 rfl w_408 w_409 w_18 w_410 ⟨by decide, by decide⟩) (am_rn rfl (am_rz))))))))
theorem kb_20_1 : am_row mi_20 8 kr_20_1 := am_rn rfl (am_rs rfl (ok_istore dd_20_9 rfl (by decide)) (am_rn rfl (am_rs rfl (ok_iload dd_20_11 rfl) (am_rn rfl (am_rs rfl (ok_iload_n (k := 1) dd_20_13 rfl rfl) (am_rs rfl (ok_icmp dd_20_14 (by decide) rfl) (am_rn rfl (am_rz))))))))
theorem kb_20_2 : am_row mi_20 16 kr_20_2 := am_rn rfl (am_rs rfl (ok_iload dd_20_17 rfl) (am_rn rfl (am_rs rfl (ok_aload_n (k := 0) dd_20_19 rfl rfl) (am_rs rfl (ok_len dd_20_20 rfl) (am_rs rfl (ok_icmp dd_20_21 (by decide) rfl) (am_rn rfl (am_rn rfl (am_rz))))))))
theorem kb_20_3 : am_row mi_20 24 kr_20_3 := am_rs rfl (ok_bipush dd_20_24 bi_10 rfl) (am_rn rfl (am_rs rfl (ok_iload_n (k := 3) dd_20_26 rfl rfl) (am_rs rfl (ok_imul dd_20_27 rfl) (am_rs rfl (ok_aload_n (k := 0) dd_20_28 rfl rfl) (am_rs rfl (ok_iload dd_20_29 rfl) (am_rn rfl (am_rs rfl (ok_cald dd_20_31 rfl) (am_rz))))))))
theorem kb_20_4 : am_row mi_20 32 kr_20_4 := am_rs rfl (ok_iadd dd_20_32 rfl) (am_rs rfl (ok_bipush dd_20_33 bi_48 rfl) (am_rn rfl (am_rs rfl (ok_isub dd_20_35 rfl) (am_rs rfl (ok_istore_n (k := 3) dd_20_36 rfl rfl (by decide)) (am_rs rfl (ok_iinc dd_20_37 ic_1 rfl (by decide)) (am_rn rfl (am_rn rfl (am_rz))))))))
theorem kb_20_5 : am_row mi_20 40 kr_20_5 := am_rs rfl (ok_goto dd_20_40 (by decide)) (am_rn rfl (am_rn rfl (am_rs rfl (ok_iload_n (k := 3) dd_20_43 rfl rfl) (am_rs rfl (ok_iret dd_20_44 rfl) (am_rz)))))
theorem ck_20 : am_rows mi_20 0 cd_20 := am_bs rfl kb_20_0 (am_bs rfl kb_20_1 (am_bs rfl kb_20_2 (am_bs rfl kb_20_3 (am_bs rfl kb_20_4 (am_bs rfl kb_20_5 (am_bz))))))
/-- java/lang/Math.max(II)I -/
noncomputable def kr_21_0 : List (Option am_Op) := [some (am_ild 0 1), some (am_ild 1 2), some (am_br2 .lt 9 5), none, none, some (am_ild 0 6), some (am_jmp 10), none]
noncomputable def kr_21_1 : List (Option am_Op) := [none, some (am_ild 1 10), some (am_iret)]
noncomputable def cd_21 : am_Cd := [kr_21_0, kr_21_1]
theorem dd_21_0 : decode prog_16_method_65_code 0 = .ok (.iload_n 0, 1) := by decide +kernel
theorem dd_21_1 : decode prog_16_method_65_code 1 = .ok (.iload_n 1, 1) := by decide +kernel
theorem dd_21_2 : decode prog_16_method_65_code 2 = .ok (.if_icmp .lt 7, 3) := by decide +kernel
theorem dd_21_5 : decode prog_16_method_65_code 5 = .ok (.iload_n 0, 1) := by decide +kernel
theorem dd_21_6 : decode prog_16_method_65_code 6 = .ok (.goto 4, 3) := by decide +kernel
theorem dd_21_9 : decode prog_16_method_65_code 9 = .ok (.iload_n 1, 1) := by decide +kernel
theorem dd_21_10 : decode prog_16_method_65_code 10 = .ok (.ireturn, 1) := by decide +kernel
theorem kb_21_0 : am_row mi_21 0 kr_21_0 := am_rs rfl (ok_iload_n (k := 0) dd_21_0 rfl rfl) (am_rs rfl (ok_iload_n (k := 1) dd_21_1 rfl rfl) (am_rs rfl (ok_icmp dd_21_2 (by decide) rfl) (am_rn rfl (am_rn rfl (am_rs rfl (ok_iload_n (k := 0) dd_21_5 rfl rfl) (am_rs rfl (ok_goto dd_21_6 (by decide)) (am_rn rfl (am_rz))))))))
theorem kb_21_1 : am_row mi_21 8 kr_21_1 := am_rn rfl (am_rs rfl (ok_iload_n (k := 1) dd_21_9 rfl rfl) (am_rs rfl (ok_iret dd_21_10 rfl) (am_rz)))
theorem ck_21 : am_rows mi_21 0 cd_21 := am_bs rfl kb_21_0 (am_bs rfl kb_21_1 (am_bz))
/-- OverAndBack$Reader.take(CLOverAndBack$Evening;)Z -/
noncomputable def kr_22_0 : List (Option am_Op) := [some (am_ild 1 1), some (am_tsw 98 [213, 413, 413, 413, 296, 110, 413, 413, 413, 413, 413, 155, 104, 413, 413, 413, 413, 116, 413, 249, 413, 357] 413), none, none, none, none, none, none]
noncomputable def kr_22_1 : List (Option am_Op) := [none, none, none, none, none, none, none, none]
noncomputable def kr_22_2 : List (Option am_Op) := [none, none, none, none, none, none, none, none]
noncomputable def kr_22_3 : List (Option am_Op) := [none, none, none, none, none, none, none, none]
noncomputable def kr_22_4 : List (Option am_Op) := [none, none, none, none, none, none, none, none]
noncomputable def kr_22_5 : List (Option am_Op) := [none, none, none, none, none, none, none, none]
noncomputable def kr_22_6 : List (Option am_Op) := [none, none, none, none, none, none, none, none]
noncomputable def kr_22_7 : List (Option am_Op) := [none, none, none, none, none, none, none, none]
noncomputable def kr_22_8 : List (Option am_Op) := [none, none, none, none, none, none, none, none]
noncomputable def kr_22_9 : List (Option am_Op) := [none, none, none, none, none, none, none, none]
noncomputable def kr_22_10 : List (Option am_Op) := [none, none, none, none, none, none, none, none]
noncomputable def kr_22_11 : List (Option am_Op) := [none, none, none, none, none, none, none, none]
noncomputable def kr_22_12 : List (Option am_Op) := [none, none, none, none, none, none, none, none]
noncomputable def kr_22_13 : List (Option am_Op) := [some (am_ald0 0 105), some (am_ald0 2 106), some (am_cv 23 1 6 109), none, none, some (am_zret), some (am_ald0 0 111), some (am_ald0 2 112)]
noncomputable def kr_22_14 : List (Option am_Op) := [some (am_cv 25 1 6 115), none, none, some (am_zret), some (am_ald0 0 117), some (am_gf 6 1 120), none, none]
noncomputable def kr_22_15 : List (Option am_Op) := [some (am_psh (.retAddr 1) 121), some (am_br2 .ne 153 124), none, none, some (am_ald0 0 125), some (am_psh (.retAddr 0) 126), some (am_psh (.retAddr 0) 127), some (am_psh (.retAddr 9) 129)]
noncomputable def kr_22_16 : List (Option am_Op) := [none, some (am_cv 24 3 6 132), none, none, some (am_br1 .eq 153 135), none, none, some (am_ald0 2 136)]
noncomputable def kr_22_17 : List (Option am_Op) := [some (am_gf 1 0 139), none, none, some (am_ald0 0 140), some (am_gf 6 0 143), none, none, some (am_cv 26 1 8 146)]
noncomputable def kr_22_18 : List (Option am_Op) := [none, none, some (am_br1 .eq 153 149), none, none, some (am_psh (.retAddr 1) 150), some (am_jmp 154), none]
noncomputable def kr_22_19 : List (Option am_Op) := [none, some (am_psh (.retAddr 0) 154), some (am_zret), some (am_ald0 0 156), some (am_gf 6 1 159), none, none, some (am_psh (.retAddr 5) 160)]
noncomputable def kr_22_20 : List (Option am_Op) := [some (am_br2 .ne 211 163), none, none, some (am_ald0 0 164), some (am_ald0 2 165), some (am_cv 27 1 6 168), none, none]
noncomputable def kr_22_21 : List (Option am_Op) := [some (am_br1 .eq 211 171), none, none, some (am_ald0 0 172), some (am_psh (.retAddr 3) 173), some (am_psh (.retAddr 0) 174), some (am_psh (.retAddr 9) 176), none]
noncomputable def kr_22_22 : List (Option am_Op) := [some (am_cv 24 3 6 179), none, none, some (am_br1 .eq 211 182), none, none, some (am_ald0 0 183), some (am_psh (.retAddr 4) 184)]
noncomputable def kr_22_23 : List (Option am_Op) := [some (am_psh (.retAddr 0) 185), some (am_psh (.retAddr 8) 187), none, some (am_cv 24 3 6 190), none, none, some (am_br1 .eq 211 193), none]
noncomputable def kr_22_24 : List (Option am_Op) := [none, some (am_ald0 2 194), some (am_gf 1 1 197), none, none, some (am_ald0 0 198), some (am_gf 6 0 201), none]
noncomputable def kr_22_25 : List (Option am_Op) := [none, some (am_cv 26 1 8 204), none, none, some (am_br1 .eq 211 207), none, none, some (am_psh (.retAddr 1) 208)]
noncomputable def kr_22_26 : List (Option am_Op) := [some (am_jmp 212), none, none, some (am_psh (.retAddr 0) 212), some (am_zret), some (am_ald0 0 214), some (am_gf 6 1 217), none]
noncomputable def kr_22_27 : List (Option am_Op) := [none, some (am_psh (.retAddr 3) 218), some (am_br2 .ne 247 221), none, none, some (am_ald0 0 222), some (am_ald0 2 223), some (am_cv 27 1 6 226)]
noncomputable def kr_22_28 : List (Option am_Op) := [none, none, some (am_br1 .eq 247 229), none, none, some (am_ald0 2 230), some (am_gf 1 2 233), none]
noncomputable def kr_22_29 : List (Option am_Op) := [none, some (am_ald0 0 234), some (am_gf 6 0 237), none, none, some (am_cv 26 1 8 240), none, none]
noncomputable def kr_22_30 : List (Option am_Op) := [some (am_br1 .eq 247 243), none, none, some (am_psh (.retAddr 1) 244), some (am_jmp 248), none, none, some (am_psh (.retAddr 0) 248)]
noncomputable def kr_22_31 : List (Option am_Op) := [some (am_zret), some (am_ald0 0 250), some (am_gf 6 1 253), none, none, some (am_psh (.retAddr 4) 254), some (am_br2 .ne 294 257), none]
noncomputable def kr_22_32 : List (Option am_Op) := [none, some (am_ald0 0 258), some (am_ald0 2 259), some (am_cv 27 1 6 262), none, none, some (am_br1 .eq 294 265), none]
noncomputable def kr_22_33 : List (Option am_Op) := [none, some (am_ald0 0 266), some (am_psh (.retAddr 3) 267), some (am_psh (.retAddr 0) 268), some (am_psh (.retAddr 10) 270), none, some (am_cv 24 3 6 273), none]
noncomputable def kr_22_34 : List (Option am_Op) := [none, some (am_br1 .eq 294 276), none, none, some (am_ald0 2 277), some (am_gf 1 3 280), none, none]
noncomputable def kr_22_35 : List (Option am_Op) := [some (am_ald0 0 281), some (am_gf 6 0 284), none, none, some (am_cv 26 1 8 287), none, none, some (am_br1 .eq 294 290)]
noncomputable def kr_22_36 : List (Option am_Op) := [none, none, some (am_psh (.retAddr 1) 291), some (am_jmp 295), none, none, some (am_psh (.retAddr 0) 295), some (am_zret)]
noncomputable def kr_22_37 : List (Option am_Op) := [some (am_ald0 0 297), some (am_gf 6 1 300), none, none, some (am_psh (.retAddr 3) 301), some (am_br2 .ne 355 304), none, none]
noncomputable def kr_22_38 : List (Option am_Op) := [some (am_ald0 0 305), some (am_psh (.retAddr 0) 306), some (am_psh (.retAddr 0) 307), some (am_psh (.retAddr 7) 309), none, some (am_cv 24 3 6 312), none, none]
noncomputable def kr_22_39 : List (Option am_Op) := [some (am_br1 .eq 355 315), none, none, some (am_ald0 0 316), some (am_psh (.retAddr 1) 317), some (am_psh (.retAddr 0) 318), some (am_psh (.retAddr 7) 320), none]
noncomputable def kr_22_40 : List (Option am_Op) := [some (am_cv 24 3 6 323), none, none, some (am_br1 .eq 355 326), none, none, some (am_ald0 0 327), some (am_psh (.retAddr 2) 328)]
noncomputable def kr_22_41 : List (Option am_Op) := [some (am_psh (.retAddr 0) 329), some (am_psh (.retAddr 7) 331), none, some (am_cv 24 3 6 334), none, none, some (am_br1 .eq 355 337), none]
noncomputable def kr_22_42 : List (Option am_Op) := [none, some (am_ald0 2 338), some (am_gf 1 4 341), none, none, some (am_ald0 0 342), some (am_gf 6 0 345), none]
noncomputable def kr_22_43 : List (Option am_Op) := [none, some (am_cv 26 1 8 348), none, none, some (am_br1 .eq 355 351), none, none, some (am_psh (.retAddr 1) 352)]
noncomputable def kr_22_44 : List (Option am_Op) := [some (am_jmp 356), none, none, some (am_psh (.retAddr 0) 356), some (am_zret), some (am_ald0 0 358), some (am_gf 6 1 361), none]
noncomputable def kr_22_45 : List (Option am_Op) := [none, some (am_psh (.retAddr 2) 362), some (am_br2 .ne 411 365), none, none, some (am_ald0 0 366), some (am_psh (.retAddr 0) 367), some (am_psh (.retAddr 0) 368)]
noncomputable def kr_22_46 : List (Option am_Op) := [some (am_psh (.retAddr 3) 369), some (am_cv 24 3 6 372), none, none, some (am_br1 .eq 411 375), none, none, some (am_ald0 0 376)]
noncomputable def kr_22_47 : List (Option am_Op) := [some (am_psh (.retAddr 1) 377), some (am_psh (.retAddr 0) 378), some (am_ald0 2 379), some (am_gf 1 0 382), none, none, some (am_gf 8 3 385), none]
noncomputable def kr_22_48 : List (Option am_Op) := [none, some (am_psh (.retAddr 1) 386), some (am_bin am_sub 387), some (am_cv 24 3 6 390), none, none, some (am_br1 .eq 411 393), none]
noncomputable def kr_22_49 : List (Option am_Op) := [none, some (am_ald0 2 394), some (am_gf 1 5 397), none, none, some (am_ald0 0 398), some (am_gf 6 0 401), none]
noncomputable def kr_22_50 : List (Option am_Op) := [none, some (am_cv 26 1 8 404), none, none, some (am_br1 .eq 411 407), none, none, some (am_psh (.retAddr 1) 408)]
noncomputable def kr_22_51 : List (Option am_Op) := [some (am_jmp 412), none, none, some (am_psh (.retAddr 0) 412), some (am_zret), some (am_psh (.retAddr 0) 414), some (am_zret)]
noncomputable def cd_22 : am_Cd := [kr_22_0, kr_22_1, kr_22_2, kr_22_3, kr_22_4, kr_22_5, kr_22_6, kr_22_7, kr_22_8, kr_22_9, kr_22_10, kr_22_11, kr_22_12, kr_22_13, kr_22_14, kr_22_15, kr_22_16, kr_22_17, kr_22_18, kr_22_19, kr_22_20, kr_22_21, kr_22_22, kr_22_23, kr_22_24, kr_22_25, kr_22_26, kr_22_27, kr_22_28, kr_22_29, kr_22_30, kr_22_31, kr_22_32, kr_22_33, kr_22_34, kr_22_35, kr_22_36, kr_22_37, kr_22_38, kr_22_39, kr_22_40, kr_22_41, kr_22_42, kr_22_43, kr_22_44, kr_22_45, kr_22_46, kr_22_47, kr_22_48, kr_22_49, kr_22_50, kr_22_51]
theorem dd_22_0 : decode prog_8_method_7_code 0 = .ok (.iload_n 1, 1) := by decide +kernel
theorem dd_22_1 : decode prog_8_method_7_code 1 = .ok (.tableswitch 412 ((98 : Nat) : Int) 119 #[212, 412, 412, 412, 295, 109, 412, 412, 412, 412, 412, 154, 103, 412, 412, 412, 412, 115, 412, 248, 412, 356], 103) := by decide +kernel
theorem dd_22_104 : decode prog_8_method_7_code 104 = .ok (.aload_n 0, 1) := by decide +kernel
theorem dd_22_105 : decode prog_8_method_7_code 105 = .ok (.aload_n 2, 1) := by decide +kernel
theorem dd_22_106 : decode prog_8_method_7_code 106 = .ok (.invokevirtual 51, 3) := by decide +kernel
theorem dd_22_109 : decode prog_8_method_7_code 109 = .ok (.ireturn, 1) := by decide +kernel
theorem dd_22_110 : decode prog_8_method_7_code 110 = .ok (.aload_n 0, 1) := by decide +kernel
theorem dd_22_111 : decode prog_8_method_7_code 111 = .ok (.aload_n 2, 1) := by decide +kernel
theorem dd_22_112 : decode prog_8_method_7_code 112 = .ok (.invokevirtual 55, 3) := by decide +kernel
theorem dd_22_115 : decode prog_8_method_7_code 115 = .ok (.ireturn, 1) := by decide +kernel
theorem dd_22_116 : decode prog_8_method_7_code 116 = .ok (.aload_n 0, 1) := by decide +kernel
theorem dd_22_117 : decode prog_8_method_7_code 117 = .ok (.getfield 15, 3) := by decide +kernel
theorem dd_22_120 : decode prog_8_method_7_code 120 = .ok (.iconst 1, 1) := by decide +kernel
theorem dd_22_121 : decode prog_8_method_7_code 121 = .ok (.if_icmp .ne 32, 3) := by decide +kernel
theorem dd_22_124 : decode prog_8_method_7_code 124 = .ok (.aload_n 0, 1) := by decide +kernel
theorem dd_22_125 : decode prog_8_method_7_code 125 = .ok (.iconst 0, 1) := by decide +kernel
theorem dd_22_126 : decode prog_8_method_7_code 126 = .ok (.iconst 0, 1) := by decide +kernel
theorem dd_22_127 : decode prog_8_method_7_code 127 = .ok (.bipush 9, 2) := by decide +kernel
theorem dd_22_129 : decode prog_8_method_7_code 129 = .ok (.invokevirtual 58, 3) := by decide +kernel
theorem dd_22_132 : decode prog_8_method_7_code 132 = .ok (.ifCond .eq 21, 3) := by decide +kernel
theorem dd_22_135 : decode prog_8_method_7_code 135 = .ok (.aload_n 2, 1) := by decide +kernel
theorem dd_22_136 : decode prog_8_method_7_code 136 = .ok (.getfield 62, 3) := by decide +kernel
theorem dd_22_139 : decode prog_8_method_7_code 139 = .ok (.aload_n 0, 1) := by decide +kernel
theorem dd_22_140 : decode prog_8_method_7_code 140 = .ok (.getfield 9, 3) := by decide +kernel
theorem dd_22_143 : decode prog_8_method_7_code 143 = .ok (.invokevirtual 66, 3) := by decide +kernel
theorem dd_22_146 : decode prog_8_method_7_code 146 = .ok (.ifCond .eq 7, 3) := by decide +kernel
theorem dd_22_149 : decode prog_8_method_7_code 149 = .ok (.iconst 1, 1) := by decide +kernel
theorem dd_22_150 : decode prog_8_method_7_code 150 = .ok (.goto 4, 3) := by decide +kernel
theorem dd_22_153 : decode prog_8_method_7_code 153 = .ok (.iconst 0, 1) := by decide +kernel
theorem dd_22_154 : decode prog_8_method_7_code 154 = .ok (.ireturn, 1) := by decide +kernel
theorem dd_22_155 : decode prog_8_method_7_code 155 = .ok (.aload_n 0, 1) := by decide +kernel
theorem dd_22_156 : decode prog_8_method_7_code 156 = .ok (.getfield 15, 3) := by decide +kernel
theorem dd_22_159 : decode prog_8_method_7_code 159 = .ok (.iconst 5, 1) := by decide +kernel
theorem dd_22_160 : decode prog_8_method_7_code 160 = .ok (.if_icmp .ne 51, 3) := by decide +kernel
theorem dd_22_163 : decode prog_8_method_7_code 163 = .ok (.aload_n 0, 1) := by decide +kernel
theorem dd_22_164 : decode prog_8_method_7_code 164 = .ok (.aload_n 2, 1) := by decide +kernel
theorem dd_22_165 : decode prog_8_method_7_code 165 = .ok (.invokevirtual 72, 3) := by decide +kernel
theorem dd_22_168 : decode prog_8_method_7_code 168 = .ok (.ifCond .eq 43, 3) := by decide +kernel
theorem dd_22_171 : decode prog_8_method_7_code 171 = .ok (.aload_n 0, 1) := by decide +kernel
theorem dd_22_172 : decode prog_8_method_7_code 172 = .ok (.iconst 3, 1) := by decide +kernel
theorem dd_22_173 : decode prog_8_method_7_code 173 = .ok (.iconst 0, 1) := by decide +kernel
theorem dd_22_174 : decode prog_8_method_7_code 174 = .ok (.bipush 9, 2) := by decide +kernel
theorem dd_22_176 : decode prog_8_method_7_code 176 = .ok (.invokevirtual 58, 3) := by decide +kernel
theorem dd_22_179 : decode prog_8_method_7_code 179 = .ok (.ifCond .eq 32, 3) := by decide +kernel
theorem dd_22_182 : decode prog_8_method_7_code 182 = .ok (.aload_n 0, 1) := by decide +kernel
theorem dd_22_183 : decode prog_8_method_7_code 183 = .ok (.iconst 4, 1) := by decide +kernel
theorem dd_22_184 : decode prog_8_method_7_code 184 = .ok (.iconst 0, 1) := by decide +kernel
theorem dd_22_185 : decode prog_8_method_7_code 185 = .ok (.bipush 8, 2) := by decide +kernel
theorem dd_22_187 : decode prog_8_method_7_code 187 = .ok (.invokevirtual 58, 3) := by decide +kernel
theorem dd_22_190 : decode prog_8_method_7_code 190 = .ok (.ifCond .eq 21, 3) := by decide +kernel
theorem dd_22_193 : decode prog_8_method_7_code 193 = .ok (.aload_n 2, 1) := by decide +kernel
theorem dd_22_194 : decode prog_8_method_7_code 194 = .ok (.getfield 75, 3) := by decide +kernel
theorem dd_22_197 : decode prog_8_method_7_code 197 = .ok (.aload_n 0, 1) := by decide +kernel
theorem dd_22_198 : decode prog_8_method_7_code 198 = .ok (.getfield 9, 3) := by decide +kernel
theorem dd_22_201 : decode prog_8_method_7_code 201 = .ok (.invokevirtual 66, 3) := by decide +kernel
theorem dd_22_204 : decode prog_8_method_7_code 204 = .ok (.ifCond .eq 7, 3) := by decide +kernel
theorem dd_22_207 : decode prog_8_method_7_code 207 = .ok (.iconst 1, 1) := by decide +kernel
theorem dd_22_208 : decode prog_8_method_7_code 208 = .ok (.goto 4, 3) := by decide +kernel
theorem dd_22_211 : decode prog_8_method_7_code 211 = .ok (.iconst 0, 1) := by decide +kernel
theorem dd_22_212 : decode prog_8_method_7_code 212 = .ok (.ireturn, 1) := by decide +kernel
theorem dd_22_213 : decode prog_8_method_7_code 213 = .ok (.aload_n 0, 1) := by decide +kernel
theorem dd_22_214 : decode prog_8_method_7_code 214 = .ok (.getfield 15, 3) := by decide +kernel
theorem dd_22_217 : decode prog_8_method_7_code 217 = .ok (.iconst 3, 1) := by decide +kernel
theorem dd_22_218 : decode prog_8_method_7_code 218 = .ok (.if_icmp .ne 29, 3) := by decide +kernel
theorem dd_22_221 : decode prog_8_method_7_code 221 = .ok (.aload_n 0, 1) := by decide +kernel
theorem dd_22_222 : decode prog_8_method_7_code 222 = .ok (.aload_n 2, 1) := by decide +kernel
theorem dd_22_223 : decode prog_8_method_7_code 223 = .ok (.invokevirtual 72, 3) := by decide +kernel
theorem dd_22_226 : decode prog_8_method_7_code 226 = .ok (.ifCond .eq 21, 3) := by decide +kernel
theorem dd_22_229 : decode prog_8_method_7_code 229 = .ok (.aload_n 2, 1) := by decide +kernel
theorem dd_22_230 : decode prog_8_method_7_code 230 = .ok (.getfield 78, 3) := by decide +kernel
theorem dd_22_233 : decode prog_8_method_7_code 233 = .ok (.aload_n 0, 1) := by decide +kernel
theorem dd_22_234 : decode prog_8_method_7_code 234 = .ok (.getfield 9, 3) := by decide +kernel
theorem dd_22_237 : decode prog_8_method_7_code 237 = .ok (.invokevirtual 66, 3) := by decide +kernel
theorem dd_22_240 : decode prog_8_method_7_code 240 = .ok (.ifCond .eq 7, 3) := by decide +kernel
theorem dd_22_243 : decode prog_8_method_7_code 243 = .ok (.iconst 1, 1) := by decide +kernel
theorem dd_22_244 : decode prog_8_method_7_code 244 = .ok (.goto 4, 3) := by decide +kernel
theorem dd_22_247 : decode prog_8_method_7_code 247 = .ok (.iconst 0, 1) := by decide +kernel
theorem dd_22_248 : decode prog_8_method_7_code 248 = .ok (.ireturn, 1) := by decide +kernel
theorem dd_22_249 : decode prog_8_method_7_code 249 = .ok (.aload_n 0, 1) := by decide +kernel
theorem dd_22_250 : decode prog_8_method_7_code 250 = .ok (.getfield 15, 3) := by decide +kernel
theorem dd_22_253 : decode prog_8_method_7_code 253 = .ok (.iconst 4, 1) := by decide +kernel
theorem dd_22_254 : decode prog_8_method_7_code 254 = .ok (.if_icmp .ne 40, 3) := by decide +kernel
theorem dd_22_257 : decode prog_8_method_7_code 257 = .ok (.aload_n 0, 1) := by decide +kernel
theorem dd_22_258 : decode prog_8_method_7_code 258 = .ok (.aload_n 2, 1) := by decide +kernel
theorem dd_22_259 : decode prog_8_method_7_code 259 = .ok (.invokevirtual 72, 3) := by decide +kernel
theorem dd_22_262 : decode prog_8_method_7_code 262 = .ok (.ifCond .eq 32, 3) := by decide +kernel
theorem dd_22_265 : decode prog_8_method_7_code 265 = .ok (.aload_n 0, 1) := by decide +kernel
theorem dd_22_266 : decode prog_8_method_7_code 266 = .ok (.iconst 3, 1) := by decide +kernel
theorem dd_22_267 : decode prog_8_method_7_code 267 = .ok (.iconst 0, 1) := by decide +kernel
theorem dd_22_268 : decode prog_8_method_7_code 268 = .ok (.bipush 10, 2) := by decide +kernel
theorem dd_22_270 : decode prog_8_method_7_code 270 = .ok (.invokevirtual 58, 3) := by decide +kernel
theorem dd_22_273 : decode prog_8_method_7_code 273 = .ok (.ifCond .eq 21, 3) := by decide +kernel
theorem dd_22_276 : decode prog_8_method_7_code 276 = .ok (.aload_n 2, 1) := by decide +kernel
theorem dd_22_277 : decode prog_8_method_7_code 277 = .ok (.getfield 81, 3) := by decide +kernel
theorem dd_22_280 : decode prog_8_method_7_code 280 = .ok (.aload_n 0, 1) := by decide +kernel
theorem dd_22_281 : decode prog_8_method_7_code 281 = .ok (.getfield 9, 3) := by decide +kernel
theorem dd_22_284 : decode prog_8_method_7_code 284 = .ok (.invokevirtual 66, 3) := by decide +kernel
theorem dd_22_287 : decode prog_8_method_7_code 287 = .ok (.ifCond .eq 7, 3) := by decide +kernel
theorem dd_22_290 : decode prog_8_method_7_code 290 = .ok (.iconst 1, 1) := by decide +kernel
theorem dd_22_291 : decode prog_8_method_7_code 291 = .ok (.goto 4, 3) := by decide +kernel
theorem dd_22_294 : decode prog_8_method_7_code 294 = .ok (.iconst 0, 1) := by decide +kernel
theorem dd_22_295 : decode prog_8_method_7_code 295 = .ok (.ireturn, 1) := by decide +kernel
theorem dd_22_296 : decode prog_8_method_7_code 296 = .ok (.aload_n 0, 1) := by decide +kernel
theorem dd_22_297 : decode prog_8_method_7_code 297 = .ok (.getfield 15, 3) := by decide +kernel
theorem dd_22_300 : decode prog_8_method_7_code 300 = .ok (.iconst 3, 1) := by decide +kernel
theorem dd_22_301 : decode prog_8_method_7_code 301 = .ok (.if_icmp .ne 54, 3) := by decide +kernel
theorem dd_22_304 : decode prog_8_method_7_code 304 = .ok (.aload_n 0, 1) := by decide +kernel
theorem dd_22_305 : decode prog_8_method_7_code 305 = .ok (.iconst 0, 1) := by decide +kernel
theorem dd_22_306 : decode prog_8_method_7_code 306 = .ok (.iconst 0, 1) := by decide +kernel
theorem dd_22_307 : decode prog_8_method_7_code 307 = .ok (.bipush 7, 2) := by decide +kernel
theorem dd_22_309 : decode prog_8_method_7_code 309 = .ok (.invokevirtual 58, 3) := by decide +kernel
theorem dd_22_312 : decode prog_8_method_7_code 312 = .ok (.ifCond .eq 43, 3) := by decide +kernel
theorem dd_22_315 : decode prog_8_method_7_code 315 = .ok (.aload_n 0, 1) := by decide +kernel
theorem dd_22_316 : decode prog_8_method_7_code 316 = .ok (.iconst 1, 1) := by decide +kernel
theorem dd_22_317 : decode prog_8_method_7_code 317 = .ok (.iconst 0, 1) := by decide +kernel
theorem dd_22_318 : decode prog_8_method_7_code 318 = .ok (.bipush 7, 2) := by decide +kernel
theorem dd_22_320 : decode prog_8_method_7_code 320 = .ok (.invokevirtual 58, 3) := by decide +kernel
theorem dd_22_323 : decode prog_8_method_7_code 323 = .ok (.ifCond .eq 32, 3) := by decide +kernel
theorem dd_22_326 : decode prog_8_method_7_code 326 = .ok (.aload_n 0, 1) := by decide +kernel
theorem dd_22_327 : decode prog_8_method_7_code 327 = .ok (.iconst 2, 1) := by decide +kernel
theorem dd_22_328 : decode prog_8_method_7_code 328 = .ok (.iconst 0, 1) := by decide +kernel
theorem dd_22_329 : decode prog_8_method_7_code 329 = .ok (.bipush 7, 2) := by decide +kernel
theorem dd_22_331 : decode prog_8_method_7_code 331 = .ok (.invokevirtual 58, 3) := by decide +kernel
theorem dd_22_334 : decode prog_8_method_7_code 334 = .ok (.ifCond .eq 21, 3) := by decide +kernel
theorem dd_22_337 : decode prog_8_method_7_code 337 = .ok (.aload_n 2, 1) := by decide +kernel
theorem dd_22_338 : decode prog_8_method_7_code 338 = .ok (.getfield 84, 3) := by decide +kernel
theorem dd_22_341 : decode prog_8_method_7_code 341 = .ok (.aload_n 0, 1) := by decide +kernel
theorem dd_22_342 : decode prog_8_method_7_code 342 = .ok (.getfield 9, 3) := by decide +kernel
theorem dd_22_345 : decode prog_8_method_7_code 345 = .ok (.invokevirtual 66, 3) := by decide +kernel
theorem dd_22_348 : decode prog_8_method_7_code 348 = .ok (.ifCond .eq 7, 3) := by decide +kernel
theorem dd_22_351 : decode prog_8_method_7_code 351 = .ok (.iconst 1, 1) := by decide +kernel
theorem dd_22_352 : decode prog_8_method_7_code 352 = .ok (.goto 4, 3) := by decide +kernel
theorem dd_22_355 : decode prog_8_method_7_code 355 = .ok (.iconst 0, 1) := by decide +kernel
theorem dd_22_356 : decode prog_8_method_7_code 356 = .ok (.ireturn, 1) := by decide +kernel
theorem dd_22_357 : decode prog_8_method_7_code 357 = .ok (.aload_n 0, 1) := by decide +kernel
theorem dd_22_358 : decode prog_8_method_7_code 358 = .ok (.getfield 15, 3) := by decide +kernel
theorem dd_22_361 : decode prog_8_method_7_code 361 = .ok (.iconst 2, 1) := by decide +kernel
theorem dd_22_362 : decode prog_8_method_7_code 362 = .ok (.if_icmp .ne 49, 3) := by decide +kernel
theorem dd_22_365 : decode prog_8_method_7_code 365 = .ok (.aload_n 0, 1) := by decide +kernel
theorem dd_22_366 : decode prog_8_method_7_code 366 = .ok (.iconst 0, 1) := by decide +kernel
theorem dd_22_367 : decode prog_8_method_7_code 367 = .ok (.iconst 0, 1) := by decide +kernel
theorem dd_22_368 : decode prog_8_method_7_code 368 = .ok (.iconst 3, 1) := by decide +kernel
theorem dd_22_369 : decode prog_8_method_7_code 369 = .ok (.invokevirtual 58, 3) := by decide +kernel
theorem dd_22_372 : decode prog_8_method_7_code 372 = .ok (.ifCond .eq 39, 3) := by decide +kernel
theorem dd_22_375 : decode prog_8_method_7_code 375 = .ok (.aload_n 0, 1) := by decide +kernel
theorem dd_22_376 : decode prog_8_method_7_code 376 = .ok (.iconst 1, 1) := by decide +kernel
theorem dd_22_377 : decode prog_8_method_7_code 377 = .ok (.iconst 0, 1) := by decide +kernel
theorem dd_22_378 : decode prog_8_method_7_code 378 = .ok (.aload_n 2, 1) := by decide +kernel
theorem dd_22_379 : decode prog_8_method_7_code 379 = .ok (.getfield 62, 3) := by decide +kernel
theorem dd_22_382 : decode prog_8_method_7_code 382 = .ok (.getfield 87, 3) := by decide +kernel
theorem dd_22_385 : decode prog_8_method_7_code 385 = .ok (.iconst 1, 1) := by decide +kernel
theorem dd_22_386 : decode prog_8_method_7_code 386 = .ok (.isub, 1) := by decide +kernel
theorem dd_22_387 : decode prog_8_method_7_code 387 = .ok (.invokevirtual 58, 3) := by decide +kernel
theorem dd_22_390 : decode prog_8_method_7_code 390 = .ok (.ifCond .eq 21, 3) := by decide +kernel
theorem dd_22_393 : decode prog_8_method_7_code 393 = .ok (.aload_n 2, 1) := by decide +kernel
theorem dd_22_394 : decode prog_8_method_7_code 394 = .ok (.getfield 90, 3) := by decide +kernel
theorem dd_22_397 : decode prog_8_method_7_code 397 = .ok (.aload_n 0, 1) := by decide +kernel
theorem dd_22_398 : decode prog_8_method_7_code 398 = .ok (.getfield 9, 3) := by decide +kernel
theorem dd_22_401 : decode prog_8_method_7_code 401 = .ok (.invokevirtual 66, 3) := by decide +kernel
theorem dd_22_404 : decode prog_8_method_7_code 404 = .ok (.ifCond .eq 7, 3) := by decide +kernel
theorem dd_22_407 : decode prog_8_method_7_code 407 = .ok (.iconst 1, 1) := by decide +kernel
theorem dd_22_408 : decode prog_8_method_7_code 408 = .ok (.goto 4, 3) := by decide +kernel
theorem dd_22_411 : decode prog_8_method_7_code 411 = .ok (.iconst 0, 1) := by decide +kernel
theorem dd_22_412 : decode prog_8_method_7_code 412 = .ok (.ireturn, 1) := by decide +kernel
theorem dd_22_413 : decode prog_8_method_7_code 413 = .ok (.iconst 0, 1) := by decide +kernel
theorem dd_22_414 : decode prog_8_method_7_code 414 = .ok (.ireturn, 1) := by decide +kernel
theorem kb_22_0 : am_row mi_22 0 kr_22_0 := am_rs rfl (ok_iload_n (k := 1) dd_22_0 rfl rfl) (am_rs rfl (ok_tsw dd_22_1 (by decide) (by decide) (by decide) (by decide)) (am_rn rfl (am_rn rfl (am_rn rfl (am_rn rfl (am_rn rfl (am_rn rfl (am_rz))))))))
theorem kb_22_1 : am_row mi_22 8 kr_22_1 := am_rn rfl (am_rn rfl (am_rn rfl (am_rn rfl (am_rn rfl (am_rn rfl (am_rn rfl (am_rn rfl (am_rz))))))))
theorem kb_22_2 : am_row mi_22 16 kr_22_2 := am_rn rfl (am_rn rfl (am_rn rfl (am_rn rfl (am_rn rfl (am_rn rfl (am_rn rfl (am_rn rfl (am_rz))))))))
theorem kb_22_3 : am_row mi_22 24 kr_22_3 := am_rn rfl (am_rn rfl (am_rn rfl (am_rn rfl (am_rn rfl (am_rn rfl (am_rn rfl (am_rn rfl (am_rz))))))))
theorem kb_22_4 : am_row mi_22 32 kr_22_4 := am_rn rfl (am_rn rfl (am_rn rfl (am_rn rfl (am_rn rfl (am_rn rfl (am_rn rfl (am_rn rfl (am_rz))))))))
theorem kb_22_5 : am_row mi_22 40 kr_22_5 := am_rn rfl (am_rn rfl (am_rn rfl (am_rn rfl (am_rn rfl (am_rn rfl (am_rn rfl (am_rn rfl (am_rz))))))))
theorem kb_22_6 : am_row mi_22 48 kr_22_6 := am_rn rfl (am_rn rfl (am_rn rfl (am_rn rfl (am_rn rfl (am_rn rfl (am_rn rfl (am_rn rfl (am_rz))))))))
theorem kb_22_7 : am_row mi_22 56 kr_22_7 := am_rn rfl (am_rn rfl (am_rn rfl (am_rn rfl (am_rn rfl (am_rn rfl (am_rn rfl (am_rn rfl (am_rz))))))))
theorem kb_22_8 : am_row mi_22 64 kr_22_8 := am_rn rfl (am_rn rfl (am_rn rfl (am_rn rfl (am_rn rfl (am_rn rfl (am_rn rfl (am_rn rfl (am_rz))))))))
theorem kb_22_9 : am_row mi_22 72 kr_22_9 := am_rn rfl (am_rn rfl (am_rn rfl (am_rn rfl (am_rn rfl (am_rn rfl (am_rn rfl (am_rn rfl (am_rz))))))))
theorem kb_22_10 : am_row mi_22 80 kr_22_10 := am_rn rfl (am_rn rfl (am_rn rfl (am_rn rfl (am_rn rfl (am_rn rfl (am_rn rfl (am_rn rfl (am_rz))))))))
theorem kb_22_11 : am_row mi_22 88 kr_22_11 := am_rn rfl (am_rn rfl (am_rn rfl (am_rn rfl (am_rn rfl (am_rn rfl (am_rn rfl (am_rn rfl (am_rz))))))))
theorem kb_22_12 : am_row mi_22 96 kr_22_12 := am_rn rfl (am_rn rfl (am_rn rfl (am_rn rfl (am_rn rfl (am_rn rfl (am_rn rfl (am_rn rfl (am_rz))))))))
theorem kb_22_13 : am_row mi_22 104 kr_22_13 := am_rs rfl (ok_aload_n (k := 0) dd_22_104 rfl rfl) (am_rs rfl (ok_aload_n (k := 2) dd_22_105 rfl rfl) (am_rs rfl (ok_cv (M' := mi_23) dd_22_106 rfl rfl w_415 w_417 ps_23 ⟨lk_23.1, lk_23.2.1, lk_23.2.2, by decide, by decide⟩ rfl) (am_rn rfl (am_rn rfl (am_rs rfl (ok_zret dd_22_109 rfl) (am_rs rfl (ok_aload_n (k := 0) dd_22_110 rfl rfl) (am_rs rfl (ok_aload_n (k := 2) dd_22_111 rfl rfl) (am_rz))))))))
theorem kb_22_14 : am_row mi_22 112 kr_22_14 := am_rs rfl (ok_cv (M' := mi_25) dd_22_112 rfl rfl w_423 w_425 ps_25 ⟨lk_25.1, lk_25.2.1, lk_25.2.2, by decide, by decide⟩ rfl) (am_rn rfl (am_rn rfl (am_rs rfl (ok_zret dd_22_115 rfl) (am_rs rfl (ok_aload_n (k := 0) dd_22_116 rfl rfl) (am_rs rfl (ok_gf dd_22_117 rfl am_ck6 (by decide) (Or.inl w_37)) (am_rn rfl (am_rn rfl (am_rz))))))))
theorem kb_22_15 : am_row mi_22 120 kr_22_15 := am_rs rfl (ok_iconst dd_22_120 ic_1 rfl) (am_rs rfl (ok_icmp dd_22_121 (by decide) rfl) (am_rn rfl (am_rn rfl (am_rs rfl (ok_aload_n (k := 0) dd_22_124 rfl rfl) (am_rs rfl (ok_iconst dd_22_125 ic_0 rfl) (am_rs rfl (ok_iconst dd_22_126 ic_0 rfl) (am_rs rfl (ok_bipush dd_22_127 bi_9 rfl) (am_rz))))))))
theorem kb_22_16 : am_row mi_22 128 kr_22_16 := am_rn rfl (am_rs rfl (ok_cv (M' := mi_24) dd_22_129 rfl rfl w_419 w_421 ps_24 ⟨lk_24.1, lk_24.2.1, lk_24.2.2, by decide, by decide⟩ rfl) (am_rn rfl (am_rn rfl (am_rs rfl (ok_ifc dd_22_132 (by decide) rfl) (am_rn rfl (am_rn rfl (am_rs rfl (ok_aload_n (k := 2) dd_22_135 rfl rfl) (am_rz))))))))
theorem kb_22_17 : am_row mi_22 136 kr_22_17 := am_rs rfl (ok_gf dd_22_136 rfl am_ck1 (by decide) (Or.inr ⟨_, w_85⟩)) (am_rn rfl (am_rn rfl (am_rs rfl (ok_aload_n (k := 0) dd_22_139 rfl rfl) (am_rs rfl (ok_gf dd_22_140 rfl am_ck6 (by decide) (Or.inl w_36)) (am_rn rfl (am_rn rfl (am_rs rfl (ok_cv (M' := mi_26) dd_22_143 rfl rfl w_427 w_428 w_429 ⟨lk_26.1, lk_26.2.1, lk_26.2.2, by decide, by decide⟩ rfl) (am_rz))))))))
theorem kb_22_18 : am_row mi_22 144 kr_22_18 := am_rn rfl (am_rn rfl (am_rs rfl (ok_ifc dd_22_146 (by decide) rfl) (am_rn rfl (am_rn rfl (am_rs rfl (ok_iconst dd_22_149 ic_1 rfl) (am_rs rfl (ok_goto dd_22_150 (by decide)) (am_rn rfl (am_rz))))))))
theorem kb_22_19 : am_row mi_22 152 kr_22_19 := am_rn rfl (am_rs rfl (ok_iconst dd_22_153 ic_0 rfl) (am_rs rfl (ok_zret dd_22_154 rfl) (am_rs rfl (ok_aload_n (k := 0) dd_22_155 rfl rfl) (am_rs rfl (ok_gf dd_22_156 rfl am_ck6 (by decide) (Or.inl w_37)) (am_rn rfl (am_rn rfl (am_rs rfl (ok_iconst dd_22_159 ic_5 rfl) (am_rz))))))))
theorem kb_22_20 : am_row mi_22 160 kr_22_20 := am_rs rfl (ok_icmp dd_22_160 (by decide) rfl) (am_rn rfl (am_rn rfl (am_rs rfl (ok_aload_n (k := 0) dd_22_163 rfl rfl) (am_rs rfl (ok_aload_n (k := 2) dd_22_164 rfl rfl) (am_rs rfl (ok_cv (M' := mi_27) dd_22_165 rfl rfl w_434 w_436 ps_27 ⟨lk_27.1, lk_27.2.1, lk_27.2.2, by decide, by decide⟩ rfl) (am_rn rfl (am_rn rfl (am_rz))))))))
theorem kb_22_21 : am_row mi_22 168 kr_22_21 := am_rs rfl (ok_ifc dd_22_168 (by decide) rfl) (am_rn rfl (am_rn rfl (am_rs rfl (ok_aload_n (k := 0) dd_22_171 rfl rfl) (am_rs rfl (ok_iconst dd_22_172 ic_3 rfl) (am_rs rfl (ok_iconst dd_22_173 ic_0 rfl) (am_rs rfl (ok_bipush dd_22_174 bi_9 rfl) (am_rn rfl (am_rz))))))))
theorem kb_22_22 : am_row mi_22 176 kr_22_22 := am_rs rfl (ok_cv (M' := mi_24) dd_22_176 rfl rfl w_419 w_421 ps_24 ⟨lk_24.1, lk_24.2.1, lk_24.2.2, by decide, by decide⟩ rfl) (am_rn rfl (am_rn rfl (am_rs rfl (ok_ifc dd_22_179 (by decide) rfl) (am_rn rfl (am_rn rfl (am_rs rfl (ok_aload_n (k := 0) dd_22_182 rfl rfl) (am_rs rfl (ok_iconst dd_22_183 ic_4 rfl) (am_rz))))))))
theorem kb_22_23 : am_row mi_22 184 kr_22_23 := am_rs rfl (ok_iconst dd_22_184 ic_0 rfl) (am_rs rfl (ok_bipush dd_22_185 bi_8 rfl) (am_rn rfl (am_rs rfl (ok_cv (M' := mi_24) dd_22_187 rfl rfl w_419 w_421 ps_24 ⟨lk_24.1, lk_24.2.1, lk_24.2.2, by decide, by decide⟩ rfl) (am_rn rfl (am_rn rfl (am_rs rfl (ok_ifc dd_22_190 (by decide) rfl) (am_rn rfl (am_rz))))))))
theorem kb_22_24 : am_row mi_22 192 kr_22_24 := am_rn rfl (am_rs rfl (ok_aload_n (k := 2) dd_22_193 rfl rfl) (am_rs rfl (ok_gf dd_22_194 rfl am_ck1 (by decide) (Or.inr ⟨_, w_88⟩)) (am_rn rfl (am_rn rfl (am_rs rfl (ok_aload_n (k := 0) dd_22_197 rfl rfl) (am_rs rfl (ok_gf dd_22_198 rfl am_ck6 (by decide) (Or.inl w_36)) (am_rn rfl (am_rz))))))))
theorem kb_22_25 : am_row mi_22 200 kr_22_25 := am_rn rfl (am_rs rfl (ok_cv (M' := mi_26) dd_22_201 rfl rfl w_427 w_428 w_429 ⟨lk_26.1, lk_26.2.1, lk_26.2.2, by decide, by decide⟩ rfl) (am_rn rfl (am_rn rfl (am_rs rfl (ok_ifc dd_22_204 (by decide) rfl) (am_rn rfl (am_rn rfl (am_rs rfl (ok_iconst dd_22_207 ic_1 rfl) (am_rz))))))))
theorem kb_22_26 : am_row mi_22 208 kr_22_26 := am_rs rfl (ok_goto dd_22_208 (by decide)) (am_rn rfl (am_rn rfl (am_rs rfl (ok_iconst dd_22_211 ic_0 rfl) (am_rs rfl (ok_zret dd_22_212 rfl) (am_rs rfl (ok_aload_n (k := 0) dd_22_213 rfl rfl) (am_rs rfl (ok_gf dd_22_214 rfl am_ck6 (by decide) (Or.inl w_37)) (am_rn rfl (am_rz))))))))
theorem kb_22_27 : am_row mi_22 216 kr_22_27 := am_rn rfl (am_rs rfl (ok_iconst dd_22_217 ic_3 rfl) (am_rs rfl (ok_icmp dd_22_218 (by decide) rfl) (am_rn rfl (am_rn rfl (am_rs rfl (ok_aload_n (k := 0) dd_22_221 rfl rfl) (am_rs rfl (ok_aload_n (k := 2) dd_22_222 rfl rfl) (am_rs rfl (ok_cv (M' := mi_27) dd_22_223 rfl rfl w_434 w_436 ps_27 ⟨lk_27.1, lk_27.2.1, lk_27.2.2, by decide, by decide⟩ rfl) (am_rz))))))))
theorem kb_22_28 : am_row mi_22 224 kr_22_28 := am_rn rfl (am_rn rfl (am_rs rfl (ok_ifc dd_22_226 (by decide) rfl) (am_rn rfl (am_rn rfl (am_rs rfl (ok_aload_n (k := 2) dd_22_229 rfl rfl) (am_rs rfl (ok_gf dd_22_230 rfl am_ck1 (by decide) (Or.inr ⟨_, w_92⟩)) (am_rn rfl (am_rz))))))))
theorem kb_22_29 : am_row mi_22 232 kr_22_29 := am_rn rfl (am_rs rfl (ok_aload_n (k := 0) dd_22_233 rfl rfl) (am_rs rfl (ok_gf dd_22_234 rfl am_ck6 (by decide) (Or.inl w_36)) (am_rn rfl (am_rn rfl (am_rs rfl (ok_cv (M' := mi_26) dd_22_237 rfl rfl w_427 w_428 w_429 ⟨lk_26.1, lk_26.2.1, lk_26.2.2, by decide, by decide⟩ rfl) (am_rn rfl (am_rn rfl (am_rz))))))))
theorem kb_22_30 : am_row mi_22 240 kr_22_30 := am_rs rfl (ok_ifc dd_22_240 (by decide) rfl) (am_rn rfl (am_rn rfl (am_rs rfl (ok_iconst dd_22_243 ic_1 rfl) (am_rs rfl (ok_goto dd_22_244 (by decide)) (am_rn rfl (am_rn rfl (am_rs rfl (ok_iconst dd_22_247 ic_0 rfl) (am_rz))))))))
theorem kb_22_31 : am_row mi_22 248 kr_22_31 := am_rs rfl (ok_zret dd_22_248 rfl) (am_rs rfl (ok_aload_n (k := 0) dd_22_249 rfl rfl) (am_rs rfl (ok_gf dd_22_250 rfl am_ck6 (by decide) (Or.inl w_37)) (am_rn rfl (am_rn rfl (am_rs rfl (ok_iconst dd_22_253 ic_4 rfl) (am_rs rfl (ok_icmp dd_22_254 (by decide) rfl) (am_rn rfl (am_rz))))))))
theorem kb_22_32 : am_row mi_22 256 kr_22_32 := am_rn rfl (am_rs rfl (ok_aload_n (k := 0) dd_22_257 rfl rfl) (am_rs rfl (ok_aload_n (k := 2) dd_22_258 rfl rfl) (am_rs rfl (ok_cv (M' := mi_27) dd_22_259 rfl rfl w_434 w_436 ps_27 ⟨lk_27.1, lk_27.2.1, lk_27.2.2, by decide, by decide⟩ rfl) (am_rn rfl (am_rn rfl (am_rs rfl (ok_ifc dd_22_262 (by decide) rfl) (am_rn rfl (am_rz))))))))
theorem kb_22_33 : am_row mi_22 264 kr_22_33 := am_rn rfl (am_rs rfl (ok_aload_n (k := 0) dd_22_265 rfl rfl) (am_rs rfl (ok_iconst dd_22_266 ic_3 rfl) (am_rs rfl (ok_iconst dd_22_267 ic_0 rfl) (am_rs rfl (ok_bipush dd_22_268 bi_10 rfl) (am_rn rfl (am_rs rfl (ok_cv (M' := mi_24) dd_22_270 rfl rfl w_419 w_421 ps_24 ⟨lk_24.1, lk_24.2.1, lk_24.2.2, by decide, by decide⟩ rfl) (am_rn rfl (am_rz))))))))
theorem kb_22_34 : am_row mi_22 272 kr_22_34 := am_rn rfl (am_rs rfl (ok_ifc dd_22_273 (by decide) rfl) (am_rn rfl (am_rn rfl (am_rs rfl (ok_aload_n (k := 2) dd_22_276 rfl rfl) (am_rs rfl (ok_gf dd_22_277 rfl am_ck1 (by decide) (Or.inr ⟨_, w_96⟩)) (am_rn rfl (am_rn rfl (am_rz))))))))
theorem kb_22_35 : am_row mi_22 280 kr_22_35 := am_rs rfl (ok_aload_n (k := 0) dd_22_280 rfl rfl) (am_rs rfl (ok_gf dd_22_281 rfl am_ck6 (by decide) (Or.inl w_36)) (am_rn rfl (am_rn rfl (am_rs rfl (ok_cv (M' := mi_26) dd_22_284 rfl rfl w_427 w_428 w_429 ⟨lk_26.1, lk_26.2.1, lk_26.2.2, by decide, by decide⟩ rfl) (am_rn rfl (am_rn rfl (am_rs rfl (ok_ifc dd_22_287 (by decide) rfl) (am_rz))))))))
theorem kb_22_36 : am_row mi_22 288 kr_22_36 := am_rn rfl (am_rn rfl (am_rs rfl (ok_iconst dd_22_290 ic_1 rfl) (am_rs rfl (ok_goto dd_22_291 (by decide)) (am_rn rfl (am_rn rfl (am_rs rfl (ok_iconst dd_22_294 ic_0 rfl) (am_rs rfl (ok_zret dd_22_295 rfl) (am_rz))))))))
theorem kb_22_37 : am_row mi_22 296 kr_22_37 := am_rs rfl (ok_aload_n (k := 0) dd_22_296 rfl rfl) (am_rs rfl (ok_gf dd_22_297 rfl am_ck6 (by decide) (Or.inl w_37)) (am_rn rfl (am_rn rfl (am_rs rfl (ok_iconst dd_22_300 ic_3 rfl) (am_rs rfl (ok_icmp dd_22_301 (by decide) rfl) (am_rn rfl (am_rn rfl (am_rz))))))))
theorem kb_22_38 : am_row mi_22 304 kr_22_38 := am_rs rfl (ok_aload_n (k := 0) dd_22_304 rfl rfl) (am_rs rfl (ok_iconst dd_22_305 ic_0 rfl) (am_rs rfl (ok_iconst dd_22_306 ic_0 rfl) (am_rs rfl (ok_bipush dd_22_307 bi_7 rfl) (am_rn rfl (am_rs rfl (ok_cv (M' := mi_24) dd_22_309 rfl rfl w_419 w_421 ps_24 ⟨lk_24.1, lk_24.2.1, lk_24.2.2, by decide, by decide⟩ rfl) (am_rn rfl (am_rn rfl (am_rz))))))))
theorem kb_22_39 : am_row mi_22 312 kr_22_39 := am_rs rfl (ok_ifc dd_22_312 (by decide) rfl) (am_rn rfl (am_rn rfl (am_rs rfl (ok_aload_n (k := 0) dd_22_315 rfl rfl) (am_rs rfl (ok_iconst dd_22_316 ic_1 rfl) (am_rs rfl (ok_iconst dd_22_317 ic_0 rfl) (am_rs rfl (ok_bipush dd_22_318 bi_7 rfl) (am_rn rfl (am_rz))))))))
theorem kb_22_40 : am_row mi_22 320 kr_22_40 := am_rs rfl (ok_cv (M' := mi_24) dd_22_320 rfl rfl w_419 w_421 ps_24 ⟨lk_24.1, lk_24.2.1, lk_24.2.2, by decide, by decide⟩ rfl) (am_rn rfl (am_rn rfl (am_rs rfl (ok_ifc dd_22_323 (by decide) rfl) (am_rn rfl (am_rn rfl (am_rs rfl (ok_aload_n (k := 0) dd_22_326 rfl rfl) (am_rs rfl (ok_iconst dd_22_327 ic_2 rfl) (am_rz))))))))
theorem kb_22_41 : am_row mi_22 328 kr_22_41 := am_rs rfl (ok_iconst dd_22_328 ic_0 rfl) (am_rs rfl (ok_bipush dd_22_329 bi_7 rfl) (am_rn rfl (am_rs rfl (ok_cv (M' := mi_24) dd_22_331 rfl rfl w_419 w_421 ps_24 ⟨lk_24.1, lk_24.2.1, lk_24.2.2, by decide, by decide⟩ rfl) (am_rn rfl (am_rn rfl (am_rs rfl (ok_ifc dd_22_334 (by decide) rfl) (am_rn rfl (am_rz))))))))
theorem kb_22_42 : am_row mi_22 336 kr_22_42 := am_rn rfl (am_rs rfl (ok_aload_n (k := 2) dd_22_337 rfl rfl) (am_rs rfl (ok_gf dd_22_338 rfl am_ck1 (by decide) (Or.inr ⟨_, w_100⟩)) (am_rn rfl (am_rn rfl (am_rs rfl (ok_aload_n (k := 0) dd_22_341 rfl rfl) (am_rs rfl (ok_gf dd_22_342 rfl am_ck6 (by decide) (Or.inl w_36)) (am_rn rfl (am_rz))))))))
theorem kb_22_43 : am_row mi_22 344 kr_22_43 := am_rn rfl (am_rs rfl (ok_cv (M' := mi_26) dd_22_345 rfl rfl w_427 w_428 w_429 ⟨lk_26.1, lk_26.2.1, lk_26.2.2, by decide, by decide⟩ rfl) (am_rn rfl (am_rn rfl (am_rs rfl (ok_ifc dd_22_348 (by decide) rfl) (am_rn rfl (am_rn rfl (am_rs rfl (ok_iconst dd_22_351 ic_1 rfl) (am_rz))))))))
theorem kb_22_44 : am_row mi_22 352 kr_22_44 := am_rs rfl (ok_goto dd_22_352 (by decide)) (am_rn rfl (am_rn rfl (am_rs rfl (ok_iconst dd_22_355 ic_0 rfl) (am_rs rfl (ok_zret dd_22_356 rfl) (am_rs rfl (ok_aload_n (k := 0) dd_22_357 rfl rfl) (am_rs rfl (ok_gf dd_22_358 rfl am_ck6 (by decide) (Or.inl w_37)) (am_rn rfl (am_rz))))))))
theorem kb_22_45 : am_row mi_22 360 kr_22_45 := am_rn rfl (am_rs rfl (ok_iconst dd_22_361 ic_2 rfl) (am_rs rfl (ok_icmp dd_22_362 (by decide) rfl) (am_rn rfl (am_rn rfl (am_rs rfl (ok_aload_n (k := 0) dd_22_365 rfl rfl) (am_rs rfl (ok_iconst dd_22_366 ic_0 rfl) (am_rs rfl (ok_iconst dd_22_367 ic_0 rfl) (am_rz))))))))
theorem kb_22_46 : am_row mi_22 368 kr_22_46 := am_rs rfl (ok_iconst dd_22_368 ic_3 rfl) (am_rs rfl (ok_cv (M' := mi_24) dd_22_369 rfl rfl w_419 w_421 ps_24 ⟨lk_24.1, lk_24.2.1, lk_24.2.2, by decide, by decide⟩ rfl) (am_rn rfl (am_rn rfl (am_rs rfl (ok_ifc dd_22_372 (by decide) rfl) (am_rn rfl (am_rn rfl (am_rs rfl (ok_aload_n (k := 0) dd_22_375 rfl rfl) (am_rz))))))))
theorem kb_22_47 : am_row mi_22 376 kr_22_47 := am_rs rfl (ok_iconst dd_22_376 ic_1 rfl) (am_rs rfl (ok_iconst dd_22_377 ic_0 rfl) (am_rs rfl (ok_aload_n (k := 2) dd_22_378 rfl rfl) (am_rs rfl (ok_gf dd_22_379 rfl am_ck1 (by decide) (Or.inr ⟨_, w_85⟩)) (am_rn rfl (am_rn rfl (am_rs rfl (ok_gf dd_22_382 rfl am_ck8 (by decide) (Or.inr ⟨_, w_69⟩)) (am_rn rfl (am_rz))))))))
theorem kb_22_48 : am_row mi_22 384 kr_22_48 := am_rn rfl (am_rs rfl (ok_iconst dd_22_385 ic_1 rfl) (am_rs rfl (ok_isub dd_22_386 rfl) (am_rs rfl (ok_cv (M' := mi_24) dd_22_387 rfl rfl w_419 w_421 ps_24 ⟨lk_24.1, lk_24.2.1, lk_24.2.2, by decide, by decide⟩ rfl) (am_rn rfl (am_rn rfl (am_rs rfl (ok_ifc dd_22_390 (by decide) rfl) (am_rn rfl (am_rz))))))))
theorem kb_22_49 : am_row mi_22 392 kr_22_49 := am_rn rfl (am_rs rfl (ok_aload_n (k := 2) dd_22_393 rfl rfl) (am_rs rfl (ok_gf dd_22_394 rfl am_ck1 (by decide) (Or.inr ⟨_, w_103⟩)) (am_rn rfl (am_rn rfl (am_rs rfl (ok_aload_n (k := 0) dd_22_397 rfl rfl) (am_rs rfl (ok_gf dd_22_398 rfl am_ck6 (by decide) (Or.inl w_36)) (am_rn rfl (am_rz))))))))
theorem kb_22_50 : am_row mi_22 400 kr_22_50 := am_rn rfl (am_rs rfl (ok_cv (M' := mi_26) dd_22_401 rfl rfl w_427 w_428 w_429 ⟨lk_26.1, lk_26.2.1, lk_26.2.2, by decide, by decide⟩ rfl) (am_rn rfl (am_rn rfl (am_rs rfl (ok_ifc dd_22_404 (by decide) rfl) (am_rn rfl (am_rn rfl (am_rs rfl (ok_iconst dd_22_407 ic_1 rfl) (am_rz))))))))
theorem kb_22_51 : am_row mi_22 408 kr_22_51 := am_rs rfl (ok_goto dd_22_408 (by decide)) (am_rn rfl (am_rn rfl (am_rs rfl (ok_iconst dd_22_411 ic_0 rfl) (am_rs rfl (ok_zret dd_22_412 rfl) (am_rs rfl (ok_iconst dd_22_413 ic_0 rfl) (am_rs rfl (ok_zret dd_22_414 rfl) (am_rz)))))))
theorem ck_22 : am_rows mi_22 0 cd_22 := am_bs rfl kb_22_0 (am_bs rfl kb_22_1 (am_bs rfl kb_22_2 (am_bs rfl kb_22_3 (am_bs rfl kb_22_4 (am_bs rfl kb_22_5 (am_bs rfl kb_22_6 (am_bs rfl kb_22_7 (am_bs rfl kb_22_8 (am_bs rfl kb_22_9 (am_bs rfl kb_22_10 (am_bs rfl kb_22_11 (am_bs rfl kb_22_12 (am_bs rfl kb_22_13 (am_bs rfl kb_22_14 (am_bs rfl kb_22_15 (am_bs rfl kb_22_16 (am_bs rfl kb_22_17 (am_bs rfl kb_22_18 (am_bs rfl kb_22_19 (am_bs rfl kb_22_20 (am_bs rfl kb_22_21 (am_bs rfl kb_22_22 (am_bs rfl kb_22_23 (am_bs rfl kb_22_24 (am_bs rfl kb_22_25 (am_bs rfl kb_22_26 (am_bs rfl kb_22_27 (am_bs rfl kb_22_28 (am_bs rfl kb_22_29 (am_bs rfl kb_22_30 (am_bs rfl kb_22_31 (am_bs rfl kb_22_32 (am_bs rfl kb_22_33 (am_bs rfl kb_22_34 (am_bs rfl kb_22_35 (am_bs rfl kb_22_36 (am_bs rfl kb_22_37 (am_bs rfl kb_22_38 (am_bs rfl kb_22_39 (am_bs rfl kb_22_40 (am_bs rfl kb_22_41 (am_bs rfl kb_22_42 (am_bs rfl kb_22_43 (am_bs rfl kb_22_44 (am_bs rfl kb_22_45 (am_bs rfl kb_22_46 (am_bs rfl kb_22_47 (am_bs rfl kb_22_48 (am_bs rfl kb_22_49 (am_bs rfl kb_22_50 (am_bs rfl kb_22_51 (am_bz))))))))))))))))))))))))))))))))))))))))))))))))))))
/-- OverAndBack$Reader.takeMinutes(LOverAndBack$Evening;)Z -/
noncomputable def kr_23_0 : List (Option am_Op) := [some (am_ald0 0 1), some (am_gf 6 1 4), none, none, some (am_psh (.retAddr 1) 5), some (am_br2 .ne 19 8), none, none]
noncomputable def kr_23_1 : List (Option am_Op) := [some (am_ald0 0 9), some (am_psh (.retAddr 0) 10), some (am_psh (.retAddr 1) 11), some (am_psh (.retAddr 60) 13), none, some (am_cv 24 3 6 16), none, none]
noncomputable def kr_23_2 : List (Option am_Op) := [some (am_br1 .ne 21 19), none, none, some (am_psh (.retAddr 0) 20), some (am_zret), some (am_ald0 1 22), some (am_ald0 0 23), some (am_gf 6 0 26)]
noncomputable def kr_23_3 : List (Option am_Op) := [none, none, some (am_psh (.retAddr 0) 27), some (am_ald 0 28), some (am_pf 1 6 0 31), none, none, some (am_psh (.retAddr 1) 32)]
noncomputable def kr_23_4 : List (Option am_Op) := [some (am_zret)]
noncomputable def cd_23 : am_Cd := [kr_23_0, kr_23_1, kr_23_2, kr_23_3, kr_23_4]
theorem dd_23_0 : decode prog_8_method_8_code 0 = .ok (.aload_n 0, 1) := by decide +kernel
theorem dd_23_1 : decode prog_8_method_8_code 1 = .ok (.getfield 15, 3) := by decide +kernel
theorem dd_23_4 : decode prog_8_method_8_code 4 = .ok (.iconst 1, 1) := by decide +kernel
theorem dd_23_5 : decode prog_8_method_8_code 5 = .ok (.if_icmp .ne 14, 3) := by decide +kernel
theorem dd_23_8 : decode prog_8_method_8_code 8 = .ok (.aload_n 0, 1) := by decide +kernel
theorem dd_23_9 : decode prog_8_method_8_code 9 = .ok (.iconst 0, 1) := by decide +kernel
theorem dd_23_10 : decode prog_8_method_8_code 10 = .ok (.iconst 1, 1) := by decide +kernel
theorem dd_23_11 : decode prog_8_method_8_code 11 = .ok (.bipush 60, 2) := by decide +kernel
theorem dd_23_13 : decode prog_8_method_8_code 13 = .ok (.invokevirtual 58, 3) := by decide +kernel
theorem dd_23_16 : decode prog_8_method_8_code 16 = .ok (.ifCond .ne 5, 3) := by decide +kernel
theorem dd_23_19 : decode prog_8_method_8_code 19 = .ok (.iconst 0, 1) := by decide +kernel
theorem dd_23_20 : decode prog_8_method_8_code 20 = .ok (.ireturn, 1) := by decide +kernel
theorem dd_23_21 : decode prog_8_method_8_code 21 = .ok (.aload_n 1, 1) := by decide +kernel
theorem dd_23_22 : decode prog_8_method_8_code 22 = .ok (.aload_n 0, 1) := by decide +kernel
theorem dd_23_23 : decode prog_8_method_8_code 23 = .ok (.getfield 9, 3) := by decide +kernel
theorem dd_23_26 : decode prog_8_method_8_code 26 = .ok (.iconst 0, 1) := by decide +kernel
theorem dd_23_27 : decode prog_8_method_8_code 27 = .ok (.iaload, 1) := by decide +kernel
theorem dd_23_28 : decode prog_8_method_8_code 28 = .ok (.putfield 93, 3) := by decide +kernel
theorem dd_23_31 : decode prog_8_method_8_code 31 = .ok (.iconst 1, 1) := by decide +kernel
theorem dd_23_32 : decode prog_8_method_8_code 32 = .ok (.ireturn, 1) := by decide +kernel
theorem kb_23_0 : am_row mi_23 0 kr_23_0 := am_rs rfl (ok_aload_n (k := 0) dd_23_0 rfl rfl) (am_rs rfl (ok_gf dd_23_1 rfl am_ck6 (by decide) (Or.inl w_37)) (am_rn rfl (am_rn rfl (am_rs rfl (ok_iconst dd_23_4 ic_1 rfl) (am_rs rfl (ok_icmp dd_23_5 (by decide) rfl) (am_rn rfl (am_rn rfl (am_rz))))))))
theorem kb_23_1 : am_row mi_23 8 kr_23_1 := am_rs rfl (ok_aload_n (k := 0) dd_23_8 rfl rfl) (am_rs rfl (ok_iconst dd_23_9 ic_0 rfl) (am_rs rfl (ok_iconst dd_23_10 ic_1 rfl) (am_rs rfl (ok_bipush dd_23_11 bi_60 rfl) (am_rn rfl (am_rs rfl (ok_cv (M' := mi_24) dd_23_13 rfl rfl w_419 w_421 ps_24 ⟨lk_24.1, lk_24.2.1, lk_24.2.2, by decide, by decide⟩ rfl) (am_rn rfl (am_rn rfl (am_rz))))))))
theorem kb_23_2 : am_row mi_23 16 kr_23_2 := am_rs rfl (ok_ifc dd_23_16 (by decide) rfl) (am_rn rfl (am_rn rfl (am_rs rfl (ok_iconst dd_23_19 ic_0 rfl) (am_rs rfl (ok_zret dd_23_20 rfl) (am_rs rfl (ok_aload_n (k := 1) dd_23_21 rfl rfl) (am_rs rfl (ok_aload_n (k := 0) dd_23_22 rfl rfl) (am_rs rfl (ok_gf dd_23_23 rfl am_ck6 (by decide) (Or.inl w_36)) (am_rz))))))))
theorem kb_23_3 : am_row mi_23 24 kr_23_3 := am_rn rfl (am_rn rfl (am_rs rfl (ok_iconst dd_23_26 ic_0 rfl) (am_rs rfl (ok_iald dd_23_27 rfl) (am_rs rfl (ok_pf dd_23_28 rfl am_ck1 (by decide) (Or.inr ⟨_, w_111⟩) (Or.inl rfl) rfl) (am_rn rfl (am_rn rfl (am_rs rfl (ok_iconst dd_23_31 ic_1 rfl) (am_rz))))))))
theorem kb_23_4 : am_row mi_23 32 kr_23_4 := am_rs rfl (ok_zret dd_23_32 rfl) (am_rz)
theorem ck_23 : am_rows mi_23 0 cd_23 := am_bs rfl kb_23_0 (am_bs rfl kb_23_1 (am_bs rfl kb_23_2 (am_bs rfl kb_23_3 (am_bs rfl kb_23_4 (am_bz)))))
/-- OverAndBack$Reader.within(III)Z -/
noncomputable def kr_24_0 : List (Option am_Op) := [some (am_ild 1 1), some (am_br1 .lt 45 4), none, none, some (am_ild 1 5), some (am_ald0 0 6), some (am_gf 6 1 9), none]
noncomputable def kr_24_1 : List (Option am_Op) := [none, some (am_br2 .ge 45 12), none, none, some (am_ild 1 13), some (am_ald0 0 14), some (am_gf 6 0 17), none]
noncomputable def kr_24_2 : List (Option am_Op) := [none, some (am_len 18), some (am_br2 .ge 45 21), none, none, some (am_ald0 0 22), some (am_gf 6 0 25), none]
noncomputable def kr_24_3 : List (Option am_Op) := [none, some (am_ild 1 26), some (am_ald 0 27), some (am_ild 2 28), some (am_br2 .lt 45 31), none, none, some (am_ald0 0 32)]
noncomputable def kr_24_4 : List (Option am_Op) := [some (am_gf 6 0 35), none, none, some (am_ild 1 36), some (am_ald 0 37), some (am_ild 3 38), some (am_br2 .gt 45 41), none]
noncomputable def kr_24_5 : List (Option am_Op) := [none, some (am_psh (.retAddr 1) 42), some (am_jmp 46), none, none, some (am_psh (.retAddr 0) 46), some (am_zret)]
noncomputable def cd_24 : am_Cd := [kr_24_0, kr_24_1, kr_24_2, kr_24_3, kr_24_4, kr_24_5]
theorem dd_24_0 : decode prog_8_method_11_code 0 = .ok (.iload_n 1, 1) := by decide +kernel
theorem dd_24_1 : decode prog_8_method_11_code 1 = .ok (.ifCond .lt 44, 3) := by decide +kernel
theorem dd_24_4 : decode prog_8_method_11_code 4 = .ok (.iload_n 1, 1) := by decide +kernel
theorem dd_24_5 : decode prog_8_method_11_code 5 = .ok (.aload_n 0, 1) := by decide +kernel
theorem dd_24_6 : decode prog_8_method_11_code 6 = .ok (.getfield 15, 3) := by decide +kernel
theorem dd_24_9 : decode prog_8_method_11_code 9 = .ok (.if_icmp .ge 36, 3) := by decide +kernel
theorem dd_24_12 : decode prog_8_method_11_code 12 = .ok (.iload_n 1, 1) := by decide +kernel
theorem dd_24_13 : decode prog_8_method_11_code 13 = .ok (.aload_n 0, 1) := by decide +kernel
theorem dd_24_14 : decode prog_8_method_11_code 14 = .ok (.getfield 9, 3) := by decide +kernel
theorem dd_24_17 : decode prog_8_method_11_code 17 = .ok (.arraylength, 1) := by decide +kernel
theorem dd_24_18 : decode prog_8_method_11_code 18 = .ok (.if_icmp .ge 27, 3) := by decide +kernel
theorem dd_24_21 : decode prog_8_method_11_code 21 = .ok (.aload_n 0, 1) := by decide +kernel
theorem dd_24_22 : decode prog_8_method_11_code 22 = .ok (.getfield 9, 3) := by decide +kernel
theorem dd_24_25 : decode prog_8_method_11_code 25 = .ok (.iload_n 1, 1) := by decide +kernel
theorem dd_24_26 : decode prog_8_method_11_code 26 = .ok (.iaload, 1) := by decide +kernel
theorem dd_24_27 : decode prog_8_method_11_code 27 = .ok (.iload_n 2, 1) := by decide +kernel
theorem dd_24_28 : decode prog_8_method_11_code 28 = .ok (.if_icmp .lt 17, 3) := by decide +kernel
theorem dd_24_31 : decode prog_8_method_11_code 31 = .ok (.aload_n 0, 1) := by decide +kernel
theorem dd_24_32 : decode prog_8_method_11_code 32 = .ok (.getfield 9, 3) := by decide +kernel
theorem dd_24_35 : decode prog_8_method_11_code 35 = .ok (.iload_n 1, 1) := by decide +kernel
theorem dd_24_36 : decode prog_8_method_11_code 36 = .ok (.iaload, 1) := by decide +kernel
theorem dd_24_37 : decode prog_8_method_11_code 37 = .ok (.iload_n 3, 1) := by decide +kernel
theorem dd_24_38 : decode prog_8_method_11_code 38 = .ok (.if_icmp .gt 7, 3) := by decide +kernel
theorem dd_24_41 : decode prog_8_method_11_code 41 = .ok (.iconst 1, 1) := by decide +kernel
theorem dd_24_42 : decode prog_8_method_11_code 42 = .ok (.goto 4, 3) := by decide +kernel
theorem dd_24_45 : decode prog_8_method_11_code 45 = .ok (.iconst 0, 1) := by decide +kernel
theorem dd_24_46 : decode prog_8_method_11_code 46 = .ok (.ireturn, 1) := by decide +kernel
theorem kb_24_0 : am_row mi_24 0 kr_24_0 := am_rs rfl (ok_iload_n (k := 1) dd_24_0 rfl rfl) (am_rs rfl (ok_ifc dd_24_1 (by decide) rfl) (am_rn rfl (am_rn rfl (am_rs rfl (ok_iload_n (k := 1) dd_24_4 rfl rfl) (am_rs rfl (ok_aload_n (k := 0) dd_24_5 rfl rfl) (am_rs rfl (ok_gf dd_24_6 rfl am_ck6 (by decide) (Or.inl w_37)) (am_rn rfl (am_rz))))))))
theorem kb_24_1 : am_row mi_24 8 kr_24_1 := am_rn rfl (am_rs rfl (ok_icmp dd_24_9 (by decide) rfl) (am_rn rfl (am_rn rfl (am_rs rfl (ok_iload_n (k := 1) dd_24_12 rfl rfl) (am_rs rfl (ok_aload_n (k := 0) dd_24_13 rfl rfl) (am_rs rfl (ok_gf dd_24_14 rfl am_ck6 (by decide) (Or.inl w_36)) (am_rn rfl (am_rz))))))))
theorem kb_24_2 : am_row mi_24 16 kr_24_2 := am_rn rfl (am_rs rfl (ok_len dd_24_17 rfl) (am_rs rfl (ok_icmp dd_24_18 (by decide) rfl) (am_rn rfl (am_rn rfl (am_rs rfl (ok_aload_n (k := 0) dd_24_21 rfl rfl) (am_rs rfl (ok_gf dd_24_22 rfl am_ck6 (by decide) (Or.inl w_36)) (am_rn rfl (am_rz))))))))
theorem kb_24_3 : am_row mi_24 24 kr_24_3 := am_rn rfl (am_rs rfl (ok_iload_n (k := 1) dd_24_25 rfl rfl) (am_rs rfl (ok_iald dd_24_26 rfl) (am_rs rfl (ok_iload_n (k := 2) dd_24_27 rfl rfl) (am_rs rfl (ok_icmp dd_24_28 (by decide) rfl) (am_rn rfl (am_rn rfl (am_rs rfl (ok_aload_n (k := 0) dd_24_31 rfl rfl) (am_rz))))))))
theorem kb_24_4 : am_row mi_24 32 kr_24_4 := am_rs rfl (ok_gf dd_24_32 rfl am_ck6 (by decide) (Or.inl w_36)) (am_rn rfl (am_rn rfl (am_rs rfl (ok_iload_n (k := 1) dd_24_35 rfl rfl) (am_rs rfl (ok_iald dd_24_36 rfl) (am_rs rfl (ok_iload_n (k := 3) dd_24_37 rfl rfl) (am_rs rfl (ok_icmp dd_24_38 (by decide) rfl) (am_rn rfl (am_rz))))))))
theorem kb_24_5 : am_row mi_24 40 kr_24_5 := am_rn rfl (am_rs rfl (ok_iconst dd_24_41 ic_1 rfl) (am_rs rfl (ok_goto dd_24_42 (by decide)) (am_rn rfl (am_rn rfl (am_rs rfl (ok_iconst dd_24_45 ic_0 rfl) (am_rs rfl (ok_zret dd_24_46 rfl) (am_rz)))))))
theorem ck_24 : am_rows mi_24 0 cd_24 := am_bs rfl kb_24_0 (am_bs rfl kb_24_1 (am_bs rfl kb_24_2 (am_bs rfl kb_24_3 (am_bs rfl kb_24_4 (am_bs rfl kb_24_5 (am_bz))))))
/-- OverAndBack$Reader.takeGoing(LOverAndBack$Evening;)Z -/
noncomputable def kr_25_0 : List (Option am_Op) := [some (am_ald0 0 1), some (am_gf 6 1 4), none, none, some (am_psh (.retAddr 1) 5), some (am_br2 .ne 18 8), none, none]
noncomputable def kr_25_1 : List (Option am_Op) := [some (am_ald0 0 9), some (am_psh (.retAddr 0) 10), some (am_psh (.retAddr 0) 11), some (am_psh (.retAddr 3) 12), some (am_cv 24 3 6 15), none, none, some (am_br1 .ne 20 18)]
noncomputable def kr_25_2 : List (Option am_Op) := [none, none, some (am_psh (.retAddr 0) 19), some (am_zret), some (am_ald0 1 21), some (am_ald0 0 22), some (am_gf 6 0 25), none]
noncomputable def kr_25_3 : List (Option am_Op) := [none, some (am_psh (.retAddr 0) 26), some (am_ald 0 27), some (am_pf 1 7 0 30), none, none, some (am_psh (.retAddr 1) 31), some (am_zret)]
noncomputable def cd_25 : am_Cd := [kr_25_0, kr_25_1, kr_25_2, kr_25_3]
theorem dd_25_0 : decode prog_8_method_9_code 0 = .ok (.aload_n 0, 1) := by decide +kernel
theorem dd_25_1 : decode prog_8_method_9_code 1 = .ok (.getfield 15, 3) := by decide +kernel
theorem dd_25_4 : decode prog_8_method_9_code 4 = .ok (.iconst 1, 1) := by decide +kernel
theorem dd_25_5 : decode prog_8_method_9_code 5 = .ok (.if_icmp .ne 13, 3) := by decide +kernel
theorem dd_25_8 : decode prog_8_method_9_code 8 = .ok (.aload_n 0, 1) := by decide +kernel
theorem dd_25_9 : decode prog_8_method_9_code 9 = .ok (.iconst 0, 1) := by decide +kernel
theorem dd_25_10 : decode prog_8_method_9_code 10 = .ok (.iconst 0, 1) := by decide +kernel
theorem dd_25_11 : decode prog_8_method_9_code 11 = .ok (.iconst 3, 1) := by decide +kernel
theorem dd_25_12 : decode prog_8_method_9_code 12 = .ok (.invokevirtual 58, 3) := by decide +kernel
theorem dd_25_15 : decode prog_8_method_9_code 15 = .ok (.ifCond .ne 5, 3) := by decide +kernel
theorem dd_25_18 : decode prog_8_method_9_code 18 = .ok (.iconst 0, 1) := by decide +kernel
theorem dd_25_19 : decode prog_8_method_9_code 19 = .ok (.ireturn, 1) := by decide +kernel
theorem dd_25_20 : decode prog_8_method_9_code 20 = .ok (.aload_n 1, 1) := by decide +kernel
theorem dd_25_21 : decode prog_8_method_9_code 21 = .ok (.aload_n 0, 1) := by decide +kernel
theorem dd_25_22 : decode prog_8_method_9_code 22 = .ok (.getfield 9, 3) := by decide +kernel
theorem dd_25_25 : decode prog_8_method_9_code 25 = .ok (.iconst 0, 1) := by decide +kernel
theorem dd_25_26 : decode prog_8_method_9_code 26 = .ok (.iaload, 1) := by decide +kernel
theorem dd_25_27 : decode prog_8_method_9_code 27 = .ok (.putfield 96, 3) := by decide +kernel
theorem dd_25_30 : decode prog_8_method_9_code 30 = .ok (.iconst 1, 1) := by decide +kernel
theorem dd_25_31 : decode prog_8_method_9_code 31 = .ok (.ireturn, 1) := by decide +kernel
theorem kb_25_0 : am_row mi_25 0 kr_25_0 := am_rs rfl (ok_aload_n (k := 0) dd_25_0 rfl rfl) (am_rs rfl (ok_gf dd_25_1 rfl am_ck6 (by decide) (Or.inl w_37)) (am_rn rfl (am_rn rfl (am_rs rfl (ok_iconst dd_25_4 ic_1 rfl) (am_rs rfl (ok_icmp dd_25_5 (by decide) rfl) (am_rn rfl (am_rn rfl (am_rz))))))))
theorem kb_25_1 : am_row mi_25 8 kr_25_1 := am_rs rfl (ok_aload_n (k := 0) dd_25_8 rfl rfl) (am_rs rfl (ok_iconst dd_25_9 ic_0 rfl) (am_rs rfl (ok_iconst dd_25_10 ic_0 rfl) (am_rs rfl (ok_iconst dd_25_11 ic_3 rfl) (am_rs rfl (ok_cv (M' := mi_24) dd_25_12 rfl rfl w_419 w_421 ps_24 ⟨lk_24.1, lk_24.2.1, lk_24.2.2, by decide, by decide⟩ rfl) (am_rn rfl (am_rn rfl (am_rs rfl (ok_ifc dd_25_15 (by decide) rfl) (am_rz))))))))
theorem kb_25_2 : am_row mi_25 16 kr_25_2 := am_rn rfl (am_rn rfl (am_rs rfl (ok_iconst dd_25_18 ic_0 rfl) (am_rs rfl (ok_zret dd_25_19 rfl) (am_rs rfl (ok_aload_n (k := 1) dd_25_20 rfl rfl) (am_rs rfl (ok_aload_n (k := 0) dd_25_21 rfl rfl) (am_rs rfl (ok_gf dd_25_22 rfl am_ck6 (by decide) (Or.inl w_36)) (am_rn rfl (am_rz))))))))
theorem kb_25_3 : am_row mi_25 24 kr_25_3 := am_rn rfl (am_rs rfl (ok_iconst dd_25_25 ic_0 rfl) (am_rs rfl (ok_iald dd_25_26 rfl) (am_rs rfl (ok_pf dd_25_27 rfl am_ck1 (by decide) (Or.inr ⟨_, w_118⟩) (Or.inl rfl) rfl) (am_rn rfl (am_rn rfl (am_rs rfl (ok_iconst dd_25_30 ic_1 rfl) (am_rs rfl (ok_zret dd_25_31 rfl) (am_rz))))))))
theorem ck_25 : am_rows mi_25 0 cd_25 := am_bs rfl kb_25_0 (am_bs rfl kb_25_1 (am_bs rfl kb_25_2 (am_bs rfl kb_25_3 (am_bz))))
/-- OverAndBack$Rows.add([I)Z -/
noncomputable def kr_26_0 : List (Option am_Op) := [some (am_ald0 0 1), some (am_gf 8 3 4), none, none, some (am_ald0 0 5), some (am_gf 8 2 8), none, none]
noncomputable def kr_26_1 : List (Option am_Op) := [some (am_br2 .ge 39 11), none, none, some (am_ald0 1 12), some (am_len 13), some (am_ald0 0 14), some (am_gf 8 1 17), none]
noncomputable def kr_26_2 : List (Option am_Op) := [none, some (am_br2 .lt 39 20), none, none, some (am_ald0 0 21), some (am_gf 8 3 24), none, none]
noncomputable def kr_26_3 : List (Option am_Op) := [some (am_psh (.retAddr 1) 25), some (am_bin am_add 26), some (am_ald0 0 27), some (am_gf 8 1 30), none, none, some (am_bin am_mul 31), some (am_ald0 0 32)]
noncomputable def kr_26_4 : List (Option am_Op) := [some (am_gf 8 0 35), none, none, some (am_len 36), some (am_br2 .le 41 39), none, none, some (am_psh (.retAddr 0) 40)]
noncomputable def kr_26_5 : List (Option am_Op) := [some (am_zret), some (am_ald0 1 42), some (am_psh (.retAddr 0) 43), some (am_ald0 0 44), some (am_gf 8 0 47), none, none, some (am_ald0 0 48)]
noncomputable def kr_26_6 : List (Option am_Op) := [some (am_gf 8 3 51), none, none, some (am_ald0 0 52), some (am_gf 8 1 55), none, none, some (am_bin am_mul 56)]
noncomputable def kr_26_7 : List (Option am_Op) := [some (am_ald0 0 57), some (am_gf 8 1 60), none, none, some (am_acp 63), none, none, some (am_ald0 0 64)]
noncomputable def kr_26_8 : List (Option am_Op) := [some (am_dup 65), some (am_gf 8 3 68), none, none, some (am_psh (.retAddr 1) 69), some (am_bin am_add 70), some (am_pf 8 3 0 73), none]
noncomputable def kr_26_9 : List (Option am_Op) := [none, some (am_psh (.retAddr 1) 74), some (am_zret)]
noncomputable def cd_26 : am_Cd := [kr_26_0, kr_26_1, kr_26_2, kr_26_3, kr_26_4, kr_26_5, kr_26_6, kr_26_7, kr_26_8, kr_26_9]
theorem dd_26_0 : decode prog_10_method_3_code 0 = .ok (.aload_n 0, 1) := by decide +kernel
theorem dd_26_1 : decode prog_10_method_3_code 1 = .ok (.getfield 15, 3) := by decide +kernel
theorem dd_26_4 : decode prog_10_method_3_code 4 = .ok (.aload_n 0, 1) := by decide +kernel
theorem dd_26_5 : decode prog_10_method_3_code 5 = .ok (.getfield 22, 3) := by decide +kernel
theorem dd_26_8 : decode prog_10_method_3_code 8 = .ok (.if_icmp .ge 31, 3) := by decide +kernel
theorem dd_26_11 : decode prog_10_method_3_code 11 = .ok (.aload_n 1, 1) := by decide +kernel
theorem dd_26_12 : decode prog_10_method_3_code 12 = .ok (.arraylength, 1) := by decide +kernel
theorem dd_26_13 : decode prog_10_method_3_code 13 = .ok (.aload_n 0, 1) := by decide +kernel
theorem dd_26_14 : decode prog_10_method_3_code 14 = .ok (.getfield 19, 3) := by decide +kernel
theorem dd_26_17 : decode prog_10_method_3_code 17 = .ok (.if_icmp .lt 22, 3) := by decide +kernel
theorem dd_26_20 : decode prog_10_method_3_code 20 = .ok (.aload_n 0, 1) := by decide +kernel
theorem dd_26_21 : decode prog_10_method_3_code 21 = .ok (.getfield 15, 3) := by decide +kernel
theorem dd_26_24 : decode prog_10_method_3_code 24 = .ok (.iconst 1, 1) := by decide +kernel
theorem dd_26_25 : decode prog_10_method_3_code 25 = .ok (.iadd, 1) := by decide +kernel
theorem dd_26_26 : decode prog_10_method_3_code 26 = .ok (.aload_n 0, 1) := by decide +kernel
theorem dd_26_27 : decode prog_10_method_3_code 27 = .ok (.getfield 19, 3) := by decide +kernel
theorem dd_26_30 : decode prog_10_method_3_code 30 = .ok (.imul, 1) := by decide +kernel
theorem dd_26_31 : decode prog_10_method_3_code 31 = .ok (.aload_n 0, 1) := by decide +kernel
theorem dd_26_32 : decode prog_10_method_3_code 32 = .ok (.getfield 9, 3) := by decide +kernel
theorem dd_26_35 : decode prog_10_method_3_code 35 = .ok (.arraylength, 1) := by decide +kernel
theorem dd_26_36 : decode prog_10_method_3_code 36 = .ok (.if_icmp .le 5, 3) := by decide +kernel
theorem dd_26_39 : decode prog_10_method_3_code 39 = .ok (.iconst 0, 1) := by decide +kernel
theorem dd_26_40 : decode prog_10_method_3_code 40 = .ok (.ireturn, 1) := by decide +kernel
theorem dd_26_41 : decode prog_10_method_3_code 41 = .ok (.aload_n 1, 1) := by decide +kernel
theorem dd_26_42 : decode prog_10_method_3_code 42 = .ok (.iconst 0, 1) := by decide +kernel
theorem dd_26_43 : decode prog_10_method_3_code 43 = .ok (.aload_n 0, 1) := by decide +kernel
theorem dd_26_44 : decode prog_10_method_3_code 44 = .ok (.getfield 9, 3) := by decide +kernel
theorem dd_26_47 : decode prog_10_method_3_code 47 = .ok (.aload_n 0, 1) := by decide +kernel
theorem dd_26_48 : decode prog_10_method_3_code 48 = .ok (.getfield 15, 3) := by decide +kernel
theorem dd_26_51 : decode prog_10_method_3_code 51 = .ok (.aload_n 0, 1) := by decide +kernel
theorem dd_26_52 : decode prog_10_method_3_code 52 = .ok (.getfield 19, 3) := by decide +kernel
theorem dd_26_55 : decode prog_10_method_3_code 55 = .ok (.imul, 1) := by decide +kernel
theorem dd_26_56 : decode prog_10_method_3_code 56 = .ok (.aload_n 0, 1) := by decide +kernel
theorem dd_26_57 : decode prog_10_method_3_code 57 = .ok (.getfield 19, 3) := by decide +kernel
theorem dd_26_60 : decode prog_10_method_3_code 60 = .ok (.invokestatic 25, 3) := by decide +kernel
theorem dd_26_63 : decode prog_10_method_3_code 63 = .ok (.aload_n 0, 1) := by decide +kernel
theorem dd_26_64 : decode prog_10_method_3_code 64 = .ok (.dup, 1) := by decide +kernel
theorem dd_26_65 : decode prog_10_method_3_code 65 = .ok (.getfield 15, 3) := by decide +kernel
theorem dd_26_68 : decode prog_10_method_3_code 68 = .ok (.iconst 1, 1) := by decide +kernel
theorem dd_26_69 : decode prog_10_method_3_code 69 = .ok (.iadd, 1) := by decide +kernel
theorem dd_26_70 : decode prog_10_method_3_code 70 = .ok (.putfield 15, 3) := by decide +kernel
theorem dd_26_73 : decode prog_10_method_3_code 73 = .ok (.iconst 1, 1) := by decide +kernel
theorem dd_26_74 : decode prog_10_method_3_code 74 = .ok (.ireturn, 1) := by decide +kernel
theorem kb_26_0 : am_row mi_26 0 kr_26_0 := am_rs rfl (ok_aload_n (k := 0) dd_26_0 rfl rfl) (am_rs rfl (ok_gf dd_26_1 rfl am_ck8 (by decide) (Or.inl w_60)) (am_rn rfl (am_rn rfl (am_rs rfl (ok_aload_n (k := 0) dd_26_4 rfl rfl) (am_rs rfl (ok_gf dd_26_5 rfl am_ck8 (by decide) (Or.inl w_59)) (am_rn rfl (am_rn rfl (am_rz))))))))
theorem kb_26_1 : am_row mi_26 8 kr_26_1 := am_rs rfl (ok_icmp dd_26_8 (by decide) rfl) (am_rn rfl (am_rn rfl (am_rs rfl (ok_aload_n (k := 1) dd_26_11 rfl rfl) (am_rs rfl (ok_len dd_26_12 rfl) (am_rs rfl (ok_aload_n (k := 0) dd_26_13 rfl rfl) (am_rs rfl (ok_gf dd_26_14 rfl am_ck8 (by decide) (Or.inl w_58)) (am_rn rfl (am_rz))))))))
theorem kb_26_2 : am_row mi_26 16 kr_26_2 := am_rn rfl (am_rs rfl (ok_icmp dd_26_17 (by decide) rfl) (am_rn rfl (am_rn rfl (am_rs rfl (ok_aload_n (k := 0) dd_26_20 rfl rfl) (am_rs rfl (ok_gf dd_26_21 rfl am_ck8 (by decide) (Or.inl w_60)) (am_rn rfl (am_rn rfl (am_rz))))))))
theorem kb_26_3 : am_row mi_26 24 kr_26_3 := am_rs rfl (ok_iconst dd_26_24 ic_1 rfl) (am_rs rfl (ok_iadd dd_26_25 rfl) (am_rs rfl (ok_aload_n (k := 0) dd_26_26 rfl rfl) (am_rs rfl (ok_gf dd_26_27 rfl am_ck8 (by decide) (Or.inl w_58)) (am_rn rfl (am_rn rfl (am_rs rfl (ok_imul dd_26_30 rfl) (am_rs rfl (ok_aload_n (k := 0) dd_26_31 rfl rfl) (am_rz))))))))
theorem kb_26_4 : am_row mi_26 32 kr_26_4 := am_rs rfl (ok_gf dd_26_32 rfl am_ck8 (by decide) (Or.inl w_57)) (am_rn rfl (am_rn rfl (am_rs rfl (ok_len dd_26_35 rfl) (am_rs rfl (ok_icmp dd_26_36 (by decide) rfl) (am_rn rfl (am_rn rfl (am_rs rfl (ok_iconst dd_26_39 ic_0 rfl) (am_rz))))))))
theorem kb_26_5 : am_row mi_26 40 kr_26_5 := am_rs rfl (ok_zret dd_26_40 rfl) (am_rs rfl (ok_aload_n (k := 1) dd_26_41 rfl rfl) (am_rs rfl (ok_iconst dd_26_42 ic_0 rfl) (am_rs rfl (ok_aload_n (k := 0) dd_26_43 rfl rfl) (am_rs rfl (ok_gf dd_26_44 rfl am_ck8 (by decide) (Or.inl w_57)) (am_rn rfl (am_rn rfl (am_rs rfl (ok_aload_n (k := 0) dd_26_47 rfl rfl) (am_rz))))))))
theorem kb_26_6 : am_row mi_26 48 kr_26_6 := am_rs rfl (ok_gf dd_26_48 rfl am_ck8 (by decide) (Or.inl w_60)) (am_rn rfl (am_rn rfl (am_rs rfl (ok_aload_n (k := 0) dd_26_51 rfl rfl) (am_rs rfl (ok_gf dd_26_52 rfl am_ck8 (by decide) (Or.inl w_58)) (am_rn rfl (am_rn rfl (am_rs rfl (ok_imul dd_26_55 rfl) (am_rz))))))))
theorem kb_26_7 : am_row mi_26 56 kr_26_7 := am_rs rfl (ok_aload_n (k := 0) dd_26_56 rfl rfl) (am_rs rfl (ok_gf dd_26_57 rfl am_ck8 (by decide) (Or.inl w_58)) (am_rn rfl (am_rn rfl (am_rs rfl (ok_acp dd_26_60 rfl w_431 w_433 w_432 w_19 ⟨by decide, by decide⟩) (am_rn rfl (am_rn rfl (am_rs rfl (ok_aload_n (k := 0) dd_26_63 rfl rfl) (am_rz))))))))
theorem kb_26_8 : am_row mi_26 64 kr_26_8 := am_rs rfl (ok_dup dd_26_64 rfl) (am_rs rfl (ok_gf dd_26_65 rfl am_ck8 (by decide) (Or.inl w_60)) (am_rn rfl (am_rn rfl (am_rs rfl (ok_iconst dd_26_68 ic_1 rfl) (am_rs rfl (ok_iadd dd_26_69 rfl) (am_rs rfl (ok_pf dd_26_70 rfl am_ck8 (by decide) (Or.inl w_60) (Or.inl rfl) rfl) (am_rn rfl (am_rz))))))))
theorem kb_26_9 : am_row mi_26 72 kr_26_9 := am_rn rfl (am_rs rfl (ok_iconst dd_26_73 ic_1 rfl) (am_rs rfl (ok_zret dd_26_74 rfl) (am_rz)))
theorem ck_26 : am_rows mi_26 0 cd_26 := am_bs rfl kb_26_0 (am_bs rfl kb_26_1 (am_bs rfl kb_26_2 (am_bs rfl kb_26_3 (am_bs rfl kb_26_4 (am_bs rfl kb_26_5 (am_bs rfl kb_26_6 (am_bs rfl kb_26_7 (am_bs rfl kb_26_8 (am_bs rfl kb_26_9 (am_bz))))))))))
/-- OverAndBack$Reader.isSpan(LOverAndBack$Evening;)Z -/
noncomputable def kr_27_0 : List (Option am_Op) := [some (am_ald0 0 1), some (am_psh (.retAddr 0) 2), some (am_psh (.retAddr 0) 3), some (am_ald0 1 4), some (am_gf 1 0 7), none, none, some (am_gf 8 3 10)]
noncomputable def kr_27_1 : List (Option am_Op) := [none, none, some (am_psh (.retAddr 1) 11), some (am_bin am_sub 12), some (am_cv 24 3 6 15), none, none, some (am_br1 .eq 59 18)]
noncomputable def kr_27_2 : List (Option am_Op) := [none, none, some (am_ald0 0 19), some (am_psh (.retAddr 1) 20), some (am_psh (.retAddr 0) 21), some (am_psh (.retAddr 59) 23), none, some (am_cv 24 3 6 26)]
noncomputable def kr_27_3 : List (Option am_Op) := [none, none, some (am_br1 .eq 59 29), none, none, some (am_ald0 0 30), some (am_psh (.retAddr 2) 31), some (am_psh (.retAddr 0) 32)]
noncomputable def kr_27_4 : List (Option am_Op) := [some (am_psh (.retAddr 59) 34), none, some (am_cv 24 3 6 37), none, none, some (am_br1 .eq 59 40), none, none]
noncomputable def kr_27_5 : List (Option am_Op) := [some (am_ald0 0 41), some (am_gf 6 0 44), none, none, some (am_psh (.retAddr 1) 45), some (am_ald 0 46), some (am_ald0 0 47), some (am_gf 6 0 50)]
noncomputable def kr_27_6 : List (Option am_Op) := [none, none, some (am_psh (.retAddr 2) 51), some (am_ald 0 52), some (am_br2 .gt 59 55), none, none, some (am_psh (.retAddr 1) 56)]
noncomputable def kr_27_7 : List (Option am_Op) := [some (am_jmp 60), none, none, some (am_psh (.retAddr 0) 60), some (am_zret)]
noncomputable def cd_27 : am_Cd := [kr_27_0, kr_27_1, kr_27_2, kr_27_3, kr_27_4, kr_27_5, kr_27_6, kr_27_7]
theorem dd_27_0 : decode prog_8_method_10_code 0 = .ok (.aload_n 0, 1) := by decide +kernel
theorem dd_27_1 : decode prog_8_method_10_code 1 = .ok (.iconst 0, 1) := by decide +kernel
theorem dd_27_2 : decode prog_8_method_10_code 2 = .ok (.iconst 0, 1) := by decide +kernel
theorem dd_27_3 : decode prog_8_method_10_code 3 = .ok (.aload_n 1, 1) := by decide +kernel
theorem dd_27_4 : decode prog_8_method_10_code 4 = .ok (.getfield 62, 3) := by decide +kernel
theorem dd_27_7 : decode prog_8_method_10_code 7 = .ok (.getfield 87, 3) := by decide +kernel
theorem dd_27_10 : decode prog_8_method_10_code 10 = .ok (.iconst 1, 1) := by decide +kernel
theorem dd_27_11 : decode prog_8_method_10_code 11 = .ok (.isub, 1) := by decide +kernel
theorem dd_27_12 : decode prog_8_method_10_code 12 = .ok (.invokevirtual 58, 3) := by decide +kernel
theorem dd_27_15 : decode prog_8_method_10_code 15 = .ok (.ifCond .eq 44, 3) := by decide +kernel
theorem dd_27_18 : decode prog_8_method_10_code 18 = .ok (.aload_n 0, 1) := by decide +kernel
theorem dd_27_19 : decode prog_8_method_10_code 19 = .ok (.iconst 1, 1) := by decide +kernel
theorem dd_27_20 : decode prog_8_method_10_code 20 = .ok (.iconst 0, 1) := by decide +kernel
theorem dd_27_21 : decode prog_8_method_10_code 21 = .ok (.bipush 59, 2) := by decide +kernel
theorem dd_27_23 : decode prog_8_method_10_code 23 = .ok (.invokevirtual 58, 3) := by decide +kernel
theorem dd_27_26 : decode prog_8_method_10_code 26 = .ok (.ifCond .eq 33, 3) := by decide +kernel
theorem dd_27_29 : decode prog_8_method_10_code 29 = .ok (.aload_n 0, 1) := by decide +kernel
theorem dd_27_30 : decode prog_8_method_10_code 30 = .ok (.iconst 2, 1) := by decide +kernel
theorem dd_27_31 : decode prog_8_method_10_code 31 = .ok (.iconst 0, 1) := by decide +kernel
theorem dd_27_32 : decode prog_8_method_10_code 32 = .ok (.bipush 59, 2) := by decide +kernel
theorem dd_27_34 : decode prog_8_method_10_code 34 = .ok (.invokevirtual 58, 3) := by decide +kernel
theorem dd_27_37 : decode prog_8_method_10_code 37 = .ok (.ifCond .eq 22, 3) := by decide +kernel
theorem dd_27_40 : decode prog_8_method_10_code 40 = .ok (.aload_n 0, 1) := by decide +kernel
theorem dd_27_41 : decode prog_8_method_10_code 41 = .ok (.getfield 9, 3) := by decide +kernel
theorem dd_27_44 : decode prog_8_method_10_code 44 = .ok (.iconst 1, 1) := by decide +kernel
theorem dd_27_45 : decode prog_8_method_10_code 45 = .ok (.iaload, 1) := by decide +kernel
theorem dd_27_46 : decode prog_8_method_10_code 46 = .ok (.aload_n 0, 1) := by decide +kernel
theorem dd_27_47 : decode prog_8_method_10_code 47 = .ok (.getfield 9, 3) := by decide +kernel
theorem dd_27_50 : decode prog_8_method_10_code 50 = .ok (.iconst 2, 1) := by decide +kernel
theorem dd_27_51 : decode prog_8_method_10_code 51 = .ok (.iaload, 1) := by decide +kernel
theorem dd_27_52 : decode prog_8_method_10_code 52 = .ok (.if_icmp .gt 7, 3) := by decide +kernel
theorem dd_27_55 : decode prog_8_method_10_code 55 = .ok (.iconst 1, 1) := by decide +kernel
theorem dd_27_56 : decode prog_8_method_10_code 56 = .ok (.goto 4, 3) := by decide +kernel
theorem dd_27_59 : decode prog_8_method_10_code 59 = .ok (.iconst 0, 1) := by decide +kernel
theorem dd_27_60 : decode prog_8_method_10_code 60 = .ok (.ireturn, 1) := by decide +kernel
theorem kb_27_0 : am_row mi_27 0 kr_27_0 := am_rs rfl (ok_aload_n (k := 0) dd_27_0 rfl rfl) (am_rs rfl (ok_iconst dd_27_1 ic_0 rfl) (am_rs rfl (ok_iconst dd_27_2 ic_0 rfl) (am_rs rfl (ok_aload_n (k := 1) dd_27_3 rfl rfl) (am_rs rfl (ok_gf dd_27_4 rfl am_ck1 (by decide) (Or.inr ⟨_, w_85⟩)) (am_rn rfl (am_rn rfl (am_rs rfl (ok_gf dd_27_7 rfl am_ck8 (by decide) (Or.inr ⟨_, w_69⟩)) (am_rz))))))))
theorem kb_27_1 : am_row mi_27 8 kr_27_1 := am_rn rfl (am_rn rfl (am_rs rfl (ok_iconst dd_27_10 ic_1 rfl) (am_rs rfl (ok_isub dd_27_11 rfl) (am_rs rfl (ok_cv (M' := mi_24) dd_27_12 rfl rfl w_419 w_421 ps_24 ⟨lk_24.1, lk_24.2.1, lk_24.2.2, by decide, by decide⟩ rfl) (am_rn rfl (am_rn rfl (am_rs rfl (ok_ifc dd_27_15 (by decide) rfl) (am_rz))))))))
theorem kb_27_2 : am_row mi_27 16 kr_27_2 := am_rn rfl (am_rn rfl (am_rs rfl (ok_aload_n (k := 0) dd_27_18 rfl rfl) (am_rs rfl (ok_iconst dd_27_19 ic_1 rfl) (am_rs rfl (ok_iconst dd_27_20 ic_0 rfl) (am_rs rfl (ok_bipush dd_27_21 bi_59 rfl) (am_rn rfl (am_rs rfl (ok_cv (M' := mi_24) dd_27_23 rfl rfl w_419 w_421 ps_24 ⟨lk_24.1, lk_24.2.1, lk_24.2.2, by decide, by decide⟩ rfl) (am_rz))))))))
theorem kb_27_3 : am_row mi_27 24 kr_27_3 := am_rn rfl (am_rn rfl (am_rs rfl (ok_ifc dd_27_26 (by decide) rfl) (am_rn rfl (am_rn rfl (am_rs rfl (ok_aload_n (k := 0) dd_27_29 rfl rfl) (am_rs rfl (ok_iconst dd_27_30 ic_2 rfl) (am_rs rfl (ok_iconst dd_27_31 ic_0 rfl) (am_rz))))))))
theorem kb_27_4 : am_row mi_27 32 kr_27_4 := am_rs rfl (ok_bipush dd_27_32 bi_59 rfl) (am_rn rfl (am_rs rfl (ok_cv (M' := mi_24) dd_27_34 rfl rfl w_419 w_421 ps_24 ⟨lk_24.1, lk_24.2.1, lk_24.2.2, by decide, by decide⟩ rfl) (am_rn rfl (am_rn rfl (am_rs rfl (ok_ifc dd_27_37 (by decide) rfl) (am_rn rfl (am_rn rfl (am_rz))))))))
theorem kb_27_5 : am_row mi_27 40 kr_27_5 := am_rs rfl (ok_aload_n (k := 0) dd_27_40 rfl rfl) (am_rs rfl (ok_gf dd_27_41 rfl am_ck6 (by decide) (Or.inl w_36)) (am_rn rfl (am_rn rfl (am_rs rfl (ok_iconst dd_27_44 ic_1 rfl) (am_rs rfl (ok_iald dd_27_45 rfl) (am_rs rfl (ok_aload_n (k := 0) dd_27_46 rfl rfl) (am_rs rfl (ok_gf dd_27_47 rfl am_ck6 (by decide) (Or.inl w_36)) (am_rz))))))))
theorem kb_27_6 : am_row mi_27 48 kr_27_6 := am_rn rfl (am_rn rfl (am_rs rfl (ok_iconst dd_27_50 ic_2 rfl) (am_rs rfl (ok_iald dd_27_51 rfl) (am_rs rfl (ok_icmp dd_27_52 (by decide) rfl) (am_rn rfl (am_rn rfl (am_rs rfl (ok_iconst dd_27_55 ic_1 rfl) (am_rz))))))))
theorem kb_27_7 : am_row mi_27 56 kr_27_7 := am_rs rfl (ok_goto dd_27_56 (by decide)) (am_rn rfl (am_rn rfl (am_rs rfl (ok_iconst dd_27_59 ic_0 rfl) (am_rs rfl (ok_zret dd_27_60 rfl) (am_rz)))))
theorem ck_27 : am_rows mi_27 0 cd_27 := am_bs rfl kb_27_0 (am_bs rfl kb_27_1 (am_bs rfl kb_27_2 (am_bs rfl kb_27_3 (am_bs rfl kb_27_4 (am_bs rfl kb_27_5 (am_bs rfl kb_27_6 (am_bs rfl kb_27_7 (am_bz))))))))
/-- OverAndBack.takeEvening()V -/
noncomputable def kr_28_0 : List (Option am_Op) := [some (am_ald0 0 1), some (am_gf 11 5 4), none, none, some (am_ald0 0 5), some (am_gf 11 3 8), none, none]
noncomputable def kr_28_1 : List (Option am_Op) := [some (am_cv 29 1 2 11), none, none, some (am_ald0 0 12), some (am_gf 11 6 15), none, none, some (am_ald0 0 16)]
noncomputable def kr_28_2 : List (Option am_Op) := [some (am_gf 11 3 19), none, none, some (am_psh (.retAddr 0) 20), some (am_psh (.retAddr 4294967292) 22), none, some (am_cv 32 3 9 25), none]
noncomputable def kr_28_3 : List (Option am_Op) := [none, some (am_ald0 0 26), some (am_gf 11 9 29), none, none, some (am_ald0 0 30), some (am_gf 11 3 33), none]
noncomputable def kr_28_4 : List (Option am_Op) := [none, some (am_ald0 0 34), some (am_gf 11 6 37), none, none, some (am_cv 39 2 7 40), none, none]
noncomputable def kr_28_5 : List (Option am_Op) := [some (am_ald0 0 41), some (am_gf 11 11 44), none, none, some (am_psh (.retAddr 0) 45), some (am_pf 0 8 1 48), none, none]
noncomputable def kr_28_6 : List (Option am_Op) := [some (am_ald0 0 49), some (am_gf 11 12 52), none, none, some (am_cv 44 0 5 55), none, none, some (am_ald0 0 56)]
noncomputable def kr_28_7 : List (Option am_Op) := [some (am_gf 11 13 59), none, none, some (am_cv 45 0 4 62), none, none, some (am_ald0 0 63), some (am_psh (.retAddr 0) 64)]
noncomputable def kr_28_8 : List (Option am_Op) := [some (am_pf 11 16 0 67), none, none, some (am_vret)]
noncomputable def cd_28 : am_Cd := [kr_28_0, kr_28_1, kr_28_2, kr_28_3, kr_28_4, kr_28_5, kr_28_6, kr_28_7, kr_28_8]
theorem dd_28_0 : decode prog_1_method_35_code 0 = .ok (.aload_n 0, 1) := by decide +kernel
theorem dd_28_1 : decode prog_1_method_35_code 1 = .ok (.getfield 37, 3) := by decide +kernel
theorem dd_28_4 : decode prog_1_method_35_code 4 = .ok (.aload_n 0, 1) := by decide +kernel
theorem dd_28_5 : decode prog_1_method_35_code 5 = .ok (.getfield 27, 3) := by decide +kernel
theorem dd_28_8 : decode prog_1_method_35_code 8 = .ok (.invokevirtual 302, 3) := by decide +kernel
theorem dd_28_11 : decode prog_1_method_35_code 11 = .ok (.aload_n 0, 1) := by decide +kernel
theorem dd_28_12 : decode prog_1_method_35_code 12 = .ok (.getfield 44, 3) := by decide +kernel
theorem dd_28_15 : decode prog_1_method_35_code 15 = .ok (.aload_n 0, 1) := by decide +kernel
theorem dd_28_16 : decode prog_1_method_35_code 16 = .ok (.getfield 27, 3) := by decide +kernel
theorem dd_28_19 : decode prog_1_method_35_code 19 = .ok (.iconst 0, 1) := by decide +kernel
theorem dd_28_20 : decode prog_1_method_35_code 20 = .ok (.bipush (-4), 2) := by decide +kernel
theorem dd_28_22 : decode prog_1_method_35_code 22 = .ok (.invokevirtual 261, 3) := by decide +kernel
theorem dd_28_25 : decode prog_1_method_35_code 25 = .ok (.aload_n 0, 1) := by decide +kernel
theorem dd_28_26 : decode prog_1_method_35_code 26 = .ok (.getfield 61, 3) := by decide +kernel
theorem dd_28_29 : decode prog_1_method_35_code 29 = .ok (.aload_n 0, 1) := by decide +kernel
theorem dd_28_30 : decode prog_1_method_35_code 30 = .ok (.getfield 27, 3) := by decide +kernel
theorem dd_28_33 : decode prog_1_method_35_code 33 = .ok (.aload_n 0, 1) := by decide +kernel
theorem dd_28_34 : decode prog_1_method_35_code 34 = .ok (.getfield 44, 3) := by decide +kernel
theorem dd_28_37 : decode prog_1_method_35_code 37 = .ok (.invokevirtual 306, 3) := by decide +kernel
theorem dd_28_40 : decode prog_1_method_35_code 40 = .ok (.aload_n 0, 1) := by decide +kernel
theorem dd_28_41 : decode prog_1_method_35_code 41 = .ok (.getfield 77, 3) := by decide +kernel
theorem dd_28_44 : decode prog_1_method_35_code 44 = .ok (.iconst 0, 1) := by decide +kernel
theorem dd_28_45 : decode prog_1_method_35_code 45 = .ok (.putfield 309, 3) := by decide +kernel
theorem dd_28_48 : decode prog_1_method_35_code 48 = .ok (.aload_n 0, 1) := by decide +kernel
theorem dd_28_49 : decode prog_1_method_35_code 49 = .ok (.getfield 84, 3) := by decide +kernel
theorem dd_28_52 : decode prog_1_method_35_code 52 = .ok (.invokevirtual 313, 3) := by decide +kernel
theorem dd_28_55 : decode prog_1_method_35_code 55 = .ok (.aload_n 0, 1) := by decide +kernel
theorem dd_28_56 : decode prog_1_method_35_code 56 = .ok (.getfield 91, 3) := by decide +kernel
theorem dd_28_59 : decode prog_1_method_35_code 59 = .ok (.invokevirtual 285, 3) := by decide +kernel
theorem dd_28_62 : decode prog_1_method_35_code 62 = .ok (.aload_n 0, 1) := by decide +kernel
theorem dd_28_63 : decode prog_1_method_35_code 63 = .ok (.iconst 0, 1) := by decide +kernel
theorem dd_28_64 : decode prog_1_method_35_code 64 = .ok (.putfield 101, 3) := by decide +kernel
theorem dd_28_67 : decode prog_1_method_35_code 67 = .ok (.return_, 1) := by decide +kernel
theorem kb_28_0 : am_row mi_28 0 kr_28_0 := am_rs rfl (ok_aload_n (k := 0) dd_28_0 rfl rfl) (am_rs rfl (ok_gf dd_28_1 rfl am_ck11 (by decide) (Or.inl w_516)) (am_rn rfl (am_rn rfl (am_rs rfl (ok_aload_n (k := 0) dd_28_4 rfl rfl) (am_rs rfl (ok_gf dd_28_5 rfl am_ck11 (by decide) (Or.inl w_514)) (am_rn rfl (am_rn rfl (am_rz))))))))
theorem kb_28_1 : am_row mi_28 8 kr_28_1 := am_rs rfl (ok_cv (M' := mi_29) dd_28_8 rfl rfl w_442 w_443 w_444 ⟨lk_29.1, lk_29.2.1, lk_29.2.2, by decide, by decide⟩ rfl) (am_rn rfl (am_rn rfl (am_rs rfl (ok_aload_n (k := 0) dd_28_11 rfl rfl) (am_rs rfl (ok_gf dd_28_12 rfl am_ck11 (by decide) (Or.inl w_517)) (am_rn rfl (am_rn rfl (am_rs rfl (ok_aload_n (k := 0) dd_28_15 rfl rfl) (am_rz))))))))
theorem kb_28_2 : am_row mi_28 16 kr_28_2 := am_rs rfl (ok_gf dd_28_16 rfl am_ck11 (by decide) (Or.inl w_514)) (am_rn rfl (am_rn rfl (am_rs rfl (ok_iconst dd_28_19 ic_0 rfl) (am_rs rfl (ok_bipush dd_28_20 bi_m4 rfl) (am_rn rfl (am_rs rfl (ok_cv (M' := mi_32) dd_28_22 rfl rfl w_453 w_454 w_455 ⟨lk_32.1, lk_32.2.1, lk_32.2.2, by decide, by decide⟩ rfl) (am_rn rfl (am_rz))))))))
theorem kb_28_3 : am_row mi_28 24 kr_28_3 := am_rn rfl (am_rs rfl (ok_aload_n (k := 0) dd_28_25 rfl rfl) (am_rs rfl (ok_gf dd_28_26 rfl am_ck11 (by decide) (Or.inl w_520)) (am_rn rfl (am_rn rfl (am_rs rfl (ok_aload_n (k := 0) dd_28_29 rfl rfl) (am_rs rfl (ok_gf dd_28_30 rfl am_ck11 (by decide) (Or.inl w_514)) (am_rn rfl (am_rz))))))))
theorem kb_28_4 : am_row mi_28 32 kr_28_4 := am_rn rfl (am_rs rfl (ok_aload_n (k := 0) dd_28_33 rfl rfl) (am_rs rfl (ok_gf dd_28_34 rfl am_ck11 (by decide) (Or.inl w_517)) (am_rn rfl (am_rn rfl (am_rs rfl (ok_cv (M' := mi_39) dd_28_37 rfl rfl w_481 w_482 w_483 ⟨lk_39.1, lk_39.2.1, lk_39.2.2, by decide, by decide⟩ rfl) (am_rn rfl (am_rn rfl (am_rz))))))))
theorem kb_28_5 : am_row mi_28 40 kr_28_5 := am_rs rfl (ok_aload_n (k := 0) dd_28_40 rfl rfl) (am_rs rfl (ok_gf dd_28_41 rfl am_ck11 (by decide) (Or.inl w_522)) (am_rn rfl (am_rn rfl (am_rs rfl (ok_iconst dd_28_44 ic_0 rfl) (am_rs rfl (ok_pf dd_28_45 rfl am_ck0 (by decide) (Or.inr ⟨_, w_277⟩) (Or.inl rfl) rfl) (am_rn rfl (am_rn rfl (am_rz))))))))
theorem kb_28_6 : am_row mi_28 48 kr_28_6 := am_rs rfl (ok_aload_n (k := 0) dd_28_48 rfl rfl) (am_rs rfl (ok_gf dd_28_49 rfl am_ck11 (by decide) (Or.inl w_523)) (am_rn rfl (am_rn rfl (am_rs rfl (ok_cv (M' := mi_44) dd_28_52 rfl rfl w_503 w_504 w_505 ⟨lk_44.1, lk_44.2.1, lk_44.2.2, by decide, by decide⟩ rfl) (am_rn rfl (am_rn rfl (am_rs rfl (ok_aload_n (k := 0) dd_28_55 rfl rfl) (am_rz))))))))
theorem kb_28_7 : am_row mi_28 56 kr_28_7 := am_rs rfl (ok_gf dd_28_56 rfl am_ck11 (by decide) (Or.inl w_524)) (am_rn rfl (am_rn rfl (am_rs rfl (ok_cv (M' := mi_45) dd_28_59 rfl rfl w_507 w_508 w_509 ⟨lk_45.1, lk_45.2.1, lk_45.2.2, by decide, by decide⟩ rfl) (am_rn rfl (am_rn rfl (am_rs rfl (ok_aload_n (k := 0) dd_28_62 rfl rfl) (am_rs rfl (ok_iconst dd_28_63 ic_0 rfl) (am_rz))))))))
theorem kb_28_8 : am_row mi_28 64 kr_28_8 := am_rs rfl (ok_pf dd_28_64 rfl am_ck11 (by decide) (Or.inl w_527) (Or.inl rfl) rfl) (am_rn rfl (am_rn rfl (am_rs rfl (ok_vret dd_28_67 rfl) (am_rz))))
theorem ck_28 : am_rows mi_28 0 cd_28 := am_bs rfl kb_28_0 (am_bs rfl kb_28_1 (am_bs rfl kb_28_2 (am_bs rfl kb_28_3 (am_bs rfl kb_28_4 (am_bs rfl kb_28_5 (am_bs rfl kb_28_6 (am_bs rfl kb_28_7 (am_bs rfl kb_28_8 (am_bz)))))))))
/-- OverAndBack$Facts.derive(LOverAndBack$Evening;)V -/
noncomputable def kr_29_0 : List (Option am_Op) := [some (am_psh (.retAddr 0) 1), some (am_ist 2 2), some (am_ild 2 3), some (am_psh (.retAddr 255) 6), none, none, some (am_br2 .gt 29 9), none]
noncomputable def kr_29_1 : List (Option am_Op) := [none, some (am_ald0 0 10), some (am_gf 2 0 13), none, none, some (am_ild 2 14), some (am_ald0 1 15), some (am_gf 1 4 18)]
noncomputable def kr_29_2 : List (Option am_Op) := [none, none, some (am_ild 2 19), some (am_cs 30 2 22), none, none, some (am_ast 0 (fun v => v) 23), some (am_inc 2 1 26)]
noncomputable def kr_29_3 : List (Option am_Op) := [none, none, some (am_jmp 2), none, none, some (am_vret)]
noncomputable def cd_29 : am_Cd := [kr_29_0, kr_29_1, kr_29_2, kr_29_3]
theorem dd_29_0 : decode prog_4_method_2_code 0 = .ok (.iconst 0, 1) := by decide +kernel
theorem dd_29_1 : decode prog_4_method_2_code 1 = .ok (.istore_n 2, 1) := by decide +kernel
theorem dd_29_2 : decode prog_4_method_2_code 2 = .ok (.iload_n 2, 1) := by decide +kernel
theorem dd_29_3 : decode prog_4_method_2_code 3 = .ok (.sipush 255, 3) := by decide +kernel
theorem dd_29_6 : decode prog_4_method_2_code 6 = .ok (.if_icmp .gt 23, 3) := by decide +kernel
theorem dd_29_9 : decode prog_4_method_2_code 9 = .ok (.aload_n 0, 1) := by decide +kernel
theorem dd_29_10 : decode prog_4_method_2_code 10 = .ok (.getfield 9, 3) := by decide +kernel
theorem dd_29_13 : decode prog_4_method_2_code 13 = .ok (.iload_n 2, 1) := by decide +kernel
theorem dd_29_14 : decode prog_4_method_2_code 14 = .ok (.aload_n 1, 1) := by decide +kernel
theorem dd_29_15 : decode prog_4_method_2_code 15 = .ok (.getfield 15, 3) := by decide +kernel
theorem dd_29_18 : decode prog_4_method_2_code 18 = .ok (.iload_n 2, 1) := by decide +kernel
theorem dd_29_19 : decode prog_4_method_2_code 19 = .ok (.invokestatic 21, 3) := by decide +kernel
theorem dd_29_22 : decode prog_4_method_2_code 22 = .ok (.iastore, 1) := by decide +kernel
theorem dd_29_23 : decode prog_4_method_2_code 23 = .ok (.iinc 2 1, 3) := by decide +kernel
theorem dd_29_26 : decode prog_4_method_2_code 26 = .ok (.goto (-24), 3) := by decide +kernel
theorem dd_29_29 : decode prog_4_method_2_code 29 = .ok (.return_, 1) := by decide +kernel
theorem kb_29_0 : am_row mi_29 0 kr_29_0 := am_rs rfl (ok_iconst dd_29_0 ic_0 rfl) (am_rs rfl (ok_istore_n (k := 2) dd_29_1 rfl rfl (by decide)) (am_rs rfl (ok_iload_n (k := 2) dd_29_2 rfl rfl) (am_rs rfl (ok_sipush dd_29_3 si_255 rfl) (am_rn rfl (am_rn rfl (am_rs rfl (ok_icmp dd_29_6 (by decide) rfl) (am_rn rfl (am_rz))))))))
theorem kb_29_1 : am_row mi_29 8 kr_29_1 := am_rn rfl (am_rs rfl (ok_aload_n (k := 0) dd_29_9 rfl rfl) (am_rs rfl (ok_gf dd_29_10 rfl am_ck2 (by decide) (Or.inl w_143)) (am_rn rfl (am_rn rfl (am_rs rfl (ok_iload_n (k := 2) dd_29_13 rfl rfl) (am_rs rfl (ok_aload_n (k := 1) dd_29_14 rfl rfl) (am_rs rfl (ok_gf dd_29_15 rfl am_ck1 (by decide) (Or.inr ⟨_, w_99⟩)) (am_rz))))))))
theorem kb_29_2 : am_row mi_29 16 kr_29_2 := am_rn rfl (am_rn rfl (am_rs rfl (ok_iload_n (k := 2) dd_29_18 rfl rfl) (am_rs rfl (ok_cs (M' := mi_30) dd_29_19 rfl rfl w_446 w_447 ⟨lk_30.1, lk_30.2.1, lk_30.2.2, by decide, by decide⟩) (am_rn rfl (am_rn rfl (am_rs rfl (ok_iast dd_29_22 rfl) (am_rs rfl (ok_iinc dd_29_23 ic_1 rfl (by decide)) (am_rz))))))))
theorem kb_29_3 : am_row mi_29 24 kr_29_3 := am_rn rfl (am_rn rfl (am_rs rfl (ok_goto dd_29_26 (by decide)) (am_rn rfl (am_rn rfl (am_rs rfl (ok_vret dd_29_29 rfl) (am_rz))))))
theorem ck_29 : am_rows mi_29 0 cd_29 := am_bs rfl kb_29_0 (am_bs rfl kb_29_1 (am_bs rfl kb_29_2 (am_bs rfl kb_29_3 (am_bz))))
