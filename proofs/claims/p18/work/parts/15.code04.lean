/-- OverAndBack.count(I)I -/
noncomputable def kr_129_0 : List (Option am_Op) := [some (am_ild 1 1), some (am_tsw 0 [56, 67, 75, 86, 97, 108, 119, 127, 135, 140] 145), none, none, none, none, none, none]
noncomputable def kr_129_1 : List (Option am_Op) := [none, none, none, none, none, none, none, none]
noncomputable def kr_129_2 : List (Option am_Op) := [none, none, none, none, none, none, none, none]
noncomputable def kr_129_3 : List (Option am_Op) := [none, none, none, none, none, none, none, none]
noncomputable def kr_129_4 : List (Option am_Op) := [none, none, none, none, none, none, none, none]
noncomputable def kr_129_5 : List (Option am_Op) := [none, none, none, none, none, none, none, none]
noncomputable def kr_129_6 : List (Option am_Op) := [none, none, none, none, none, none, none, none]
noncomputable def kr_129_7 : List (Option am_Op) := [some (am_ald0 0 57), some (am_gf 11 3 60), none, none, some (am_gf 1 0 63), none, none, some (am_gf 8 3 66)]
noncomputable def kr_129_8 : List (Option am_Op) := [none, none, some (am_iret), some (am_ald0 0 68), some (am_gf 11 3 71), none, none, some (am_gf 1 6 74)]
noncomputable def kr_129_9 : List (Option am_Op) := [none, none, some (am_iret), some (am_ald0 0 76), some (am_gf 11 3 79), none, none, some (am_gf 1 1 82)]
noncomputable def kr_129_10 : List (Option am_Op) := [none, none, some (am_gf 8 3 85), none, none, some (am_iret), some (am_ald0 0 87), some (am_gf 11 3 90)]
noncomputable def kr_129_11 : List (Option am_Op) := [none, none, some (am_gf 1 2 93), none, none, some (am_gf 8 3 96), none, none]
noncomputable def kr_129_12 : List (Option am_Op) := [some (am_iret), some (am_ald0 0 98), some (am_gf 11 3 101), none, none, some (am_gf 1 3 104), none, none]
noncomputable def kr_129_13 : List (Option am_Op) := [some (am_gf 8 3 107), none, none, some (am_iret), some (am_ald0 0 109), some (am_gf 11 3 112), none, none]
noncomputable def kr_129_14 : List (Option am_Op) := [some (am_gf 1 5 115), none, none, some (am_gf 8 3 118), none, none, some (am_iret), some (am_ald0 0 120)]
noncomputable def kr_129_15 : List (Option am_Op) := [some (am_gf 11 12 123), none, none, some (am_gf 5 2 126), none, none, some (am_iret), some (am_ald0 0 128)]
noncomputable def kr_129_16 : List (Option am_Op) := [some (am_gf 11 13 131), none, none, some (am_gf 4 1 134), none, none, some (am_iret), some (am_ald0 0 136)]
noncomputable def kr_129_17 : List (Option am_Op) := [some (am_gf 11 16 139), none, none, some (am_iret), some (am_ald0 0 141), some (am_gf 11 1 144), none, none]
noncomputable def kr_129_18 : List (Option am_Op) := [some (am_iret), some (am_psh (.retAddr 4294967295) 146), some (am_iret)]
noncomputable def cd_129 : am_Cd := [kr_129_0, kr_129_1, kr_129_2, kr_129_3, kr_129_4, kr_129_5, kr_129_6, kr_129_7, kr_129_8, kr_129_9, kr_129_10, kr_129_11, kr_129_12, kr_129_13, kr_129_14, kr_129_15, kr_129_16, kr_129_17, kr_129_18]
theorem dd_129_0 : decode prog_1_method_28_code 0 = .ok (.iload_n 1, 1) := by decide +kernel
theorem dd_129_1 : decode prog_1_method_28_code 1 = .ok (.tableswitch 144 ((0 : Nat) : Int) 9 #[55, 66, 74, 85, 96, 107, 118, 126, 134, 139], 55) := by decide +kernel
theorem dd_129_56 : decode prog_1_method_28_code 56 = .ok (.aload_n 0, 1) := by decide +kernel
theorem dd_129_57 : decode prog_1_method_28_code 57 = .ok (.getfield 27, 3) := by decide +kernel
theorem dd_129_60 : decode prog_1_method_28_code 60 = .ok (.getfield 119, 3) := by decide +kernel
theorem dd_129_63 : decode prog_1_method_28_code 63 = .ok (.getfield 123, 3) := by decide +kernel
theorem dd_129_66 : decode prog_1_method_28_code 66 = .ok (.ireturn, 1) := by decide +kernel
theorem dd_129_67 : decode prog_1_method_28_code 67 = .ok (.aload_n 0, 1) := by decide +kernel
theorem dd_129_68 : decode prog_1_method_28_code 68 = .ok (.getfield 27, 3) := by decide +kernel
theorem dd_129_71 : decode prog_1_method_28_code 71 = .ok (.getfield 288, 3) := by decide +kernel
theorem dd_129_74 : decode prog_1_method_28_code 74 = .ok (.ireturn, 1) := by decide +kernel
theorem dd_129_75 : decode prog_1_method_28_code 75 = .ok (.aload_n 0, 1) := by decide +kernel
theorem dd_129_76 : decode prog_1_method_28_code 76 = .ok (.getfield 27, 3) := by decide +kernel
theorem dd_129_79 : decode prog_1_method_28_code 79 = .ok (.getfield 270, 3) := by decide +kernel
theorem dd_129_82 : decode prog_1_method_28_code 82 = .ok (.getfield 123, 3) := by decide +kernel
theorem dd_129_85 : decode prog_1_method_28_code 85 = .ok (.ireturn, 1) := by decide +kernel
theorem dd_129_86 : decode prog_1_method_28_code 86 = .ok (.aload_n 0, 1) := by decide +kernel
theorem dd_129_87 : decode prog_1_method_28_code 87 = .ok (.getfield 27, 3) := by decide +kernel
theorem dd_129_90 : decode prog_1_method_28_code 90 = .ok (.getfield 291, 3) := by decide +kernel
theorem dd_129_93 : decode prog_1_method_28_code 93 = .ok (.getfield 123, 3) := by decide +kernel
theorem dd_129_96 : decode prog_1_method_28_code 96 = .ok (.ireturn, 1) := by decide +kernel
theorem dd_129_97 : decode prog_1_method_28_code 97 = .ok (.aload_n 0, 1) := by decide +kernel
theorem dd_129_98 : decode prog_1_method_28_code 98 = .ok (.getfield 27, 3) := by decide +kernel
theorem dd_129_101 : decode prog_1_method_28_code 101 = .ok (.getfield 255, 3) := by decide +kernel
theorem dd_129_104 : decode prog_1_method_28_code 104 = .ok (.getfield 123, 3) := by decide +kernel
theorem dd_129_107 : decode prog_1_method_28_code 107 = .ok (.ireturn, 1) := by decide +kernel
theorem dd_129_108 : decode prog_1_method_28_code 108 = .ok (.aload_n 0, 1) := by decide +kernel
theorem dd_129_109 : decode prog_1_method_28_code 109 = .ok (.getfield 27, 3) := by decide +kernel
theorem dd_129_112 : decode prog_1_method_28_code 112 = .ok (.getfield 236, 3) := by decide +kernel
theorem dd_129_115 : decode prog_1_method_28_code 115 = .ok (.getfield 123, 3) := by decide +kernel
theorem dd_129_118 : decode prog_1_method_28_code 118 = .ok (.ireturn, 1) := by decide +kernel
theorem dd_129_119 : decode prog_1_method_28_code 119 = .ok (.aload_n 0, 1) := by decide +kernel
theorem dd_129_120 : decode prog_1_method_28_code 120 = .ok (.getfield 84, 3) := by decide +kernel
theorem dd_129_123 : decode prog_1_method_28_code 123 = .ok (.getfield 191, 3) := by decide +kernel
theorem dd_129_126 : decode prog_1_method_28_code 126 = .ok (.ireturn, 1) := by decide +kernel
theorem dd_129_127 : decode prog_1_method_28_code 127 = .ok (.aload_n 0, 1) := by decide +kernel
theorem dd_129_128 : decode prog_1_method_28_code 128 = .ok (.getfield 91, 3) := by decide +kernel
theorem dd_129_131 : decode prog_1_method_28_code 131 = .ok (.getfield 192, 3) := by decide +kernel
theorem dd_129_134 : decode prog_1_method_28_code 134 = .ok (.ireturn, 1) := by decide +kernel
theorem dd_129_135 : decode prog_1_method_28_code 135 = .ok (.aload_n 0, 1) := by decide +kernel
theorem dd_129_136 : decode prog_1_method_28_code 136 = .ok (.getfield 101, 3) := by decide +kernel
theorem dd_129_139 : decode prog_1_method_28_code 139 = .ok (.ireturn, 1) := by decide +kernel
theorem dd_129_140 : decode prog_1_method_28_code 140 = .ok (.aload_n 0, 1) := by decide +kernel
theorem dd_129_141 : decode prog_1_method_28_code 141 = .ok (.getfield 13, 3) := by decide +kernel
theorem dd_129_144 : decode prog_1_method_28_code 144 = .ok (.ireturn, 1) := by decide +kernel
theorem dd_129_145 : decode prog_1_method_28_code 145 = .ok (.iconst (-1), 1) := by decide +kernel
theorem dd_129_146 : decode prog_1_method_28_code 146 = .ok (.ireturn, 1) := by decide +kernel
theorem kb_129_0 : am_row mi_129 0 kr_129_0 := am_rs rfl (ok_iload_n (k := 1) dd_129_0 rfl rfl) (am_rs rfl (ok_tsw dd_129_1 (by decide) (by decide) (by decide) (by decide)) (am_rn rfl (am_rn rfl (am_rn rfl (am_rn rfl (am_rn rfl (am_rn rfl (am_rz))))))))
theorem kb_129_1 : am_row mi_129 8 kr_129_1 := am_rn rfl (am_rn rfl (am_rn rfl (am_rn rfl (am_rn rfl (am_rn rfl (am_rn rfl (am_rn rfl (am_rz))))))))
theorem kb_129_2 : am_row mi_129 16 kr_129_2 := am_rn rfl (am_rn rfl (am_rn rfl (am_rn rfl (am_rn rfl (am_rn rfl (am_rn rfl (am_rn rfl (am_rz))))))))
theorem kb_129_3 : am_row mi_129 24 kr_129_3 := am_rn rfl (am_rn rfl (am_rn rfl (am_rn rfl (am_rn rfl (am_rn rfl (am_rn rfl (am_rn rfl (am_rz))))))))
theorem kb_129_4 : am_row mi_129 32 kr_129_4 := am_rn rfl (am_rn rfl (am_rn rfl (am_rn rfl (am_rn rfl (am_rn rfl (am_rn rfl (am_rn rfl (am_rz))))))))
theorem kb_129_5 : am_row mi_129 40 kr_129_5 := am_rn rfl (am_rn rfl (am_rn rfl (am_rn rfl (am_rn rfl (am_rn rfl (am_rn rfl (am_rn rfl (am_rz))))))))
theorem kb_129_6 : am_row mi_129 48 kr_129_6 := am_rn rfl (am_rn rfl (am_rn rfl (am_rn rfl (am_rn rfl (am_rn rfl (am_rn rfl (am_rn rfl (am_rz))))))))
theorem kb_129_7 : am_row mi_129 56 kr_129_7 := am_rs rfl (ok_aload_n (k := 0) dd_129_56 rfl rfl) (am_rs rfl (ok_gf dd_129_57 rfl am_ck11 (by decide) (Or.inl w_514)) (am_rn rfl (am_rn rfl (am_rs rfl (ok_gf dd_129_60 rfl am_ck1 (by decide) (Or.inr ⟨_, w_84⟩)) (am_rn rfl (am_rn rfl (am_rs rfl (ok_gf dd_129_63 rfl am_ck8 (by decide) (Or.inr ⟨_, w_67⟩)) (am_rz))))))))
theorem kb_129_8 : am_row mi_129 64 kr_129_8 := am_rn rfl (am_rn rfl (am_rs rfl (ok_iret dd_129_66 rfl) (am_rs rfl (ok_aload_n (k := 0) dd_129_67 rfl rfl) (am_rs rfl (ok_gf dd_129_68 rfl am_ck11 (by decide) (Or.inl w_514)) (am_rn rfl (am_rn rfl (am_rs rfl (ok_gf dd_129_71 rfl am_ck1 (by decide) (Or.inr ⟨_, w_112⟩)) (am_rz))))))))
theorem kb_129_9 : am_row mi_129 72 kr_129_9 := am_rn rfl (am_rn rfl (am_rs rfl (ok_iret dd_129_74 rfl) (am_rs rfl (ok_aload_n (k := 0) dd_129_75 rfl rfl) (am_rs rfl (ok_gf dd_129_76 rfl am_ck11 (by decide) (Or.inl w_514)) (am_rn rfl (am_rn rfl (am_rs rfl (ok_gf dd_129_79 rfl am_ck1 (by decide) (Or.inr ⟨_, w_89⟩)) (am_rz))))))))
theorem kb_129_10 : am_row mi_129 80 kr_129_10 := am_rn rfl (am_rn rfl (am_rs rfl (ok_gf dd_129_82 rfl am_ck8 (by decide) (Or.inr ⟨_, w_67⟩)) (am_rn rfl (am_rn rfl (am_rs rfl (ok_iret dd_129_85 rfl) (am_rs rfl (ok_aload_n (k := 0) dd_129_86 rfl rfl) (am_rs rfl (ok_gf dd_129_87 rfl am_ck11 (by decide) (Or.inl w_514)) (am_rz))))))))
theorem kb_129_11 : am_row mi_129 88 kr_129_11 := am_rn rfl (am_rn rfl (am_rs rfl (ok_gf dd_129_90 rfl am_ck1 (by decide) (Or.inr ⟨_, w_93⟩)) (am_rn rfl (am_rn rfl (am_rs rfl (ok_gf dd_129_93 rfl am_ck8 (by decide) (Or.inr ⟨_, w_67⟩)) (am_rn rfl (am_rn rfl (am_rz))))))))
theorem kb_129_12 : am_row mi_129 96 kr_129_12 := am_rs rfl (ok_iret dd_129_96 rfl) (am_rs rfl (ok_aload_n (k := 0) dd_129_97 rfl rfl) (am_rs rfl (ok_gf dd_129_98 rfl am_ck11 (by decide) (Or.inl w_514)) (am_rn rfl (am_rn rfl (am_rs rfl (ok_gf dd_129_101 rfl am_ck1 (by decide) (Or.inr ⟨_, w_97⟩)) (am_rn rfl (am_rn rfl (am_rz))))))))
theorem kb_129_13 : am_row mi_129 104 kr_129_13 := am_rs rfl (ok_gf dd_129_104 rfl am_ck8 (by decide) (Or.inr ⟨_, w_67⟩)) (am_rn rfl (am_rn rfl (am_rs rfl (ok_iret dd_129_107 rfl) (am_rs rfl (ok_aload_n (k := 0) dd_129_108 rfl rfl) (am_rs rfl (ok_gf dd_129_109 rfl am_ck11 (by decide) (Or.inl w_514)) (am_rn rfl (am_rn rfl (am_rz))))))))
theorem kb_129_14 : am_row mi_129 112 kr_129_14 := am_rs rfl (ok_gf dd_129_112 rfl am_ck1 (by decide) (Or.inr ⟨_, w_104⟩)) (am_rn rfl (am_rn rfl (am_rs rfl (ok_gf dd_129_115 rfl am_ck8 (by decide) (Or.inr ⟨_, w_67⟩)) (am_rn rfl (am_rn rfl (am_rs rfl (ok_iret dd_129_118 rfl) (am_rs rfl (ok_aload_n (k := 0) dd_129_119 rfl rfl) (am_rz))))))))
theorem kb_129_15 : am_row mi_129 120 kr_129_15 := am_rs rfl (ok_gf dd_129_120 rfl am_ck11 (by decide) (Or.inl w_523)) (am_rn rfl (am_rn rfl (am_rs rfl (ok_gf dd_129_123 rfl am_ck5 (by decide) (Or.inr ⟨_, w_307⟩)) (am_rn rfl (am_rn rfl (am_rs rfl (ok_iret dd_129_126 rfl) (am_rs rfl (ok_aload_n (k := 0) dd_129_127 rfl rfl) (am_rz))))))))
theorem kb_129_16 : am_row mi_129 128 kr_129_16 := am_rs rfl (ok_gf dd_129_128 rfl am_ck11 (by decide) (Or.inl w_524)) (am_rn rfl (am_rn rfl (am_rs rfl (ok_gf dd_129_131 rfl am_ck4 (by decide) (Or.inr ⟨_, w_328⟩)) (am_rn rfl (am_rn rfl (am_rs rfl (ok_iret dd_129_134 rfl) (am_rs rfl (ok_aload_n (k := 0) dd_129_135 rfl rfl) (am_rz))))))))
theorem kb_129_17 : am_row mi_129 136 kr_129_17 := am_rs rfl (ok_gf dd_129_136 rfl am_ck11 (by decide) (Or.inl w_527)) (am_rn rfl (am_rn rfl (am_rs rfl (ok_iret dd_129_139 rfl) (am_rs rfl (ok_aload_n (k := 0) dd_129_140 rfl rfl) (am_rs rfl (ok_gf dd_129_141 rfl am_ck11 (by decide) (Or.inl w_512)) (am_rn rfl (am_rn rfl (am_rz))))))))
theorem kb_129_18 : am_row mi_129 144 kr_129_18 := am_rs rfl (ok_iret dd_129_144 rfl) (am_rs rfl (ok_iconst dd_129_145 ic_m1 rfl) (am_rs rfl (ok_iret dd_129_146 rfl) (am_rz)))
theorem ck_129 : am_rows mi_129 0 cd_129 := am_bs rfl kb_129_0 (am_bs rfl kb_129_1 (am_bs rfl kb_129_2 (am_bs rfl kb_129_3 (am_bs rfl kb_129_4 (am_bs rfl kb_129_5 (am_bs rfl kb_129_6 (am_bs rfl kb_129_7 (am_bs rfl kb_129_8 (am_bs rfl kb_129_9 (am_bs rfl kb_129_10 (am_bs rfl kb_129_11 (am_bs rfl kb_129_12 (am_bs rfl kb_129_13 (am_bs rfl kb_129_14 (am_bs rfl kb_129_15 (am_bs rfl kb_129_16 (am_bs rfl kb_129_17 (am_bs rfl kb_129_18 (am_bz)))))))))))))))))))
/-- OverAndBackModel.<init>()V -/
noncomputable def kr_130_0 : List (Option am_Op) := [some (am_ald0 0 1), some (am_co 4), none, none, some (am_ald0 0 5), some (am_psh (.retAddr 12) 7), none, some (am_pf 12 0 0 10)]
noncomputable def kr_130_1 : List (Option am_Op) := [none, none, some (am_ald0 0 11), some (am_psh (.retAddr 1) 12), some (am_pf 12 1 0 15), none, none, some (am_ald0 0 16)]
noncomputable def kr_130_2 : List (Option am_Op) := [some (am_psh (.retAddr 2) 17), some (am_pf 12 2 0 20), none, none, some (am_ald0 0 21), some (am_psh (.retAddr 4) 22), some (am_nwa 0 24), none]
noncomputable def kr_130_3 : List (Option am_Op) := [some (am_pf 12 3 2 27), none, none, some (am_ald0 0 28), some (am_psh (.retAddr 2) 29), some (am_pf 12 4 0 32), none, none]
noncomputable def kr_130_4 : List (Option am_Op) := [some (am_ald0 0 33), some (am_psh (.retAddr 45) 35), none, some (am_nwa 0 37), none, some (am_pf 12 5 2 40), none, none]
noncomputable def kr_130_5 : List (Option am_Op) := [some (am_ald0 0 41), some (am_psh (.retAddr 2) 42), some (am_pf 12 6 0 45), none, none, some (am_ald0 0 46), some (am_psh (.retAddr 18) 48), none]
noncomputable def kr_130_6 : List (Option am_Op) := [some (am_nwa 0 50), none, some (am_pf 12 7 2 53), none, none, some (am_ald0 0 54), some (am_psh (.retAddr 16) 56), none]
noncomputable def kr_130_7 : List (Option am_Op) := [some (am_nwa 0 58), none, some (am_pf 12 9 2 61), none, none, some (am_ald0 0 62), some (am_psh (.retAddr 1) 63), some (am_pf 12 10 0 66)]
noncomputable def kr_130_8 : List (Option am_Op) := [none, none, some (am_ald0 0 67), some (am_psh (.retAddr 18) 69), none, some (am_nwa 0 71), none, some (am_pf 12 11 2 74)]
noncomputable def kr_130_9 : List (Option am_Op) := [none, none, some (am_ald0 0 75), some (am_psh (.retAddr 4) 76), some (am_pf 12 12 0 79), none, none, some (am_ald0 0 80)]
noncomputable def kr_130_10 : List (Option am_Op) := [some (am_psh (.retAddr 8) 82), none, some (am_nwa 0 84), none, some (am_pf 12 13 2 87), none, none, some (am_ald0 0 88)]
noncomputable def kr_130_11 : List (Option am_Op) := [some (am_psh (.retAddr 200) 91), none, none, some (am_nwa 0 93), none, some (am_pf 12 14 2 96), none, none]
noncomputable def kr_130_12 : List (Option am_Op) := [some (am_ald0 0 97), some (am_psh (.retAddr 5) 98), some (am_nwa 0 100), none, some (am_pf 12 17 2 103), none, none, some (am_ald0 0 104)]
noncomputable def kr_130_13 : List (Option am_Op) := [some (am_psh (.retAddr 4) 105), some (am_nwa 0 107), none, some (am_pf 12 21 2 110), none, none, some (am_ald0 0 111), some (am_psh (.retAddr 45) 113)]
noncomputable def kr_130_14 : List (Option am_Op) := [none, some (am_nwa 0 115), none, some (am_pf 12 23 2 118), none, none, some (am_ald0 0 119), some (am_psh (.retAddr 18) 121)]
noncomputable def kr_130_15 : List (Option am_Op) := [none, some (am_nwa 0 123), none, some (am_pf 12 25 2 126), none, none, some (am_ald0 0 127), some (am_psh (.retAddr 16) 129)]
noncomputable def kr_130_16 : List (Option am_Op) := [none, some (am_nwa 0 131), none, some (am_pf 12 27 2 134), none, none, some (am_ald0 0 135), some (am_psh (.retAddr 18) 137)]
noncomputable def kr_130_17 : List (Option am_Op) := [none, some (am_nwa 0 139), none, some (am_pf 12 29 2 142), none, none, some (am_ald0 0 143), some (am_psh (.retAddr 8) 145)]
noncomputable def kr_130_18 : List (Option am_Op) := [none, some (am_nwa 0 147), none, some (am_pf 12 31 2 150), none, none, some (am_ald0 0 151), some (am_psh (.retAddr 256) 154)]
noncomputable def kr_130_19 : List (Option am_Op) := [none, none, some (am_nwa 0 156), none, some (am_pf 12 32 2 159), none, none, some (am_ald0 0 160)]
noncomputable def kr_130_20 : List (Option am_Op) := [some (am_psh (.retAddr 256) 163), none, none, some (am_nwa 0 165), none, some (am_pf 12 33 2 168), none, none]
noncomputable def kr_130_21 : List (Option am_Op) := [some (am_ald0 0 169), some (am_psh (.retAddr 256) 172), none, none, some (am_nwa 2 174), none, some (am_pf 12 34 2 177), none]
noncomputable def kr_130_22 : List (Option am_Op) := [none, some (am_ald0 0 178), some (am_psh (.retAddr 60) 180), none, some (am_nwa 0 182), none, some (am_pf 12 35 2 185), none]
noncomputable def kr_130_23 : List (Option am_Op) := [none, some (am_ald0 0 186), some (am_psh (.retAddr 18) 188), none, some (am_nwa 0 190), none, some (am_pf 12 41 2 193), none]
noncomputable def kr_130_24 : List (Option am_Op) := [none, some (am_ald0 0 194), some (am_psh (.retAddr 8) 196), none, some (am_nwa 0 198), none, some (am_pf 12 43 2 201), none]
noncomputable def kr_130_25 : List (Option am_Op) := [none, some (am_ald0 0 202), some (am_psh (.retAddr 60) 204), none, some (am_nwa 0 206), none, some (am_pf 12 45 2 209), none]
noncomputable def kr_130_26 : List (Option am_Op) := [none, some (am_ald0 0 210), some (am_psh (.retAddr 256) 213), none, none, some (am_nwa 0 215), none, some (am_pf 12 46 2 218)]
noncomputable def kr_130_27 : List (Option am_Op) := [none, none, some (am_ald0 0 219), some (am_psh (.retAddr 62464) 221), none, some (am_nwa 0 223), none, some (am_pf 12 47 2 226)]
noncomputable def kr_130_28 : List (Option am_Op) := [none, none, some (am_ald0 0 227), some (am_psh (.retAddr 6) 229), none, some (am_nwa 0 231), none, some (am_pf 12 51 2 234)]
noncomputable def kr_130_29 : List (Option am_Op) := [none, none, some (am_ald0 0 235), some (am_psh (.retAddr 4) 236), some (am_nwa 0 238), none, some (am_pf 12 52 2 241), none]
noncomputable def kr_130_30 : List (Option am_Op) := [none, some (am_ald0 0 242), some (am_psh (.retAddr 40) 244), none, some (am_nwa 0 246), none, some (am_pf 12 54 2 249), none]
noncomputable def kr_130_31 : List (Option am_Op) := [none, some (am_ald0 0 250), some (am_gf 12 3 253), none, none, some (am_psh (.retAddr 0) 254), some (am_psh (.retAddr 2) 255), some (am_ast 0 (fun v => v) 256)]
noncomputable def kr_130_32 : List (Option am_Op) := [some (am_ald0 0 257), some (am_gf 12 3 260), none, none, some (am_psh (.retAddr 1) 261), some (am_psh (.retAddr 3) 262), some (am_ast 0 (fun v => v) 263), some (am_ald0 0 264)]
noncomputable def kr_130_33 : List (Option am_Op) := [some (am_gf 12 5 267), none, none, some (am_psh (.retAddr 0) 268), some (am_psh (.retAddr 0) 269), some (am_psh (.retAddr 2) 270), some (am_psh (.retAddr 4) 271), some (am_cs 131 5 274)]
noncomputable def kr_130_34 : List (Option am_Op) := [none, none, some (am_ald0 0 275), some (am_gf 12 5 278), none, none, some (am_psh (.retAddr 3) 279), some (am_psh (.retAddr 7) 281)]
noncomputable def kr_130_35 : List (Option am_Op) := [none, some (am_psh (.retAddr 0) 282), some (am_psh (.retAddr 1) 283), some (am_cs 131 5 286), none, none, some (am_ald0 0 287), some (am_gf 12 5 290)]
noncomputable def kr_130_36 : List (Option am_Op) := [none, none, some (am_psh (.retAddr 6) 292), none, some (am_psh (.retAddr 5) 293), some (am_psh (.retAddr 5) 294), some (am_psh (.retAddr 9) 296), none]
noncomputable def kr_130_37 : List (Option am_Op) := [some (am_cs 131 5 299), none, none, some (am_ald0 0 300), some (am_gf 12 5 303), none, none, some (am_psh (.retAddr 9) 305)]
noncomputable def kr_130_38 : List (Option am_Op) := [none, some (am_psh (.retAddr 1) 306), some (am_ast 0 (fun v => v) 307), some (am_ald0 0 308), some (am_gf 12 7 311), none, none, some (am_psh (.retAddr 0) 312)]
noncomputable def kr_130_39 : List (Option am_Op) := [some (am_psh (.retAddr 0) 313), some (am_psh (.retAddr 5) 314), some (am_psh (.retAddr 6) 316), none, some (am_cs 131 5 319), none, none, some (am_ald0 0 320)]
noncomputable def kr_130_40 : List (Option am_Op) := [some (am_gf 12 7 323), none, none, some (am_psh (.retAddr 3) 324), some (am_psh (.retAddr 1) 325), some (am_psh (.retAddr 8) 327), none, some (am_psh (.retAddr 9) 329)]
noncomputable def kr_130_41 : List (Option am_Op) := [none, some (am_cs 131 5 332), none, none, some (am_ald0 0 333), some (am_gf 12 11 336), none, none]
noncomputable def kr_130_42 : List (Option am_Op) := [some (am_psh (.retAddr 0) 337), some (am_psh (.retAddr 0) 338), some (am_psh (.retAddr 1) 339), some (am_psh (.retAddr 2) 340), some (am_cs 131 5 343), none, none, some (am_ald0 0 344)]
noncomputable def kr_130_43 : List (Option am_Op) := [some (am_gf 12 13 347), none, none, some (am_psh (.retAddr 2) 348), some (am_psh (.retAddr 1) 349), some (am_psh (.retAddr 0) 350), some (am_psh (.retAddr 2) 351), some (am_cs 131 5 354)]
noncomputable def kr_130_44 : List (Option am_Op) := [none, none, some (am_ald0 0 355), some (am_gf 12 13 358), none, none, some (am_psh (.retAddr 4) 359), some (am_psh (.retAddr 2) 360)]
noncomputable def kr_130_45 : List (Option am_Op) := [some (am_psh (.retAddr 0) 361), some (am_psh (.retAddr 3) 362), some (am_cs 131 5 365), none, none, some (am_ald0 0 366), some (am_gf 12 13 369), none]
noncomputable def kr_130_46 : List (Option am_Op) := [none, some (am_psh (.retAddr 7) 371), none, some (am_psh (.retAddr 1) 372), some (am_ast 0 (fun v => v) 373), some (am_vret)]
noncomputable def cd_130 : am_Cd := [kr_130_0, kr_130_1, kr_130_2, kr_130_3, kr_130_4, kr_130_5, kr_130_6, kr_130_7, kr_130_8, kr_130_9, kr_130_10, kr_130_11, kr_130_12, kr_130_13, kr_130_14, kr_130_15, kr_130_16, kr_130_17, kr_130_18, kr_130_19, kr_130_20, kr_130_21, kr_130_22, kr_130_23, kr_130_24, kr_130_25, kr_130_26, kr_130_27, kr_130_28, kr_130_29, kr_130_30, kr_130_31, kr_130_32, kr_130_33, kr_130_34, kr_130_35, kr_130_36, kr_130_37, kr_130_38, kr_130_39, kr_130_40, kr_130_41, kr_130_42, kr_130_43, kr_130_44, kr_130_45, kr_130_46]
theorem dd_130_0 : decode prog_14_method_1_code 0 = .ok (.aload_n 0, 1) := by decide +kernel
theorem dd_130_1 : decode prog_14_method_1_code 1 = .ok (.invokespecial 1, 3) := by decide +kernel
theorem dd_130_4 : decode prog_14_method_1_code 4 = .ok (.aload_n 0, 1) := by decide +kernel
theorem dd_130_5 : decode prog_14_method_1_code 5 = .ok (.bipush 12, 2) := by decide +kernel
theorem dd_130_7 : decode prog_14_method_1_code 7 = .ok (.putfield 7, 3) := by decide +kernel
theorem dd_130_10 : decode prog_14_method_1_code 10 = .ok (.aload_n 0, 1) := by decide +kernel
theorem dd_130_11 : decode prog_14_method_1_code 11 = .ok (.iconst 1, 1) := by decide +kernel
theorem dd_130_12 : decode prog_14_method_1_code 12 = .ok (.putfield 13, 3) := by decide +kernel
theorem dd_130_15 : decode prog_14_method_1_code 15 = .ok (.aload_n 0, 1) := by decide +kernel
theorem dd_130_16 : decode prog_14_method_1_code 16 = .ok (.iconst 2, 1) := by decide +kernel
theorem dd_130_17 : decode prog_14_method_1_code 17 = .ok (.putfield 16, 3) := by decide +kernel
theorem dd_130_20 : decode prog_14_method_1_code 20 = .ok (.aload_n 0, 1) := by decide +kernel
theorem dd_130_21 : decode prog_14_method_1_code 21 = .ok (.iconst 4, 1) := by decide +kernel
theorem dd_130_22 : decode prog_14_method_1_code 22 = .ok (.newarray .int, 2) := by decide +kernel
theorem dd_130_24 : decode prog_14_method_1_code 24 = .ok (.putfield 19, 3) := by decide +kernel
theorem dd_130_27 : decode prog_14_method_1_code 27 = .ok (.aload_n 0, 1) := by decide +kernel
theorem dd_130_28 : decode prog_14_method_1_code 28 = .ok (.iconst 2, 1) := by decide +kernel
theorem dd_130_29 : decode prog_14_method_1_code 29 = .ok (.putfield 23, 3) := by decide +kernel
theorem dd_130_32 : decode prog_14_method_1_code 32 = .ok (.aload_n 0, 1) := by decide +kernel
theorem dd_130_33 : decode prog_14_method_1_code 33 = .ok (.bipush 45, 2) := by decide +kernel
theorem dd_130_35 : decode prog_14_method_1_code 35 = .ok (.newarray .int, 2) := by decide +kernel
theorem dd_130_37 : decode prog_14_method_1_code 37 = .ok (.putfield 26, 3) := by decide +kernel
theorem dd_130_40 : decode prog_14_method_1_code 40 = .ok (.aload_n 0, 1) := by decide +kernel
theorem dd_130_41 : decode prog_14_method_1_code 41 = .ok (.iconst 2, 1) := by decide +kernel
theorem dd_130_42 : decode prog_14_method_1_code 42 = .ok (.putfield 29, 3) := by decide +kernel
theorem dd_130_45 : decode prog_14_method_1_code 45 = .ok (.aload_n 0, 1) := by decide +kernel
theorem dd_130_46 : decode prog_14_method_1_code 46 = .ok (.bipush 18, 2) := by decide +kernel
theorem dd_130_48 : decode prog_14_method_1_code 48 = .ok (.newarray .int, 2) := by decide +kernel
theorem dd_130_50 : decode prog_14_method_1_code 50 = .ok (.putfield 32, 3) := by decide +kernel
theorem dd_130_53 : decode prog_14_method_1_code 53 = .ok (.aload_n 0, 1) := by decide +kernel
theorem dd_130_54 : decode prog_14_method_1_code 54 = .ok (.bipush 16, 2) := by decide +kernel
theorem dd_130_56 : decode prog_14_method_1_code 56 = .ok (.newarray .int, 2) := by decide +kernel
theorem dd_130_58 : decode prog_14_method_1_code 58 = .ok (.putfield 35, 3) := by decide +kernel
theorem dd_130_61 : decode prog_14_method_1_code 61 = .ok (.aload_n 0, 1) := by decide +kernel
theorem dd_130_62 : decode prog_14_method_1_code 62 = .ok (.iconst 1, 1) := by decide +kernel
theorem dd_130_63 : decode prog_14_method_1_code 63 = .ok (.putfield 38, 3) := by decide +kernel
theorem dd_130_66 : decode prog_14_method_1_code 66 = .ok (.aload_n 0, 1) := by decide +kernel
theorem dd_130_67 : decode prog_14_method_1_code 67 = .ok (.bipush 18, 2) := by decide +kernel
theorem dd_130_69 : decode prog_14_method_1_code 69 = .ok (.newarray .int, 2) := by decide +kernel
theorem dd_130_71 : decode prog_14_method_1_code 71 = .ok (.putfield 41, 3) := by decide +kernel
theorem dd_130_74 : decode prog_14_method_1_code 74 = .ok (.aload_n 0, 1) := by decide +kernel
theorem dd_130_75 : decode prog_14_method_1_code 75 = .ok (.iconst 4, 1) := by decide +kernel
theorem dd_130_76 : decode prog_14_method_1_code 76 = .ok (.putfield 44, 3) := by decide +kernel
theorem dd_130_79 : decode prog_14_method_1_code 79 = .ok (.aload_n 0, 1) := by decide +kernel
theorem dd_130_80 : decode prog_14_method_1_code 80 = .ok (.bipush 8, 2) := by decide +kernel
theorem dd_130_82 : decode prog_14_method_1_code 82 = .ok (.newarray .int, 2) := by decide +kernel
theorem dd_130_84 : decode prog_14_method_1_code 84 = .ok (.putfield 47, 3) := by decide +kernel
theorem dd_130_87 : decode prog_14_method_1_code 87 = .ok (.aload_n 0, 1) := by decide +kernel
theorem dd_130_88 : decode prog_14_method_1_code 88 = .ok (.sipush 200, 3) := by decide +kernel
theorem dd_130_91 : decode prog_14_method_1_code 91 = .ok (.newarray .int, 2) := by decide +kernel
theorem dd_130_93 : decode prog_14_method_1_code 93 = .ok (.putfield 50, 3) := by decide +kernel
theorem dd_130_96 : decode prog_14_method_1_code 96 = .ok (.aload_n 0, 1) := by decide +kernel
theorem dd_130_97 : decode prog_14_method_1_code 97 = .ok (.iconst 5, 1) := by decide +kernel
theorem dd_130_98 : decode prog_14_method_1_code 98 = .ok (.newarray .int, 2) := by decide +kernel
theorem dd_130_100 : decode prog_14_method_1_code 100 = .ok (.putfield 53, 3) := by decide +kernel
theorem dd_130_103 : decode prog_14_method_1_code 103 = .ok (.aload_n 0, 1) := by decide +kernel
theorem dd_130_104 : decode prog_14_method_1_code 104 = .ok (.iconst 4, 1) := by decide +kernel
theorem dd_130_105 : decode prog_14_method_1_code 105 = .ok (.newarray .int, 2) := by decide +kernel
theorem dd_130_107 : decode prog_14_method_1_code 107 = .ok (.putfield 56, 3) := by decide +kernel
theorem dd_130_110 : decode prog_14_method_1_code 110 = .ok (.aload_n 0, 1) := by decide +kernel
theorem dd_130_111 : decode prog_14_method_1_code 111 = .ok (.bipush 45, 2) := by decide +kernel
theorem dd_130_113 : decode prog_14_method_1_code 113 = .ok (.newarray .int, 2) := by decide +kernel
theorem dd_130_115 : decode prog_14_method_1_code 115 = .ok (.putfield 59, 3) := by decide +kernel
theorem dd_130_118 : decode prog_14_method_1_code 118 = .ok (.aload_n 0, 1) := by decide +kernel
theorem dd_130_119 : decode prog_14_method_1_code 119 = .ok (.bipush 18, 2) := by decide +kernel
theorem dd_130_121 : decode prog_14_method_1_code 121 = .ok (.newarray .int, 2) := by decide +kernel
theorem dd_130_123 : decode prog_14_method_1_code 123 = .ok (.putfield 62, 3) := by decide +kernel
theorem dd_130_126 : decode prog_14_method_1_code 126 = .ok (.aload_n 0, 1) := by decide +kernel
theorem dd_130_127 : decode prog_14_method_1_code 127 = .ok (.bipush 16, 2) := by decide +kernel
theorem dd_130_129 : decode prog_14_method_1_code 129 = .ok (.newarray .int, 2) := by decide +kernel
theorem dd_130_131 : decode prog_14_method_1_code 131 = .ok (.putfield 65, 3) := by decide +kernel
theorem dd_130_134 : decode prog_14_method_1_code 134 = .ok (.aload_n 0, 1) := by decide +kernel
theorem dd_130_135 : decode prog_14_method_1_code 135 = .ok (.bipush 18, 2) := by decide +kernel
theorem dd_130_137 : decode prog_14_method_1_code 137 = .ok (.newarray .int, 2) := by decide +kernel
theorem dd_130_139 : decode prog_14_method_1_code 139 = .ok (.putfield 68, 3) := by decide +kernel
theorem dd_130_142 : decode prog_14_method_1_code 142 = .ok (.aload_n 0, 1) := by decide +kernel
theorem dd_130_143 : decode prog_14_method_1_code 143 = .ok (.bipush 8, 2) := by decide +kernel
theorem dd_130_145 : decode prog_14_method_1_code 145 = .ok (.newarray .int, 2) := by decide +kernel
theorem dd_130_147 : decode prog_14_method_1_code 147 = .ok (.putfield 71, 3) := by decide +kernel
theorem dd_130_150 : decode prog_14_method_1_code 150 = .ok (.aload_n 0, 1) := by decide +kernel
theorem dd_130_151 : decode prog_14_method_1_code 151 = .ok (.sipush 256, 3) := by decide +kernel
theorem dd_130_154 : decode prog_14_method_1_code 154 = .ok (.newarray .int, 2) := by decide +kernel
theorem dd_130_156 : decode prog_14_method_1_code 156 = .ok (.putfield 74, 3) := by decide +kernel
theorem dd_130_159 : decode prog_14_method_1_code 159 = .ok (.aload_n 0, 1) := by decide +kernel
theorem dd_130_160 : decode prog_14_method_1_code 160 = .ok (.sipush 256, 3) := by decide +kernel
theorem dd_130_163 : decode prog_14_method_1_code 163 = .ok (.newarray .int, 2) := by decide +kernel
theorem dd_130_165 : decode prog_14_method_1_code 165 = .ok (.putfield 77, 3) := by decide +kernel
theorem dd_130_168 : decode prog_14_method_1_code 168 = .ok (.aload_n 0, 1) := by decide +kernel
theorem dd_130_169 : decode prog_14_method_1_code 169 = .ok (.sipush 256, 3) := by decide +kernel
theorem dd_130_172 : decode prog_14_method_1_code 172 = .ok (.newarray .boolean, 2) := by decide +kernel
theorem dd_130_174 : decode prog_14_method_1_code 174 = .ok (.putfield 80, 3) := by decide +kernel
theorem dd_130_177 : decode prog_14_method_1_code 177 = .ok (.aload_n 0, 1) := by decide +kernel
theorem dd_130_178 : decode prog_14_method_1_code 178 = .ok (.bipush 60, 2) := by decide +kernel
theorem dd_130_180 : decode prog_14_method_1_code 180 = .ok (.newarray .int, 2) := by decide +kernel
theorem dd_130_182 : decode prog_14_method_1_code 182 = .ok (.putfield 84, 3) := by decide +kernel
theorem dd_130_185 : decode prog_14_method_1_code 185 = .ok (.aload_n 0, 1) := by decide +kernel
theorem dd_130_186 : decode prog_14_method_1_code 186 = .ok (.bipush 18, 2) := by decide +kernel
theorem dd_130_188 : decode prog_14_method_1_code 188 = .ok (.newarray .int, 2) := by decide +kernel
theorem dd_130_190 : decode prog_14_method_1_code 190 = .ok (.putfield 87, 3) := by decide +kernel
theorem dd_130_193 : decode prog_14_method_1_code 193 = .ok (.aload_n 0, 1) := by decide +kernel
theorem dd_130_194 : decode prog_14_method_1_code 194 = .ok (.bipush 8, 2) := by decide +kernel
theorem dd_130_196 : decode prog_14_method_1_code 196 = .ok (.newarray .int, 2) := by decide +kernel
theorem dd_130_198 : decode prog_14_method_1_code 198 = .ok (.putfield 90, 3) := by decide +kernel
theorem dd_130_201 : decode prog_14_method_1_code 201 = .ok (.aload_n 0, 1) := by decide +kernel
theorem dd_130_202 : decode prog_14_method_1_code 202 = .ok (.bipush 60, 2) := by decide +kernel
theorem dd_130_204 : decode prog_14_method_1_code 204 = .ok (.newarray .int, 2) := by decide +kernel
theorem dd_130_206 : decode prog_14_method_1_code 206 = .ok (.putfield 93, 3) := by decide +kernel
theorem dd_130_209 : decode prog_14_method_1_code 209 = .ok (.aload_n 0, 1) := by decide +kernel
theorem dd_130_210 : decode prog_14_method_1_code 210 = .ok (.sipush 256, 3) := by decide +kernel
theorem dd_130_213 : decode prog_14_method_1_code 213 = .ok (.newarray .int, 2) := by decide +kernel
theorem dd_130_215 : decode prog_14_method_1_code 215 = .ok (.putfield 96, 3) := by decide +kernel
theorem dd_130_218 : decode prog_14_method_1_code 218 = .ok (.aload_n 0, 1) := by decide +kernel
theorem dd_130_219 : decode prog_14_method_1_code 219 = .ok (.ldc 99, 2) := by decide +kernel
theorem dd_130_221 : decode prog_14_method_1_code 221 = .ok (.newarray .int, 2) := by decide +kernel
theorem dd_130_223 : decode prog_14_method_1_code 223 = .ok (.putfield 100, 3) := by decide +kernel
theorem dd_130_226 : decode prog_14_method_1_code 226 = .ok (.aload_n 0, 1) := by decide +kernel
theorem dd_130_227 : decode prog_14_method_1_code 227 = .ok (.bipush 6, 2) := by decide +kernel
theorem dd_130_229 : decode prog_14_method_1_code 229 = .ok (.newarray .int, 2) := by decide +kernel
theorem dd_130_231 : decode prog_14_method_1_code 231 = .ok (.putfield 103, 3) := by decide +kernel
theorem dd_130_234 : decode prog_14_method_1_code 234 = .ok (.aload_n 0, 1) := by decide +kernel
theorem dd_130_235 : decode prog_14_method_1_code 235 = .ok (.iconst 4, 1) := by decide +kernel
theorem dd_130_236 : decode prog_14_method_1_code 236 = .ok (.newarray .int, 2) := by decide +kernel
theorem dd_130_238 : decode prog_14_method_1_code 238 = .ok (.putfield 106, 3) := by decide +kernel
theorem dd_130_241 : decode prog_14_method_1_code 241 = .ok (.aload_n 0, 1) := by decide +kernel
theorem dd_130_242 : decode prog_14_method_1_code 242 = .ok (.bipush 40, 2) := by decide +kernel
theorem dd_130_244 : decode prog_14_method_1_code 244 = .ok (.newarray .int, 2) := by decide +kernel
theorem dd_130_246 : decode prog_14_method_1_code 246 = .ok (.putfield 109, 3) := by decide +kernel
theorem dd_130_249 : decode prog_14_method_1_code 249 = .ok (.aload_n 0, 1) := by decide +kernel
theorem dd_130_250 : decode prog_14_method_1_code 250 = .ok (.getfield 19, 3) := by decide +kernel
theorem dd_130_253 : decode prog_14_method_1_code 253 = .ok (.iconst 0, 1) := by decide +kernel
theorem dd_130_254 : decode prog_14_method_1_code 254 = .ok (.iconst 2, 1) := by decide +kernel
theorem dd_130_255 : decode prog_14_method_1_code 255 = .ok (.iastore, 1) := by decide +kernel
theorem dd_130_256 : decode prog_14_method_1_code 256 = .ok (.aload_n 0, 1) := by decide +kernel
theorem dd_130_257 : decode prog_14_method_1_code 257 = .ok (.getfield 19, 3) := by decide +kernel
theorem dd_130_260 : decode prog_14_method_1_code 260 = .ok (.iconst 1, 1) := by decide +kernel
theorem dd_130_261 : decode prog_14_method_1_code 261 = .ok (.iconst 3, 1) := by decide +kernel
theorem dd_130_262 : decode prog_14_method_1_code 262 = .ok (.iastore, 1) := by decide +kernel
theorem dd_130_263 : decode prog_14_method_1_code 263 = .ok (.aload_n 0, 1) := by decide +kernel
theorem dd_130_264 : decode prog_14_method_1_code 264 = .ok (.getfield 26, 3) := by decide +kernel
theorem dd_130_267 : decode prog_14_method_1_code 267 = .ok (.iconst 0, 1) := by decide +kernel
theorem dd_130_268 : decode prog_14_method_1_code 268 = .ok (.iconst 0, 1) := by decide +kernel
theorem dd_130_269 : decode prog_14_method_1_code 269 = .ok (.iconst 2, 1) := by decide +kernel
theorem dd_130_270 : decode prog_14_method_1_code 270 = .ok (.iconst 4, 1) := by decide +kernel
theorem dd_130_271 : decode prog_14_method_1_code 271 = .ok (.invokestatic 112, 3) := by decide +kernel
theorem dd_130_274 : decode prog_14_method_1_code 274 = .ok (.aload_n 0, 1) := by decide +kernel
theorem dd_130_275 : decode prog_14_method_1_code 275 = .ok (.getfield 26, 3) := by decide +kernel
theorem dd_130_278 : decode prog_14_method_1_code 278 = .ok (.iconst 3, 1) := by decide +kernel
theorem dd_130_279 : decode prog_14_method_1_code 279 = .ok (.bipush 7, 2) := by decide +kernel
theorem dd_130_281 : decode prog_14_method_1_code 281 = .ok (.iconst 0, 1) := by decide +kernel
theorem dd_130_282 : decode prog_14_method_1_code 282 = .ok (.iconst 1, 1) := by decide +kernel
theorem dd_130_283 : decode prog_14_method_1_code 283 = .ok (.invokestatic 112, 3) := by decide +kernel
theorem dd_130_286 : decode prog_14_method_1_code 286 = .ok (.aload_n 0, 1) := by decide +kernel
theorem dd_130_287 : decode prog_14_method_1_code 287 = .ok (.getfield 26, 3) := by decide +kernel
theorem dd_130_290 : decode prog_14_method_1_code 290 = .ok (.bipush 6, 2) := by decide +kernel
theorem dd_130_292 : decode prog_14_method_1_code 292 = .ok (.iconst 5, 1) := by decide +kernel
theorem dd_130_293 : decode prog_14_method_1_code 293 = .ok (.iconst 5, 1) := by decide +kernel
theorem dd_130_294 : decode prog_14_method_1_code 294 = .ok (.bipush 9, 2) := by decide +kernel
theorem dd_130_296 : decode prog_14_method_1_code 296 = .ok (.invokestatic 112, 3) := by decide +kernel
theorem dd_130_299 : decode prog_14_method_1_code 299 = .ok (.aload_n 0, 1) := by decide +kernel
theorem dd_130_300 : decode prog_14_method_1_code 300 = .ok (.getfield 26, 3) := by decide +kernel
theorem dd_130_303 : decode prog_14_method_1_code 303 = .ok (.bipush 9, 2) := by decide +kernel
theorem dd_130_305 : decode prog_14_method_1_code 305 = .ok (.iconst 1, 1) := by decide +kernel
theorem dd_130_306 : decode prog_14_method_1_code 306 = .ok (.iastore, 1) := by decide +kernel
theorem dd_130_307 : decode prog_14_method_1_code 307 = .ok (.aload_n 0, 1) := by decide +kernel
theorem dd_130_308 : decode prog_14_method_1_code 308 = .ok (.getfield 32, 3) := by decide +kernel
theorem dd_130_311 : decode prog_14_method_1_code 311 = .ok (.iconst 0, 1) := by decide +kernel
theorem dd_130_312 : decode prog_14_method_1_code 312 = .ok (.iconst 0, 1) := by decide +kernel
theorem dd_130_313 : decode prog_14_method_1_code 313 = .ok (.iconst 5, 1) := by decide +kernel
theorem dd_130_314 : decode prog_14_method_1_code 314 = .ok (.bipush 6, 2) := by decide +kernel
theorem dd_130_316 : decode prog_14_method_1_code 316 = .ok (.invokestatic 112, 3) := by decide +kernel
theorem dd_130_319 : decode prog_14_method_1_code 319 = .ok (.aload_n 0, 1) := by decide +kernel
theorem dd_130_320 : decode prog_14_method_1_code 320 = .ok (.getfield 32, 3) := by decide +kernel
theorem dd_130_323 : decode prog_14_method_1_code 323 = .ok (.iconst 3, 1) := by decide +kernel
theorem dd_130_324 : decode prog_14_method_1_code 324 = .ok (.iconst 1, 1) := by decide +kernel
theorem dd_130_325 : decode prog_14_method_1_code 325 = .ok (.bipush 8, 2) := by decide +kernel
theorem dd_130_327 : decode prog_14_method_1_code 327 = .ok (.bipush 9, 2) := by decide +kernel
theorem dd_130_329 : decode prog_14_method_1_code 329 = .ok (.invokestatic 112, 3) := by decide +kernel
theorem dd_130_332 : decode prog_14_method_1_code 332 = .ok (.aload_n 0, 1) := by decide +kernel
theorem dd_130_333 : decode prog_14_method_1_code 333 = .ok (.getfield 41, 3) := by decide +kernel
theorem dd_130_336 : decode prog_14_method_1_code 336 = .ok (.iconst 0, 1) := by decide +kernel
theorem dd_130_337 : decode prog_14_method_1_code 337 = .ok (.iconst 0, 1) := by decide +kernel
theorem dd_130_338 : decode prog_14_method_1_code 338 = .ok (.iconst 1, 1) := by decide +kernel
theorem dd_130_339 : decode prog_14_method_1_code 339 = .ok (.iconst 2, 1) := by decide +kernel
theorem dd_130_340 : decode prog_14_method_1_code 340 = .ok (.invokestatic 112, 3) := by decide +kernel
theorem dd_130_343 : decode prog_14_method_1_code 343 = .ok (.aload_n 0, 1) := by decide +kernel
theorem dd_130_344 : decode prog_14_method_1_code 344 = .ok (.getfield 47, 3) := by decide +kernel
theorem dd_130_347 : decode prog_14_method_1_code 347 = .ok (.iconst 2, 1) := by decide +kernel
theorem dd_130_348 : decode prog_14_method_1_code 348 = .ok (.iconst 1, 1) := by decide +kernel
theorem dd_130_349 : decode prog_14_method_1_code 349 = .ok (.iconst 0, 1) := by decide +kernel
theorem dd_130_350 : decode prog_14_method_1_code 350 = .ok (.iconst 2, 1) := by decide +kernel
theorem dd_130_351 : decode prog_14_method_1_code 351 = .ok (.invokestatic 112, 3) := by decide +kernel
theorem dd_130_354 : decode prog_14_method_1_code 354 = .ok (.aload_n 0, 1) := by decide +kernel
theorem dd_130_355 : decode prog_14_method_1_code 355 = .ok (.getfield 47, 3) := by decide +kernel
theorem dd_130_358 : decode prog_14_method_1_code 358 = .ok (.iconst 4, 1) := by decide +kernel
theorem dd_130_359 : decode prog_14_method_1_code 359 = .ok (.iconst 2, 1) := by decide +kernel
theorem dd_130_360 : decode prog_14_method_1_code 360 = .ok (.iconst 0, 1) := by decide +kernel
theorem dd_130_361 : decode prog_14_method_1_code 361 = .ok (.iconst 3, 1) := by decide +kernel
theorem dd_130_362 : decode prog_14_method_1_code 362 = .ok (.invokestatic 112, 3) := by decide +kernel
theorem dd_130_365 : decode prog_14_method_1_code 365 = .ok (.aload_n 0, 1) := by decide +kernel
theorem dd_130_366 : decode prog_14_method_1_code 366 = .ok (.getfield 47, 3) := by decide +kernel
theorem dd_130_369 : decode prog_14_method_1_code 369 = .ok (.bipush 7, 2) := by decide +kernel
theorem dd_130_371 : decode prog_14_method_1_code 371 = .ok (.iconst 1, 1) := by decide +kernel
theorem dd_130_372 : decode prog_14_method_1_code 372 = .ok (.iastore, 1) := by decide +kernel
theorem dd_130_373 : decode prog_14_method_1_code 373 = .ok (.return_, 1) := by decide +kernel
theorem kb_130_0 : am_row mi_130 0 kr_130_0 := am_rs rfl (ok_aload_n (k := 0) dd_130_0 rfl rfl) (am_rs rfl (ok_co dd_130_1 rfl w_930 w_28 w_29 ⟨by decide, by decide⟩) (am_rn rfl (am_rn rfl (am_rs rfl (ok_aload_n (k := 0) dd_130_4 rfl rfl) (am_rs rfl (ok_bipush dd_130_5 bi_12 rfl) (am_rn rfl (am_rs rfl (ok_pf dd_130_7 rfl am_ck12 (by decide) (Or.inl w_935) (Or.inl rfl) rfl) (am_rz))))))))
theorem kb_130_1 : am_row mi_130 8 kr_130_1 := am_rn rfl (am_rn rfl (am_rs rfl (ok_aload_n (k := 0) dd_130_10 rfl rfl) (am_rs rfl (ok_iconst dd_130_11 ic_1 rfl) (am_rs rfl (ok_pf dd_130_12 rfl am_ck12 (by decide) (Or.inl w_936) (Or.inl rfl) rfl) (am_rn rfl (am_rn rfl (am_rs rfl (ok_aload_n (k := 0) dd_130_15 rfl rfl) (am_rz))))))))
theorem kb_130_2 : am_row mi_130 16 kr_130_2 := am_rs rfl (ok_iconst dd_130_16 ic_2 rfl) (am_rs rfl (ok_pf dd_130_17 rfl am_ck12 (by decide) (Or.inl w_937) (Or.inl rfl) rfl) (am_rn rfl (am_rn rfl (am_rs rfl (ok_aload_n (k := 0) dd_130_20 rfl rfl) (am_rs rfl (ok_iconst dd_130_21 ic_4 rfl) (am_rs rfl (ok_nwa (at' := .int) dd_130_22 rfl (Or.inl ⟨rfl, rfl⟩) w_44) (am_rn rfl (am_rz))))))))
theorem kb_130_3 : am_row mi_130 24 kr_130_3 := am_rs rfl (ok_pf dd_130_24 rfl am_ck12 (by decide) (Or.inl w_938) (Or.inr ⟨rfl, rfl, rfl, w_938⟩) rfl) (am_rn rfl (am_rn rfl (am_rs rfl (ok_aload_n (k := 0) dd_130_27 rfl rfl) (am_rs rfl (ok_iconst dd_130_28 ic_2 rfl) (am_rs rfl (ok_pf dd_130_29 rfl am_ck12 (by decide) (Or.inl w_939) (Or.inl rfl) rfl) (am_rn rfl (am_rn rfl (am_rz))))))))
theorem kb_130_4 : am_row mi_130 32 kr_130_4 := am_rs rfl (ok_aload_n (k := 0) dd_130_32 rfl rfl) (am_rs rfl (ok_bipush dd_130_33 bi_45 rfl) (am_rn rfl (am_rs rfl (ok_nwa (at' := .int) dd_130_35 rfl (Or.inl ⟨rfl, rfl⟩) w_44) (am_rn rfl (am_rs rfl (ok_pf dd_130_37 rfl am_ck12 (by decide) (Or.inl w_940) (Or.inr ⟨rfl, rfl, rfl, w_940⟩) rfl) (am_rn rfl (am_rn rfl (am_rz))))))))
theorem kb_130_5 : am_row mi_130 40 kr_130_5 := am_rs rfl (ok_aload_n (k := 0) dd_130_40 rfl rfl) (am_rs rfl (ok_iconst dd_130_41 ic_2 rfl) (am_rs rfl (ok_pf dd_130_42 rfl am_ck12 (by decide) (Or.inl w_941) (Or.inl rfl) rfl) (am_rn rfl (am_rn rfl (am_rs rfl (ok_aload_n (k := 0) dd_130_45 rfl rfl) (am_rs rfl (ok_bipush dd_130_46 bi_18 rfl) (am_rn rfl (am_rz))))))))
theorem kb_130_6 : am_row mi_130 48 kr_130_6 := am_rs rfl (ok_nwa (at' := .int) dd_130_48 rfl (Or.inl ⟨rfl, rfl⟩) w_44) (am_rn rfl (am_rs rfl (ok_pf dd_130_50 rfl am_ck12 (by decide) (Or.inl w_942) (Or.inr ⟨rfl, rfl, rfl, w_942⟩) rfl) (am_rn rfl (am_rn rfl (am_rs rfl (ok_aload_n (k := 0) dd_130_53 rfl rfl) (am_rs rfl (ok_bipush dd_130_54 bi_16 rfl) (am_rn rfl (am_rz))))))))
theorem kb_130_7 : am_row mi_130 56 kr_130_7 := am_rs rfl (ok_nwa (at' := .int) dd_130_56 rfl (Or.inl ⟨rfl, rfl⟩) w_44) (am_rn rfl (am_rs rfl (ok_pf dd_130_58 rfl am_ck12 (by decide) (Or.inl w_944) (Or.inr ⟨rfl, rfl, rfl, w_944⟩) rfl) (am_rn rfl (am_rn rfl (am_rs rfl (ok_aload_n (k := 0) dd_130_61 rfl rfl) (am_rs rfl (ok_iconst dd_130_62 ic_1 rfl) (am_rs rfl (ok_pf dd_130_63 rfl am_ck12 (by decide) (Or.inl w_945) (Or.inl rfl) rfl) (am_rz))))))))
theorem kb_130_8 : am_row mi_130 64 kr_130_8 := am_rn rfl (am_rn rfl (am_rs rfl (ok_aload_n (k := 0) dd_130_66 rfl rfl) (am_rs rfl (ok_bipush dd_130_67 bi_18 rfl) (am_rn rfl (am_rs rfl (ok_nwa (at' := .int) dd_130_69 rfl (Or.inl ⟨rfl, rfl⟩) w_44) (am_rn rfl (am_rs rfl (ok_pf dd_130_71 rfl am_ck12 (by decide) (Or.inl w_946) (Or.inr ⟨rfl, rfl, rfl, w_946⟩) rfl) (am_rz))))))))
theorem kb_130_9 : am_row mi_130 72 kr_130_9 := am_rn rfl (am_rn rfl (am_rs rfl (ok_aload_n (k := 0) dd_130_74 rfl rfl) (am_rs rfl (ok_iconst dd_130_75 ic_4 rfl) (am_rs rfl (ok_pf dd_130_76 rfl am_ck12 (by decide) (Or.inl w_947) (Or.inl rfl) rfl) (am_rn rfl (am_rn rfl (am_rs rfl (ok_aload_n (k := 0) dd_130_79 rfl rfl) (am_rz))))))))
theorem kb_130_10 : am_row mi_130 80 kr_130_10 := am_rs rfl (ok_bipush dd_130_80 bi_8 rfl) (am_rn rfl (am_rs rfl (ok_nwa (at' := .int) dd_130_82 rfl (Or.inl ⟨rfl, rfl⟩) w_44) (am_rn rfl (am_rs rfl (ok_pf dd_130_84 rfl am_ck12 (by decide) (Or.inl w_948) (Or.inr ⟨rfl, rfl, rfl, w_948⟩) rfl) (am_rn rfl (am_rn rfl (am_rs rfl (ok_aload_n (k := 0) dd_130_87 rfl rfl) (am_rz))))))))
theorem kb_130_11 : am_row mi_130 88 kr_130_11 := am_rs rfl (ok_sipush dd_130_88 si_200 rfl) (am_rn rfl (am_rn rfl (am_rs rfl (ok_nwa (at' := .int) dd_130_91 rfl (Or.inl ⟨rfl, rfl⟩) w_44) (am_rn rfl (am_rs rfl (ok_pf dd_130_93 rfl am_ck12 (by decide) (Or.inl w_949) (Or.inr ⟨rfl, rfl, rfl, w_949⟩) rfl) (am_rn rfl (am_rn rfl (am_rz))))))))
theorem kb_130_12 : am_row mi_130 96 kr_130_12 := am_rs rfl (ok_aload_n (k := 0) dd_130_96 rfl rfl) (am_rs rfl (ok_iconst dd_130_97 ic_5 rfl) (am_rs rfl (ok_nwa (at' := .int) dd_130_98 rfl (Or.inl ⟨rfl, rfl⟩) w_44) (am_rn rfl (am_rs rfl (ok_pf dd_130_100 rfl am_ck12 (by decide) (Or.inl w_952) (Or.inr ⟨rfl, rfl, rfl, w_952⟩) rfl) (am_rn rfl (am_rn rfl (am_rs rfl (ok_aload_n (k := 0) dd_130_103 rfl rfl) (am_rz))))))))
theorem kb_130_13 : am_row mi_130 104 kr_130_13 := am_rs rfl (ok_iconst dd_130_104 ic_4 rfl) (am_rs rfl (ok_nwa (at' := .int) dd_130_105 rfl (Or.inl ⟨rfl, rfl⟩) w_44) (am_rn rfl (am_rs rfl (ok_pf dd_130_107 rfl am_ck12 (by decide) (Or.inl w_956) (Or.inr ⟨rfl, rfl, rfl, w_956⟩) rfl) (am_rn rfl (am_rn rfl (am_rs rfl (ok_aload_n (k := 0) dd_130_110 rfl rfl) (am_rs rfl (ok_bipush dd_130_111 bi_45 rfl) (am_rz))))))))
theorem kb_130_14 : am_row mi_130 112 kr_130_14 := am_rn rfl (am_rs rfl (ok_nwa (at' := .int) dd_130_113 rfl (Or.inl ⟨rfl, rfl⟩) w_44) (am_rn rfl (am_rs rfl (ok_pf dd_130_115 rfl am_ck12 (by decide) (Or.inl w_958) (Or.inr ⟨rfl, rfl, rfl, w_958⟩) rfl) (am_rn rfl (am_rn rfl (am_rs rfl (ok_aload_n (k := 0) dd_130_118 rfl rfl) (am_rs rfl (ok_bipush dd_130_119 bi_18 rfl) (am_rz))))))))
theorem kb_130_15 : am_row mi_130 120 kr_130_15 := am_rn rfl (am_rs rfl (ok_nwa (at' := .int) dd_130_121 rfl (Or.inl ⟨rfl, rfl⟩) w_44) (am_rn rfl (am_rs rfl (ok_pf dd_130_123 rfl am_ck12 (by decide) (Or.inl w_960) (Or.inr ⟨rfl, rfl, rfl, w_960⟩) rfl) (am_rn rfl (am_rn rfl (am_rs rfl (ok_aload_n (k := 0) dd_130_126 rfl rfl) (am_rs rfl (ok_bipush dd_130_127 bi_16 rfl) (am_rz))))))))
theorem kb_130_16 : am_row mi_130 128 kr_130_16 := am_rn rfl (am_rs rfl (ok_nwa (at' := .int) dd_130_129 rfl (Or.inl ⟨rfl, rfl⟩) w_44) (am_rn rfl (am_rs rfl (ok_pf dd_130_131 rfl am_ck12 (by decide) (Or.inl w_962) (Or.inr ⟨rfl, rfl, rfl, w_962⟩) rfl) (am_rn rfl (am_rn rfl (am_rs rfl (ok_aload_n (k := 0) dd_130_134 rfl rfl) (am_rs rfl (ok_bipush dd_130_135 bi_18 rfl) (am_rz))))))))
theorem kb_130_17 : am_row mi_130 136 kr_130_17 := am_rn rfl (am_rs rfl (ok_nwa (at' := .int) dd_130_137 rfl (Or.inl ⟨rfl, rfl⟩) w_44) (am_rn rfl (am_rs rfl (ok_pf dd_130_139 rfl am_ck12 (by decide) (Or.inl w_964) (Or.inr ⟨rfl, rfl, rfl, w_964⟩) rfl) (am_rn rfl (am_rn rfl (am_rs rfl (ok_aload_n (k := 0) dd_130_142 rfl rfl) (am_rs rfl (ok_bipush dd_130_143 bi_8 rfl) (am_rz))))))))
theorem kb_130_18 : am_row mi_130 144 kr_130_18 := am_rn rfl (am_rs rfl (ok_nwa (at' := .int) dd_130_145 rfl (Or.inl ⟨rfl, rfl⟩) w_44) (am_rn rfl (am_rs rfl (ok_pf dd_130_147 rfl am_ck12 (by decide) (Or.inl w_966) (Or.inr ⟨rfl, rfl, rfl, w_966⟩) rfl) (am_rn rfl (am_rn rfl (am_rs rfl (ok_aload_n (k := 0) dd_130_150 rfl rfl) (am_rs rfl (ok_sipush dd_130_151 si_256 rfl) (am_rz))))))))
theorem kb_130_19 : am_row mi_130 152 kr_130_19 := am_rn rfl (am_rn rfl (am_rs rfl (ok_nwa (at' := .int) dd_130_154 rfl (Or.inl ⟨rfl, rfl⟩) w_44) (am_rn rfl (am_rs rfl (ok_pf dd_130_156 rfl am_ck12 (by decide) (Or.inl w_967) (Or.inr ⟨rfl, rfl, rfl, w_967⟩) rfl) (am_rn rfl (am_rn rfl (am_rs rfl (ok_aload_n (k := 0) dd_130_159 rfl rfl) (am_rz))))))))
theorem kb_130_20 : am_row mi_130 160 kr_130_20 := am_rs rfl (ok_sipush dd_130_160 si_256 rfl) (am_rn rfl (am_rn rfl (am_rs rfl (ok_nwa (at' := .int) dd_130_163 rfl (Or.inl ⟨rfl, rfl⟩) w_44) (am_rn rfl (am_rs rfl (ok_pf dd_130_165 rfl am_ck12 (by decide) (Or.inl w_968) (Or.inr ⟨rfl, rfl, rfl, w_968⟩) rfl) (am_rn rfl (am_rn rfl (am_rz))))))))
theorem kb_130_21 : am_row mi_130 168 kr_130_21 := am_rs rfl (ok_aload_n (k := 0) dd_130_168 rfl rfl) (am_rs rfl (ok_sipush dd_130_169 si_256 rfl) (am_rn rfl (am_rn rfl (am_rs rfl (ok_nwa (at' := .boolean) dd_130_172 rfl (Or.inr (Or.inr ⟨rfl, rfl⟩)) w_1101) (am_rn rfl (am_rs rfl (ok_pf dd_130_174 rfl am_ck12 (by decide) (Or.inl w_969) (Or.inr ⟨rfl, rfl, rfl, w_969⟩) rfl) (am_rn rfl (am_rz))))))))
theorem kb_130_22 : am_row mi_130 176 kr_130_22 := am_rn rfl (am_rs rfl (ok_aload_n (k := 0) dd_130_177 rfl rfl) (am_rs rfl (ok_bipush dd_130_178 bi_60 rfl) (am_rn rfl (am_rs rfl (ok_nwa (at' := .int) dd_130_180 rfl (Or.inl ⟨rfl, rfl⟩) w_44) (am_rn rfl (am_rs rfl (ok_pf dd_130_182 rfl am_ck12 (by decide) (Or.inl w_970) (Or.inr ⟨rfl, rfl, rfl, w_970⟩) rfl) (am_rn rfl (am_rz))))))))
theorem kb_130_23 : am_row mi_130 184 kr_130_23 := am_rn rfl (am_rs rfl (ok_aload_n (k := 0) dd_130_185 rfl rfl) (am_rs rfl (ok_bipush dd_130_186 bi_18 rfl) (am_rn rfl (am_rs rfl (ok_nwa (at' := .int) dd_130_188 rfl (Or.inl ⟨rfl, rfl⟩) w_44) (am_rn rfl (am_rs rfl (ok_pf dd_130_190 rfl am_ck12 (by decide) (Or.inl w_976) (Or.inr ⟨rfl, rfl, rfl, w_976⟩) rfl) (am_rn rfl (am_rz))))))))
theorem kb_130_24 : am_row mi_130 192 kr_130_24 := am_rn rfl (am_rs rfl (ok_aload_n (k := 0) dd_130_193 rfl rfl) (am_rs rfl (ok_bipush dd_130_194 bi_8 rfl) (am_rn rfl (am_rs rfl (ok_nwa (at' := .int) dd_130_196 rfl (Or.inl ⟨rfl, rfl⟩) w_44) (am_rn rfl (am_rs rfl (ok_pf dd_130_198 rfl am_ck12 (by decide) (Or.inl w_978) (Or.inr ⟨rfl, rfl, rfl, w_978⟩) rfl) (am_rn rfl (am_rz))))))))
theorem kb_130_25 : am_row mi_130 200 kr_130_25 := am_rn rfl (am_rs rfl (ok_aload_n (k := 0) dd_130_201 rfl rfl) (am_rs rfl (ok_bipush dd_130_202 bi_60 rfl) (am_rn rfl (am_rs rfl (ok_nwa (at' := .int) dd_130_204 rfl (Or.inl ⟨rfl, rfl⟩) w_44) (am_rn rfl (am_rs rfl (ok_pf dd_130_206 rfl am_ck12 (by decide) (Or.inl w_980) (Or.inr ⟨rfl, rfl, rfl, w_980⟩) rfl) (am_rn rfl (am_rz))))))))
theorem kb_130_26 : am_row mi_130 208 kr_130_26 := am_rn rfl (am_rs rfl (ok_aload_n (k := 0) dd_130_209 rfl rfl) (am_rs rfl (ok_sipush dd_130_210 si_256 rfl) (am_rn rfl (am_rn rfl (am_rs rfl (ok_nwa (at' := .int) dd_130_213 rfl (Or.inl ⟨rfl, rfl⟩) w_44) (am_rn rfl (am_rs rfl (ok_pf dd_130_215 rfl am_ck12 (by decide) (Or.inl w_981) (Or.inr ⟨rfl, rfl, rfl, w_981⟩) rfl) (am_rz))))))))
theorem kb_130_27 : am_row mi_130 216 kr_130_27 := am_rn rfl (am_rn rfl (am_rs rfl (ok_aload_n (k := 0) dd_130_218 rfl rfl) (am_rs rfl (ok_ldc dd_130_219 w_931 rfl) (am_rn rfl (am_rs rfl (ok_nwa (at' := .int) dd_130_221 rfl (Or.inl ⟨rfl, rfl⟩) w_44) (am_rn rfl (am_rs rfl (ok_pf dd_130_223 rfl am_ck12 (by decide) (Or.inl w_982) (Or.inr ⟨rfl, rfl, rfl, w_982⟩) rfl) (am_rz))))))))
theorem kb_130_28 : am_row mi_130 224 kr_130_28 := am_rn rfl (am_rn rfl (am_rs rfl (ok_aload_n (k := 0) dd_130_226 rfl rfl) (am_rs rfl (ok_bipush dd_130_227 bi_6 rfl) (am_rn rfl (am_rs rfl (ok_nwa (at' := .int) dd_130_229 rfl (Or.inl ⟨rfl, rfl⟩) w_44) (am_rn rfl (am_rs rfl (ok_pf dd_130_231 rfl am_ck12 (by decide) (Or.inl w_986) (Or.inr ⟨rfl, rfl, rfl, w_986⟩) rfl) (am_rz))))))))
theorem kb_130_29 : am_row mi_130 232 kr_130_29 := am_rn rfl (am_rn rfl (am_rs rfl (ok_aload_n (k := 0) dd_130_234 rfl rfl) (am_rs rfl (ok_iconst dd_130_235 ic_4 rfl) (am_rs rfl (ok_nwa (at' := .int) dd_130_236 rfl (Or.inl ⟨rfl, rfl⟩) w_44) (am_rn rfl (am_rs rfl (ok_pf dd_130_238 rfl am_ck12 (by decide) (Or.inl w_987) (Or.inr ⟨rfl, rfl, rfl, w_987⟩) rfl) (am_rn rfl (am_rz))))))))
theorem kb_130_30 : am_row mi_130 240 kr_130_30 := am_rn rfl (am_rs rfl (ok_aload_n (k := 0) dd_130_241 rfl rfl) (am_rs rfl (ok_bipush dd_130_242 bi_40 rfl) (am_rn rfl (am_rs rfl (ok_nwa (at' := .int) dd_130_244 rfl (Or.inl ⟨rfl, rfl⟩) w_44) (am_rn rfl (am_rs rfl (ok_pf dd_130_246 rfl am_ck12 (by decide) (Or.inl w_989) (Or.inr ⟨rfl, rfl, rfl, w_989⟩) rfl) (am_rn rfl (am_rz))))))))
theorem kb_130_31 : am_row mi_130 248 kr_130_31 := am_rn rfl (am_rs rfl (ok_aload_n (k := 0) dd_130_249 rfl rfl) (am_rs rfl (ok_gf dd_130_250 rfl am_ck12 (by decide) (Or.inl w_938)) (am_rn rfl (am_rn rfl (am_rs rfl (ok_iconst dd_130_253 ic_0 rfl) (am_rs rfl (ok_iconst dd_130_254 ic_2 rfl) (am_rs rfl (ok_iast dd_130_255 rfl) (am_rz))))))))
theorem kb_130_32 : am_row mi_130 256 kr_130_32 := am_rs rfl (ok_aload_n (k := 0) dd_130_256 rfl rfl) (am_rs rfl (ok_gf dd_130_257 rfl am_ck12 (by decide) (Or.inl w_938)) (am_rn rfl (am_rn rfl (am_rs rfl (ok_iconst dd_130_260 ic_1 rfl) (am_rs rfl (ok_iconst dd_130_261 ic_3 rfl) (am_rs rfl (ok_iast dd_130_262 rfl) (am_rs rfl (ok_aload_n (k := 0) dd_130_263 rfl rfl) (am_rz))))))))
theorem kb_130_33 : am_row mi_130 264 kr_130_33 := am_rs rfl (ok_gf dd_130_264 rfl am_ck12 (by decide) (Or.inl w_940)) (am_rn rfl (am_rn rfl (am_rs rfl (ok_iconst dd_130_267 ic_0 rfl) (am_rs rfl (ok_iconst dd_130_268 ic_0 rfl) (am_rs rfl (ok_iconst dd_130_269 ic_2 rfl) (am_rs rfl (ok_iconst dd_130_270 ic_4 rfl) (am_rs rfl (ok_cs (M' := mi_131) dd_130_271 rfl rfl w_932 w_933 ⟨lk_131.1, lk_131.2.1, lk_131.2.2, by decide, by decide⟩) (am_rz))))))))
theorem kb_130_34 : am_row mi_130 272 kr_130_34 := am_rn rfl (am_rn rfl (am_rs rfl (ok_aload_n (k := 0) dd_130_274 rfl rfl) (am_rs rfl (ok_gf dd_130_275 rfl am_ck12 (by decide) (Or.inl w_940)) (am_rn rfl (am_rn rfl (am_rs rfl (ok_iconst dd_130_278 ic_3 rfl) (am_rs rfl (ok_bipush dd_130_279 bi_7 rfl) (am_rz))))))))
theorem kb_130_35 : am_row mi_130 280 kr_130_35 := am_rn rfl (am_rs rfl (ok_iconst dd_130_281 ic_0 rfl) (am_rs rfl (ok_iconst dd_130_282 ic_1 rfl) (am_rs rfl (ok_cs (M' := mi_131) dd_130_283 rfl rfl w_932 w_933 ⟨lk_131.1, lk_131.2.1, lk_131.2.2, by decide, by decide⟩) (am_rn rfl (am_rn rfl (am_rs rfl (ok_aload_n (k := 0) dd_130_286 rfl rfl) (am_rs rfl (ok_gf dd_130_287 rfl am_ck12 (by decide) (Or.inl w_940)) (am_rz))))))))
theorem kb_130_36 : am_row mi_130 288 kr_130_36 := am_rn rfl (am_rn rfl (am_rs rfl (ok_bipush dd_130_290 bi_6 rfl) (am_rn rfl (am_rs rfl (ok_iconst dd_130_292 ic_5 rfl) (am_rs rfl (ok_iconst dd_130_293 ic_5 rfl) (am_rs rfl (ok_bipush dd_130_294 bi_9 rfl) (am_rn rfl (am_rz))))))))
theorem kb_130_37 : am_row mi_130 296 kr_130_37 := am_rs rfl (ok_cs (M' := mi_131) dd_130_296 rfl rfl w_932 w_933 ⟨lk_131.1, lk_131.2.1, lk_131.2.2, by decide, by decide⟩) (am_rn rfl (am_rn rfl (am_rs rfl (ok_aload_n (k := 0) dd_130_299 rfl rfl) (am_rs rfl (ok_gf dd_130_300 rfl am_ck12 (by decide) (Or.inl w_940)) (am_rn rfl (am_rn rfl (am_rs rfl (ok_bipush dd_130_303 bi_9 rfl) (am_rz))))))))
theorem kb_130_38 : am_row mi_130 304 kr_130_38 := am_rn rfl (am_rs rfl (ok_iconst dd_130_305 ic_1 rfl) (am_rs rfl (ok_iast dd_130_306 rfl) (am_rs rfl (ok_aload_n (k := 0) dd_130_307 rfl rfl) (am_rs rfl (ok_gf dd_130_308 rfl am_ck12 (by decide) (Or.inl w_942)) (am_rn rfl (am_rn rfl (am_rs rfl (ok_iconst dd_130_311 ic_0 rfl) (am_rz))))))))
theorem kb_130_39 : am_row mi_130 312 kr_130_39 := am_rs rfl (ok_iconst dd_130_312 ic_0 rfl) (am_rs rfl (ok_iconst dd_130_313 ic_5 rfl) (am_rs rfl (ok_bipush dd_130_314 bi_6 rfl) (am_rn rfl (am_rs rfl (ok_cs (M' := mi_131) dd_130_316 rfl rfl w_932 w_933 ⟨lk_131.1, lk_131.2.1, lk_131.2.2, by decide, by decide⟩) (am_rn rfl (am_rn rfl (am_rs rfl (ok_aload_n (k := 0) dd_130_319 rfl rfl) (am_rz))))))))
theorem kb_130_40 : am_row mi_130 320 kr_130_40 := am_rs rfl (ok_gf dd_130_320 rfl am_ck12 (by decide) (Or.inl w_942)) (am_rn rfl (am_rn rfl (am_rs rfl (ok_iconst dd_130_323 ic_3 rfl) (am_rs rfl (ok_iconst dd_130_324 ic_1 rfl) (am_rs rfl (ok_bipush dd_130_325 bi_8 rfl) (am_rn rfl (am_rs rfl (ok_bipush dd_130_327 bi_9 rfl) (am_rz))))))))
theorem kb_130_41 : am_row mi_130 328 kr_130_41 := am_rn rfl (am_rs rfl (ok_cs (M' := mi_131) dd_130_329 rfl rfl w_932 w_933 ⟨lk_131.1, lk_131.2.1, lk_131.2.2, by decide, by decide⟩) (am_rn rfl (am_rn rfl (am_rs rfl (ok_aload_n (k := 0) dd_130_332 rfl rfl) (am_rs rfl (ok_gf dd_130_333 rfl am_ck12 (by decide) (Or.inl w_946)) (am_rn rfl (am_rn rfl (am_rz))))))))
theorem kb_130_42 : am_row mi_130 336 kr_130_42 := am_rs rfl (ok_iconst dd_130_336 ic_0 rfl) (am_rs rfl (ok_iconst dd_130_337 ic_0 rfl) (am_rs rfl (ok_iconst dd_130_338 ic_1 rfl) (am_rs rfl (ok_iconst dd_130_339 ic_2 rfl) (am_rs rfl (ok_cs (M' := mi_131) dd_130_340 rfl rfl w_932 w_933 ⟨lk_131.1, lk_131.2.1, lk_131.2.2, by decide, by decide⟩) (am_rn rfl (am_rn rfl (am_rs rfl (ok_aload_n (k := 0) dd_130_343 rfl rfl) (am_rz))))))))
theorem kb_130_43 : am_row mi_130 344 kr_130_43 := am_rs rfl (ok_gf dd_130_344 rfl am_ck12 (by decide) (Or.inl w_948)) (am_rn rfl (am_rn rfl (am_rs rfl (ok_iconst dd_130_347 ic_2 rfl) (am_rs rfl (ok_iconst dd_130_348 ic_1 rfl) (am_rs rfl (ok_iconst dd_130_349 ic_0 rfl) (am_rs rfl (ok_iconst dd_130_350 ic_2 rfl) (am_rs rfl (ok_cs (M' := mi_131) dd_130_351 rfl rfl w_932 w_933 ⟨lk_131.1, lk_131.2.1, lk_131.2.2, by decide, by decide⟩) (am_rz))))))))
theorem kb_130_44 : am_row mi_130 352 kr_130_44 := am_rn rfl (am_rn rfl (am_rs rfl (ok_aload_n (k := 0) dd_130_354 rfl rfl) (am_rs rfl (ok_gf dd_130_355 rfl am_ck12 (by decide) (Or.inl w_948)) (am_rn rfl (am_rn rfl (am_rs rfl (ok_iconst dd_130_358 ic_4 rfl) (am_rs rfl (ok_iconst dd_130_359 ic_2 rfl) (am_rz))))))))
theorem kb_130_45 : am_row mi_130 360 kr_130_45 := am_rs rfl (ok_iconst dd_130_360 ic_0 rfl) (am_rs rfl (ok_iconst dd_130_361 ic_3 rfl) (am_rs rfl (ok_cs (M' := mi_131) dd_130_362 rfl rfl w_932 w_933 ⟨lk_131.1, lk_131.2.1, lk_131.2.2, by decide, by decide⟩) (am_rn rfl (am_rn rfl (am_rs rfl (ok_aload_n (k := 0) dd_130_365 rfl rfl) (am_rs rfl (ok_gf dd_130_366 rfl am_ck12 (by decide) (Or.inl w_948)) (am_rn rfl (am_rz))))))))
theorem kb_130_46 : am_row mi_130 368 kr_130_46 := am_rn rfl (am_rs rfl (ok_bipush dd_130_369 bi_7 rfl) (am_rn rfl (am_rs rfl (ok_iconst dd_130_371 ic_1 rfl) (am_rs rfl (ok_iast dd_130_372 rfl) (am_rs rfl (ok_vret dd_130_373 rfl) (am_rz))))))
theorem ck_130 : am_rows mi_130 0 cd_130 := am_bs rfl kb_130_0 (am_bs rfl kb_130_1 (am_bs rfl kb_130_2 (am_bs rfl kb_130_3 (am_bs rfl kb_130_4 (am_bs rfl kb_130_5 (am_bs rfl kb_130_6 (am_bs rfl kb_130_7 (am_bs rfl kb_130_8 (am_bs rfl kb_130_9 (am_bs rfl kb_130_10 (am_bs rfl kb_130_11 (am_bs rfl kb_130_12 (am_bs rfl kb_130_13 (am_bs rfl kb_130_14 (am_bs rfl kb_130_15 (am_bs rfl kb_130_16 (am_bs rfl kb_130_17 (am_bs rfl kb_130_18 (am_bs rfl kb_130_19 (am_bs rfl kb_130_20 (am_bs rfl kb_130_21 (am_bs rfl kb_130_22 (am_bs rfl kb_130_23 (am_bs rfl kb_130_24 (am_bs rfl kb_130_25 (am_bs rfl kb_130_26 (am_bs rfl kb_130_27 (am_bs rfl kb_130_28 (am_bs rfl kb_130_29 (am_bs rfl kb_130_30 (am_bs rfl kb_130_31 (am_bs rfl kb_130_32 (am_bs rfl kb_130_33 (am_bs rfl kb_130_34 (am_bs rfl kb_130_35 (am_bs rfl kb_130_36 (am_bs rfl kb_130_37 (am_bs rfl kb_130_38 (am_bs rfl kb_130_39 (am_bs rfl kb_130_40 (am_bs rfl kb_130_41 (am_bs rfl kb_130_42 (am_bs rfl kb_130_43 (am_bs rfl kb_130_44 (am_bs rfl kb_130_45 (am_bs rfl kb_130_46 (am_bz)))))))))))))))))))))))))))))))))))))))))))))))
/-- OverAndBackModel.lays([IIIII)V -/
noncomputable def kr_131_0 : List (Option am_Op) := [some (am_ald0 0 1), some (am_ild 1 2), some (am_ild 2 3), some (am_ast 0 (fun v => v) 4), some (am_ald0 0 5), some (am_ild 1 6), some (am_psh (.retAddr 1) 7), some (am_bin am_add 8)]
noncomputable def kr_131_1 : List (Option am_Op) := [some (am_ild 3 9), some (am_ast 0 (fun v => v) 10), some (am_ald0 0 11), some (am_ild 1 12), some (am_psh (.retAddr 2) 13), some (am_bin am_add 14), some (am_ild 4 16), none]
noncomputable def kr_131_2 : List (Option am_Op) := [some (am_ast 0 (fun v => v) 17), some (am_vret)]
noncomputable def cd_131 : am_Cd := [kr_131_0, kr_131_1, kr_131_2]
theorem dd_131_0 : decode prog_14_method_3_code 0 = .ok (.aload_n 0, 1) := by decide +kernel
theorem dd_131_1 : decode prog_14_method_3_code 1 = .ok (.iload_n 1, 1) := by decide +kernel
theorem dd_131_2 : decode prog_14_method_3_code 2 = .ok (.iload_n 2, 1) := by decide +kernel
theorem dd_131_3 : decode prog_14_method_3_code 3 = .ok (.iastore, 1) := by decide +kernel
theorem dd_131_4 : decode prog_14_method_3_code 4 = .ok (.aload_n 0, 1) := by decide +kernel
theorem dd_131_5 : decode prog_14_method_3_code 5 = .ok (.iload_n 1, 1) := by decide +kernel
theorem dd_131_6 : decode prog_14_method_3_code 6 = .ok (.iconst 1, 1) := by decide +kernel
theorem dd_131_7 : decode prog_14_method_3_code 7 = .ok (.iadd, 1) := by decide +kernel
theorem dd_131_8 : decode prog_14_method_3_code 8 = .ok (.iload_n 3, 1) := by decide +kernel
theorem dd_131_9 : decode prog_14_method_3_code 9 = .ok (.iastore, 1) := by decide +kernel
theorem dd_131_10 : decode prog_14_method_3_code 10 = .ok (.aload_n 0, 1) := by decide +kernel
theorem dd_131_11 : decode prog_14_method_3_code 11 = .ok (.iload_n 1, 1) := by decide +kernel
theorem dd_131_12 : decode prog_14_method_3_code 12 = .ok (.iconst 2, 1) := by decide +kernel
theorem dd_131_13 : decode prog_14_method_3_code 13 = .ok (.iadd, 1) := by decide +kernel
theorem dd_131_14 : decode prog_14_method_3_code 14 = .ok (.iload 4, 2) := by decide +kernel
theorem dd_131_16 : decode prog_14_method_3_code 16 = .ok (.iastore, 1) := by decide +kernel
theorem dd_131_17 : decode prog_14_method_3_code 17 = .ok (.return_, 1) := by decide +kernel
theorem kb_131_0 : am_row mi_131 0 kr_131_0 := am_rs rfl (ok_aload_n (k := 0) dd_131_0 rfl rfl) (am_rs rfl (ok_iload_n (k := 1) dd_131_1 rfl rfl) (am_rs rfl (ok_iload_n (k := 2) dd_131_2 rfl rfl) (am_rs rfl (ok_iast dd_131_3 rfl) (am_rs rfl (ok_aload_n (k := 0) dd_131_4 rfl rfl) (am_rs rfl (ok_iload_n (k := 1) dd_131_5 rfl rfl) (am_rs rfl (ok_iconst dd_131_6 ic_1 rfl) (am_rs rfl (ok_iadd dd_131_7 rfl) (am_rz))))))))
theorem kb_131_1 : am_row mi_131 8 kr_131_1 := am_rs rfl (ok_iload_n (k := 3) dd_131_8 rfl rfl) (am_rs rfl (ok_iast dd_131_9 rfl) (am_rs rfl (ok_aload_n (k := 0) dd_131_10 rfl rfl) (am_rs rfl (ok_iload_n (k := 1) dd_131_11 rfl rfl) (am_rs rfl (ok_iconst dd_131_12 ic_2 rfl) (am_rs rfl (ok_iadd dd_131_13 rfl) (am_rs rfl (ok_iload dd_131_14 rfl) (am_rn rfl (am_rz))))))))
theorem kb_131_2 : am_row mi_131 16 kr_131_2 := am_rs rfl (ok_iast dd_131_16 rfl) (am_rs rfl (ok_vret dd_131_17 rfl) (am_rz))
theorem ck_131 : am_rows mi_131 0 cd_131 := am_bs rfl kb_131_0 (am_bs rfl kb_131_1 (am_bs rfl kb_131_2 (am_bz)))
/-- OverAndBackModel.write(I)I -/
noncomputable def kr_132_0 : List (Option am_Op) := [some (am_ild 1 1), some (am_psh (.retAddr 32) 3), none, some (am_psh (.retAddr 126) 5), none, some (am_cs 133 3 8), none, none]
noncomputable def kr_132_1 : List (Option am_Op) := [some (am_br1 .ne 13 11), none, none, some (am_psh (.retAddr 4294967295) 12), some (am_iret), some (am_ald0 0 14), some (am_gf 12 15 17), none]
noncomputable def kr_132_2 : List (Option am_Op) := [none, some (am_psh (.retAddr 200) 20), none, none, some (am_br2 .ne 26 23), none, none, some (am_psh (.retAddr 4294967293) 25)]
noncomputable def kr_132_3 : List (Option am_Op) := [none, some (am_iret), some (am_ald0 0 27), some (am_gf 12 14 30), none, none, some (am_ald0 0 31), some (am_gf 12 15 34)]
noncomputable def kr_132_4 : List (Option am_Op) := [none, none, some (am_ild 1 35), some (am_ast 0 (fun v => v) 36), some (am_ald0 0 37), some (am_dup 38), some (am_gf 12 15 41), none]
noncomputable def kr_132_5 : List (Option am_Op) := [none, some (am_psh (.retAddr 1) 42), some (am_bin am_add 43), some (am_pf 12 15 0 46), none, none, some (am_ald0 0 47), some (am_gf 12 15 50)]
noncomputable def kr_132_6 : List (Option am_Op) := [none, none, some (am_iret)]
noncomputable def cd_132 : am_Cd := [kr_132_0, kr_132_1, kr_132_2, kr_132_3, kr_132_4, kr_132_5, kr_132_6]
theorem dd_132_0 : decode prog_14_method_11_code 0 = .ok (.iload_n 1, 1) := by decide +kernel
theorem dd_132_1 : decode prog_14_method_11_code 1 = .ok (.bipush 32, 2) := by decide +kernel
theorem dd_132_3 : decode prog_14_method_11_code 3 = .ok (.bipush 126, 2) := by decide +kernel
theorem dd_132_5 : decode prog_14_method_11_code 5 = .ok (.invokestatic 116, 3) := by decide +kernel
theorem dd_132_8 : decode prog_14_method_11_code 8 = .ok (.ifCond .ne 5, 3) := by decide +kernel
theorem dd_132_11 : decode prog_14_method_11_code 11 = .ok (.iconst (-1), 1) := by decide +kernel
theorem dd_132_12 : decode prog_14_method_11_code 12 = .ok (.ireturn, 1) := by decide +kernel
theorem dd_132_13 : decode prog_14_method_11_code 13 = .ok (.aload_n 0, 1) := by decide +kernel
theorem dd_132_14 : decode prog_14_method_11_code 14 = .ok (.getfield 120, 3) := by decide +kernel
theorem dd_132_17 : decode prog_14_method_11_code 17 = .ok (.sipush 200, 3) := by decide +kernel
theorem dd_132_20 : decode prog_14_method_11_code 20 = .ok (.if_icmp .ne 6, 3) := by decide +kernel
theorem dd_132_23 : decode prog_14_method_11_code 23 = .ok (.bipush (-3), 2) := by decide +kernel
theorem dd_132_25 : decode prog_14_method_11_code 25 = .ok (.ireturn, 1) := by decide +kernel
theorem dd_132_26 : decode prog_14_method_11_code 26 = .ok (.aload_n 0, 1) := by decide +kernel
theorem dd_132_27 : decode prog_14_method_11_code 27 = .ok (.getfield 50, 3) := by decide +kernel
theorem dd_132_30 : decode prog_14_method_11_code 30 = .ok (.aload_n 0, 1) := by decide +kernel
theorem dd_132_31 : decode prog_14_method_11_code 31 = .ok (.getfield 120, 3) := by decide +kernel
theorem dd_132_34 : decode prog_14_method_11_code 34 = .ok (.iload_n 1, 1) := by decide +kernel
theorem dd_132_35 : decode prog_14_method_11_code 35 = .ok (.iastore, 1) := by decide +kernel
theorem dd_132_36 : decode prog_14_method_11_code 36 = .ok (.aload_n 0, 1) := by decide +kernel
theorem dd_132_37 : decode prog_14_method_11_code 37 = .ok (.dup, 1) := by decide +kernel
theorem dd_132_38 : decode prog_14_method_11_code 38 = .ok (.getfield 120, 3) := by decide +kernel
theorem dd_132_41 : decode prog_14_method_11_code 41 = .ok (.iconst 1, 1) := by decide +kernel
theorem dd_132_42 : decode prog_14_method_11_code 42 = .ok (.iadd, 1) := by decide +kernel
theorem dd_132_43 : decode prog_14_method_11_code 43 = .ok (.putfield 120, 3) := by decide +kernel
theorem dd_132_46 : decode prog_14_method_11_code 46 = .ok (.aload_n 0, 1) := by decide +kernel
theorem dd_132_47 : decode prog_14_method_11_code 47 = .ok (.getfield 120, 3) := by decide +kernel
theorem dd_132_50 : decode prog_14_method_11_code 50 = .ok (.ireturn, 1) := by decide +kernel
theorem kb_132_0 : am_row mi_132 0 kr_132_0 := am_rs rfl (ok_iload_n (k := 1) dd_132_0 rfl rfl) (am_rs rfl (ok_bipush dd_132_1 bi_32 rfl) (am_rn rfl (am_rs rfl (ok_bipush dd_132_3 bi_126 rfl) (am_rn rfl (am_rs rfl (ok_cs (M' := mi_133) dd_132_5 rfl rfl w_1106 w_1107 ⟨lk_133.1, lk_133.2.1, lk_133.2.2, by decide, by decide⟩) (am_rn rfl (am_rn rfl (am_rz))))))))
theorem kb_132_1 : am_row mi_132 8 kr_132_1 := am_rs rfl (ok_ifc dd_132_8 (by decide) rfl) (am_rn rfl (am_rn rfl (am_rs rfl (ok_iconst dd_132_11 ic_m1 rfl) (am_rs rfl (ok_iret dd_132_12 rfl) (am_rs rfl (ok_aload_n (k := 0) dd_132_13 rfl rfl) (am_rs rfl (ok_gf dd_132_14 rfl am_ck12 (by decide) (Or.inl w_950)) (am_rn rfl (am_rz))))))))
theorem kb_132_2 : am_row mi_132 16 kr_132_2 := am_rn rfl (am_rs rfl (ok_sipush dd_132_17 si_200 rfl) (am_rn rfl (am_rn rfl (am_rs rfl (ok_icmp dd_132_20 (by decide) rfl) (am_rn rfl (am_rn rfl (am_rs rfl (ok_bipush dd_132_23 bi_m3 rfl) (am_rz))))))))
theorem kb_132_3 : am_row mi_132 24 kr_132_3 := am_rn rfl (am_rs rfl (ok_iret dd_132_25 rfl) (am_rs rfl (ok_aload_n (k := 0) dd_132_26 rfl rfl) (am_rs rfl (ok_gf dd_132_27 rfl am_ck12 (by decide) (Or.inl w_949)) (am_rn rfl (am_rn rfl (am_rs rfl (ok_aload_n (k := 0) dd_132_30 rfl rfl) (am_rs rfl (ok_gf dd_132_31 rfl am_ck12 (by decide) (Or.inl w_950)) (am_rz))))))))
theorem kb_132_4 : am_row mi_132 32 kr_132_4 := am_rn rfl (am_rn rfl (am_rs rfl (ok_iload_n (k := 1) dd_132_34 rfl rfl) (am_rs rfl (ok_iast dd_132_35 rfl) (am_rs rfl (ok_aload_n (k := 0) dd_132_36 rfl rfl) (am_rs rfl (ok_dup dd_132_37 rfl) (am_rs rfl (ok_gf dd_132_38 rfl am_ck12 (by decide) (Or.inl w_950)) (am_rn rfl (am_rz))))))))
theorem kb_132_5 : am_row mi_132 40 kr_132_5 := am_rn rfl (am_rs rfl (ok_iconst dd_132_41 ic_1 rfl) (am_rs rfl (ok_iadd dd_132_42 rfl) (am_rs rfl (ok_pf dd_132_43 rfl am_ck12 (by decide) (Or.inl w_950) (Or.inl rfl) rfl) (am_rn rfl (am_rn rfl (am_rs rfl (ok_aload_n (k := 0) dd_132_46 rfl rfl) (am_rs rfl (ok_gf dd_132_47 rfl am_ck12 (by decide) (Or.inl w_950)) (am_rz))))))))
theorem kb_132_6 : am_row mi_132 48 kr_132_6 := am_rn rfl (am_rn rfl (am_rs rfl (ok_iret dd_132_50 rfl) (am_rz)))
theorem ck_132 : am_rows mi_132 0 cd_132 := am_bs rfl kb_132_0 (am_bs rfl kb_132_1 (am_bs rfl kb_132_2 (am_bs rfl kb_132_3 (am_bs rfl kb_132_4 (am_bs rfl kb_132_5 (am_bs rfl kb_132_6 (am_bz)))))))
/-- OverAndBackModel.in(III)Z -/
noncomputable def kr_133_0 : List (Option am_Op) := [some (am_ild 0 1), some (am_ild 1 2), some (am_br2 .lt 14 5), none, none, some (am_ild 0 6), some (am_ild 2 7), some (am_br2 .gt 14 10)]
noncomputable def kr_133_1 : List (Option am_Op) := [none, none, some (am_psh (.retAddr 1) 11), some (am_jmp 15), none, none, some (am_psh (.retAddr 0) 15), some (am_zret)]
noncomputable def cd_133 : am_Cd := [kr_133_0, kr_133_1]
theorem dd_133_0 : decode prog_14_method_4_code 0 = .ok (.iload_n 0, 1) := by decide +kernel
theorem dd_133_1 : decode prog_14_method_4_code 1 = .ok (.iload_n 1, 1) := by decide +kernel
theorem dd_133_2 : decode prog_14_method_4_code 2 = .ok (.if_icmp .lt 12, 3) := by decide +kernel
theorem dd_133_5 : decode prog_14_method_4_code 5 = .ok (.iload_n 0, 1) := by decide +kernel
theorem dd_133_6 : decode prog_14_method_4_code 6 = .ok (.iload_n 2, 1) := by decide +kernel
theorem dd_133_7 : decode prog_14_method_4_code 7 = .ok (.if_icmp .gt 7, 3) := by decide +kernel
theorem dd_133_10 : decode prog_14_method_4_code 10 = .ok (.iconst 1, 1) := by decide +kernel
theorem dd_133_11 : decode prog_14_method_4_code 11 = .ok (.goto 4, 3) := by decide +kernel
theorem dd_133_14 : decode prog_14_method_4_code 14 = .ok (.iconst 0, 1) := by decide +kernel
theorem dd_133_15 : decode prog_14_method_4_code 15 = .ok (.ireturn, 1) := by decide +kernel
theorem kb_133_0 : am_row mi_133 0 kr_133_0 := am_rs rfl (ok_iload_n (k := 0) dd_133_0 rfl rfl) (am_rs rfl (ok_iload_n (k := 1) dd_133_1 rfl rfl) (am_rs rfl (ok_icmp dd_133_2 (by decide) rfl) (am_rn rfl (am_rn rfl (am_rs rfl (ok_iload_n (k := 0) dd_133_5 rfl rfl) (am_rs rfl (ok_iload_n (k := 2) dd_133_6 rfl rfl) (am_rs rfl (ok_icmp dd_133_7 (by decide) rfl) (am_rz))))))))
theorem kb_133_1 : am_row mi_133 8 kr_133_1 := am_rn rfl (am_rn rfl (am_rs rfl (ok_iconst dd_133_10 ic_1 rfl) (am_rs rfl (ok_goto dd_133_11 (by decide)) (am_rn rfl (am_rn rfl (am_rs rfl (ok_iconst dd_133_14 ic_0 rfl) (am_rs rfl (ok_zret dd_133_15 rfl) (am_rz))))))))
theorem ck_133 : am_rows mi_133 0 cd_133 := am_bs rfl kb_133_0 (am_bs rfl kb_133_1 (am_bz))
/-- OverAndBackModel.wipe()I -/
noncomputable def kr_134_0 : List (Option am_Op) := [some (am_ald0 0 1), some (am_gf 12 15 4), none, none, some (am_ist 1 5), some (am_ald0 0 6), some (am_psh (.retAddr 0) 7), some (am_pf 12 15 0 10)]
noncomputable def kr_134_1 : List (Option am_Op) := [none, none, some (am_ild 1 11), some (am_iret)]
noncomputable def cd_134 : am_Cd := [kr_134_0, kr_134_1]
theorem dd_134_0 : decode prog_14_method_12_code 0 = .ok (.aload_n 0, 1) := by decide +kernel
theorem dd_134_1 : decode prog_14_method_12_code 1 = .ok (.getfield 120, 3) := by decide +kernel
theorem dd_134_4 : decode prog_14_method_12_code 4 = .ok (.istore_n 1, 1) := by decide +kernel
theorem dd_134_5 : decode prog_14_method_12_code 5 = .ok (.aload_n 0, 1) := by decide +kernel
theorem dd_134_6 : decode prog_14_method_12_code 6 = .ok (.iconst 0, 1) := by decide +kernel
theorem dd_134_7 : decode prog_14_method_12_code 7 = .ok (.putfield 120, 3) := by decide +kernel
theorem dd_134_10 : decode prog_14_method_12_code 10 = .ok (.iload_n 1, 1) := by decide +kernel
theorem dd_134_11 : decode prog_14_method_12_code 11 = .ok (.ireturn, 1) := by decide +kernel
theorem kb_134_0 : am_row mi_134 0 kr_134_0 := am_rs rfl (ok_aload_n (k := 0) dd_134_0 rfl rfl) (am_rs rfl (ok_gf dd_134_1 rfl am_ck12 (by decide) (Or.inl w_950)) (am_rn rfl (am_rn rfl (am_rs rfl (ok_istore_n (k := 1) dd_134_4 rfl rfl (by decide)) (am_rs rfl (ok_aload_n (k := 0) dd_134_5 rfl rfl) (am_rs rfl (ok_iconst dd_134_6 ic_0 rfl) (am_rs rfl (ok_pf dd_134_7 rfl am_ck12 (by decide) (Or.inl w_950) (Or.inl rfl) rfl) (am_rz))))))))
theorem kb_134_1 : am_row mi_134 8 kr_134_1 := am_rn rfl (am_rn rfl (am_rs rfl (ok_iload_n (k := 1) dd_134_10 rfl rfl) (am_rs rfl (ok_iret dd_134_11 rfl) (am_rz))))
theorem ck_134 : am_rows mi_134 0 cd_134 := am_bs rfl kb_134_0 (am_bs rfl kb_134_1 (am_bz))
/-- OverAndBackModel.fault()I -/
noncomputable def kr_135_0 : List (Option am_Op) := [some (am_ald0 0 1), some (am_psh (.retAddr 0) 2), some (am_pf 12 16 0 5), none, none, some (am_ald0 0 6), some (am_psh (.retAddr 30) 8), none]
noncomputable def kr_135_1 : List (Option am_Op) := [some (am_pf 12 18 0 11), none, none, some (am_ald0 0 12), some (am_psh (.retAddr 1) 13), some (am_pf 12 19 0 16), none, none]
noncomputable def kr_135_2 : List (Option am_Op) := [some (am_ald0 0 17), some (am_psh (.retAddr 0) 18), some (am_pf 12 20 0 21), none, none, some (am_ald0 0 22), some (am_psh (.retAddr 0) 23), some (am_pf 12 22 0 26)]
noncomputable def kr_135_3 : List (Option am_Op) := [none, none, some (am_ald0 0 27), some (am_psh (.retAddr 0) 28), some (am_pf 12 24 0 31), none, none, some (am_ald0 0 32)]
noncomputable def kr_135_4 : List (Option am_Op) := [some (am_psh (.retAddr 0) 33), some (am_pf 12 26 0 36), none, none, some (am_ald0 0 37), some (am_psh (.retAddr 0) 38), some (am_pf 12 28 0 41), none]
noncomputable def kr_135_5 : List (Option am_Op) := [none, some (am_ald0 0 42), some (am_psh (.retAddr 0) 43), some (am_pf 12 30 0 46), none, none, some (am_ald0 0 47), some (am_gf 12 16 50)]
noncomputable def kr_135_6 : List (Option am_Op) := [none, none, some (am_ald0 0 51), some (am_gf 12 15 54), none, none, some (am_br2 .ge 74 57), none]
noncomputable def kr_135_7 : List (Option am_Op) := [none, some (am_ald0 0 58), some (am_gf 12 16 61), none, none, some (am_ist 1 62), some (am_ald0 0 63), some (am_cv 136 0 12 66)]
noncomputable def kr_135_8 : List (Option am_Op) := [none, none, some (am_br1 .ne 71 69), none, none, some (am_ild 1 70), some (am_iret), some (am_jmp 46)]
noncomputable def kr_135_9 : List (Option am_Op) := [none, none, some (am_psh (.retAddr 4294967292) 76), none, some (am_iret)]
noncomputable def cd_135 : am_Cd := [kr_135_0, kr_135_1, kr_135_2, kr_135_3, kr_135_4, kr_135_5, kr_135_6, kr_135_7, kr_135_8, kr_135_9]
theorem dd_135_0 : decode prog_14_method_28_code 0 = .ok (.aload_n 0, 1) := by decide +kernel
theorem dd_135_1 : decode prog_14_method_28_code 1 = .ok (.iconst 0, 1) := by decide +kernel
theorem dd_135_2 : decode prog_14_method_28_code 2 = .ok (.putfield 123, 3) := by decide +kernel
theorem dd_135_5 : decode prog_14_method_28_code 5 = .ok (.aload_n 0, 1) := by decide +kernel
theorem dd_135_6 : decode prog_14_method_28_code 6 = .ok (.bipush 30, 2) := by decide +kernel
theorem dd_135_8 : decode prog_14_method_28_code 8 = .ok (.putfield 143, 3) := by decide +kernel
theorem dd_135_11 : decode prog_14_method_28_code 11 = .ok (.aload_n 0, 1) := by decide +kernel
theorem dd_135_12 : decode prog_14_method_28_code 12 = .ok (.iconst 1, 1) := by decide +kernel
theorem dd_135_13 : decode prog_14_method_28_code 13 = .ok (.putfield 146, 3) := by decide +kernel
theorem dd_135_16 : decode prog_14_method_28_code 16 = .ok (.aload_n 0, 1) := by decide +kernel
theorem dd_135_17 : decode prog_14_method_28_code 17 = .ok (.iconst 0, 1) := by decide +kernel
theorem dd_135_18 : decode prog_14_method_28_code 18 = .ok (.putfield 134, 3) := by decide +kernel
theorem dd_135_21 : decode prog_14_method_28_code 21 = .ok (.aload_n 0, 1) := by decide +kernel
theorem dd_135_22 : decode prog_14_method_28_code 22 = .ok (.iconst 0, 1) := by decide +kernel
theorem dd_135_23 : decode prog_14_method_28_code 23 = .ok (.putfield 149, 3) := by decide +kernel
theorem dd_135_26 : decode prog_14_method_28_code 26 = .ok (.aload_n 0, 1) := by decide +kernel
theorem dd_135_27 : decode prog_14_method_28_code 27 = .ok (.iconst 0, 1) := by decide +kernel
theorem dd_135_28 : decode prog_14_method_28_code 28 = .ok (.putfield 160, 3) := by decide +kernel
theorem dd_135_31 : decode prog_14_method_28_code 31 = .ok (.aload_n 0, 1) := by decide +kernel
theorem dd_135_32 : decode prog_14_method_28_code 32 = .ok (.iconst 0, 1) := by decide +kernel
theorem dd_135_33 : decode prog_14_method_28_code 33 = .ok (.putfield 163, 3) := by decide +kernel
theorem dd_135_36 : decode prog_14_method_28_code 36 = .ok (.aload_n 0, 1) := by decide +kernel
theorem dd_135_37 : decode prog_14_method_28_code 37 = .ok (.iconst 0, 1) := by decide +kernel
theorem dd_135_38 : decode prog_14_method_28_code 38 = .ok (.putfield 166, 3) := by decide +kernel
theorem dd_135_41 : decode prog_14_method_28_code 41 = .ok (.aload_n 0, 1) := by decide +kernel
theorem dd_135_42 : decode prog_14_method_28_code 42 = .ok (.iconst 0, 1) := by decide +kernel
theorem dd_135_43 : decode prog_14_method_28_code 43 = .ok (.putfield 169, 3) := by decide +kernel
theorem dd_135_46 : decode prog_14_method_28_code 46 = .ok (.aload_n 0, 1) := by decide +kernel
theorem dd_135_47 : decode prog_14_method_28_code 47 = .ok (.getfield 123, 3) := by decide +kernel
theorem dd_135_50 : decode prog_14_method_28_code 50 = .ok (.aload_n 0, 1) := by decide +kernel
theorem dd_135_51 : decode prog_14_method_28_code 51 = .ok (.getfield 120, 3) := by decide +kernel
theorem dd_135_54 : decode prog_14_method_28_code 54 = .ok (.if_icmp .ge 20, 3) := by decide +kernel
theorem dd_135_57 : decode prog_14_method_28_code 57 = .ok (.aload_n 0, 1) := by decide +kernel
theorem dd_135_58 : decode prog_14_method_28_code 58 = .ok (.getfield 123, 3) := by decide +kernel
theorem dd_135_61 : decode prog_14_method_28_code 61 = .ok (.istore_n 1, 1) := by decide +kernel
theorem dd_135_62 : decode prog_14_method_28_code 62 = .ok (.aload_n 0, 1) := by decide +kernel
theorem dd_135_63 : decode prog_14_method_28_code 63 = .ok (.invokevirtual 194, 3) := by decide +kernel
theorem dd_135_66 : decode prog_14_method_28_code 66 = .ok (.ifCond .ne 5, 3) := by decide +kernel
theorem dd_135_69 : decode prog_14_method_28_code 69 = .ok (.iload_n 1, 1) := by decide +kernel
theorem dd_135_70 : decode prog_14_method_28_code 70 = .ok (.ireturn, 1) := by decide +kernel
theorem dd_135_71 : decode prog_14_method_28_code 71 = .ok (.goto (-25), 3) := by decide +kernel
theorem dd_135_74 : decode prog_14_method_28_code 74 = .ok (.bipush (-4), 2) := by decide +kernel
theorem dd_135_76 : decode prog_14_method_28_code 76 = .ok (.ireturn, 1) := by decide +kernel
theorem kb_135_0 : am_row mi_135 0 kr_135_0 := am_rs rfl (ok_aload_n (k := 0) dd_135_0 rfl rfl) (am_rs rfl (ok_iconst dd_135_1 ic_0 rfl) (am_rs rfl (ok_pf dd_135_2 rfl am_ck12 (by decide) (Or.inl w_951) (Or.inl rfl) rfl) (am_rn rfl (am_rn rfl (am_rs rfl (ok_aload_n (k := 0) dd_135_5 rfl rfl) (am_rs rfl (ok_bipush dd_135_6 bi_30 rfl) (am_rn rfl (am_rz))))))))
theorem kb_135_1 : am_row mi_135 8 kr_135_1 := am_rs rfl (ok_pf dd_135_8 rfl am_ck12 (by decide) (Or.inl w_953) (Or.inl rfl) rfl) (am_rn rfl (am_rn rfl (am_rs rfl (ok_aload_n (k := 0) dd_135_11 rfl rfl) (am_rs rfl (ok_iconst dd_135_12 ic_1 rfl) (am_rs rfl (ok_pf dd_135_13 rfl am_ck12 (by decide) (Or.inl w_954) (Or.inl rfl) rfl) (am_rn rfl (am_rn rfl (am_rz))))))))
theorem kb_135_2 : am_row mi_135 16 kr_135_2 := am_rs rfl (ok_aload_n (k := 0) dd_135_16 rfl rfl) (am_rs rfl (ok_iconst dd_135_17 ic_0 rfl) (am_rs rfl (ok_pf dd_135_18 rfl am_ck12 (by decide) (Or.inl w_955) (Or.inl rfl) rfl) (am_rn rfl (am_rn rfl (am_rs rfl (ok_aload_n (k := 0) dd_135_21 rfl rfl) (am_rs rfl (ok_iconst dd_135_22 ic_0 rfl) (am_rs rfl (ok_pf dd_135_23 rfl am_ck12 (by decide) (Or.inl w_957) (Or.inl rfl) rfl) (am_rz))))))))
theorem kb_135_3 : am_row mi_135 24 kr_135_3 := am_rn rfl (am_rn rfl (am_rs rfl (ok_aload_n (k := 0) dd_135_26 rfl rfl) (am_rs rfl (ok_iconst dd_135_27 ic_0 rfl) (am_rs rfl (ok_pf dd_135_28 rfl am_ck12 (by decide) (Or.inl w_959) (Or.inl rfl) rfl) (am_rn rfl (am_rn rfl (am_rs rfl (ok_aload_n (k := 0) dd_135_31 rfl rfl) (am_rz))))))))
theorem kb_135_4 : am_row mi_135 32 kr_135_4 := am_rs rfl (ok_iconst dd_135_32 ic_0 rfl) (am_rs rfl (ok_pf dd_135_33 rfl am_ck12 (by decide) (Or.inl w_961) (Or.inl rfl) rfl) (am_rn rfl (am_rn rfl (am_rs rfl (ok_aload_n (k := 0) dd_135_36 rfl rfl) (am_rs rfl (ok_iconst dd_135_37 ic_0 rfl) (am_rs rfl (ok_pf dd_135_38 rfl am_ck12 (by decide) (Or.inl w_963) (Or.inl rfl) rfl) (am_rn rfl (am_rz))))))))
theorem kb_135_5 : am_row mi_135 40 kr_135_5 := am_rn rfl (am_rs rfl (ok_aload_n (k := 0) dd_135_41 rfl rfl) (am_rs rfl (ok_iconst dd_135_42 ic_0 rfl) (am_rs rfl (ok_pf dd_135_43 rfl am_ck12 (by decide) (Or.inl w_965) (Or.inl rfl) rfl) (am_rn rfl (am_rn rfl (am_rs rfl (ok_aload_n (k := 0) dd_135_46 rfl rfl) (am_rs rfl (ok_gf dd_135_47 rfl am_ck12 (by decide) (Or.inl w_951)) (am_rz))))))))
theorem kb_135_6 : am_row mi_135 48 kr_135_6 := am_rn rfl (am_rn rfl (am_rs rfl (ok_aload_n (k := 0) dd_135_50 rfl rfl) (am_rs rfl (ok_gf dd_135_51 rfl am_ck12 (by decide) (Or.inl w_950)) (am_rn rfl (am_rn rfl (am_rs rfl (ok_icmp dd_135_54 (by decide) rfl) (am_rn rfl (am_rz))))))))
theorem kb_135_7 : am_row mi_135 56 kr_135_7 := am_rn rfl (am_rs rfl (ok_aload_n (k := 0) dd_135_57 rfl rfl) (am_rs rfl (ok_gf dd_135_58 rfl am_ck12 (by decide) (Or.inl w_951)) (am_rn rfl (am_rn rfl (am_rs rfl (ok_istore_n (k := 1) dd_135_61 rfl rfl (by decide)) (am_rs rfl (ok_aload_n (k := 0) dd_135_62 rfl rfl) (am_rs rfl (ok_cv (M' := mi_136) dd_135_63 rfl rfl w_1117 w_1119 ps_136 ⟨lk_136.1, lk_136.2.1, lk_136.2.2, by decide, by decide⟩ rfl) (am_rz))))))))
theorem kb_135_8 : am_row mi_135 64 kr_135_8 := am_rn rfl (am_rn rfl (am_rs rfl (ok_ifc dd_135_66 (by decide) rfl) (am_rn rfl (am_rn rfl (am_rs rfl (ok_iload_n (k := 1) dd_135_69 rfl rfl) (am_rs rfl (ok_iret dd_135_70 rfl) (am_rs rfl (ok_goto dd_135_71 (by decide)) (am_rz))))))))
theorem kb_135_9 : am_row mi_135 72 kr_135_9 := am_rn rfl (am_rn rfl (am_rs rfl (ok_bipush dd_135_74 bi_m4 rfl) (am_rn rfl (am_rs rfl (ok_iret dd_135_76 rfl) (am_rz)))))
theorem ck_135 : am_rows mi_135 0 cd_135 := am_bs rfl kb_135_0 (am_bs rfl kb_135_1 (am_bs rfl kb_135_2 (am_bs rfl kb_135_3 (am_bs rfl kb_135_4 (am_bs rfl kb_135_5 (am_bs rfl kb_135_6 (am_bs rfl kb_135_7 (am_bs rfl kb_135_8 (am_bs rfl kb_135_9 (am_bz))))))))))
/-- OverAndBackModel.readItem()Z -/
noncomputable def kr_136_0 : List (Option am_Op) := [some (am_ald0 0 1), some (am_ald0 0 2), some (am_gf 12 16 5), none, none, some (am_cv 137 1 12 8), none, none]
noncomputable def kr_136_1 : List (Option am_Op) := [some (am_ist 1 9), some (am_ald0 0 10), some (am_dup 11), some (am_gf 12 16 14), none, none, some (am_psh (.retAddr 1) 15), some (am_bin am_add 16)]
noncomputable def kr_136_2 : List (Option am_Op) := [some (am_pf 12 16 0 19), none, none, some (am_ild 1 20), some (am_tsw 98 [139, 164, 164, 164, 154, 149, 164, 164, 164, 164, 164, 134, 124, 164, 164, 164, 164, 129, 164, 144, 164, 159] 164), none, none, none]
noncomputable def kr_136_3 : List (Option am_Op) := [none, none, none, none, none, none, none, none]
noncomputable def kr_136_4 : List (Option am_Op) := [none, none, none, none, none, none, none, none]
noncomputable def kr_136_5 : List (Option am_Op) := [none, none, none, none, none, none, none, none]
noncomputable def kr_136_6 : List (Option am_Op) := [none, none, none, none, none, none, none, none]
noncomputable def kr_136_7 : List (Option am_Op) := [none, none, none, none, none, none, none, none]
noncomputable def kr_136_8 : List (Option am_Op) := [none, none, none, none, none, none, none, none]
noncomputable def kr_136_9 : List (Option am_Op) := [none, none, none, none, none, none, none, none]
noncomputable def kr_136_10 : List (Option am_Op) := [none, none, none, none, none, none, none, none]
noncomputable def kr_136_11 : List (Option am_Op) := [none, none, none, none, none, none, none, none]
noncomputable def kr_136_12 : List (Option am_Op) := [none, none, none, none, none, none, none, none]
noncomputable def kr_136_13 : List (Option am_Op) := [none, none, none, none, none, none, none, none]
noncomputable def kr_136_14 : List (Option am_Op) := [none, none, none, none, none, none, none, none]
noncomputable def kr_136_15 : List (Option am_Op) := [none, none, none, none, some (am_ald0 0 125), some (am_cv 138 0 12 128), none, none]
noncomputable def kr_136_16 : List (Option am_Op) := [some (am_zret), some (am_ald0 0 130), some (am_cv 142 0 12 133), none, none, some (am_zret), some (am_ald0 0 135), some (am_cv 143 0 12 138)]
noncomputable def kr_136_17 : List (Option am_Op) := [none, none, some (am_zret), some (am_ald0 0 140), some (am_cv 146 0 12 143), none, none, some (am_zret)]
noncomputable def kr_136_18 : List (Option am_Op) := [some (am_ald0 0 145), some (am_cv 147 0 12 148), none, none, some (am_zret), some (am_ald0 0 150), some (am_cv 148 0 12 153), none]
noncomputable def kr_136_19 : List (Option am_Op) := [none, some (am_zret), some (am_ald0 0 155), some (am_cv 149 0 12 158), none, none, some (am_zret), some (am_ald0 0 160)]
noncomputable def kr_136_20 : List (Option am_Op) := [some (am_cv 150 0 12 163), none, none, some (am_zret), some (am_psh (.retAddr 0) 165), some (am_zret)]
noncomputable def cd_136 : am_Cd := [kr_136_0, kr_136_1, kr_136_2, kr_136_3, kr_136_4, kr_136_5, kr_136_6, kr_136_7, kr_136_8, kr_136_9, kr_136_10, kr_136_11, kr_136_12, kr_136_13, kr_136_14, kr_136_15, kr_136_16, kr_136_17, kr_136_18, kr_136_19, kr_136_20]
theorem dd_136_0 : decode prog_14_method_27_code 0 = .ok (.aload_n 0, 1) := by decide +kernel
theorem dd_136_1 : decode prog_14_method_27_code 1 = .ok (.aload_n 0, 1) := by decide +kernel
theorem dd_136_2 : decode prog_14_method_27_code 2 = .ok (.getfield 123, 3) := by decide +kernel
theorem dd_136_5 : decode prog_14_method_27_code 5 = .ok (.invokevirtual 126, 3) := by decide +kernel
theorem dd_136_8 : decode prog_14_method_27_code 8 = .ok (.istore_n 1, 1) := by decide +kernel
theorem dd_136_9 : decode prog_14_method_27_code 9 = .ok (.aload_n 0, 1) := by decide +kernel
theorem dd_136_10 : decode prog_14_method_27_code 10 = .ok (.dup, 1) := by decide +kernel
theorem dd_136_11 : decode prog_14_method_27_code 11 = .ok (.getfield 123, 3) := by decide +kernel
theorem dd_136_14 : decode prog_14_method_27_code 14 = .ok (.iconst 1, 1) := by decide +kernel
theorem dd_136_15 : decode prog_14_method_27_code 15 = .ok (.iadd, 1) := by decide +kernel
theorem dd_136_16 : decode prog_14_method_27_code 16 = .ok (.putfield 123, 3) := by decide +kernel
theorem dd_136_19 : decode prog_14_method_27_code 19 = .ok (.iload_n 1, 1) := by decide +kernel
theorem dd_136_20 : decode prog_14_method_27_code 20 = .ok (.tableswitch 144 ((98 : Nat) : Int) 119 #[119, 144, 144, 144, 134, 129, 144, 144, 144, 144, 144, 114, 104, 144, 144, 144, 144, 109, 144, 124, 144, 139], 104) := by decide +kernel
theorem dd_136_124 : decode prog_14_method_27_code 124 = .ok (.aload_n 0, 1) := by decide +kernel
theorem dd_136_125 : decode prog_14_method_27_code 125 = .ok (.invokevirtual 172, 3) := by decide +kernel
theorem dd_136_128 : decode prog_14_method_27_code 128 = .ok (.ireturn, 1) := by decide +kernel
theorem dd_136_129 : decode prog_14_method_27_code 129 = .ok (.aload_n 0, 1) := by decide +kernel
theorem dd_136_130 : decode prog_14_method_27_code 130 = .ok (.invokevirtual 174, 3) := by decide +kernel
theorem dd_136_133 : decode prog_14_method_27_code 133 = .ok (.ireturn, 1) := by decide +kernel
theorem dd_136_134 : decode prog_14_method_27_code 134 = .ok (.aload_n 0, 1) := by decide +kernel
theorem dd_136_135 : decode prog_14_method_27_code 135 = .ok (.invokevirtual 177, 3) := by decide +kernel
theorem dd_136_138 : decode prog_14_method_27_code 138 = .ok (.ireturn, 1) := by decide +kernel
theorem dd_136_139 : decode prog_14_method_27_code 139 = .ok (.aload_n 0, 1) := by decide +kernel
theorem dd_136_140 : decode prog_14_method_27_code 140 = .ok (.invokevirtual 180, 3) := by decide +kernel
theorem dd_136_143 : decode prog_14_method_27_code 143 = .ok (.ireturn, 1) := by decide +kernel
theorem dd_136_144 : decode prog_14_method_27_code 144 = .ok (.aload_n 0, 1) := by decide +kernel
theorem dd_136_145 : decode prog_14_method_27_code 145 = .ok (.invokevirtual 183, 3) := by decide +kernel
theorem dd_136_148 : decode prog_14_method_27_code 148 = .ok (.ireturn, 1) := by decide +kernel
theorem dd_136_149 : decode prog_14_method_27_code 149 = .ok (.aload_n 0, 1) := by decide +kernel
theorem dd_136_150 : decode prog_14_method_27_code 150 = .ok (.invokevirtual 186, 3) := by decide +kernel
theorem dd_136_153 : decode prog_14_method_27_code 153 = .ok (.ireturn, 1) := by decide +kernel
theorem dd_136_154 : decode prog_14_method_27_code 154 = .ok (.aload_n 0, 1) := by decide +kernel
theorem dd_136_155 : decode prog_14_method_27_code 155 = .ok (.invokevirtual 188, 3) := by decide +kernel
theorem dd_136_158 : decode prog_14_method_27_code 158 = .ok (.ireturn, 1) := by decide +kernel
theorem dd_136_159 : decode prog_14_method_27_code 159 = .ok (.aload_n 0, 1) := by decide +kernel
theorem dd_136_160 : decode prog_14_method_27_code 160 = .ok (.invokevirtual 191, 3) := by decide +kernel
theorem dd_136_163 : decode prog_14_method_27_code 163 = .ok (.ireturn, 1) := by decide +kernel
theorem dd_136_164 : decode prog_14_method_27_code 164 = .ok (.iconst 0, 1) := by decide +kernel
theorem dd_136_165 : decode prog_14_method_27_code 165 = .ok (.ireturn, 1) := by decide +kernel
theorem kb_136_0 : am_row mi_136 0 kr_136_0 := am_rs rfl (ok_aload_n (k := 0) dd_136_0 rfl rfl) (am_rs rfl (ok_aload_n (k := 0) dd_136_1 rfl rfl) (am_rs rfl (ok_gf dd_136_2 rfl am_ck12 (by decide) (Or.inl w_951)) (am_rn rfl (am_rn rfl (am_rs rfl (ok_cv (M' := mi_137) dd_136_5 rfl rfl w_1121 w_1123 ps_137 ⟨lk_137.1, lk_137.2.1, lk_137.2.2, by decide, by decide⟩ rfl) (am_rn rfl (am_rn rfl (am_rz))))))))
theorem kb_136_1 : am_row mi_136 8 kr_136_1 := am_rs rfl (ok_istore_n (k := 1) dd_136_8 rfl rfl (by decide)) (am_rs rfl (ok_aload_n (k := 0) dd_136_9 rfl rfl) (am_rs rfl (ok_dup dd_136_10 rfl) (am_rs rfl (ok_gf dd_136_11 rfl am_ck12 (by decide) (Or.inl w_951)) (am_rn rfl (am_rn rfl (am_rs rfl (ok_iconst dd_136_14 ic_1 rfl) (am_rs rfl (ok_iadd dd_136_15 rfl) (am_rz))))))))
theorem kb_136_2 : am_row mi_136 16 kr_136_2 := am_rs rfl (ok_pf dd_136_16 rfl am_ck12 (by decide) (Or.inl w_951) (Or.inl rfl) rfl) (am_rn rfl (am_rn rfl (am_rs rfl (ok_iload_n (k := 1) dd_136_19 rfl rfl) (am_rs rfl (ok_tsw dd_136_20 (by decide) (by decide) (by decide) (by decide)) (am_rn rfl (am_rn rfl (am_rn rfl (am_rz))))))))
theorem kb_136_3 : am_row mi_136 24 kr_136_3 := am_rn rfl (am_rn rfl (am_rn rfl (am_rn rfl (am_rn rfl (am_rn rfl (am_rn rfl (am_rn rfl (am_rz))))))))
theorem kb_136_4 : am_row mi_136 32 kr_136_4 := am_rn rfl (am_rn rfl (am_rn rfl (am_rn rfl (am_rn rfl (am_rn rfl (am_rn rfl (am_rn rfl (am_rz))))))))
theorem kb_136_5 : am_row mi_136 40 kr_136_5 := am_rn rfl (am_rn rfl (am_rn rfl (am_rn rfl (am_rn rfl (am_rn rfl (am_rn rfl (am_rn rfl (am_rz))))))))
theorem kb_136_6 : am_row mi_136 48 kr_136_6 := am_rn rfl (am_rn rfl (am_rn rfl (am_rn rfl (am_rn rfl (am_rn rfl (am_rn rfl (am_rn rfl (am_rz))))))))
theorem kb_136_7 : am_row mi_136 56 kr_136_7 := am_rn rfl (am_rn rfl (am_rn rfl (am_rn rfl (am_rn rfl (am_rn rfl (am_rn rfl (am_rn rfl (am_rz))))))))
theorem kb_136_8 : am_row mi_136 64 kr_136_8 := am_rn rfl (am_rn rfl (am_rn rfl (am_rn rfl (am_rn rfl (am_rn rfl (am_rn rfl (am_rn rfl (am_rz))))))))
theorem kb_136_9 : am_row mi_136 72 kr_136_9 := am_rn rfl (am_rn rfl (am_rn rfl (am_rn rfl (am_rn rfl (am_rn rfl (am_rn rfl (am_rn rfl (am_rz))))))))
theorem kb_136_10 : am_row mi_136 80 kr_136_10 := am_rn rfl (am_rn rfl (am_rn rfl (am_rn rfl (am_rn rfl (am_rn rfl (am_rn rfl (am_rn rfl (am_rz))))))))
theorem kb_136_11 : am_row mi_136 88 kr_136_11 := am_rn rfl (am_rn rfl (am_rn rfl (am_rn rfl (am_rn rfl (am_rn rfl (am_rn rfl (am_rn rfl (am_rz))))))))
theorem kb_136_12 : am_row mi_136 96 kr_136_12 := am_rn rfl (am_rn rfl (am_rn rfl (am_rn rfl (am_rn rfl (am_rn rfl (am_rn rfl (am_rn rfl (am_rz))))))))
theorem kb_136_13 : am_row mi_136 104 kr_136_13 := am_rn rfl (am_rn rfl (am_rn rfl (am_rn rfl (am_rn rfl (am_rn rfl (am_rn rfl (am_rn rfl (am_rz))))))))
theorem kb_136_14 : am_row mi_136 112 kr_136_14 := am_rn rfl (am_rn rfl (am_rn rfl (am_rn rfl (am_rn rfl (am_rn rfl (am_rn rfl (am_rn rfl (am_rz))))))))
theorem kb_136_15 : am_row mi_136 120 kr_136_15 := am_rn rfl (am_rn rfl (am_rn rfl (am_rn rfl (am_rs rfl (ok_aload_n (k := 0) dd_136_124 rfl rfl) (am_rs rfl (ok_cv (M' := mi_138) dd_136_125 rfl rfl w_1125 w_1127 ps_138 ⟨lk_138.1, lk_138.2.1, lk_138.2.2, by decide, by decide⟩ rfl) (am_rn rfl (am_rn rfl (am_rz))))))))
theorem kb_136_16 : am_row mi_136 128 kr_136_16 := am_rs rfl (ok_zret dd_136_128 rfl) (am_rs rfl (ok_aload_n (k := 0) dd_136_129 rfl rfl) (am_rs rfl (ok_cv (M' := mi_142) dd_136_130 rfl rfl w_1140 w_1142 ps_142 ⟨lk_142.1, lk_142.2.1, lk_142.2.2, by decide, by decide⟩ rfl) (am_rn rfl (am_rn rfl (am_rs rfl (ok_zret dd_136_133 rfl) (am_rs rfl (ok_aload_n (k := 0) dd_136_134 rfl rfl) (am_rs rfl (ok_cv (M' := mi_143) dd_136_135 rfl rfl w_1144 w_1146 ps_143 ⟨lk_143.1, lk_143.2.1, lk_143.2.2, by decide, by decide⟩ rfl) (am_rz))))))))
theorem kb_136_17 : am_row mi_136 136 kr_136_17 := am_rn rfl (am_rn rfl (am_rs rfl (ok_zret dd_136_138 rfl) (am_rs rfl (ok_aload_n (k := 0) dd_136_139 rfl rfl) (am_rs rfl (ok_cv (M' := mi_146) dd_136_140 rfl rfl w_1155 w_1157 ps_146 ⟨lk_146.1, lk_146.2.1, lk_146.2.2, by decide, by decide⟩ rfl) (am_rn rfl (am_rn rfl (am_rs rfl (ok_zret dd_136_143 rfl) (am_rz))))))))
theorem kb_136_18 : am_row mi_136 144 kr_136_18 := am_rs rfl (ok_aload_n (k := 0) dd_136_144 rfl rfl) (am_rs rfl (ok_cv (M' := mi_147) dd_136_145 rfl rfl w_1159 w_1161 ps_147 ⟨lk_147.1, lk_147.2.1, lk_147.2.2, by decide, by decide⟩ rfl) (am_rn rfl (am_rn rfl (am_rs rfl (ok_zret dd_136_148 rfl) (am_rs rfl (ok_aload_n (k := 0) dd_136_149 rfl rfl) (am_rs rfl (ok_cv (M' := mi_148) dd_136_150 rfl rfl w_1163 w_1165 ps_148 ⟨lk_148.1, lk_148.2.1, lk_148.2.2, by decide, by decide⟩ rfl) (am_rn rfl (am_rz))))))))
theorem kb_136_19 : am_row mi_136 152 kr_136_19 := am_rn rfl (am_rs rfl (ok_zret dd_136_153 rfl) (am_rs rfl (ok_aload_n (k := 0) dd_136_154 rfl rfl) (am_rs rfl (ok_cv (M' := mi_149) dd_136_155 rfl rfl w_1167 w_1169 ps_149 ⟨lk_149.1, lk_149.2.1, lk_149.2.2, by decide, by decide⟩ rfl) (am_rn rfl (am_rn rfl (am_rs rfl (ok_zret dd_136_158 rfl) (am_rs rfl (ok_aload_n (k := 0) dd_136_159 rfl rfl) (am_rz))))))))
theorem kb_136_20 : am_row mi_136 160 kr_136_20 := am_rs rfl (ok_cv (M' := mi_150) dd_136_160 rfl rfl w_1171 w_1173 ps_150 ⟨lk_150.1, lk_150.2.1, lk_150.2.2, by decide, by decide⟩ rfl) (am_rn rfl (am_rn rfl (am_rs rfl (ok_zret dd_136_163 rfl) (am_rs rfl (ok_iconst dd_136_164 ic_0 rfl) (am_rs rfl (ok_zret dd_136_165 rfl) (am_rz))))))
theorem ck_136 : am_rows mi_136 0 cd_136 := am_bs rfl kb_136_0 (am_bs rfl kb_136_1 (am_bs rfl kb_136_2 (am_bs rfl kb_136_3 (am_bs rfl kb_136_4 (am_bs rfl kb_136_5 (am_bs rfl kb_136_6 (am_bs rfl kb_136_7 (am_bs rfl kb_136_8 (am_bs rfl kb_136_9 (am_bs rfl kb_136_10 (am_bs rfl kb_136_11 (am_bs rfl kb_136_12 (am_bs rfl kb_136_13 (am_bs rfl kb_136_14 (am_bs rfl kb_136_15 (am_bs rfl kb_136_16 (am_bs rfl kb_136_17 (am_bs rfl kb_136_18 (am_bs rfl kb_136_19 (am_bs rfl kb_136_20 (am_bz)))))))))))))))))))))
/-- OverAndBackModel.letterAt(I)I -/
noncomputable def kr_137_0 : List (Option am_Op) := [some (am_ild 1 1), some (am_ald0 0 2), some (am_gf 12 15 5), none, none, some (am_br2 .ge 17 8), none, none]
noncomputable def kr_137_1 : List (Option am_Op) := [some (am_ald0 0 9), some (am_gf 12 14 12), none, none, some (am_ild 1 13), some (am_ald 0 14), some (am_jmp 18), none]
noncomputable def kr_137_2 : List (Option am_Op) := [none, some (am_psh (.retAddr 4294967295) 18), some (am_iret)]
noncomputable def cd_137 : am_Cd := [kr_137_0, kr_137_1, kr_137_2]
theorem dd_137_0 : decode prog_14_method_13_code 0 = .ok (.iload_n 1, 1) := by decide +kernel
theorem dd_137_1 : decode prog_14_method_13_code 1 = .ok (.aload_n 0, 1) := by decide +kernel
theorem dd_137_2 : decode prog_14_method_13_code 2 = .ok (.getfield 120, 3) := by decide +kernel
theorem dd_137_5 : decode prog_14_method_13_code 5 = .ok (.if_icmp .ge 12, 3) := by decide +kernel
theorem dd_137_8 : decode prog_14_method_13_code 8 = .ok (.aload_n 0, 1) := by decide +kernel
theorem dd_137_9 : decode prog_14_method_13_code 9 = .ok (.getfield 50, 3) := by decide +kernel
theorem dd_137_12 : decode prog_14_method_13_code 12 = .ok (.iload_n 1, 1) := by decide +kernel
theorem dd_137_13 : decode prog_14_method_13_code 13 = .ok (.iaload, 1) := by decide +kernel
theorem dd_137_14 : decode prog_14_method_13_code 14 = .ok (.goto 4, 3) := by decide +kernel
theorem dd_137_17 : decode prog_14_method_13_code 17 = .ok (.iconst (-1), 1) := by decide +kernel
theorem dd_137_18 : decode prog_14_method_13_code 18 = .ok (.ireturn, 1) := by decide +kernel
theorem kb_137_0 : am_row mi_137 0 kr_137_0 := am_rs rfl (ok_iload_n (k := 1) dd_137_0 rfl rfl) (am_rs rfl (ok_aload_n (k := 0) dd_137_1 rfl rfl) (am_rs rfl (ok_gf dd_137_2 rfl am_ck12 (by decide) (Or.inl w_950)) (am_rn rfl (am_rn rfl (am_rs rfl (ok_icmp dd_137_5 (by decide) rfl) (am_rn rfl (am_rn rfl (am_rz))))))))
theorem kb_137_1 : am_row mi_137 8 kr_137_1 := am_rs rfl (ok_aload_n (k := 0) dd_137_8 rfl rfl) (am_rs rfl (ok_gf dd_137_9 rfl am_ck12 (by decide) (Or.inl w_949)) (am_rn rfl (am_rn rfl (am_rs rfl (ok_iload_n (k := 1) dd_137_12 rfl rfl) (am_rs rfl (ok_iald dd_137_13 rfl) (am_rs rfl (ok_goto dd_137_14 (by decide)) (am_rn rfl (am_rz))))))))
theorem kb_137_2 : am_row mi_137 16 kr_137_2 := am_rn rfl (am_rs rfl (ok_iconst dd_137_17 ic_m1 rfl) (am_rs rfl (ok_iret dd_137_18 rfl) (am_rz)))
theorem ck_137 : am_rows mi_137 0 cd_137 := am_bs rfl kb_137_0 (am_bs rfl kb_137_1 (am_bs rfl kb_137_2 (am_bz)))
/-- OverAndBackModel.readLength()Z -/
noncomputable def kr_138_0 : List (Option am_Op) := [some (am_ald0 0 1), some (am_psh (.retAddr 1) 2), some (am_cv 139 1 12 5), none, none, some (am_br1 .eq 19 8), none, none]
noncomputable def kr_138_1 : List (Option am_Op) := [some (am_ald0 0 9), some (am_psh (.retAddr 0) 10), some (am_psh (.retAddr 1) 11), some (am_psh (.retAddr 60) 13), none, some (am_cv 141 3 12 16), none, none]
noncomputable def kr_138_2 : List (Option am_Op) := [some (am_br1 .ne 21 19), none, none, some (am_psh (.retAddr 0) 20), some (am_zret), some (am_ald0 0 22), some (am_ald0 0 23), some (am_gf 12 17 26)]
noncomputable def kr_138_3 : List (Option am_Op) := [none, none, some (am_psh (.retAddr 0) 27), some (am_ald 0 28), some (am_pf 12 18 0 31), none, none, some (am_psh (.retAddr 1) 32)]
noncomputable def kr_138_4 : List (Option am_Op) := [some (am_zret)]
noncomputable def cd_138 : am_Cd := [kr_138_0, kr_138_1, kr_138_2, kr_138_3, kr_138_4]
theorem dd_138_0 : decode prog_14_method_19_code 0 = .ok (.aload_n 0, 1) := by decide +kernel
theorem dd_138_1 : decode prog_14_method_19_code 1 = .ok (.iconst 1, 1) := by decide +kernel
theorem dd_138_2 : decode prog_14_method_19_code 2 = .ok (.invokevirtual 140, 3) := by decide +kernel
theorem dd_138_5 : decode prog_14_method_19_code 5 = .ok (.ifCond .eq 14, 3) := by decide +kernel
theorem dd_138_8 : decode prog_14_method_19_code 8 = .ok (.aload_n 0, 1) := by decide +kernel
theorem dd_138_9 : decode prog_14_method_19_code 9 = .ok (.iconst 0, 1) := by decide +kernel
theorem dd_138_10 : decode prog_14_method_19_code 10 = .ok (.iconst 1, 1) := by decide +kernel
theorem dd_138_11 : decode prog_14_method_19_code 11 = .ok (.bipush 60, 2) := by decide +kernel
theorem dd_138_13 : decode prog_14_method_19_code 13 = .ok (.invokevirtual 137, 3) := by decide +kernel
theorem dd_138_16 : decode prog_14_method_19_code 16 = .ok (.ifCond .ne 5, 3) := by decide +kernel
theorem dd_138_19 : decode prog_14_method_19_code 19 = .ok (.iconst 0, 1) := by decide +kernel
theorem dd_138_20 : decode prog_14_method_19_code 20 = .ok (.ireturn, 1) := by decide +kernel
theorem dd_138_21 : decode prog_14_method_19_code 21 = .ok (.aload_n 0, 1) := by decide +kernel
theorem dd_138_22 : decode prog_14_method_19_code 22 = .ok (.aload_n 0, 1) := by decide +kernel
theorem dd_138_23 : decode prog_14_method_19_code 23 = .ok (.getfield 53, 3) := by decide +kernel
theorem dd_138_26 : decode prog_14_method_19_code 26 = .ok (.iconst 0, 1) := by decide +kernel
theorem dd_138_27 : decode prog_14_method_19_code 27 = .ok (.iaload, 1) := by decide +kernel
theorem dd_138_28 : decode prog_14_method_19_code 28 = .ok (.putfield 143, 3) := by decide +kernel
theorem dd_138_31 : decode prog_14_method_19_code 31 = .ok (.iconst 1, 1) := by decide +kernel
theorem dd_138_32 : decode prog_14_method_19_code 32 = .ok (.ireturn, 1) := by decide +kernel
theorem kb_138_0 : am_row mi_138 0 kr_138_0 := am_rs rfl (ok_aload_n (k := 0) dd_138_0 rfl rfl) (am_rs rfl (ok_iconst dd_138_1 ic_1 rfl) (am_rs rfl (ok_cv (M' := mi_139) dd_138_2 rfl rfl w_1129 w_1131 ps_139 ⟨lk_139.1, lk_139.2.1, lk_139.2.2, by decide, by decide⟩ rfl) (am_rn rfl (am_rn rfl (am_rs rfl (ok_ifc dd_138_5 (by decide) rfl) (am_rn rfl (am_rn rfl (am_rz))))))))
theorem kb_138_1 : am_row mi_138 8 kr_138_1 := am_rs rfl (ok_aload_n (k := 0) dd_138_8 rfl rfl) (am_rs rfl (ok_iconst dd_138_9 ic_0 rfl) (am_rs rfl (ok_iconst dd_138_10 ic_1 rfl) (am_rs rfl (ok_bipush dd_138_11 bi_60 rfl) (am_rn rfl (am_rs rfl (ok_cv (M' := mi_141) dd_138_13 rfl rfl w_1136 w_1138 ps_141 ⟨lk_141.1, lk_141.2.1, lk_141.2.2, by decide, by decide⟩ rfl) (am_rn rfl (am_rn rfl (am_rz))))))))
theorem kb_138_2 : am_row mi_138 16 kr_138_2 := am_rs rfl (ok_ifc dd_138_16 (by decide) rfl) (am_rn rfl (am_rn rfl (am_rs rfl (ok_iconst dd_138_19 ic_0 rfl) (am_rs rfl (ok_zret dd_138_20 rfl) (am_rs rfl (ok_aload_n (k := 0) dd_138_21 rfl rfl) (am_rs rfl (ok_aload_n (k := 0) dd_138_22 rfl rfl) (am_rs rfl (ok_gf dd_138_23 rfl am_ck12 (by decide) (Or.inl w_952)) (am_rz))))))))
theorem kb_138_3 : am_row mi_138 24 kr_138_3 := am_rn rfl (am_rn rfl (am_rs rfl (ok_iconst dd_138_26 ic_0 rfl) (am_rs rfl (ok_iald dd_138_27 rfl) (am_rs rfl (ok_pf dd_138_28 rfl am_ck12 (by decide) (Or.inl w_953) (Or.inl rfl) rfl) (am_rn rfl (am_rn rfl (am_rs rfl (ok_iconst dd_138_31 ic_1 rfl) (am_rz))))))))
theorem kb_138_4 : am_row mi_138 32 kr_138_4 := am_rs rfl (ok_zret dd_138_32 rfl) (am_rz)
theorem ck_138 : am_rows mi_138 0 cd_138 := am_bs rfl kb_138_0 (am_bs rfl kb_138_1 (am_bs rfl kb_138_2 (am_bs rfl kb_138_3 (am_bs rfl kb_138_4 (am_bz)))))
/-- OverAndBackModel.readNumbers(I)Z -/
noncomputable def kr_139_0 : List (Option am_Op) := [some (am_psh (.retAddr 0) 1), some (am_ist 2 2), some (am_ild 2 3), some (am_ild 1 4), some (am_br2 .ge 144 7), none, none, some (am_ald0 0 8)]
noncomputable def kr_139_1 : List (Option am_Op) := [some (am_ald0 0 9), some (am_gf 12 16 12), none, none, some (am_cv 137 1 12 15), none, none, some (am_cs 140 1 18)]
noncomputable def kr_139_2 : List (Option am_Op) := [none, none, some (am_br1 .ne 23 21), none, none, some (am_psh (.retAddr 0) 22), some (am_zret), some (am_ald0 0 24)]
noncomputable def kr_139_3 : List (Option am_Op) := [some (am_gf 12 17 27), none, none, some (am_ild 2 28), some (am_ald0 0 29), some (am_ald0 0 30), some (am_gf 12 16 33), none]
noncomputable def kr_139_4 : List (Option am_Op) := [none, some (am_cv 137 1 12 36), none, none, some (am_psh (.retAddr 48) 38), none, some (am_bin am_sub 39), some (am_ast 0 (fun v => v) 40)]
noncomputable def kr_139_5 : List (Option am_Op) := [some (am_ald0 0 41), some (am_dup 42), some (am_gf 12 16 45), none, none, some (am_psh (.retAddr 1) 46), some (am_bin am_add 47), some (am_pf 12 16 0 50)]
noncomputable def kr_139_6 : List (Option am_Op) := [none, none, some (am_ald0 0 51), some (am_ald0 0 52), some (am_gf 12 16 55), none, none, some (am_cv 137 1 12 58)]
noncomputable def kr_139_7 : List (Option am_Op) := [none, none, some (am_cs 140 1 61), none, none, some (am_br1 .eq 101 64), none, none]
noncomputable def kr_139_8 : List (Option am_Op) := [some (am_ald0 0 65), some (am_gf 12 17 68), none, none, some (am_ild 2 69), some (am_psh (.retAddr 10) 71), none, some (am_ald0 0 72)]
noncomputable def kr_139_9 : List (Option am_Op) := [some (am_gf 12 17 75), none, none, some (am_ild 2 76), some (am_ald 0 77), some (am_bin am_mul 78), some (am_ald0 0 79), some (am_ald0 0 80)]
noncomputable def kr_139_10 : List (Option am_Op) := [some (am_gf 12 16 83), none, none, some (am_cv 137 1 12 86), none, none, some (am_bin am_add 87), some (am_psh (.retAddr 48) 89)]
noncomputable def kr_139_11 : List (Option am_Op) := [none, some (am_bin am_sub 90), some (am_ast 0 (fun v => v) 91), some (am_ald0 0 92), some (am_dup 93), some (am_gf 12 16 96), none, none]
noncomputable def kr_139_12 : List (Option am_Op) := [some (am_psh (.retAddr 1) 97), some (am_bin am_add 98), some (am_pf 12 16 0 101), none, none, some (am_ald0 0 102), some (am_ald0 0 103), some (am_gf 12 16 106)]
noncomputable def kr_139_13 : List (Option am_Op) := [none, none, some (am_cv 137 1 12 109), none, none, some (am_ild 2 110), some (am_ild 1 111), some (am_psh (.retAddr 1) 112)]
noncomputable def kr_139_14 : List (Option am_Op) := [some (am_bin am_sub 113), some (am_br2 .ge 121 116), none, none, some (am_psh (.retAddr 44) 118), none, some (am_jmp 123), none]
noncomputable def kr_139_15 : List (Option am_Op) := [none, some (am_psh (.retAddr 59) 123), none, some (am_br2 .eq 128 126), none, none, some (am_psh (.retAddr 0) 127), some (am_zret)]
noncomputable def kr_139_16 : List (Option am_Op) := [some (am_ald0 0 129), some (am_dup 130), some (am_gf 12 16 133), none, none, some (am_psh (.retAddr 1) 134), some (am_bin am_add 135), some (am_pf 12 16 0 138)]
noncomputable def kr_139_17 : List (Option am_Op) := [none, none, some (am_inc 2 1 141), none, none, some (am_jmp 2), none, none]
noncomputable def kr_139_18 : List (Option am_Op) := [some (am_psh (.retAddr 1) 145), some (am_zret)]
noncomputable def cd_139 : am_Cd := [kr_139_0, kr_139_1, kr_139_2, kr_139_3, kr_139_4, kr_139_5, kr_139_6, kr_139_7, kr_139_8, kr_139_9, kr_139_10, kr_139_11, kr_139_12, kr_139_13, kr_139_14, kr_139_15, kr_139_16, kr_139_17, kr_139_18]
theorem dd_139_0 : decode prog_14_method_15_code 0 = .ok (.iconst 0, 1) := by decide +kernel
theorem dd_139_1 : decode prog_14_method_15_code 1 = .ok (.istore_n 2, 1) := by decide +kernel
theorem dd_139_2 : decode prog_14_method_15_code 2 = .ok (.iload_n 2, 1) := by decide +kernel
theorem dd_139_3 : decode prog_14_method_15_code 3 = .ok (.iload_n 1, 1) := by decide +kernel
theorem dd_139_4 : decode prog_14_method_15_code 4 = .ok (.if_icmp .ge 140, 3) := by decide +kernel
theorem dd_139_7 : decode prog_14_method_15_code 7 = .ok (.aload_n 0, 1) := by decide +kernel
theorem dd_139_8 : decode prog_14_method_15_code 8 = .ok (.aload_n 0, 1) := by decide +kernel
theorem dd_139_9 : decode prog_14_method_15_code 9 = .ok (.getfield 123, 3) := by decide +kernel
theorem dd_139_12 : decode prog_14_method_15_code 12 = .ok (.invokevirtual 126, 3) := by decide +kernel
theorem dd_139_15 : decode prog_14_method_15_code 15 = .ok (.invokestatic 130, 3) := by decide +kernel
theorem dd_139_18 : decode prog_14_method_15_code 18 = .ok (.ifCond .ne 5, 3) := by decide +kernel
theorem dd_139_21 : decode prog_14_method_15_code 21 = .ok (.iconst 0, 1) := by decide +kernel
theorem dd_139_22 : decode prog_14_method_15_code 22 = .ok (.ireturn, 1) := by decide +kernel
theorem dd_139_23 : decode prog_14_method_15_code 23 = .ok (.aload_n 0, 1) := by decide +kernel
theorem dd_139_24 : decode prog_14_method_15_code 24 = .ok (.getfield 53, 3) := by decide +kernel
theorem dd_139_27 : decode prog_14_method_15_code 27 = .ok (.iload_n 2, 1) := by decide +kernel
theorem dd_139_28 : decode prog_14_method_15_code 28 = .ok (.aload_n 0, 1) := by decide +kernel
theorem dd_139_29 : decode prog_14_method_15_code 29 = .ok (.aload_n 0, 1) := by decide +kernel
theorem dd_139_30 : decode prog_14_method_15_code 30 = .ok (.getfield 123, 3) := by decide +kernel
theorem dd_139_33 : decode prog_14_method_15_code 33 = .ok (.invokevirtual 126, 3) := by decide +kernel
theorem dd_139_36 : decode prog_14_method_15_code 36 = .ok (.bipush 48, 2) := by decide +kernel
theorem dd_139_38 : decode prog_14_method_15_code 38 = .ok (.isub, 1) := by decide +kernel
theorem dd_139_39 : decode prog_14_method_15_code 39 = .ok (.iastore, 1) := by decide +kernel
theorem dd_139_40 : decode prog_14_method_15_code 40 = .ok (.aload_n 0, 1) := by decide +kernel
theorem dd_139_41 : decode prog_14_method_15_code 41 = .ok (.dup, 1) := by decide +kernel
theorem dd_139_42 : decode prog_14_method_15_code 42 = .ok (.getfield 123, 3) := by decide +kernel
theorem dd_139_45 : decode prog_14_method_15_code 45 = .ok (.iconst 1, 1) := by decide +kernel
theorem dd_139_46 : decode prog_14_method_15_code 46 = .ok (.iadd, 1) := by decide +kernel
theorem dd_139_47 : decode prog_14_method_15_code 47 = .ok (.putfield 123, 3) := by decide +kernel
theorem dd_139_50 : decode prog_14_method_15_code 50 = .ok (.aload_n 0, 1) := by decide +kernel
theorem dd_139_51 : decode prog_14_method_15_code 51 = .ok (.aload_n 0, 1) := by decide +kernel
theorem dd_139_52 : decode prog_14_method_15_code 52 = .ok (.getfield 123, 3) := by decide +kernel
theorem dd_139_55 : decode prog_14_method_15_code 55 = .ok (.invokevirtual 126, 3) := by decide +kernel
theorem dd_139_58 : decode prog_14_method_15_code 58 = .ok (.invokestatic 130, 3) := by decide +kernel
theorem dd_139_61 : decode prog_14_method_15_code 61 = .ok (.ifCond .eq 40, 3) := by decide +kernel
theorem dd_139_64 : decode prog_14_method_15_code 64 = .ok (.aload_n 0, 1) := by decide +kernel
theorem dd_139_65 : decode prog_14_method_15_code 65 = .ok (.getfield 53, 3) := by decide +kernel
theorem dd_139_68 : decode prog_14_method_15_code 68 = .ok (.iload_n 2, 1) := by decide +kernel
theorem dd_139_69 : decode prog_14_method_15_code 69 = .ok (.bipush 10, 2) := by decide +kernel
theorem dd_139_71 : decode prog_14_method_15_code 71 = .ok (.aload_n 0, 1) := by decide +kernel
theorem dd_139_72 : decode prog_14_method_15_code 72 = .ok (.getfield 53, 3) := by decide +kernel
theorem dd_139_75 : decode prog_14_method_15_code 75 = .ok (.iload_n 2, 1) := by decide +kernel
theorem dd_139_76 : decode prog_14_method_15_code 76 = .ok (.iaload, 1) := by decide +kernel
theorem dd_139_77 : decode prog_14_method_15_code 77 = .ok (.imul, 1) := by decide +kernel
theorem dd_139_78 : decode prog_14_method_15_code 78 = .ok (.aload_n 0, 1) := by decide +kernel
theorem dd_139_79 : decode prog_14_method_15_code 79 = .ok (.aload_n 0, 1) := by decide +kernel
theorem dd_139_80 : decode prog_14_method_15_code 80 = .ok (.getfield 123, 3) := by decide +kernel
theorem dd_139_83 : decode prog_14_method_15_code 83 = .ok (.invokevirtual 126, 3) := by decide +kernel
theorem dd_139_86 : decode prog_14_method_15_code 86 = .ok (.iadd, 1) := by decide +kernel
theorem dd_139_87 : decode prog_14_method_15_code 87 = .ok (.bipush 48, 2) := by decide +kernel
theorem dd_139_89 : decode prog_14_method_15_code 89 = .ok (.isub, 1) := by decide +kernel
theorem dd_139_90 : decode prog_14_method_15_code 90 = .ok (.iastore, 1) := by decide +kernel
theorem dd_139_91 : decode prog_14_method_15_code 91 = .ok (.aload_n 0, 1) := by decide +kernel
theorem dd_139_92 : decode prog_14_method_15_code 92 = .ok (.dup, 1) := by decide +kernel
theorem dd_139_93 : decode prog_14_method_15_code 93 = .ok (.getfield 123, 3) := by decide +kernel
theorem dd_139_96 : decode prog_14_method_15_code 96 = .ok (.iconst 1, 1) := by decide +kernel
theorem dd_139_97 : decode prog_14_method_15_code 97 = .ok (.iadd, 1) := by decide +kernel
theorem dd_139_98 : decode prog_14_method_15_code 98 = .ok (.putfield 123, 3) := by decide +kernel
theorem dd_139_101 : decode prog_14_method_15_code 101 = .ok (.aload_n 0, 1) := by decide +kernel
theorem dd_139_102 : decode prog_14_method_15_code 102 = .ok (.aload_n 0, 1) := by decide +kernel
theorem dd_139_103 : decode prog_14_method_15_code 103 = .ok (.getfield 123, 3) := by decide +kernel
theorem dd_139_106 : decode prog_14_method_15_code 106 = .ok (.invokevirtual 126, 3) := by decide +kernel
theorem dd_139_109 : decode prog_14_method_15_code 109 = .ok (.iload_n 2, 1) := by decide +kernel
theorem dd_139_110 : decode prog_14_method_15_code 110 = .ok (.iload_n 1, 1) := by decide +kernel
theorem dd_139_111 : decode prog_14_method_15_code 111 = .ok (.iconst 1, 1) := by decide +kernel
theorem dd_139_112 : decode prog_14_method_15_code 112 = .ok (.isub, 1) := by decide +kernel
theorem dd_139_113 : decode prog_14_method_15_code 113 = .ok (.if_icmp .ge 8, 3) := by decide +kernel
theorem dd_139_116 : decode prog_14_method_15_code 116 = .ok (.bipush 44, 2) := by decide +kernel
theorem dd_139_118 : decode prog_14_method_15_code 118 = .ok (.goto 5, 3) := by decide +kernel
theorem dd_139_121 : decode prog_14_method_15_code 121 = .ok (.bipush 59, 2) := by decide +kernel
theorem dd_139_123 : decode prog_14_method_15_code 123 = .ok (.if_icmp .eq 5, 3) := by decide +kernel
theorem dd_139_126 : decode prog_14_method_15_code 126 = .ok (.iconst 0, 1) := by decide +kernel
theorem dd_139_127 : decode prog_14_method_15_code 127 = .ok (.ireturn, 1) := by decide +kernel
theorem dd_139_128 : decode prog_14_method_15_code 128 = .ok (.aload_n 0, 1) := by decide +kernel
theorem dd_139_129 : decode prog_14_method_15_code 129 = .ok (.dup, 1) := by decide +kernel
theorem dd_139_130 : decode prog_14_method_15_code 130 = .ok (.getfield 123, 3) := by decide +kernel
theorem dd_139_133 : decode prog_14_method_15_code 133 = .ok (.iconst 1, 1) := by decide +kernel
theorem dd_139_134 : decode prog_14_method_15_code 134 = .ok (.iadd, 1) := by decide +kernel
theorem dd_139_135 : decode prog_14_method_15_code 135 = .ok (.putfield 123, 3) := by decide +kernel
theorem dd_139_138 : decode prog_14_method_15_code 138 = .ok (.iinc 2 1, 3) := by decide +kernel
theorem dd_139_141 : decode prog_14_method_15_code 141 = .ok (.goto (-139), 3) := by decide +kernel
theorem dd_139_144 : decode prog_14_method_15_code 144 = .ok (.iconst 1, 1) := by decide +kernel
theorem dd_139_145 : decode prog_14_method_15_code 145 = .ok (.ireturn, 1) := by decide +kernel
theorem kb_139_0 : am_row mi_139 0 kr_139_0 := am_rs rfl (ok_iconst dd_139_0 ic_0 rfl) (am_rs rfl (ok_istore_n (k := 2) dd_139_1 rfl rfl (by decide)) (am_rs rfl (ok_iload_n (k := 2) dd_139_2 rfl rfl) (am_rs rfl (ok_iload_n (k := 1) dd_139_3 rfl rfl) (am_rs rfl (ok_icmp dd_139_4 (by decide) rfl) (am_rn rfl (am_rn rfl (am_rs rfl (ok_aload_n (k := 0) dd_139_7 rfl rfl) (am_rz))))))))
theorem kb_139_1 : am_row mi_139 8 kr_139_1 := am_rs rfl (ok_aload_n (k := 0) dd_139_8 rfl rfl) (am_rs rfl (ok_gf dd_139_9 rfl am_ck12 (by decide) (Or.inl w_951)) (am_rn rfl (am_rn rfl (am_rs rfl (ok_cv (M' := mi_137) dd_139_12 rfl rfl w_1121 w_1123 ps_137 ⟨lk_137.1, lk_137.2.1, lk_137.2.2, by decide, by decide⟩ rfl) (am_rn rfl (am_rn rfl (am_rs rfl (ok_cs (M' := mi_140) dd_139_15 rfl rfl w_1133 w_1134 ⟨lk_140.1, lk_140.2.1, lk_140.2.2, by decide, by decide⟩) (am_rz))))))))
theorem kb_139_2 : am_row mi_139 16 kr_139_2 := am_rn rfl (am_rn rfl (am_rs rfl (ok_ifc dd_139_18 (by decide) rfl) (am_rn rfl (am_rn rfl (am_rs rfl (ok_iconst dd_139_21 ic_0 rfl) (am_rs rfl (ok_zret dd_139_22 rfl) (am_rs rfl (ok_aload_n (k := 0) dd_139_23 rfl rfl) (am_rz))))))))
theorem kb_139_3 : am_row mi_139 24 kr_139_3 := am_rs rfl (ok_gf dd_139_24 rfl am_ck12 (by decide) (Or.inl w_952)) (am_rn rfl (am_rn rfl (am_rs rfl (ok_iload_n (k := 2) dd_139_27 rfl rfl) (am_rs rfl (ok_aload_n (k := 0) dd_139_28 rfl rfl) (am_rs rfl (ok_aload_n (k := 0) dd_139_29 rfl rfl) (am_rs rfl (ok_gf dd_139_30 rfl am_ck12 (by decide) (Or.inl w_951)) (am_rn rfl (am_rz))))))))
theorem kb_139_4 : am_row mi_139 32 kr_139_4 := am_rn rfl (am_rs rfl (ok_cv (M' := mi_137) dd_139_33 rfl rfl w_1121 w_1123 ps_137 ⟨lk_137.1, lk_137.2.1, lk_137.2.2, by decide, by decide⟩ rfl) (am_rn rfl (am_rn rfl (am_rs rfl (ok_bipush dd_139_36 bi_48 rfl) (am_rn rfl (am_rs rfl (ok_isub dd_139_38 rfl) (am_rs rfl (ok_iast dd_139_39 rfl) (am_rz))))))))
theorem kb_139_5 : am_row mi_139 40 kr_139_5 := am_rs rfl (ok_aload_n (k := 0) dd_139_40 rfl rfl) (am_rs rfl (ok_dup dd_139_41 rfl) (am_rs rfl (ok_gf dd_139_42 rfl am_ck12 (by decide) (Or.inl w_951)) (am_rn rfl (am_rn rfl (am_rs rfl (ok_iconst dd_139_45 ic_1 rfl) (am_rs rfl (ok_iadd dd_139_46 rfl) (am_rs rfl (ok_pf dd_139_47 rfl am_ck12 (by decide) (Or.inl w_951) (Or.inl rfl) rfl) (am_rz))))))))
theorem kb_139_6 : am_row mi_139 48 kr_139_6 := am_rn rfl (am_rn rfl (am_rs rfl (ok_aload_n (k := 0) dd_139_50 rfl rfl) (am_rs rfl (ok_aload_n (k := 0) dd_139_51 rfl rfl) (am_rs rfl (ok_gf dd_139_52 rfl am_ck12 (by decide) (Or.inl w_951)) (am_rn rfl (am_rn rfl (am_rs rfl (ok_cv (M' := mi_137) dd_139_55 rfl rfl w_1121 w_1123 ps_137 ⟨lk_137.1, lk_137.2.1, lk_137.2.2, by decide, by decide⟩ rfl) (am_rz))))))))
theorem kb_139_7 : am_row mi_139 56 kr_139_7 := am_rn rfl (am_rn rfl (am_rs rfl (ok_cs (M' := mi_140) dd_139_58 rfl rfl w_1133 w_1134 ⟨lk_140.1, lk_140.2.1, lk_140.2.2, by decide, by decide⟩) (am_rn rfl (am_rn rfl (am_rs rfl (ok_ifc dd_139_61 (by decide) rfl) (am_rn rfl (am_rn rfl (am_rz))))))))
theorem kb_139_8 : am_row mi_139 64 kr_139_8 := am_rs rfl (ok_aload_n (k := 0) dd_139_64 rfl rfl) (am_rs rfl (ok_gf dd_139_65 rfl am_ck12 (by decide) (Or.inl w_952)) (am_rn rfl (am_rn rfl (am_rs rfl (ok_iload_n (k := 2) dd_139_68 rfl rfl) (am_rs rfl (ok_bipush dd_139_69 bi_10 rfl) (am_rn rfl (am_rs rfl (ok_aload_n (k := 0) dd_139_71 rfl rfl) (am_rz))))))))
theorem kb_139_9 : am_row mi_139 72 kr_139_9 := am_rs rfl (ok_gf dd_139_72 rfl am_ck12 (by decide) (Or.inl w_952)) (am_rn rfl (am_rn rfl (am_rs rfl (ok_iload_n (k := 2) dd_139_75 rfl rfl) (am_rs rfl (ok_iald dd_139_76 rfl) (am_rs rfl (ok_imul dd_139_77 rfl) (am_rs rfl (ok_aload_n (k := 0) dd_139_78 rfl rfl) (am_rs rfl (ok_aload_n (k := 0) dd_139_79 rfl rfl) (am_rz))))))))
theorem kb_139_10 : am_row mi_139 80 kr_139_10 := am_rs rfl (ok_gf dd_139_80 rfl am_ck12 (by decide) (Or.inl w_951)) (am_rn rfl (am_rn rfl (am_rs rfl (ok_cv (M' := mi_137) dd_139_83 rfl rfl w_1121 w_1123 ps_137 ⟨lk_137.1, lk_137.2.1, lk_137.2.2, by decide, by decide⟩ rfl) (am_rn rfl (am_rn rfl (am_rs rfl (ok_iadd dd_139_86 rfl) (am_rs rfl (ok_bipush dd_139_87 bi_48 rfl) (am_rz))))))))
theorem kb_139_11 : am_row mi_139 88 kr_139_11 := am_rn rfl (am_rs rfl (ok_isub dd_139_89 rfl) (am_rs rfl (ok_iast dd_139_90 rfl) (am_rs rfl (ok_aload_n (k := 0) dd_139_91 rfl rfl) (am_rs rfl (ok_dup dd_139_92 rfl) (am_rs rfl (ok_gf dd_139_93 rfl am_ck12 (by decide) (Or.inl w_951)) (am_rn rfl (am_rn rfl (am_rz))))))))
theorem kb_139_12 : am_row mi_139 96 kr_139_12 := am_rs rfl (ok_iconst dd_139_96 ic_1 rfl) (am_rs rfl (ok_iadd dd_139_97 rfl) (am_rs rfl (ok_pf dd_139_98 rfl am_ck12 (by decide) (Or.inl w_951) (Or.inl rfl) rfl) (am_rn rfl (am_rn rfl (am_rs rfl (ok_aload_n (k := 0) dd_139_101 rfl rfl) (am_rs rfl (ok_aload_n (k := 0) dd_139_102 rfl rfl) (am_rs rfl (ok_gf dd_139_103 rfl am_ck12 (by decide) (Or.inl w_951)) (am_rz))))))))
theorem kb_139_13 : am_row mi_139 104 kr_139_13 := am_rn rfl (am_rn rfl (am_rs rfl (ok_cv (M' := mi_137) dd_139_106 rfl rfl w_1121 w_1123 ps_137 ⟨lk_137.1, lk_137.2.1, lk_137.2.2, by decide, by decide⟩ rfl) (am_rn rfl (am_rn rfl (am_rs rfl (ok_iload_n (k := 2) dd_139_109 rfl rfl) (am_rs rfl (ok_iload_n (k := 1) dd_139_110 rfl rfl) (am_rs rfl (ok_iconst dd_139_111 ic_1 rfl) (am_rz))))))))
theorem kb_139_14 : am_row mi_139 112 kr_139_14 := am_rs rfl (ok_isub dd_139_112 rfl) (am_rs rfl (ok_icmp dd_139_113 (by decide) rfl) (am_rn rfl (am_rn rfl (am_rs rfl (ok_bipush dd_139_116 bi_44 rfl) (am_rn rfl (am_rs rfl (ok_goto dd_139_118 (by decide)) (am_rn rfl (am_rz))))))))
theorem kb_139_15 : am_row mi_139 120 kr_139_15 := am_rn rfl (am_rs rfl (ok_bipush dd_139_121 bi_59 rfl) (am_rn rfl (am_rs rfl (ok_icmp dd_139_123 (by decide) rfl) (am_rn rfl (am_rn rfl (am_rs rfl (ok_iconst dd_139_126 ic_0 rfl) (am_rs rfl (ok_zret dd_139_127 rfl) (am_rz))))))))
theorem kb_139_16 : am_row mi_139 128 kr_139_16 := am_rs rfl (ok_aload_n (k := 0) dd_139_128 rfl rfl) (am_rs rfl (ok_dup dd_139_129 rfl) (am_rs rfl (ok_gf dd_139_130 rfl am_ck12 (by decide) (Or.inl w_951)) (am_rn rfl (am_rn rfl (am_rs rfl (ok_iconst dd_139_133 ic_1 rfl) (am_rs rfl (ok_iadd dd_139_134 rfl) (am_rs rfl (ok_pf dd_139_135 rfl am_ck12 (by decide) (Or.inl w_951) (Or.inl rfl) rfl) (am_rz))))))))
theorem kb_139_17 : am_row mi_139 136 kr_139_17 := am_rn rfl (am_rn rfl (am_rs rfl (ok_iinc dd_139_138 ic_1 rfl (by decide)) (am_rn rfl (am_rn rfl (am_rs rfl (ok_goto dd_139_141 (by decide)) (am_rn rfl (am_rn rfl (am_rz))))))))
theorem kb_139_18 : am_row mi_139 144 kr_139_18 := am_rs rfl (ok_iconst dd_139_144 ic_1 rfl) (am_rs rfl (ok_zret dd_139_145 rfl) (am_rz))
theorem ck_139 : am_rows mi_139 0 cd_139 := am_bs rfl kb_139_0 (am_bs rfl kb_139_1 (am_bs rfl kb_139_2 (am_bs rfl kb_139_3 (am_bs rfl kb_139_4 (am_bs rfl kb_139_5 (am_bs rfl kb_139_6 (am_bs rfl kb_139_7 (am_bs rfl kb_139_8 (am_bs rfl kb_139_9 (am_bs rfl kb_139_10 (am_bs rfl kb_139_11 (am_bs rfl kb_139_12 (am_bs rfl kb_139_13 (am_bs rfl kb_139_14 (am_bs rfl kb_139_15 (am_bs rfl kb_139_16 (am_bs rfl kb_139_17 (am_bs rfl kb_139_18 (am_bz)))))))))))))))))))
/-- OverAndBackModel.isFigure(I)Z -/
noncomputable def kr_140_0 : List (Option am_Op) := [some (am_ild 0 1), some (am_psh (.retAddr 48) 3), none, some (am_psh (.retAddr 57) 5), none, some (am_cs 133 3 8), none, none]
noncomputable def kr_140_1 : List (Option am_Op) := [some (am_zret)]
noncomputable def cd_140 : am_Cd := [kr_140_0, kr_140_1]
theorem dd_140_0 : decode prog_14_method_14_code 0 = .ok (.iload_n 0, 1) := by decide +kernel
theorem dd_140_1 : decode prog_14_method_14_code 1 = .ok (.bipush 48, 2) := by decide +kernel
theorem dd_140_3 : decode prog_14_method_14_code 3 = .ok (.bipush 57, 2) := by decide +kernel
theorem dd_140_5 : decode prog_14_method_14_code 5 = .ok (.invokestatic 116, 3) := by decide +kernel
theorem dd_140_8 : decode prog_14_method_14_code 8 = .ok (.ireturn, 1) := by decide +kernel
theorem kb_140_0 : am_row mi_140 0 kr_140_0 := am_rs rfl (ok_iload_n (k := 0) dd_140_0 rfl rfl) (am_rs rfl (ok_bipush dd_140_1 bi_48 rfl) (am_rn rfl (am_rs rfl (ok_bipush dd_140_3 bi_57 rfl) (am_rn rfl (am_rs rfl (ok_cs (M' := mi_133) dd_140_5 rfl rfl w_1106 w_1107 ⟨lk_133.1, lk_133.2.1, lk_133.2.2, by decide, by decide⟩) (am_rn rfl (am_rn rfl (am_rz))))))))
theorem kb_140_1 : am_row mi_140 8 kr_140_1 := am_rs rfl (ok_zret dd_140_8 rfl) (am_rz)
theorem ck_140 : am_rows mi_140 0 cd_140 := am_bs rfl kb_140_0 (am_bs rfl kb_140_1 (am_bz))
/-- OverAndBackModel.isTold(III)Z -/
noncomputable def kr_141_0 : List (Option am_Op) := [some (am_ald0 0 1), some (am_gf 12 17 4), none, none, some (am_ild 1 5), some (am_ald 0 6), some (am_ild 2 7), some (am_ild 3 8)]
noncomputable def kr_141_1 : List (Option am_Op) := [some (am_cs 133 3 11), none, none, some (am_zret)]
noncomputable def cd_141 : am_Cd := [kr_141_0, kr_141_1]
theorem dd_141_0 : decode prog_14_method_16_code 0 = .ok (.aload_n 0, 1) := by decide +kernel
theorem dd_141_1 : decode prog_14_method_16_code 1 = .ok (.getfield 53, 3) := by decide +kernel
theorem dd_141_4 : decode prog_14_method_16_code 4 = .ok (.iload_n 1, 1) := by decide +kernel
theorem dd_141_5 : decode prog_14_method_16_code 5 = .ok (.iaload, 1) := by decide +kernel
theorem dd_141_6 : decode prog_14_method_16_code 6 = .ok (.iload_n 2, 1) := by decide +kernel
theorem dd_141_7 : decode prog_14_method_16_code 7 = .ok (.iload_n 3, 1) := by decide +kernel
theorem dd_141_8 : decode prog_14_method_16_code 8 = .ok (.invokestatic 116, 3) := by decide +kernel
theorem dd_141_11 : decode prog_14_method_16_code 11 = .ok (.ireturn, 1) := by decide +kernel
theorem kb_141_0 : am_row mi_141 0 kr_141_0 := am_rs rfl (ok_aload_n (k := 0) dd_141_0 rfl rfl) (am_rs rfl (ok_gf dd_141_1 rfl am_ck12 (by decide) (Or.inl w_952)) (am_rn rfl (am_rn rfl (am_rs rfl (ok_iload_n (k := 1) dd_141_4 rfl rfl) (am_rs rfl (ok_iald dd_141_5 rfl) (am_rs rfl (ok_iload_n (k := 2) dd_141_6 rfl rfl) (am_rs rfl (ok_iload_n (k := 3) dd_141_7 rfl rfl) (am_rz))))))))
theorem kb_141_1 : am_row mi_141 8 kr_141_1 := am_rs rfl (ok_cs (M' := mi_133) dd_141_8 rfl rfl w_1106 w_1107 ⟨lk_133.1, lk_133.2.1, lk_133.2.2, by decide, by decide⟩) (am_rn rfl (am_rn rfl (am_rs rfl (ok_zret dd_141_11 rfl) (am_rz))))
theorem ck_141 : am_rows mi_141 0 cd_141 := am_bs rfl kb_141_0 (am_bs rfl kb_141_1 (am_bz))
/-- OverAndBackModel.readStation()Z -/
noncomputable def kr_142_0 : List (Option am_Op) := [some (am_ald0 0 1), some (am_gf 12 20 4), none, none, some (am_psh (.retAddr 4) 5), some (am_br2 .eq 27 8), none, none]
noncomputable def kr_142_1 : List (Option am_Op) := [some (am_ald0 0 9), some (am_psh (.retAddr 1) 10), some (am_cv 139 1 12 13), none, none, some (am_br1 .eq 27 16), none, none]
noncomputable def kr_142_2 : List (Option am_Op) := [some (am_ald0 0 17), some (am_psh (.retAddr 0) 18), some (am_psh (.retAddr 0) 19), some (am_psh (.retAddr 9) 21), none, some (am_cv 141 3 12 24), none, none]
noncomputable def kr_142_3 : List (Option am_Op) := [some (am_br1 .ne 29 27), none, none, some (am_psh (.retAddr 0) 28), some (am_zret), some (am_ald0 0 30), some (am_gf 12 21 33), none]
noncomputable def kr_142_4 : List (Option am_Op) := [none, some (am_ald0 0 34), some (am_gf 12 20 37), none, none, some (am_ald0 0 38), some (am_gf 12 17 41), none]
noncomputable def kr_142_5 : List (Option am_Op) := [none, some (am_psh (.retAddr 0) 42), some (am_ald 0 43), some (am_ast 0 (fun v => v) 44), some (am_ald0 0 45), some (am_dup 46), some (am_gf 12 20 49), none]
noncomputable def kr_142_6 : List (Option am_Op) := [none, some (am_psh (.retAddr 1) 50), some (am_bin am_add 51), some (am_pf 12 20 0 54), none, none, some (am_psh (.retAddr 1) 55), some (am_zret)]
noncomputable def cd_142 : am_Cd := [kr_142_0, kr_142_1, kr_142_2, kr_142_3, kr_142_4, kr_142_5, kr_142_6]
theorem dd_142_0 : decode prog_14_method_21_code 0 = .ok (.aload_n 0, 1) := by decide +kernel
theorem dd_142_1 : decode prog_14_method_21_code 1 = .ok (.getfield 134, 3) := by decide +kernel
theorem dd_142_4 : decode prog_14_method_21_code 4 = .ok (.iconst 4, 1) := by decide +kernel
theorem dd_142_5 : decode prog_14_method_21_code 5 = .ok (.if_icmp .eq 22, 3) := by decide +kernel
theorem dd_142_8 : decode prog_14_method_21_code 8 = .ok (.aload_n 0, 1) := by decide +kernel
theorem dd_142_9 : decode prog_14_method_21_code 9 = .ok (.iconst 1, 1) := by decide +kernel
theorem dd_142_10 : decode prog_14_method_21_code 10 = .ok (.invokevirtual 140, 3) := by decide +kernel
theorem dd_142_13 : decode prog_14_method_21_code 13 = .ok (.ifCond .eq 14, 3) := by decide +kernel
theorem dd_142_16 : decode prog_14_method_21_code 16 = .ok (.aload_n 0, 1) := by decide +kernel
theorem dd_142_17 : decode prog_14_method_21_code 17 = .ok (.iconst 0, 1) := by decide +kernel
theorem dd_142_18 : decode prog_14_method_21_code 18 = .ok (.iconst 0, 1) := by decide +kernel
theorem dd_142_19 : decode prog_14_method_21_code 19 = .ok (.bipush 9, 2) := by decide +kernel
theorem dd_142_21 : decode prog_14_method_21_code 21 = .ok (.invokevirtual 137, 3) := by decide +kernel
theorem dd_142_24 : decode prog_14_method_21_code 24 = .ok (.ifCond .ne 5, 3) := by decide +kernel
theorem dd_142_27 : decode prog_14_method_21_code 27 = .ok (.iconst 0, 1) := by decide +kernel
theorem dd_142_28 : decode prog_14_method_21_code 28 = .ok (.ireturn, 1) := by decide +kernel
theorem dd_142_29 : decode prog_14_method_21_code 29 = .ok (.aload_n 0, 1) := by decide +kernel
theorem dd_142_30 : decode prog_14_method_21_code 30 = .ok (.getfield 56, 3) := by decide +kernel
theorem dd_142_33 : decode prog_14_method_21_code 33 = .ok (.aload_n 0, 1) := by decide +kernel
theorem dd_142_34 : decode prog_14_method_21_code 34 = .ok (.getfield 134, 3) := by decide +kernel
theorem dd_142_37 : decode prog_14_method_21_code 37 = .ok (.aload_n 0, 1) := by decide +kernel
theorem dd_142_38 : decode prog_14_method_21_code 38 = .ok (.getfield 53, 3) := by decide +kernel
theorem dd_142_41 : decode prog_14_method_21_code 41 = .ok (.iconst 0, 1) := by decide +kernel
theorem dd_142_42 : decode prog_14_method_21_code 42 = .ok (.iaload, 1) := by decide +kernel
theorem dd_142_43 : decode prog_14_method_21_code 43 = .ok (.iastore, 1) := by decide +kernel
theorem dd_142_44 : decode prog_14_method_21_code 44 = .ok (.aload_n 0, 1) := by decide +kernel
theorem dd_142_45 : decode prog_14_method_21_code 45 = .ok (.dup, 1) := by decide +kernel
theorem dd_142_46 : decode prog_14_method_21_code 46 = .ok (.getfield 134, 3) := by decide +kernel
theorem dd_142_49 : decode prog_14_method_21_code 49 = .ok (.iconst 1, 1) := by decide +kernel
theorem dd_142_50 : decode prog_14_method_21_code 50 = .ok (.iadd, 1) := by decide +kernel
theorem dd_142_51 : decode prog_14_method_21_code 51 = .ok (.putfield 134, 3) := by decide +kernel
theorem dd_142_54 : decode prog_14_method_21_code 54 = .ok (.iconst 1, 1) := by decide +kernel
theorem dd_142_55 : decode prog_14_method_21_code 55 = .ok (.ireturn, 1) := by decide +kernel
theorem kb_142_0 : am_row mi_142 0 kr_142_0 := am_rs rfl (ok_aload_n (k := 0) dd_142_0 rfl rfl) (am_rs rfl (ok_gf dd_142_1 rfl am_ck12 (by decide) (Or.inl w_955)) (am_rn rfl (am_rn rfl (am_rs rfl (ok_iconst dd_142_4 ic_4 rfl) (am_rs rfl (ok_icmp dd_142_5 (by decide) rfl) (am_rn rfl (am_rn rfl (am_rz))))))))
theorem kb_142_1 : am_row mi_142 8 kr_142_1 := am_rs rfl (ok_aload_n (k := 0) dd_142_8 rfl rfl) (am_rs rfl (ok_iconst dd_142_9 ic_1 rfl) (am_rs rfl (ok_cv (M' := mi_139) dd_142_10 rfl rfl w_1129 w_1131 ps_139 ⟨lk_139.1, lk_139.2.1, lk_139.2.2, by decide, by decide⟩ rfl) (am_rn rfl (am_rn rfl (am_rs rfl (ok_ifc dd_142_13 (by decide) rfl) (am_rn rfl (am_rn rfl (am_rz))))))))
theorem kb_142_2 : am_row mi_142 16 kr_142_2 := am_rs rfl (ok_aload_n (k := 0) dd_142_16 rfl rfl) (am_rs rfl (ok_iconst dd_142_17 ic_0 rfl) (am_rs rfl (ok_iconst dd_142_18 ic_0 rfl) (am_rs rfl (ok_bipush dd_142_19 bi_9 rfl) (am_rn rfl (am_rs rfl (ok_cv (M' := mi_141) dd_142_21 rfl rfl w_1136 w_1138 ps_141 ⟨lk_141.1, lk_141.2.1, lk_141.2.2, by decide, by decide⟩ rfl) (am_rn rfl (am_rn rfl (am_rz))))))))
theorem kb_142_3 : am_row mi_142 24 kr_142_3 := am_rs rfl (ok_ifc dd_142_24 (by decide) rfl) (am_rn rfl (am_rn rfl (am_rs rfl (ok_iconst dd_142_27 ic_0 rfl) (am_rs rfl (ok_zret dd_142_28 rfl) (am_rs rfl (ok_aload_n (k := 0) dd_142_29 rfl rfl) (am_rs rfl (ok_gf dd_142_30 rfl am_ck12 (by decide) (Or.inl w_956)) (am_rn rfl (am_rz))))))))
theorem kb_142_4 : am_row mi_142 32 kr_142_4 := am_rn rfl (am_rs rfl (ok_aload_n (k := 0) dd_142_33 rfl rfl) (am_rs rfl (ok_gf dd_142_34 rfl am_ck12 (by decide) (Or.inl w_955)) (am_rn rfl (am_rn rfl (am_rs rfl (ok_aload_n (k := 0) dd_142_37 rfl rfl) (am_rs rfl (ok_gf dd_142_38 rfl am_ck12 (by decide) (Or.inl w_952)) (am_rn rfl (am_rz))))))))
theorem kb_142_5 : am_row mi_142 40 kr_142_5 := am_rn rfl (am_rs rfl (ok_iconst dd_142_41 ic_0 rfl) (am_rs rfl (ok_iald dd_142_42 rfl) (am_rs rfl (ok_iast dd_142_43 rfl) (am_rs rfl (ok_aload_n (k := 0) dd_142_44 rfl rfl) (am_rs rfl (ok_dup dd_142_45 rfl) (am_rs rfl (ok_gf dd_142_46 rfl am_ck12 (by decide) (Or.inl w_955)) (am_rn rfl (am_rz))))))))
theorem kb_142_6 : am_row mi_142 48 kr_142_6 := am_rn rfl (am_rs rfl (ok_iconst dd_142_49 ic_1 rfl) (am_rs rfl (ok_iadd dd_142_50 rfl) (am_rs rfl (ok_pf dd_142_51 rfl am_ck12 (by decide) (Or.inl w_955) (Or.inl rfl) rfl) (am_rn rfl (am_rn rfl (am_rs rfl (ok_iconst dd_142_54 ic_1 rfl) (am_rs rfl (ok_zret dd_142_55 rfl) (am_rz))))))))
theorem ck_142 : am_rows mi_142 0 cd_142 := am_bs rfl kb_142_0 (am_bs rfl kb_142_1 (am_bs rfl kb_142_2 (am_bs rfl kb_142_3 (am_bs rfl kb_142_4 (am_bs rfl kb_142_5 (am_bs rfl kb_142_6 (am_bz)))))))
/-- OverAndBackModel.readSceneOf()Z -/
noncomputable def kr_143_0 : List (Option am_Op) := [some (am_ald0 0 1), some (am_gf 12 22 4), none, none, some (am_psh (.retAddr 9) 6), none, some (am_br2 .eq 46 9), none]
noncomputable def kr_143_1 : List (Option am_Op) := [none, some (am_ald0 0 10), some (am_psh (.retAddr 5) 11), some (am_cv 139 1 12 14), none, none, some (am_br1 .eq 46 17), none]
noncomputable def kr_143_2 : List (Option am_Op) := [none, some (am_ald0 0 18), some (am_cv 144 0 12 21), none, none, some (am_br1 .eq 46 24), none, none]
noncomputable def kr_143_3 : List (Option am_Op) := [some (am_ald0 0 25), some (am_psh (.retAddr 3) 26), some (am_psh (.retAddr 0) 27), some (am_psh (.retAddr 9) 29), none, some (am_cv 141 3 12 32), none, none]
noncomputable def kr_143_4 : List (Option am_Op) := [some (am_br1 .eq 46 35), none, none, some (am_ald0 0 36), some (am_psh (.retAddr 4) 37), some (am_psh (.retAddr 0) 38), some (am_psh (.retAddr 8) 40), none]
noncomputable def kr_143_5 : List (Option am_Op) := [some (am_cv 141 3 12 43), none, none, some (am_br1 .ne 48 46), none, none, some (am_psh (.retAddr 0) 47), some (am_zret)]
noncomputable def kr_143_6 : List (Option am_Op) := [some (am_ald0 0 49), some (am_gf 12 23 52), none, none, some (am_psh (.retAddr 5) 53), some (am_ald0 0 54), some (am_gf 12 22 57), none]
noncomputable def kr_143_7 : List (Option am_Op) := [none, some (am_bin am_mul 58), some (am_ald0 0 59), some (am_gf 12 17 62), none, none, some (am_psh (.retAddr 5) 63), some (am_cs 145 4 66)]
noncomputable def kr_143_8 : List (Option am_Op) := [none, none, some (am_ald0 0 67), some (am_dup 68), some (am_gf 12 22 71), none, none, some (am_psh (.retAddr 1) 72)]
noncomputable def kr_143_9 : List (Option am_Op) := [some (am_bin am_add 73), some (am_pf 12 22 0 76), none, none, some (am_psh (.retAddr 1) 77), some (am_zret)]
noncomputable def cd_143 : am_Cd := [kr_143_0, kr_143_1, kr_143_2, kr_143_3, kr_143_4, kr_143_5, kr_143_6, kr_143_7, kr_143_8, kr_143_9]
theorem dd_143_0 : decode prog_14_method_22_code 0 = .ok (.aload_n 0, 1) := by decide +kernel
theorem dd_143_1 : decode prog_14_method_22_code 1 = .ok (.getfield 149, 3) := by decide +kernel
theorem dd_143_4 : decode prog_14_method_22_code 4 = .ok (.bipush 9, 2) := by decide +kernel
theorem dd_143_6 : decode prog_14_method_22_code 6 = .ok (.if_icmp .eq 40, 3) := by decide +kernel
theorem dd_143_9 : decode prog_14_method_22_code 9 = .ok (.aload_n 0, 1) := by decide +kernel
theorem dd_143_10 : decode prog_14_method_22_code 10 = .ok (.iconst 5, 1) := by decide +kernel
theorem dd_143_11 : decode prog_14_method_22_code 11 = .ok (.invokevirtual 140, 3) := by decide +kernel
theorem dd_143_14 : decode prog_14_method_22_code 14 = .ok (.ifCond .eq 32, 3) := by decide +kernel
theorem dd_143_17 : decode prog_14_method_22_code 17 = .ok (.aload_n 0, 1) := by decide +kernel
theorem dd_143_18 : decode prog_14_method_22_code 18 = .ok (.invokevirtual 152, 3) := by decide +kernel
theorem dd_143_21 : decode prog_14_method_22_code 21 = .ok (.ifCond .eq 25, 3) := by decide +kernel
theorem dd_143_24 : decode prog_14_method_22_code 24 = .ok (.aload_n 0, 1) := by decide +kernel
theorem dd_143_25 : decode prog_14_method_22_code 25 = .ok (.iconst 3, 1) := by decide +kernel
theorem dd_143_26 : decode prog_14_method_22_code 26 = .ok (.iconst 0, 1) := by decide +kernel
theorem dd_143_27 : decode prog_14_method_22_code 27 = .ok (.bipush 9, 2) := by decide +kernel
theorem dd_143_29 : decode prog_14_method_22_code 29 = .ok (.invokevirtual 137, 3) := by decide +kernel
theorem dd_143_32 : decode prog_14_method_22_code 32 = .ok (.ifCond .eq 14, 3) := by decide +kernel
theorem dd_143_35 : decode prog_14_method_22_code 35 = .ok (.aload_n 0, 1) := by decide +kernel
theorem dd_143_36 : decode prog_14_method_22_code 36 = .ok (.iconst 4, 1) := by decide +kernel
theorem dd_143_37 : decode prog_14_method_22_code 37 = .ok (.iconst 0, 1) := by decide +kernel
theorem dd_143_38 : decode prog_14_method_22_code 38 = .ok (.bipush 8, 2) := by decide +kernel
theorem dd_143_40 : decode prog_14_method_22_code 40 = .ok (.invokevirtual 137, 3) := by decide +kernel
theorem dd_143_43 : decode prog_14_method_22_code 43 = .ok (.ifCond .ne 5, 3) := by decide +kernel
theorem dd_143_46 : decode prog_14_method_22_code 46 = .ok (.iconst 0, 1) := by decide +kernel
theorem dd_143_47 : decode prog_14_method_22_code 47 = .ok (.ireturn, 1) := by decide +kernel
theorem dd_143_48 : decode prog_14_method_22_code 48 = .ok (.aload_n 0, 1) := by decide +kernel
theorem dd_143_49 : decode prog_14_method_22_code 49 = .ok (.getfield 59, 3) := by decide +kernel
theorem dd_143_52 : decode prog_14_method_22_code 52 = .ok (.iconst 5, 1) := by decide +kernel
theorem dd_143_53 : decode prog_14_method_22_code 53 = .ok (.aload_n 0, 1) := by decide +kernel
theorem dd_143_54 : decode prog_14_method_22_code 54 = .ok (.getfield 149, 3) := by decide +kernel
theorem dd_143_57 : decode prog_14_method_22_code 57 = .ok (.imul, 1) := by decide +kernel
theorem dd_143_58 : decode prog_14_method_22_code 58 = .ok (.aload_n 0, 1) := by decide +kernel
theorem dd_143_59 : decode prog_14_method_22_code 59 = .ok (.getfield 53, 3) := by decide +kernel
theorem dd_143_62 : decode prog_14_method_22_code 62 = .ok (.iconst 5, 1) := by decide +kernel
theorem dd_143_63 : decode prog_14_method_22_code 63 = .ok (.invokestatic 156, 3) := by decide +kernel
theorem dd_143_66 : decode prog_14_method_22_code 66 = .ok (.aload_n 0, 1) := by decide +kernel
theorem dd_143_67 : decode prog_14_method_22_code 67 = .ok (.dup, 1) := by decide +kernel
theorem dd_143_68 : decode prog_14_method_22_code 68 = .ok (.getfield 149, 3) := by decide +kernel
theorem dd_143_71 : decode prog_14_method_22_code 71 = .ok (.iconst 1, 1) := by decide +kernel
theorem dd_143_72 : decode prog_14_method_22_code 72 = .ok (.iadd, 1) := by decide +kernel
theorem dd_143_73 : decode prog_14_method_22_code 73 = .ok (.putfield 149, 3) := by decide +kernel
theorem dd_143_76 : decode prog_14_method_22_code 76 = .ok (.iconst 1, 1) := by decide +kernel
theorem dd_143_77 : decode prog_14_method_22_code 77 = .ok (.ireturn, 1) := by decide +kernel
theorem kb_143_0 : am_row mi_143 0 kr_143_0 := am_rs rfl (ok_aload_n (k := 0) dd_143_0 rfl rfl) (am_rs rfl (ok_gf dd_143_1 rfl am_ck12 (by decide) (Or.inl w_957)) (am_rn rfl (am_rn rfl (am_rs rfl (ok_bipush dd_143_4 bi_9 rfl) (am_rn rfl (am_rs rfl (ok_icmp dd_143_6 (by decide) rfl) (am_rn rfl (am_rz))))))))
theorem kb_143_1 : am_row mi_143 8 kr_143_1 := am_rn rfl (am_rs rfl (ok_aload_n (k := 0) dd_143_9 rfl rfl) (am_rs rfl (ok_iconst dd_143_10 ic_5 rfl) (am_rs rfl (ok_cv (M' := mi_139) dd_143_11 rfl rfl w_1129 w_1131 ps_139 ⟨lk_139.1, lk_139.2.1, lk_139.2.2, by decide, by decide⟩ rfl) (am_rn rfl (am_rn rfl (am_rs rfl (ok_ifc dd_143_14 (by decide) rfl) (am_rn rfl (am_rz))))))))
theorem kb_143_2 : am_row mi_143 16 kr_143_2 := am_rn rfl (am_rs rfl (ok_aload_n (k := 0) dd_143_17 rfl rfl) (am_rs rfl (ok_cv (M' := mi_144) dd_143_18 rfl rfl w_1148 w_1150 ps_144 ⟨lk_144.1, lk_144.2.1, lk_144.2.2, by decide, by decide⟩ rfl) (am_rn rfl (am_rn rfl (am_rs rfl (ok_ifc dd_143_21 (by decide) rfl) (am_rn rfl (am_rn rfl (am_rz))))))))
theorem kb_143_3 : am_row mi_143 24 kr_143_3 := am_rs rfl (ok_aload_n (k := 0) dd_143_24 rfl rfl) (am_rs rfl (ok_iconst dd_143_25 ic_3 rfl) (am_rs rfl (ok_iconst dd_143_26 ic_0 rfl) (am_rs rfl (ok_bipush dd_143_27 bi_9 rfl) (am_rn rfl (am_rs rfl (ok_cv (M' := mi_141) dd_143_29 rfl rfl w_1136 w_1138 ps_141 ⟨lk_141.1, lk_141.2.1, lk_141.2.2, by decide, by decide⟩ rfl) (am_rn rfl (am_rn rfl (am_rz))))))))
theorem kb_143_4 : am_row mi_143 32 kr_143_4 := am_rs rfl (ok_ifc dd_143_32 (by decide) rfl) (am_rn rfl (am_rn rfl (am_rs rfl (ok_aload_n (k := 0) dd_143_35 rfl rfl) (am_rs rfl (ok_iconst dd_143_36 ic_4 rfl) (am_rs rfl (ok_iconst dd_143_37 ic_0 rfl) (am_rs rfl (ok_bipush dd_143_38 bi_8 rfl) (am_rn rfl (am_rz))))))))
theorem kb_143_5 : am_row mi_143 40 kr_143_5 := am_rs rfl (ok_cv (M' := mi_141) dd_143_40 rfl rfl w_1136 w_1138 ps_141 ⟨lk_141.1, lk_141.2.1, lk_141.2.2, by decide, by decide⟩ rfl) (am_rn rfl (am_rn rfl (am_rs rfl (ok_ifc dd_143_43 (by decide) rfl) (am_rn rfl (am_rn rfl (am_rs rfl (ok_iconst dd_143_46 ic_0 rfl) (am_rs rfl (ok_zret dd_143_47 rfl) (am_rz))))))))
theorem kb_143_6 : am_row mi_143 48 kr_143_6 := am_rs rfl (ok_aload_n (k := 0) dd_143_48 rfl rfl) (am_rs rfl (ok_gf dd_143_49 rfl am_ck12 (by decide) (Or.inl w_958)) (am_rn rfl (am_rn rfl (am_rs rfl (ok_iconst dd_143_52 ic_5 rfl) (am_rs rfl (ok_aload_n (k := 0) dd_143_53 rfl rfl) (am_rs rfl (ok_gf dd_143_54 rfl am_ck12 (by decide) (Or.inl w_957)) (am_rn rfl (am_rz))))))))
theorem kb_143_7 : am_row mi_143 56 kr_143_7 := am_rn rfl (am_rs rfl (ok_imul dd_143_57 rfl) (am_rs rfl (ok_aload_n (k := 0) dd_143_58 rfl rfl) (am_rs rfl (ok_gf dd_143_59 rfl am_ck12 (by decide) (Or.inl w_952)) (am_rn rfl (am_rn rfl (am_rs rfl (ok_iconst dd_143_62 ic_5 rfl) (am_rs rfl (ok_cs (M' := mi_145) dd_143_63 rfl rfl w_1152 w_1153 ⟨lk_145.1, lk_145.2.1, lk_145.2.2, by decide, by decide⟩) (am_rz))))))))
theorem kb_143_8 : am_row mi_143 64 kr_143_8 := am_rn rfl (am_rn rfl (am_rs rfl (ok_aload_n (k := 0) dd_143_66 rfl rfl) (am_rs rfl (ok_dup dd_143_67 rfl) (am_rs rfl (ok_gf dd_143_68 rfl am_ck12 (by decide) (Or.inl w_957)) (am_rn rfl (am_rn rfl (am_rs rfl (ok_iconst dd_143_71 ic_1 rfl) (am_rz))))))))
theorem kb_143_9 : am_row mi_143 72 kr_143_9 := am_rs rfl (ok_iadd dd_143_72 rfl) (am_rs rfl (ok_pf dd_143_73 rfl am_ck12 (by decide) (Or.inl w_957) (Or.inl rfl) rfl) (am_rn rfl (am_rn rfl (am_rs rfl (ok_iconst dd_143_76 ic_1 rfl) (am_rs rfl (ok_zret dd_143_77 rfl) (am_rz))))))
theorem ck_143 : am_rows mi_143 0 cd_143 := am_bs rfl kb_143_0 (am_bs rfl kb_143_1 (am_bs rfl kb_143_2 (am_bs rfl kb_143_3 (am_bs rfl kb_143_4 (am_bs rfl kb_143_5 (am_bs rfl kb_143_6 (am_bs rfl kb_143_7 (am_bs rfl kb_143_8 (am_bs rfl kb_143_9 (am_bz))))))))))
/-- OverAndBackModel.isSpan()Z -/
noncomputable def kr_144_0 : List (Option am_Op) := [some (am_ald0 0 1), some (am_psh (.retAddr 0) 2), some (am_psh (.retAddr 0) 3), some (am_ald0 0 4), some (am_gf 12 20 7), none, none, some (am_psh (.retAddr 1) 8)]
noncomputable def kr_144_1 : List (Option am_Op) := [some (am_bin am_sub 9), some (am_cv 141 3 12 12), none, none, some (am_br1 .eq 46 15), none, none, some (am_ald0 0 16)]
noncomputable def kr_144_2 : List (Option am_Op) := [some (am_psh (.retAddr 1) 17), some (am_psh (.retAddr 0) 18), some (am_psh (.retAddr 59) 20), none, some (am_cv 141 3 12 23), none, none, some (am_br1 .eq 46 26)]
noncomputable def kr_144_3 : List (Option am_Op) := [none, none, some (am_ald0 0 27), some (am_psh (.retAddr 2) 28), some (am_ald0 0 29), some (am_gf 12 17 32), none, none]
noncomputable def kr_144_4 : List (Option am_Op) := [some (am_psh (.retAddr 1) 33), some (am_ald 0 34), some (am_psh (.retAddr 59) 36), none, some (am_cv 141 3 12 39), none, none, some (am_br1 .eq 46 42)]
noncomputable def kr_144_5 : List (Option am_Op) := [none, none, some (am_psh (.retAddr 1) 43), some (am_jmp 47), none, none, some (am_psh (.retAddr 0) 47), some (am_zret)]
noncomputable def cd_144 : am_Cd := [kr_144_0, kr_144_1, kr_144_2, kr_144_3, kr_144_4, kr_144_5]
theorem dd_144_0 : decode prog_14_method_18_code 0 = .ok (.aload_n 0, 1) := by decide +kernel
theorem dd_144_1 : decode prog_14_method_18_code 1 = .ok (.iconst 0, 1) := by decide +kernel
theorem dd_144_2 : decode prog_14_method_18_code 2 = .ok (.iconst 0, 1) := by decide +kernel
theorem dd_144_3 : decode prog_14_method_18_code 3 = .ok (.aload_n 0, 1) := by decide +kernel
theorem dd_144_4 : decode prog_14_method_18_code 4 = .ok (.getfield 134, 3) := by decide +kernel
theorem dd_144_7 : decode prog_14_method_18_code 7 = .ok (.iconst 1, 1) := by decide +kernel
theorem dd_144_8 : decode prog_14_method_18_code 8 = .ok (.isub, 1) := by decide +kernel
theorem dd_144_9 : decode prog_14_method_18_code 9 = .ok (.invokevirtual 137, 3) := by decide +kernel
theorem dd_144_12 : decode prog_14_method_18_code 12 = .ok (.ifCond .eq 34, 3) := by decide +kernel
theorem dd_144_15 : decode prog_14_method_18_code 15 = .ok (.aload_n 0, 1) := by decide +kernel
theorem dd_144_16 : decode prog_14_method_18_code 16 = .ok (.iconst 1, 1) := by decide +kernel
theorem dd_144_17 : decode prog_14_method_18_code 17 = .ok (.iconst 0, 1) := by decide +kernel
theorem dd_144_18 : decode prog_14_method_18_code 18 = .ok (.bipush 59, 2) := by decide +kernel
theorem dd_144_20 : decode prog_14_method_18_code 20 = .ok (.invokevirtual 137, 3) := by decide +kernel
theorem dd_144_23 : decode prog_14_method_18_code 23 = .ok (.ifCond .eq 23, 3) := by decide +kernel
theorem dd_144_26 : decode prog_14_method_18_code 26 = .ok (.aload_n 0, 1) := by decide +kernel
theorem dd_144_27 : decode prog_14_method_18_code 27 = .ok (.iconst 2, 1) := by decide +kernel
theorem dd_144_28 : decode prog_14_method_18_code 28 = .ok (.aload_n 0, 1) := by decide +kernel
theorem dd_144_29 : decode prog_14_method_18_code 29 = .ok (.getfield 53, 3) := by decide +kernel
theorem dd_144_32 : decode prog_14_method_18_code 32 = .ok (.iconst 1, 1) := by decide +kernel
theorem dd_144_33 : decode prog_14_method_18_code 33 = .ok (.iaload, 1) := by decide +kernel
theorem dd_144_34 : decode prog_14_method_18_code 34 = .ok (.bipush 59, 2) := by decide +kernel
theorem dd_144_36 : decode prog_14_method_18_code 36 = .ok (.invokevirtual 137, 3) := by decide +kernel
theorem dd_144_39 : decode prog_14_method_18_code 39 = .ok (.ifCond .eq 7, 3) := by decide +kernel
theorem dd_144_42 : decode prog_14_method_18_code 42 = .ok (.iconst 1, 1) := by decide +kernel
theorem dd_144_43 : decode prog_14_method_18_code 43 = .ok (.goto 4, 3) := by decide +kernel
theorem dd_144_46 : decode prog_14_method_18_code 46 = .ok (.iconst 0, 1) := by decide +kernel
theorem dd_144_47 : decode prog_14_method_18_code 47 = .ok (.ireturn, 1) := by decide +kernel
theorem kb_144_0 : am_row mi_144 0 kr_144_0 := am_rs rfl (ok_aload_n (k := 0) dd_144_0 rfl rfl) (am_rs rfl (ok_iconst dd_144_1 ic_0 rfl) (am_rs rfl (ok_iconst dd_144_2 ic_0 rfl) (am_rs rfl (ok_aload_n (k := 0) dd_144_3 rfl rfl) (am_rs rfl (ok_gf dd_144_4 rfl am_ck12 (by decide) (Or.inl w_955)) (am_rn rfl (am_rn rfl (am_rs rfl (ok_iconst dd_144_7 ic_1 rfl) (am_rz))))))))
theorem kb_144_1 : am_row mi_144 8 kr_144_1 := am_rs rfl (ok_isub dd_144_8 rfl) (am_rs rfl (ok_cv (M' := mi_141) dd_144_9 rfl rfl w_1136 w_1138 ps_141 ⟨lk_141.1, lk_141.2.1, lk_141.2.2, by decide, by decide⟩ rfl) (am_rn rfl (am_rn rfl (am_rs rfl (ok_ifc dd_144_12 (by decide) rfl) (am_rn rfl (am_rn rfl (am_rs rfl (ok_aload_n (k := 0) dd_144_15 rfl rfl) (am_rz))))))))
theorem kb_144_2 : am_row mi_144 16 kr_144_2 := am_rs rfl (ok_iconst dd_144_16 ic_1 rfl) (am_rs rfl (ok_iconst dd_144_17 ic_0 rfl) (am_rs rfl (ok_bipush dd_144_18 bi_59 rfl) (am_rn rfl (am_rs rfl (ok_cv (M' := mi_141) dd_144_20 rfl rfl w_1136 w_1138 ps_141 ⟨lk_141.1, lk_141.2.1, lk_141.2.2, by decide, by decide⟩ rfl) (am_rn rfl (am_rn rfl (am_rs rfl (ok_ifc dd_144_23 (by decide) rfl) (am_rz))))))))
theorem kb_144_3 : am_row mi_144 24 kr_144_3 := am_rn rfl (am_rn rfl (am_rs rfl (ok_aload_n (k := 0) dd_144_26 rfl rfl) (am_rs rfl (ok_iconst dd_144_27 ic_2 rfl) (am_rs rfl (ok_aload_n (k := 0) dd_144_28 rfl rfl) (am_rs rfl (ok_gf dd_144_29 rfl am_ck12 (by decide) (Or.inl w_952)) (am_rn rfl (am_rn rfl (am_rz))))))))
theorem kb_144_4 : am_row mi_144 32 kr_144_4 := am_rs rfl (ok_iconst dd_144_32 ic_1 rfl) (am_rs rfl (ok_iald dd_144_33 rfl) (am_rs rfl (ok_bipush dd_144_34 bi_59 rfl) (am_rn rfl (am_rs rfl (ok_cv (M' := mi_141) dd_144_36 rfl rfl w_1136 w_1138 ps_141 ⟨lk_141.1, lk_141.2.1, lk_141.2.2, by decide, by decide⟩ rfl) (am_rn rfl (am_rn rfl (am_rs rfl (ok_ifc dd_144_39 (by decide) rfl) (am_rz))))))))
theorem kb_144_5 : am_row mi_144 40 kr_144_5 := am_rn rfl (am_rn rfl (am_rs rfl (ok_iconst dd_144_42 ic_1 rfl) (am_rs rfl (ok_goto dd_144_43 (by decide)) (am_rn rfl (am_rn rfl (am_rs rfl (ok_iconst dd_144_46 ic_0 rfl) (am_rs rfl (ok_zret dd_144_47 rfl) (am_rz))))))))
theorem ck_144 : am_rows mi_144 0 cd_144 := am_bs rfl kb_144_0 (am_bs rfl kb_144_1 (am_bs rfl kb_144_2 (am_bs rfl kb_144_3 (am_bs rfl kb_144_4 (am_bs rfl kb_144_5 (am_bz))))))
/-- OverAndBackModel.put([II[II)V -/
noncomputable def kr_145_0 : List (Option am_Op) := [some (am_psh (.retAddr 0) 1), some (am_ist 4 3), none, some (am_ild 4 5), none, some (am_ild 3 6), some (am_br2 .ge 25 9), none]
noncomputable def kr_145_1 : List (Option am_Op) := [none, some (am_ald0 0 10), some (am_ild 1 11), some (am_ild 4 13), none, some (am_bin am_add 14), some (am_ald0 2 15), some (am_ild 4 17)]
noncomputable def kr_145_2 : List (Option am_Op) := [none, some (am_ald 0 18), some (am_ast 0 (fun v => v) 19), some (am_inc 4 1 22), none, none, some (am_jmp 3), none]
noncomputable def kr_145_3 : List (Option am_Op) := [none, some (am_vret)]
noncomputable def cd_145 : am_Cd := [kr_145_0, kr_145_1, kr_145_2, kr_145_3]
theorem dd_145_0 : decode prog_14_method_17_code 0 = .ok (.iconst 0, 1) := by decide +kernel
theorem dd_145_1 : decode prog_14_method_17_code 1 = .ok (.istore 4, 2) := by decide +kernel
theorem dd_145_3 : decode prog_14_method_17_code 3 = .ok (.iload 4, 2) := by decide +kernel
theorem dd_145_5 : decode prog_14_method_17_code 5 = .ok (.iload_n 3, 1) := by decide +kernel
theorem dd_145_6 : decode prog_14_method_17_code 6 = .ok (.if_icmp .ge 19, 3) := by decide +kernel
theorem dd_145_9 : decode prog_14_method_17_code 9 = .ok (.aload_n 0, 1) := by decide +kernel
theorem dd_145_10 : decode prog_14_method_17_code 10 = .ok (.iload_n 1, 1) := by decide +kernel
theorem dd_145_11 : decode prog_14_method_17_code 11 = .ok (.iload 4, 2) := by decide +kernel
theorem dd_145_13 : decode prog_14_method_17_code 13 = .ok (.iadd, 1) := by decide +kernel
theorem dd_145_14 : decode prog_14_method_17_code 14 = .ok (.aload_n 2, 1) := by decide +kernel
theorem dd_145_15 : decode prog_14_method_17_code 15 = .ok (.iload 4, 2) := by decide +kernel
theorem dd_145_17 : decode prog_14_method_17_code 17 = .ok (.iaload, 1) := by decide +kernel
theorem dd_145_18 : decode prog_14_method_17_code 18 = .ok (.iastore, 1) := by decide +kernel
theorem dd_145_19 : decode prog_14_method_17_code 19 = .ok (.iinc 4 1, 3) := by decide +kernel
theorem dd_145_22 : decode prog_14_method_17_code 22 = .ok (.goto (-19), 3) := by decide +kernel
theorem dd_145_25 : decode prog_14_method_17_code 25 = .ok (.return_, 1) := by decide +kernel
theorem kb_145_0 : am_row mi_145 0 kr_145_0 := am_rs rfl (ok_iconst dd_145_0 ic_0 rfl) (am_rs rfl (ok_istore dd_145_1 rfl (by decide)) (am_rn rfl (am_rs rfl (ok_iload dd_145_3 rfl) (am_rn rfl (am_rs rfl (ok_iload_n (k := 3) dd_145_5 rfl rfl) (am_rs rfl (ok_icmp dd_145_6 (by decide) rfl) (am_rn rfl (am_rz))))))))
theorem kb_145_1 : am_row mi_145 8 kr_145_1 := am_rn rfl (am_rs rfl (ok_aload_n (k := 0) dd_145_9 rfl rfl) (am_rs rfl (ok_iload_n (k := 1) dd_145_10 rfl rfl) (am_rs rfl (ok_iload dd_145_11 rfl) (am_rn rfl (am_rs rfl (ok_iadd dd_145_13 rfl) (am_rs rfl (ok_aload_n (k := 2) dd_145_14 rfl rfl) (am_rs rfl (ok_iload dd_145_15 rfl) (am_rz))))))))
theorem kb_145_2 : am_row mi_145 16 kr_145_2 := am_rn rfl (am_rs rfl (ok_iald dd_145_17 rfl) (am_rs rfl (ok_iast dd_145_18 rfl) (am_rs rfl (ok_iinc dd_145_19 ic_1 rfl (by decide)) (am_rn rfl (am_rn rfl (am_rs rfl (ok_goto dd_145_22 (by decide)) (am_rn rfl (am_rz))))))))
theorem kb_145_3 : am_row mi_145 24 kr_145_3 := am_rn rfl (am_rs rfl (ok_vret dd_145_25 rfl) (am_rz))
theorem ck_145 : am_rows mi_145 0 cd_145 := am_bs rfl kb_145_0 (am_bs rfl kb_145_1 (am_bs rfl kb_145_2 (am_bs rfl kb_145_3 (am_bz))))
/-- OverAndBackModel.readBreak()Z -/
noncomputable def kr_146_0 : List (Option am_Op) := [some (am_ald0 0 1), some (am_gf 12 24 4), none, none, some (am_psh (.retAddr 6) 6), none, some (am_br2 .eq 24 9), none]
noncomputable def kr_146_1 : List (Option am_Op) := [none, some (am_ald0 0 10), some (am_psh (.retAddr 3) 11), some (am_cv 139 1 12 14), none, none, some (am_br1 .eq 24 17), none]
noncomputable def kr_146_2 : List (Option am_Op) := [none, some (am_ald0 0 18), some (am_cv 144 0 12 21), none, none, some (am_br1 .ne 26 24), none, none]
noncomputable def kr_146_3 : List (Option am_Op) := [some (am_psh (.retAddr 0) 25), some (am_zret), some (am_ald0 0 27), some (am_gf 12 25 30), none, none, some (am_psh (.retAddr 3) 31), some (am_ald0 0 32)]
noncomputable def kr_146_4 : List (Option am_Op) := [some (am_gf 12 24 35), none, none, some (am_bin am_mul 36), some (am_ald0 0 37), some (am_gf 12 17 40), none, none]
noncomputable def kr_146_5 : List (Option am_Op) := [some (am_psh (.retAddr 3) 41), some (am_cs 145 4 44), none, none, some (am_ald0 0 45), some (am_dup 46), some (am_gf 12 24 49), none]
noncomputable def kr_146_6 : List (Option am_Op) := [none, some (am_psh (.retAddr 1) 50), some (am_bin am_add 51), some (am_pf 12 24 0 54), none, none, some (am_psh (.retAddr 1) 55), some (am_zret)]
noncomputable def cd_146 : am_Cd := [kr_146_0, kr_146_1, kr_146_2, kr_146_3, kr_146_4, kr_146_5, kr_146_6]
theorem dd_146_0 : decode prog_14_method_23_code 0 = .ok (.aload_n 0, 1) := by decide +kernel
theorem dd_146_1 : decode prog_14_method_23_code 1 = .ok (.getfield 160, 3) := by decide +kernel
theorem dd_146_4 : decode prog_14_method_23_code 4 = .ok (.bipush 6, 2) := by decide +kernel
theorem dd_146_6 : decode prog_14_method_23_code 6 = .ok (.if_icmp .eq 18, 3) := by decide +kernel
theorem dd_146_9 : decode prog_14_method_23_code 9 = .ok (.aload_n 0, 1) := by decide +kernel
theorem dd_146_10 : decode prog_14_method_23_code 10 = .ok (.iconst 3, 1) := by decide +kernel
theorem dd_146_11 : decode prog_14_method_23_code 11 = .ok (.invokevirtual 140, 3) := by decide +kernel
theorem dd_146_14 : decode prog_14_method_23_code 14 = .ok (.ifCond .eq 10, 3) := by decide +kernel
theorem dd_146_17 : decode prog_14_method_23_code 17 = .ok (.aload_n 0, 1) := by decide +kernel
theorem dd_146_18 : decode prog_14_method_23_code 18 = .ok (.invokevirtual 152, 3) := by decide +kernel
theorem dd_146_21 : decode prog_14_method_23_code 21 = .ok (.ifCond .ne 5, 3) := by decide +kernel
theorem dd_146_24 : decode prog_14_method_23_code 24 = .ok (.iconst 0, 1) := by decide +kernel
theorem dd_146_25 : decode prog_14_method_23_code 25 = .ok (.ireturn, 1) := by decide +kernel
theorem dd_146_26 : decode prog_14_method_23_code 26 = .ok (.aload_n 0, 1) := by decide +kernel
theorem dd_146_27 : decode prog_14_method_23_code 27 = .ok (.getfield 62, 3) := by decide +kernel
theorem dd_146_30 : decode prog_14_method_23_code 30 = .ok (.iconst 3, 1) := by decide +kernel
theorem dd_146_31 : decode prog_14_method_23_code 31 = .ok (.aload_n 0, 1) := by decide +kernel
theorem dd_146_32 : decode prog_14_method_23_code 32 = .ok (.getfield 160, 3) := by decide +kernel
theorem dd_146_35 : decode prog_14_method_23_code 35 = .ok (.imul, 1) := by decide +kernel
theorem dd_146_36 : decode prog_14_method_23_code 36 = .ok (.aload_n 0, 1) := by decide +kernel
theorem dd_146_37 : decode prog_14_method_23_code 37 = .ok (.getfield 53, 3) := by decide +kernel
theorem dd_146_40 : decode prog_14_method_23_code 40 = .ok (.iconst 3, 1) := by decide +kernel
theorem dd_146_41 : decode prog_14_method_23_code 41 = .ok (.invokestatic 156, 3) := by decide +kernel
theorem dd_146_44 : decode prog_14_method_23_code 44 = .ok (.aload_n 0, 1) := by decide +kernel
theorem dd_146_45 : decode prog_14_method_23_code 45 = .ok (.dup, 1) := by decide +kernel
theorem dd_146_46 : decode prog_14_method_23_code 46 = .ok (.getfield 160, 3) := by decide +kernel
theorem dd_146_49 : decode prog_14_method_23_code 49 = .ok (.iconst 1, 1) := by decide +kernel
theorem dd_146_50 : decode prog_14_method_23_code 50 = .ok (.iadd, 1) := by decide +kernel
theorem dd_146_51 : decode prog_14_method_23_code 51 = .ok (.putfield 160, 3) := by decide +kernel
theorem dd_146_54 : decode prog_14_method_23_code 54 = .ok (.iconst 1, 1) := by decide +kernel
theorem dd_146_55 : decode prog_14_method_23_code 55 = .ok (.ireturn, 1) := by decide +kernel
theorem kb_146_0 : am_row mi_146 0 kr_146_0 := am_rs rfl (ok_aload_n (k := 0) dd_146_0 rfl rfl) (am_rs rfl (ok_gf dd_146_1 rfl am_ck12 (by decide) (Or.inl w_959)) (am_rn rfl (am_rn rfl (am_rs rfl (ok_bipush dd_146_4 bi_6 rfl) (am_rn rfl (am_rs rfl (ok_icmp dd_146_6 (by decide) rfl) (am_rn rfl (am_rz))))))))
theorem kb_146_1 : am_row mi_146 8 kr_146_1 := am_rn rfl (am_rs rfl (ok_aload_n (k := 0) dd_146_9 rfl rfl) (am_rs rfl (ok_iconst dd_146_10 ic_3 rfl) (am_rs rfl (ok_cv (M' := mi_139) dd_146_11 rfl rfl w_1129 w_1131 ps_139 ⟨lk_139.1, lk_139.2.1, lk_139.2.2, by decide, by decide⟩ rfl) (am_rn rfl (am_rn rfl (am_rs rfl (ok_ifc dd_146_14 (by decide) rfl) (am_rn rfl (am_rz))))))))
theorem kb_146_2 : am_row mi_146 16 kr_146_2 := am_rn rfl (am_rs rfl (ok_aload_n (k := 0) dd_146_17 rfl rfl) (am_rs rfl (ok_cv (M' := mi_144) dd_146_18 rfl rfl w_1148 w_1150 ps_144 ⟨lk_144.1, lk_144.2.1, lk_144.2.2, by decide, by decide⟩ rfl) (am_rn rfl (am_rn rfl (am_rs rfl (ok_ifc dd_146_21 (by decide) rfl) (am_rn rfl (am_rn rfl (am_rz))))))))
theorem kb_146_3 : am_row mi_146 24 kr_146_3 := am_rs rfl (ok_iconst dd_146_24 ic_0 rfl) (am_rs rfl (ok_zret dd_146_25 rfl) (am_rs rfl (ok_aload_n (k := 0) dd_146_26 rfl rfl) (am_rs rfl (ok_gf dd_146_27 rfl am_ck12 (by decide) (Or.inl w_960)) (am_rn rfl (am_rn rfl (am_rs rfl (ok_iconst dd_146_30 ic_3 rfl) (am_rs rfl (ok_aload_n (k := 0) dd_146_31 rfl rfl) (am_rz))))))))
theorem kb_146_4 : am_row mi_146 32 kr_146_4 := am_rs rfl (ok_gf dd_146_32 rfl am_ck12 (by decide) (Or.inl w_959)) (am_rn rfl (am_rn rfl (am_rs rfl (ok_imul dd_146_35 rfl) (am_rs rfl (ok_aload_n (k := 0) dd_146_36 rfl rfl) (am_rs rfl (ok_gf dd_146_37 rfl am_ck12 (by decide) (Or.inl w_952)) (am_rn rfl (am_rn rfl (am_rz))))))))
theorem kb_146_5 : am_row mi_146 40 kr_146_5 := am_rs rfl (ok_iconst dd_146_40 ic_3 rfl) (am_rs rfl (ok_cs (M' := mi_145) dd_146_41 rfl rfl w_1152 w_1153 ⟨lk_145.1, lk_145.2.1, lk_145.2.2, by decide, by decide⟩) (am_rn rfl (am_rn rfl (am_rs rfl (ok_aload_n (k := 0) dd_146_44 rfl rfl) (am_rs rfl (ok_dup dd_146_45 rfl) (am_rs rfl (ok_gf dd_146_46 rfl am_ck12 (by decide) (Or.inl w_959)) (am_rn rfl (am_rz))))))))
theorem kb_146_6 : am_row mi_146 48 kr_146_6 := am_rn rfl (am_rs rfl (ok_iconst dd_146_49 ic_1 rfl) (am_rs rfl (ok_iadd dd_146_50 rfl) (am_rs rfl (ok_pf dd_146_51 rfl am_ck12 (by decide) (Or.inl w_959) (Or.inl rfl) rfl) (am_rn rfl (am_rn rfl (am_rs rfl (ok_iconst dd_146_54 ic_1 rfl) (am_rs rfl (ok_zret dd_146_55 rfl) (am_rz))))))))
theorem ck_146 : am_rows mi_146 0 cd_146 := am_bs rfl kb_146_0 (am_bs rfl kb_146_1 (am_bs rfl kb_146_2 (am_bs rfl kb_146_3 (am_bs rfl kb_146_4 (am_bs rfl kb_146_5 (am_bs rfl kb_146_6 (am_bz)))))))
/-- OverAndBackModel.readChance()Z -/
noncomputable def kr_147_0 : List (Option am_Op) := [some (am_ald0 0 1), some (am_gf 12 26 4), none, none, some (am_psh (.retAddr 4) 5), some (am_br2 .eq 34 8), none, none]
noncomputable def kr_147_1 : List (Option am_Op) := [some (am_ald0 0 9), some (am_psh (.retAddr 4) 10), some (am_cv 139 1 12 13), none, none, some (am_br1 .eq 34 16), none, none]
noncomputable def kr_147_2 : List (Option am_Op) := [some (am_ald0 0 17), some (am_cv 144 0 12 20), none, none, some (am_br1 .eq 34 23), none, none, some (am_ald0 0 24)]
noncomputable def kr_147_3 : List (Option am_Op) := [some (am_psh (.retAddr 3) 25), some (am_psh (.retAddr 0) 26), some (am_psh (.retAddr 10) 28), none, some (am_cv 141 3 12 31), none, none, some (am_br1 .ne 36 34)]
noncomputable def kr_147_4 : List (Option am_Op) := [none, none, some (am_psh (.retAddr 0) 35), some (am_zret), some (am_ald0 0 37), some (am_gf 12 27 40), none, none]
noncomputable def kr_147_5 : List (Option am_Op) := [some (am_psh (.retAddr 4) 41), some (am_ald0 0 42), some (am_gf 12 26 45), none, none, some (am_bin am_mul 46), some (am_ald0 0 47), some (am_gf 12 17 50)]
noncomputable def kr_147_6 : List (Option am_Op) := [none, none, some (am_psh (.retAddr 4) 51), some (am_cs 145 4 54), none, none, some (am_ald0 0 55), some (am_dup 56)]
noncomputable def kr_147_7 : List (Option am_Op) := [some (am_gf 12 26 59), none, none, some (am_psh (.retAddr 1) 60), some (am_bin am_add 61), some (am_pf 12 26 0 64), none, none]
noncomputable def kr_147_8 : List (Option am_Op) := [some (am_psh (.retAddr 1) 65), some (am_zret)]
noncomputable def cd_147 : am_Cd := [kr_147_0, kr_147_1, kr_147_2, kr_147_3, kr_147_4, kr_147_5, kr_147_6, kr_147_7, kr_147_8]
theorem dd_147_0 : decode prog_14_method_24_code 0 = .ok (.aload_n 0, 1) := by decide +kernel
theorem dd_147_1 : decode prog_14_method_24_code 1 = .ok (.getfield 163, 3) := by decide +kernel
theorem dd_147_4 : decode prog_14_method_24_code 4 = .ok (.iconst 4, 1) := by decide +kernel
theorem dd_147_5 : decode prog_14_method_24_code 5 = .ok (.if_icmp .eq 29, 3) := by decide +kernel
theorem dd_147_8 : decode prog_14_method_24_code 8 = .ok (.aload_n 0, 1) := by decide +kernel
theorem dd_147_9 : decode prog_14_method_24_code 9 = .ok (.iconst 4, 1) := by decide +kernel
theorem dd_147_10 : decode prog_14_method_24_code 10 = .ok (.invokevirtual 140, 3) := by decide +kernel
theorem dd_147_13 : decode prog_14_method_24_code 13 = .ok (.ifCond .eq 21, 3) := by decide +kernel
theorem dd_147_16 : decode prog_14_method_24_code 16 = .ok (.aload_n 0, 1) := by decide +kernel
theorem dd_147_17 : decode prog_14_method_24_code 17 = .ok (.invokevirtual 152, 3) := by decide +kernel
theorem dd_147_20 : decode prog_14_method_24_code 20 = .ok (.ifCond .eq 14, 3) := by decide +kernel
theorem dd_147_23 : decode prog_14_method_24_code 23 = .ok (.aload_n 0, 1) := by decide +kernel
theorem dd_147_24 : decode prog_14_method_24_code 24 = .ok (.iconst 3, 1) := by decide +kernel
theorem dd_147_25 : decode prog_14_method_24_code 25 = .ok (.iconst 0, 1) := by decide +kernel
theorem dd_147_26 : decode prog_14_method_24_code 26 = .ok (.bipush 10, 2) := by decide +kernel
theorem dd_147_28 : decode prog_14_method_24_code 28 = .ok (.invokevirtual 137, 3) := by decide +kernel
theorem dd_147_31 : decode prog_14_method_24_code 31 = .ok (.ifCond .ne 5, 3) := by decide +kernel
theorem dd_147_34 : decode prog_14_method_24_code 34 = .ok (.iconst 0, 1) := by decide +kernel
theorem dd_147_35 : decode prog_14_method_24_code 35 = .ok (.ireturn, 1) := by decide +kernel
theorem dd_147_36 : decode prog_14_method_24_code 36 = .ok (.aload_n 0, 1) := by decide +kernel
theorem dd_147_37 : decode prog_14_method_24_code 37 = .ok (.getfield 65, 3) := by decide +kernel
theorem dd_147_40 : decode prog_14_method_24_code 40 = .ok (.iconst 4, 1) := by decide +kernel
theorem dd_147_41 : decode prog_14_method_24_code 41 = .ok (.aload_n 0, 1) := by decide +kernel
theorem dd_147_42 : decode prog_14_method_24_code 42 = .ok (.getfield 163, 3) := by decide +kernel
theorem dd_147_45 : decode prog_14_method_24_code 45 = .ok (.imul, 1) := by decide +kernel
theorem dd_147_46 : decode prog_14_method_24_code 46 = .ok (.aload_n 0, 1) := by decide +kernel
theorem dd_147_47 : decode prog_14_method_24_code 47 = .ok (.getfield 53, 3) := by decide +kernel
theorem dd_147_50 : decode prog_14_method_24_code 50 = .ok (.iconst 4, 1) := by decide +kernel
theorem dd_147_51 : decode prog_14_method_24_code 51 = .ok (.invokestatic 156, 3) := by decide +kernel
theorem dd_147_54 : decode prog_14_method_24_code 54 = .ok (.aload_n 0, 1) := by decide +kernel
theorem dd_147_55 : decode prog_14_method_24_code 55 = .ok (.dup, 1) := by decide +kernel
theorem dd_147_56 : decode prog_14_method_24_code 56 = .ok (.getfield 163, 3) := by decide +kernel
theorem dd_147_59 : decode prog_14_method_24_code 59 = .ok (.iconst 1, 1) := by decide +kernel
theorem dd_147_60 : decode prog_14_method_24_code 60 = .ok (.iadd, 1) := by decide +kernel
theorem dd_147_61 : decode prog_14_method_24_code 61 = .ok (.putfield 163, 3) := by decide +kernel
theorem dd_147_64 : decode prog_14_method_24_code 64 = .ok (.iconst 1, 1) := by decide +kernel
theorem dd_147_65 : decode prog_14_method_24_code 65 = .ok (.ireturn, 1) := by decide +kernel
theorem kb_147_0 : am_row mi_147 0 kr_147_0 := am_rs rfl (ok_aload_n (k := 0) dd_147_0 rfl rfl) (am_rs rfl (ok_gf dd_147_1 rfl am_ck12 (by decide) (Or.inl w_961)) (am_rn rfl (am_rn rfl (am_rs rfl (ok_iconst dd_147_4 ic_4 rfl) (am_rs rfl (ok_icmp dd_147_5 (by decide) rfl) (am_rn rfl (am_rn rfl (am_rz))))))))
theorem kb_147_1 : am_row mi_147 8 kr_147_1 := am_rs rfl (ok_aload_n (k := 0) dd_147_8 rfl rfl) (am_rs rfl (ok_iconst dd_147_9 ic_4 rfl) (am_rs rfl (ok_cv (M' := mi_139) dd_147_10 rfl rfl w_1129 w_1131 ps_139 ⟨lk_139.1, lk_139.2.1, lk_139.2.2, by decide, by decide⟩ rfl) (am_rn rfl (am_rn rfl (am_rs rfl (ok_ifc dd_147_13 (by decide) rfl) (am_rn rfl (am_rn rfl (am_rz))))))))
theorem kb_147_2 : am_row mi_147 16 kr_147_2 := am_rs rfl (ok_aload_n (k := 0) dd_147_16 rfl rfl) (am_rs rfl (ok_cv (M' := mi_144) dd_147_17 rfl rfl w_1148 w_1150 ps_144 ⟨lk_144.1, lk_144.2.1, lk_144.2.2, by decide, by decide⟩ rfl) (am_rn rfl (am_rn rfl (am_rs rfl (ok_ifc dd_147_20 (by decide) rfl) (am_rn rfl (am_rn rfl (am_rs rfl (ok_aload_n (k := 0) dd_147_23 rfl rfl) (am_rz))))))))
theorem kb_147_3 : am_row mi_147 24 kr_147_3 := am_rs rfl (ok_iconst dd_147_24 ic_3 rfl) (am_rs rfl (ok_iconst dd_147_25 ic_0 rfl) (am_rs rfl (ok_bipush dd_147_26 bi_10 rfl) (am_rn rfl (am_rs rfl (ok_cv (M' := mi_141) dd_147_28 rfl rfl w_1136 w_1138 ps_141 ⟨lk_141.1, lk_141.2.1, lk_141.2.2, by decide, by decide⟩ rfl) (am_rn rfl (am_rn rfl (am_rs rfl (ok_ifc dd_147_31 (by decide) rfl) (am_rz))))))))
theorem kb_147_4 : am_row mi_147 32 kr_147_4 := am_rn rfl (am_rn rfl (am_rs rfl (ok_iconst dd_147_34 ic_0 rfl) (am_rs rfl (ok_zret dd_147_35 rfl) (am_rs rfl (ok_aload_n (k := 0) dd_147_36 rfl rfl) (am_rs rfl (ok_gf dd_147_37 rfl am_ck12 (by decide) (Or.inl w_962)) (am_rn rfl (am_rn rfl (am_rz))))))))
theorem kb_147_5 : am_row mi_147 40 kr_147_5 := am_rs rfl (ok_iconst dd_147_40 ic_4 rfl) (am_rs rfl (ok_aload_n (k := 0) dd_147_41 rfl rfl) (am_rs rfl (ok_gf dd_147_42 rfl am_ck12 (by decide) (Or.inl w_961)) (am_rn rfl (am_rn rfl (am_rs rfl (ok_imul dd_147_45 rfl) (am_rs rfl (ok_aload_n (k := 0) dd_147_46 rfl rfl) (am_rs rfl (ok_gf dd_147_47 rfl am_ck12 (by decide) (Or.inl w_952)) (am_rz))))))))
theorem kb_147_6 : am_row mi_147 48 kr_147_6 := am_rn rfl (am_rn rfl (am_rs rfl (ok_iconst dd_147_50 ic_4 rfl) (am_rs rfl (ok_cs (M' := mi_145) dd_147_51 rfl rfl w_1152 w_1153 ⟨lk_145.1, lk_145.2.1, lk_145.2.2, by decide, by decide⟩) (am_rn rfl (am_rn rfl (am_rs rfl (ok_aload_n (k := 0) dd_147_54 rfl rfl) (am_rs rfl (ok_dup dd_147_55 rfl) (am_rz))))))))
theorem kb_147_7 : am_row mi_147 56 kr_147_7 := am_rs rfl (ok_gf dd_147_56 rfl am_ck12 (by decide) (Or.inl w_961)) (am_rn rfl (am_rn rfl (am_rs rfl (ok_iconst dd_147_59 ic_1 rfl) (am_rs rfl (ok_iadd dd_147_60 rfl) (am_rs rfl (ok_pf dd_147_61 rfl am_ck12 (by decide) (Or.inl w_961) (Or.inl rfl) rfl) (am_rn rfl (am_rn rfl (am_rz))))))))
theorem kb_147_8 : am_row mi_147 64 kr_147_8 := am_rs rfl (ok_iconst dd_147_64 ic_1 rfl) (am_rs rfl (ok_zret dd_147_65 rfl) (am_rz))
theorem ck_147 : am_rows mi_147 0 cd_147 := am_bs rfl kb_147_0 (am_bs rfl kb_147_1 (am_bs rfl kb_147_2 (am_bs rfl kb_147_3 (am_bs rfl kb_147_4 (am_bs rfl kb_147_5 (am_bs rfl kb_147_6 (am_bs rfl kb_147_7 (am_bs rfl kb_147_8 (am_bz)))))))))
/-- OverAndBackModel.readGoes()Z -/
noncomputable def kr_148_0 : List (Option am_Op) := [some (am_ald0 0 1), some (am_psh (.retAddr 1) 2), some (am_cv 139 1 12 5), none, none, some (am_br1 .eq 18 8), none, none]
noncomputable def kr_148_1 : List (Option am_Op) := [some (am_ald0 0 9), some (am_psh (.retAddr 0) 10), some (am_psh (.retAddr 0) 11), some (am_psh (.retAddr 3) 12), some (am_cv 141 3 12 15), none, none, some (am_br1 .ne 20 18)]
noncomputable def kr_148_2 : List (Option am_Op) := [none, none, some (am_psh (.retAddr 0) 19), some (am_zret), some (am_ald0 0 21), some (am_ald0 0 22), some (am_gf 12 17 25), none]
noncomputable def kr_148_3 : List (Option am_Op) := [none, some (am_psh (.retAddr 0) 26), some (am_ald 0 27), some (am_pf 12 19 0 30), none, none, some (am_psh (.retAddr 1) 31), some (am_zret)]
noncomputable def cd_148 : am_Cd := [kr_148_0, kr_148_1, kr_148_2, kr_148_3]
theorem dd_148_0 : decode prog_14_method_20_code 0 = .ok (.aload_n 0, 1) := by decide +kernel
theorem dd_148_1 : decode prog_14_method_20_code 1 = .ok (.iconst 1, 1) := by decide +kernel
theorem dd_148_2 : decode prog_14_method_20_code 2 = .ok (.invokevirtual 140, 3) := by decide +kernel
theorem dd_148_5 : decode prog_14_method_20_code 5 = .ok (.ifCond .eq 13, 3) := by decide +kernel
theorem dd_148_8 : decode prog_14_method_20_code 8 = .ok (.aload_n 0, 1) := by decide +kernel
theorem dd_148_9 : decode prog_14_method_20_code 9 = .ok (.iconst 0, 1) := by decide +kernel
theorem dd_148_10 : decode prog_14_method_20_code 10 = .ok (.iconst 0, 1) := by decide +kernel
theorem dd_148_11 : decode prog_14_method_20_code 11 = .ok (.iconst 3, 1) := by decide +kernel
theorem dd_148_12 : decode prog_14_method_20_code 12 = .ok (.invokevirtual 137, 3) := by decide +kernel
theorem dd_148_15 : decode prog_14_method_20_code 15 = .ok (.ifCond .ne 5, 3) := by decide +kernel
theorem dd_148_18 : decode prog_14_method_20_code 18 = .ok (.iconst 0, 1) := by decide +kernel
theorem dd_148_19 : decode prog_14_method_20_code 19 = .ok (.ireturn, 1) := by decide +kernel
theorem dd_148_20 : decode prog_14_method_20_code 20 = .ok (.aload_n 0, 1) := by decide +kernel
theorem dd_148_21 : decode prog_14_method_20_code 21 = .ok (.aload_n 0, 1) := by decide +kernel
theorem dd_148_22 : decode prog_14_method_20_code 22 = .ok (.getfield 53, 3) := by decide +kernel
theorem dd_148_25 : decode prog_14_method_20_code 25 = .ok (.iconst 0, 1) := by decide +kernel
theorem dd_148_26 : decode prog_14_method_20_code 26 = .ok (.iaload, 1) := by decide +kernel
theorem dd_148_27 : decode prog_14_method_20_code 27 = .ok (.putfield 146, 3) := by decide +kernel
theorem dd_148_30 : decode prog_14_method_20_code 30 = .ok (.iconst 1, 1) := by decide +kernel
theorem dd_148_31 : decode prog_14_method_20_code 31 = .ok (.ireturn, 1) := by decide +kernel
theorem kb_148_0 : am_row mi_148 0 kr_148_0 := am_rs rfl (ok_aload_n (k := 0) dd_148_0 rfl rfl) (am_rs rfl (ok_iconst dd_148_1 ic_1 rfl) (am_rs rfl (ok_cv (M' := mi_139) dd_148_2 rfl rfl w_1129 w_1131 ps_139 ⟨lk_139.1, lk_139.2.1, lk_139.2.2, by decide, by decide⟩ rfl) (am_rn rfl (am_rn rfl (am_rs rfl (ok_ifc dd_148_5 (by decide) rfl) (am_rn rfl (am_rn rfl (am_rz))))))))
theorem kb_148_1 : am_row mi_148 8 kr_148_1 := am_rs rfl (ok_aload_n (k := 0) dd_148_8 rfl rfl) (am_rs rfl (ok_iconst dd_148_9 ic_0 rfl) (am_rs rfl (ok_iconst dd_148_10 ic_0 rfl) (am_rs rfl (ok_iconst dd_148_11 ic_3 rfl) (am_rs rfl (ok_cv (M' := mi_141) dd_148_12 rfl rfl w_1136 w_1138 ps_141 ⟨lk_141.1, lk_141.2.1, lk_141.2.2, by decide, by decide⟩ rfl) (am_rn rfl (am_rn rfl (am_rs rfl (ok_ifc dd_148_15 (by decide) rfl) (am_rz))))))))
theorem kb_148_2 : am_row mi_148 16 kr_148_2 := am_rn rfl (am_rn rfl (am_rs rfl (ok_iconst dd_148_18 ic_0 rfl) (am_rs rfl (ok_zret dd_148_19 rfl) (am_rs rfl (ok_aload_n (k := 0) dd_148_20 rfl rfl) (am_rs rfl (ok_aload_n (k := 0) dd_148_21 rfl rfl) (am_rs rfl (ok_gf dd_148_22 rfl am_ck12 (by decide) (Or.inl w_952)) (am_rn rfl (am_rz))))))))
theorem kb_148_3 : am_row mi_148 24 kr_148_3 := am_rn rfl (am_rs rfl (ok_iconst dd_148_25 ic_0 rfl) (am_rs rfl (ok_iald dd_148_26 rfl) (am_rs rfl (ok_pf dd_148_27 rfl am_ck12 (by decide) (Or.inl w_954) (Or.inl rfl) rfl) (am_rn rfl (am_rn rfl (am_rs rfl (ok_iconst dd_148_30 ic_1 rfl) (am_rs rfl (ok_zret dd_148_31 rfl) (am_rz))))))))
theorem ck_148 : am_rows mi_148 0 cd_148 := am_bs rfl kb_148_0 (am_bs rfl kb_148_1 (am_bs rfl kb_148_2 (am_bs rfl kb_148_3 (am_bz))))
/-- OverAndBackModel.readRuleOf()Z -/
noncomputable def kr_149_0 : List (Option am_Op) := [some (am_ald0 0 1), some (am_gf 12 28 4), none, none, some (am_psh (.retAddr 6) 6), none, some (am_br2 .eq 50 9), none]
noncomputable def kr_149_1 : List (Option am_Op) := [none, some (am_ald0 0 10), some (am_psh (.retAddr 3) 11), some (am_cv 139 1 12 14), none, none, some (am_br1 .eq 50 17), none]
noncomputable def kr_149_2 : List (Option am_Op) := [none, some (am_ald0 0 18), some (am_psh (.retAddr 0) 19), some (am_psh (.retAddr 0) 20), some (am_psh (.retAddr 7) 22), none, some (am_cv 141 3 12 25), none]
noncomputable def kr_149_3 : List (Option am_Op) := [none, some (am_br1 .eq 50 28), none, none, some (am_ald0 0 29), some (am_psh (.retAddr 1) 30), some (am_psh (.retAddr 0) 31), some (am_psh (.retAddr 7) 33)]
noncomputable def kr_149_4 : List (Option am_Op) := [none, some (am_cv 141 3 12 36), none, none, some (am_br1 .eq 50 39), none, none, some (am_ald0 0 40)]
noncomputable def kr_149_5 : List (Option am_Op) := [some (am_psh (.retAddr 2) 41), some (am_psh (.retAddr 0) 42), some (am_psh (.retAddr 7) 44), none, some (am_cv 141 3 12 47), none, none, some (am_br1 .ne 52 50)]
noncomputable def kr_149_6 : List (Option am_Op) := [none, none, some (am_psh (.retAddr 0) 51), some (am_zret), some (am_ald0 0 53), some (am_gf 12 29 56), none, none]
noncomputable def kr_149_7 : List (Option am_Op) := [some (am_psh (.retAddr 3) 57), some (am_ald0 0 58), some (am_gf 12 28 61), none, none, some (am_bin am_mul 62), some (am_ald0 0 63), some (am_gf 12 17 66)]
noncomputable def kr_149_8 : List (Option am_Op) := [none, none, some (am_psh (.retAddr 3) 67), some (am_cs 145 4 70), none, none, some (am_ald0 0 71), some (am_dup 72)]
noncomputable def kr_149_9 : List (Option am_Op) := [some (am_gf 12 28 75), none, none, some (am_psh (.retAddr 1) 76), some (am_bin am_add 77), some (am_pf 12 28 0 80), none, none]
noncomputable def kr_149_10 : List (Option am_Op) := [some (am_psh (.retAddr 1) 81), some (am_zret)]
noncomputable def cd_149 : am_Cd := [kr_149_0, kr_149_1, kr_149_2, kr_149_3, kr_149_4, kr_149_5, kr_149_6, kr_149_7, kr_149_8, kr_149_9, kr_149_10]
theorem dd_149_0 : decode prog_14_method_25_code 0 = .ok (.aload_n 0, 1) := by decide +kernel
theorem dd_149_1 : decode prog_14_method_25_code 1 = .ok (.getfield 166, 3) := by decide +kernel
theorem dd_149_4 : decode prog_14_method_25_code 4 = .ok (.bipush 6, 2) := by decide +kernel
theorem dd_149_6 : decode prog_14_method_25_code 6 = .ok (.if_icmp .eq 44, 3) := by decide +kernel
theorem dd_149_9 : decode prog_14_method_25_code 9 = .ok (.aload_n 0, 1) := by decide +kernel
theorem dd_149_10 : decode prog_14_method_25_code 10 = .ok (.iconst 3, 1) := by decide +kernel
theorem dd_149_11 : decode prog_14_method_25_code 11 = .ok (.invokevirtual 140, 3) := by decide +kernel
theorem dd_149_14 : decode prog_14_method_25_code 14 = .ok (.ifCond .eq 36, 3) := by decide +kernel
theorem dd_149_17 : decode prog_14_method_25_code 17 = .ok (.aload_n 0, 1) := by decide +kernel
theorem dd_149_18 : decode prog_14_method_25_code 18 = .ok (.iconst 0, 1) := by decide +kernel
theorem dd_149_19 : decode prog_14_method_25_code 19 = .ok (.iconst 0, 1) := by decide +kernel
theorem dd_149_20 : decode prog_14_method_25_code 20 = .ok (.bipush 7, 2) := by decide +kernel
theorem dd_149_22 : decode prog_14_method_25_code 22 = .ok (.invokevirtual 137, 3) := by decide +kernel
theorem dd_149_25 : decode prog_14_method_25_code 25 = .ok (.ifCond .eq 25, 3) := by decide +kernel
theorem dd_149_28 : decode prog_14_method_25_code 28 = .ok (.aload_n 0, 1) := by decide +kernel
theorem dd_149_29 : decode prog_14_method_25_code 29 = .ok (.iconst 1, 1) := by decide +kernel
theorem dd_149_30 : decode prog_14_method_25_code 30 = .ok (.iconst 0, 1) := by decide +kernel
theorem dd_149_31 : decode prog_14_method_25_code 31 = .ok (.bipush 7, 2) := by decide +kernel
theorem dd_149_33 : decode prog_14_method_25_code 33 = .ok (.invokevirtual 137, 3) := by decide +kernel
theorem dd_149_36 : decode prog_14_method_25_code 36 = .ok (.ifCond .eq 14, 3) := by decide +kernel
theorem dd_149_39 : decode prog_14_method_25_code 39 = .ok (.aload_n 0, 1) := by decide +kernel
theorem dd_149_40 : decode prog_14_method_25_code 40 = .ok (.iconst 2, 1) := by decide +kernel
theorem dd_149_41 : decode prog_14_method_25_code 41 = .ok (.iconst 0, 1) := by decide +kernel
theorem dd_149_42 : decode prog_14_method_25_code 42 = .ok (.bipush 7, 2) := by decide +kernel
theorem dd_149_44 : decode prog_14_method_25_code 44 = .ok (.invokevirtual 137, 3) := by decide +kernel
theorem dd_149_47 : decode prog_14_method_25_code 47 = .ok (.ifCond .ne 5, 3) := by decide +kernel
theorem dd_149_50 : decode prog_14_method_25_code 50 = .ok (.iconst 0, 1) := by decide +kernel
theorem dd_149_51 : decode prog_14_method_25_code 51 = .ok (.ireturn, 1) := by decide +kernel
theorem dd_149_52 : decode prog_14_method_25_code 52 = .ok (.aload_n 0, 1) := by decide +kernel
theorem dd_149_53 : decode prog_14_method_25_code 53 = .ok (.getfield 68, 3) := by decide +kernel
theorem dd_149_56 : decode prog_14_method_25_code 56 = .ok (.iconst 3, 1) := by decide +kernel
theorem dd_149_57 : decode prog_14_method_25_code 57 = .ok (.aload_n 0, 1) := by decide +kernel
theorem dd_149_58 : decode prog_14_method_25_code 58 = .ok (.getfield 166, 3) := by decide +kernel
theorem dd_149_61 : decode prog_14_method_25_code 61 = .ok (.imul, 1) := by decide +kernel
theorem dd_149_62 : decode prog_14_method_25_code 62 = .ok (.aload_n 0, 1) := by decide +kernel
theorem dd_149_63 : decode prog_14_method_25_code 63 = .ok (.getfield 53, 3) := by decide +kernel
theorem dd_149_66 : decode prog_14_method_25_code 66 = .ok (.iconst 3, 1) := by decide +kernel
theorem dd_149_67 : decode prog_14_method_25_code 67 = .ok (.invokestatic 156, 3) := by decide +kernel
theorem dd_149_70 : decode prog_14_method_25_code 70 = .ok (.aload_n 0, 1) := by decide +kernel
theorem dd_149_71 : decode prog_14_method_25_code 71 = .ok (.dup, 1) := by decide +kernel
theorem dd_149_72 : decode prog_14_method_25_code 72 = .ok (.getfield 166, 3) := by decide +kernel
theorem dd_149_75 : decode prog_14_method_25_code 75 = .ok (.iconst 1, 1) := by decide +kernel
theorem dd_149_76 : decode prog_14_method_25_code 76 = .ok (.iadd, 1) := by decide +kernel
theorem dd_149_77 : decode prog_14_method_25_code 77 = .ok (.putfield 166, 3) := by decide +kernel
theorem dd_149_80 : decode prog_14_method_25_code 80 = .ok (.iconst 1, 1) := by decide +kernel
theorem dd_149_81 : decode prog_14_method_25_code 81 = .ok (.ireturn, 1) := by decide +kernel
theorem kb_149_0 : am_row mi_149 0 kr_149_0 := am_rs rfl (ok_aload_n (k := 0) dd_149_0 rfl rfl) (am_rs rfl (ok_gf dd_149_1 rfl am_ck12 (by decide) (Or.inl w_963)) (am_rn rfl (am_rn rfl (am_rs rfl (ok_bipush dd_149_4 bi_6 rfl) (am_rn rfl (am_rs rfl (ok_icmp dd_149_6 (by decide) rfl) (am_rn rfl (am_rz))))))))
theorem kb_149_1 : am_row mi_149 8 kr_149_1 := am_rn rfl (am_rs rfl (ok_aload_n (k := 0) dd_149_9 rfl rfl) (am_rs rfl (ok_iconst dd_149_10 ic_3 rfl) (am_rs rfl (ok_cv (M' := mi_139) dd_149_11 rfl rfl w_1129 w_1131 ps_139 ⟨lk_139.1, lk_139.2.1, lk_139.2.2, by decide, by decide⟩ rfl) (am_rn rfl (am_rn rfl (am_rs rfl (ok_ifc dd_149_14 (by decide) rfl) (am_rn rfl (am_rz))))))))
theorem kb_149_2 : am_row mi_149 16 kr_149_2 := am_rn rfl (am_rs rfl (ok_aload_n (k := 0) dd_149_17 rfl rfl) (am_rs rfl (ok_iconst dd_149_18 ic_0 rfl) (am_rs rfl (ok_iconst dd_149_19 ic_0 rfl) (am_rs rfl (ok_bipush dd_149_20 bi_7 rfl) (am_rn rfl (am_rs rfl (ok_cv (M' := mi_141) dd_149_22 rfl rfl w_1136 w_1138 ps_141 ⟨lk_141.1, lk_141.2.1, lk_141.2.2, by decide, by decide⟩ rfl) (am_rn rfl (am_rz))))))))
theorem kb_149_3 : am_row mi_149 24 kr_149_3 := am_rn rfl (am_rs rfl (ok_ifc dd_149_25 (by decide) rfl) (am_rn rfl (am_rn rfl (am_rs rfl (ok_aload_n (k := 0) dd_149_28 rfl rfl) (am_rs rfl (ok_iconst dd_149_29 ic_1 rfl) (am_rs rfl (ok_iconst dd_149_30 ic_0 rfl) (am_rs rfl (ok_bipush dd_149_31 bi_7 rfl) (am_rz))))))))
theorem kb_149_4 : am_row mi_149 32 kr_149_4 := am_rn rfl (am_rs rfl (ok_cv (M' := mi_141) dd_149_33 rfl rfl w_1136 w_1138 ps_141 ⟨lk_141.1, lk_141.2.1, lk_141.2.2, by decide, by decide⟩ rfl) (am_rn rfl (am_rn rfl (am_rs rfl (ok_ifc dd_149_36 (by decide) rfl) (am_rn rfl (am_rn rfl (am_rs rfl (ok_aload_n (k := 0) dd_149_39 rfl rfl) (am_rz))))))))
theorem kb_149_5 : am_row mi_149 40 kr_149_5 := am_rs rfl (ok_iconst dd_149_40 ic_2 rfl) (am_rs rfl (ok_iconst dd_149_41 ic_0 rfl) (am_rs rfl (ok_bipush dd_149_42 bi_7 rfl) (am_rn rfl (am_rs rfl (ok_cv (M' := mi_141) dd_149_44 rfl rfl w_1136 w_1138 ps_141 ⟨lk_141.1, lk_141.2.1, lk_141.2.2, by decide, by decide⟩ rfl) (am_rn rfl (am_rn rfl (am_rs rfl (ok_ifc dd_149_47 (by decide) rfl) (am_rz))))))))
theorem kb_149_6 : am_row mi_149 48 kr_149_6 := am_rn rfl (am_rn rfl (am_rs rfl (ok_iconst dd_149_50 ic_0 rfl) (am_rs rfl (ok_zret dd_149_51 rfl) (am_rs rfl (ok_aload_n (k := 0) dd_149_52 rfl rfl) (am_rs rfl (ok_gf dd_149_53 rfl am_ck12 (by decide) (Or.inl w_964)) (am_rn rfl (am_rn rfl (am_rz))))))))
theorem kb_149_7 : am_row mi_149 56 kr_149_7 := am_rs rfl (ok_iconst dd_149_56 ic_3 rfl) (am_rs rfl (ok_aload_n (k := 0) dd_149_57 rfl rfl) (am_rs rfl (ok_gf dd_149_58 rfl am_ck12 (by decide) (Or.inl w_963)) (am_rn rfl (am_rn rfl (am_rs rfl (ok_imul dd_149_61 rfl) (am_rs rfl (ok_aload_n (k := 0) dd_149_62 rfl rfl) (am_rs rfl (ok_gf dd_149_63 rfl am_ck12 (by decide) (Or.inl w_952)) (am_rz))))))))
theorem kb_149_8 : am_row mi_149 64 kr_149_8 := am_rn rfl (am_rn rfl (am_rs rfl (ok_iconst dd_149_66 ic_3 rfl) (am_rs rfl (ok_cs (M' := mi_145) dd_149_67 rfl rfl w_1152 w_1153 ⟨lk_145.1, lk_145.2.1, lk_145.2.2, by decide, by decide⟩) (am_rn rfl (am_rn rfl (am_rs rfl (ok_aload_n (k := 0) dd_149_70 rfl rfl) (am_rs rfl (ok_dup dd_149_71 rfl) (am_rz))))))))
theorem kb_149_9 : am_row mi_149 72 kr_149_9 := am_rs rfl (ok_gf dd_149_72 rfl am_ck12 (by decide) (Or.inl w_963)) (am_rn rfl (am_rn rfl (am_rs rfl (ok_iconst dd_149_75 ic_1 rfl) (am_rs rfl (ok_iadd dd_149_76 rfl) (am_rs rfl (ok_pf dd_149_77 rfl am_ck12 (by decide) (Or.inl w_963) (Or.inl rfl) rfl) (am_rn rfl (am_rn rfl (am_rz))))))))
theorem kb_149_10 : am_row mi_149 80 kr_149_10 := am_rs rfl (ok_iconst dd_149_80 ic_1 rfl) (am_rs rfl (ok_zret dd_149_81 rfl) (am_rz))
theorem ck_149 : am_rows mi_149 0 cd_149 := am_bs rfl kb_149_0 (am_bs rfl kb_149_1 (am_bs rfl kb_149_2 (am_bs rfl kb_149_3 (am_bs rfl kb_149_4 (am_bs rfl kb_149_5 (am_bs rfl kb_149_6 (am_bs rfl kb_149_7 (am_bs rfl kb_149_8 (am_bs rfl kb_149_9 (am_bs rfl kb_149_10 (am_bz)))))))))))
/-- OverAndBackModel.readWatcherOf()Z -/
noncomputable def kr_150_0 : List (Option am_Op) := [some (am_ald0 0 1), some (am_gf 12 30 4), none, none, some (am_psh (.retAddr 4) 5), some (am_br2 .eq 41 8), none, none]
noncomputable def kr_150_1 : List (Option am_Op) := [some (am_ald0 0 9), some (am_psh (.retAddr 2) 10), some (am_cv 139 1 12 13), none, none, some (am_br1 .eq 41 16), none, none]
noncomputable def kr_150_2 : List (Option am_Op) := [some (am_ald0 0 17), some (am_psh (.retAddr 0) 18), some (am_psh (.retAddr 0) 19), some (am_psh (.retAddr 3) 20), some (am_cv 141 3 12 23), none, none, some (am_br1 .eq 41 26)]
noncomputable def kr_150_3 : List (Option am_Op) := [none, none, some (am_ald0 0 27), some (am_psh (.retAddr 1) 28), some (am_psh (.retAddr 0) 29), some (am_ald0 0 30), some (am_gf 12 20 33), none]
noncomputable def kr_150_4 : List (Option am_Op) := [none, some (am_psh (.retAddr 1) 34), some (am_bin am_sub 35), some (am_cv 141 3 12 38), none, none, some (am_br1 .ne 43 41), none]
noncomputable def kr_150_5 : List (Option am_Op) := [none, some (am_psh (.retAddr 0) 42), some (am_zret), some (am_ald0 0 44), some (am_gf 12 31 47), none, none, some (am_psh (.retAddr 2) 48)]
noncomputable def kr_150_6 : List (Option am_Op) := [some (am_ald0 0 49), some (am_gf 12 30 52), none, none, some (am_bin am_mul 53), some (am_ald0 0 54), some (am_gf 12 17 57), none]
noncomputable def kr_150_7 : List (Option am_Op) := [none, some (am_psh (.retAddr 2) 58), some (am_cs 145 4 61), none, none, some (am_ald0 0 62), some (am_dup 63), some (am_gf 12 30 66)]
noncomputable def kr_150_8 : List (Option am_Op) := [none, none, some (am_psh (.retAddr 1) 67), some (am_bin am_add 68), some (am_pf 12 30 0 71), none, none, some (am_psh (.retAddr 1) 72)]
noncomputable def kr_150_9 : List (Option am_Op) := [some (am_zret)]
noncomputable def cd_150 : am_Cd := [kr_150_0, kr_150_1, kr_150_2, kr_150_3, kr_150_4, kr_150_5, kr_150_6, kr_150_7, kr_150_8, kr_150_9]
theorem dd_150_0 : decode prog_14_method_26_code 0 = .ok (.aload_n 0, 1) := by decide +kernel
theorem dd_150_1 : decode prog_14_method_26_code 1 = .ok (.getfield 169, 3) := by decide +kernel
theorem dd_150_4 : decode prog_14_method_26_code 4 = .ok (.iconst 4, 1) := by decide +kernel
theorem dd_150_5 : decode prog_14_method_26_code 5 = .ok (.if_icmp .eq 36, 3) := by decide +kernel
theorem dd_150_8 : decode prog_14_method_26_code 8 = .ok (.aload_n 0, 1) := by decide +kernel
theorem dd_150_9 : decode prog_14_method_26_code 9 = .ok (.iconst 2, 1) := by decide +kernel
theorem dd_150_10 : decode prog_14_method_26_code 10 = .ok (.invokevirtual 140, 3) := by decide +kernel
theorem dd_150_13 : decode prog_14_method_26_code 13 = .ok (.ifCond .eq 28, 3) := by decide +kernel
theorem dd_150_16 : decode prog_14_method_26_code 16 = .ok (.aload_n 0, 1) := by decide +kernel
theorem dd_150_17 : decode prog_14_method_26_code 17 = .ok (.iconst 0, 1) := by decide +kernel
theorem dd_150_18 : decode prog_14_method_26_code 18 = .ok (.iconst 0, 1) := by decide +kernel
theorem dd_150_19 : decode prog_14_method_26_code 19 = .ok (.iconst 3, 1) := by decide +kernel
theorem dd_150_20 : decode prog_14_method_26_code 20 = .ok (.invokevirtual 137, 3) := by decide +kernel
theorem dd_150_23 : decode prog_14_method_26_code 23 = .ok (.ifCond .eq 18, 3) := by decide +kernel
theorem dd_150_26 : decode prog_14_method_26_code 26 = .ok (.aload_n 0, 1) := by decide +kernel
theorem dd_150_27 : decode prog_14_method_26_code 27 = .ok (.iconst 1, 1) := by decide +kernel
theorem dd_150_28 : decode prog_14_method_26_code 28 = .ok (.iconst 0, 1) := by decide +kernel
theorem dd_150_29 : decode prog_14_method_26_code 29 = .ok (.aload_n 0, 1) := by decide +kernel
theorem dd_150_30 : decode prog_14_method_26_code 30 = .ok (.getfield 134, 3) := by decide +kernel
theorem dd_150_33 : decode prog_14_method_26_code 33 = .ok (.iconst 1, 1) := by decide +kernel
theorem dd_150_34 : decode prog_14_method_26_code 34 = .ok (.isub, 1) := by decide +kernel
theorem dd_150_35 : decode prog_14_method_26_code 35 = .ok (.invokevirtual 137, 3) := by decide +kernel
theorem dd_150_38 : decode prog_14_method_26_code 38 = .ok (.ifCond .ne 5, 3) := by decide +kernel
theorem dd_150_41 : decode prog_14_method_26_code 41 = .ok (.iconst 0, 1) := by decide +kernel
theorem dd_150_42 : decode prog_14_method_26_code 42 = .ok (.ireturn, 1) := by decide +kernel
theorem dd_150_43 : decode prog_14_method_26_code 43 = .ok (.aload_n 0, 1) := by decide +kernel
theorem dd_150_44 : decode prog_14_method_26_code 44 = .ok (.getfield 71, 3) := by decide +kernel
theorem dd_150_47 : decode prog_14_method_26_code 47 = .ok (.iconst 2, 1) := by decide +kernel
theorem dd_150_48 : decode prog_14_method_26_code 48 = .ok (.aload_n 0, 1) := by decide +kernel
theorem dd_150_49 : decode prog_14_method_26_code 49 = .ok (.getfield 169, 3) := by decide +kernel
theorem dd_150_52 : decode prog_14_method_26_code 52 = .ok (.imul, 1) := by decide +kernel
theorem dd_150_53 : decode prog_14_method_26_code 53 = .ok (.aload_n 0, 1) := by decide +kernel
theorem dd_150_54 : decode prog_14_method_26_code 54 = .ok (.getfield 53, 3) := by decide +kernel
theorem dd_150_57 : decode prog_14_method_26_code 57 = .ok (.iconst 2, 1) := by decide +kernel
theorem dd_150_58 : decode prog_14_method_26_code 58 = .ok (.invokestatic 156, 3) := by decide +kernel
theorem dd_150_61 : decode prog_14_method_26_code 61 = .ok (.aload_n 0, 1) := by decide +kernel
theorem dd_150_62 : decode prog_14_method_26_code 62 = .ok (.dup, 1) := by decide +kernel
theorem dd_150_63 : decode prog_14_method_26_code 63 = .ok (.getfield 169, 3) := by decide +kernel
theorem dd_150_66 : decode prog_14_method_26_code 66 = .ok (.iconst 1, 1) := by decide +kernel
theorem dd_150_67 : decode prog_14_method_26_code 67 = .ok (.iadd, 1) := by decide +kernel
theorem dd_150_68 : decode prog_14_method_26_code 68 = .ok (.putfield 169, 3) := by decide +kernel
theorem dd_150_71 : decode prog_14_method_26_code 71 = .ok (.iconst 1, 1) := by decide +kernel
theorem dd_150_72 : decode prog_14_method_26_code 72 = .ok (.ireturn, 1) := by decide +kernel
theorem kb_150_0 : am_row mi_150 0 kr_150_0 := am_rs rfl (ok_aload_n (k := 0) dd_150_0 rfl rfl) (am_rs rfl (ok_gf dd_150_1 rfl am_ck12 (by decide) (Or.inl w_965)) (am_rn rfl (am_rn rfl (am_rs rfl (ok_iconst dd_150_4 ic_4 rfl) (am_rs rfl (ok_icmp dd_150_5 (by decide) rfl) (am_rn rfl (am_rn rfl (am_rz))))))))
theorem kb_150_1 : am_row mi_150 8 kr_150_1 := am_rs rfl (ok_aload_n (k := 0) dd_150_8 rfl rfl) (am_rs rfl (ok_iconst dd_150_9 ic_2 rfl) (am_rs rfl (ok_cv (M' := mi_139) dd_150_10 rfl rfl w_1129 w_1131 ps_139 ⟨lk_139.1, lk_139.2.1, lk_139.2.2, by decide, by decide⟩ rfl) (am_rn rfl (am_rn rfl (am_rs rfl (ok_ifc dd_150_13 (by decide) rfl) (am_rn rfl (am_rn rfl (am_rz))))))))
theorem kb_150_2 : am_row mi_150 16 kr_150_2 := am_rs rfl (ok_aload_n (k := 0) dd_150_16 rfl rfl) (am_rs rfl (ok_iconst dd_150_17 ic_0 rfl) (am_rs rfl (ok_iconst dd_150_18 ic_0 rfl) (am_rs rfl (ok_iconst dd_150_19 ic_3 rfl) (am_rs rfl (ok_cv (M' := mi_141) dd_150_20 rfl rfl w_1136 w_1138 ps_141 ⟨lk_141.1, lk_141.2.1, lk_141.2.2, by decide, by decide⟩ rfl) (am_rn rfl (am_rn rfl (am_rs rfl (ok_ifc dd_150_23 (by decide) rfl) (am_rz))))))))
theorem kb_150_3 : am_row mi_150 24 kr_150_3 := am_rn rfl (am_rn rfl (am_rs rfl (ok_aload_n (k := 0) dd_150_26 rfl rfl) (am_rs rfl (ok_iconst dd_150_27 ic_1 rfl) (am_rs rfl (ok_iconst dd_150_28 ic_0 rfl) (am_rs rfl (ok_aload_n (k := 0) dd_150_29 rfl rfl) (am_rs rfl (ok_gf dd_150_30 rfl am_ck12 (by decide) (Or.inl w_955)) (am_rn rfl (am_rz))))))))
theorem kb_150_4 : am_row mi_150 32 kr_150_4 := am_rn rfl (am_rs rfl (ok_iconst dd_150_33 ic_1 rfl) (am_rs rfl (ok_isub dd_150_34 rfl) (am_rs rfl (ok_cv (M' := mi_141) dd_150_35 rfl rfl w_1136 w_1138 ps_141 ⟨lk_141.1, lk_141.2.1, lk_141.2.2, by decide, by decide⟩ rfl) (am_rn rfl (am_rn rfl (am_rs rfl (ok_ifc dd_150_38 (by decide) rfl) (am_rn rfl (am_rz))))))))
theorem kb_150_5 : am_row mi_150 40 kr_150_5 := am_rn rfl (am_rs rfl (ok_iconst dd_150_41 ic_0 rfl) (am_rs rfl (ok_zret dd_150_42 rfl) (am_rs rfl (ok_aload_n (k := 0) dd_150_43 rfl rfl) (am_rs rfl (ok_gf dd_150_44 rfl am_ck12 (by decide) (Or.inl w_966)) (am_rn rfl (am_rn rfl (am_rs rfl (ok_iconst dd_150_47 ic_2 rfl) (am_rz))))))))
theorem kb_150_6 : am_row mi_150 48 kr_150_6 := am_rs rfl (ok_aload_n (k := 0) dd_150_48 rfl rfl) (am_rs rfl (ok_gf dd_150_49 rfl am_ck12 (by decide) (Or.inl w_965)) (am_rn rfl (am_rn rfl (am_rs rfl (ok_imul dd_150_52 rfl) (am_rs rfl (ok_aload_n (k := 0) dd_150_53 rfl rfl) (am_rs rfl (ok_gf dd_150_54 rfl am_ck12 (by decide) (Or.inl w_952)) (am_rn rfl (am_rz))))))))
theorem kb_150_7 : am_row mi_150 56 kr_150_7 := am_rn rfl (am_rs rfl (ok_iconst dd_150_57 ic_2 rfl) (am_rs rfl (ok_cs (M' := mi_145) dd_150_58 rfl rfl w_1152 w_1153 ⟨lk_145.1, lk_145.2.1, lk_145.2.2, by decide, by decide⟩) (am_rn rfl (am_rn rfl (am_rs rfl (ok_aload_n (k := 0) dd_150_61 rfl rfl) (am_rs rfl (ok_dup dd_150_62 rfl) (am_rs rfl (ok_gf dd_150_63 rfl am_ck12 (by decide) (Or.inl w_965)) (am_rz))))))))
theorem kb_150_8 : am_row mi_150 64 kr_150_8 := am_rn rfl (am_rn rfl (am_rs rfl (ok_iconst dd_150_66 ic_1 rfl) (am_rs rfl (ok_iadd dd_150_67 rfl) (am_rs rfl (ok_pf dd_150_68 rfl am_ck12 (by decide) (Or.inl w_965) (Or.inl rfl) rfl) (am_rn rfl (am_rn rfl (am_rs rfl (ok_iconst dd_150_71 ic_1 rfl) (am_rz))))))))
theorem kb_150_9 : am_row mi_150 72 kr_150_9 := am_rs rfl (ok_zret dd_150_72 rfl) (am_rz)
theorem ck_150 : am_rows mi_150 0 cd_150 := am_bs rfl kb_150_0 (am_bs rfl kb_150_1 (am_bs rfl kb_150_2 (am_bs rfl kb_150_3 (am_bs rfl kb_150_4 (am_bs rfl kb_150_5 (am_bs rfl kb_150_6 (am_bs rfl kb_150_7 (am_bs rfl kb_150_8 (am_bs rfl kb_150_9 (am_bz))))))))))
/-- OverAndBackModel.lay()I -/
noncomputable def kr_151_0 : List (Option am_Op) := [some (am_ald0 0 1), some (am_cv 135 0 12 4), none, none, some (am_psh (.retAddr 4294967292) 6), none, some (am_br2 .ne 16 9), none]
noncomputable def kr_151_1 : List (Option am_Op) := [none, some (am_ald0 0 10), some (am_gf 12 20 13), none, none, some (am_br1 .ne 19 16), none, none]
noncomputable def kr_151_2 : List (Option am_Op) := [some (am_psh (.retAddr 4294967294) 18), none, some (am_iret), some (am_ald0 0 20), some (am_ald0 0 21), some (am_gf 12 18 24), none, none]
noncomputable def kr_151_3 : List (Option am_Op) := [some (am_pf 12 0 0 27), none, none, some (am_ald0 0 28), some (am_ald0 0 29), some (am_gf 12 19 32), none, none]
noncomputable def kr_151_4 : List (Option am_Op) := [some (am_pf 12 1 0 35), none, none, some (am_ald0 0 36), some (am_ald0 0 37), some (am_gf 12 20 40), none, none]
noncomputable def kr_151_5 : List (Option am_Op) := [some (am_pf 12 2 0 43), none, none, some (am_ald0 0 44), some (am_ald0 0 45), some (am_gf 12 22 48), none, none]
noncomputable def kr_151_6 : List (Option am_Op) := [some (am_pf 12 4 0 51), none, none, some (am_ald0 0 52), some (am_ald0 0 53), some (am_gf 12 24 56), none, none]
noncomputable def kr_151_7 : List (Option am_Op) := [some (am_pf 12 6 0 59), none, none, some (am_ald0 0 60), some (am_ald0 0 61), some (am_gf 12 26 64), none, none]
noncomputable def kr_151_8 : List (Option am_Op) := [some (am_pf 12 8 0 67), none, none, some (am_ald0 0 68), some (am_ald0 0 69), some (am_gf 12 28 72), none, none]
noncomputable def kr_151_9 : List (Option am_Op) := [some (am_pf 12 10 0 75), none, none, some (am_ald0 0 76), some (am_ald0 0 77), some (am_gf 12 30 80), none, none]
noncomputable def kr_151_10 : List (Option am_Op) := [some (am_pf 12 12 0 83), none, none, some (am_ald0 0 84), some (am_gf 12 3 87), none, none, some (am_psh (.retAddr 0) 88)]
noncomputable def kr_151_11 : List (Option am_Op) := [some (am_ald0 0 89), some (am_gf 12 21 92), none, none, some (am_psh (.retAddr 4) 93), some (am_cs 145 4 96), none, none]
noncomputable def kr_151_12 : List (Option am_Op) := [some (am_ald0 0 97), some (am_gf 12 5 100), none, none, some (am_psh (.retAddr 0) 101), some (am_ald0 0 102), some (am_gf 12 23 105), none]
noncomputable def kr_151_13 : List (Option am_Op) := [none, some (am_psh (.retAddr 45) 107), none, some (am_cs 145 4 110), none, none, some (am_ald0 0 111), some (am_gf 12 7 114)]
noncomputable def kr_151_14 : List (Option am_Op) := [none, none, some (am_psh (.retAddr 0) 115), some (am_ald0 0 116), some (am_gf 12 25 119), none, none, some (am_psh (.retAddr 18) 121)]
noncomputable def kr_151_15 : List (Option am_Op) := [none, some (am_cs 145 4 124), none, none, some (am_ald0 0 125), some (am_gf 12 9 128), none, none]
noncomputable def kr_151_16 : List (Option am_Op) := [some (am_psh (.retAddr 0) 129), some (am_ald0 0 130), some (am_gf 12 27 133), none, none, some (am_psh (.retAddr 16) 135), none, some (am_cs 145 4 138)]
noncomputable def kr_151_17 : List (Option am_Op) := [none, none, some (am_ald0 0 139), some (am_gf 12 11 142), none, none, some (am_psh (.retAddr 0) 143), some (am_ald0 0 144)]
noncomputable def kr_151_18 : List (Option am_Op) := [some (am_gf 12 29 147), none, none, some (am_psh (.retAddr 18) 149), none, some (am_cs 145 4 152), none, none]
noncomputable def kr_151_19 : List (Option am_Op) := [some (am_ald0 0 153), some (am_gf 12 13 156), none, none, some (am_psh (.retAddr 0) 157), some (am_ald0 0 158), some (am_gf 12 31 161), none]
noncomputable def kr_151_20 : List (Option am_Op) := [none, some (am_psh (.retAddr 8) 163), none, some (am_cs 145 4 166), none, none, some (am_ald0 0 167), some (am_psh (.retAddr 0) 168)]
noncomputable def kr_151_21 : List (Option am_Op) := [some (am_pf 12 39 0 171), none, none, some (am_ald0 0 172), some (am_psh (.retAddr 0) 173), some (am_pf 12 40 0 176), none, none]
noncomputable def kr_151_22 : List (Option am_Op) := [some (am_ald0 0 177), some (am_psh (.retAddr 0) 178), some (am_pf 12 42 0 181), none, none, some (am_ald0 0 182), some (am_psh (.retAddr 0) 183), some (am_pf 12 53 0 186)]
noncomputable def kr_151_23 : List (Option am_Op) := [none, none, some (am_ald0 0 187), some (am_gf 12 2 190), none, none, some (am_iret)]
noncomputable def cd_151 : am_Cd := [kr_151_0, kr_151_1, kr_151_2, kr_151_3, kr_151_4, kr_151_5, kr_151_6, kr_151_7, kr_151_8, kr_151_9, kr_151_10, kr_151_11, kr_151_12, kr_151_13, kr_151_14, kr_151_15, kr_151_16, kr_151_17, kr_151_18, kr_151_19, kr_151_20, kr_151_21, kr_151_22, kr_151_23]
theorem dd_151_0 : decode prog_14_method_29_code 0 = .ok (.aload_n 0, 1) := by decide +kernel
theorem dd_151_1 : decode prog_14_method_29_code 1 = .ok (.invokevirtual 197, 3) := by decide +kernel
theorem dd_151_4 : decode prog_14_method_29_code 4 = .ok (.bipush (-4), 2) := by decide +kernel
theorem dd_151_6 : decode prog_14_method_29_code 6 = .ok (.if_icmp .ne 10, 3) := by decide +kernel
theorem dd_151_9 : decode prog_14_method_29_code 9 = .ok (.aload_n 0, 1) := by decide +kernel
theorem dd_151_10 : decode prog_14_method_29_code 10 = .ok (.getfield 134, 3) := by decide +kernel
theorem dd_151_13 : decode prog_14_method_29_code 13 = .ok (.ifCond .ne 6, 3) := by decide +kernel
theorem dd_151_16 : decode prog_14_method_29_code 16 = .ok (.bipush (-2), 2) := by decide +kernel
theorem dd_151_18 : decode prog_14_method_29_code 18 = .ok (.ireturn, 1) := by decide +kernel
theorem dd_151_19 : decode prog_14_method_29_code 19 = .ok (.aload_n 0, 1) := by decide +kernel
theorem dd_151_20 : decode prog_14_method_29_code 20 = .ok (.aload_n 0, 1) := by decide +kernel
theorem dd_151_21 : decode prog_14_method_29_code 21 = .ok (.getfield 143, 3) := by decide +kernel
theorem dd_151_24 : decode prog_14_method_29_code 24 = .ok (.putfield 7, 3) := by decide +kernel
theorem dd_151_27 : decode prog_14_method_29_code 27 = .ok (.aload_n 0, 1) := by decide +kernel
theorem dd_151_28 : decode prog_14_method_29_code 28 = .ok (.aload_n 0, 1) := by decide +kernel
theorem dd_151_29 : decode prog_14_method_29_code 29 = .ok (.getfield 146, 3) := by decide +kernel
theorem dd_151_32 : decode prog_14_method_29_code 32 = .ok (.putfield 13, 3) := by decide +kernel
theorem dd_151_35 : decode prog_14_method_29_code 35 = .ok (.aload_n 0, 1) := by decide +kernel
theorem dd_151_36 : decode prog_14_method_29_code 36 = .ok (.aload_n 0, 1) := by decide +kernel
theorem dd_151_37 : decode prog_14_method_29_code 37 = .ok (.getfield 134, 3) := by decide +kernel
theorem dd_151_40 : decode prog_14_method_29_code 40 = .ok (.putfield 16, 3) := by decide +kernel
theorem dd_151_43 : decode prog_14_method_29_code 43 = .ok (.aload_n 0, 1) := by decide +kernel
theorem dd_151_44 : decode prog_14_method_29_code 44 = .ok (.aload_n 0, 1) := by decide +kernel
theorem dd_151_45 : decode prog_14_method_29_code 45 = .ok (.getfield 149, 3) := by decide +kernel
theorem dd_151_48 : decode prog_14_method_29_code 48 = .ok (.putfield 23, 3) := by decide +kernel
theorem dd_151_51 : decode prog_14_method_29_code 51 = .ok (.aload_n 0, 1) := by decide +kernel
theorem dd_151_52 : decode prog_14_method_29_code 52 = .ok (.aload_n 0, 1) := by decide +kernel
theorem dd_151_53 : decode prog_14_method_29_code 53 = .ok (.getfield 160, 3) := by decide +kernel
theorem dd_151_56 : decode prog_14_method_29_code 56 = .ok (.putfield 29, 3) := by decide +kernel
theorem dd_151_59 : decode prog_14_method_29_code 59 = .ok (.aload_n 0, 1) := by decide +kernel
theorem dd_151_60 : decode prog_14_method_29_code 60 = .ok (.aload_n 0, 1) := by decide +kernel
theorem dd_151_61 : decode prog_14_method_29_code 61 = .ok (.getfield 163, 3) := by decide +kernel
theorem dd_151_64 : decode prog_14_method_29_code 64 = .ok (.putfield 201, 3) := by decide +kernel
theorem dd_151_67 : decode prog_14_method_29_code 67 = .ok (.aload_n 0, 1) := by decide +kernel
theorem dd_151_68 : decode prog_14_method_29_code 68 = .ok (.aload_n 0, 1) := by decide +kernel
theorem dd_151_69 : decode prog_14_method_29_code 69 = .ok (.getfield 166, 3) := by decide +kernel
theorem dd_151_72 : decode prog_14_method_29_code 72 = .ok (.putfield 38, 3) := by decide +kernel
theorem dd_151_75 : decode prog_14_method_29_code 75 = .ok (.aload_n 0, 1) := by decide +kernel
theorem dd_151_76 : decode prog_14_method_29_code 76 = .ok (.aload_n 0, 1) := by decide +kernel
theorem dd_151_77 : decode prog_14_method_29_code 77 = .ok (.getfield 169, 3) := by decide +kernel
theorem dd_151_80 : decode prog_14_method_29_code 80 = .ok (.putfield 44, 3) := by decide +kernel
theorem dd_151_83 : decode prog_14_method_29_code 83 = .ok (.aload_n 0, 1) := by decide +kernel
theorem dd_151_84 : decode prog_14_method_29_code 84 = .ok (.getfield 19, 3) := by decide +kernel
theorem dd_151_87 : decode prog_14_method_29_code 87 = .ok (.iconst 0, 1) := by decide +kernel
theorem dd_151_88 : decode prog_14_method_29_code 88 = .ok (.aload_n 0, 1) := by decide +kernel
theorem dd_151_89 : decode prog_14_method_29_code 89 = .ok (.getfield 56, 3) := by decide +kernel
theorem dd_151_92 : decode prog_14_method_29_code 92 = .ok (.iconst 4, 1) := by decide +kernel
theorem dd_151_93 : decode prog_14_method_29_code 93 = .ok (.invokestatic 156, 3) := by decide +kernel
theorem dd_151_96 : decode prog_14_method_29_code 96 = .ok (.aload_n 0, 1) := by decide +kernel
theorem dd_151_97 : decode prog_14_method_29_code 97 = .ok (.getfield 26, 3) := by decide +kernel
theorem dd_151_100 : decode prog_14_method_29_code 100 = .ok (.iconst 0, 1) := by decide +kernel
theorem dd_151_101 : decode prog_14_method_29_code 101 = .ok (.aload_n 0, 1) := by decide +kernel
theorem dd_151_102 : decode prog_14_method_29_code 102 = .ok (.getfield 59, 3) := by decide +kernel
theorem dd_151_105 : decode prog_14_method_29_code 105 = .ok (.bipush 45, 2) := by decide +kernel
theorem dd_151_107 : decode prog_14_method_29_code 107 = .ok (.invokestatic 156, 3) := by decide +kernel
theorem dd_151_110 : decode prog_14_method_29_code 110 = .ok (.aload_n 0, 1) := by decide +kernel
theorem dd_151_111 : decode prog_14_method_29_code 111 = .ok (.getfield 32, 3) := by decide +kernel
theorem dd_151_114 : decode prog_14_method_29_code 114 = .ok (.iconst 0, 1) := by decide +kernel
theorem dd_151_115 : decode prog_14_method_29_code 115 = .ok (.aload_n 0, 1) := by decide +kernel
theorem dd_151_116 : decode prog_14_method_29_code 116 = .ok (.getfield 62, 3) := by decide +kernel
theorem dd_151_119 : decode prog_14_method_29_code 119 = .ok (.bipush 18, 2) := by decide +kernel
theorem dd_151_121 : decode prog_14_method_29_code 121 = .ok (.invokestatic 156, 3) := by decide +kernel
theorem dd_151_124 : decode prog_14_method_29_code 124 = .ok (.aload_n 0, 1) := by decide +kernel
theorem dd_151_125 : decode prog_14_method_29_code 125 = .ok (.getfield 35, 3) := by decide +kernel
theorem dd_151_128 : decode prog_14_method_29_code 128 = .ok (.iconst 0, 1) := by decide +kernel
theorem dd_151_129 : decode prog_14_method_29_code 129 = .ok (.aload_n 0, 1) := by decide +kernel
theorem dd_151_130 : decode prog_14_method_29_code 130 = .ok (.getfield 65, 3) := by decide +kernel
theorem dd_151_133 : decode prog_14_method_29_code 133 = .ok (.bipush 16, 2) := by decide +kernel
theorem dd_151_135 : decode prog_14_method_29_code 135 = .ok (.invokestatic 156, 3) := by decide +kernel
theorem dd_151_138 : decode prog_14_method_29_code 138 = .ok (.aload_n 0, 1) := by decide +kernel
theorem dd_151_139 : decode prog_14_method_29_code 139 = .ok (.getfield 41, 3) := by decide +kernel
theorem dd_151_142 : decode prog_14_method_29_code 142 = .ok (.iconst 0, 1) := by decide +kernel
theorem dd_151_143 : decode prog_14_method_29_code 143 = .ok (.aload_n 0, 1) := by decide +kernel
theorem dd_151_144 : decode prog_14_method_29_code 144 = .ok (.getfield 68, 3) := by decide +kernel
theorem dd_151_147 : decode prog_14_method_29_code 147 = .ok (.bipush 18, 2) := by decide +kernel
theorem dd_151_149 : decode prog_14_method_29_code 149 = .ok (.invokestatic 156, 3) := by decide +kernel
theorem dd_151_152 : decode prog_14_method_29_code 152 = .ok (.aload_n 0, 1) := by decide +kernel
theorem dd_151_153 : decode prog_14_method_29_code 153 = .ok (.getfield 47, 3) := by decide +kernel
theorem dd_151_156 : decode prog_14_method_29_code 156 = .ok (.iconst 0, 1) := by decide +kernel
theorem dd_151_157 : decode prog_14_method_29_code 157 = .ok (.aload_n 0, 1) := by decide +kernel
theorem dd_151_158 : decode prog_14_method_29_code 158 = .ok (.getfield 71, 3) := by decide +kernel
theorem dd_151_161 : decode prog_14_method_29_code 161 = .ok (.bipush 8, 2) := by decide +kernel
theorem dd_151_163 : decode prog_14_method_29_code 163 = .ok (.invokestatic 156, 3) := by decide +kernel
theorem dd_151_166 : decode prog_14_method_29_code 166 = .ok (.aload_n 0, 1) := by decide +kernel
theorem dd_151_167 : decode prog_14_method_29_code 167 = .ok (.iconst 0, 1) := by decide +kernel
theorem dd_151_168 : decode prog_14_method_29_code 168 = .ok (.putfield 204, 3) := by decide +kernel
theorem dd_151_171 : decode prog_14_method_29_code 171 = .ok (.aload_n 0, 1) := by decide +kernel
theorem dd_151_172 : decode prog_14_method_29_code 172 = .ok (.iconst 0, 1) := by decide +kernel
theorem dd_151_173 : decode prog_14_method_29_code 173 = .ok (.putfield 207, 3) := by decide +kernel
theorem dd_151_176 : decode prog_14_method_29_code 176 = .ok (.aload_n 0, 1) := by decide +kernel
theorem dd_151_177 : decode prog_14_method_29_code 177 = .ok (.iconst 0, 1) := by decide +kernel
theorem dd_151_178 : decode prog_14_method_29_code 178 = .ok (.putfield 210, 3) := by decide +kernel
theorem dd_151_181 : decode prog_14_method_29_code 181 = .ok (.aload_n 0, 1) := by decide +kernel
theorem dd_151_182 : decode prog_14_method_29_code 182 = .ok (.iconst 0, 1) := by decide +kernel
theorem dd_151_183 : decode prog_14_method_29_code 183 = .ok (.putfield 213, 3) := by decide +kernel
theorem dd_151_186 : decode prog_14_method_29_code 186 = .ok (.aload_n 0, 1) := by decide +kernel
theorem dd_151_187 : decode prog_14_method_29_code 187 = .ok (.getfield 16, 3) := by decide +kernel
theorem dd_151_190 : decode prog_14_method_29_code 190 = .ok (.ireturn, 1) := by decide +kernel
theorem kb_151_0 : am_row mi_151 0 kr_151_0 := am_rs rfl (ok_aload_n (k := 0) dd_151_0 rfl rfl) (am_rs rfl (ok_cv (M' := mi_135) dd_151_1 rfl rfl w_1179 w_1114 w_1115 ⟨lk_135.1, lk_135.2.1, lk_135.2.2, by decide, by decide⟩ rfl) (am_rn rfl (am_rn rfl (am_rs rfl (ok_bipush dd_151_4 bi_m4 rfl) (am_rn rfl (am_rs rfl (ok_icmp dd_151_6 (by decide) rfl) (am_rn rfl (am_rz))))))))
theorem kb_151_1 : am_row mi_151 8 kr_151_1 := am_rn rfl (am_rs rfl (ok_aload_n (k := 0) dd_151_9 rfl rfl) (am_rs rfl (ok_gf dd_151_10 rfl am_ck12 (by decide) (Or.inl w_955)) (am_rn rfl (am_rn rfl (am_rs rfl (ok_ifc dd_151_13 (by decide) rfl) (am_rn rfl (am_rn rfl (am_rz))))))))
theorem kb_151_2 : am_row mi_151 16 kr_151_2 := am_rs rfl (ok_bipush dd_151_16 bi_m2 rfl) (am_rn rfl (am_rs rfl (ok_iret dd_151_18 rfl) (am_rs rfl (ok_aload_n (k := 0) dd_151_19 rfl rfl) (am_rs rfl (ok_aload_n (k := 0) dd_151_20 rfl rfl) (am_rs rfl (ok_gf dd_151_21 rfl am_ck12 (by decide) (Or.inl w_953)) (am_rn rfl (am_rn rfl (am_rz))))))))
theorem kb_151_3 : am_row mi_151 24 kr_151_3 := am_rs rfl (ok_pf dd_151_24 rfl am_ck12 (by decide) (Or.inl w_935) (Or.inl rfl) rfl) (am_rn rfl (am_rn rfl (am_rs rfl (ok_aload_n (k := 0) dd_151_27 rfl rfl) (am_rs rfl (ok_aload_n (k := 0) dd_151_28 rfl rfl) (am_rs rfl (ok_gf dd_151_29 rfl am_ck12 (by decide) (Or.inl w_954)) (am_rn rfl (am_rn rfl (am_rz))))))))
theorem kb_151_4 : am_row mi_151 32 kr_151_4 := am_rs rfl (ok_pf dd_151_32 rfl am_ck12 (by decide) (Or.inl w_936) (Or.inl rfl) rfl) (am_rn rfl (am_rn rfl (am_rs rfl (ok_aload_n (k := 0) dd_151_35 rfl rfl) (am_rs rfl (ok_aload_n (k := 0) dd_151_36 rfl rfl) (am_rs rfl (ok_gf dd_151_37 rfl am_ck12 (by decide) (Or.inl w_955)) (am_rn rfl (am_rn rfl (am_rz))))))))
theorem kb_151_5 : am_row mi_151 40 kr_151_5 := am_rs rfl (ok_pf dd_151_40 rfl am_ck12 (by decide) (Or.inl w_937) (Or.inl rfl) rfl) (am_rn rfl (am_rn rfl (am_rs rfl (ok_aload_n (k := 0) dd_151_43 rfl rfl) (am_rs rfl (ok_aload_n (k := 0) dd_151_44 rfl rfl) (am_rs rfl (ok_gf dd_151_45 rfl am_ck12 (by decide) (Or.inl w_957)) (am_rn rfl (am_rn rfl (am_rz))))))))
theorem kb_151_6 : am_row mi_151 48 kr_151_6 := am_rs rfl (ok_pf dd_151_48 rfl am_ck12 (by decide) (Or.inl w_939) (Or.inl rfl) rfl) (am_rn rfl (am_rn rfl (am_rs rfl (ok_aload_n (k := 0) dd_151_51 rfl rfl) (am_rs rfl (ok_aload_n (k := 0) dd_151_52 rfl rfl) (am_rs rfl (ok_gf dd_151_53 rfl am_ck12 (by decide) (Or.inl w_959)) (am_rn rfl (am_rn rfl (am_rz))))))))
theorem kb_151_7 : am_row mi_151 56 kr_151_7 := am_rs rfl (ok_pf dd_151_56 rfl am_ck12 (by decide) (Or.inl w_941) (Or.inl rfl) rfl) (am_rn rfl (am_rn rfl (am_rs rfl (ok_aload_n (k := 0) dd_151_59 rfl rfl) (am_rs rfl (ok_aload_n (k := 0) dd_151_60 rfl rfl) (am_rs rfl (ok_gf dd_151_61 rfl am_ck12 (by decide) (Or.inl w_961)) (am_rn rfl (am_rn rfl (am_rz))))))))
theorem kb_151_8 : am_row mi_151 64 kr_151_8 := am_rs rfl (ok_pf dd_151_64 rfl am_ck12 (by decide) (Or.inl w_943) (Or.inl rfl) rfl) (am_rn rfl (am_rn rfl (am_rs rfl (ok_aload_n (k := 0) dd_151_67 rfl rfl) (am_rs rfl (ok_aload_n (k := 0) dd_151_68 rfl rfl) (am_rs rfl (ok_gf dd_151_69 rfl am_ck12 (by decide) (Or.inl w_963)) (am_rn rfl (am_rn rfl (am_rz))))))))
theorem kb_151_9 : am_row mi_151 72 kr_151_9 := am_rs rfl (ok_pf dd_151_72 rfl am_ck12 (by decide) (Or.inl w_945) (Or.inl rfl) rfl) (am_rn rfl (am_rn rfl (am_rs rfl (ok_aload_n (k := 0) dd_151_75 rfl rfl) (am_rs rfl (ok_aload_n (k := 0) dd_151_76 rfl rfl) (am_rs rfl (ok_gf dd_151_77 rfl am_ck12 (by decide) (Or.inl w_965)) (am_rn rfl (am_rn rfl (am_rz))))))))
theorem kb_151_10 : am_row mi_151 80 kr_151_10 := am_rs rfl (ok_pf dd_151_80 rfl am_ck12 (by decide) (Or.inl w_947) (Or.inl rfl) rfl) (am_rn rfl (am_rn rfl (am_rs rfl (ok_aload_n (k := 0) dd_151_83 rfl rfl) (am_rs rfl (ok_gf dd_151_84 rfl am_ck12 (by decide) (Or.inl w_938)) (am_rn rfl (am_rn rfl (am_rs rfl (ok_iconst dd_151_87 ic_0 rfl) (am_rz))))))))
theorem kb_151_11 : am_row mi_151 88 kr_151_11 := am_rs rfl (ok_aload_n (k := 0) dd_151_88 rfl rfl) (am_rs rfl (ok_gf dd_151_89 rfl am_ck12 (by decide) (Or.inl w_956)) (am_rn rfl (am_rn rfl (am_rs rfl (ok_iconst dd_151_92 ic_4 rfl) (am_rs rfl (ok_cs (M' := mi_145) dd_151_93 rfl rfl w_1152 w_1153 ⟨lk_145.1, lk_145.2.1, lk_145.2.2, by decide, by decide⟩) (am_rn rfl (am_rn rfl (am_rz))))))))
theorem kb_151_12 : am_row mi_151 96 kr_151_12 := am_rs rfl (ok_aload_n (k := 0) dd_151_96 rfl rfl) (am_rs rfl (ok_gf dd_151_97 rfl am_ck12 (by decide) (Or.inl w_940)) (am_rn rfl (am_rn rfl (am_rs rfl (ok_iconst dd_151_100 ic_0 rfl) (am_rs rfl (ok_aload_n (k := 0) dd_151_101 rfl rfl) (am_rs rfl (ok_gf dd_151_102 rfl am_ck12 (by decide) (Or.inl w_958)) (am_rn rfl (am_rz))))))))
theorem kb_151_13 : am_row mi_151 104 kr_151_13 := am_rn rfl (am_rs rfl (ok_bipush dd_151_105 bi_45 rfl) (am_rn rfl (am_rs rfl (ok_cs (M' := mi_145) dd_151_107 rfl rfl w_1152 w_1153 ⟨lk_145.1, lk_145.2.1, lk_145.2.2, by decide, by decide⟩) (am_rn rfl (am_rn rfl (am_rs rfl (ok_aload_n (k := 0) dd_151_110 rfl rfl) (am_rs rfl (ok_gf dd_151_111 rfl am_ck12 (by decide) (Or.inl w_942)) (am_rz))))))))
theorem kb_151_14 : am_row mi_151 112 kr_151_14 := am_rn rfl (am_rn rfl (am_rs rfl (ok_iconst dd_151_114 ic_0 rfl) (am_rs rfl (ok_aload_n (k := 0) dd_151_115 rfl rfl) (am_rs rfl (ok_gf dd_151_116 rfl am_ck12 (by decide) (Or.inl w_960)) (am_rn rfl (am_rn rfl (am_rs rfl (ok_bipush dd_151_119 bi_18 rfl) (am_rz))))))))
theorem kb_151_15 : am_row mi_151 120 kr_151_15 := am_rn rfl (am_rs rfl (ok_cs (M' := mi_145) dd_151_121 rfl rfl w_1152 w_1153 ⟨lk_145.1, lk_145.2.1, lk_145.2.2, by decide, by decide⟩) (am_rn rfl (am_rn rfl (am_rs rfl (ok_aload_n (k := 0) dd_151_124 rfl rfl) (am_rs rfl (ok_gf dd_151_125 rfl am_ck12 (by decide) (Or.inl w_944)) (am_rn rfl (am_rn rfl (am_rz))))))))
theorem kb_151_16 : am_row mi_151 128 kr_151_16 := am_rs rfl (ok_iconst dd_151_128 ic_0 rfl) (am_rs rfl (ok_aload_n (k := 0) dd_151_129 rfl rfl) (am_rs rfl (ok_gf dd_151_130 rfl am_ck12 (by decide) (Or.inl w_962)) (am_rn rfl (am_rn rfl (am_rs rfl (ok_bipush dd_151_133 bi_16 rfl) (am_rn rfl (am_rs rfl (ok_cs (M' := mi_145) dd_151_135 rfl rfl w_1152 w_1153 ⟨lk_145.1, lk_145.2.1, lk_145.2.2, by decide, by decide⟩) (am_rz))))))))
theorem kb_151_17 : am_row mi_151 136 kr_151_17 := am_rn rfl (am_rn rfl (am_rs rfl (ok_aload_n (k := 0) dd_151_138 rfl rfl) (am_rs rfl (ok_gf dd_151_139 rfl am_ck12 (by decide) (Or.inl w_946)) (am_rn rfl (am_rn rfl (am_rs rfl (ok_iconst dd_151_142 ic_0 rfl) (am_rs rfl (ok_aload_n (k := 0) dd_151_143 rfl rfl) (am_rz))))))))
theorem kb_151_18 : am_row mi_151 144 kr_151_18 := am_rs rfl (ok_gf dd_151_144 rfl am_ck12 (by decide) (Or.inl w_964)) (am_rn rfl (am_rn rfl (am_rs rfl (ok_bipush dd_151_147 bi_18 rfl) (am_rn rfl (am_rs rfl (ok_cs (M' := mi_145) dd_151_149 rfl rfl w_1152 w_1153 ⟨lk_145.1, lk_145.2.1, lk_145.2.2, by decide, by decide⟩) (am_rn rfl (am_rn rfl (am_rz))))))))
theorem kb_151_19 : am_row mi_151 152 kr_151_19 := am_rs rfl (ok_aload_n (k := 0) dd_151_152 rfl rfl) (am_rs rfl (ok_gf dd_151_153 rfl am_ck12 (by decide) (Or.inl w_948)) (am_rn rfl (am_rn rfl (am_rs rfl (ok_iconst dd_151_156 ic_0 rfl) (am_rs rfl (ok_aload_n (k := 0) dd_151_157 rfl rfl) (am_rs rfl (ok_gf dd_151_158 rfl am_ck12 (by decide) (Or.inl w_966)) (am_rn rfl (am_rz))))))))
theorem kb_151_20 : am_row mi_151 160 kr_151_20 := am_rn rfl (am_rs rfl (ok_bipush dd_151_161 bi_8 rfl) (am_rn rfl (am_rs rfl (ok_cs (M' := mi_145) dd_151_163 rfl rfl w_1152 w_1153 ⟨lk_145.1, lk_145.2.1, lk_145.2.2, by decide, by decide⟩) (am_rn rfl (am_rn rfl (am_rs rfl (ok_aload_n (k := 0) dd_151_166 rfl rfl) (am_rs rfl (ok_iconst dd_151_167 ic_0 rfl) (am_rz))))))))
theorem kb_151_21 : am_row mi_151 168 kr_151_21 := am_rs rfl (ok_pf dd_151_168 rfl am_ck12 (by decide) (Or.inl w_974) (Or.inl rfl) rfl) (am_rn rfl (am_rn rfl (am_rs rfl (ok_aload_n (k := 0) dd_151_171 rfl rfl) (am_rs rfl (ok_iconst dd_151_172 ic_0 rfl) (am_rs rfl (ok_pf dd_151_173 rfl am_ck12 (by decide) (Or.inl w_975) (Or.inl rfl) rfl) (am_rn rfl (am_rn rfl (am_rz))))))))
theorem kb_151_22 : am_row mi_151 176 kr_151_22 := am_rs rfl (ok_aload_n (k := 0) dd_151_176 rfl rfl) (am_rs rfl (ok_iconst dd_151_177 ic_0 rfl) (am_rs rfl (ok_pf dd_151_178 rfl am_ck12 (by decide) (Or.inl w_977) (Or.inl rfl) rfl) (am_rn rfl (am_rn rfl (am_rs rfl (ok_aload_n (k := 0) dd_151_181 rfl rfl) (am_rs rfl (ok_iconst dd_151_182 ic_0 rfl) (am_rs rfl (ok_pf dd_151_183 rfl am_ck12 (by decide) (Or.inl w_988) (Or.inl rfl) rfl) (am_rz))))))))
theorem kb_151_23 : am_row mi_151 184 kr_151_23 := am_rn rfl (am_rn rfl (am_rs rfl (ok_aload_n (k := 0) dd_151_186 rfl rfl) (am_rs rfl (ok_gf dd_151_187 rfl am_ck12 (by decide) (Or.inl w_937)) (am_rn rfl (am_rn rfl (am_rs rfl (ok_iret dd_151_190 rfl) (am_rz)))))))
theorem ck_151 : am_rows mi_151 0 cd_151 := am_bs rfl kb_151_0 (am_bs rfl kb_151_1 (am_bs rfl kb_151_2 (am_bs rfl kb_151_3 (am_bs rfl kb_151_4 (am_bs rfl kb_151_5 (am_bs rfl kb_151_6 (am_bs rfl kb_151_7 (am_bs rfl kb_151_8 (am_bs rfl kb_151_9 (am_bs rfl kb_151_10 (am_bs rfl kb_151_11 (am_bs rfl kb_151_12 (am_bs rfl kb_151_13 (am_bs rfl kb_151_14 (am_bs rfl kb_151_15 (am_bs rfl kb_151_16 (am_bs rfl kb_151_17 (am_bs rfl kb_151_18 (am_bs rfl kb_151_19 (am_bs rfl kb_151_20 (am_bs rfl kb_151_21 (am_bs rfl kb_151_22 (am_bs rfl kb_151_23 (am_bz))))))))))))))))))))))))
