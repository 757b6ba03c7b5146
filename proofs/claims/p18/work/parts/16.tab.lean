noncomputable def tr_0 : List (Nat × am_Cd) := [(1, cd_15), (1, cd_1), (1, cd_2), (3, cd_3), (1, cd_4), (1, cd_5), (1, cd_6), (1, cd_7), (3, cd_8), (4, cd_9), (1, cd_10), (1, cd_11), (1, cd_12), (7, cd_13), (1, cd_14), (1, cd_15)]
noncomputable def tr_1 : List (Nat × am_Cd) := [(1, cd_15), (8, cd_17), (4, cd_18), (1, cd_19), (5, cd_20), (1, cd_15), (3, cd_22), (2, cd_23), (4, cd_24), (2, cd_25), (2, cd_26), (2, cd_27), (1, cd_28), (3, cd_29), (7, cd_30), (3, cd_31)]
noncomputable def tr_2 : List (Nat × am_Cd) := [(5, cd_32), (4, cd_33), (7, cd_34), (2, cd_35), (4, cd_36), (4, cd_37), (4, cd_38), (5, cd_39), (7, cd_40), (3, cd_41), (3, cd_42), (5, cd_43), (1, cd_44), (1, cd_45), (2, cd_46), (2, cd_47)]
noncomputable def tr_3 : List (Nat × am_Cd) := [(1, cd_48), (2, cd_49), (5, cd_50), (2, cd_51), (2, cd_52), (3, cd_53), (3, cd_54), (2, cd_55), (1, cd_56), (2, cd_57), (3, cd_58), (2, cd_59), (3, cd_60), (5, cd_61), (8, cd_62), (2, cd_63)]
noncomputable def tr_4 : List (Nat × am_Cd) := [(2, cd_64), (2, cd_65), (4, cd_66), (3, cd_67), (3, cd_68), (2, cd_69), (2, cd_70), (7, cd_71), (6, cd_72), (6, cd_73), (6, cd_74), (3, cd_75), (2, cd_76), (3, cd_77), (2, cd_78), (3, cd_79)]
noncomputable def tr_5 : List (Nat × am_Cd) := [(3, cd_80), (2, cd_81), (1, cd_82), (1, cd_83), (1, cd_84), (2, cd_85), (2, cd_86), (4, cd_87), (8, cd_88), (7, cd_89), (4, cd_90), (6, cd_91), (4, cd_92), (6, cd_93), (3, cd_94), (3, cd_95)]
noncomputable def tr_6 : List (Nat × am_Cd) := [(7, cd_96), (7, cd_97), (3, cd_98), (5, cd_99), (3, cd_100), (3, cd_101), (6, cd_102), (1, cd_103), (3, cd_104), (2, cd_105), (1, cd_106), (5, cd_107), (7, cd_108), (6, cd_109), (7, cd_110), (5, cd_111)]
noncomputable def tr_7 : List (Nat × am_Cd) := [(3, cd_112), (2, cd_113), (2, cd_114), (7, cd_115), (2, cd_116), (5, cd_117), (6, cd_118), (4, cd_119), (5, cd_120), (6, cd_121), (4, cd_122), (5, cd_123), (5, cd_124), (1, cd_125), (2, cd_126), (3, cd_127)]
noncomputable def tr_8 : List (Nat × am_Cd) := [(1, cd_128), (2, cd_129), (1, cd_130), (5, cd_131), (2, cd_132), (3, cd_133), (2, cd_134), (2, cd_135), (2, cd_136), (2, cd_137), (1, cd_138), (3, cd_139), (1, cd_140), (4, cd_141), (1, cd_142), (1, cd_143)]
noncomputable def tr_9 : List (Nat × am_Cd) := [(1, cd_144), (5, cd_145), (1, cd_146), (1, cd_147), (1, cd_148), (1, cd_149), (1, cd_150), (1, cd_151), (5, cd_152), (2, cd_153), (2, cd_154), (4, cd_155), (5, cd_156), (4, cd_157), (2, cd_158), (2, cd_159)]
noncomputable def tr_10 : List (Nat × am_Cd) := [(2, cd_160), (1, cd_161), (6, cd_162), (3, cd_163), (2, cd_164), (2, cd_165), (7, cd_166), (1, cd_167), (5, cd_168), (5, cd_169), (6, cd_170), (3, cd_171), (5, cd_172), (5, cd_173), (3, cd_174), (3, cd_175)]
noncomputable def tr_11 : List (Nat × am_Cd) := [(3, cd_176), (3, cd_177), (3, cd_178), (1, cd_179), (1, cd_180), (6, cd_181), (2, cd_182), (4, cd_183), (2, cd_184), (9, cd_185), (4, cd_186), (8, cd_187), (2, cd_188), (6, cd_189), (3, cd_190), (3, cd_191)]
noncomputable def tr_12 : List (Nat × am_Cd) := [(7, cd_192), (3, cd_193), (8, cd_194), (1, cd_195), (4, cd_196), (6, cd_197), (4, cd_198), (8, cd_199), (2, cd_200), (4, cd_201), (4, cd_202), (5, cd_203), (6, cd_204), (4, cd_205), (6, cd_206), (2, cd_207)]
noncomputable def tr_13 : List (Nat × am_Cd) := [(2, cd_208), (2, cd_209)]
noncomputable def am_tab : am_Tb := [tr_0, tr_1, tr_2, tr_3, tr_4, tr_5, tr_6, tr_7, tr_8, tr_9, tr_10, tr_11, tr_12, tr_13]
def am_t1 : Nat → List (Nat × am_Cd) → Prop
  | _, [] => True
  | j, e :: l => (e.1 = (am_mi j).2.2.1 ∧ plainName (am_mi j).1.cls = true ∧ am_rows (am_mi j) 0 e.2) ∧ am_t1 (j + 1) l
theorem am_t1s {j j' nL : Nat} {c : am_Cd} {l : List (Nat × am_Cd)} (he : j + 1 = j') (h : nL = (am_mi j).2.2.1 ∧ plainName (am_mi j).1.cls = true ∧ am_rows (am_mi j) 0 c) (t : am_t1 j' l) : am_t1 j ((nL, c) :: l) := by subst he; exact ⟨h, t⟩
theorem am_t1z {j : Nat} : am_t1 j [] := trivial
theorem am_t1g : ∀ {l : List (Nat × am_Cd)} {j k nL : Nat} {c : am_Cd}, am_t1 j l → l[k]? = some (nL, c) → nL = (am_mi (j + k)).2.2.1 ∧ plainName (am_mi (j + k)).1.cls = true ∧ am_rows (am_mi (j + k)) 0 c
  | [], _, _, _, _, _, h => by cases h
  | e :: l, j, 0, nL, c, ht, h => by
    cases h
    exact ht.1
  | e :: l, j, k + 1, nL, c, ht, h => by
    rw [show j + (k + 1) = j + 1 + k by omega]
    exact am_t1g (l := l) ht.2 h
def am_t2 : Nat → am_Tb → Prop
  | _, [] => True
  | j, e :: l => am_t1 j e ∧ am_t2 (j + 16) l
theorem am_t2s {j j' : Nat} {e : List (Nat × am_Cd)} {l : am_Tb} (he : j + 16 = j') (h : am_t1 j e) (t : am_t2 j' l) : am_t2 j (e :: l) := by subst he; exact ⟨h, t⟩
theorem am_t2z {j : Nat} : am_t2 j [] := trivial
theorem am_t2g : ∀ {l : am_Tb} {j k : Nat} {e : List (Nat × am_Cd)}, am_t2 j l → l[k]? = some e → am_t1 (j + 16 * k) e
  | [], _, _, _, _, h => by cases h
  | e :: l, j, 0, _, ht, h => by
    cases h
    exact ht.1
  | e :: l, j, k + 1, _, ht, h => by
    rw [show j + 16 * (k + 1) = j + 16 + 16 * k by omega]
    exact am_t2g (l := l) ht.2 h
theorem tk_0 : 1 = (am_mi 0).2.2.1 ∧ plainName (am_mi 0).1.cls = true ∧ am_rows (am_mi 0) 0 cd_15 := ⟨rfl, by decide +kernel, ck_15⟩
theorem tk_1 : 1 = (am_mi 1).2.2.1 ∧ plainName (am_mi 1).1.cls = true ∧ am_rows (am_mi 1) 0 cd_1 := ⟨rfl, by decide +kernel, ck_1⟩
theorem tk_2 : 1 = (am_mi 2).2.2.1 ∧ plainName (am_mi 2).1.cls = true ∧ am_rows (am_mi 2) 0 cd_2 := ⟨rfl, by decide +kernel, ck_2⟩
theorem tk_3 : 3 = (am_mi 3).2.2.1 ∧ plainName (am_mi 3).1.cls = true ∧ am_rows (am_mi 3) 0 cd_3 := ⟨rfl, by decide +kernel, ck_3⟩
theorem tk_4 : 1 = (am_mi 4).2.2.1 ∧ plainName (am_mi 4).1.cls = true ∧ am_rows (am_mi 4) 0 cd_4 := ⟨rfl, by decide +kernel, ck_4⟩
theorem tk_5 : 1 = (am_mi 5).2.2.1 ∧ plainName (am_mi 5).1.cls = true ∧ am_rows (am_mi 5) 0 cd_5 := ⟨rfl, by decide +kernel, ck_5⟩
theorem tk_6 : 1 = (am_mi 6).2.2.1 ∧ plainName (am_mi 6).1.cls = true ∧ am_rows (am_mi 6) 0 cd_6 := ⟨rfl, by decide +kernel, ck_6⟩
theorem tk_7 : 1 = (am_mi 7).2.2.1 ∧ plainName (am_mi 7).1.cls = true ∧ am_rows (am_mi 7) 0 cd_7 := ⟨rfl, by decide +kernel, ck_7⟩
theorem tk_8 : 3 = (am_mi 8).2.2.1 ∧ plainName (am_mi 8).1.cls = true ∧ am_rows (am_mi 8) 0 cd_8 := ⟨rfl, by decide +kernel, ck_8⟩
theorem tk_9 : 4 = (am_mi 9).2.2.1 ∧ plainName (am_mi 9).1.cls = true ∧ am_rows (am_mi 9) 0 cd_9 := ⟨rfl, by decide +kernel, ck_9⟩
theorem tk_10 : 1 = (am_mi 10).2.2.1 ∧ plainName (am_mi 10).1.cls = true ∧ am_rows (am_mi 10) 0 cd_10 := ⟨rfl, by decide +kernel, ck_10⟩
theorem tk_11 : 1 = (am_mi 11).2.2.1 ∧ plainName (am_mi 11).1.cls = true ∧ am_rows (am_mi 11) 0 cd_11 := ⟨rfl, by decide +kernel, ck_11⟩
theorem tk_12 : 1 = (am_mi 12).2.2.1 ∧ plainName (am_mi 12).1.cls = true ∧ am_rows (am_mi 12) 0 cd_12 := ⟨rfl, by decide +kernel, ck_12⟩
theorem tk_13 : 7 = (am_mi 13).2.2.1 ∧ plainName (am_mi 13).1.cls = true ∧ am_rows (am_mi 13) 0 cd_13 := ⟨rfl, by decide +kernel, ck_13⟩
theorem tk_14 : 1 = (am_mi 14).2.2.1 ∧ plainName (am_mi 14).1.cls = true ∧ am_rows (am_mi 14) 0 cd_14 := ⟨rfl, by decide +kernel, ck_14⟩
theorem tk_15 : 1 = (am_mi 15).2.2.1 ∧ plainName (am_mi 15).1.cls = true ∧ am_rows (am_mi 15) 0 cd_15 := ⟨rfl, by decide +kernel, ck_15⟩
theorem tk_16 : 1 = (am_mi 16).2.2.1 ∧ plainName (am_mi 16).1.cls = true ∧ am_rows (am_mi 16) 0 cd_15 := ⟨rfl, by decide +kernel, ck_15⟩
theorem tk_17 : 8 = (am_mi 17).2.2.1 ∧ plainName (am_mi 17).1.cls = true ∧ am_rows (am_mi 17) 0 cd_17 := ⟨rfl, by decide +kernel, ck_17⟩
theorem tk_18 : 4 = (am_mi 18).2.2.1 ∧ plainName (am_mi 18).1.cls = true ∧ am_rows (am_mi 18) 0 cd_18 := ⟨rfl, by decide +kernel, ck_18⟩
theorem tk_19 : 1 = (am_mi 19).2.2.1 ∧ plainName (am_mi 19).1.cls = true ∧ am_rows (am_mi 19) 0 cd_19 := ⟨rfl, by decide +kernel, ck_19⟩
theorem tk_20 : 5 = (am_mi 20).2.2.1 ∧ plainName (am_mi 20).1.cls = true ∧ am_rows (am_mi 20) 0 cd_20 := ⟨rfl, by decide +kernel, ck_20⟩
theorem tk_21 : 1 = (am_mi 21).2.2.1 ∧ plainName (am_mi 21).1.cls = true ∧ am_rows (am_mi 21) 0 cd_15 := ⟨rfl, by decide +kernel, ck_15⟩
theorem tk_22 : 3 = (am_mi 22).2.2.1 ∧ plainName (am_mi 22).1.cls = true ∧ am_rows (am_mi 22) 0 cd_22 := ⟨rfl, by decide +kernel, ck_22⟩
theorem tk_23 : 2 = (am_mi 23).2.2.1 ∧ plainName (am_mi 23).1.cls = true ∧ am_rows (am_mi 23) 0 cd_23 := ⟨rfl, by decide +kernel, ck_23⟩
theorem tk_24 : 4 = (am_mi 24).2.2.1 ∧ plainName (am_mi 24).1.cls = true ∧ am_rows (am_mi 24) 0 cd_24 := ⟨rfl, by decide +kernel, ck_24⟩
theorem tk_25 : 2 = (am_mi 25).2.2.1 ∧ plainName (am_mi 25).1.cls = true ∧ am_rows (am_mi 25) 0 cd_25 := ⟨rfl, by decide +kernel, ck_25⟩
theorem tk_26 : 2 = (am_mi 26).2.2.1 ∧ plainName (am_mi 26).1.cls = true ∧ am_rows (am_mi 26) 0 cd_26 := ⟨rfl, by decide +kernel, ck_26⟩
theorem tk_27 : 2 = (am_mi 27).2.2.1 ∧ plainName (am_mi 27).1.cls = true ∧ am_rows (am_mi 27) 0 cd_27 := ⟨rfl, by decide +kernel, ck_27⟩
theorem tk_28 : 1 = (am_mi 28).2.2.1 ∧ plainName (am_mi 28).1.cls = true ∧ am_rows (am_mi 28) 0 cd_28 := ⟨rfl, by decide +kernel, ck_28⟩
theorem tk_29 : 3 = (am_mi 29).2.2.1 ∧ plainName (am_mi 29).1.cls = true ∧ am_rows (am_mi 29) 0 cd_29 := ⟨rfl, by decide +kernel, ck_29⟩
theorem tk_30 : 7 = (am_mi 30).2.2.1 ∧ plainName (am_mi 30).1.cls = true ∧ am_rows (am_mi 30) 0 cd_30 := ⟨rfl, by decide +kernel, ck_30⟩
theorem tk_31 : 3 = (am_mi 31).2.2.1 ∧ plainName (am_mi 31).1.cls = true ∧ am_rows (am_mi 31) 0 cd_31 := ⟨rfl, by decide +kernel, ck_31⟩
theorem tk_32 : 5 = (am_mi 32).2.2.1 ∧ plainName (am_mi 32).1.cls = true ∧ am_rows (am_mi 32) 0 cd_32 := ⟨rfl, by decide +kernel, ck_32⟩
theorem tk_33 : 4 = (am_mi 33).2.2.1 ∧ plainName (am_mi 33).1.cls = true ∧ am_rows (am_mi 33) 0 cd_33 := ⟨rfl, by decide +kernel, ck_33⟩
theorem tk_34 : 7 = (am_mi 34).2.2.1 ∧ plainName (am_mi 34).1.cls = true ∧ am_rows (am_mi 34) 0 cd_34 := ⟨rfl, by decide +kernel, ck_34⟩
theorem tk_35 : 2 = (am_mi 35).2.2.1 ∧ plainName (am_mi 35).1.cls = true ∧ am_rows (am_mi 35) 0 cd_35 := ⟨rfl, by decide +kernel, ck_35⟩
theorem tk_36 : 4 = (am_mi 36).2.2.1 ∧ plainName (am_mi 36).1.cls = true ∧ am_rows (am_mi 36) 0 cd_36 := ⟨rfl, by decide +kernel, ck_36⟩
theorem tk_37 : 4 = (am_mi 37).2.2.1 ∧ plainName (am_mi 37).1.cls = true ∧ am_rows (am_mi 37) 0 cd_37 := ⟨rfl, by decide +kernel, ck_37⟩
theorem tk_38 : 4 = (am_mi 38).2.2.1 ∧ plainName (am_mi 38).1.cls = true ∧ am_rows (am_mi 38) 0 cd_38 := ⟨rfl, by decide +kernel, ck_38⟩
theorem tk_39 : 5 = (am_mi 39).2.2.1 ∧ plainName (am_mi 39).1.cls = true ∧ am_rows (am_mi 39) 0 cd_39 := ⟨rfl, by decide +kernel, ck_39⟩
theorem tk_40 : 7 = (am_mi 40).2.2.1 ∧ plainName (am_mi 40).1.cls = true ∧ am_rows (am_mi 40) 0 cd_40 := ⟨rfl, by decide +kernel, ck_40⟩
theorem tk_41 : 3 = (am_mi 41).2.2.1 ∧ plainName (am_mi 41).1.cls = true ∧ am_rows (am_mi 41) 0 cd_41 := ⟨rfl, by decide +kernel, ck_41⟩
theorem tk_42 : 3 = (am_mi 42).2.2.1 ∧ plainName (am_mi 42).1.cls = true ∧ am_rows (am_mi 42) 0 cd_42 := ⟨rfl, by decide +kernel, ck_42⟩
theorem tk_43 : 5 = (am_mi 43).2.2.1 ∧ plainName (am_mi 43).1.cls = true ∧ am_rows (am_mi 43) 0 cd_43 := ⟨rfl, by decide +kernel, ck_43⟩
theorem tk_44 : 1 = (am_mi 44).2.2.1 ∧ plainName (am_mi 44).1.cls = true ∧ am_rows (am_mi 44) 0 cd_44 := ⟨rfl, by decide +kernel, ck_44⟩
theorem tk_45 : 1 = (am_mi 45).2.2.1 ∧ plainName (am_mi 45).1.cls = true ∧ am_rows (am_mi 45) 0 cd_45 := ⟨rfl, by decide +kernel, ck_45⟩
theorem tk_46 : 2 = (am_mi 46).2.2.1 ∧ plainName (am_mi 46).1.cls = true ∧ am_rows (am_mi 46) 0 cd_46 := ⟨rfl, by decide +kernel, ck_46⟩
theorem tk_47 : 2 = (am_mi 47).2.2.1 ∧ plainName (am_mi 47).1.cls = true ∧ am_rows (am_mi 47) 0 cd_47 := ⟨rfl, by decide +kernel, ck_47⟩
theorem tk_48 : 1 = (am_mi 48).2.2.1 ∧ plainName (am_mi 48).1.cls = true ∧ am_rows (am_mi 48) 0 cd_48 := ⟨rfl, by decide +kernel, ck_48⟩
theorem tk_49 : 2 = (am_mi 49).2.2.1 ∧ plainName (am_mi 49).1.cls = true ∧ am_rows (am_mi 49) 0 cd_49 := ⟨rfl, by decide +kernel, ck_49⟩
theorem tk_50 : 5 = (am_mi 50).2.2.1 ∧ plainName (am_mi 50).1.cls = true ∧ am_rows (am_mi 50) 0 cd_50 := ⟨rfl, by decide +kernel, ck_50⟩
theorem tk_51 : 2 = (am_mi 51).2.2.1 ∧ plainName (am_mi 51).1.cls = true ∧ am_rows (am_mi 51) 0 cd_51 := ⟨rfl, by decide +kernel, ck_51⟩
theorem tk_52 : 2 = (am_mi 52).2.2.1 ∧ plainName (am_mi 52).1.cls = true ∧ am_rows (am_mi 52) 0 cd_52 := ⟨rfl, by decide +kernel, ck_52⟩
theorem tk_53 : 3 = (am_mi 53).2.2.1 ∧ plainName (am_mi 53).1.cls = true ∧ am_rows (am_mi 53) 0 cd_53 := ⟨rfl, by decide +kernel, ck_53⟩
theorem tk_54 : 3 = (am_mi 54).2.2.1 ∧ plainName (am_mi 54).1.cls = true ∧ am_rows (am_mi 54) 0 cd_54 := ⟨rfl, by decide +kernel, ck_54⟩
theorem tk_55 : 2 = (am_mi 55).2.2.1 ∧ plainName (am_mi 55).1.cls = true ∧ am_rows (am_mi 55) 0 cd_55 := ⟨rfl, by decide +kernel, ck_55⟩
theorem tk_56 : 1 = (am_mi 56).2.2.1 ∧ plainName (am_mi 56).1.cls = true ∧ am_rows (am_mi 56) 0 cd_56 := ⟨rfl, by decide +kernel, ck_56⟩
theorem tk_57 : 2 = (am_mi 57).2.2.1 ∧ plainName (am_mi 57).1.cls = true ∧ am_rows (am_mi 57) 0 cd_57 := ⟨rfl, by decide +kernel, ck_57⟩
theorem tk_58 : 3 = (am_mi 58).2.2.1 ∧ plainName (am_mi 58).1.cls = true ∧ am_rows (am_mi 58) 0 cd_58 := ⟨rfl, by decide +kernel, ck_58⟩
theorem tk_59 : 2 = (am_mi 59).2.2.1 ∧ plainName (am_mi 59).1.cls = true ∧ am_rows (am_mi 59) 0 cd_59 := ⟨rfl, by decide +kernel, ck_59⟩
theorem tk_60 : 3 = (am_mi 60).2.2.1 ∧ plainName (am_mi 60).1.cls = true ∧ am_rows (am_mi 60) 0 cd_60 := ⟨rfl, by decide +kernel, ck_60⟩
theorem tk_61 : 5 = (am_mi 61).2.2.1 ∧ plainName (am_mi 61).1.cls = true ∧ am_rows (am_mi 61) 0 cd_61 := ⟨rfl, by decide +kernel, ck_61⟩
theorem tk_62 : 8 = (am_mi 62).2.2.1 ∧ plainName (am_mi 62).1.cls = true ∧ am_rows (am_mi 62) 0 cd_62 := ⟨rfl, by decide +kernel, ck_62⟩
theorem tk_63 : 2 = (am_mi 63).2.2.1 ∧ plainName (am_mi 63).1.cls = true ∧ am_rows (am_mi 63) 0 cd_63 := ⟨rfl, by decide +kernel, ck_63⟩
theorem tk_64 : 2 = (am_mi 64).2.2.1 ∧ plainName (am_mi 64).1.cls = true ∧ am_rows (am_mi 64) 0 cd_64 := ⟨rfl, by decide +kernel, ck_64⟩
theorem tk_65 : 2 = (am_mi 65).2.2.1 ∧ plainName (am_mi 65).1.cls = true ∧ am_rows (am_mi 65) 0 cd_65 := ⟨rfl, by decide +kernel, ck_65⟩
theorem tk_66 : 4 = (am_mi 66).2.2.1 ∧ plainName (am_mi 66).1.cls = true ∧ am_rows (am_mi 66) 0 cd_66 := ⟨rfl, by decide +kernel, ck_66⟩
theorem tk_67 : 3 = (am_mi 67).2.2.1 ∧ plainName (am_mi 67).1.cls = true ∧ am_rows (am_mi 67) 0 cd_67 := ⟨rfl, by decide +kernel, ck_67⟩
theorem tk_68 : 3 = (am_mi 68).2.2.1 ∧ plainName (am_mi 68).1.cls = true ∧ am_rows (am_mi 68) 0 cd_68 := ⟨rfl, by decide +kernel, ck_68⟩
theorem tk_69 : 2 = (am_mi 69).2.2.1 ∧ plainName (am_mi 69).1.cls = true ∧ am_rows (am_mi 69) 0 cd_69 := ⟨rfl, by decide +kernel, ck_69⟩
theorem tk_70 : 2 = (am_mi 70).2.2.1 ∧ plainName (am_mi 70).1.cls = true ∧ am_rows (am_mi 70) 0 cd_70 := ⟨rfl, by decide +kernel, ck_70⟩
theorem tk_71 : 7 = (am_mi 71).2.2.1 ∧ plainName (am_mi 71).1.cls = true ∧ am_rows (am_mi 71) 0 cd_71 := ⟨rfl, by decide +kernel, ck_71⟩
theorem tk_72 : 6 = (am_mi 72).2.2.1 ∧ plainName (am_mi 72).1.cls = true ∧ am_rows (am_mi 72) 0 cd_72 := ⟨rfl, by decide +kernel, ck_72⟩
theorem tk_73 : 6 = (am_mi 73).2.2.1 ∧ plainName (am_mi 73).1.cls = true ∧ am_rows (am_mi 73) 0 cd_73 := ⟨rfl, by decide +kernel, ck_73⟩
theorem tk_74 : 6 = (am_mi 74).2.2.1 ∧ plainName (am_mi 74).1.cls = true ∧ am_rows (am_mi 74) 0 cd_74 := ⟨rfl, by decide +kernel, ck_74⟩
theorem tk_75 : 3 = (am_mi 75).2.2.1 ∧ plainName (am_mi 75).1.cls = true ∧ am_rows (am_mi 75) 0 cd_75 := ⟨rfl, by decide +kernel, ck_75⟩
theorem tk_76 : 2 = (am_mi 76).2.2.1 ∧ plainName (am_mi 76).1.cls = true ∧ am_rows (am_mi 76) 0 cd_76 := ⟨rfl, by decide +kernel, ck_76⟩
theorem tk_77 : 3 = (am_mi 77).2.2.1 ∧ plainName (am_mi 77).1.cls = true ∧ am_rows (am_mi 77) 0 cd_77 := ⟨rfl, by decide +kernel, ck_77⟩
theorem tk_78 : 2 = (am_mi 78).2.2.1 ∧ plainName (am_mi 78).1.cls = true ∧ am_rows (am_mi 78) 0 cd_78 := ⟨rfl, by decide +kernel, ck_78⟩
theorem tk_79 : 3 = (am_mi 79).2.2.1 ∧ plainName (am_mi 79).1.cls = true ∧ am_rows (am_mi 79) 0 cd_79 := ⟨rfl, by decide +kernel, ck_79⟩
theorem tk_80 : 3 = (am_mi 80).2.2.1 ∧ plainName (am_mi 80).1.cls = true ∧ am_rows (am_mi 80) 0 cd_80 := ⟨rfl, by decide +kernel, ck_80⟩
theorem tk_81 : 2 = (am_mi 81).2.2.1 ∧ plainName (am_mi 81).1.cls = true ∧ am_rows (am_mi 81) 0 cd_81 := ⟨rfl, by decide +kernel, ck_81⟩
theorem tk_82 : 1 = (am_mi 82).2.2.1 ∧ plainName (am_mi 82).1.cls = true ∧ am_rows (am_mi 82) 0 cd_82 := ⟨rfl, by decide +kernel, ck_82⟩
theorem tk_83 : 1 = (am_mi 83).2.2.1 ∧ plainName (am_mi 83).1.cls = true ∧ am_rows (am_mi 83) 0 cd_83 := ⟨rfl, by decide +kernel, ck_83⟩
theorem tk_84 : 1 = (am_mi 84).2.2.1 ∧ plainName (am_mi 84).1.cls = true ∧ am_rows (am_mi 84) 0 cd_84 := ⟨rfl, by decide +kernel, ck_84⟩
theorem tk_85 : 2 = (am_mi 85).2.2.1 ∧ plainName (am_mi 85).1.cls = true ∧ am_rows (am_mi 85) 0 cd_85 := ⟨rfl, by decide +kernel, ck_85⟩
theorem tk_86 : 2 = (am_mi 86).2.2.1 ∧ plainName (am_mi 86).1.cls = true ∧ am_rows (am_mi 86) 0 cd_86 := ⟨rfl, by decide +kernel, ck_86⟩
theorem tk_87 : 4 = (am_mi 87).2.2.1 ∧ plainName (am_mi 87).1.cls = true ∧ am_rows (am_mi 87) 0 cd_87 := ⟨rfl, by decide +kernel, ck_87⟩
theorem tk_88 : 8 = (am_mi 88).2.2.1 ∧ plainName (am_mi 88).1.cls = true ∧ am_rows (am_mi 88) 0 cd_88 := ⟨rfl, by decide +kernel, ck_88⟩
theorem tk_89 : 7 = (am_mi 89).2.2.1 ∧ plainName (am_mi 89).1.cls = true ∧ am_rows (am_mi 89) 0 cd_89 := ⟨rfl, by decide +kernel, ck_89⟩
theorem tk_90 : 4 = (am_mi 90).2.2.1 ∧ plainName (am_mi 90).1.cls = true ∧ am_rows (am_mi 90) 0 cd_90 := ⟨rfl, by decide +kernel, ck_90⟩
theorem tk_91 : 6 = (am_mi 91).2.2.1 ∧ plainName (am_mi 91).1.cls = true ∧ am_rows (am_mi 91) 0 cd_91 := ⟨rfl, by decide +kernel, ck_91⟩
theorem tk_92 : 4 = (am_mi 92).2.2.1 ∧ plainName (am_mi 92).1.cls = true ∧ am_rows (am_mi 92) 0 cd_92 := ⟨rfl, by decide +kernel, ck_92⟩
theorem tk_93 : 6 = (am_mi 93).2.2.1 ∧ plainName (am_mi 93).1.cls = true ∧ am_rows (am_mi 93) 0 cd_93 := ⟨rfl, by decide +kernel, ck_93⟩
theorem tk_94 : 3 = (am_mi 94).2.2.1 ∧ plainName (am_mi 94).1.cls = true ∧ am_rows (am_mi 94) 0 cd_94 := ⟨rfl, by decide +kernel, ck_94⟩
theorem tk_95 : 3 = (am_mi 95).2.2.1 ∧ plainName (am_mi 95).1.cls = true ∧ am_rows (am_mi 95) 0 cd_95 := ⟨rfl, by decide +kernel, ck_95⟩
theorem tk_96 : 7 = (am_mi 96).2.2.1 ∧ plainName (am_mi 96).1.cls = true ∧ am_rows (am_mi 96) 0 cd_96 := ⟨rfl, by decide +kernel, ck_96⟩
theorem tk_97 : 7 = (am_mi 97).2.2.1 ∧ plainName (am_mi 97).1.cls = true ∧ am_rows (am_mi 97) 0 cd_97 := ⟨rfl, by decide +kernel, ck_97⟩
theorem tk_98 : 3 = (am_mi 98).2.2.1 ∧ plainName (am_mi 98).1.cls = true ∧ am_rows (am_mi 98) 0 cd_98 := ⟨rfl, by decide +kernel, ck_98⟩
theorem tk_99 : 5 = (am_mi 99).2.2.1 ∧ plainName (am_mi 99).1.cls = true ∧ am_rows (am_mi 99) 0 cd_99 := ⟨rfl, by decide +kernel, ck_99⟩
theorem tk_100 : 3 = (am_mi 100).2.2.1 ∧ plainName (am_mi 100).1.cls = true ∧ am_rows (am_mi 100) 0 cd_100 := ⟨rfl, by decide +kernel, ck_100⟩
theorem tk_101 : 3 = (am_mi 101).2.2.1 ∧ plainName (am_mi 101).1.cls = true ∧ am_rows (am_mi 101) 0 cd_101 := ⟨rfl, by decide +kernel, ck_101⟩
theorem tk_102 : 6 = (am_mi 102).2.2.1 ∧ plainName (am_mi 102).1.cls = true ∧ am_rows (am_mi 102) 0 cd_102 := ⟨rfl, by decide +kernel, ck_102⟩
theorem tk_103 : 1 = (am_mi 103).2.2.1 ∧ plainName (am_mi 103).1.cls = true ∧ am_rows (am_mi 103) 0 cd_103 := ⟨rfl, by decide +kernel, ck_103⟩
theorem tk_104 : 3 = (am_mi 104).2.2.1 ∧ plainName (am_mi 104).1.cls = true ∧ am_rows (am_mi 104) 0 cd_104 := ⟨rfl, by decide +kernel, ck_104⟩
theorem tk_105 : 2 = (am_mi 105).2.2.1 ∧ plainName (am_mi 105).1.cls = true ∧ am_rows (am_mi 105) 0 cd_105 := ⟨rfl, by decide +kernel, ck_105⟩
theorem tk_106 : 1 = (am_mi 106).2.2.1 ∧ plainName (am_mi 106).1.cls = true ∧ am_rows (am_mi 106) 0 cd_106 := ⟨rfl, by decide +kernel, ck_106⟩
theorem tk_107 : 5 = (am_mi 107).2.2.1 ∧ plainName (am_mi 107).1.cls = true ∧ am_rows (am_mi 107) 0 cd_107 := ⟨rfl, by decide +kernel, ck_107⟩
theorem tk_108 : 7 = (am_mi 108).2.2.1 ∧ plainName (am_mi 108).1.cls = true ∧ am_rows (am_mi 108) 0 cd_108 := ⟨rfl, by decide +kernel, ck_108⟩
theorem tk_109 : 6 = (am_mi 109).2.2.1 ∧ plainName (am_mi 109).1.cls = true ∧ am_rows (am_mi 109) 0 cd_109 := ⟨rfl, by decide +kernel, ck_109⟩
theorem tk_110 : 7 = (am_mi 110).2.2.1 ∧ plainName (am_mi 110).1.cls = true ∧ am_rows (am_mi 110) 0 cd_110 := ⟨rfl, by decide +kernel, ck_110⟩
theorem tk_111 : 5 = (am_mi 111).2.2.1 ∧ plainName (am_mi 111).1.cls = true ∧ am_rows (am_mi 111) 0 cd_111 := ⟨rfl, by decide +kernel, ck_111⟩
theorem tk_112 : 3 = (am_mi 112).2.2.1 ∧ plainName (am_mi 112).1.cls = true ∧ am_rows (am_mi 112) 0 cd_112 := ⟨rfl, by decide +kernel, ck_112⟩
theorem tk_113 : 2 = (am_mi 113).2.2.1 ∧ plainName (am_mi 113).1.cls = true ∧ am_rows (am_mi 113) 0 cd_113 := ⟨rfl, by decide +kernel, ck_113⟩
theorem tk_114 : 2 = (am_mi 114).2.2.1 ∧ plainName (am_mi 114).1.cls = true ∧ am_rows (am_mi 114) 0 cd_114 := ⟨rfl, by decide +kernel, ck_114⟩
theorem tk_115 : 7 = (am_mi 115).2.2.1 ∧ plainName (am_mi 115).1.cls = true ∧ am_rows (am_mi 115) 0 cd_115 := ⟨rfl, by decide +kernel, ck_115⟩
theorem tk_116 : 2 = (am_mi 116).2.2.1 ∧ plainName (am_mi 116).1.cls = true ∧ am_rows (am_mi 116) 0 cd_116 := ⟨rfl, by decide +kernel, ck_116⟩
theorem tk_117 : 5 = (am_mi 117).2.2.1 ∧ plainName (am_mi 117).1.cls = true ∧ am_rows (am_mi 117) 0 cd_117 := ⟨rfl, by decide +kernel, ck_117⟩
theorem tk_118 : 6 = (am_mi 118).2.2.1 ∧ plainName (am_mi 118).1.cls = true ∧ am_rows (am_mi 118) 0 cd_118 := ⟨rfl, by decide +kernel, ck_118⟩
theorem tk_119 : 4 = (am_mi 119).2.2.1 ∧ plainName (am_mi 119).1.cls = true ∧ am_rows (am_mi 119) 0 cd_119 := ⟨rfl, by decide +kernel, ck_119⟩
theorem tk_120 : 5 = (am_mi 120).2.2.1 ∧ plainName (am_mi 120).1.cls = true ∧ am_rows (am_mi 120) 0 cd_120 := ⟨rfl, by decide +kernel, ck_120⟩
theorem tk_121 : 6 = (am_mi 121).2.2.1 ∧ plainName (am_mi 121).1.cls = true ∧ am_rows (am_mi 121) 0 cd_121 := ⟨rfl, by decide +kernel, ck_121⟩
theorem tk_122 : 4 = (am_mi 122).2.2.1 ∧ plainName (am_mi 122).1.cls = true ∧ am_rows (am_mi 122) 0 cd_122 := ⟨rfl, by decide +kernel, ck_122⟩
theorem tk_123 : 5 = (am_mi 123).2.2.1 ∧ plainName (am_mi 123).1.cls = true ∧ am_rows (am_mi 123) 0 cd_123 := ⟨rfl, by decide +kernel, ck_123⟩
theorem tk_124 : 5 = (am_mi 124).2.2.1 ∧ plainName (am_mi 124).1.cls = true ∧ am_rows (am_mi 124) 0 cd_124 := ⟨rfl, by decide +kernel, ck_124⟩
theorem tk_125 : 1 = (am_mi 125).2.2.1 ∧ plainName (am_mi 125).1.cls = true ∧ am_rows (am_mi 125) 0 cd_125 := ⟨rfl, by decide +kernel, ck_125⟩
theorem tk_126 : 2 = (am_mi 126).2.2.1 ∧ plainName (am_mi 126).1.cls = true ∧ am_rows (am_mi 126) 0 cd_126 := ⟨rfl, by decide +kernel, ck_126⟩
theorem tk_127 : 3 = (am_mi 127).2.2.1 ∧ plainName (am_mi 127).1.cls = true ∧ am_rows (am_mi 127) 0 cd_127 := ⟨rfl, by decide +kernel, ck_127⟩
theorem tk_128 : 1 = (am_mi 128).2.2.1 ∧ plainName (am_mi 128).1.cls = true ∧ am_rows (am_mi 128) 0 cd_128 := ⟨rfl, by decide +kernel, ck_128⟩
theorem tk_129 : 2 = (am_mi 129).2.2.1 ∧ plainName (am_mi 129).1.cls = true ∧ am_rows (am_mi 129) 0 cd_129 := ⟨rfl, by decide +kernel, ck_129⟩
theorem tk_130 : 1 = (am_mi 130).2.2.1 ∧ plainName (am_mi 130).1.cls = true ∧ am_rows (am_mi 130) 0 cd_130 := ⟨rfl, by decide +kernel, ck_130⟩
theorem tk_131 : 5 = (am_mi 131).2.2.1 ∧ plainName (am_mi 131).1.cls = true ∧ am_rows (am_mi 131) 0 cd_131 := ⟨rfl, by decide +kernel, ck_131⟩
theorem tk_132 : 2 = (am_mi 132).2.2.1 ∧ plainName (am_mi 132).1.cls = true ∧ am_rows (am_mi 132) 0 cd_132 := ⟨rfl, by decide +kernel, ck_132⟩
theorem tk_133 : 3 = (am_mi 133).2.2.1 ∧ plainName (am_mi 133).1.cls = true ∧ am_rows (am_mi 133) 0 cd_133 := ⟨rfl, by decide +kernel, ck_133⟩
theorem tk_134 : 2 = (am_mi 134).2.2.1 ∧ plainName (am_mi 134).1.cls = true ∧ am_rows (am_mi 134) 0 cd_134 := ⟨rfl, by decide +kernel, ck_134⟩
theorem tk_135 : 2 = (am_mi 135).2.2.1 ∧ plainName (am_mi 135).1.cls = true ∧ am_rows (am_mi 135) 0 cd_135 := ⟨rfl, by decide +kernel, ck_135⟩
theorem tk_136 : 2 = (am_mi 136).2.2.1 ∧ plainName (am_mi 136).1.cls = true ∧ am_rows (am_mi 136) 0 cd_136 := ⟨rfl, by decide +kernel, ck_136⟩
theorem tk_137 : 2 = (am_mi 137).2.2.1 ∧ plainName (am_mi 137).1.cls = true ∧ am_rows (am_mi 137) 0 cd_137 := ⟨rfl, by decide +kernel, ck_137⟩
theorem tk_138 : 1 = (am_mi 138).2.2.1 ∧ plainName (am_mi 138).1.cls = true ∧ am_rows (am_mi 138) 0 cd_138 := ⟨rfl, by decide +kernel, ck_138⟩
theorem tk_139 : 3 = (am_mi 139).2.2.1 ∧ plainName (am_mi 139).1.cls = true ∧ am_rows (am_mi 139) 0 cd_139 := ⟨rfl, by decide +kernel, ck_139⟩
theorem tk_140 : 1 = (am_mi 140).2.2.1 ∧ plainName (am_mi 140).1.cls = true ∧ am_rows (am_mi 140) 0 cd_140 := ⟨rfl, by decide +kernel, ck_140⟩
theorem tk_141 : 4 = (am_mi 141).2.2.1 ∧ plainName (am_mi 141).1.cls = true ∧ am_rows (am_mi 141) 0 cd_141 := ⟨rfl, by decide +kernel, ck_141⟩
theorem tk_142 : 1 = (am_mi 142).2.2.1 ∧ plainName (am_mi 142).1.cls = true ∧ am_rows (am_mi 142) 0 cd_142 := ⟨rfl, by decide +kernel, ck_142⟩
theorem tk_143 : 1 = (am_mi 143).2.2.1 ∧ plainName (am_mi 143).1.cls = true ∧ am_rows (am_mi 143) 0 cd_143 := ⟨rfl, by decide +kernel, ck_143⟩
theorem tk_144 : 1 = (am_mi 144).2.2.1 ∧ plainName (am_mi 144).1.cls = true ∧ am_rows (am_mi 144) 0 cd_144 := ⟨rfl, by decide +kernel, ck_144⟩
theorem tk_145 : 5 = (am_mi 145).2.2.1 ∧ plainName (am_mi 145).1.cls = true ∧ am_rows (am_mi 145) 0 cd_145 := ⟨rfl, by decide +kernel, ck_145⟩
theorem tk_146 : 1 = (am_mi 146).2.2.1 ∧ plainName (am_mi 146).1.cls = true ∧ am_rows (am_mi 146) 0 cd_146 := ⟨rfl, by decide +kernel, ck_146⟩
theorem tk_147 : 1 = (am_mi 147).2.2.1 ∧ plainName (am_mi 147).1.cls = true ∧ am_rows (am_mi 147) 0 cd_147 := ⟨rfl, by decide +kernel, ck_147⟩
theorem tk_148 : 1 = (am_mi 148).2.2.1 ∧ plainName (am_mi 148).1.cls = true ∧ am_rows (am_mi 148) 0 cd_148 := ⟨rfl, by decide +kernel, ck_148⟩
theorem tk_149 : 1 = (am_mi 149).2.2.1 ∧ plainName (am_mi 149).1.cls = true ∧ am_rows (am_mi 149) 0 cd_149 := ⟨rfl, by decide +kernel, ck_149⟩
theorem tk_150 : 1 = (am_mi 150).2.2.1 ∧ plainName (am_mi 150).1.cls = true ∧ am_rows (am_mi 150) 0 cd_150 := ⟨rfl, by decide +kernel, ck_150⟩
theorem tk_151 : 1 = (am_mi 151).2.2.1 ∧ plainName (am_mi 151).1.cls = true ∧ am_rows (am_mi 151) 0 cd_151 := ⟨rfl, by decide +kernel, ck_151⟩
theorem tk_152 : 5 = (am_mi 152).2.2.1 ∧ plainName (am_mi 152).1.cls = true ∧ am_rows (am_mi 152) 0 cd_152 := ⟨rfl, by decide +kernel, ck_152⟩
theorem tk_153 : 2 = (am_mi 153).2.2.1 ∧ plainName (am_mi 153).1.cls = true ∧ am_rows (am_mi 153) 0 cd_153 := ⟨rfl, by decide +kernel, ck_153⟩
theorem tk_154 : 2 = (am_mi 154).2.2.1 ∧ plainName (am_mi 154).1.cls = true ∧ am_rows (am_mi 154) 0 cd_154 := ⟨rfl, by decide +kernel, ck_154⟩
theorem tk_155 : 4 = (am_mi 155).2.2.1 ∧ plainName (am_mi 155).1.cls = true ∧ am_rows (am_mi 155) 0 cd_155 := ⟨rfl, by decide +kernel, ck_155⟩
theorem tk_156 : 5 = (am_mi 156).2.2.1 ∧ plainName (am_mi 156).1.cls = true ∧ am_rows (am_mi 156) 0 cd_156 := ⟨rfl, by decide +kernel, ck_156⟩
theorem tk_157 : 4 = (am_mi 157).2.2.1 ∧ plainName (am_mi 157).1.cls = true ∧ am_rows (am_mi 157) 0 cd_157 := ⟨rfl, by decide +kernel, ck_157⟩
theorem tk_158 : 2 = (am_mi 158).2.2.1 ∧ plainName (am_mi 158).1.cls = true ∧ am_rows (am_mi 158) 0 cd_158 := ⟨rfl, by decide +kernel, ck_158⟩
theorem tk_159 : 2 = (am_mi 159).2.2.1 ∧ plainName (am_mi 159).1.cls = true ∧ am_rows (am_mi 159) 0 cd_159 := ⟨rfl, by decide +kernel, ck_159⟩
theorem tk_160 : 2 = (am_mi 160).2.2.1 ∧ plainName (am_mi 160).1.cls = true ∧ am_rows (am_mi 160) 0 cd_160 := ⟨rfl, by decide +kernel, ck_160⟩
theorem tk_161 : 1 = (am_mi 161).2.2.1 ∧ plainName (am_mi 161).1.cls = true ∧ am_rows (am_mi 161) 0 cd_161 := ⟨rfl, by decide +kernel, ck_161⟩
theorem tk_162 : 6 = (am_mi 162).2.2.1 ∧ plainName (am_mi 162).1.cls = true ∧ am_rows (am_mi 162) 0 cd_162 := ⟨rfl, by decide +kernel, ck_162⟩
theorem tk_163 : 3 = (am_mi 163).2.2.1 ∧ plainName (am_mi 163).1.cls = true ∧ am_rows (am_mi 163) 0 cd_163 := ⟨rfl, by decide +kernel, ck_163⟩
theorem tk_164 : 2 = (am_mi 164).2.2.1 ∧ plainName (am_mi 164).1.cls = true ∧ am_rows (am_mi 164) 0 cd_164 := ⟨rfl, by decide +kernel, ck_164⟩
theorem tk_165 : 2 = (am_mi 165).2.2.1 ∧ plainName (am_mi 165).1.cls = true ∧ am_rows (am_mi 165) 0 cd_165 := ⟨rfl, by decide +kernel, ck_165⟩
theorem tk_166 : 7 = (am_mi 166).2.2.1 ∧ plainName (am_mi 166).1.cls = true ∧ am_rows (am_mi 166) 0 cd_166 := ⟨rfl, by decide +kernel, ck_166⟩
theorem tk_167 : 1 = (am_mi 167).2.2.1 ∧ plainName (am_mi 167).1.cls = true ∧ am_rows (am_mi 167) 0 cd_167 := ⟨rfl, by decide +kernel, ck_167⟩
theorem tk_168 : 5 = (am_mi 168).2.2.1 ∧ plainName (am_mi 168).1.cls = true ∧ am_rows (am_mi 168) 0 cd_168 := ⟨rfl, by decide +kernel, ck_168⟩
theorem tk_169 : 5 = (am_mi 169).2.2.1 ∧ plainName (am_mi 169).1.cls = true ∧ am_rows (am_mi 169) 0 cd_169 := ⟨rfl, by decide +kernel, ck_169⟩
theorem tk_170 : 6 = (am_mi 170).2.2.1 ∧ plainName (am_mi 170).1.cls = true ∧ am_rows (am_mi 170) 0 cd_170 := ⟨rfl, by decide +kernel, ck_170⟩
theorem tk_171 : 3 = (am_mi 171).2.2.1 ∧ plainName (am_mi 171).1.cls = true ∧ am_rows (am_mi 171) 0 cd_171 := ⟨rfl, by decide +kernel, ck_171⟩
theorem tk_172 : 5 = (am_mi 172).2.2.1 ∧ plainName (am_mi 172).1.cls = true ∧ am_rows (am_mi 172) 0 cd_172 := ⟨rfl, by decide +kernel, ck_172⟩
theorem tk_173 : 5 = (am_mi 173).2.2.1 ∧ plainName (am_mi 173).1.cls = true ∧ am_rows (am_mi 173) 0 cd_173 := ⟨rfl, by decide +kernel, ck_173⟩
theorem tk_174 : 3 = (am_mi 174).2.2.1 ∧ plainName (am_mi 174).1.cls = true ∧ am_rows (am_mi 174) 0 cd_174 := ⟨rfl, by decide +kernel, ck_174⟩
theorem tk_175 : 3 = (am_mi 175).2.2.1 ∧ plainName (am_mi 175).1.cls = true ∧ am_rows (am_mi 175) 0 cd_175 := ⟨rfl, by decide +kernel, ck_175⟩
theorem tk_176 : 3 = (am_mi 176).2.2.1 ∧ plainName (am_mi 176).1.cls = true ∧ am_rows (am_mi 176) 0 cd_176 := ⟨rfl, by decide +kernel, ck_176⟩
theorem tk_177 : 3 = (am_mi 177).2.2.1 ∧ plainName (am_mi 177).1.cls = true ∧ am_rows (am_mi 177) 0 cd_177 := ⟨rfl, by decide +kernel, ck_177⟩
theorem tk_178 : 3 = (am_mi 178).2.2.1 ∧ plainName (am_mi 178).1.cls = true ∧ am_rows (am_mi 178) 0 cd_178 := ⟨rfl, by decide +kernel, ck_178⟩
theorem tk_179 : 1 = (am_mi 179).2.2.1 ∧ plainName (am_mi 179).1.cls = true ∧ am_rows (am_mi 179) 0 cd_179 := ⟨rfl, by decide +kernel, ck_179⟩
theorem tk_180 : 1 = (am_mi 180).2.2.1 ∧ plainName (am_mi 180).1.cls = true ∧ am_rows (am_mi 180) 0 cd_180 := ⟨rfl, by decide +kernel, ck_180⟩
theorem tk_181 : 6 = (am_mi 181).2.2.1 ∧ plainName (am_mi 181).1.cls = true ∧ am_rows (am_mi 181) 0 cd_181 := ⟨rfl, by decide +kernel, ck_181⟩
theorem tk_182 : 2 = (am_mi 182).2.2.1 ∧ plainName (am_mi 182).1.cls = true ∧ am_rows (am_mi 182) 0 cd_182 := ⟨rfl, by decide +kernel, ck_182⟩
theorem tk_183 : 4 = (am_mi 183).2.2.1 ∧ plainName (am_mi 183).1.cls = true ∧ am_rows (am_mi 183) 0 cd_183 := ⟨rfl, by decide +kernel, ck_183⟩
theorem tk_184 : 2 = (am_mi 184).2.2.1 ∧ plainName (am_mi 184).1.cls = true ∧ am_rows (am_mi 184) 0 cd_184 := ⟨rfl, by decide +kernel, ck_184⟩
theorem tk_185 : 9 = (am_mi 185).2.2.1 ∧ plainName (am_mi 185).1.cls = true ∧ am_rows (am_mi 185) 0 cd_185 := ⟨rfl, by decide +kernel, ck_185⟩
theorem tk_186 : 4 = (am_mi 186).2.2.1 ∧ plainName (am_mi 186).1.cls = true ∧ am_rows (am_mi 186) 0 cd_186 := ⟨rfl, by decide +kernel, ck_186⟩
theorem tk_187 : 8 = (am_mi 187).2.2.1 ∧ plainName (am_mi 187).1.cls = true ∧ am_rows (am_mi 187) 0 cd_187 := ⟨rfl, by decide +kernel, ck_187⟩
theorem tk_188 : 2 = (am_mi 188).2.2.1 ∧ plainName (am_mi 188).1.cls = true ∧ am_rows (am_mi 188) 0 cd_188 := ⟨rfl, by decide +kernel, ck_188⟩
theorem tk_189 : 6 = (am_mi 189).2.2.1 ∧ plainName (am_mi 189).1.cls = true ∧ am_rows (am_mi 189) 0 cd_189 := ⟨rfl, by decide +kernel, ck_189⟩
theorem tk_190 : 3 = (am_mi 190).2.2.1 ∧ plainName (am_mi 190).1.cls = true ∧ am_rows (am_mi 190) 0 cd_190 := ⟨rfl, by decide +kernel, ck_190⟩
theorem tk_191 : 3 = (am_mi 191).2.2.1 ∧ plainName (am_mi 191).1.cls = true ∧ am_rows (am_mi 191) 0 cd_191 := ⟨rfl, by decide +kernel, ck_191⟩
theorem tk_192 : 7 = (am_mi 192).2.2.1 ∧ plainName (am_mi 192).1.cls = true ∧ am_rows (am_mi 192) 0 cd_192 := ⟨rfl, by decide +kernel, ck_192⟩
theorem tk_193 : 3 = (am_mi 193).2.2.1 ∧ plainName (am_mi 193).1.cls = true ∧ am_rows (am_mi 193) 0 cd_193 := ⟨rfl, by decide +kernel, ck_193⟩
theorem tk_194 : 8 = (am_mi 194).2.2.1 ∧ plainName (am_mi 194).1.cls = true ∧ am_rows (am_mi 194) 0 cd_194 := ⟨rfl, by decide +kernel, ck_194⟩
theorem tk_195 : 1 = (am_mi 195).2.2.1 ∧ plainName (am_mi 195).1.cls = true ∧ am_rows (am_mi 195) 0 cd_195 := ⟨rfl, by decide +kernel, ck_195⟩
theorem tk_196 : 4 = (am_mi 196).2.2.1 ∧ plainName (am_mi 196).1.cls = true ∧ am_rows (am_mi 196) 0 cd_196 := ⟨rfl, by decide +kernel, ck_196⟩
theorem tk_197 : 6 = (am_mi 197).2.2.1 ∧ plainName (am_mi 197).1.cls = true ∧ am_rows (am_mi 197) 0 cd_197 := ⟨rfl, by decide +kernel, ck_197⟩
theorem tk_198 : 4 = (am_mi 198).2.2.1 ∧ plainName (am_mi 198).1.cls = true ∧ am_rows (am_mi 198) 0 cd_198 := ⟨rfl, by decide +kernel, ck_198⟩
theorem tk_199 : 8 = (am_mi 199).2.2.1 ∧ plainName (am_mi 199).1.cls = true ∧ am_rows (am_mi 199) 0 cd_199 := ⟨rfl, by decide +kernel, ck_199⟩
theorem tk_200 : 2 = (am_mi 200).2.2.1 ∧ plainName (am_mi 200).1.cls = true ∧ am_rows (am_mi 200) 0 cd_200 := ⟨rfl, by decide +kernel, ck_200⟩
theorem tk_201 : 4 = (am_mi 201).2.2.1 ∧ plainName (am_mi 201).1.cls = true ∧ am_rows (am_mi 201) 0 cd_201 := ⟨rfl, by decide +kernel, ck_201⟩
theorem tk_202 : 4 = (am_mi 202).2.2.1 ∧ plainName (am_mi 202).1.cls = true ∧ am_rows (am_mi 202) 0 cd_202 := ⟨rfl, by decide +kernel, ck_202⟩
theorem tk_203 : 5 = (am_mi 203).2.2.1 ∧ plainName (am_mi 203).1.cls = true ∧ am_rows (am_mi 203) 0 cd_203 := ⟨rfl, by decide +kernel, ck_203⟩
theorem tk_204 : 6 = (am_mi 204).2.2.1 ∧ plainName (am_mi 204).1.cls = true ∧ am_rows (am_mi 204) 0 cd_204 := ⟨rfl, by decide +kernel, ck_204⟩
theorem tk_205 : 4 = (am_mi 205).2.2.1 ∧ plainName (am_mi 205).1.cls = true ∧ am_rows (am_mi 205) 0 cd_205 := ⟨rfl, by decide +kernel, ck_205⟩
theorem tk_206 : 6 = (am_mi 206).2.2.1 ∧ plainName (am_mi 206).1.cls = true ∧ am_rows (am_mi 206) 0 cd_206 := ⟨rfl, by decide +kernel, ck_206⟩
theorem tk_207 : 2 = (am_mi 207).2.2.1 ∧ plainName (am_mi 207).1.cls = true ∧ am_rows (am_mi 207) 0 cd_207 := ⟨rfl, by decide +kernel, ck_207⟩
theorem tk_208 : 2 = (am_mi 208).2.2.1 ∧ plainName (am_mi 208).1.cls = true ∧ am_rows (am_mi 208) 0 cd_208 := ⟨rfl, by decide +kernel, ck_208⟩
theorem tk_209 : 2 = (am_mi 209).2.2.1 ∧ plainName (am_mi 209).1.cls = true ∧ am_rows (am_mi 209) 0 cd_209 := ⟨rfl, by decide +kernel, ck_209⟩
theorem tq_13 : am_t1 208 tr_13 := am_t1s rfl tk_208 (am_t1s rfl tk_209 (am_t1z))
theorem tq_12 : am_t1 192 tr_12 := am_t1s rfl tk_192 (am_t1s rfl tk_193 (am_t1s rfl tk_194 (am_t1s rfl tk_195 (am_t1s rfl tk_196 (am_t1s rfl tk_197 (am_t1s rfl tk_198 (am_t1s rfl tk_199 (am_t1s rfl tk_200 (am_t1s rfl tk_201 (am_t1s rfl tk_202 (am_t1s rfl tk_203 (am_t1s rfl tk_204 (am_t1s rfl tk_205 (am_t1s rfl tk_206 (am_t1s rfl tk_207 (am_t1z))))))))))))))))
theorem tq_11 : am_t1 176 tr_11 := am_t1s rfl tk_176 (am_t1s rfl tk_177 (am_t1s rfl tk_178 (am_t1s rfl tk_179 (am_t1s rfl tk_180 (am_t1s rfl tk_181 (am_t1s rfl tk_182 (am_t1s rfl tk_183 (am_t1s rfl tk_184 (am_t1s rfl tk_185 (am_t1s rfl tk_186 (am_t1s rfl tk_187 (am_t1s rfl tk_188 (am_t1s rfl tk_189 (am_t1s rfl tk_190 (am_t1s rfl tk_191 (am_t1z))))))))))))))))
theorem tq_10 : am_t1 160 tr_10 := am_t1s rfl tk_160 (am_t1s rfl tk_161 (am_t1s rfl tk_162 (am_t1s rfl tk_163 (am_t1s rfl tk_164 (am_t1s rfl tk_165 (am_t1s rfl tk_166 (am_t1s rfl tk_167 (am_t1s rfl tk_168 (am_t1s rfl tk_169 (am_t1s rfl tk_170 (am_t1s rfl tk_171 (am_t1s rfl tk_172 (am_t1s rfl tk_173 (am_t1s rfl tk_174 (am_t1s rfl tk_175 (am_t1z))))))))))))))))
theorem tq_9 : am_t1 144 tr_9 := am_t1s rfl tk_144 (am_t1s rfl tk_145 (am_t1s rfl tk_146 (am_t1s rfl tk_147 (am_t1s rfl tk_148 (am_t1s rfl tk_149 (am_t1s rfl tk_150 (am_t1s rfl tk_151 (am_t1s rfl tk_152 (am_t1s rfl tk_153 (am_t1s rfl tk_154 (am_t1s rfl tk_155 (am_t1s rfl tk_156 (am_t1s rfl tk_157 (am_t1s rfl tk_158 (am_t1s rfl tk_159 (am_t1z))))))))))))))))
theorem tq_8 : am_t1 128 tr_8 := am_t1s rfl tk_128 (am_t1s rfl tk_129 (am_t1s rfl tk_130 (am_t1s rfl tk_131 (am_t1s rfl tk_132 (am_t1s rfl tk_133 (am_t1s rfl tk_134 (am_t1s rfl tk_135 (am_t1s rfl tk_136 (am_t1s rfl tk_137 (am_t1s rfl tk_138 (am_t1s rfl tk_139 (am_t1s rfl tk_140 (am_t1s rfl tk_141 (am_t1s rfl tk_142 (am_t1s rfl tk_143 (am_t1z))))))))))))))))
theorem tq_7 : am_t1 112 tr_7 := am_t1s rfl tk_112 (am_t1s rfl tk_113 (am_t1s rfl tk_114 (am_t1s rfl tk_115 (am_t1s rfl tk_116 (am_t1s rfl tk_117 (am_t1s rfl tk_118 (am_t1s rfl tk_119 (am_t1s rfl tk_120 (am_t1s rfl tk_121 (am_t1s rfl tk_122 (am_t1s rfl tk_123 (am_t1s rfl tk_124 (am_t1s rfl tk_125 (am_t1s rfl tk_126 (am_t1s rfl tk_127 (am_t1z))))))))))))))))
theorem tq_6 : am_t1 96 tr_6 := am_t1s rfl tk_96 (am_t1s rfl tk_97 (am_t1s rfl tk_98 (am_t1s rfl tk_99 (am_t1s rfl tk_100 (am_t1s rfl tk_101 (am_t1s rfl tk_102 (am_t1s rfl tk_103 (am_t1s rfl tk_104 (am_t1s rfl tk_105 (am_t1s rfl tk_106 (am_t1s rfl tk_107 (am_t1s rfl tk_108 (am_t1s rfl tk_109 (am_t1s rfl tk_110 (am_t1s rfl tk_111 (am_t1z))))))))))))))))
theorem tq_5 : am_t1 80 tr_5 := am_t1s rfl tk_80 (am_t1s rfl tk_81 (am_t1s rfl tk_82 (am_t1s rfl tk_83 (am_t1s rfl tk_84 (am_t1s rfl tk_85 (am_t1s rfl tk_86 (am_t1s rfl tk_87 (am_t1s rfl tk_88 (am_t1s rfl tk_89 (am_t1s rfl tk_90 (am_t1s rfl tk_91 (am_t1s rfl tk_92 (am_t1s rfl tk_93 (am_t1s rfl tk_94 (am_t1s rfl tk_95 (am_t1z))))))))))))))))
theorem tq_4 : am_t1 64 tr_4 := am_t1s rfl tk_64 (am_t1s rfl tk_65 (am_t1s rfl tk_66 (am_t1s rfl tk_67 (am_t1s rfl tk_68 (am_t1s rfl tk_69 (am_t1s rfl tk_70 (am_t1s rfl tk_71 (am_t1s rfl tk_72 (am_t1s rfl tk_73 (am_t1s rfl tk_74 (am_t1s rfl tk_75 (am_t1s rfl tk_76 (am_t1s rfl tk_77 (am_t1s rfl tk_78 (am_t1s rfl tk_79 (am_t1z))))))))))))))))
theorem tq_3 : am_t1 48 tr_3 := am_t1s rfl tk_48 (am_t1s rfl tk_49 (am_t1s rfl tk_50 (am_t1s rfl tk_51 (am_t1s rfl tk_52 (am_t1s rfl tk_53 (am_t1s rfl tk_54 (am_t1s rfl tk_55 (am_t1s rfl tk_56 (am_t1s rfl tk_57 (am_t1s rfl tk_58 (am_t1s rfl tk_59 (am_t1s rfl tk_60 (am_t1s rfl tk_61 (am_t1s rfl tk_62 (am_t1s rfl tk_63 (am_t1z))))))))))))))))
theorem tq_2 : am_t1 32 tr_2 := am_t1s rfl tk_32 (am_t1s rfl tk_33 (am_t1s rfl tk_34 (am_t1s rfl tk_35 (am_t1s rfl tk_36 (am_t1s rfl tk_37 (am_t1s rfl tk_38 (am_t1s rfl tk_39 (am_t1s rfl tk_40 (am_t1s rfl tk_41 (am_t1s rfl tk_42 (am_t1s rfl tk_43 (am_t1s rfl tk_44 (am_t1s rfl tk_45 (am_t1s rfl tk_46 (am_t1s rfl tk_47 (am_t1z))))))))))))))))
theorem tq_1 : am_t1 16 tr_1 := am_t1s rfl tk_16 (am_t1s rfl tk_17 (am_t1s rfl tk_18 (am_t1s rfl tk_19 (am_t1s rfl tk_20 (am_t1s rfl tk_21 (am_t1s rfl tk_22 (am_t1s rfl tk_23 (am_t1s rfl tk_24 (am_t1s rfl tk_25 (am_t1s rfl tk_26 (am_t1s rfl tk_27 (am_t1s rfl tk_28 (am_t1s rfl tk_29 (am_t1s rfl tk_30 (am_t1s rfl tk_31 (am_t1z))))))))))))))))
theorem tq_0 : am_t1 0 tr_0 := am_t1s rfl tk_0 (am_t1s rfl tk_1 (am_t1s rfl tk_2 (am_t1s rfl tk_3 (am_t1s rfl tk_4 (am_t1s rfl tk_5 (am_t1s rfl tk_6 (am_t1s rfl tk_7 (am_t1s rfl tk_8 (am_t1s rfl tk_9 (am_t1s rfl tk_10 (am_t1s rfl tk_11 (am_t1s rfl tk_12 (am_t1s rfl tk_13 (am_t1s rfl tk_14 (am_t1s rfl tk_15 (am_t1z))))))))))))))))
theorem am_tab2 : am_t2 0 am_tab := am_t2s rfl tq_0 (am_t2s rfl tq_1 (am_t2s rfl tq_2 (am_t2s rfl tq_3 (am_t2s rfl tq_4 (am_t2s rfl tq_5 (am_t2s rfl tq_6 (am_t2s rfl tq_7 (am_t2s rfl tq_8 (am_t2s rfl tq_9 (am_t2s rfl tq_10 (am_t2s rfl tq_11 (am_t2s rfl tq_12 (am_t2s rfl tq_13 (am_t2z))))))))))))))
theorem am_tab_ok : am_TbOk am_tab := by
  intro j nL c h
  cases hb : am_tab[j / 16]? with
  | none => rw [hb] at h; cases h
  | some e =>
    rw [hb] at h
    have h1 := am_t1g (am_t2g am_tab2 hb) h
    rw [show 0 + 16 * (j / 16) + j % 16 = j by omega] at h1
    exact h1
/-- the contract of a method at concrete arguments, by running it -/
theorem am_run {d j : Nat} {as : List Value} {h : am_H} {r : am_R} (q : am_evd am_tab d j as h = some r) : am_EG (am_mi j) as h r := am_evd_ok am_tab_ok d j as h r q
