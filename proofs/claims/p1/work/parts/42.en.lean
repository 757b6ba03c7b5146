theorem bo_wipe : Both 47 134 [] := am_bt_ok am_MoOk.nil am_MoOk.nil (by decide +kernel : am_bt [] [] 47 134 [] = true)
theorem bo_fault : Both 48 135 [] := am_bt_ok am_MoOk.nil am_MoOk.nil (by decide +kernel : am_bt [] [] 48 135 [] = true)
theorem bo_lay : Both 49 151 [] := am_bt_ok am_MoOk.nil am_MoOk.nil (by decide +kernel : am_bt [] [] 49 151 [] = true)
theorem bo_undo : Both 81 179 [] := am_bt_ok am_MoOk.nil am_MoOk.nil (by decide +kernel : am_bt [] [] 81 179 [] = true)
theorem bo_judge : Both 84 180 [] := am_bt_ok am_MoOk.nil am_MoOk.nil (by decide +kernel : am_bt [] [] 84 180 [] = true)
theorem bo_keep : Both 125 207 [] := am_bt_ok am_MoOk.nil am_MoOk.nil (by decide +kernel : am_bt [] [] 125 207 [] = true)
theorem bo_back : Both 128 208 [] := am_bt_ok am_MoOk.nil am_MoOk.nil (by decide +kernel : am_bt [] [] 128 208 [] = true)
theorem en_minute : am_all 2 (fun a1 => am_all 12 (fun a2 => am_all 3 (fun a3 => am_bt [] [(155, [.ref 66, .retAddr 0, .retAddr 4294967292], hp_m, (none, hm_1))] 50 152 [.retAddr a1, .retAddr a2, .retAddr a3]))) = true := by decide +kernel
theorem bo_minute (a1 : Nat) (h1 : a1 < 4294967296) (a2 : Nat) (h2 : a2 < 4294967296) (a3 : Nat) (h3 : a3 < 4294967296) : Both 50 152 [.retAddr a1, .retAddr a2, .retAddr a3] := by
  by_cases c1 : a1 < 2
  · skip
    by_cases c2 : a2 < 12
    · skip
      by_cases c3 : a3 < 3
      · skip
        exact am_bt_ok (am_MoOk.nil) (am_MoOk.cons eg_lay0 (am_MoOk.nil)) (am_all_ok (am_all_ok (am_all_ok (en_minute) a1 c1) a2 c2) a3 c3)
      · exact bb_minute_2 a1 (by omega) (by omega) a2 (by omega) (by omega) a3 (by omega) (by omega)
    · exact bb_minute_1 a1 (by omega) (by omega) a2 (by omega) (by omega) a3 (by omega) (by omega)
  · exact bb_minute_0 a1 (by omega) (by omega) a2 (by omega) (by omega) a3 (by omega) (by omega)
theorem en_watcher : am_all 4 (fun a1 => am_all 6 (fun a2 => am_bt [(60, [.ref 0, .retAddr 0, .ref 32], hp_0, (none, hx_12)), (60, [.ref 0, .retAddr 1, .ref 32], hp_0, (none, hx_13)), (60, [.ref 0, .retAddr 2, .ref 32], hp_0, (none, hx_14)), (60, [.ref 0, .retAddr 3, .ref 32], hp_0, (none, hx_15))] [(155, [.ref 66, .retAddr 0, .retAddr 4294967292], hp_m, (none, hm_1)), (165, [.ref 66, .retAddr 0], hm_1, (none, hm_2)), (165, [.ref 66, .retAddr 1], hm_1, (none, hm_3)), (165, [.ref 66, .retAddr 2], hm_1, (none, hm_4)), (165, [.ref 66, .retAddr 3], hm_1, (none, hm_5)), (172, [.ref 66], hm_2, (none, hm_8)), (172, [.ref 66], hm_3, (none, hm_9)), (172, [.ref 66], hm_4, (none, hm_10)), (172, [.ref 66], hm_5, (none, hm_11))] 58 163 [.retAddr a1, .retAddr a2])) = true := by decide +kernel
theorem bo_watcher (a1 : Nat) (h1 : a1 < 4294967296) (a2 : Nat) (h2 : a2 < 4294967296) : Both 58 163 [.retAddr a1, .retAddr a2] := by
  by_cases c1 : a1 < 4
  · skip
    by_cases c2 : a2 < 6
    · skip
      exact am_bt_ok (am_MoOk.cons eg_fol0 (am_MoOk.cons eg_fol1 (am_MoOk.cons eg_fol2 (am_MoOk.cons eg_fol3 (am_MoOk.nil))))) (am_MoOk.cons eg_lay0 (am_MoOk.cons eg_wat0 (am_MoOk.cons eg_wat1 (am_MoOk.cons eg_wat2 (am_MoOk.cons eg_wat3 (am_MoOk.cons eg_most0 (am_MoOk.cons eg_most1 (am_MoOk.cons eg_most2 (am_MoOk.cons eg_most3 (am_MoOk.nil)))))))))) (am_all_ok (am_all_ok (en_watcher) a1 c1) a2 c2)
    · exact bb_watcher_1 a1 (by omega) (by omega) a2 (by omega) (by omega)
  · exact bb_watcher_0 a1 (by omega) (by omega) a2 (by omega) (by omega)
theorem en_where : am_all 4 (fun a1 => am_all 12 (fun a2 => am_bt [(60, [.ref 0, .retAddr 0, .ref 32], hp_0, (none, hx_12)), (60, [.ref 0, .retAddr 1, .ref 32], hp_0, (none, hx_13)), (60, [.ref 0, .retAddr 2, .ref 32], hp_0, (none, hx_14)), (60, [.ref 0, .retAddr 3, .ref 32], hp_0, (none, hx_15))] [(155, [.ref 66, .retAddr 0, .retAddr 4294967292], hp_m, (none, hm_1)), (165, [.ref 66, .retAddr 0], hm_1, (none, hm_2)), (165, [.ref 66, .retAddr 1], hm_1, (none, hm_3)), (165, [.ref 66, .retAddr 2], hm_1, (none, hm_4)), (165, [.ref 66, .retAddr 3], hm_1, (none, hm_5))] 75 175 [.retAddr a1, .retAddr a2])) = true := by decide +kernel
theorem bo_where (a1 : Nat) (h1 : a1 < 4294967296) (a2 : Nat) (h2 : a2 < 4294967296) : Both 75 175 [.retAddr a1, .retAddr a2] := by
  by_cases c1 : a1 < 4
  · skip
    by_cases c2 : a2 < 12
    · skip
      exact am_bt_ok (am_MoOk.cons eg_fol0 (am_MoOk.cons eg_fol1 (am_MoOk.cons eg_fol2 (am_MoOk.cons eg_fol3 (am_MoOk.nil))))) (am_MoOk.cons eg_lay0 (am_MoOk.cons eg_wat0 (am_MoOk.cons eg_wat1 (am_MoOk.cons eg_wat2 (am_MoOk.cons eg_wat3 (am_MoOk.nil)))))) (am_all_ok (am_all_ok (en_where) a1 c1) a2 c2)
    · exact bb_where_1 a1 (by omega) (by omega) a2 (by omega) (by omega)
  · exact bb_where_0 a1 (by omega) (by omega) a2 (by omega) (by omega)
theorem en_begin : am_all 2 (fun a1 => am_bt [] [] 77 176 [.retAddr a1]) = true := by decide +kernel
theorem bo_begin (a1 : Nat) (h1 : a1 < 4294967296) : Both 77 176 [.retAddr a1] := by
  by_cases c1 : a1 < 2
  · skip
    exact am_bt_ok (am_MoOk.nil) (am_MoOk.nil) (am_all_ok (en_begin) a1 c1)
  · exact bb_begin_0 a1 (by omega) (by omega)
theorem en_over : am_all 12 (fun a1 => am_all 2 (fun a2 => am_bt [] [] 79 178 [.retAddr a1, .retAddr a2])) = true := by decide +kernel
theorem bo_over (a1 : Nat) (h1 : a1 < 4294967296) (a2 : Nat) (h2 : a2 < 4294967296) : Both 79 178 [.retAddr a1, .retAddr a2] := by
  by_cases c1 : a1 < 12
  · skip
    by_cases c2 : a2 < 2
    · skip
      exact am_bt_ok (am_MoOk.nil) (am_MoOk.nil) (am_all_ok (am_all_ok (en_over) a1 c1) a2 c2)
    · exact bb_over_1 a1 (by omega) (by omega) a2 (by omega) (by omega)
  · exact bb_over_0 a1 (by omega) (by omega) a2 (by omega) (by omega)
theorem en_plan : am_all 3 (fun a1 => am_bt [(60, [.ref 0, .retAddr 4294967295, .ref 32], hp_0, (none, hx_16))] [(155, [.ref 66, .retAddr 0, .retAddr 4294967292], hp_m, (none, hm_1)), (183, [.ref 66], hm_1, (none, hm_6))] 85 182 [.retAddr a1]) = true := by decide +kernel
theorem bo_plan (a1 : Nat) (h1 : a1 < 4294967296) : Both 85 182 [.retAddr a1] := by
  by_cases c1 : a1 < 3
  · skip
    exact am_bt_ok (am_MoOk.cons eg_folp (am_MoOk.nil)) (am_MoOk.cons eg_lay0 (am_MoOk.cons eg_plans (am_MoOk.nil))) (am_all_ok (en_plan) a1 c1)
  · exact bb_plan_0 a1 (by omega) (by omega)
theorem en_at : am_all 12 (fun a1 => am_bt [(60, [.ref 0, .retAddr 4294967295, .ref 32], hp_0, (none, hx_16))] [(155, [.ref 66, .retAddr 0, .retAddr 4294967292], hp_m, (none, hm_1)), (183, [.ref 66], hm_1, (none, hm_6))] 86 184 [.retAddr a1]) = true := by decide +kernel
theorem bo_at (a1 : Nat) (h1 : a1 < 4294967296) : Both 86 184 [.retAddr a1] := by
  by_cases c1 : a1 < 12
  · skip
    exact am_bt_ok (am_MoOk.cons eg_folp (am_MoOk.nil)) (am_MoOk.cons eg_lay0 (am_MoOk.cons eg_plans (am_MoOk.nil))) (am_all_ok (en_at) a1 c1)
  · exact bb_at_0 a1 (by omega) (by omega)
theorem en_count : am_all 10 (fun a1 => am_bt [] [] 129 209 [.retAddr a1]) = true := by decide +kernel
theorem bo_count (a1 : Nat) (h1 : a1 < 4294967296) : Both 129 209 [.retAddr a1] := by
  by_cases c1 : a1 < 10
  · skip
    exact am_bt_ok (am_MoOk.nil) (am_MoOk.nil) (am_all_ok (en_count) a1 c1)
  · exact bb_count_0 a1 (by omega) (by omega)
theorem en_write : am_all 95 (fun a => am_bt [] [] 46 132 [.retAddr (a + 32)]) = true := by decide +kernel
theorem bo_write (a1 : Nat) (h1 : a1 < 4294967296) : Both 46 132 [.retAddr a1] := by
  by_cases c1 : a1 < 32
  · exact bb_write_0 a1 (by omega) (by omega)
  · by_cases c2 : a1 < 127
    · have h := am_all_ok en_write (a1 - 32) (by omega)
      rw [show a1 - 32 + 32 = a1 by omega] at h
      exact am_bt_ok am_MoOk.nil am_MoOk.nil h
    · exact bb_write_1 a1 (by omega) (by omega)
