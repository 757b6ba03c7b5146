def mo_0 : am_Mo := []
theorem mo_0_ok : am_MoOk mo_0 := am_MoOk.nil
def mo_1 : am_Mo := [(155, [.ref 66, .retAddr 0, .retAddr 4294967292], hp_m, (none, hm_1))]
theorem mo_1_ok : am_MoOk mo_1 := am_MoOk.cons (j := 155) eg_lay0 (am_MoOk.nil)
theorem en_minute : am_all 2 (fun a1 => am_all 12 (fun a2 => am_all 3 (fun a3 => am_bt mo_0 mo_1 50 152 [.retAddr a1, .retAddr a2, .retAddr a3]))) = true := by decide +kernel
theorem bo_minute (a1 : Nat) (h1 : a1 < 4294967296) (a2 : Nat) (h2 : a2 < 4294967296) (a3 : Nat) (h3 : a3 < 4294967296) : Both 50 152 [.retAddr a1, .retAddr a2, .retAddr a3] := by
  by_cases c1 : a1 < 2
  · skip
    by_cases c2 : a2 < 12
    · skip
      by_cases c3 : a3 < 3
      · skip
        exact am_bt_ok (mo_0_ok) (mo_1_ok) (am_all_ok (am_all_ok (am_all_ok (en_minute) a1 c1) a2 c2) a3 c3)
      · exact bb_minute_2 a1 (by omega) (by omega) a2 (by omega) (by omega) a3 (by omega) (by omega)
    · exact bb_minute_1 a1 (by omega) (by omega) a2 (by omega) (by omega) a3 (by omega) (by omega)
  · exact bb_minute_0 a1 (by omega) (by omega) a2 (by omega) (by omega) a3 (by omega) (by omega)
def mo_2 : am_Mo := [(60, [.ref 0, .retAddr 0, .ref 32], hp_0, (none, hx_12)), (60, [.ref 0, .retAddr 1, .ref 32], hp_0, (none, hx_13)), (60, [.ref 0, .retAddr 2, .ref 32], hp_0, (none, hx_14)), (60, [.ref 0, .retAddr 3, .ref 32], hp_0, (none, hx_15))]
theorem mo_2_ok : am_MoOk mo_2 := am_MoOk.cons (j := 60) eg_fol0 (am_MoOk.cons (j := 60) eg_fol1 (am_MoOk.cons (j := 60) eg_fol2 (am_MoOk.cons (j := 60) eg_fol3 (am_MoOk.nil))))
def mo_3 : am_Mo := [(155, [.ref 66, .retAddr 0, .retAddr 4294967292], hp_m, (none, hm_1)), (165, [.ref 66, .retAddr 0], hm_1, (none, hm_2)), (165, [.ref 66, .retAddr 1], hm_1, (none, hm_3)), (165, [.ref 66, .retAddr 2], hm_1, (none, hm_4)), (165, [.ref 66, .retAddr 3], hm_1, (none, hm_5)), (172, [.ref 66], hm_2, (none, hm_8)), (172, [.ref 66], hm_3, (none, hm_9)), (172, [.ref 66], hm_4, (none, hm_10)), (172, [.ref 66], hm_5, (none, hm_11))]
theorem mo_3_ok : am_MoOk mo_3 := am_MoOk.cons (j := 155) eg_lay0 (am_MoOk.cons (j := 165) eg_wat0 (am_MoOk.cons (j := 165) eg_wat1 (am_MoOk.cons (j := 165) eg_wat2 (am_MoOk.cons (j := 165) eg_wat3 (am_MoOk.cons (j := 172) eg_most0 (am_MoOk.cons (j := 172) eg_most1 (am_MoOk.cons (j := 172) eg_most2 (am_MoOk.cons (j := 172) eg_most3 (am_MoOk.nil)))))))))
theorem en_watcher : am_all 4 (fun a1 => am_all 6 (fun a2 => am_bt mo_2 mo_3 58 163 [.retAddr a1, .retAddr a2])) = true := by decide +kernel
theorem bo_watcher (a1 : Nat) (h1 : a1 < 4294967296) (a2 : Nat) (h2 : a2 < 4294967296) : Both 58 163 [.retAddr a1, .retAddr a2] := by
  by_cases c1 : a1 < 4
  · skip
    by_cases c2 : a2 < 6
    · skip
      exact am_bt_ok (mo_2_ok) (mo_3_ok) (am_all_ok (am_all_ok (en_watcher) a1 c1) a2 c2)
    · exact bb_watcher_1 a1 (by omega) (by omega) a2 (by omega) (by omega)
  · exact bb_watcher_0 a1 (by omega) (by omega) a2 (by omega) (by omega)
def mo_4 : am_Mo := [(155, [.ref 66, .retAddr 0, .retAddr 4294967292], hp_m, (none, hm_1)), (165, [.ref 66, .retAddr 0], hm_1, (none, hm_2)), (165, [.ref 66, .retAddr 1], hm_1, (none, hm_3)), (165, [.ref 66, .retAddr 2], hm_1, (none, hm_4)), (165, [.ref 66, .retAddr 3], hm_1, (none, hm_5))]
theorem mo_4_ok : am_MoOk mo_4 := am_MoOk.cons (j := 155) eg_lay0 (am_MoOk.cons (j := 165) eg_wat0 (am_MoOk.cons (j := 165) eg_wat1 (am_MoOk.cons (j := 165) eg_wat2 (am_MoOk.cons (j := 165) eg_wat3 (am_MoOk.nil)))))
theorem en_where : am_all 4 (fun a1 => am_all 12 (fun a2 => am_bt mo_2 mo_4 75 175 [.retAddr a1, .retAddr a2])) = true := by decide +kernel
theorem bo_where (a1 : Nat) (h1 : a1 < 4294967296) (a2 : Nat) (h2 : a2 < 4294967296) : Both 75 175 [.retAddr a1, .retAddr a2] := by
  by_cases c1 : a1 < 4
  · skip
    by_cases c2 : a2 < 12
    · skip
      exact am_bt_ok (mo_2_ok) (mo_4_ok) (am_all_ok (am_all_ok (en_where) a1 c1) a2 c2)
    · exact bb_where_1 a1 (by omega) (by omega) a2 (by omega) (by omega)
  · exact bb_where_0 a1 (by omega) (by omega) a2 (by omega) (by omega)
def mo_5 : am_Mo := [(60, [.ref 0, .retAddr 4294967295, .ref 32], hp_0, (none, hx_16))]
theorem mo_5_ok : am_MoOk mo_5 := am_MoOk.cons (j := 60) eg_folp (am_MoOk.nil)
def mo_6 : am_Mo := [(155, [.ref 66, .retAddr 0, .retAddr 4294967292], hp_m, (none, hm_1)), (183, [.ref 66], hm_1, (none, hm_6))]
theorem mo_6_ok : am_MoOk mo_6 := am_MoOk.cons (j := 155) eg_lay0 (am_MoOk.cons (j := 183) eg_plans (am_MoOk.nil))
theorem en_plan : am_all 3 (fun a1 => am_bt mo_5 mo_6 85 182 [.retAddr a1]) = true := by decide +kernel
theorem bo_plan (a1 : Nat) (h1 : a1 < 4294967296) : Both 85 182 [.retAddr a1] := by
  by_cases c1 : a1 < 3
  · skip
    exact am_bt_ok (mo_5_ok) (mo_6_ok) (am_all_ok (en_plan) a1 c1)
  · exact bb_plan_0 a1 (by omega) (by omega)
theorem en_at : am_all 12 (fun a1 => am_bt mo_5 mo_6 86 184 [.retAddr a1]) = true := by decide +kernel
theorem bo_at (a1 : Nat) (h1 : a1 < 4294967296) : Both 86 184 [.retAddr a1] := by
  by_cases c1 : a1 < 12
  · skip
    exact am_bt_ok (mo_5_ok) (mo_6_ok) (am_all_ok (en_at) a1 c1)
  · exact bb_at_0 a1 (by omega) (by omega)
