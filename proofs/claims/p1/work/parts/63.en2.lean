def mo_7 : am_Mo := [(88, [.ref 43, .ref 4, .ref 32, .retAddr 0, .retAddr 0], hp_0, (none, hx_24)), (88, [.ref 43, .ref 4, .ref 32, .retAddr 0, .retAddr 1], hp_0, (none, hx_24)), (88, [.ref 43, .ref 4, .ref 32, .retAddr 0, .retAddr 2], hp_0, (none, hx_24)), (88, [.ref 43, .ref 4, .ref 32, .retAddr 0, .retAddr 3], hp_0, (none, hx_24)), (88, [.ref 43, .ref 4, .ref 32, .retAddr 0, .retAddr 4], hp_0, (none, hx_24)), (88, [.ref 43, .ref 4, .ref 32, .retAddr 0, .retAddr 5], hp_0, (none, hx_25)), (88, [.ref 43, .ref 4, .ref 32, .retAddr 0, .retAddr 6], hp_0, (none, hp_0)), (88, [.ref 43, .ref 4, .ref 32, .retAddr 0, .retAddr 7], hp_0, (none, hp_0)), (88, [.ref 43, .ref 4, .ref 32, .retAddr 0, .retAddr 8], hp_0, (none, hp_0)), (88, [.ref 43, .ref 4, .ref 32, .retAddr 0, .retAddr 9], hp_0, (none, hp_0)), (88, [.ref 43, .ref 4, .ref 32, .retAddr 0, .retAddr 10], hp_0, (none, hp_0)), (88, [.ref 43, .ref 4, .ref 32, .retAddr 0, .retAddr 11], hp_0, (none, hp_0))]
theorem mo_7_ok : am_MoOk mo_7 := am_MoOk.cons (j := 88) eg_ffg0_0 (am_MoOk.cons (j := 88) eg_ffg0_1 (am_MoOk.cons (j := 88) eg_ffg0_2 (am_MoOk.cons (j := 88) eg_ffg0_3 (am_MoOk.cons (j := 88) eg_ffg0_4 (am_MoOk.cons (j := 88) eg_ffg0_5 (am_MoOk.cons (j := 88) eg_ffg0_6 (am_MoOk.cons (j := 88) eg_ffg0_7 (am_MoOk.cons (j := 88) eg_ffg0_8 (am_MoOk.cons (j := 88) eg_ffg0_9 (am_MoOk.cons (j := 88) eg_ffg0_10 (am_MoOk.cons (j := 88) eg_ffg0_11 (am_MoOk.nil))))))))))))
def mo_8 : am_Mo := [(155, [.ref 66, .retAddr 0, .retAddr 4294967292], hp_m, (none, hm_1)), (172, [.ref 66], hm_1, (none, hm_7))]
theorem mo_8_ok : am_MoOk mo_8 := am_MoOk.cons (j := 155) eg_lay0 (am_MoOk.cons (j := 172) eg_most (am_MoOk.nil))
theorem en_most0 : am_all 12 (fun a1 => am_all 3 (fun a2 => am_bt mo_7 mo_8 87 185 [.retAddr 0, .retAddr a1, .retAddr a2])) = true := by decide +kernel
def mo_9 : am_Mo := [(88, [.ref 43, .ref 4, .ref 32, .retAddr 1, .retAddr 0], hp_0, (none, hx_26)), (88, [.ref 43, .ref 4, .ref 32, .retAddr 1, .retAddr 1], hp_0, (none, hx_26)), (88, [.ref 43, .ref 4, .ref 32, .retAddr 1, .retAddr 2], hp_0, (none, hp_0)), (88, [.ref 43, .ref 4, .ref 32, .retAddr 1, .retAddr 3], hp_0, (none, hp_0)), (88, [.ref 43, .ref 4, .ref 32, .retAddr 1, .retAddr 4], hp_0, (none, hp_0)), (88, [.ref 43, .ref 4, .ref 32, .retAddr 1, .retAddr 5], hp_0, (none, hp_0)), (88, [.ref 43, .ref 4, .ref 32, .retAddr 1, .retAddr 6], hp_0, (none, hp_0)), (88, [.ref 43, .ref 4, .ref 32, .retAddr 1, .retAddr 7], hp_0, (none, hp_0)), (88, [.ref 43, .ref 4, .ref 32, .retAddr 1, .retAddr 8], hp_0, (none, hp_0)), (88, [.ref 43, .ref 4, .ref 32, .retAddr 1, .retAddr 9], hp_0, (none, hp_0)), (88, [.ref 43, .ref 4, .ref 32, .retAddr 1, .retAddr 10], hp_0, (none, hp_0)), (88, [.ref 43, .ref 4, .ref 32, .retAddr 1, .retAddr 11], hp_0, (none, hp_0))]
theorem mo_9_ok : am_MoOk mo_9 := am_MoOk.cons (j := 88) eg_ffg1_0 (am_MoOk.cons (j := 88) eg_ffg1_1 (am_MoOk.cons (j := 88) eg_ffg1_2 (am_MoOk.cons (j := 88) eg_ffg1_3 (am_MoOk.cons (j := 88) eg_ffg1_4 (am_MoOk.cons (j := 88) eg_ffg1_5 (am_MoOk.cons (j := 88) eg_ffg1_6 (am_MoOk.cons (j := 88) eg_ffg1_7 (am_MoOk.cons (j := 88) eg_ffg1_8 (am_MoOk.cons (j := 88) eg_ffg1_9 (am_MoOk.cons (j := 88) eg_ffg1_10 (am_MoOk.cons (j := 88) eg_ffg1_11 (am_MoOk.nil))))))))))))
theorem en_most1 : am_all 12 (fun a1 => am_all 3 (fun a2 => am_bt mo_9 mo_8 87 185 [.retAddr 1, .retAddr a1, .retAddr a2])) = true := by decide +kernel
theorem bo_most (a1 : Nat) (h1 : a1 < 4294967296) (a2 : Nat) (h2 : a2 < 4294967296) (a3 : Nat) (h3 : a3 < 4294967296) : Both 87 185 [.retAddr a1, .retAddr a2, .retAddr a3] := by
  by_cases c1 : a1 < 2
  · by_cases c2 : a2 < 12
    · by_cases c3 : a3 < 3
      · have c4 : a1 = 0 ∨ a1 = 1 := by omega
        rcases c4 with rfl | rfl
        · exact am_bt_ok (mo_7_ok) (mo_8_ok) (am_all_ok (am_all_ok en_most0 a2 c2) a3 c3)
        · exact am_bt_ok (mo_9_ok) (mo_8_ok) (am_all_ok (am_all_ok en_most1 a2 c2) a3 c3)
      · exact bb_most_2 a1 (by omega) (by omega) a2 (by omega) (by omega) a3 (by omega) (by omega)
    · exact bb_most_1 a1 (by omega) (by omega) a2 (by omega) (by omega) a3 (by omega) (by omega)
  · exact bb_most_0 a1 (by omega) (by omega) a2 (by omega) (by omega) a3 (by omega) (by omega)
def mo_10 : am_Mo := [(107, [.ref 47, .ref 4, .ref 32], hp_0, (none, hx_17))]
theorem mo_10_ok : am_MoOk mo_10 := am_MoOk.cons (j := 107) eg_share (am_MoOk.nil)
theorem en_fair0_0 : am_bt mo_10 mo_1 104 194 [.retAddr 0, .retAddr 0] = true := by decide +kernel
theorem en_fair1_0 : am_bt mo_10 mo_1 104 194 [.retAddr 0, .retAddr 1] = true := by decide +kernel
theorem en_fair1_1 : am_bt mo_10 mo_1 104 194 [.retAddr 1, .retAddr 1] = true := by decide +kernel
theorem en_fair2_0 : am_bt mo_10 mo_1 104 194 [.retAddr 0, .retAddr 2] = true := by decide +kernel
theorem en_fair2_1 : am_bt mo_10 mo_1 104 194 [.retAddr 1, .retAddr 2] = true := by decide +kernel
theorem en_fair2_2 : am_bt mo_10 mo_1 104 194 [.retAddr 2, .retAddr 2] = true := by decide +kernel
theorem en_fair2_3 : am_bt mo_10 mo_1 104 194 [.retAddr 3, .retAddr 2] = true := by decide +kernel
theorem bo_fair (a1 : Nat) (h1 : a1 < 4294967296) (a2 : Nat) (h2 : a2 < 4294967296) : Both 104 194 [.retAddr a1, .retAddr a2] := by
  by_cases c0 : a2 < 3
  · have c1 : a2 = 0 ∨ a2 = 1 ∨ a2 = 2 := by omega
    rcases c1 with rfl | rfl | rfl
    · by_cases c2 : a1 < 1
      · match a1, c2 with
        | 0, _ => exact am_bt_ok (mo_10_ok) (mo_1_ok) en_fair0_0
        | a + 1, h => exact absurd h (by omega)
      · exact bb_fair_1 a1 (by omega) (by omega) 0 (by omega) (by omega)
    · by_cases c2 : a1 < 2
      · match a1, c2 with
        | 0, _ => exact am_bt_ok (mo_10_ok) (mo_1_ok) en_fair1_0
        | 1, _ => exact am_bt_ok (mo_10_ok) (mo_1_ok) en_fair1_1
        | a + 2, h => exact absurd h (by omega)
      · exact bb_fair_2 a1 (by omega) (by omega) 1 (by omega) (by omega)
    · by_cases c2 : a1 < 4
      · match a1, c2 with
        | 0, _ => exact am_bt_ok (mo_10_ok) (mo_1_ok) en_fair2_0
        | 1, _ => exact am_bt_ok (mo_10_ok) (mo_1_ok) en_fair2_1
        | 2, _ => exact am_bt_ok (mo_10_ok) (mo_1_ok) en_fair2_2
        | 3, _ => exact am_bt_ok (mo_10_ok) (mo_1_ok) en_fair2_3
        | a + 4, h => exact absurd h (by omega)
      · exact bb_fair_3 a1 (by omega) (by omega) 2 (by omega) (by omega)
  · exact bb_fair_0 a1 (by omega) (by omega) a2 (by omega) (by omega)
def mo_11 : am_Mo := [(32, [.ref 36, .ref 4, .retAddr 0, .retAddr 4294967292], hp_0, (none, hx_18)), (60, [.ref 0, .retAddr 0, .ref 36], hx_18, (none, hx_19)), (60, [.ref 0, .retAddr 1, .ref 36], hx_18, (none, hx_20)), (60, [.ref 0, .retAddr 2, .ref 36], hx_18, (none, hx_21)), (60, [.ref 0, .retAddr 3, .ref 36], hx_18, (none, hx_22))]
theorem mo_11_ok : am_MoOk mo_11 := am_MoOk.cons (j := 32) eg_trial (am_MoOk.cons (j := 60) eg_folt0 (am_MoOk.cons (j := 60) eg_folt1 (am_MoOk.cons (j := 60) eg_folt2 (am_MoOk.cons (j := 60) eg_folt3 (am_MoOk.nil)))))
theorem en_mean : am_all 4 (fun a1 => am_all 2 (fun a2 => am_bt mo_11 mo_4 115 199 [.retAddr a1, .retAddr a2])) = true := by decide +kernel
def mo_12 : am_Mo := [(32, [.ref 36, .ref 4, .retAddr 0, .retAddr 4294967292], hp_0, (none, hx_18)), (60, [.ref 0, .retAddr 4294967295, .ref 36], hx_18, (none, hx_23))]
theorem mo_12_ok : am_MoOk mo_12 := am_MoOk.cons (j := 32) eg_trial (am_MoOk.cons (j := 60) eg_foltp (am_MoOk.nil))
theorem en_meanp : am_all 2 (fun a1 => am_bt mo_12 mo_6 115 199 [.retAddr 4294967295, .retAddr a1]) = true := by decide +kernel
theorem bo_mean (a1 : Nat) (h1 : a1 < 4294967296) (a2 : Nat) (h2 : a2 < 4294967296) : Both 115 199 [.retAddr a1, .retAddr a2] := by
  by_cases c1 : a1 < 4
  · by_cases c2 : a2 < 2
    · exact am_bt_ok (mo_11_ok) (mo_4_ok) (am_all_ok (am_all_ok en_mean a1 c1) a2 c2)
    · exact bb_mean_1 a1 (by omega) (by omega) a2 (by omega) (by omega)
  · by_cases c3 : a1 = 4294967295
    · subst c3
      by_cases c2 : a2 < 2
      · exact am_bt_ok (mo_12_ok) (mo_6_ok) (am_all_ok en_meanp a2 c2)
      · exact bb_mean_2 4294967295 (by omega) (by omega) a2 (by omega) (by omega)
    · exact bb_mean_0 a1 (by omega) (by omega) a2 (by omega) (by omega)
theorem en_sure : am_all 4 (fun a1 => am_bt mo_11 mo_4 119 202 [.retAddr a1]) = true := by decide +kernel
theorem en_surep : am_bt mo_12 mo_6 119 202 [.retAddr 4294967295] = true := by decide +kernel
theorem bo_sure (a1 : Nat) (h1 : a1 < 4294967296) : Both 119 202 [.retAddr a1] := by
  by_cases c1 : a1 < 4
  · exact am_bt_ok (mo_11_ok) (mo_4_ok) (am_all_ok en_sure a1 c1)
  · by_cases c3 : a1 = 4294967295
    · subst c3
      exact am_bt_ok (mo_12_ok) (mo_6_ok) en_surep
    · exact bb_sure_0 a1 (by omega) (by omega)
