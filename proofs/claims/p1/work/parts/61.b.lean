theorem en_begin : am_all 2 (fun a1 => am_bt [] [] 77 176 [.retAddr a1]) = true := by decide +kernel
theorem bo_begin (a1 : Nat) (h1 : a1 < 4294967296) : Both 77 176 [.retAddr a1] := by
  by_cases c1 : a1 < 2
  · skip
    exact am_bt_ok (am_MoOk.nil) (am_MoOk.nil) (am_all_ok (en_begin) a1 c1)
  · exact bb_begin_0 a1 (by omega) (by omega)
theorem en_over : am_all 12 (fun a1 => am_all 2 (fun a2 => am_bt [] [] 79 178 [.retAddr a1, .retAddr a2])) = true := by decide +kernel
theorem bo_over (a1 : Nat) (h1 : a1 < 4294967296) (a2 : Nat) (h2 : a2 < 4294967296) : Both 79 178 [.retAddr a1, .retAddr a2] := by
  by_cases c1 : a1 < 12
  · skip
    by_cases c2 : a2 < 2
    · skip
      exact am_bt_ok (am_MoOk.nil) (am_MoOk.nil) (am_all_ok (am_all_ok (en_over) a1 c1) a2 c2)
    · exact bb_over_1 a1 (by omega) (by omega) a2 (by omega) (by omega)
  · exact bb_over_0 a1 (by omega) (by omega) a2 (by omega) (by omega)
theorem en_count : am_all 10 (fun a1 => am_bt [] [] 129 209 [.retAddr a1]) = true := by decide +kernel
theorem bo_count (a1 : Nat) (h1 : a1 < 4294967296) : Both 129 209 [.retAddr a1] := by
  by_cases c1 : a1 < 10
  · skip
    exact am_bt_ok (am_MoOk.nil) (am_MoOk.nil) (am_all_ok (en_count) a1 c1)
  · exact bb_count_0 a1 (by omega) (by omega)
theorem en_write : am_all 95 (fun a => am_bt [] [] 46 132 [.retAddr (a + 32)]) = true := by decide +kernel
theorem bo_write (a1 : Nat) (h1 : a1 < 4294967296) : Both 46 132 [.retAddr a1] := by
  by_cases c1 : a1 < 32
  · exact bb_write_0 a1 (by omega) (by omega)
  · by_cases c2 : a1 < 127
    · have h := am_all_ok en_write (a1 - 32) (by omega)
      rw [show a1 - 32 + 32 = a1 by omega] at h
      exact am_bt_ok am_MoOk.nil am_MoOk.nil h
    · exact bb_write_1 a1 (by omega) (by omega)
