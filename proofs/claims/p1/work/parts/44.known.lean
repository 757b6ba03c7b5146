theorem en_known0 : am_all 32 (fun a => am_bt [] [] 55 160 [.retAddr (0 + a)]) = true := by decide +kernel
theorem en_known1 : am_all 32 (fun a => am_bt [] [] 55 160 [.retAddr (32 + a)]) = true := by decide +kernel
theorem en_known2 : am_all 32 (fun a => am_bt [] [] 55 160 [.retAddr (64 + a)]) = true := by decide +kernel
theorem en_known3 : am_all 32 (fun a => am_bt [] [] 55 160 [.retAddr (96 + a)]) = true := by decide +kernel
theorem en_known4 : am_all 32 (fun a => am_bt [] [] 55 160 [.retAddr (128 + a)]) = true := by decide +kernel
theorem en_known5 : am_all 32 (fun a => am_bt [] [] 55 160 [.retAddr (160 + a)]) = true := by decide +kernel
theorem en_known6 : am_all 32 (fun a => am_bt [] [] 55 160 [.retAddr (192 + a)]) = true := by decide +kernel
theorem en_known7 : am_all 32 (fun a => am_bt [] [] 55 160 [.retAddr (224 + a)]) = true := by decide +kernel
theorem bo_known (a1 : Nat) (h1 : a1 < 4294967296) : Both 55 160 [.retAddr a1] := by
  by_cases c1 : a1 < 256
  · have c2 : a1 / 32 = 0 ∨ a1 / 32 = 1 ∨ a1 / 32 = 2 ∨ a1 / 32 = 3 ∨ a1 / 32 = 4 ∨ a1 / 32 = 5 ∨ a1 / 32 = 6 ∨ a1 / 32 = 7 := by omega
    rcases c2 with c | c | c | c | c | c | c | c
    · have h := am_all_ok en_known0 (a1 - 0) (by omega)
      rw [show 0 + (a1 - 0) = a1 by omega] at h
      exact am_bt_ok am_MoOk.nil am_MoOk.nil h
    · have h := am_all_ok en_known1 (a1 - 32) (by omega)
      rw [show 32 + (a1 - 32) = a1 by omega] at h
      exact am_bt_ok am_MoOk.nil am_MoOk.nil h
    · have h := am_all_ok en_known2 (a1 - 64) (by omega)
      rw [show 64 + (a1 - 64) = a1 by omega] at h
      exact am_bt_ok am_MoOk.nil am_MoOk.nil h
    · have h := am_all_ok en_known3 (a1 - 96) (by omega)
      rw [show 96 + (a1 - 96) = a1 by omega] at h
      exact am_bt_ok am_MoOk.nil am_MoOk.nil h
    · have h := am_all_ok en_known4 (a1 - 128) (by omega)
      rw [show 128 + (a1 - 128) = a1 by omega] at h
      exact am_bt_ok am_MoOk.nil am_MoOk.nil h
    · have h := am_all_ok en_known5 (a1 - 160) (by omega)
      rw [show 160 + (a1 - 160) = a1 by omega] at h
      exact am_bt_ok am_MoOk.nil am_MoOk.nil h
    · have h := am_all_ok en_known6 (a1 - 192) (by omega)
      rw [show 192 + (a1 - 192) = a1 by omega] at h
      exact am_bt_ok am_MoOk.nil am_MoOk.nil h
    · have h := am_all_ok en_known7 (a1 - 224) (by omega)
      rw [show 224 + (a1 - 224) = a1 by omega] at h
      exact am_bt_ok am_MoOk.nil am_MoOk.nil h
  · exact bb_known_0 a1 (by omega) (by omega)
