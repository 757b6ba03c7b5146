/-! ===== write and wipe, both; lay and back of the reference ===== -/
theorem rw_x0A : ax_ck (jw_p 0 1 4294967295) (ax_evd (ax_tab xw0) 9 46 [.ref 0, .retAddr (4294967296 + 0)] (jw_X 0 1 jw_RA [(0, 200)])) = true := by decide +kernel
theorem rw_x0B : ax_ck (jw_p 0 1 4294967293) (ax_evd (ax_tab xw0) 9 46 [.ref 0, .retAddr (4294967296 + 0)] (jw_X 0 1 [(32, 126)] [(200, 200)])) = true := by decide +kernel
theorem rw_x0C : ax_ck (jw_q 0 1) (ax_evd (ax_tab xw0) 9 46 [.ref 0, .retAddr (4294967296 + 0)] (jw_X 0 1 [(32, 126)] [(0, 199)])) = true := by decide +kernel
theorem rw_x0W : ax_ck (ji_p 0 1) (ax_evd (ax_tab xw0) 9 47 [.ref 0] (ji_X 0 1)) = true := by decide +kernel
theorem rw_x1A : ax_ck (jw_p 0 1 4294967295) (ax_evd (ax_tab xw1) 9 46 [.ref 0, .retAddr (4294967296 + 0)] (jw_X 0 1 jw_RA [(0, 200)])) = true := by decide +kernel
theorem rw_x1B : ax_ck (jw_p 0 1 4294967293) (ax_evd (ax_tab xw1) 9 46 [.ref 0, .retAddr (4294967296 + 0)] (jw_X 0 1 [(32, 126)] [(200, 200)])) = true := by decide +kernel
theorem rw_x1C : ax_ck (jw_q 0 1) (ax_evd (ax_tab xw1) 9 46 [.ref 0, .retAddr (4294967296 + 0)] (jw_X 0 1 [(32, 126)] [(0, 199)])) = true := by decide +kernel
theorem rw_x1W : ax_ck (ji_p 0 1) (ax_evd (ax_tab xw1) 9 47 [.ref 0] (ji_X 0 1)) = true := by decide +kernel
theorem rw_mA : ax_ck (jw_p 66 15 4294967295) (ax_evd (ax_tab mw) 9 132 [.ref 66, .retAddr (4294967296 + 0)] (jw_X 66 15 jw_RA [(0, 200)])) = true := by decide +kernel
theorem rw_mB : ax_ck (jw_p 66 15 4294967293) (ax_evd (ax_tab mw) 9 132 [.ref 66, .retAddr (4294967296 + 0)] (jw_X 66 15 [(32, 126)] [(200, 200)])) = true := by decide +kernel
theorem rw_mC : ax_ck (jw_q 66 15) (ax_evd (ax_tab mw) 9 132 [.ref 66, .retAddr (4294967296 + 0)] (jw_X 66 15 [(32, 126)] [(0, 199)])) = true := by decide +kernel
theorem rw_mW : ax_ck (ji_p 66 15) (ax_evd (ax_tab mw) 9 134 [.ref 66] (ji_X 66 15)) = true := by decide +kernel
