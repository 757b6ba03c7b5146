/-! ===== symbolic runs: the readers ===== -/
theorem rx0_fault : ax_ck ax_is (ax_evd (ax_tab xq0) 9 48 [.ref 0] (ax_x0 0)) = true := by decide +kernel
theorem rx1_fault : ax_ck ax_is (ax_evd (ax_tab xq1) 9 48 [.ref 0] (ax_x0 0)) = true := by decide +kernel
theorem rm_fault : ax_ck ax_is (ax_evd (ax_tab mq) 9 135 [.ref 66] (ax_x0 0)) = true := by decide +kernel
