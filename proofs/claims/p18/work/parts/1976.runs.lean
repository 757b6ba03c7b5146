/-! ===== symbolic runs ===== -/
theorem rx0_minute : ax_ck ax_is (ax_evd (ax_tab xq0) 9 50 [.ref 0, .retAddr (4294967296 + 0), .retAddr (4294967296 + 1), .retAddr (4294967296 + 2)] (ax_x0 3)) = true := by decide +kernel
theorem rx1_minute : ax_ck ax_is (ax_evd (ax_tab xq1) 9 50 [.ref 0, .retAddr (4294967296 + 0), .retAddr (4294967296 + 1), .retAddr (4294967296 + 2)] (ax_x0 3)) = true := by decide +kernel
theorem rm_minute : ax_ck ax_is (ax_evd (ax_tab mq) 9 152 [.ref 66, .retAddr (4294967296 + 0), .retAddr (4294967296 + 1), .retAddr (4294967296 + 2)] (ax_x0 3)) = true := by decide +kernel
theorem rx0_known : ax_ck ax_is (ax_evd (ax_tab xq0) 9 55 [.ref 0, .retAddr (4294967296 + 0)] (ax_x0 1)) = true := by decide +kernel
theorem rx1_known : ax_ck ax_is (ax_evd (ax_tab xq1) 9 55 [.ref 0, .retAddr (4294967296 + 0)] (ax_x0 1)) = true := by decide +kernel
theorem rm_known : ax_ck ax_is (ax_evd (ax_tab mq) 9 160 [.ref 66, .retAddr (4294967296 + 0)] (ax_x0 1)) = true := by decide +kernel
theorem rx0_watcher : ax_ck ax_is (ax_evd (ax_tab xq0) 9 58 [.ref 0, .retAddr (4294967296 + 0), .retAddr (4294967296 + 1)] (ax_x0 2)) = true := by decide +kernel
theorem rx1_watcher : ax_ck ax_is (ax_evd (ax_tab xq1) 9 58 [.ref 0, .retAddr (4294967296 + 0), .retAddr (4294967296 + 1)] (ax_x0 2)) = true := by decide +kernel
theorem rm_watcher : ax_ck ax_is (ax_evd (ax_tab mq) 9 163 [.ref 66, .retAddr (4294967296 + 0), .retAddr (4294967296 + 1)] (ax_x0 2)) = true := by decide +kernel
theorem rx0_where : ax_ck ax_is (ax_evd (ax_tab xq0) 9 75 [.ref 0, .retAddr (4294967296 + 0), .retAddr (4294967296 + 1)] (ax_x0 2)) = true := by decide +kernel
theorem rx1_where : ax_ck ax_is (ax_evd (ax_tab xq1) 9 75 [.ref 0, .retAddr (4294967296 + 0), .retAddr (4294967296 + 1)] (ax_x0 2)) = true := by decide +kernel
theorem rm_where : ax_ck ax_is (ax_evd (ax_tab mq) 9 175 [.ref 66, .retAddr (4294967296 + 0), .retAddr (4294967296 + 1)] (ax_x0 2)) = true := by decide +kernel
theorem rx0_begin : ax_ck ax_is (ax_evd (ax_tab xq0) 9 77 [.ref 0, .retAddr (4294967296 + 0)] (ax_x0 1)) = true := by decide +kernel
theorem rx1_begin : ax_ck ax_is (ax_evd (ax_tab xq1) 9 77 [.ref 0, .retAddr (4294967296 + 0)] (ax_x0 1)) = true := by decide +kernel
theorem rx0_over : ax_ck ax_is (ax_evd (ax_tab xq0) 9 79 [.ref 0, .retAddr (4294967296 + 0), .retAddr (4294967296 + 1)] (ax_x0 2)) = true := by decide +kernel
theorem rx1_over : ax_ck ax_is (ax_evd (ax_tab xq1) 9 79 [.ref 0, .retAddr (4294967296 + 0), .retAddr (4294967296 + 1)] (ax_x0 2)) = true := by decide +kernel
theorem rx0_undo : ax_ck ax_is (ax_evd (ax_tab xq0) 9 81 [.ref 0] (ax_x0 0)) = true := by decide +kernel
theorem rx1_undo : ax_ck ax_is (ax_evd (ax_tab xq1) 9 81 [.ref 0] (ax_x0 0)) = true := by decide +kernel
theorem rx0_judge : ax_ck ax_is (ax_evd (ax_tab xq0) 9 84 [.ref 0] (ax_x0 0)) = true := by decide +kernel
theorem rx1_judge : ax_ck ax_is (ax_evd (ax_tab xq1) 9 84 [.ref 0] (ax_x0 0)) = true := by decide +kernel
theorem rm_judge : ax_ck ax_is (ax_evd (ax_tab mq) 9 180 [.ref 66] (ax_x0 0)) = true := by decide +kernel
theorem rx0_plan : ax_ck ax_is (ax_evd (ax_tab xq0) 9 85 [.ref 0, .retAddr (4294967296 + 0)] (ax_x0 1)) = true := by decide +kernel
theorem rx1_plan : ax_ck ax_is (ax_evd (ax_tab xq1) 9 85 [.ref 0, .retAddr (4294967296 + 0)] (ax_x0 1)) = true := by decide +kernel
theorem rm_plan : ax_ck ax_is (ax_evd (ax_tab mq) 9 182 [.ref 66, .retAddr (4294967296 + 0)] (ax_x0 1)) = true := by decide +kernel
theorem rx0_at : ax_ck ax_is (ax_evd (ax_tab xq0) 9 86 [.ref 0, .retAddr (4294967296 + 0)] (ax_x0 1)) = true := by decide +kernel
theorem rx1_at : ax_ck ax_is (ax_evd (ax_tab xq1) 9 86 [.ref 0, .retAddr (4294967296 + 0)] (ax_x0 1)) = true := by decide +kernel
theorem rm_at : ax_ck ax_is (ax_evd (ax_tab mq) 9 184 [.ref 66, .retAddr (4294967296 + 0)] (ax_x0 1)) = true := by decide +kernel
theorem rx0_most : ax_ck ax_is (ax_evd (ax_tab xq0) 9 87 [.ref 0, .retAddr (4294967296 + 0), .retAddr (4294967296 + 1), .retAddr (4294967296 + 2)] (ax_x0 3)) = true := by decide +kernel
theorem rx1_most : ax_ck ax_is (ax_evd (ax_tab xq1) 9 87 [.ref 0, .retAddr (4294967296 + 0), .retAddr (4294967296 + 1), .retAddr (4294967296 + 2)] (ax_x0 3)) = true := by decide +kernel
theorem rx0_ask : ax_ck ax_is (ax_evd (ax_tab xq0) 9 101 [.ref 0, .retAddr (4294967296 + 0), .retAddr (4294967296 + 1)] (ax_x0 2)) = true := by decide +kernel
theorem rx1_ask : ax_ck ax_is (ax_evd (ax_tab xq1) 9 101 [.ref 0, .retAddr (4294967296 + 0), .retAddr (4294967296 + 1)] (ax_x0 2)) = true := by decide +kernel
theorem rm_ask : ax_ck ax_is (ax_evd (ax_tab mq) 9 192 [.ref 66, .retAddr (4294967296 + 0), .retAddr (4294967296 + 1)] (ax_x0 2)) = true := by decide +kernel
theorem rx0_mean : ax_ck ax_is (ax_evd (ax_tab xq0) 9 115 [.ref 0, .retAddr (4294967296 + 0), .retAddr (4294967296 + 1)] (ax_x0 2)) = true := by decide +kernel
theorem rx1_mean : ax_ck ax_is (ax_evd (ax_tab xq1) 9 115 [.ref 0, .retAddr (4294967296 + 0), .retAddr (4294967296 + 1)] (ax_x0 2)) = true := by decide +kernel
theorem rm_mean : ax_ck ax_is (ax_evd (ax_tab mq) 9 199 [.ref 66, .retAddr (4294967296 + 0), .retAddr (4294967296 + 1)] (ax_x0 2)) = true := by decide +kernel
theorem rx0_sure : ax_ck ax_is (ax_evd (ax_tab xq0) 9 119 [.ref 0, .retAddr (4294967296 + 0)] (ax_x0 1)) = true := by decide +kernel
theorem rx1_sure : ax_ck ax_is (ax_evd (ax_tab xq1) 9 119 [.ref 0, .retAddr (4294967296 + 0)] (ax_x0 1)) = true := by decide +kernel
theorem rm_sure : ax_ck ax_is (ax_evd (ax_tab mq) 9 202 [.ref 66, .retAddr (4294967296 + 0)] (ax_x0 1)) = true := by decide +kernel
theorem rx0_fits : ax_ck ax_is (ax_evd (ax_tab xq0) 9 120 [.ref 0, .retAddr (4294967296 + 0)] (ax_x0 1)) = true := by decide +kernel
theorem rx1_fits : ax_ck ax_is (ax_evd (ax_tab xq1) 9 120 [.ref 0, .retAddr (4294967296 + 0)] (ax_x0 1)) = true := by decide +kernel
theorem rm_fits : ax_ck ax_is (ax_evd (ax_tab mq) 9 203 [.ref 66, .retAddr (4294967296 + 0)] (ax_x0 1)) = true := by decide +kernel
theorem rx0_matters : ax_ck ax_is (ax_evd (ax_tab xq0) 9 121 [.ref 0, .retAddr (4294967296 + 0)] (ax_x0 1)) = true := by decide +kernel
theorem rx1_matters : ax_ck ax_is (ax_evd (ax_tab xq1) 9 121 [.ref 0, .retAddr (4294967296 + 0)] (ax_x0 1)) = true := by decide +kernel
theorem rm_matters : ax_ck ax_is (ax_evd (ax_tab mq) 9 204 [.ref 66, .retAddr (4294967296 + 0)] (ax_x0 1)) = true := by decide +kernel
theorem rx0_night : ax_ck ax_is (ax_evd (ax_tab xq0) 9 122 [.ref 0, .retAddr (4294967296 + 0), .retAddr (4294967296 + 1), .retAddr (4294967296 + 2)] (ax_x0 3)) = true := by decide +kernel
theorem rx1_night : ax_ck ax_is (ax_evd (ax_tab xq1) 9 122 [.ref 0, .retAddr (4294967296 + 0), .retAddr (4294967296 + 1), .retAddr (4294967296 + 2)] (ax_x0 3)) = true := by decide +kernel
theorem rm_night : ax_ck ax_is (ax_evd (ax_tab mq) 9 205 [.ref 66, .retAddr (4294967296 + 0), .retAddr (4294967296 + 1), .retAddr (4294967296 + 2)] (ax_x0 3)) = true := by decide +kernel
theorem rx0_count : ax_ck ax_is (ax_evd (ax_tab xq0) 9 129 [.ref 0, .retAddr (4294967296 + 0)] (ax_x0 1)) = true := by decide +kernel
theorem rx1_count : ax_ck ax_is (ax_evd (ax_tab xq1) 9 129 [.ref 0, .retAddr (4294967296 + 0)] (ax_x0 1)) = true := by decide +kernel
theorem rm_count : ax_ck ax_is (ax_evd (ax_tab mq) 9 209 [.ref 66, .retAddr (4294967296 + 0)] (ax_x0 1)) = true := by decide +kernel
