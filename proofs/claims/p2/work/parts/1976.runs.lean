/-! ===== symbolic runs ===== -/
theorem sr_x_minute : (ax_evd (ax_tab sx_0) 9 50 [.ref 0, .retAddr 4294967296, .retAddr 4294967297, .retAddr 4294967298] (ax_x0 3)).isSome = true := by decide +kernel
theorem sr_x_known : (ax_evd (ax_tab sx_0) 9 55 [.ref 0, .retAddr 4294967296] (ax_x0 1)).isSome = true := by decide +kernel
theorem sr_x_watcher : (ax_evd (ax_tab sx_0) 9 58 [.ref 0, .retAddr 4294967296, .retAddr 4294967297] (ax_x0 2)).isSome = true := by decide +kernel
theorem sr_x_where : (ax_evd (ax_tab sx_0) 9 75 [.ref 0, .retAddr 4294967296, .retAddr 4294967297] (ax_x0 2)).isSome = true := by decide +kernel
theorem sr_x_begin : (ax_evd (ax_tab sx_0) 9 77 [.ref 0, .retAddr 4294967296] (ax_x0 1)).isSome = true := by decide +kernel
theorem sr_x_over : (ax_evd (ax_tab sx_0) 9 79 [.ref 0, .retAddr 4294967296, .retAddr 4294967297] (ax_x0 2)).isSome = true := by decide +kernel
theorem sr_x_undo : (ax_evd (ax_tab sx_0) 9 81 [.ref 0] (ax_x0 0)).isSome = true := by decide +kernel
theorem sr_x_judge : (ax_evd (ax_tab sx_0) 9 84 [.ref 0] (ax_x0 0)).isSome = true := by decide +kernel
theorem sr_x_plan : (ax_evd (ax_tab sx_0) 9 85 [.ref 0, .retAddr 4294967296] (ax_x0 1)).isSome = true := by decide +kernel
theorem sr_x_at : (ax_evd (ax_tab sx_0) 9 86 [.ref 0, .retAddr 4294967296] (ax_x0 1)).isSome = true := by decide +kernel
theorem sr_x_most : (ax_evd (ax_tab sx_0) 9 87 [.ref 0, .retAddr 4294967296, .retAddr 4294967297, .retAddr 4294967298] (ax_x0 3)).isSome = true := by decide +kernel
theorem sr_x_understand : (ax_evd (ax_tab sx_0) 9 90 [.ref 0, .retAddr 4294967296, .retAddr 4294967297, .retAddr 4294967298] (ax_x0 3)).isSome = true := by decide +kernel
theorem sr_x_soonest : (ax_evd (ax_tab sx_0) 9 100 [.ref 0, .retAddr 4294967296, .retAddr 4294967297] (ax_x0 2)).isSome = true := by decide +kernel
theorem sr_x_ask : (ax_evd (ax_tab sx_0) 9 101 [.ref 0, .retAddr 4294967296, .retAddr 4294967297] (ax_x0 2)).isSome = true := by decide +kernel
theorem sr_x_fair : (ax_evd (ax_tab sx_0) 9 104 [.ref 0, .retAddr 4294967296, .retAddr 4294967297] (ax_x0 2)).isSome = true := by decide +kernel
theorem sr_x_mean : (ax_evd (ax_tab sx_0) 9 115 [.ref 0, .retAddr 4294967296, .retAddr 4294967297] (ax_x0 2)).isSome = true := by decide +kernel
theorem sr_x_sure : (ax_evd (ax_tab sx_0) 9 119 [.ref 0, .retAddr 4294967296] (ax_x0 1)).isSome = true := by decide +kernel
theorem sr_x_fits : (ax_evd (ax_tab sx_0) 9 120 [.ref 0, .retAddr 4294967296] (ax_x0 1)).isSome = true := by decide +kernel
theorem sr_x_matters : (ax_evd (ax_tab sx_0) 9 121 [.ref 0, .retAddr 4294967296] (ax_x0 1)).isSome = true := by decide +kernel
theorem sr_x_night : (ax_evd (ax_tab sx_0) 9 122 [.ref 0, .retAddr 4294967296, .retAddr 4294967297, .retAddr 4294967298] (ax_x0 3)).isSome = true := by decide +kernel
theorem sr_x_keep : (ax_evd (ax_tab sx_0) 9 125 [.ref 0] (ax_x0 0)).isSome = true := by decide +kernel
theorem sr_x_back : (ax_evd (ax_tab sx_0) 9 128 [.ref 0] (ax_x0 0)).isSome = true := by decide +kernel
theorem sr_x_count : (ax_evd (ax_tab sx_0) 9 129 [.ref 0, .retAddr 4294967296] (ax_x0 1)).isSome = true := by decide +kernel
theorem sr_x_write : (ax_evd (ax_tab sx_0) 9 46 [.ref 0, .retAddr 4294967296] (ax_x0 1)).isSome = true := by decide +kernel
theorem sr_x_wipe : (ax_evd (ax_tab sx_0) 9 47 [.ref 0] (ax_x0 0)).isSome = true := by decide +kernel
theorem sr_x_fault : (ax_evd (ax_tab sx_0) 9 48 [.ref 0] (ax_x0 0)).isSome = true := by decide +kernel
theorem sr_m_minute : (ax_evd (ax_tab sm_0) 9 152 [.ref 66, .retAddr 4294967296, .retAddr 4294967297, .retAddr 4294967298] (ax_x0 3)).isSome = true := by decide +kernel
theorem sr_m_known : (ax_evd (ax_tab sm_0) 9 160 [.ref 66, .retAddr 4294967296] (ax_x0 1)).isSome = true := by decide +kernel
theorem sr_m_watcher : (ax_evd (ax_tab sm_0) 9 163 [.ref 66, .retAddr 4294967296, .retAddr 4294967297] (ax_x0 2)).isSome = true := by decide +kernel
theorem sr_m_where : (ax_evd (ax_tab sm_0) 9 175 [.ref 66, .retAddr 4294967296, .retAddr 4294967297] (ax_x0 2)).isSome = true := by decide +kernel
theorem sr_m_begin : (ax_evd (ax_tab sm_0) 9 176 [.ref 66, .retAddr 4294967296] (ax_x0 1)).isSome = true := by decide +kernel
theorem sr_m_over : (ax_evd (ax_tab sm_0) 9 178 [.ref 66, .retAddr 4294967296, .retAddr 4294967297] (ax_x0 2)).isSome = true := by decide +kernel
theorem sr_m_judge : (ax_evd (ax_tab sm_0) 9 180 [.ref 66] (ax_x0 0)).isSome = true := by decide +kernel
theorem sr_m_plan : (ax_evd (ax_tab sm_0) 9 182 [.ref 66, .retAddr 4294967296] (ax_x0 1)).isSome = true := by decide +kernel
theorem sr_m_at : (ax_evd (ax_tab sm_0) 9 184 [.ref 66, .retAddr 4294967296] (ax_x0 1)).isSome = true := by decide +kernel
theorem sr_m_understand : (ax_evd (ax_tab sm_0) 9 186 [.ref 66, .retAddr 4294967296, .retAddr 4294967297, .retAddr 4294967298] (ax_x0 3)).isSome = true := by decide +kernel
theorem sr_m_soonest : (ax_evd (ax_tab sm_0) 9 191 [.ref 66, .retAddr 4294967296, .retAddr 4294967297] (ax_x0 2)).isSome = true := by decide +kernel
theorem sr_m_ask : (ax_evd (ax_tab sm_0) 9 192 [.ref 66, .retAddr 4294967296, .retAddr 4294967297] (ax_x0 2)).isSome = true := by decide +kernel
theorem sr_m_fair : (ax_evd (ax_tab sm_0) 9 194 [.ref 66, .retAddr 4294967296, .retAddr 4294967297] (ax_x0 2)).isSome = true := by decide +kernel
theorem sr_m_mean : (ax_evd (ax_tab sm_0) 9 199 [.ref 66, .retAddr 4294967296, .retAddr 4294967297] (ax_x0 2)).isSome = true := by decide +kernel
theorem sr_m_sure : (ax_evd (ax_tab sm_0) 9 202 [.ref 66, .retAddr 4294967296] (ax_x0 1)).isSome = true := by decide +kernel
theorem sr_m_fits : (ax_evd (ax_tab sm_0) 9 203 [.ref 66, .retAddr 4294967296] (ax_x0 1)).isSome = true := by decide +kernel
theorem sr_m_matters : (ax_evd (ax_tab sm_0) 9 204 [.ref 66, .retAddr 4294967296] (ax_x0 1)).isSome = true := by decide +kernel
theorem sr_m_night : (ax_evd (ax_tab sm_0) 9 205 [.ref 66, .retAddr 4294967296, .retAddr 4294967297, .retAddr 4294967298] (ax_x0 3)).isSome = true := by decide +kernel
theorem sr_m_keep : (ax_evd (ax_tab sm_0) 9 207 [.ref 66] (ax_x0 0)).isSome = true := by decide +kernel
theorem sr_m_back : (ax_evd (ax_tab sm_0) 9 208 [.ref 66] (ax_x0 0)).isSome = true := by decide +kernel
theorem sr_m_count : (ax_evd (ax_tab sm_0) 9 209 [.ref 66, .retAddr 4294967296] (ax_x0 1)).isSome = true := by decide +kernel
theorem sr_m_write : (ax_evd (ax_tab sm_0) 9 132 [.ref 66, .retAddr 4294967296] (ax_x0 1)).isSome = true := by decide +kernel
theorem sr_m_wipe : (ax_evd (ax_tab sm_0) 9 134 [.ref 66] (ax_x0 0)).isSome = true := by decide +kernel
theorem sr_m_fault : (ax_evd (ax_tab sm_0) 9 135 [.ref 66] (ax_x0 0)).isSome = true := by decide +kernel
theorem sr_m_lay : (ax_evd (ax_tab sm_0) 9 151 [.ref 66] (ax_x0 0)).isSome = true := by decide +kernel
