/-! ===== both calls ===== -/
theorem jb_begin (x : Nat) (hx : x < 4294967296) : am_B2 Jv false 77 176 [.retAddr x] := jv_2 (fun h hJ => jv_x (co_x0_begin x hx) (co_x1_begin x hx) hJ) (jm_begin x hx)
theorem jb_over (x : Nat) (y : Nat) (hx : x < 4294967296) (hy : y < 4294967296) : am_B2 Jv false 79 178 [.retAddr x, .retAddr y] := jv_2 (fun h hJ => jv_x (co_x0_over x y hx hy) (co_x1_over x y hx hy) hJ) (jm_over x y hx hy)
theorem jb_undo : am_B2 Jv false 81 179 [] := jv_2 (fun h hJ => jv_x (co_x0_undo) (co_x1_undo) hJ) jm_undo
theorem jb_judge : am_B2 Jv false 84 180 [] := jv_2 (fun h hJ => jv_x (co_x0_judge) (co_x1_judge) hJ) (fun h hJ => jv_m (co_m_judge) hJ)
theorem jb_plan (x : Nat) (hx : x < 4294967296) : am_B2 Jv false 85 182 [.retAddr x] := jv_2 (fun h hJ => jv_x (co_x0_plan x hx) (co_x1_plan x hx) hJ) (fun h hJ => jv_m (co_m_plan x hx) hJ)
theorem jb_at (x : Nat) (hx : x < 4294967296) : am_B2 Jv false 86 184 [.retAddr x] := jv_2 (fun h hJ => jv_x (co_x0_at x hx) (co_x1_at x hx) hJ) (fun h hJ => jv_m (co_m_at x hx) hJ)
theorem jb_mean (x : Nat) (y : Nat) (hx : x < 4294967296) (hy : y < 4294967296) : am_B2 Jv false 115 199 [.retAddr x, .retAddr y] := jv_2 (fun h hJ => jv_x (co_x0_mean x y hx hy) (co_x1_mean x y hx hy) hJ) (fun h hJ => jv_m (co_m_mean x y hx hy) hJ)
theorem jb_sure (x : Nat) (hx : x < 4294967296) : am_B2 Jv false 119 202 [.retAddr x] := jv_2 (fun h hJ => jv_x (co_x0_sure x hx) (co_x1_sure x hx) hJ) (fun h hJ => jv_m (co_m_sure x hx) hJ)
theorem jb_count (x : Nat) (hx : x < 4294967296) : am_B2 Jv false 129 209 [.retAddr x] := jv_2 (fun h hJ => jv_x (co_x0_count x hx) (co_x1_count x hx) hJ) (fun h hJ => jv_m (co_m_count x hx) hJ)
