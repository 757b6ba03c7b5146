/-! ===== write and wipe, both; lay and back of the reference ===== -/
theorem rw_x0A : ax_ck (jw_p 0 1 4294967295) (ax_evd (ax_tab xw0) 9 46 [.ref 0, .retAddr (4294967296 + 0)] (jw_X 0 1 jw_RA [(0, 200)])) = true := by decide +kernel
theorem rw_x0B : ax_ck (jw_p 0 1 4294967293) (ax_evd (ax_tab xw0) 9 46 [.ref 0, .retAddr (4294967296 + 0)] (jw_X 0 1 [(32, 126)] [(200, 200)])) = true := by decide +kernel
theorem rw_x0C : ax_ck (jw_q 0 1) (ax_evd (ax_tab xw0) 9 46 [.ref 0, .retAddr (4294967296 + 0)] (jw_X 0 1 [(32, 126)] [(0, 199)])) = true := by decide +kernel
theorem rw_x0W : ax_ck (ji_p 0 1) (ax_evd (ax_tab xw0) 9 47 [.ref 0] (ji_X 0 1)) = true := by decide +kernel
theorem rw_x1A : ax_ck (jw_p 0 1 4294967295) (ax_evd (ax_tab xw1) 9 46 [.ref 0, .retAddr (4294967296 + 0)] (jw_X 0 1 jw_RA [(0, 200)])) = true := by decide +kernel
theorem rw_x1B : ax_ck (jw_p 0 1 4294967293) (ax_evd (ax_tab xw1) 9 46 [.ref 0, .retAddr (4294967296 + 0)] (jw_X 0 1 [(32, 126)] [(200, 200)])) = true := by decide +kernel
theorem rw_x1C : ax_ck (jw_q 0 1) (ax_evd (ax_tab xw1) 9 46 [.ref 0, .retAddr (4294967296 + 0)] (jw_X 0 1 [(32, 126)] [(0, 199)])) = true := by decide +kernel
theorem rw_x1W : ax_ck (ji_p 0 1) (ax_evd (ax_tab xw1) 9 47 [.ref 0] (ji_X 0 1)) = true := by decide +kernel
theorem rw_mA : ax_ck (jw_p 66 15 4294967295) (ax_evd (ax_tab mw) 9 132 [.ref 66, .retAddr (4294967296 + 0)] (jw_X 66 15 jw_RA [(0, 200)])) = true := by decide +kernel
theorem rw_mB : ax_ck (jw_p 66 15 4294967293) (ax_evd (ax_tab mw) 9 132 [.ref 66, .retAddr (4294967296 + 0)] (jw_X 66 15 [(32, 126)] [(200, 200)])) = true := by decide +kernel
theorem rw_mC : ax_ck (jw_q 66 15) (ax_evd (ax_tab mw) 9 132 [.ref 66, .retAddr (4294967296 + 0)] (jw_X 66 15 [(32, 126)] [(0, 199)])) = true := by decide +kernel
theorem rw_mW : ax_ck (ji_p 66 15) (ax_evd (ax_tab mw) 9 134 [.ref 66] (ji_X 66 15)) = true := by decide +kernel
theorem rl_mback : ax_ck jl_p (ax_evd (ax_tab ml) 9 208 [.ref 66] jl_X) = true := by decide +kernel
theorem rl_mlay : ax_ck jl_p (ax_evd (ax_tab ml) 9 151 [.ref 66] jl_X) = true := by decide +kernel
theorem jm_back (h : am_H) (hJ : Jv h) : ∃ n h', am_EG (am_mi 208) [.ref 66] h (some (.retAddr n), h') ∧ Jv h' ∧ h'.1 = h.1 ∧ h'.2.1 = h.2.1 := jl_con rl_mback h hJ
theorem jm_lay (h : am_H) (hJ : Jv h) : ∃ n h', am_EG (am_mi 151) [.ref 66] h (some (.retAddr n), h') ∧ Jv h' ∧ h'.1 = h.1 ∧ h'.2.1 = h.2.1 := jl_con rl_mlay h hJ
theorem jb_write (u : Nat) (hu : u < 4294967296) : am_B2 Jv true 46 132 [.retAddr u] := by
  intro h hJ
  have hJ0 := hJ
  obtain ⟨⟨hI, hm⟩, ⟨n, t1, t2⟩, hQ⟩ := hJ
  have hn := jw_200 ⟨hI, hm⟩ t2
  have X : ∃ h1, am_EG (am_mi 46) [.ref 0, .retAddr u] h (some (.retAddr (jw_v u n)), h1) ∧ jv_I h1 ∧ jv_Q h1 ∧ ax_fv h1 66 15 = some (.retAddr n) ∧ ax_fv h1 0 1 = some (.retAddr (jw_n u n)) ∧ h1.1 = h.1 ∧ h1.2.1 = h.2.1 := by
    rcases hI with hI | hI
    · obtain ⟨h1, a1, a2, a3, a4⟩ := jw_con rw_x0A rw_x0B rw_x0C ((ax_I_to st_xw0).mp hI) t1 hn hu
      obtain ⟨b1, b2, b3⟩ := jw_x st_xw0 (Or.inl rfl) dx_xw0 rfl rfl hm hQ a2 a3
      exact ⟨h1, a1, b1, b2, by rw [b3]; exact t2, a4, a3.1, a3.2.1⟩
    · obtain ⟨h1, a1, a2, a3, a4⟩ := jw_con rw_x1A rw_x1B rw_x1C ((ax_I_to st_xw1).mp hI) t1 hn hu
      obtain ⟨b1, b2, b3⟩ := jw_x st_xw1 (Or.inr rfl) dx_xw1 rfl rfl hm hQ a2 a3
      exact ⟨h1, a1, b1, b2, by rw [b3]; exact t2, a4, a3.1, a3.2.1⟩
  obtain ⟨h1, x1, x2, x3, x4, x5, x6⟩ := X
  obtain ⟨h2, a1, a2, a3, a4⟩ := jw_con rw_mA rw_mB rw_mC ((ax_I_to st_mw).mp x2.2) x4 hn hu
  obtain ⟨b1, b2, b3⟩ := jw_m x2 x3 a2 a3
  exact ⟨_, h1, _, h2, x1, a1, fun _ => rfl, ⟨b1, ⟨_, by rw [b3]; exact x5, a4⟩, b2⟩, jv_g0 hJ0.1, jv_g66 x2, x6, a3.1, a3.2.1⟩
theorem jb_wipe : am_B2 Jv true 47 134 [] := by
  intro h hJ
  have hJ0 := hJ
  obtain ⟨⟨hI, hm⟩, ⟨n, t1, t2⟩, hQ⟩ := hJ
  have hn := jw_200 ⟨hI, hm⟩ t2
  have X : ∃ h1, am_EG (am_mi 47) [.ref 0] h (some (.retAddr n), h1) ∧ jv_I h1 ∧ jv_Q h1 ∧ ax_fv h1 66 15 = some (.retAddr n) ∧ ax_fv h1 0 1 = some (.retAddr 0) ∧ h1.1 = h.1 ∧ h1.2.1 = h.2.1 := by
    rcases hI with hI | hI
    · obtain ⟨h1, a1, a2, a3, a4⟩ := ji_con rw_x0W ((ax_I_to st_xw0).mp hI) t1 hn
      obtain ⟨b1, b2, b3⟩ := jw_x st_xw0 (Or.inl rfl) dx_xw0 rfl rfl hm hQ a2 a3
      exact ⟨h1, a1, b1, b2, by rw [b3]; exact t2, a4, a3.1, a3.2.1⟩
    · obtain ⟨h1, a1, a2, a3, a4⟩ := ji_con rw_x1W ((ax_I_to st_xw1).mp hI) t1 hn
      obtain ⟨b1, b2, b3⟩ := jw_x st_xw1 (Or.inr rfl) dx_xw1 rfl rfl hm hQ a2 a3
      exact ⟨h1, a1, b1, b2, by rw [b3]; exact t2, a4, a3.1, a3.2.1⟩
  obtain ⟨h1, x1, x2, x3, x4, x5, x6⟩ := X
  obtain ⟨h2, a1, a2, a3, a4⟩ := ji_con rw_mW ((ax_I_to st_mw).mp x2.2) x4 hn
  obtain ⟨b1, b2, b3⟩ := jw_m x2 x3 a2 a3
  exact ⟨_, h1, _, h2, x1, a1, fun _ => rfl, ⟨b1, ⟨_, by rw [b3]; exact x5, a4⟩, b2⟩, jv_g0 hJ0.1, jv_g66 x2, x6, a3.1, a3.2.1⟩
