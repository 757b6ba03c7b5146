/-! ===== lay of the class ===== -/
theorem jx_lay (h : am_H) (hJ : Jv h) : ∃ n h', am_EG (am_mi 49) [.ref 0] h (some (.retAddr n), h') ∧ Jv h' ∧ h'.1 = h.1 ∧ h'.2.1 = h.2.1 := by
  obtain ⟨⟨hI, hm⟩, ⟨n, t1, t2, t3⟩, a, g, x, q1, q2, q3, q4⟩ := hJ
  have fin : ∀ h', (∀ a, 66 ≤ a → am_get h' a = am_get h a) → (ax_I xq0 h' ∨ ax_I xq1 h') → ax_fv h' 0 1 = ax_fv h 0 1 → am_get h' 1 = am_get h 1 → Jv h' := fun h' hg hI' hl hg1 => by
    have g66 := hg 66 (by decide)
    have g86 := hg 86 (by decide)
    have i2 : ax_I sb0 h' ∨ ax_I sb1 h' := by
      rcases hI' with q | q
      · exact Or.inl ((ax_I_to st_xq0).mpr q)
      · exact Or.inr ((ax_I_to st_xq1).mpr q)
    have c64 : ∀ sbx : ax_Sh, ax_I sbx h' → ax_at sbx 64 = ax_at sbm 64 → ax_at sbx 65 = ax_at sbm 65 → ax_I sbm h' := fun sbx hsb e64 e65 b s hs => by
      by_cases h66 : 66 ≤ b
      · rw [hg b h66]
        exact hm b s hs
      · by_cases h64 : b = 64
        · subst h64
          exact hsb 64 s (by rw [e64]; exact hs)
        · by_cases h65 : b = 65
          · subst h65
            exact hsb 65 s (by rw [e65]; exact hs)
          · have : ax_at sbm b = none := by
              have hb : b < 64 := by omega
              exact jv_none b hb
            rw [this] at hs
            cases hs
    have hm' : ax_I sbm h' := by
      rcases i2 with q | q
      · exact c64 sb0 q rfl rfl
      · exact c64 sb1 q rfl rfl
    refine ⟨⟨i2, hm'⟩, ⟨n, by rw [hl]; exact t1, by rw [ax_fv_get g66]; exact t2, jv_X_get hg1 (hg 73 (by decide)) t3⟩, a, g, x, by rw [ax_fv_get g66]; exact q1, by rw [ax_fv_get g66]; exact q2, by rw [g86]; exact q3, q4⟩
  rcases hI with hI | hI
  · obtain ⟨v, h', r1, r2, r3, r4, r5, r6, r7⟩ := jy_lay (xa := xq0) (xb := xq1) (fe := []) (re := 0) (e := 4) (s := 17) (rs := 18) rfl rfl rfl rfl rfl rfl rfl rfl rfl rfl rfl rfl rfl rfl (by decide) (by decide) rfl (fun n hn => jy_read rr_read0 hn) (fun h hI => jy_take rr_take1 h hI) ((ax_I_to st_xq0).mp hI)
    exact ⟨v, h', r1, fin h' (fun b hb => r5 b (jv_nonex b hb)) r2 r6 r7, r3, r4⟩
  · obtain ⟨v, h', r1, r2, r3, r4, r5, r6, r7⟩ := jy_lay (xa := xq1) (xb := xq0) (fe := []) (re := 0) (e := 17) (s := 4) (rs := 5) rfl rfl rfl rfl rfl rfl rfl rfl rfl rfl rfl rfl rfl rfl (by decide) (by decide) rfl (fun n hn => jy_read rr_read1 hn) (fun h hI => jy_take rr_take0 h hI) ((ax_I_to st_xq1).mp hI)
    exact ⟨v, h', r1, fin h' (fun b hb => r5 b (jv_nonex1 b hb)) (Or.symm r2) r6 r7, r3, r4⟩
