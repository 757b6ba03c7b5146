/-! ===== known: both ===== -/
theorem je_hE {h : am_H} (hJ : Jv h) : jv_E h := by
  obtain ⟨-, ⟨n, -, -, tx, tm, -, -, -, -, hE⟩, -⟩ := hJ
  exact hE
/-- two calls that change nothing and answer alike -/
theorem je_fin {h : am_H} (hJ : Jv h) {jx jm v : Nat} {as : List Value} (e1 : am_EG (am_mi jx) (.ref 0 :: as) h (some (.retAddr v), h)) (e2 : am_EG (am_mi jm) (.ref 66 :: as) h (some (.retAddr v), h)) : ∃ v h1 w h2, am_EG (am_mi jx) (.ref 0 :: as) h (some (.retAddr v), h1) ∧ am_EG (am_mi jm) (.ref 66 :: as) h1 (some (.retAddr w), h2) ∧ (true = true → v = w) ∧ Jv h2 ∧ (∃ fs, am_get h 0 = some (.inr (11, fs))) ∧ (∃ fs, am_get h1 66 = some (.inr (12, fs))) ∧ (h1.1 = h.1 ∧ h1.2.1 = h.2.1) ∧ h2.1 = h1.1 ∧ h2.2.1 = h1.2.1 := ⟨v, h, v, h, e1, e2, fun _ => rfl, hJ, jv_g0 hJ.1, jv_g66 hJ.1, ⟨rfl, rfl⟩, rfl, rfl⟩
theorem je_x5 {h : am_H} (hJ : jv_I h) : ∃ vs, am_get h 0 = some (.inr (11, vs)) ∧ vs[5]? = some (.ref 30) ∧ am_get h 30 = some (.inr (2, [.ref 31])) := by
  rcases hJ.1 with hI | hI
  · obtain ⟨vs, q, -, f, -⟩ := jy_obj hI (a := 0) rfl
    exact ⟨vs, q, f 5 _ _ rfl, oz1_c30 hI⟩
  · obtain ⟨vs, q, -, f, -⟩ := jy_obj hI (a := 0) rfl
    exact ⟨vs, q, f 5 _ _ rfl, oz0_c30 hI⟩
/-- what follows, in both -/
theorem je_cl {h : am_H} (hJ : Jv h) : ∃ n rr cc vs ws, am_get h 0 = some (.inr (11, vs)) ∧ vs[5]? = some (.ref 30) ∧ am_get h 30 = some (.inr (2, [.ref 31])) ∧ am_get h 31 = some (.inl (0, 256, cc)) ∧ am_get h 66 = some (.inr (12, ws)) ∧ ws[10]? = some (.retAddr n) ∧ ws[11]? = some (.ref 71) ∧ am_get h 71 = some (.inl (0, 18, rr)) ∧ n ≤ 6 ∧ (∀ i, i < 18 → am_ag rr i ≤ 7) ∧ ∀ s, s < 256 → am_ag cc s = cl_k rr n 6 s := by
  obtain ⟨vs, q0, f5, q30⟩ := je_x5 hJ.1
  obtain ⟨ws, q66, -, f, -⟩ := jy_obj hJ.1.2 (a := 66) rfl
  have key : ∀ E, jv_D h E → ∃ n rr cc vs ws, am_get h 0 = some (.inr (11, vs)) ∧ vs[5]? = some (.ref 30) ∧ am_get h 30 = some (.inr (2, [.ref 31])) ∧ am_get h 31 = some (.inl (0, 256, cc)) ∧ am_get h 66 = some (.inr (12, ws)) ∧ ws[10]? = some (.retAddr n) ∧ ws[11]? = some (.ref 71) ∧ am_get h 71 = some (.inl (0, 18, rr)) ∧ n ≤ 6 ∧ (∀ i, i < 18 → am_ag rr i ≤ 7) ∧ ∀ s, s < 256 → am_ag cc s = cl_k rr n 6 s := fun E hD => by
    obtain ⟨mi, go, Z, X, Y, -, d2, ⟨-, p2, p3, -⟩, d4⟩ := hD
    have c := d4
    obtain ⟨cc, c1, c2⟩ : ∃ cc, am_get h 31 = some (.inl (0, 256, cc)) ∧ ∀ s, s < 256 → am_ag cc s = cl_k (Y 4) (Z 4) 6 s := by
      exact d4.1
    have z : ax_fv h 66 10 = some (.retAddr (Z 4)) := (d2.2.2 4 (by decide)).1
    unfold ax_fv at z
    rw [q66] at z
    exact ⟨Z 4, Y 4, cc, vs, ws, q0, f5, q30, c1, q66, z, f 11 _ _ rfl, (d2.2.2 4 (by decide)).2, p2 4 (by decide), p3 4 (by decide), c2⟩
  rcases je_hE hJ with ⟨-, hD⟩ | ⟨-, hD⟩
  · exact key 4 hD
  · exact key 17 hD
theorem jb_known (x : Nat) (hx : x < 4294967296) : am_B2 Jv true 55 160 [.retAddr x] := by
  intro h hJ
  obtain ⟨n, rr, cc, vs, ws, q0, f5, q30, a31, q66, f10, f11, a71, hn, h7, hcl⟩ := je_cl hJ
  by_cases hs : x < 256
  · have e1 := knx_1 q0 f5 q30 a31 hs
    rw [hcl x hs] at e1
    exact je_fin hJ e1 (knm_1 q66 f10 f11 a71 hn h7 hs)
  · exact je_fin hJ (knx_0 q0 f5 q30 a31 hs hx) (knm_0 q66 f10 f11 a71 hn h7 hs hx)
