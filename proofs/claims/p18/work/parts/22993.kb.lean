/-! ===== keep, back: both ===== -/
noncomputable def jk_p (a b r k : Nat) (e : ax_E) : Bool := ax_eqo (ax_rn e) r && ax_eqo (ax_fc e.2.2.2.1 a b) k
def jk_X (a b k : Nat) : ax_X := (0, [], [(a, b, k)], [])
theorem jk_X_ok {sh : ax_Sh} {h : am_H} {a b k : Nat} {ρ : Nat → Nat} (hk : k < 4294967296) (hI : ax_I sh h) (hf : ax_fv h a b = some (.retAddr k)) : ax_xo sh ρ (jk_X a b k) h := by
  refine ⟨rfl, fun i e he => (by cases he), fun q hq => ?_, fun q hq => (by cases hq), hI⟩
  rw [List.mem_singleton.mp hq]
  refine ⟨by show k < 4294967296 + 0; omega, ?_⟩
  show ax_fv h a b = some (.retAddr (ax_vl ρ k))
  rw [ax_vl_c hk]
  exact hf
theorem jk_end {sh : ax_Sh} {ρ : Nat → Nat} {a b r k : Nat} {e : ax_E} {v : Option Value} {h' : am_H} (hr : r < 4294967296) (hk : k < 4294967296) (hp : jk_p a b r k e = true) (hro : ax_ro ρ e.2.1 e.1 v) (hx : ax_xo sh ρ e.2 h') : v = some (.retAddr r) ∧ ax_fv h' a b = some (.retAddr k) := by
  unfold jk_p at hp
  rw [Bool.and_eq_true] at hp
  have h1 := ax_rn_ok (ax_eqo_ok hp.1)
  have h2 : ax_fv h' a b = some (.retAddr (ax_vl ρ k)) := (hx.2.2.1 _ (ax_fc_ok (ax_eqo_ok hp.2))).2
  rw [ax_vl_c hk] at h2
  rw [h1] at hro
  cases v with
  | none => exact hro.elim
  | some v =>
    obtain ⟨-, rfl⟩ : ax_rv ρ e.2.1 (.retAddr r) v := hro
    rw [ax_vl_c hr]
    exact ⟨rfl, h2⟩
theorem jk_con {sh : ax_Sh} {j r0 a b k r k' : Nat} (hk : k < 4294967296) (hr : r < 4294967296) (hk' : k' < 4294967296) (e : ax_ck (jk_p a b r k') (ax_evd (ax_tab sh) 9 j [.ref r0] (jk_X a b k)) = true) {h : am_H} (hI : ax_I sh h) (hf : ax_fv h a b = some (.retAddr k)) : ∃ h', am_EG (am_mi j) [.ref r0] h (some (.retAddr r), h') ∧ ax_I sh h' ∧ ax_Fr sh h h' ∧ ax_fv h' a b = some (.retAddr k') := by
  obtain ⟨en, hp, ρ', -, -, v, h', r2, r3, r4, r5⟩ := ax_run (ax_tab_ok sh) e (ρ := fun _ => 0) (vs := [.ref r0]) (ax_rs.c ax_rvr trivial) (jk_X_ok hk hI hf)
  obtain ⟨rfl, s2⟩ := jk_end hr hk' hp r3 r4
  exact ⟨h', r2, r4.2.2.2.2, r5, s2⟩
/-- the class: all but how many are kept stays -/
theorem jk_x {jx k r k' : Nat} (hk : k < 4294967296) (hr : r < 4294967296) (hk' : k' < 4294967296) (e0 : ax_ck (jk_p 0 16 r k') (ax_evd (ax_tab xk0) 9 jx [.ref 0] (jk_X 0 16 k)) = true) (e1 : ax_ck (jk_p 0 16 r k') (ax_evd (ax_tab xk1) 9 jx [.ref 0] (jk_X 0 16 k)) = true) {h : am_H} (hJ : jv_I h) (hf : ax_fv h 0 16 = some (.retAddr k)) : ∃ h', am_EG (am_mi jx) [.ref 0] h (some (.retAddr r), h') ∧ jv_I h' ∧ ax_fv h' 0 16 = some (.retAddr k') ∧ (∀ b, 66 ≤ b → am_get h' b = am_get h b) ∧ am_get h' 1 = am_get h 1 ∧ ax_fv h' 0 1 = ax_fv h 0 1 ∧ (h'.1 = h.1 ∧ h'.2.1 = h.2.1) ∧ (jv_E h → jv_E h') := by
  obtain ⟨hI, hm⟩ := hJ
  rcases hI with hI | hI
  · obtain ⟨h', a1, a2, a3, a4⟩ := jk_con hk hr hk' e0 ((ax_I_to st_xk0).mp hI) hf
    exact ⟨h', a1, ⟨Or.inl ((ax_I_to st_xk0).mpr a2), jv_xm dx_xk0 hm a2 a3⟩, a4, fun b hb => a3.2.2.1 b (jv_nonx rfl rfl b hb), a3.2.2.2.1 1 1 200 _ rfl, a3.2.2.2.2 0 11 _ 1 _ rfl rfl, ⟨a3.1, a3.2.1⟩, fun q => jv_E_0 hI ((ax_I_to st_xk0).mpr a2) (kp_Fr kc_xk0_4 a3) q⟩
  · obtain ⟨h', a1, a2, a3, a4⟩ := jk_con hk hr hk' e1 ((ax_I_to st_xk1).mp hI) hf
    exact ⟨h', a1, ⟨Or.inr ((ax_I_to st_xk1).mpr a2), jv_xm dx_xk1 hm a2 a3⟩, a4, fun b hb => a3.2.2.1 b (jv_nonx rfl rfl b hb), a3.2.2.2.1 1 1 200 _ rfl, a3.2.2.2.2 0 11 _ 1 _ rfl rfl, ⟨a3.1, a3.2.1⟩, fun q => jv_E_1 hI ((ax_I_to st_xk1).mpr a2) (kp_Fr kc_xk1_17 a3) q⟩
/-- what the reference's call must give -/
def jk_M (jm k r k' : Nat) : Prop := ∀ h, jv_I h → jv_Q h → ax_fv h 66 53 = some (.retAddr k) → ∃ h', am_EG (am_mi jm) [.ref 66] h (some (.retAddr r), h') ∧ jv_I h' ∧ jv_Q h' ∧ ax_fv h' 66 53 = some (.retAddr k') ∧ am_get h' 0 = am_get h 0 ∧ am_get h' 1 = am_get h 1 ∧ am_get h' 73 = am_get h 73 ∧ ax_fv h' 66 15 = ax_fv h 66 15 ∧ (h'.1 = h.1 ∧ h'.2.1 = h.2.1) ∧ (jv_E h → jv_E h')
theorem jk_both {jx jm k r k' : Nat} (hk : k < 4294967296) (hr : r < 4294967296) (hk' : k' < 4294967296) (e0 : ax_ck (jk_p 0 16 r k') (ax_evd (ax_tab xk0) 9 jx [.ref 0] (jk_X 0 16 k)) = true) (e1 : ax_ck (jk_p 0 16 r k') (ax_evd (ax_tab xk1) 9 jx [.ref 0] (jk_X 0 16 k)) = true) (em : jk_M jm k r k') {h : am_H} (hJ : Jv h) (hf : ax_fv h 0 16 = some (.retAddr k)) (hf2 : ax_fv h 66 53 = some (.retAddr k)) : ∃ v h1 w h2, am_EG (am_mi jx) [.ref 0] h (some (.retAddr v), h1) ∧ am_EG (am_mi jm) [.ref 66] h1 (some (.retAddr w), h2) ∧ (true = true → v = w) ∧ Jv h2 ∧ (∃ fs, am_get h 0 = some (.inr (11, fs))) ∧ (∃ fs, am_get h1 66 = some (.inr (12, fs))) ∧ (h1.1 = h.1 ∧ h1.2.1 = h.2.1) ∧ h2.1 = h1.1 ∧ h2.2.1 = h1.2.1 := by
  have hJ0 := hJ
  obtain ⟨hI, ⟨n, t1, t2, tx, tm, x1, x2, x3, -, hE⟩, a, g, x, q1, q2, q3, q4⟩ := hJ
  obtain ⟨h1, a1, a2, a3, a4, a5, a6, a7, a8⟩ := jk_x hk hr hk' e0 e1 hI hf
  have g66 := a4 66 (by decide)
  obtain ⟨h2, b1, b2, b3, b4, b5, b6, b7, b8, b9, b10⟩ := em h1 a2 ⟨a, g, x, by rw [ax_fv_get g66]; exact q1, by rw [ax_fv_get g66]; exact q2, by rw [a4 86 (by decide)]; exact q3, q4⟩ (by rw [ax_fv_get g66]; exact hf2)
  exact ⟨r, h1, r, h2, a1, b1, fun _ => rfl, ⟨b2, ⟨n, by rw [ax_fv_get b5, a6]; exact t1, by rw [b8, ax_fv_get g66]; exact t2, tx, tm, by rw [b6, a5]; exact x1, by rw [b7, a4 73 (by decide)]; exact x2, x3, ⟨k', by rw [ax_fv_get b5]; exact a3, b4⟩, b10 (a8 hE)⟩, b3⟩, jv_g0 hJ0.1, jv_g66 a2, a7, b9⟩
theorem jk_keep {jm k r k' : Nat} (hk : k < 4294967296) (hr : r < 4294967296) (hk' : k' < 4294967296) (e : ax_ck (jk_p 66 53 r k') (ax_evd (ax_tab mkp) 9 jm [.ref 66] (jk_X 66 53 k)) = true) : jk_M jm k r k' := fun h hJ hQ hf => by
  obtain ⟨h', a1, a2, a3, a4⟩ := jk_con hk hr hk' e ((ax_I_to st_mkp).mp hJ.2) hf
  refine ⟨h', a1, jv_ms st_mkp dm_mkp0 dm_mkp1 hJ a2 a3, ?_, a4, a3.2.2.1 0 rfl, a3.2.2.1 1 rfl, a3.2.2.2.1 73 0 200 _ rfl, a3.2.2.2.2 66 12 _ 15 _ rfl rfl, ⟨a3.1, a3.2.1⟩, jv_E_b (fun i => jv_mx rfl dm_mkp0 i a3) (fun i => jv_mx rfl dm_mkp1 i a3) (kp_Fr kc_mkp_4 a3) (kp_Fr kc_mkp_17 a3)⟩
  obtain ⟨a, g, x, q1, q2, q3, q4⟩ := hQ
  exact ⟨a, g, x, by rw [a3.2.2.2.2 66 12 _ 42 _ rfl rfl]; exact q1, by rw [a3.2.2.2.2 66 12 _ 40 _ rfl rfl]; exact q2, by rw [a3.2.2.2.1 86 0 8 _ rfl]; exact q3, q4⟩
noncomputable def jl_p (e : ax_E) : Bool := ax_is e && (ax_eqo (ax_fc e.2.2.2.1 66 42) 0 || (ax_eqo (ax_fc e.2.2.2.1 66 42) (4294967296 + 0) && ax_eqo (ax_fc e.2.2.2.1 66 40) (4294967296 + 1)))
def jl_X (k : Nat) : ax_X := (2, [(0, 0, 0, [(0, 9)]), (0, 0, 0, [(0, 8)])], [(66, 42, 4294967296 + 0), (66, 40, 4294967296 + 1), (66, 53, k)], [])
theorem jk_back {jm k r k' : Nat} (hk : k < 4294967296) (hr : r < 4294967296) (hk' : k' < 4294967296) (e : ax_ck (fun e => jl_p e && jk_p 66 53 r k' e) (ax_evd (ax_tab ml) 9 jm [.ref 66] (jl_X k)) = true) : jk_M jm k r k' := fun h hJ hQ hf => by
  obtain ⟨a, g, x, q1, q2, q3, q4, q5, q6, q7⟩ := jq_in hJ.2 hQ
  have hx : ax_xo ml (jw_r a g) (jl_X k) h := by
    refine ⟨rfl, fun i e he => ?_, fun q hq => ?_, fun q hq => (by cases hq), (ax_I_to st_ml).mp hJ.2⟩
    · match i, he with
      | 0, he => cases he; exact ⟨ax_in_1 (show g < 4294967296 by omega) (Nat.zero_le _) q6, fun q => absurd rfl q⟩
      | 1, he => cases he; exact ⟨ax_in_1 (show a < 4294967296 by omega) (Nat.zero_le _) q5, fun q => absurd rfl q⟩
      | i + 2, he => cases he
    · have hq' : q ∈ [(66, 42, 4294967296 + 0), (66, 40, 4294967296 + 1), (66, 53, k)] := hq
      rcases List.mem_cons.mp hq' with rfl | hq'
      · exact ⟨by show 4294967296 + 0 < 4294967296 + 2; omega, by show ax_fv h 66 42 = some (.retAddr (ax_vl _ (4294967296 + 0))); rw [ax_vl_i]; exact q1⟩
      · rcases List.mem_cons.mp hq' with rfl | hq'
        · exact ⟨by show 4294967296 + 1 < 4294967296 + 2; omega, by show ax_fv h 66 40 = some (.retAddr (ax_vl _ (4294967296 + 1))); rw [ax_vl_i]; exact q2⟩
        · rw [List.mem_singleton.mp hq']
          exact ⟨by show k < 4294967296 + 2; omega, by show ax_fv h 66 53 = some (.retAddr (ax_vl _ k)); rw [ax_vl_c hk]; exact hf⟩
  obtain ⟨en, hp, ρ', r1, -, v, h', r2, r3, r4, r5⟩ := ax_run (ax_tab_ok ml) e (vs := [.ref 66]) (ax_rs.c ax_rvr trivial) hx
  rw [Bool.and_eq_true] at hp
  obtain ⟨hp, hp2⟩ := hp
  unfold jl_p at hp
  rw [Bool.and_eq_true, Bool.or_eq_true, Bool.and_eq_true] at hp
  obtain ⟨rfl, s2⟩ := jk_end hr hk' hp2 r3 r4
  have g86 : am_get h' 86 = am_get h 86 := r5.2.2.2.1 86 0 8 _ rfl
  refine ⟨h', r2, jv_ms st_ml dm_ml0 dm_ml1 hJ r4.2.2.2.2 r5, ?_, s2, r5.2.2.1 0 rfl, r5.2.2.1 1 rfl, r5.2.2.2.1 73 0 200 _ rfl, r5.2.2.2.2 66 12 _ 15 _ rfl rfl, ⟨r5.1, r5.2.1⟩, jv_E_b (fun i => jv_mx rfl dm_ml0 i r5) (fun i => jv_mx rfl dm_ml1 i r5) (kp_Fr kc_ml_4 r5) (kp_Fr kc_ml_17 r5)⟩
  rcases hp.2 with hp | ⟨p1, p2⟩
  · have f1 : ax_fv h' 66 42 = some (.retAddr (ax_vl ρ' 0)) := (r4.2.2.1 _ (ax_fc_ok (ax_eqo_ok hp))).2
    rw [ax_vl_c (by decide)] at f1
    have f2 := (fld_in (k := 40) r4.2.2.2.2 (a := 66) rfl rfl).1
    exact ⟨0, _, x, f1, f2, by rw [g86]; exact q3, Nat.zero_le _⟩
  · have f1 : ax_fv h' 66 42 = some (.retAddr (ax_vl ρ' (4294967296 + 0))) := (r4.2.2.1 _ (ax_fc_ok (ax_eqo_ok p1))).2
    have f2 : ax_fv h' 66 40 = some (.retAddr (ax_vl ρ' (4294967296 + 1))) := (r4.2.2.1 _ (ax_fc_ok (ax_eqo_ok p2))).2
    rw [ax_vl_i, r1 0 (show 0 < 2 by decide)] at f1
    rw [ax_vl_i, r1 1 (show 1 < 2 by decide)] at f2
    exact ⟨a, g, x, f1, f2, by rw [g86]; exact q3, q4⟩
theorem rk_x0_keep0 : ax_ck (jk_p 0 16 1 1) (ax_evd (ax_tab xk0) 9 125 [.ref 0] (jk_X 0 16 0)) = true := by decide +kernel
theorem rk_x1_keep0 : ax_ck (jk_p 0 16 1 1) (ax_evd (ax_tab xk1) 9 125 [.ref 0] (jk_X 0 16 0)) = true := by decide +kernel
theorem rk_m_keep0 : ax_ck (jk_p 66 53 1 1) (ax_evd (ax_tab mkp) 9 207 [.ref 66] (jk_X 66 53 0)) = true := by decide +kernel
theorem rk_x0_keep1 : ax_ck (jk_p 0 16 2 2) (ax_evd (ax_tab xk0) 9 125 [.ref 0] (jk_X 0 16 1)) = true := by decide +kernel
theorem rk_x1_keep1 : ax_ck (jk_p 0 16 2 2) (ax_evd (ax_tab xk1) 9 125 [.ref 0] (jk_X 0 16 1)) = true := by decide +kernel
theorem rk_m_keep1 : ax_ck (jk_p 66 53 2 2) (ax_evd (ax_tab mkp) 9 207 [.ref 66] (jk_X 66 53 1)) = true := by decide +kernel
theorem rk_x0_keep2 : ax_ck (jk_p 0 16 4294967293 2) (ax_evd (ax_tab xk0) 9 125 [.ref 0] (jk_X 0 16 2)) = true := by decide +kernel
theorem rk_x1_keep2 : ax_ck (jk_p 0 16 4294967293 2) (ax_evd (ax_tab xk1) 9 125 [.ref 0] (jk_X 0 16 2)) = true := by decide +kernel
theorem rk_m_keep2 : ax_ck (jk_p 66 53 4294967293 2) (ax_evd (ax_tab mkp) 9 207 [.ref 66] (jk_X 66 53 2)) = true := by decide +kernel
theorem jb_keep : am_B2 Jv true 125 207 [] := by
  intro h hJ
  obtain ⟨k, y1, y2⟩ := hJ.2.1.choose_spec.2.2.choose_spec.choose_spec.2.2.2.1
  have hk : k ≤ 2 := by
    have e := fld_in (k := 53) hJ.1.2 (a := 66) rfl rfl
    rw [e.1] at y2
    injection y2 with y2
    injection y2 with y2
    rw [← y2]
    exact (jm_in1 e.2).2
  match k, hk, y1, y2 with
  | 0, _, y1, y2 => exact jk_both (by decide) (by decide) (by decide) rk_x0_keep0 rk_x1_keep0 (jk_keep (by decide) (by decide) (by decide) rk_m_keep0) hJ y1 y2
  | 1, _, y1, y2 => exact jk_both (by decide) (by decide) (by decide) rk_x0_keep1 rk_x1_keep1 (jk_keep (by decide) (by decide) (by decide) rk_m_keep1) hJ y1 y2
  | 2, _, y1, y2 => exact jk_both (by decide) (by decide) (by decide) rk_x0_keep2 rk_x1_keep2 (jk_keep (by decide) (by decide) (by decide) rk_m_keep2) hJ y1 y2
  | k + 3, hk, _, _ => exact absurd hk (by omega)
theorem rk_x0_back0 : ax_ck (jk_p 0 16 4294967294 0) (ax_evd (ax_tab xk0) 9 128 [.ref 0] (jk_X 0 16 0)) = true := by decide +kernel
theorem rk_x1_back0 : ax_ck (jk_p 0 16 4294967294 0) (ax_evd (ax_tab xk1) 9 128 [.ref 0] (jk_X 0 16 0)) = true := by decide +kernel
theorem rk_m_back0 : ax_ck (fun e => jl_p e && jk_p 66 53 4294967294 0 e) (ax_evd (ax_tab ml) 9 208 [.ref 66] (jl_X 0)) = true := by decide +kernel
theorem rk_x0_back1 : ax_ck (jk_p 0 16 0 0) (ax_evd (ax_tab xk0) 9 128 [.ref 0] (jk_X 0 16 1)) = true := by decide +kernel
theorem rk_x1_back1 : ax_ck (jk_p 0 16 0 0) (ax_evd (ax_tab xk1) 9 128 [.ref 0] (jk_X 0 16 1)) = true := by decide +kernel
theorem rk_m_back1 : ax_ck (fun e => jl_p e && jk_p 66 53 0 0 e) (ax_evd (ax_tab ml) 9 208 [.ref 66] (jl_X 1)) = true := by decide +kernel
theorem rk_x0_back2 : ax_ck (jk_p 0 16 1 1) (ax_evd (ax_tab xk0) 9 128 [.ref 0] (jk_X 0 16 2)) = true := by decide +kernel
theorem rk_x1_back2 : ax_ck (jk_p 0 16 1 1) (ax_evd (ax_tab xk1) 9 128 [.ref 0] (jk_X 0 16 2)) = true := by decide +kernel
theorem rk_m_back2 : ax_ck (fun e => jl_p e && jk_p 66 53 1 1 e) (ax_evd (ax_tab ml) 9 208 [.ref 66] (jl_X 2)) = true := by decide +kernel
theorem jb_back : am_B2 Jv true 128 208 [] := by
  intro h hJ
  obtain ⟨k, y1, y2⟩ := hJ.2.1.choose_spec.2.2.choose_spec.choose_spec.2.2.2.1
  have hk : k ≤ 2 := by
    have e := fld_in (k := 53) hJ.1.2 (a := 66) rfl rfl
    rw [e.1] at y2
    injection y2 with y2
    injection y2 with y2
    rw [← y2]
    exact (jm_in1 e.2).2
  match k, hk, y1, y2 with
  | 0, _, y1, y2 => exact jk_both (by decide) (by decide) (by decide) rk_x0_back0 rk_x1_back0 (jk_back (by decide) (by decide) (by decide) rk_m_back0) hJ y1 y2
  | 1, _, y1, y2 => exact jk_both (by decide) (by decide) (by decide) rk_x0_back1 rk_x1_back1 (jk_back (by decide) (by decide) (by decide) rk_m_back1) hJ y1 y2
  | 2, _, y1, y2 => exact jk_both (by decide) (by decide) (by decide) rk_x0_back2 rk_x1_back2 (jk_back (by decide) (by decide) (by decide) rk_m_back2) hJ y1 y2
  | k + 3, hk, _, _ => exact absurd hk (by omega)
