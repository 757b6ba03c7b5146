theorem ax_tge (a b : Nat) : am_tc .ge a b = !am_tlt a b := rfl
/-! ===== the lesser, the greater; division of any numbers ===== -/
noncomputable def ax_mmin (nx : Nat) : ax_Op := fun _ L st X => match st with
  | .retAddr y :: .retAddr x :: rest => bif am_sh rest then some (ax_side X y x (ax_rf .lt (ax_rg X y) (ax_rg X x)) nx L (.retAddr y :: rest) ++ ax_side X y x (ax_rf .ge (ax_rg X y) (ax_rg X x)) nx L (.retAddr x :: rest)) else none
  | _ => none
noncomputable def ax_mmax (nx : Nat) : ax_Op := fun _ L st X => match st with
  | .retAddr y :: .retAddr x :: rest => bif am_sh rest then some (ax_side X x y (ax_rf .lt (ax_rg X x) (ax_rg X y)) nx L (.retAddr y :: rest) ++ ax_side X x y (ax_rf .ge (ax_rg X x) (ax_rg X y)) nx L (.retAddr x :: rest)) else none
  | _ => none
theorem sm_mmin {sh : ax_Sh} {nx : Nat} : ax_Simp sh (am_mmin nx) (ax_mmin nx) := by
  intro aev A S X z e ρ L st h hl hs hx
  unfold ax_mmin at e
  split at e
  · rename_i y x rest
    obtain ⟨v, st', rfl, h2, hs'⟩ := ax_rs1 hs
    obtain ⟨w, st2, rfl, h3, hs2⟩ := ax_rs1 hs'
    have hv := h2
    have hw := h3
    obtain ⟨y1, rfl⟩ := h2
    obtain ⟨x1, rfl⟩ := h3
    cases hb : am_sh rest
    · rw [hb] at e
      cases e
    · rw [hb] at e
      cases e
      have hb' : am_sh st2 = true := by rw [ax_sh hs2]; exact hb
      cases ht : am_tlt (ax_vl ρ y) (ax_vl ρ x)
      · obtain ⟨r1, r2⟩ := ax_rf_ok (c := .ge) (ax_rg_ok hx y1) (ax_rg_ok hx x1) (by rw [ax_tge, ht]; rfl)
        obtain ⟨X2, m, c2, o2⟩ := ax_side_ok hx y1 x1 r1 r2 nx A (.retAddr x :: rest)
        refine ⟨_, List.mem_append_right _ m, fun ev => ⟨ρ, ax_ag.rf, by rw [c2]; exact Nat.le_refl _, L, .retAddr (ax_vl ρ x) :: st2, h, ?_, by rw [c2]; exact hl, by rw [c2]; exact ax_rs.c hw hs2, o2, ax_Fr.rf⟩⟩
        simp only [am_mmin, hb', cond_true, ht, cond_false]
      · obtain ⟨r1, r2⟩ := ax_rf_ok (c := .lt) (ax_rg_ok hx y1) (ax_rg_ok hx x1) ht
        obtain ⟨X2, m, c2, o2⟩ := ax_side_ok hx y1 x1 r1 r2 nx A (.retAddr y :: rest)
        refine ⟨_, List.mem_append_left _ m, fun ev => ⟨ρ, ax_ag.rf, by rw [c2]; exact Nat.le_refl _, L, .retAddr (ax_vl ρ y) :: st2, h, ?_, by rw [c2]; exact hl, by rw [c2]; exact ax_rs.c hv hs2, o2, ax_Fr.rf⟩⟩
        simp only [am_mmin, hb', cond_true, ht]
  · cases e
theorem sm_mmax {sh : ax_Sh} {nx : Nat} : ax_Simp sh (am_mmax nx) (ax_mmax nx) := by
  intro aev A S X z e ρ L st h hl hs hx
  unfold ax_mmax at e
  split at e
  · rename_i y x rest
    obtain ⟨v, st', rfl, h2, hs'⟩ := ax_rs1 hs
    obtain ⟨w, st2, rfl, h3, hs2⟩ := ax_rs1 hs'
    have hv := h2
    have hw := h3
    obtain ⟨y1, rfl⟩ := h2
    obtain ⟨x1, rfl⟩ := h3
    cases hb : am_sh rest
    · rw [hb] at e
      cases e
    · rw [hb] at e
      cases e
      have hb' : am_sh st2 = true := by rw [ax_sh hs2]; exact hb
      cases ht : am_tlt (ax_vl ρ x) (ax_vl ρ y)
      · obtain ⟨r1, r2⟩ := ax_rf_ok (c := .ge) (ax_rg_ok hx x1) (ax_rg_ok hx y1) (by rw [ax_tge, ht]; rfl)
        obtain ⟨X2, m, c2, o2⟩ := ax_side_ok hx x1 y1 r1 r2 nx A (.retAddr x :: rest)
        refine ⟨_, List.mem_append_right _ m, fun ev => ⟨ρ, ax_ag.rf, by rw [c2]; exact Nat.le_refl _, L, .retAddr (ax_vl ρ x) :: st2, h, ?_, by rw [c2]; exact hl, by rw [c2]; exact ax_rs.c hw hs2, o2, ax_Fr.rf⟩⟩
        simp only [am_mmax, hb', cond_true, ht, cond_false]
      · obtain ⟨r1, r2⟩ := ax_rf_ok (c := .lt) (ax_rg_ok hx x1) (ax_rg_ok hx y1) ht
        obtain ⟨X2, m, c2, o2⟩ := ax_side_ok hx x1 y1 r1 r2 nx A (.retAddr y :: rest)
        refine ⟨_, List.mem_append_left _ m, fun ev => ⟨ρ, ax_ag.rf, by rw [c2]; exact Nat.le_refl _, L, .retAddr (ax_vl ρ y) :: st2, h, ?_, by rw [c2]; exact hl, by rw [c2]; exact ax_rs.c hv hs2, o2, ax_Fr.rf⟩⟩
        simp only [am_mmax, hb', cond_true, ht]
  · cases e
theorem g_gdiv {M : am_MI} {pc : Nat} {L : am_L} {st : List Value} {h : am_H} {r : am_R} {a b : Nat} (hd : decode M.2.1 pc = .ok (.idiv, 1)) (h0 : 0 < b) (hb0 : b < 4294967296) (hg : am_Good M (pc + 1) L (.retAddr (am_gdvf a b) :: st) h r) : am_Good M pc L (.retAddr b :: .retAddr a :: st) h r := by
  refine hg.go fun p l e R s m args below meth c B N0 S0 D dA H locs ls Q X k => ?_
  obtain ⟨⟨hx, hb, hml, hown, hts, hlk, hr, hnm⟩, ⟨xf, xl, xc, xs⟩, ⟨xn, xt, xB⟩, hK, hw, hS, hL⟩ := X
  exact lv_idiv hx hb hd (ax_ofn h0 hb0) (W.eq (by simp only [List.map_cons, am_v]; unfold am_gdvf; rw [ax_of]) (k ls hL))
theorem g_grem {M : am_MI} {pc : Nat} {L : am_L} {st : List Value} {h : am_H} {r : am_R} {a b : Nat} (hd : decode M.2.1 pc = .ok (.irem, 1)) (h0 : 0 < b) (hb0 : b < 4294967296) (hg : am_Good M (pc + 1) L (.retAddr (am_grmf a b) :: st) h r) : am_Good M pc L (.retAddr b :: .retAddr a :: st) h r := by
  refine hg.go fun p l e R s m args below meth c B N0 S0 D dA H locs ls Q X k => ?_
  obtain ⟨⟨hx, hb, hml, hown, hts, hlk, hr, hnm⟩, ⟨xf, xl, xc, xs⟩, ⟨xn, xt, xB⟩, hK, hw, hS, hL⟩ := X
  exact lv_irem hx hb hd (ax_ofn h0 hb0) (W.eq (by simp only [List.map_cons, am_v]; unfold am_grmf; rw [ax_of]) (k ls hL))
noncomputable def am_bin3 (f : Nat → Nat → Nat) (nx : Nat) : am_Op := fun _ L st h => match st with
  | .retAddr b :: .retAddr a :: st' => bif Nat.blt 0 b && Nat.blt b 4294967296 then .inl (nx, L, .retAddr (f a b) :: st', h) else .inr none
  | _ => .inr none
theorem ok_gdiv {M : am_MI} {pc nx : Nat} (hd : decode M.2.1 pc = .ok (.idiv, 1)) (hx : pc + 1 = nx) : am_OpOk M pc (am_bin3 am_gdvf nx) := by
  intro ev _ L st h
  subst hx
  simp only [am_bin3]
  split
  · rename_i b a st'
    cases hb : Nat.blt 0 b && Nat.blt b 4294967296
    · trivial
    · rw [Bool.and_eq_true] at hb
      exact fun r hg => g_gdiv hd (ax_blt_t hb.1) (ax_blt_t hb.2) hg
  · trivial
theorem ok_grem {M : am_MI} {pc nx : Nat} (hd : decode M.2.1 pc = .ok (.irem, 1)) (hx : pc + 1 = nx) : am_OpOk M pc (am_bin3 am_grmf nx) := by
  intro ev _ L st h
  subst hx
  simp only [am_bin3]
  split
  · rename_i b a st'
    cases hb : Nat.blt 0 b && Nat.blt b 4294967296
    · trivial
    · rw [Bool.and_eq_true] at hb
      exact fun r hg => g_grem hd (ax_blt_t hb.1) (ax_blt_t hb.2) hg
  · trivial
theorem ax_bin3_o {f : Nat → Nat → Nat} {nx : Nat} (ev : am_Ev) (L : am_L) (x y : Nat) (st : List Value) (h : am_H) (hQ : 0 < y ∧ y < 4294967296) : am_bin3 f nx ev L (.retAddr y :: .retAddr x :: st) h = .inl (nx, L, .retAddr (f x y) :: st, h) := by
  simp only [am_bin3, show Nat.blt 0 y = true from Nat.ble_eq_true_of_le hQ.1, show Nat.blt y 4294967296 = true from Nat.ble_eq_true_of_le hQ.2, Bool.and_true, cond_true]
theorem sm_gdiv {sh : ax_Sh} {nx : Nat} : ax_Simp sh (am_bin3 am_gdvf nx) (ax_bin 12 am_gdvf ax_ggd false nx) := ax_bin_sim (Q := fun _ y => 0 < y ∧ y < 4294967296) ⟨by decide, rfl, ax_ggd_ok am_gdvf_lt, fun q => by cases q⟩ (fun ev L x y st h hQ => ax_bin3_o ev L x y st h hQ)
theorem sm_grem {sh : ax_Sh} {nx : Nat} : ax_Simp sh (am_bin3 am_grmf nx) (ax_bin 13 am_grmf ax_ggd false nx) := ax_bin_sim (Q := fun _ y => 0 < y ∧ y < 4294967296) ⟨by decide, rfl, ax_ggd_ok am_grmf_lt, fun q => by cases q⟩ (fun ev L x y st h hQ => ax_bin3_o ev L x y st h hQ)
