/-! ===== write, wipe; lay and back of the reference ===== -/
noncomputable def jw_p (a b r : Nat) (e : ax_E) : Bool := ax_eqo (ax_rn e) r && ax_eqo (ax_fc e.2.2.2.1 a b) (4294967296 + 1)
noncomputable def jw_q (a b : Nat) (e : ax_E) : Bool := match ax_rn e with
  | some r => ax_eqo (ax_fc e.2.2.2.1 a b) r && (match ax_ent e.2 r with
    | some en => Nat.beq en.1 1 && (Nat.beq en.2.1 (4294967296 + 1) && Nat.beq en.2.2.1 1)
    | none => false)
  | none => false
def jw_X (a b : Nat) (Rl Rn : ax_R) : ax_X := (2, [(0, 0, 0, Rn), (0, 0, 0, Rl)], [(a, b, 4294967296 + 1)], [])
def jw_r (u n : Nat) (i : Nat) : Nat := if i = 0 then u else n
theorem jw_X_ok {sh : ax_Sh} {h : am_H} {a b u n : Nat} {Rl Rn : ax_R} (hI : ax_I sh h) (hf : ax_fv h a b = some (.retAddr n)) (hl : ax_in u Rl) (hn : ax_in n Rn) : ax_xo sh (jw_r u n) (jw_X a b Rl Rn) h := by
  refine ⟨rfl, fun i e he => ?_, fun q hq => ?_, fun q hq => (by cases hq), hI⟩
  · match i, he with
    | 0, he => cases he; exact ⟨hn, fun q => absurd rfl q⟩
    | 1, he => cases he; exact ⟨hl, fun q => absurd rfl q⟩
    | i + 2, he => cases he
  · rw [List.mem_singleton.mp hq]
    refine ⟨by show 4294967296 + 1 < 4294967296 + 2; omega, ?_⟩
    show ax_fv h a b = some (.retAddr (ax_vl (jw_r u n) (4294967296 + 1)))
    rw [ax_vl_i]
    exact hf
def jw_v (u n : Nat) : Nat := if 32 ≤ u ∧ u ≤ 126 then (if n = 200 then 4294967293 else n + 1) else 4294967295
def jw_n (u n : Nat) : Nat := if 32 ≤ u ∧ u ≤ 126 then (if n = 200 then n else n + 1) else n
def jw_RA : ax_R := [(0, 31), (127, 2147483647), (2147483648, 4294967295)]
theorem jw_con {sh : ax_Sh} {j r0 a b : Nat} (rA : ax_ck (jw_p a b 4294967295) (ax_evd (ax_tab sh) 9 j [.ref r0, .retAddr (4294967296 + 0)] (jw_X a b jw_RA [(0, 200)])) = true) (rB : ax_ck (jw_p a b 4294967293) (ax_evd (ax_tab sh) 9 j [.ref r0, .retAddr (4294967296 + 0)] (jw_X a b [(32, 126)] [(200, 200)])) = true) (rC : ax_ck (jw_q a b) (ax_evd (ax_tab sh) 9 j [.ref r0, .retAddr (4294967296 + 0)] (jw_X a b [(32, 126)] [(0, 199)])) = true) {u n : Nat} {h : am_H} (hI : ax_I sh h) (hf : ax_fv h a b = some (.retAddr n)) (hn : n ≤ 200) (hu : u < 4294967296) : ∃ h', am_EG (am_mi j) [.ref r0, .retAddr u] h (some (.retAddr (jw_v u n)), h') ∧ ax_I sh h' ∧ ax_Fr sh h h' ∧ ax_fv h' a b = some (.retAddr (jw_n u n)) := by
  have hr : ax_rs (jw_r u n) 2 [.ref r0, .retAddr (4294967296 + 0)] [.ref r0, .retAddr u] := ax_rs.c ax_rvr (ax_rs.c (ax_rvi (by decide) (by rw [ax_vl_i]; rfl)) trivial)
  have same : ∀ (r : Nat) (en : ax_E) (ρ' : Nat → Nat) (v : Option Value) (h' : am_H), r < 4294967296 → jw_p a b r en = true → ax_ag 2 (jw_r u n) ρ' → ax_ro ρ' en.2.1 en.1 v → ax_xo sh ρ' en.2 h' → v = some (.retAddr r) ∧ ax_fv h' a b = some (.retAddr n) := fun r en ρ' v h' hr0 hp ha hro hx => by
    unfold jw_p at hp
    rw [Bool.and_eq_true] at hp
    have h1 := ax_rn_ok (ax_eqo_ok hp.1)
    have h2 := (hx.2.2.1 _ (ax_fc_ok (ax_eqo_ok hp.2))).2
    rw [h1] at hro
    refine ⟨?_, ?_⟩
    · cases v with
      | none => exact hro.elim
      | some v =>
        obtain ⟨-, rfl⟩ : ax_rv ρ' en.2.1 (.retAddr r) v := hro
        rw [ax_vl_c hr0]
    · have h3 : ax_fv h' a b = some (.retAddr (ax_vl ρ' (4294967296 + 1))) := h2
      rw [ax_vl_i, ha 1 (by decide)] at h3
      exact h3
  by_cases hl : 32 ≤ u ∧ u ≤ 126
  · by_cases h2 : n = 200
    · obtain ⟨en, hp, ρ', r1, -, v, h', r2, r3, r4, r5⟩ := ax_run (ax_tab_ok sh) rB hr (jw_X_ok hI hf (ax_in_1 hu hl.1 hl.2) (by rw [h2]; exact ax_in_1 (by decide) (by decide) (by decide)))
      obtain ⟨s1, s2⟩ := same _ en ρ' v h' (by decide) hp r1 r3 r4
      subst s1
      refine ⟨h', ?_, r4.2.2.2.2, r5, ?_⟩
      · unfold jw_v; rw [if_pos hl, if_pos h2]; exact r2
      · unfold jw_n; rw [if_pos hl, if_pos h2]; exact s2
    · obtain ⟨en, hp, ρ', r1, -, v, h', r2, r3, r4, r5⟩ := ax_run (ax_tab_ok sh) rC hr (jw_X_ok hI hf (ax_in_1 hu hl.1 hl.2) (ax_in_1 (by omega) (Nat.zero_le _) (show n ≤ 199 by omega)))
      unfold jw_q at hp
      split at hp
      · rename_i r hr'
        rw [Bool.and_eq_true] at hp
        obtain ⟨p1, p2⟩ := hp
        split at p2
        · rename_i e1 he1
          rw [Bool.and_eq_true, Bool.and_eq_true] at p2
          have o1 := Nat.eq_of_beq_eq_true p2.1
          have o2 := Nat.eq_of_beq_eq_true p2.2.1
          have o3 := Nat.eq_of_beq_eq_true p2.2.2
          have f1 := r4.2.2.1 _ (ax_fc_ok (ax_eqo_ok p1))
          obtain ⟨y1, y2, y3⟩ := ax_ent_ok r4 f1.1 he1 (by rw [o1]; decide)
          rw [o1, o2, o3, ax_vl_i, r1 1 (show 1 < 2 by decide), ax_vl_c (n := 1) (by decide), show ax_f 1 = am_add from rfl] at y3
          have y4 : ax_vl ρ' r = n + 1 := by
            rw [y3]
            show (n + 1) % 4294967296 = n + 1
            exact Nat.mod_eq_of_lt (by omega)
          have h1 := ax_rn_ok hr'
          rw [h1] at r3
          cases v with
          | none => exact r3.elim
          | some v =>
            obtain ⟨-, rfl⟩ : ax_rv ρ' en.2.1 (.retAddr r) v := r3
            rw [y4] at r2
            refine ⟨h', ?_, r4.2.2.2.2, r5, ?_⟩
            · unfold jw_v; rw [if_pos hl, if_neg h2]; exact r2
            · unfold jw_n; rw [if_pos hl, if_neg h2, ← y4]; exact f1.2
        · cases p2
      · cases hp
  · have hin : ax_in u jw_RA := by
      by_cases h1 : u < 32
      · exact ⟨hu, (0, 31), by simp [jw_RA], Nat.zero_le _, by show u ≤ 31; omega⟩
      · by_cases h2 : u < 2147483648
        · exact ⟨hu, (127, 2147483647), by simp [jw_RA], by show 127 ≤ u; omega, by show u ≤ 2147483647; omega⟩
        · exact ⟨hu, (2147483648, 4294967295), by simp [jw_RA], by show 2147483648 ≤ u; omega, by show u ≤ 4294967295; omega⟩
    obtain ⟨en, hp, ρ', r1, -, v, h', r2, r3, r4, r5⟩ := ax_run (ax_tab_ok sh) rA hr (jw_X_ok hI hf hin (ax_in_1 (by omega) (Nat.zero_le _) hn))
    obtain ⟨s1, s2⟩ := same _ en ρ' v h' (by decide) hp r1 r3 r4
    subst s1
    refine ⟨h', ?_, r4.2.2.2.2, r5, ?_⟩
    · unfold jw_v; rw [if_neg hl]; exact r2
    · unfold jw_n; rw [if_neg hl]; exact s2
noncomputable def ji_p (a b : Nat) (e : ax_E) : Bool := ax_eqo (ax_rn e) (4294967296 + 0) && ax_eqo (ax_fc e.2.2.2.1 a b) 0
def ji_X (a b : Nat) : ax_X := (1, [(0, 0, 0, [(0, 200)])], [(a, b, 4294967296 + 0)], [])
theorem ji_con {sh : ax_Sh} {j r0 a b : Nat} (r : ax_ck (ji_p a b) (ax_evd (ax_tab sh) 9 j [.ref r0] (ji_X a b)) = true) {n : Nat} {h : am_H} (hI : ax_I sh h) (hf : ax_fv h a b = some (.retAddr n)) (hn : n ≤ 200) : ∃ h', am_EG (am_mi j) [.ref r0] h (some (.retAddr n), h') ∧ ax_I sh h' ∧ ax_Fr sh h h' ∧ ax_fv h' a b = some (.retAddr 0) := by
  have hx : ax_xo sh (fun _ => n) (ji_X a b) h := by
    refine ⟨rfl, fun i e he => ?_, fun q hq => ?_, fun q hq => (by cases hq), hI⟩
    · match i, he with
      | 0, he => cases he; exact ⟨ax_in_1 (show n < 4294967296 by omega) (Nat.zero_le _) hn, fun q => absurd rfl q⟩
      | i + 1, he => cases he
    · rw [List.mem_singleton.mp hq]
      refine ⟨by show 4294967296 + 0 < 4294967296 + 1; omega, ?_⟩
      show ax_fv h a b = some (.retAddr (ax_vl _ (4294967296 + 0)))
      rw [ax_vl_i]
      exact hf
  obtain ⟨en, hp, ρ', r1, -, v, h', r2, r3, r4, r5⟩ := ax_run (ax_tab_ok sh) r (vs := [.ref r0]) (ax_rs.c ax_rvr trivial) hx
  unfold ji_p at hp
  rw [Bool.and_eq_true] at hp
  have h1 := ax_rn_ok (ax_eqo_ok hp.1)
  have h2 := (r4.2.2.1 _ (ax_fc_ok (ax_eqo_ok hp.2))).2
  rw [h1] at r3
  cases v with
  | none => exact r3.elim
  | some v =>
    obtain ⟨-, rfl⟩ : ax_rv ρ' en.2.1 (.retAddr (4294967296 + 0)) v := r3
    rw [ax_vl_i, r1 0 (show 0 < 1 by decide)] at r2
    exact ⟨h', r2, r4.2.2.2.2, r5, h2⟩
/-- the letters of the text are 200 at most -/
theorem jw_200 {h : am_H} (hJ : jv_I h) {n : Nat} (hf : ax_fv h 66 15 = some (.retAddr n)) : n ≤ 200 := by
  obtain ⟨vs, hv, hl, ho⟩ := hJ.2.obj (a := 66) rfl
  have f1 : vs[15]? = some (.retAddr n) := by unfold ax_fv at hf; rw [hv] at hf; exact hf
  have o1 : ∃ m, Value.retAddr n = .retAddr m ∧ ax_in m [(0, 200)] := ho 15 _ _ rfl f1
  obtain ⟨m, e, -, r, hr, r1, r2⟩ := o1
  cases e
  rw [List.mem_singleton.mp hr] at r2
  exact r2
/-- behind write or wipe of the class -/
theorem jw_x {xs sb : ax_Sh} (hs : ax_ss xs = sb) (hb : sb = sb0 ∨ sb = sb1) (hd : jv_all (jv_dx xs) 96 = true) (n66 : ax_at xs 66 = none) (n86 : ax_at xs 86 = none) {h h' : am_H} (hm : ax_I sbm h) (hQ : jv_Q h) (e2 : ax_I xs h') (e3 : ax_Fr xs h h') : jv_I h' ∧ jv_Q h' ∧ ∀ k, ax_fv h' 66 k = ax_fv h 66 k := by
  have g66 : am_get h' 66 = am_get h 66 := e3.2.2.1 66 n66
  have g86 : am_get h' 86 = am_get h 86 := e3.2.2.1 86 n86
  have i1 : ax_I sb h' := (ax_I_to hs).mpr e2
  refine ⟨⟨?_, jv_xm hd hm e2 e3⟩, ?_, ax_fv_get g66⟩
  · rcases hb with rfl | rfl
    · exact Or.inl i1
    · exact Or.inr i1
  · obtain ⟨a, g, x, q1, q2, q3, q4⟩ := hQ
    exact ⟨a, g, x, by rw [ax_fv_get g66]; exact q1, by rw [ax_fv_get g66]; exact q2, by rw [g86]; exact q3, q4⟩
/-- behind write or wipe of the reference -/
theorem jw_m {h h' : am_H} (hJ : jv_I h) (hQ : jv_Q h) (e2 : ax_I mw h') (e3 : ax_Fr mw h h') : jv_I h' ∧ jv_Q h' ∧ ∀ k, ax_fv h' 0 k = ax_fv h 0 k := by
  have g0 : am_get h' 0 = am_get h 0 := e3.2.2.1 0 rfl
  have g86 : am_get h' 86 = am_get h 86 := e3.2.2.2.1 86 0 8 _ rfl
  refine ⟨jv_ms st_mw dm_mw0 dm_mw1 hJ e2 e3, ?_, ax_fv_get g0⟩
  obtain ⟨a, g, x, q1, q2, q3, q4⟩ := hQ
  refine ⟨a, g, x, ?_, ?_, by rw [g86]; exact q3, q4⟩
  · rw [e3.2.2.2.2 66 12 _ 42 _ rfl rfl]
    exact q1
  · rw [e3.2.2.2.2 66 12 _ 40 _ rfl rfl]
    exact q2
