/-! ===== learning: both ===== -/
theorem le_in6 {n : Nat} (h : n = 4294967292 ∨ n ≤ 6) : ax_in n [(0, 6), (2147483648, 4294967295)] := by
  rcases h with rfl | h
  · exact ⟨by decide, (2147483648, 4294967295), by simp, by decide, by decide⟩
  · exact ⟨by omega, (0, 6), by simp, Nat.zero_le _, h⟩
theorem le_in7 {n : Nat} (h : n ≤ 7) : ax_in n [(0, 7), (2147483648, 4294967295)] := ⟨by omega, (0, 7), by simp, Nat.zero_le _, h⟩
/-- behind learn: Jv again -/
theorem lx_A {h g : am_H} {E mi go : Nat} {Z X Y : Nat → Nat} (hA : je_A h E mi go Z X Y) (i0 : ax_I sb0 h → ax_I sb0 g) (i1 : ax_I sb1 h → ax_I sb1 g) (u : ∀ a, a ≠ 45 → a ≠ 46 → am_get g a = am_get h a) (hL : je_L g) : je_A g E mi go Z X Y := by
  obtain ⟨hI, ⟨x1, x2, x3⟩, ⟨m1, m2, m3⟩, hP, ⟨cc, c1, c2⟩, ⟨W, F, B, s1, s2, s3, s4⟩, ⟨G, r1, r2, r3⟩, hF, -⟩ := hA
  have hE : E = 4 ∨ E = 17 := by
    rcases hI with ⟨q, -⟩ | ⟨q, -⟩
    · exact Or.inl q
    · exact Or.inr q
  refine ⟨?_, ⟨?_, ?_, fun k hk => ⟨?_, ?_⟩⟩, ⟨?_, ?_, fun k hk => ⟨?_, ?_⟩⟩, hP, ⟨cc, ?_, c2⟩, ⟨W, F, B, ?_, ?_, ?_, s4⟩, ⟨G, ?_, ?_, r3⟩, ?_, hL⟩
  · rcases hI with ⟨q, i⟩ | ⟨q, i⟩
    · exact Or.inl ⟨q, i0 i⟩
    · exact Or.inr ⟨q, i1 i⟩
  · rw [ax_fv_get (u E (by omega) (by omega))]; exact x1
  · rw [ax_fv_get (u E (by omega) (by omega))]; exact x2
  · rw [ax_fv_get (u _ (by omega) (by omega))]; exact (x3 k hk).1
  · rw [u _ (by omega) (by omega)]; exact (x3 k hk).2
  · rw [ax_fv_get (u 66 (by decide) (by decide))]; exact m1
  · rw [ax_fv_get (u 66 (by decide) (by decide))]; exact m2
  · rw [ax_fv_get (u 66 (by decide) (by decide))]; exact (m3 k hk).1
  · rw [u _ (by omega) (by omega)]; exact (m3 k hk).2
  · rw [u 31 (by decide) (by decide)]; exact c1
  · rw [u 33 (by decide) (by decide)]; exact s1
  · rw [u 34 (by decide) (by decide)]; exact s2
  · rw [u 35 (by decide) (by decide)]; exact s3
  · rw [u 44 (by decide) (by decide)]; exact r1
  · rw [ax_fv_get (u 43 (by decide) (by decide))]; exact r2
  · rcases hF with q | ⟨q1, q2, bh, bw, q3, q4, q5, q6⟩
    · exact Or.inl ((ax_fv_get (u 47 (by decide) (by decide)) 8).trans q)
    · exact Or.inr ⟨(ax_fv_get (u 47 (by decide) (by decide)) 8).trans q1, (ax_fv_get (u 47 (by decide) (by decide)) 7).trans q2, bh, bw, (u 51 (by decide) (by decide)).trans q3, (u 53 (by decide) (by decide)).trans q4, q5, q6⟩
theorem lx_J {h g : am_H} (hJ : Jv h) {E mi go : Nat} {Z X Y : Nat → Nat} (hA : je_A g E mi go Z X Y) (u : ∀ a, a ≠ 45 → a ≠ 46 → am_get g a = am_get h a) : Jv g := by
  obtain ⟨⟨-, hm⟩, ⟨n, t1, t2, t3⟩, hQ⟩ := hJ
  have hi : ∀ a, 66 ≤ a → am_get g a = am_get h a := fun a ha => u a (by omega) (by omega)
  have g66 := hi 66 (by decide)
  obtain ⟨hI, d1, d2, d3, d4⟩ := hA
  have hE : jv_E g := by
    rcases hI with ⟨rfl, i⟩ | ⟨rfl, i⟩
    · exact Or.inl ⟨i, mi, go, Z, X, Y, d1, d2, d3, d4⟩
    · exact Or.inr ⟨i, mi, go, Z, X, Y, d1, d2, d3, d4⟩
  have hI' : ax_I sb0 g ∨ ax_I sb1 g := by
    rcases hI with ⟨-, i⟩ | ⟨-, i⟩
    · exact Or.inl i
    · exact Or.inr i
  exact ⟨⟨hI', jl_sbm hm hi hI'⟩, ⟨n, by rw [ax_fv_get (u 0 (by decide) (by decide))]; exact t1, by rw [ax_fv_get g66]; exact t2, jv_X_get (u 1 (by decide) (by decide)) (hi 73 (by decide)) (ax_fv_get (u 0 (by decide) (by decide)) 16) (ax_fv_get g66 53) (fun _ => hE) t3⟩, jq_get hQ g66 (hi 86 (by decide))⟩
theorem oy0_c45 {h : am_H} (hI : ax_I sb0 h) : am_get h 45 = some (.inr (3, [.ref 46, .ref 32, .ref 30, .retAddr (fldv h 45 3), .retAddr (fldv h 45 4), .retAddr (fldv h 45 5), .retAddr (fldv h 45 6), .retAddr (fldv h 45 7), .retAddr (fldv h 45 8), .retAddr (fldv h 45 9), .retAddr (fldv h 45 10)])) := by
  refine obj_ls hI rfl rfl (fun k hk => ?_)
  match k, hk with
  | 0, _ => exact ref_in hI rfl rfl
  | 1, _ => exact ref_in hI rfl rfl
  | 2, _ => exact ref_in hI rfl rfl
  | 3, _ => exact (fld_in hI rfl rfl).1
  | 4, _ => exact (fld_in hI rfl rfl).1
  | 5, _ => exact (fld_in hI rfl rfl).1
  | 6, _ => exact (fld_in hI rfl rfl).1
  | 7, _ => exact (fld_in hI rfl rfl).1
  | 8, _ => exact (fld_in hI rfl rfl).1
  | 9, _ => exact (fld_in hI rfl rfl).1
  | 10, _ => exact (fld_in hI rfl rfl).1
  | k + 11, hk => exact absurd hk (Nat.not_lt.mpr (Nat.le_add_left _ _))
theorem oy0_le {h : am_H} (hI : ax_I sb0 h) : lea_ok h ∧ lea h (fldv h 45 3) (fldv h 45 4) (fldv h 45 5) (fldv h 45 6) (fldv h 45 7) (fldv h 45 8) (fldv h 45 9) (fldv h 45 10) (rowv h 46) = h ∧ ∃ v0, am_get h 0 = some (.inr (11, v0)) ∧ v0[10]? = some (.ref 45) := by
  have g45 := oy0_c45 hI
  have g46 : am_get h 46 = some (.inl (0, 4096, rowv h 46)) := (row_in hI rfl).1
  obtain ⟨v0, g0, -, f, -⟩ := jy_obj hI (a := 0) rfl
  refine ⟨⟨⟨_, g45⟩, ⟨_, g46⟩, trivial⟩, ?_, v0, g0, f 10 _ _ rfl⟩
  unfold lea
  exact am_ups_00 ⟨g45, g46, trivial⟩
theorem oy0_LI {h : am_H} (hI : ax_I sb0 h) {sn gg al en fg mf ma gb c : Nat} (h1 : sn ≤ 4) (h2 : gg ≤ 3) (h3 : al < 256) (h4 : en ≤ 60) (h5 : fg = 4294967292 ∨ fg ≤ 6) (h6 : mf = 4294967292 ∨ mf ≤ 60) (h7 : ma = 4294967292 ∨ ma ≤ 60) (h8 : gb ≤ 7) : ax_I sb0 (lea h sn gg al en fg mf ma gb c) := by
  have k0 := (oy0_le hI).1
  have g45 := oy0_c45 hI
  unfold lea
  refine ax_I_ups hI ?_ ⟨ok_at rfl (ok_set (k := 10) (n := gb) (ok_set (k := 9) (n := ma) (ok_set (k := 8) (n := mf) (ok_set (k := 7) (n := fg) (ok_set (k := 6) (n := en) (ok_set (k := 5) (n := al) (ok_set (k := 4) (n := gg) (ok_set (k := 3) (n := sn) (ok_own hI rfl g45) rfl (ax_in_1 (by omega) (Nat.zero_le _) h1)) rfl (ax_in_1 (by omega) (Nat.zero_le _) h2)) rfl (ax_in_1 (by omega) (Nat.zero_le _) (by omega))) rfl (ax_in_1 (by omega) (Nat.zero_le _) h4)) rfl (le_in6 h5)) rfl (rt_in2 (by decide) h6)) rfl (rt_in2 (by decide) h7)) rfl (le_in7 h8)), ok_at rfl ok_rowt, trivial⟩
  exact k0
theorem oy1_c45 {h : am_H} (hI : ax_I sb1 h) : am_get h 45 = some (.inr (3, [.ref 46, .ref 32, .ref 30, .retAddr (fldv h 45 3), .retAddr (fldv h 45 4), .retAddr (fldv h 45 5), .retAddr (fldv h 45 6), .retAddr (fldv h 45 7), .retAddr (fldv h 45 8), .retAddr (fldv h 45 9), .retAddr (fldv h 45 10)])) := by
  refine obj_ls hI rfl rfl (fun k hk => ?_)
  match k, hk with
  | 0, _ => exact ref_in hI rfl rfl
  | 1, _ => exact ref_in hI rfl rfl
  | 2, _ => exact ref_in hI rfl rfl
  | 3, _ => exact (fld_in hI rfl rfl).1
  | 4, _ => exact (fld_in hI rfl rfl).1
  | 5, _ => exact (fld_in hI rfl rfl).1
  | 6, _ => exact (fld_in hI rfl rfl).1
  | 7, _ => exact (fld_in hI rfl rfl).1
  | 8, _ => exact (fld_in hI rfl rfl).1
  | 9, _ => exact (fld_in hI rfl rfl).1
  | 10, _ => exact (fld_in hI rfl rfl).1
  | k + 11, hk => exact absurd hk (Nat.not_lt.mpr (Nat.le_add_left _ _))
theorem oy1_le {h : am_H} (hI : ax_I sb1 h) : lea_ok h ∧ lea h (fldv h 45 3) (fldv h 45 4) (fldv h 45 5) (fldv h 45 6) (fldv h 45 7) (fldv h 45 8) (fldv h 45 9) (fldv h 45 10) (rowv h 46) = h ∧ ∃ v0, am_get h 0 = some (.inr (11, v0)) ∧ v0[10]? = some (.ref 45) := by
  have g45 := oy1_c45 hI
  have g46 : am_get h 46 = some (.inl (0, 4096, rowv h 46)) := (row_in hI rfl).1
  obtain ⟨v0, g0, -, f, -⟩ := jy_obj hI (a := 0) rfl
  refine ⟨⟨⟨_, g45⟩, ⟨_, g46⟩, trivial⟩, ?_, v0, g0, f 10 _ _ rfl⟩
  unfold lea
  exact am_ups_00 ⟨g45, g46, trivial⟩
theorem oy1_LI {h : am_H} (hI : ax_I sb1 h) {sn gg al en fg mf ma gb c : Nat} (h1 : sn ≤ 4) (h2 : gg ≤ 3) (h3 : al < 256) (h4 : en ≤ 60) (h5 : fg = 4294967292 ∨ fg ≤ 6) (h6 : mf = 4294967292 ∨ mf ≤ 60) (h7 : ma = 4294967292 ∨ ma ≤ 60) (h8 : gb ≤ 7) : ax_I sb1 (lea h sn gg al en fg mf ma gb c) := by
  have k0 := (oy1_le hI).1
  have g45 := oy1_c45 hI
  unfold lea
  refine ax_I_ups hI ?_ ⟨ok_at rfl (ok_set (k := 10) (n := gb) (ok_set (k := 9) (n := ma) (ok_set (k := 8) (n := mf) (ok_set (k := 7) (n := fg) (ok_set (k := 6) (n := en) (ok_set (k := 5) (n := al) (ok_set (k := 4) (n := gg) (ok_set (k := 3) (n := sn) (ok_own hI rfl g45) rfl (ax_in_1 (by omega) (Nat.zero_le _) h1)) rfl (ax_in_1 (by omega) (Nat.zero_le _) h2)) rfl (ax_in_1 (by omega) (Nat.zero_le _) (by omega))) rfl (ax_in_1 (by omega) (Nat.zero_le _) h4)) rfl (le_in6 h5)) rfl (rt_in2 (by decide) h6)) rfl (rt_in2 (by decide) h7)) rfl (le_in7 h8)), ok_at rfl ok_rowt, trivial⟩
  exact k0
/-- what learning finds -/
def le_P (mi go : Nat) (Z Y : Nat → Nat) (F fr set : Nat) : Nat × Nat × Nat := (lz_ff (lz_e (lf_R F) go (Z 0) mi fr (1024 * mi)) (cl_k (Y 4) (Z 4) 6) set (1024 * (mi + 1)))
theorem le_I {mi go : Nat} {Z X Y : Nat → Nat} (hP : je_P mi go Z X Y) (F fr set : Nat) : lz_fI (le_P mi go Z Y F fr set) ∧ ((le_P mi go Z Y F fr set).2.1 = 4294967292 ∨ (le_P mi go Z Y F fr set).2.1 ≤ 60) ∧ ((le_P mi go Z Y F fr set).2.2 = 4294967292 ∨ (le_P mi go Z Y F fr set).2.2 ≤ 60) := by
  have p1 := hP.1
  have b := lez_b (T := lz_e (lf_R F) go (Z 0) mi fr (1024 * mi)) (cl := cl_k (Y 4) (Z 4) 6) (set := set) (m := mi) (1024 * (mi + 1)) (Nat.le_refl _)
  refine ⟨lz_ff_I p1.2.2.1 p1.2.1 (mi + 1) (Nat.le_refl _), ?_, ?_⟩
  · exact b.1.elim Or.inl (fun q => Or.inr (Nat.le_trans q p1.2.1))
  · exact b.2.elim Or.inl (fun q => Or.inr (Nat.le_trans q p1.2.1))
/-- learn: what stands then -/
theorem le_q {h : am_H} (hJ : Jv h) {E mi go : Nat} {Z X Y : Nat → Nat} (hA : je_A h E mi go Z X Y) {fr set : Nat} (hfr : fr < Z 0) (hset : set < 256) : ∃ F g, (∀ s, s < Z 0 → ∀ t, t < 60 → am_ag F (60 * s + t) = sc_F Z Y 0 4294967292 s t) ∧ am_EG mi_91 [.ref 45, .ref E, .retAddr fr, .retAddr set] h (none, g) ∧ Jv g ∧ je_A g E mi go Z X Y ∧ (g.1 = h.1 ∧ g.2.1 = h.2.1) ∧ ∃ u45, am_get g 45 = some (.inr (3, u45)) ∧ u45[7]? = some (.retAddr (if (le_P mi go Z Y F fr set).1 = 7 then 4294967292 else (le_P mi go Z Y F fr set).1)) ∧ u45[8]? = some (.retAddr (le_P mi go Z Y F fr set).2.1) ∧ u45[9]? = some (.retAddr (le_P mi go Z Y F fr set).2.2) := by
  have hI := hA.1
  have hE : E = 4 ∨ E = 17 := by
    rcases hI with ⟨q, -⟩ | ⟨q, -⟩
    · exact Or.inl q
    · exact Or.inr q
  obtain ⟨v0, q0, x3, x5, -, -, -, -, -, qE, r0, -, -, -, q32, -, q30⟩ := je_xo hA
  have hP := hA.2.2.2.1
  have p1 := hP.1
  have z0 : Z 0 ≤ 4 := hP.2.1 0 (by decide)
  have z4 : Z 4 ≤ 6 := hP.2.1 4 (by decide)
  obtain ⟨cc, c31, ccl⟩ := hA.2.2.2.2.1
  obtain ⟨W, F, B, s1, s2, s3, s4⟩ := hA.2.2.2.2.2.1
  obtain ⟨c46, L46, L99⟩ := hA.2.2.2.2.2.2.2.2
  obtain ⟨hH, own, -⟩ : lea_ok h ∧ lea h (fldv h 45 3) (fldv h 45 4) (fldv h 45 5) (fldv h 45 6) (fldv h 45 7) (fldv h 45 8) (fldv h 45 9) (fldv h 45 10) (rowv h 46) = h ∧ ∃ v0, am_get h 0 = some (.inr (11, v0)) ∧ v0[10]? = some (.ref 45) := by
    rcases hI with ⟨-, i⟩ | ⟨-, i⟩
    · exact oy0_le i
    · exact oy1_le i
  rw [rowv_eq L46] at own
  have nE : am_lk [(45, am_e0), (46, am_e0)] E = none := by rcases hE with rfl | rfl <;> rfl
  have nA : am_lk [(45, am_e0), (46, am_e0)] (E + 1) = none := by rcases hE with rfl | rfl <;> rfl
  have hC : lz_C (cl_k (Y 4) (Z 4) 6) := lc_C z4 (fun i hi => hP.2.2.1 4 (by decide) (3 * i + 2) (by show 3 * i + 2 < 18; omega))
  have ck : ∀ sn gg al en fg mf ma gb c s t, s < 4 → t ≤ 60 → am_EG mi_68 [.ref 32, .retAddr s, .retAddr t] (lea h sn gg al en fg mf ma gb c) (some (.retAddr (lf_R F s t)), lea h sn gg al en fg mf ma gb c) := fun _ _ _ _ _ _ _ _ _ s t hs ht => lfb_m ((lea_o hH rfl).trans q32) ((lea_o hH rfl).trans s2) hs ht
  have cf : ∀ sn gg al en fg mf ma gb c x, x < 256 → am_EG mi_57 [.ref 30, .retAddr x] (lea h sn gg al en fg mf ma gb c) (some (.retAddr (cl_k (Y 4) (Z 4) 6 x)), lea h sn gg al en fg mf ma gb c) := fun _ _ _ _ _ _ _ _ _ x hx => by
    rw [← ccl x hx]
    exact kn_fol ((lea_o hH rfl).trans q0) x5 ((lea_o hH rfl).trans q30) ((lea_o hH rfl).trans c31) hx
  obtain ⟨⟨f1, f2⟩, f3, f4⟩ := lz_ut_p (f := lf_R F) (st := Z 0) (lf_lt F) mi
  have hV : lz_V (cl_k (Y 4) (Z 4) 6) (lf_R F) go (Z 0) mi fr (lz_ut (lf_R F) (Z 0) mi).2 (cl_k (Y 4) (Z 4) 6 (lz_ut (lf_R F) (Z 0) mi).1) (lz_ut (lf_R F) (Z 0) mi).1 := ⟨hC, lf_lt F, p1.2.2.1, z0, hfr, ⟨f1, rfl⟩, f3, f2, p1.2.1, f4⟩
  have hal := hC.1 _ f1
  have e60 : (lz_ut (lf_R F) (Z 0) mi).2 ≤ 60 := Nat.le_trans f2 p1.2.1
  obtain ⟨I1, I2, I3⟩ := le_I hP F fr set
  -- the end, told once
  have fin : ∀ fg mf ma gb c, (fg = if (le_P mi go Z Y F fr set).1 = 7 then 4294967292 else (le_P mi go Z Y F fr set).1) → mf = (le_P mi go Z Y F fr set).2.1 → ma = (le_P mi go Z Y F fr set).2.2 → gb ≤ 7 → (∀ i, i < 4096 → am_ag c i = 99) → am_EG mi_91 [.ref 45, .ref E, .retAddr fr, .retAddr set] h (none, lea h (Z 0) go (cl_k (Y 4) (Z 4) 6 (lz_ut (lf_R F) (Z 0) mi).1) (lz_ut (lf_R F) (Z 0) mi).2 fg mf ma gb c) → ∃ F g, (∀ s, s < Z 0 → ∀ t, t < 60 → am_ag F (60 * s + t) = sc_F Z Y 0 4294967292 s t) ∧ am_EG mi_91 [.ref 45, .ref E, .retAddr fr, .retAddr set] h (none, g) ∧ Jv g ∧ je_A g E mi go Z X Y ∧ (g.1 = h.1 ∧ g.2.1 = h.2.1) ∧ ∃ u45, am_get g 45 = some (.inr (3, u45)) ∧ u45[7]? = some (.retAddr (if (le_P mi go Z Y F fr set).1 = 7 then 4294967292 else (le_P mi go Z Y F fr set).1)) ∧ u45[8]? = some (.retAddr (le_P mi go Z Y F fr set).2.1) ∧ u45[9]? = some (.retAddr (le_P mi go Z Y F fr set).2.2) := fun fg mf ma gb c ef em ea hgb h99 e => by
    have b5 : fg = 4294967292 ∨ fg ≤ 6 := by
      rw [ef]
      by_cases q : (le_P mi go Z Y F fr set).1 = 7
      · rw [if_pos q]; exact Or.inl rfl
      · rw [if_neg q]
        have := I1.1
        exact Or.inr (by omega)
    have i0 : ax_I sb0 h → ax_I sb0 (lea h (Z 0) go (cl_k (Y 4) (Z 4) 6 (lz_ut (lf_R F) (Z 0) mi).1) (lz_ut (lf_R F) (Z 0) mi).2 fg mf ma gb c) := fun i => oy0_LI i z0 p1.2.2.1 hal e60 b5 (by rw [em]; exact I2) (by rw [ea]; exact I3) hgb
    have i1 : ax_I sb1 h → ax_I sb1 (lea h (Z 0) go (cl_k (Y 4) (Z 4) 6 (lz_ut (lf_R F) (Z 0) mi).1) (lz_ut (lf_R F) (Z 0) mi).2 fg mf ma gb c) := fun i => oy1_LI i z0 p1.2.2.1 hal e60 b5 (by rw [em]; exact I2) (by rw [ea]; exact I3) hgb
    have g45 : am_get (lea h (Z 0) go (cl_k (Y 4) (Z 4) 6 (lz_ut (lf_R F) (Z 0) mi).1) (lz_ut (lf_R F) (Z 0) mi).2 fg mf ma gb c) 45 = _ := lea_g45 hH
    have g46 : am_get (lea h (Z 0) go (cl_k (Y 4) (Z 4) 6 (lz_ut (lf_R F) (Z 0) mi).1) (lz_ut (lf_R F) (Z 0) mi).2 fg mf ma gb c) 46 = _ := lea_g46 hH
    have u : ∀ a, a ≠ 45 → a ≠ 46 → am_get (lea h (Z 0) go (cl_k (Y 4) (Z 4) 6 (lz_ut (lf_R F) (Z 0) mi).1) (lz_ut (lf_R F) (Z 0) mi).2 fg mf ma gb c) a = am_get h a := fun a h1 h2 => lea_o hH (am_lk_ct (ks := [45, 46]) (by simp; omega))
    have sz : (lea h (Z 0) go (cl_k (Y 4) (Z 4) 6 (lz_ut (lf_R F) (Z 0) mi).1) (lz_ut (lf_R F) (Z 0) mi).2 fg mf ma gb c).1 = h.1 ∧ (lea h (Z 0) go (cl_k (Y 4) (Z 4) 6 (lz_ut (lf_R F) (Z 0) mi).1) (lz_ut (lf_R F) (Z 0) mi).2 fg mf ma gb c).2.1 = h.2.1 := by unfold lea; exact am_ups_1 _
    generalize lea h (Z 0) go (cl_k (Y 4) (Z 4) 6 (lz_ut (lf_R F) (Z 0) mi).1) (lz_ut (lf_R F) (Z 0) mi).2 fg mf ma gb c = g at e i0 i1 g45 g46 u sz
    have A := lx_A hA i0 i1 u ⟨c, g46, h99⟩
    refine ⟨F, g, fun s hs t ht => (s4 s hs t ht).2.1, e, lx_J hJ A u, A, sz, _, g45, ?_, ?_, ?_⟩
    · rw [← ef]; rfl
    · rw [← em]; rfl
    · rw [← ea]; rfl
  by_cases hc : cl_k (Y 4) (Z 4) 6 (lz_ut (lf_R F) (Z 0) mi).1 &&& set = set
  · obtain ⟨g', hg', e⟩ := lel_m (sn := fldv h 45 3) (gg := fldv h 45 4) (al := fldv h 45 5) (en := fldv h 45 6) (fg := fldv h 45 7) (mf := fldv h 45 8) (ma := fldv h 45 9) (gb := fldv h 45 10) (c := c46) (f := lf_R F) (cl := cl_k (Y 4) (Z 4) 6) hH q32 q30 ck cf (lf_lt F) hC.1 nE qE rfl rfl rfl nA r0 rfl p1.2.1 z0 p1.2.2.1 (show fr < 4 by omega) hset L99 hal hc
    rw [own] at e
    obtain ⟨M1, M2, M3, M4, M5, M6⟩ := lz_main (set := set) hV
    obtain ⟨c, rfl, hc'⟩ := hg'
    exact fin _ _ _ _ c M3 M4 M5 (by rw [M2]; exact M1.1) (fun i hi => (hc' i hi).trans (M6 i hi)) e
  · have e := lel_0 (sn := fldv h 45 3) (gg := fldv h 45 4) (al := fldv h 45 5) (en := fldv h 45 6) (fg := fldv h 45 7) (mf := fldv h 45 8) (ma := fldv h 45 9) (gb := fldv h 45 10) (c := c46) (f := lf_R F) (cl := cl_k (Y 4) (Z 4) 6) hH q32 q30 ck cf (lf_lt F) hC.1 nE qE rfl rfl rfl nA r0 rfl p1.2.1 z0 p1.2.2.1 (show fr < 4 by omega) hset hc hal
    rw [own] at e
    have N : le_P mi go Z Y F fr set = (7, 4294967292, 4294967292) := lz_none hV hc _
    exact fin _ _ _ _ c46 (by rw [N]; rfl) (by rw [N]) (by rw [N]) (Nat.le_refl _) L99 e
theorem om_ru66 {h : am_H} (hI : ax_I sbm h) : am_get h 66 = some (.inr (12, [.retAddr (fldv h 66 0), .retAddr (fldv h 66 1), .retAddr (fldv h 66 2), .ref 67, valv h 66 4, .ref 68, valv h 66 6, .ref 69, valv h 66 8, .ref 70, valv h 66 10, .ref 71, valv h 66 12, .ref 72, .ref 73, valv h 66 15, valv h 66 16, .ref 74, valv h 66 18, valv h 66 19, valv h 66 20, .ref 75, valv h 66 22, .ref 76, valv h 66 24, .ref 77, valv h 66 26, .ref 78, valv h 66 28, .ref 79, valv h 66 30, .ref 80, .ref 81, .ref 82, .ref 83, .ref 84, valv h 66 36, valv h 66 37, valv h 66 38, valv h 66 39, valv h 66 40, .ref 85, valv h 66 42, .ref 86, valv h 66 44, .ref 87, .ref 88, .ref 89, .retAddr (fldv h 66 48), .retAddr (fldv h 66 49), .retAddr (fldv h 66 50), .ref 90, .ref 91, valv h 66 53, .ref 92])) := by
  refine obj_ls hI rfl rfl (fun k hk => ?_)
  match k, hk with
  | 0, _ => exact (fld_in hI rfl rfl).1
  | 1, _ => exact (fld_in hI rfl rfl).1
  | 2, _ => exact (fld_in hI rfl rfl).1
  | 3, _ => exact ref_in hI rfl rfl
  | 4, _ => exact val_in hI rfl (Nat.le_of_ble_eq_true rfl)
  | 5, _ => exact ref_in hI rfl rfl
  | 6, _ => exact val_in hI rfl (Nat.le_of_ble_eq_true rfl)
  | 7, _ => exact ref_in hI rfl rfl
  | 8, _ => exact val_in hI rfl (Nat.le_of_ble_eq_true rfl)
  | 9, _ => exact ref_in hI rfl rfl
  | 10, _ => exact val_in hI rfl (Nat.le_of_ble_eq_true rfl)
  | 11, _ => exact ref_in hI rfl rfl
  | 12, _ => exact val_in hI rfl (Nat.le_of_ble_eq_true rfl)
  | 13, _ => exact ref_in hI rfl rfl
  | 14, _ => exact ref_in hI rfl rfl
  | 15, _ => exact val_in hI rfl (Nat.le_of_ble_eq_true rfl)
  | 16, _ => exact val_in hI rfl (Nat.le_of_ble_eq_true rfl)
  | 17, _ => exact ref_in hI rfl rfl
  | 18, _ => exact val_in hI rfl (Nat.le_of_ble_eq_true rfl)
  | 19, _ => exact val_in hI rfl (Nat.le_of_ble_eq_true rfl)
  | 20, _ => exact val_in hI rfl (Nat.le_of_ble_eq_true rfl)
  | 21, _ => exact ref_in hI rfl rfl
  | 22, _ => exact val_in hI rfl (Nat.le_of_ble_eq_true rfl)
  | 23, _ => exact ref_in hI rfl rfl
  | 24, _ => exact val_in hI rfl (Nat.le_of_ble_eq_true rfl)
  | 25, _ => exact ref_in hI rfl rfl
  | 26, _ => exact val_in hI rfl (Nat.le_of_ble_eq_true rfl)
  | 27, _ => exact ref_in hI rfl rfl
  | 28, _ => exact val_in hI rfl (Nat.le_of_ble_eq_true rfl)
  | 29, _ => exact ref_in hI rfl rfl
  | 30, _ => exact val_in hI rfl (Nat.le_of_ble_eq_true rfl)
  | 31, _ => exact ref_in hI rfl rfl
  | 32, _ => exact ref_in hI rfl rfl
  | 33, _ => exact ref_in hI rfl rfl
  | 34, _ => exact ref_in hI rfl rfl
  | 35, _ => exact ref_in hI rfl rfl
  | 36, _ => exact val_in hI rfl (Nat.le_of_ble_eq_true rfl)
  | 37, _ => exact val_in hI rfl (Nat.le_of_ble_eq_true rfl)
  | 38, _ => exact val_in hI rfl (Nat.le_of_ble_eq_true rfl)
  | 39, _ => exact val_in hI rfl (Nat.le_of_ble_eq_true rfl)
  | 40, _ => exact val_in hI rfl (Nat.le_of_ble_eq_true rfl)
  | 41, _ => exact ref_in hI rfl rfl
  | 42, _ => exact val_in hI rfl (Nat.le_of_ble_eq_true rfl)
  | 43, _ => exact ref_in hI rfl rfl
  | 44, _ => exact val_in hI rfl (Nat.le_of_ble_eq_true rfl)
  | 45, _ => exact ref_in hI rfl rfl
  | 46, _ => exact ref_in hI rfl rfl
  | 47, _ => exact ref_in hI rfl rfl
  | 48, _ => exact (fld_in hI rfl rfl).1
  | 49, _ => exact (fld_in hI rfl rfl).1
  | 50, _ => exact (fld_in hI rfl rfl).1
  | 51, _ => exact ref_in hI rfl rfl
  | 52, _ => exact ref_in hI rfl rfl
  | 53, _ => exact val_in hI rfl (Nat.le_of_ble_eq_true rfl)
  | 54, _ => exact ref_in hI rfl rfl
  | k + 55, hk => exact absurd hk (Nat.not_lt.mpr (Nat.le_add_left _ _))
theorem om_ru {h : am_H} (hm : ax_I sbm h) : ru_ok h ∧ ru h (valv h 66) (fldv h 66 0) (fldv h 66 1) (fldv h 66 2) (fldv h 66 48) (fldv h 66 49) (fldv h 66 50) (rowv h 89) = h := by
  have g66 := om_ru66 hm
  have g89 : am_get h 89 = some (.inl (0, 62464, rowv h 89)) := (row_in hm rfl).1
  refine ⟨⟨⟨_, g66⟩, ⟨_, g89⟩, trivial⟩, ?_⟩
  unfold ru
  exact am_ups_00 ⟨g66, g89, trivial⟩
theorem ru_Jv {h : am_H} (hJ : Jv h) {mi go n fe so sy e : Nat} (d0 : ax_fv h 66 0 = some (.retAddr mi)) (d1 : ax_fv h 66 1 = some (.retAddr go)) (d2 : ax_fv h 66 2 = some (.retAddr n)) (h1 : fe ≤ 7) (h2 : so = 4294967292 ∨ so ≤ 60) (h3 : sy = 4294967292 ∨ sy ≤ 60) : Jv (ru h (valv h 66) mi go n fe so sy e) := by
  have hm := hJ.1.2
  obtain ⟨hH, -⟩ := om_ru hm
  have u : ∀ a, a ≠ 66 → a ≠ 89 → am_get (ru h (valv h 66) mi go n fe so sy e) a = am_get h a := fun a a1 a2 => ru_o hH (am_lk_ct (ks := [66, 89]) (by simp; omega))
  have g66 := om_ru66 hm
  have v0 : fldv h 66 0 = mi := fldv_fv d0
  have v1 : fldv h 66 1 = go := fldv_fv d1
  have v2 : fldv h 66 2 = n := fldv_fv d2
  rw [v0, v1, v2] at g66
  have hI : ax_I sbm (ru h (valv h 66) mi go n fe so sy e) := by
    have k0 := hH
    unfold ru
    refine ax_I_ups hm ?_ ⟨ok_at rfl (ok_set (k := 50) (n := sy) (ok_set (k := 49) (n := so) (ok_set (k := 48) (n := fe) (ok_own hm rfl g66) rfl (le_in7 h1)) rfl (rt_in2 (by decide) h2)) rfl (rt_in2 (by decide) h3)), ok_at rfl ok_rowt, trivial⟩
    exact k0
  have key : ∀ k, k < 55 → ax_fv h 66 k = some (valv h 66 k) := fun k hk => val_in hm (a := 66) rfl hk
  refine Jv_m hJ (fun a ha => u a (by omega) (by omega)) hI (fun a ha => ?_) (fun k hk => ?_)
  · simp only [List.mem_cons, List.not_mem_nil, or_false] at ha
    exact u a (by omega) (by omega)
  · simp only [List.mem_cons, List.not_mem_nil, or_false] at hk
    rcases hk with rfl | rfl | rfl | rfl | rfl | rfl | rfl | rfl | rfl | rfl | rfl | rfl
    · rw [d0]; unfold ax_fv; rw [ru_g66 hH]; rfl
    · rw [d1]; unfold ax_fv; rw [ru_g66 hH]; rfl
    · rw [d2]; unfold ax_fv; rw [ru_g66 hH]; rfl
    · rw [key 4 (by decide)]; unfold ax_fv; rw [ru_g66 hH]; rfl
    · rw [key 6 (by decide)]; unfold ax_fv; rw [ru_g66 hH]; rfl
    · rw [key 8 (by decide)]; unfold ax_fv; rw [ru_g66 hH]; rfl
    · rw [key 10 (by decide)]; unfold ax_fv; rw [ru_g66 hH]; rfl
    · rw [key 12 (by decide)]; unfold ax_fv; rw [ru_g66 hH]; rfl
    · rw [key 15 (by decide)]; unfold ax_fv; rw [ru_g66 hH]; rfl
    · rw [key 40 (by decide)]; unfold ax_fv; rw [ru_g66 hH]; rfl
    · rw [key 42 (by decide)]; unfold ax_fv; rw [ru_g66 hH]; rfl
    · rw [key 53 (by decide)]; unfold ax_fv; rw [ru_g66 hH]; rfl
theorem me_q {h : am_H} (hJ : Jv h) {E mi go : Nat} {Z X Y : Nat → Nat} (hA : je_A h E mi go Z X Y) {F fr set : Nat} (hF : ∀ s, s < Z 0 → ∀ t, t < 60 → am_ag F (60 * s + t) = sc_F Z Y 0 4294967292 s t) (hfr : fr < Z 0) (hset : set < 256) : ∃ g1 g2 g3 uc, am_EG mi_155 [.ref 66, .retAddr 0, .retAddr 4294967292] h (none, g1) ∧ am_EG mi_187 [.ref 66, .retAddr fr] g1 (none, g2) ∧ am_EG mi_190 [.ref 66, .retAddr set] g2 (none, g3) ∧ (∃ ua, am_get g1 66 = some (.inr (12, ua))) ∧ (∃ ub, am_get g2 66 = some (.inr (12, ub))) ∧ am_get g3 66 = some (.inr (12, uc)) ∧ uc[48]? = some (.retAddr (le_P mi go Z Y F fr set).1) ∧ uc[49]? = some (.retAddr (le_P mi go Z Y F fr set).2.1) ∧ uc[50]? = some (.retAddr (le_P mi go Z Y F fr set).2.2) ∧ Jv g3 ∧ (g3.1 = h.1 ∧ g3.2.1 = h.2.1) := by
  have hP := hA.2.2.2.1
  have p1 := hP.1
  have z0 : Z 0 ≤ 4 := hP.2.1 0 (by decide)
  have z4 : Z 4 ≤ 6 := hP.2.1 4 (by decide)
  have hBY : je_B Z Y := je_bY hP.2.1 hP.2.2.1
  obtain ⟨g, e1, J1, A1, sz1, S1⟩ := lc_x hJ hA (come := 0) (wo := 4294967292) (by decide) (by decide)
  have hm := J1.1.2
  obtain ⟨hH, own⟩ := om_ru hm
  have d := A1.2.2.1
  have v0 : fldv g 66 0 = mi := fldv_fv d.1
  have v1 : fldv g 66 1 = go := fldv_fv d.2.1
  have v2 : fldv g 66 2 = Z 0 := fldv_fv (d.2.2 0 (by decide)).1
  rw [v0, v1, v2] at own
  have a82 : am_get g 82 = some (.inl (0, 256, rowv g 82)) := (row_in hm rfl).1
  have f10 : valv g 66 10 = .retAddr (Z 4) := by
    have q : ax_fv g 66 10 = some (.retAddr (Z 4)) := (d.2.2 4 (by decide)).1
    unfold valv
    rw [q]
    rfl
  have hC : lz_C (cl_k (Y 4) (Z 4) 6) := lc_C z4 (fun i hi => hP.2.2.1 4 (by decide) (3 * i + 2) (by show 3 * i + 2 < 18; omega))
  have cz : ∀ fe so sy e q, q < 256 → am_EG mi_162 [.ref 66, .retAddr q] (ru g (valv g 66) mi go (Z 0) fe so sy e) (some (.retAddr (cl_k (Y 4) (Z 4) 6 q)), ru g (valv g 66) mi go (Z 0) fe so sy e) := fun fe so sy e q hq => cr_m (ru_g66 hH) (by show some (valv g 66 10) = _; rw [f10]) rfl ((ru_o hH rfl).trans (d.2.2 4 (by decide)).2) z4 (fun i hi => hP.2.2.1 4 (by decide) i hi) hq
  have hx : ∀ s t, s < Z 0 → t < mi → am_ag (rowv g 82) (64 * s + t) = lc_8 (sc_F Z Y 0 4294967292 s t) := fun s t hs ht => (S1 s hs t (by omega)).2.1
  have hff : ∀ s t, s < Z 0 → t < mi → lf_R F s t = fbt (sc_F Z Y 0 4294967292 s t) := fun s t hs ht => by
    unfold lf_R
    rw [if_pos (by omega), hF s hs t (by omega)]
    exact fbt_eq (sc_F_8 hBY 0 4294967292 s t)
  obtain ⟨e', a, e2⟩ := lef_m (fe := fldv g 66 48) (so := fldv g 66 49) (sy := fldv g 66 50) (e := rowv g 89) (f := lf_R F) hH a82 hx (fun s t _ _ => sc_F_8 hBY 0 4294967292 s t) hff (lf_lt F) cz hC.1 p1.1 p1.2.1 z0 p1.2.2.1 (show fr < 4 by omega) hfr
  have e3 := les_m (fe := fldv g 66 48) (so := fldv g 66 49) (sy := fldv g 66 50) (e := e') (f := lf_R F) (cl := cl_k (Y 4) (Z 4) 6) hH a82 hx (fun s t _ _ => sc_F_8 hBY 0 4294967292 s t) hff (lf_lt F) cz hC.1 p1.1 p1.2.1 z0 p1.2.2.1 hset a (lez_99 _)
  rw [own] at e2
  obtain ⟨I1, I2, I3⟩ := le_I hP F fr set
  refine ⟨g, _, _, _, e1, e2, e3, jv_g66 J1.1, ⟨_, ru_g66 hH⟩, ru_g66 hH, rfl, rfl, rfl, ru_Jv J1 d.1 d.2.1 (d.2.2 0 (by decide)).1 I1.1 I2 I3, ?_⟩
  have q : (ru g (valv g 66) mi go (Z 0) (le_P mi go Z Y F fr set).1 (le_P mi go Z Y F fr set).2.1 (le_P mi go Z Y F fr set).2.2 e').1 = g.1 ∧ (ru g (valv g 66) mi go (Z 0) (le_P mi go Z Y F fr set).1 (le_P mi go Z Y F fr set).2.1 (le_P mi go Z Y F fr set).2.2 e').2.1 = g.2.1 := by unfold ru; exact am_ups_1 _
  exact ⟨q.1.trans sz1.1, q.2.trans sz1.2⟩
theorem le_xo {h : am_H} {E mi go : Nat} {Z X Y : Nat → Nat} (hA : je_A h E mi go Z X Y) : ∃ v0, am_get h 0 = some (.inr (11, v0)) ∧ v0[10]? = some (.ref 45) ∧ ∃ v45, am_get h 45 = some (.inr (3, v45)) := by
  rcases hA.1 with ⟨-, i⟩ | ⟨-, i⟩
  · obtain ⟨-, -, v0, a, b⟩ := oy0_le i
    exact ⟨v0, a, b, _, oy0_c45 i⟩
  · obtain ⟨-, -, v0, a, b⟩ := oy1_le i
    exact ⟨v0, a, b, _, oy1_c45 i⟩
theorem jb_understand (x y z : Nat) (hx : x < 4294967296) (hy : y < 4294967296) (hz : z < 4294967296) : am_B2 Jv true 90 186 [.retAddr x, .retAddr y, .retAddr z] := by
  intro h hJ
  obtain ⟨E, mi, go, Z, X, Y, hA⟩ := je_ex hJ
  obtain ⟨v0, q0, x3, -, -, -, -, -, -, qE, r0, -, r5, -, -, -, -⟩ := je_xo hA
  obtain ⟨w0, g0, x10, v45, q45⟩ := le_xo hA
  rw [q0] at g0
  cases g0
  have hP := hA.2.2.2.1
  have p1 := hP.1
  have z0 : Z 0 ≤ 4 := hP.2.1 0 (by decide)
  have z5 : Z 5 ≤ 4 := hP.2.1 5 (by decide)
  obtain ⟨vs, q66⟩ := jv_g66 hJ.1
  have f2 := fvg q66 (hA.2.2.1.2.2 0 (by decide)).1
  by_cases h1 : x < Z 0
  case neg => exact je_fin hJ (udx_0 q0 x3 x10 qE q45 hy hz (ist_0 q0 x3 qE rfl rfl rfl rfl r0 rfl r5 rfl p1.2.1 z0 z5 h1 hx)) (udm_0 q66 hy hz (msm_0 q66 f2 p1.2.2.2 (by omega) h1 hx))
  have ex := ist_1 q0 x3 qE rfl rfl rfl rfl r0 rfl r5 rfl p1.2.1 z0 z5 h1
  have em := msm_1 q66 f2 p1.2.2.2 (show Z 0 ≤ 60 by omega) h1
  by_cases h2 : y < 256
  case neg => exact je_fin hJ (udx_1 q0 x3 x10 qE q45 hy hz ex h2) (udm_1 q66 hy hz em h2)
  by_cases h3 : z ≤ 1
  case neg => exact je_fin hJ (udx_2 q0 x3 x10 qE q45 hy hz ex h2 h3) (udm_2 q66 hy hz em h2 h3)
  obtain ⟨F, g, hF, e1, J1, A1, sz1, u45, q45g, t7, t8, t9⟩ := le_q hJ hA h1 h2
  obtain ⟨u0, q0g, x10g, -⟩ := le_xo A1
  obtain ⟨us, u66⟩ := jv_g66 J1.1
  have f2' := fvg u66 (A1.2.2.1.2.2 0 (by decide)).1
  obtain ⟨g1, g2, g3, uc, m1, m2, m3, ⟨ua, ha⟩, ⟨ub, hb⟩, hc, t8m, t9m, t0m, J2, sz2⟩ := me_q J1 A1 hF h1 h2
  have em' := msm_1 u66 f2' p1.2.2.2 (show Z 0 ≤ 60 by omega) h1
  obtain ⟨⟨I1, I2, I3⟩, -, -⟩ := le_I hP F x y
  generalize le_P mi go Z Y F x y = P at t7 t8 t9 t8m t9m t0m I1 I2 I3
  rcases (show z = 0 ∨ z = 1 by omega) with rfl | rfl
  · have a := udx_k0 q0 x3 x10 qE q45 hy ex h2 q0g x10g q45g t7 t8 t9 e1
    by_cases c : P.1 = 7
    · rw [if_pos c] at a
      exact ⟨_, g, _, g3, a, udm_k0n u66 hy em' h2 ha hb hc t8m t9m t0m m1 m2 m3 (I2 c).1, fun _ => rfl, J2, ⟨v0, q0⟩, ⟨us, u66⟩, sz1, sz2⟩
    · rw [if_neg c] at a
      have := (I3 (by omega)).1
      exact ⟨_, g, _, g3, a, udm_k0s u66 hy em' h2 ha hb hc t8m t9m t0m m1 m2 m3 (by omega) (by omega), fun _ => rfl, J2, ⟨v0, q0⟩, ⟨us, u66⟩, sz1, sz2⟩
  · have a := udx_k1 q0 x3 x10 qE q45 hy ex h2 q0g x10g q45g t7 t8 t9 e1
    by_cases c : P.1 = 7
    · rw [(I2 c).1] at a
      exact ⟨_, g, _, g3, a, udm_k1n u66 hy em' h2 ha hb hc t8m t9m t0m m1 m2 m3 (I2 c).1, fun _ => rfl, J2, ⟨v0, q0⟩, ⟨us, u66⟩, sz1, sz2⟩
    · have := (I3 (by omega)).1
      exact ⟨_, g, _, g3, a, udm_k1s u66 hy em' h2 ha hb hc t8m t9m t0m m1 m2 m3 (by omega) (by omega), fun _ => rfl, J2, ⟨v0, q0⟩, ⟨us, u66⟩, sz1, sz2⟩
theorem jb_soonest (x y : Nat) (hx : x < 4294967296) (hy : y < 4294967296) : am_B2 Jv true 100 191 [.retAddr x, .retAddr y] := by
  intro h hJ
  obtain ⟨E, mi, go, Z, X, Y, hA⟩ := je_ex hJ
  obtain ⟨v0, q0, x3, -, -, -, -, -, -, qE, r0, -, r5, -, -, -, -⟩ := je_xo hA
  obtain ⟨w0, g0, x10, v45, q45⟩ := le_xo hA
  rw [q0] at g0
  cases g0
  have hP := hA.2.2.2.1
  have p1 := hP.1
  have z0 : Z 0 ≤ 4 := hP.2.1 0 (by decide)
  have z5 : Z 5 ≤ 4 := hP.2.1 5 (by decide)
  obtain ⟨vs, q66⟩ := jv_g66 hJ.1
  have f2 := fvg q66 (hA.2.2.1.2.2 0 (by decide)).1
  by_cases h1 : x < Z 0
  case neg => exact je_fin hJ (sox_0 q0 x3 x10 qE q45 hy (ist_0 q0 x3 qE rfl rfl rfl rfl r0 rfl r5 rfl p1.2.1 z0 z5 h1 hx)) (som_0 q66 hy (msm_0 q66 f2 p1.2.2.2 (by omega) h1 hx))
  have ex := ist_1 q0 x3 qE rfl rfl rfl rfl r0 rfl r5 rfl p1.2.1 z0 z5 h1
  have em := msm_1 q66 f2 p1.2.2.2 (show Z 0 ≤ 60 by omega) h1
  by_cases h2 : y < 256
  case neg => exact je_fin hJ (sox_1 q0 x3 x10 qE q45 hy ex h2) (som_1 q66 hy em h2)
  obtain ⟨F, g, hF, e1, J1, A1, sz1, u45, q45g, t7, t8, t9⟩ := le_q hJ hA h1 h2
  obtain ⟨u0, q0g, x10g, -⟩ := le_xo A1
  obtain ⟨us, u66⟩ := jv_g66 J1.1
  have f2' := fvg u66 (A1.2.2.1.2.2 0 (by decide)).1
  obtain ⟨g1, g2, g3, uc, m1, m2, m3, ⟨ua, ha⟩, ⟨ub, hb⟩, hc, t8m, t9m, t0m, J2, sz2⟩ := me_q J1 A1 hF h1 h2
  have em' := msm_1 u66 f2' p1.2.2.2 (show Z 0 ≤ 60 by omega) h1
  exact ⟨_, g, _, g3, sox_k q0 x3 x10 qE q45 hy ex h2 q0g x10g q45g t7 t8 t9 e1, som_k u66 hy em' h2 ha hb hc t8m t9m t0m m1 m2 m3, fun _ => rfl, J2, ⟨v0, q0⟩, ⟨us, u66⟩, sz1, sz2⟩
