/-! ===== fair: both ===== -/
theorem rt_in4 {v : Nat} (h : v ≤ 1000) : ax_in v [(0, 4095), (4294967292, 4294967295)] := ⟨by omega, (0, 4095), by simp, Nat.zero_le _, by show v ≤ 4095; omega⟩
/-- behind share: Jv again -/
theorem fx_A {h g : am_H} {E mi go : Nat} {Z X Y : Nat → Nat} (hA : je_A h E mi go Z X Y) (i0 : ax_I sb0 h → ax_I sb0 g) (i1 : ax_I sb1 h → ax_I sb1 g) (u : ∀ a, a < 47 ∨ 53 < a → am_get g a = am_get h a) (hF : je_F g mi go Z Y) : je_A g E mi go Z X Y := by
  obtain ⟨hI, ⟨x1, x2, x3⟩, ⟨m1, m2, m3⟩, hP, ⟨cc, c1, c2⟩, ⟨W, F, B, s1, s2, s3, s4⟩, ⟨G, r1, r2, r3⟩, -, hL⟩ := hA
  have hE : E = 4 ∨ E = 17 := by
    rcases hI with ⟨q, -⟩ | ⟨q, -⟩
    · exact Or.inl q
    · exact Or.inr q
  refine ⟨?_, ⟨?_, ?_, fun k hk => ⟨?_, ?_⟩⟩, ⟨?_, ?_, fun k hk => ⟨?_, ?_⟩⟩, hP, ⟨cc, ?_, c2⟩, ⟨W, F, B, ?_, ?_, ?_, s4⟩, ⟨G, ?_, ?_, r3⟩, hF, je_L_get (u 46 (by decide)) hL⟩
  · rcases hI with ⟨q, i⟩ | ⟨q, i⟩
    · exact Or.inl ⟨q, i0 i⟩
    · exact Or.inr ⟨q, i1 i⟩
  · rw [ax_fv_get (u E (by omega))]; exact x1
  · rw [ax_fv_get (u E (by omega))]; exact x2
  · rw [ax_fv_get (u _ (by omega))]; exact (x3 k hk).1
  · rw [u _ (by omega)]; exact (x3 k hk).2
  · rw [ax_fv_get (u 66 (by decide))]; exact m1
  · rw [ax_fv_get (u 66 (by decide))]; exact m2
  · rw [ax_fv_get (u 66 (by decide))]; exact (m3 k hk).1
  · rw [u _ (by omega)]; exact (m3 k hk).2
  · rw [u 31 (by decide)]; exact c1
  · rw [u 33 (by decide)]; exact s1
  · rw [u 34 (by decide)]; exact s2
  · rw [u 35 (by decide)]; exact s3
  · rw [u 44 (by decide)]; exact r1
  · rw [ax_fv_get (u 43 (by decide))]; exact r2
theorem fx_J {h g : am_H} (hJ : Jv h) {E mi go : Nat} {Z X Y : Nat → Nat} (hA : je_A g E mi go Z X Y) (u : ∀ a, a < 47 ∨ 53 < a → am_get g a = am_get h a) : Jv g := by
  obtain ⟨⟨-, hm⟩, ⟨n, t1, t2, t3⟩, hQ⟩ := hJ
  have hi : ∀ a, 66 ≤ a → am_get g a = am_get h a := fun a ha => u a (by omega)
  have g66 := hi 66 (by decide)
  obtain ⟨hI, d1, d2, d3, d4⟩ := hA
  have hE : jv_E g := by
    rcases hI with ⟨rfl, i⟩ | ⟨rfl, i⟩
    · exact Or.inl ⟨i, mi, go, Z, X, Y, d1, d2, d3, d4⟩
    · exact Or.inr ⟨i, mi, go, Z, X, Y, d1, d2, d3, d4⟩
  have hI' : ax_I sb0 g ∨ ax_I sb1 g := by
    rcases hI with ⟨-, i⟩ | ⟨-, i⟩
    · exact Or.inl i
    · exact Or.inr i
  exact ⟨⟨hI', jl_sbm hm hi hI'⟩, ⟨n, by rw [ax_fv_get (u 0 (by decide))]; exact t1, by rw [ax_fv_get g66]; exact t2, jv_X_get (u 1 (by decide)) (hi 73 (by decide)) (ax_fv_get (u 0 (by decide)) 16) (ax_fv_get g66 53) (fun _ => hE) t3⟩, jq_get hQ g66 (hi 86 (by decide))⟩
theorem oy0_c47 {h : am_H} (hI : ax_I sb0 h) : am_get h 47 = some (.inr (0, [.ref 48, .ref 49, .ref 50, .ref 51, .ref 52, .ref 53, .retAddr (fldv h 47 6), .retAddr (fldv h 47 7), .retAddr (fldv h 47 8)])) := by
  refine obj_ls hI rfl rfl (fun k hk => ?_)
  match k, hk with
  | 0, _ => exact ref_in hI rfl rfl
  | 1, _ => exact ref_in hI rfl rfl
  | 2, _ => exact ref_in hI rfl rfl
  | 3, _ => exact ref_in hI rfl rfl
  | 4, _ => exact ref_in hI rfl rfl
  | 5, _ => exact ref_in hI rfl rfl
  | 6, _ => exact (fld_in hI rfl rfl).1
  | 7, _ => exact (fld_in hI rfl rfl).1
  | 8, _ => exact (fld_in hI rfl rfl).1
  | k + 9, hk => exact absurd hk (Nat.not_lt.mpr (Nat.le_add_left _ _))
theorem oy0_bx {h : am_H} (hI : ax_I sb0 h) : bx_ok h ∧ bx h (fldv h 47 6) (fldv h 47 7) (fldv h 47 8) (rowv h 48) (rowv h 49) (rowv h 50) (rowv h 51) (rowv h 52) (rowv h 53) = h ∧ (∀ r, r < 6 → am_ag (rowv h 51) r ≤ 3) ∧ (∀ i, i < 240 → am_ag (rowv h 33) i ≤ 99) := by
  have g48 : am_get h 48 = some (.inl (0, 24, rowv h 48)) := (row_in hI rfl).1
  have g49 : am_get h 49 = some (.inl (0, 24, rowv h 49)) := (row_in hI rfl).1
  have g50 : am_get h 50 = some (.inl (0, 6, rowv h 50)) := (row_in hI rfl).1
  have g51 : am_get h 51 = some (.inl (0, 6, rowv h 51)) := (row_in hI rfl).1
  have g52 : am_get h 52 = some (.inl (0, 4, rowv h 52)) := (row_in hI rfl).1
  have g53 : am_get h 53 = some (.inl (0, 4, rowv h 53)) := (row_in hI rfl).1
  have g47 := oy0_c47 hI
  refine ⟨⟨⟨_, g47⟩, ⟨_, g48⟩, ⟨_, g49⟩, ⟨_, g50⟩, ⟨_, g51⟩, ⟨_, g52⟩, ⟨_, g53⟩, trivial⟩, ?_, row1_le hI rfl, row1_le hI rfl⟩
  unfold bx
  exact am_ups_00 ⟨g47, g48, g49, g50, g51, g52, g53, trivial⟩
theorem oy0_I {h : am_H} (hI : ax_I sb0 h) {tu le wh la hr bh wr bw : Nat} (h1 : tu ≤ 6) (h2 : le ≤ 1000) (h3 : ∀ r, r < 6 → am_ag hr r ≤ 3) (h4 : ∀ r, r < 6 → am_ag bh r ≤ 3) : ax_I sb0 (bx h tu le 1 wh la hr bh wr bw) := by
  have k0 := (oy0_bx hI).1
  have g47 := oy0_c47 hI
  unfold bx
  refine ax_I_ups hI ?_ ⟨ok_at rfl (ok_set (k := 8) (n := 1) (ok_set (k := 7) (n := le) (ok_set (k := 6) (n := tu) (ok_own hI rfl g47) rfl (ax_in_1 (by omega) (Nat.zero_le _) h1)) rfl (rt_in4 h2)) rfl (ax_in_1 (by decide) (Nat.zero_le _) (by decide))), ok_at rfl ok_rowt, ok_at rfl ok_rowt, ok_at rfl (ok_row1 (by decide) h3), ok_at rfl (ok_row1 (by decide) h4), ok_at rfl ok_rowt, ok_at rfl ok_rowt, trivial⟩
  exact k0
theorem oy1_c47 {h : am_H} (hI : ax_I sb1 h) : am_get h 47 = some (.inr (0, [.ref 48, .ref 49, .ref 50, .ref 51, .ref 52, .ref 53, .retAddr (fldv h 47 6), .retAddr (fldv h 47 7), .retAddr (fldv h 47 8)])) := by
  refine obj_ls hI rfl rfl (fun k hk => ?_)
  match k, hk with
  | 0, _ => exact ref_in hI rfl rfl
  | 1, _ => exact ref_in hI rfl rfl
  | 2, _ => exact ref_in hI rfl rfl
  | 3, _ => exact ref_in hI rfl rfl
  | 4, _ => exact ref_in hI rfl rfl
  | 5, _ => exact ref_in hI rfl rfl
  | 6, _ => exact (fld_in hI rfl rfl).1
  | 7, _ => exact (fld_in hI rfl rfl).1
  | 8, _ => exact (fld_in hI rfl rfl).1
  | k + 9, hk => exact absurd hk (Nat.not_lt.mpr (Nat.le_add_left _ _))
theorem oy1_bx {h : am_H} (hI : ax_I sb1 h) : bx_ok h ∧ bx h (fldv h 47 6) (fldv h 47 7) (fldv h 47 8) (rowv h 48) (rowv h 49) (rowv h 50) (rowv h 51) (rowv h 52) (rowv h 53) = h ∧ (∀ r, r < 6 → am_ag (rowv h 51) r ≤ 3) ∧ (∀ i, i < 240 → am_ag (rowv h 33) i ≤ 99) := by
  have g48 : am_get h 48 = some (.inl (0, 24, rowv h 48)) := (row_in hI rfl).1
  have g49 : am_get h 49 = some (.inl (0, 24, rowv h 49)) := (row_in hI rfl).1
  have g50 : am_get h 50 = some (.inl (0, 6, rowv h 50)) := (row_in hI rfl).1
  have g51 : am_get h 51 = some (.inl (0, 6, rowv h 51)) := (row_in hI rfl).1
  have g52 : am_get h 52 = some (.inl (0, 4, rowv h 52)) := (row_in hI rfl).1
  have g53 : am_get h 53 = some (.inl (0, 4, rowv h 53)) := (row_in hI rfl).1
  have g47 := oy1_c47 hI
  refine ⟨⟨⟨_, g47⟩, ⟨_, g48⟩, ⟨_, g49⟩, ⟨_, g50⟩, ⟨_, g51⟩, ⟨_, g52⟩, ⟨_, g53⟩, trivial⟩, ?_, row1_le hI rfl, row1_le hI rfl⟩
  unfold bx
  exact am_ups_00 ⟨g47, g48, g49, g50, g51, g52, g53, trivial⟩
theorem oy1_I {h : am_H} (hI : ax_I sb1 h) {tu le wh la hr bh wr bw : Nat} (h1 : tu ≤ 6) (h2 : le ≤ 1000) (h3 : ∀ r, r < 6 → am_ag hr r ≤ 3) (h4 : ∀ r, r < 6 → am_ag bh r ≤ 3) : ax_I sb1 (bx h tu le 1 wh la hr bh wr bw) := by
  have k0 := (oy1_bx hI).1
  have g47 := oy1_c47 hI
  unfold bx
  refine ax_I_ups hI ?_ ⟨ok_at rfl (ok_set (k := 8) (n := 1) (ok_set (k := 7) (n := le) (ok_set (k := 6) (n := tu) (ok_own hI rfl g47) rfl (ax_in_1 (by omega) (Nat.zero_le _) h1)) rfl (rt_in4 h2)) rfl (ax_in_1 (by decide) (Nat.zero_le _) (by decide))), ok_at rfl ok_rowt, ok_at rfl ok_rowt, ok_at rfl (ok_row1 (by decide) h3), ok_at rfl (ok_row1 (by decide) h4), ok_at rfl ok_rowt, ok_at rfl ok_rowt, trivial⟩
  exact k0
/-- share: what stands then -/
theorem fx_q {h : am_H} (hJ : Jv h) {E mi go : Nat} {Z X Y : Nat → Nat} (hA : je_A h E mi go Z X Y) (hw : Z 5 ≠ 0) : ∃ g, am_EG mi_107 [.ref 47, .ref E, .ref 32] h (none, g) ∧ Jv g ∧ je_A g E mi go Z X Y ∧ (g.1 = h.1 ∧ g.2.1 = h.2.1) ∧ ax_fv g 47 8 = some (.retAddr 1) := by
  have hI := hA.1
  have hE : E = 4 ∨ E = 17 := by
    rcases hI with ⟨q, -⟩ | ⟨q, -⟩
    · exact Or.inl q
    · exact Or.inr q
  obtain ⟨v0, q0, -, -, -, -, -, -, -, qE, -, -, r5, w5, q32, -, -⟩ := je_xo hA
  have hP := hA.2.2.2.1
  have p1 := hP.1
  have z0 : Z 0 ≤ 4 := hP.2.1 0 (by decide)
  have z5 : Z 5 ≤ 4 := hP.2.1 5 (by decide)
  obtain ⟨W, F, B, s1, s2, s3, s4⟩ := hA.2.2.2.2.2.1
  have hF := hA.2.2.2.2.2.2.2.1
  obtain ⟨hH, own, b3, b33⟩ : bx_ok h ∧ bx h (fldv h 47 6) (fldv h 47 7) (fldv h 47 8) (rowv h 48) (rowv h 49) (rowv h 50) (rowv h 51) (rowv h 52) (rowv h 53) = h ∧ (∀ r, r < 6 → am_ag (rowv h 51) r ≤ 3) ∧ (∀ i, i < 240 → am_ag (rowv h 33) i ≤ 99) := by
    rcases hI with ⟨-, i⟩ | ⟨-, i⟩
    · exact oy0_bx i
    · exact oy1_bx i
  have eo : ∀ i, i < Z 5 → am_ag (X 5) (2 * i + 1) = am_ag (Y 5) (2 * i + 1) := fun i hi => hP.2.2.2.1 5 (by decide) (2 * i + 1) (show 2 * i + 1 < Z 5 * 2 by omega)
  have oy : ∀ i, i < Z 5 → am_ag (Y 5) (2 * i + 1) < Z 0 := hP.2.2.2.2
  have nE : am_lk [(47, am_e0), (48, am_e0), (49, am_e0), (50, am_e0), (51, am_e0), (52, am_e0), (53, am_e0)] E = none := by rcases hE with rfl | rfl <;> rfl
  have nA : am_lk [(47, am_e0), (48, am_e0), (49, am_e0), (50, am_e0), (51, am_e0), (52, am_e0), (53, am_e0)] (E + 11) = none := by rcases hE with rfl | rfl <;> rfl
  have nD : am_lk [(47, am_e0), (48, am_e0), (49, am_e0), (50, am_e0), (51, am_e0), (52, am_e0), (53, am_e0)] (E + 12) = none := by rcases hE with rfl | rfl <;> rfl
  have qS : ∀ tu le sd wh la hr bh wr bw, am_get (bx h tu le sd wh la hr bh wr bw) 32 = some (.inr (9, [.ref 33, .ref 34, .ref 35])) := fun _ _ _ _ _ _ _ _ _ => (bx_o hH rfl).trans q32
  have cw : ∀ tu le sd wh la hr bh wr bw s t, s < 4 → t < 60 → am_EG mi_41 [.ref 32, .retAddr s, .retAddr t] (bx h tu le sd wh la hr bh wr bw) (some (.retAddr ((fun s t => am_ag W (60 * s + t)) s t)), bx h tu le sd wh la hr bh wr bw) := fun _ _ _ _ _ _ _ _ _ s t hs ht => ew_w (s := s) (t := t) ((bx_o hH rfl).trans q32) ((bx_o hH rfl).trans s1) hs ht
  have co : ∀ tu le sd wh la hr bh wr bw i, i < Z 5 → am_EG mi_70 [.ref E, .retAddr i] (bx h tu le sd wh la hr bh wr bw) (some (.retAddr ((fun i => am_ag (X 5) (2 * i + 1)) i)), bx h tu le sd wh la hr bh wr bw) := fun _ _ _ _ _ _ _ _ _ i hi => kg_oof ((bx_o hH nE).trans qE) rfl ((bx_o hH nA).trans r5) ((bx_o hH nD).trans w5) z5 hi
  have ho4 : ∀ i, i < Z 5 → (fun i => am_ag (X 5) (2 * i + 1)) i < 4 := fun i hi => by
    show am_ag (X 5) (2 * i + 1) < 4
    rw [eo i hi]
    have := oy i hi
    omega
  have h99 : ∀ s t, s < 4 → t < 60 → (fun s t => am_ag W (60 * s + t)) s t ≤ 99 := fun s t hs ht => by
    have q := b33 (60 * s + t) (by omega)
    rw [rowv_eq s1] at q
    exact q
  rcases hF with hF | hF
  · rw [fldv_fv hF] at own
    obtain ⟨le', wh', la', hr', bh', wr', bw', ⟨pe1, pe2, pe3⟩, ⟨pb1, pb2⟩, e⟩ := sz_m (tu := fldv h 47 6) (le := fldv h 47 7) (wh := rowv h 48) (la := rowv h 49) (hr := rowv h 50) (bh := rowv h 51) (wr := rowv h 52) (bw := rowv h 53) (own := fun i => am_ag (X 5) (2 * i + 1)) (fw := fun s t => am_ag W (60 * s + t)) hH nE qE rfl rfl rfl nA r5 rfl qS cw co p1.1 p1.2.1 p1.2.2.1 (Nat.pos_of_ne_zero hw) z5 ho4 h99 b3
    rw [own] at e
    have eL : fa_L (fun s t => am_ag W (60 * s + t)) mi go (Z 5) (fun i => am_ag (X 5) (2 * i + 1)) = fa_L (fa_f Z Y) mi go (Z 5) (fa_o Y) := funext fun way => fa_L_cg (Nat.pos_of_ne_zero hw) eo oy (fun s hs t ht => (s4 s hs t (by omega)).1)
    rw [eL] at pe1 pe2 pe3
    have t6 := fa_t6 p1.1 p1.2.1
    have b : ax_I sb0 h → ax_I sb0 (bx h (fa_tn mi) le' 1 wh' la' hr' bh' wr' bw') := fun i => oy0_I i t6.2.1 (by rw [pe1]; exact fa_L_le) pb1 pb2
    have b' : ax_I sb1 h → ax_I sb1 (bx h (fa_tn mi) le' 1 wh' la' hr' bh' wr' bw') := fun i => oy1_I i t6.2.1 (by rw [pe1]; exact fa_L_le) pb1 pb2
    have g47 : am_get (bx h (fa_tn mi) le' 1 wh' la' hr' bh' wr' bw') 47 = _ := bx_g47 hH
    have g51 : am_get (bx h (fa_tn mi) le' 1 wh' la' hr' bh' wr' bw') 51 = _ := bx_g51 hH
    have g53 : am_get (bx h (fa_tn mi) le' 1 wh' la' hr' bh' wr' bw') 53 = _ := bx_g53 hH
    have u : ∀ a, a < 47 ∨ 53 < a → am_get (bx h (fa_tn mi) le' 1 wh' la' hr' bh' wr' bw') a = am_get h a := fun a ha => bx_o hH (am_lk_ct (ks := [47, 48, 49, 50, 51, 52, 53]) (by simp; omega))
    have sz : (bx h (fa_tn mi) le' 1 wh' la' hr' bh' wr' bw').1 = h.1 ∧ (bx h (fa_tn mi) le' 1 wh' la' hr' bh' wr' bw').2.1 = h.2.1 := by unfold bx; exact am_ups_1 _
    generalize bx h (fa_tn mi) le' 1 wh' la' hr' bh' wr' bw' = g at e b b' g47 g51 g53 u sz
    have f8 : ax_fv g 47 8 = some (.retAddr 1) := by unfold ax_fv; rw [g47]; rfl
    have f7 : ax_fv g 47 7 = some (.retAddr le') := by unfold ax_fv; rw [g47]; rfl
    have hF' : je_F g mi go Z Y := Or.inr ⟨f8, by rw [f7, pe1]; rfl, bh', bw', g51, g53, fun r hr => pe2 r hr, fun s hs => (pe3 s hs).trans (fa_w_cg (fun r _ => eo _ (fa_d_lt (Nat.pos_of_ne_zero hw))) (fun r _ t ht => by
      have q : fa_d (Z 5) (fa_tn mi) (fa_b (fa_L (fa_f Z Y) mi go (Z 5) (fa_o Y)) (Z 5 ^ fa_tn mi)) r < Z 5 := fa_d_lt (Nat.pos_of_ne_zero hw)
      show am_ag W (60 * am_ag (X 5) (2 * fa_d (Z 5) (fa_tn mi) (fa_b (fa_L (fa_f Z Y) mi go (Z 5) (fa_o Y)) (Z 5 ^ fa_tn mi)) r + 1) + t) = fa_f Z Y (am_ag (X 5) (2 * fa_d (Z 5) (fa_tn mi) (fa_b (fa_L (fa_f Z Y) mi go (Z 5) (fa_o Y)) (Z 5 ^ fa_tn mi)) r + 1)) t
      rw [eo _ q]
      exact (s4 _ (oy _ q) t (by omega)).1))⟩
    have A := fx_A hA b b' u hF'
    exact ⟨g, e, fx_J hJ A u, A, sz, f8⟩
  · obtain ⟨f8, -⟩ := hF
    rw [fldv_fv f8] at own
    have e := sz_1 (tu := fldv h 47 6) (le := fldv h 47 7) (wh := rowv h 48) (la := rowv h 49) (hr := rowv h 50) (bh := rowv h 51) (wr := rowv h 52) (bw := rowv h 53) (own := fun i => am_ag (X 5) (2 * i + 1)) (fw := fun s t => am_ag W (60 * s + t)) hH nE qE rfl rfl rfl nA r5 rfl qS cw co p1.1 p1.2.1 p1.2.2.1 (Nat.pos_of_ne_zero hw) z5 ho4 h99
    rw [own] at e
    exact ⟨h, e, hJ, hA, ⟨rfl, rfl⟩, f8⟩
def fb_n (wh tn w : Nat) : Nat := if wh = 0 then 1 else if wh = 1 then tn else max 1 w
def fa_r (mi go : Nat) (Z Y : Nat → Nat) (k wh : Nat) : Nat := if wh = 0 then fa_v mi go Z Y else if wh = 1 then fa_h mi go Z Y k else fa_a mi go Z Y (fa_o Y k)
theorem fb_0 {h : am_H} {E a5 mi z5 : Nat} {v0 vE w5 : List Value} (q0 : am_get h 0 = some (.inr (11, v0))) (x3 : v0[3]? = some (.ref E)) (x6 : v0[6]? = some (.ref 32)) (x11 : v0[11]? = some (.ref 47)) (qE : am_get h E = some (.inr (1, vE))) (e5 : vE[5]? = some (.ref a5)) (e6 : vE[6]? = some (.retAddr mi)) (r5 : am_get h a5 = some (.inr (8, w5))) (s5 : w5[3]? = some (.retAddr z5)) (hm : mi ≤ 60) (hz5 : z5 ≤ 4) : am_EG mi_105 [.ref 0, .retAddr 0] h (some (.retAddr 1), h) := by
  refine am_enter (n := 0) tk_105.2.1 (by simp [Value.category]) (Nat.le_of_ble_eq_true rfl) ?_
  show am_Good mi_105 0 [some (.ref 0), some (.retAddr 0)] [] h _
  refine g_iload_n (i := 1) dd_105_0 rfl ?_
  refine g_if_ne_f (t := 6) dd_105_1 (by decide) (by decide) ?_
  refine g_iconst dd_105_4 ic_1 ?_
  exact g_ireturn rfl dd_105_5
theorem fb_1 {h : am_H} {E a5 mi z5 : Nat} {v0 vE w5 : List Value} (q0 : am_get h 0 = some (.inr (11, v0))) (x3 : v0[3]? = some (.ref E)) (x6 : v0[6]? = some (.ref 32)) (x11 : v0[11]? = some (.ref 47)) (qE : am_get h E = some (.inr (1, vE))) (e5 : vE[5]? = some (.ref a5)) (e6 : vE[6]? = some (.retAddr mi)) (r5 : am_get h a5 = some (.inr (8, w5))) (s5 : w5[3]? = some (.retAddr z5)) (hm : mi ≤ 60) (hz5 : z5 ≤ 4) : am_EG mi_105 [.ref 0, .retAddr 1] h (some (.retAddr (fa_tn mi)), h) := by
  refine am_enter (n := 0) tk_105.2.1 (by simp [Value.category]) (Nat.le_of_ble_eq_true rfl) ?_
  show am_Good mi_105 0 [some (.ref 0), some (.retAddr 1)] [] h _
  refine g_iload_n (i := 1) dd_105_0 rfl ?_
  refine g_if_ne_t (t := 6) dd_105_1 (by decide) (by decide) ?_
  refine g_iload_n (i := 1) dd_105_6 rfl ?_
  refine g_iconst dd_105_7 ic_1 ?_
  refine g_icmp_ne_f (t := 19) dd_105_8 (by decide) (by decide) ?_
  refine g_aload_n (i := 0) dd_105_11 rfl ?_
  refine g_getfield (k := 3) am_ck11 (by decide) (Or.inl w_514) dd_105_12 q0 x3 ?_
  refine g_virtual (M' := mi_106) (n := 0) (ci := 1) (b := E) (as := []) (st := []) (r1 := (some (.retAddr (fa_tn mi)), h)) w_816 w_817 w_818 ⟨lk_106.1, lk_106.2.1, lk_106.2.2, by decide, by decide⟩ rfl qE rfl (by simp [Value.category]) dd_105_15 (tn_x qE e6 hm) ?_
  show am_Good mi_105 18 [some (.ref 0), some (.retAddr 1)] [.retAddr (fa_tn mi)] h _
  exact g_ireturn rfl dd_105_18
theorem fb_2 {h : am_H} {E a5 mi z5 : Nat} {v0 vE w5 : List Value} (q0 : am_get h 0 = some (.inr (11, v0))) (x3 : v0[3]? = some (.ref E)) (x6 : v0[6]? = some (.ref 32)) (x11 : v0[11]? = some (.ref 47)) (qE : am_get h E = some (.inr (1, vE))) (e5 : vE[5]? = some (.ref a5)) (e6 : vE[6]? = some (.retAddr mi)) (r5 : am_get h a5 = some (.inr (8, w5))) (s5 : w5[3]? = some (.retAddr z5)) (hm : mi ≤ 60) (hz5 : z5 ≤ 4) : am_EG mi_105 [.ref 0, .retAddr 2] h (some (.retAddr (max 1 z5)), h) := by
  refine am_enter (n := 0) tk_105.2.1 (by simp [Value.category]) (Nat.le_of_ble_eq_true rfl) ?_
  show am_Good mi_105 0 [some (.ref 0), some (.retAddr 2)] [] h _
  refine g_iload_n (i := 1) dd_105_0 rfl ?_
  refine g_if_ne_t (t := 6) dd_105_1 (by decide) (by decide) ?_
  refine g_iload_n (i := 1) dd_105_6 rfl ?_
  refine g_iconst dd_105_7 ic_1 ?_
  refine g_icmp_ne_t (t := 19) dd_105_8 (by decide) (by decide) ?_
  refine g_iconst dd_105_19 ic_1 ?_
  refine g_aload_n (i := 0) dd_105_20 rfl ?_
  refine g_getfield (k := 3) am_ck11 (by decide) (Or.inl w_514) dd_105_21 q0 x3 ?_
  refine g_getfield (k := 5) am_ck1 (by decide) (Or.inr ⟨_, w_104⟩) dd_105_24 qE e5 ?_
  refine g_getfield (k := 3) am_ck8 (by decide) (Or.inr ⟨_, w_67⟩) dd_105_27 r5 s5 ?_
  refine g_mmax w_820 w_409 w_18 w_410 ⟨by decide, by decide⟩ (by simp [Value.category]) dd_105_30 ?_
  rw [show (bif am_tlt 1 z5 then z5 else 1) = max 1 z5 from (rt_mx (by omega) (by omega))]
  exact g_ireturn rfl dd_105_33
theorem fb_x {h : am_H} {E a5 mi z5 : Nat} {v0 vE w5 : List Value} (q0 : am_get h 0 = some (.inr (11, v0))) (x3 : v0[3]? = some (.ref E)) (x6 : v0[6]? = some (.ref 32)) (x11 : v0[11]? = some (.ref 47)) (qE : am_get h E = some (.inr (1, vE))) (e5 : vE[5]? = some (.ref a5)) (e6 : vE[6]? = some (.retAddr mi)) (r5 : am_get h a5 = some (.inr (8, w5))) (s5 : w5[3]? = some (.retAddr z5)) (hm : mi ≤ 60) (hz5 : z5 ≤ 4) {wh : Nat} (hi : wh ≤ 2) : am_EG mi_105 [.ref 0, .retAddr wh] h (some (.retAddr (fb_n wh (fa_tn mi) z5)), h) := by
  unfold fb_n
  rcases (show wh = 0 ∨ wh = 1 ∨ wh = 2 by omega) with rfl | rfl | rfl
  · exact fb_0 q0 x3 x6 x11 qE e5 e6 r5 s5 hm hz5
  · exact fb_1 q0 x3 x6 x11 qE e5 e6 r5 s5 hm hz5
  · exact fb_2 q0 x3 x6 x11 qE e5 e6 r5 s5 hm hz5
theorem fax_0 {h : am_H} {E a5 mi z5 : Nat} {v0 vE w5 : List Value} (q0 : am_get h 0 = some (.inr (11, v0))) (x3 : v0[3]? = some (.ref E)) (x6 : v0[6]? = some (.ref 32)) (x11 : v0[11]? = some (.ref 47)) (qE : am_get h E = some (.inr (1, vE))) (e5 : vE[5]? = some (.ref a5)) (e6 : vE[6]? = some (.retAddr mi)) (r5 : am_get h a5 = some (.inr (8, w5))) (s5 : w5[3]? = some (.retAddr z5)) (hm : mi ≤ 60) (hz5 : z5 ≤ 4) {k wh : Nat} (g_k : k < 4294967296) (g_w : wh < 4294967296) (h1 : ¬ wh ≤ 2) : am_EG mi_104 [.ref 0, .retAddr k, .retAddr wh] h (some (.retAddr 4294967295), h) := by
  refine am_enter (n := 0) tk_104.2.1 (by simp [Value.category]) (Nat.le_of_ble_eq_true rfl) ?_
  show am_Good mi_104 0 [some (.ref 0), some (.retAddr k), some (.retAddr wh)] [] h _
  refine g_iload_n (i := 2) dd_104_0 rfl ?_
  by_cases hq : 2147483648 ≤ wh
  · refine g_if_lt_t (t := 22) dd_104_1 (by decide) (by first | exact sk_lt_t (by omega) (by omega) | exact tk_lt_t (by omega)) ?_
    refine g_iconst dd_104_22 ic_m1 ?_
    exact g_ireturn rfl dd_104_23
  · refine g_if_lt_f (t := 22) dd_104_1 (by decide) (by first | exact sk_lt_f (by omega) (by omega) | exact tk_lt_f (by omega)) ?_
    refine g_iload_n (i := 2) dd_104_4 rfl ?_
    refine g_iconst dd_104_5 ic_2 ?_
    refine g_icmp_gt_t (t := 22) dd_104_6 (by decide) (by first | exact sk_gt_t (by omega) (by omega) | exact tk_gt_t (by omega)) ?_
    refine g_iconst dd_104_22 ic_m1 ?_
    exact g_ireturn rfl dd_104_23
theorem fax_1 {h : am_H} {E a5 mi z5 : Nat} {v0 vE w5 : List Value} (q0 : am_get h 0 = some (.inr (11, v0))) (x3 : v0[3]? = some (.ref E)) (x6 : v0[6]? = some (.ref 32)) (x11 : v0[11]? = some (.ref 47)) (qE : am_get h E = some (.inr (1, vE))) (e5 : vE[5]? = some (.ref a5)) (e6 : vE[6]? = some (.retAddr mi)) (r5 : am_get h a5 = some (.inr (8, w5))) (s5 : w5[3]? = some (.retAddr z5)) (hm : mi ≤ 60) (hz5 : z5 ≤ 4) {k wh : Nat} (g_k : k < 4294967296) (g_w : wh < 4294967296) (h1 : wh ≤ 2) {fb : Nat} (hfb : fb ≤ 100) (e0_ : am_EG mi_105 [.ref 0, .retAddr wh] h (some (.retAddr fb), h)) (h2 : ¬ k < fb) : am_EG mi_104 [.ref 0, .retAddr k, .retAddr wh] h (some (.retAddr 4294967295), h) := by
  refine am_enter (n := 0) tk_104.2.1 (by simp [Value.category]) (Nat.le_of_ble_eq_true rfl) ?_
  show am_Good mi_104 0 [some (.ref 0), some (.retAddr k), some (.retAddr wh)] [] h _
  refine g_iload_n (i := 2) dd_104_0 rfl ?_
  refine g_if_lt_f (t := 22) dd_104_1 (by decide) (by first | exact sk_lt_f (by omega) (by omega) | exact tk_lt_f (by omega)) ?_
  refine g_iload_n (i := 2) dd_104_4 rfl ?_
  refine g_iconst dd_104_5 ic_2 ?_
  refine g_icmp_gt_f (t := 22) dd_104_6 (by decide) (by first | exact sk_gt_f (by omega) (by omega) | exact tk_gt_f (by omega)) ?_
  refine g_iload_n (i := 1) dd_104_9 rfl ?_
  by_cases hq : 2147483648 ≤ k
  · refine g_if_lt_t (t := 22) dd_104_10 (by decide) (by first | exact sk_lt_t (by omega) (by omega) | exact tk_lt_t (by omega)) ?_
    refine g_iconst dd_104_22 ic_m1 ?_
    exact g_ireturn rfl dd_104_23
  · refine g_if_lt_f (t := 22) dd_104_10 (by decide) (by first | exact sk_lt_f (by omega) (by omega) | exact tk_lt_f (by omega)) ?_
    refine g_iload_n (i := 1) dd_104_13 rfl ?_
    refine g_aload_n (i := 0) dd_104_14 rfl ?_
    refine g_iload_n (i := 2) dd_104_15 rfl ?_
    refine g_virtual (M' := mi_105) (n := 1) (ci := 11) (b := 0) (as := [.retAddr wh]) (st := [.retAddr k]) (r1 := (some (.retAddr fb), h)) w_812 w_814 ps_105 ⟨lk_105.1, lk_105.2.1, lk_105.2.2, by decide, by decide⟩ rfl q0 rfl (by simp [Value.category]) dd_104_16 (e0_) ?_
    show am_Good mi_104 19 [some (.ref 0), some (.retAddr k), some (.retAddr wh)] [.retAddr fb, .retAddr k] h _
    refine g_icmp_lt_f (t := 24) dd_104_19 (by decide) (by first | exact sk_lt_f (by omega) (by omega) | exact tk_lt_f (by omega)) ?_
    refine g_iconst dd_104_22 ic_m1 ?_
    exact g_ireturn rfl dd_104_23
theorem fax_2 {h : am_H} {E a5 mi z5 : Nat} {v0 vE w5 : List Value} (q0 : am_get h 0 = some (.inr (11, v0))) (x3 : v0[3]? = some (.ref E)) (x6 : v0[6]? = some (.ref 32)) (x11 : v0[11]? = some (.ref 47)) (qE : am_get h E = some (.inr (1, vE))) (e5 : vE[5]? = some (.ref a5)) (e6 : vE[6]? = some (.retAddr mi)) (r5 : am_get h a5 = some (.inr (8, w5))) (s5 : w5[3]? = some (.retAddr z5)) (hm : mi ≤ 60) (hz5 : z5 ≤ 4) {k wh : Nat} (g_k : k < 4294967296) (g_w : wh < 4294967296) (h1 : wh ≤ 2) {fb : Nat} (hfb : fb ≤ 100) (e0_ : am_EG mi_105 [.ref 0, .retAddr wh] h (some (.retAddr fb), h)) (h2 : k < fb) (h3 : z5 = 0) : am_EG mi_104 [.ref 0, .retAddr k, .retAddr wh] h (some (.retAddr 4294967292), h) := by
  refine am_enter (n := 0) tk_104.2.1 (by simp [Value.category]) (Nat.le_of_ble_eq_true rfl) ?_
  show am_Good mi_104 0 [some (.ref 0), some (.retAddr k), some (.retAddr wh)] [] h _
  refine g_iload_n (i := 2) dd_104_0 rfl ?_
  refine g_if_lt_f (t := 22) dd_104_1 (by decide) (by first | exact sk_lt_f (by omega) (by omega) | exact tk_lt_f (by omega)) ?_
  refine g_iload_n (i := 2) dd_104_4 rfl ?_
  refine g_iconst dd_104_5 ic_2 ?_
  refine g_icmp_gt_f (t := 22) dd_104_6 (by decide) (by first | exact sk_gt_f (by omega) (by omega) | exact tk_gt_f (by omega)) ?_
  refine g_iload_n (i := 1) dd_104_9 rfl ?_
  refine g_if_lt_f (t := 22) dd_104_10 (by decide) (by first | exact sk_lt_f (by omega) (by omega) | exact tk_lt_f (by omega)) ?_
  refine g_iload_n (i := 1) dd_104_13 rfl ?_
  refine g_aload_n (i := 0) dd_104_14 rfl ?_
  refine g_iload_n (i := 2) dd_104_15 rfl ?_
  refine g_virtual (M' := mi_105) (n := 1) (ci := 11) (b := 0) (as := [.retAddr wh]) (st := [.retAddr k]) (r1 := (some (.retAddr fb), h)) w_812 w_814 ps_105 ⟨lk_105.1, lk_105.2.1, lk_105.2.2, by decide, by decide⟩ rfl q0 rfl (by simp [Value.category]) dd_104_16 (e0_) ?_
  show am_Good mi_104 19 [some (.ref 0), some (.retAddr k), some (.retAddr wh)] [.retAddr fb, .retAddr k] h _
  refine g_icmp_lt_t (t := 24) dd_104_19 (by decide) (by first | exact sk_lt_t (by omega) (by omega) | exact tk_lt_t (by omega)) ?_
  refine g_aload_n (i := 0) dd_104_24 rfl ?_
  refine g_getfield (k := 3) am_ck11 (by decide) (Or.inl w_514) dd_104_25 q0 x3 ?_
  refine g_getfield (k := 5) am_ck1 (by decide) (Or.inr ⟨_, w_104⟩) dd_104_28 qE e5 ?_
  refine g_getfield (k := 3) am_ck8 (by decide) (Or.inr ⟨_, w_67⟩) dd_104_31 r5 s5 ?_
  refine g_if_ne_f (t := 40) dd_104_34 (by decide) (tk_ne_f (by omega)) ?_
  refine g_bipush dd_104_37 bi_m4 ?_
  exact g_ireturn rfl dd_104_39
theorem faz_0 {E k : Nat} {g : am_H} {u0 uE u47 : List Value} {lv : Nat} (q0g : am_get g 0 = some (.inr (11, u0))) (x3g : u0[3]? = some (.ref E)) (x11g : u0[11]? = some (.ref 47)) (qEg : am_get g E = some (.inr (1, uE))) (q47g : am_get g 47 = some (.inr (0, u47))) (t7g : u47[7]? = some (.retAddr lv)) : am_Good mi_104 84 [some (.ref 0), some (.retAddr k), some (.retAddr 0)] [] g (some (.retAddr lv), g) := by
  refine g_aload_n (i := 0) dd_104_84 rfl ?_
  refine g_getfield (k := 11) am_ck11 (by decide) (Or.inl w_522) dd_104_85 q0g x11g ?_
  refine g_getfield (k := 7) am_ck0 (by decide) (Or.inr ⟨_, w_275⟩) dd_104_88 q47g t7g ?_
  exact g_ireturn rfl dd_104_91
theorem fax_k0 {h : am_H} {E a5 mi z5 : Nat} {v0 vE w5 : List Value} (q0 : am_get h 0 = some (.inr (11, v0))) (x3 : v0[3]? = some (.ref E)) (x6 : v0[6]? = some (.ref 32)) (x11 : v0[11]? = some (.ref 47)) (qE : am_get h E = some (.inr (1, vE))) (e5 : vE[5]? = some (.ref a5)) (e6 : vE[6]? = some (.retAddr mi)) (r5 : am_get h a5 = some (.inr (8, w5))) (s5 : w5[3]? = some (.retAddr z5)) (hm : mi ≤ 60) (hz5 : z5 ≤ 4) {k : Nat} (g_k : k < 4294967296) {fb : Nat} (hfb : fb ≤ 100) (e0_ : am_EG mi_105 [.ref 0, .retAddr 0] h (some (.retAddr fb), h)) (h2 : k < fb) (h3 : z5 ≠ 0) {g : am_H} {u0 uE u47 : List Value} {lv : Nat} (q0g : am_get g 0 = some (.inr (11, u0))) (x3g : u0[3]? = some (.ref E)) (x11g : u0[11]? = some (.ref 47)) (qEg : am_get g E = some (.inr (1, uE))) (q47g : am_get g 47 = some (.inr (0, u47))) (t7g : u47[7]? = some (.retAddr lv)) {v47 : List Value} (q47 : am_get h 47 = some (.inr (0, v47))) (e1_ : am_EG mi_107 [.ref 47, .ref E, .ref 32] h (none, g)) : am_EG mi_104 [.ref 0, .retAddr k, .retAddr 0] h (some (.retAddr lv), g) := by
  refine am_enter (n := 0) tk_104.2.1 (by simp [Value.category]) (Nat.le_of_ble_eq_true rfl) ?_
  show am_Good mi_104 0 [some (.ref 0), some (.retAddr k), some (.retAddr 0)] [] h _
  refine g_iload_n (i := 2) dd_104_0 rfl ?_
  refine g_if_lt_f (t := 22) dd_104_1 (by decide) (by decide) ?_
  refine g_iload_n (i := 2) dd_104_4 rfl ?_
  refine g_iconst dd_104_5 ic_2 ?_
  refine g_icmp_gt_f (t := 22) dd_104_6 (by decide) (by decide) ?_
  refine g_iload_n (i := 1) dd_104_9 rfl ?_
  refine g_if_lt_f (t := 22) dd_104_10 (by decide) (by first | exact sk_lt_f (by omega) (by omega) | exact tk_lt_f (by omega)) ?_
  refine g_iload_n (i := 1) dd_104_13 rfl ?_
  refine g_aload_n (i := 0) dd_104_14 rfl ?_
  refine g_iload_n (i := 2) dd_104_15 rfl ?_
  refine g_virtual (M' := mi_105) (n := 1) (ci := 11) (b := 0) (as := [.retAddr 0]) (st := [.retAddr k]) (r1 := (some (.retAddr fb), h)) w_812 w_814 ps_105 ⟨lk_105.1, lk_105.2.1, lk_105.2.2, by decide, by decide⟩ rfl q0 rfl (by simp [Value.category]) dd_104_16 (e0_) ?_
  show am_Good mi_104 19 [some (.ref 0), some (.retAddr k), some (.retAddr 0)] [.retAddr fb, .retAddr k] h _
  refine g_icmp_lt_t (t := 24) dd_104_19 (by decide) (by first | exact sk_lt_t (by omega) (by omega) | exact tk_lt_t (by omega)) ?_
  refine g_aload_n (i := 0) dd_104_24 rfl ?_
  refine g_getfield (k := 3) am_ck11 (by decide) (Or.inl w_514) dd_104_25 q0 x3 ?_
  refine g_getfield (k := 5) am_ck1 (by decide) (Or.inr ⟨_, w_104⟩) dd_104_28 qE e5 ?_
  refine g_getfield (k := 3) am_ck8 (by decide) (Or.inr ⟨_, w_67⟩) dd_104_31 r5 s5 ?_
  refine g_if_ne_t (t := 40) dd_104_34 (by decide) (tk_ne_t (by omega)) ?_
  refine g_aload_n (i := 0) dd_104_40 rfl ?_
  refine g_getfield (k := 11) am_ck11 (by decide) (Or.inl w_522) dd_104_41 q0 x11 ?_
  refine g_aload_n (i := 0) dd_104_44 rfl ?_
  refine g_getfield (k := 3) am_ck11 (by decide) (Or.inl w_514) dd_104_45 q0 x3 ?_
  refine g_aload_n (i := 0) dd_104_48 rfl ?_
  refine g_getfield (k := 6) am_ck11 (by decide) (Or.inl w_517) dd_104_49 q0 x6 ?_
  refine g_virtual (M' := mi_107) (n := 2) (ci := 0) (b := 47) (as := [.ref E, .ref 32]) (st := []) (r1 := (none, g)) w_821 w_822 w_823 ⟨lk_107.1, lk_107.2.1, lk_107.2.2, by decide, by decide⟩ rfl q47 rfl (by simp [Value.category]) dd_104_52 (e1_) ?_
  show am_Good mi_104 55 [some (.ref 0), some (.retAddr k), some (.retAddr 0)] [] g _
  refine g_iload_n (i := 2) dd_104_55 rfl ?_
  refine g_lookup (t := 84) (off := 28) dd_104_56 (by decide) (by decide) (by decide) ?_
  exact faz_0 q0g x3g x11g qEg q47g t7g
theorem faz_1 {E k : Nat} {g : am_H} {u0 uE u47 : List Value} {lv : Nat} (q0g : am_get g 0 = some (.inr (11, u0))) (x3g : u0[3]? = some (.ref E)) (x11g : u0[11]? = some (.ref 47)) (qEg : am_get g E = some (.inr (1, uE))) (q47g : am_get g 47 = some (.inr (0, u47))) (t7g : u47[7]? = some (.retAddr lv)) {hv : Nat} (e2_ : am_EG mi_113 [.ref 47, .retAddr k] g (some (.retAddr hv), g)) : am_Good mi_104 92 [some (.ref 0), some (.retAddr k), some (.retAddr 1)] [] g (some (.retAddr hv), g) := by
  refine g_aload_n (i := 0) dd_104_92 rfl ?_
  refine g_getfield (k := 11) am_ck11 (by decide) (Or.inl w_522) dd_104_93 q0g x11g ?_
  refine g_iload_n (i := 1) dd_104_96 rfl ?_
  refine g_virtual (M' := mi_113) (n := 1) (ci := 0) (b := 47) (as := [.retAddr k]) (st := []) (r1 := (some (.retAddr hv), g)) w_850 w_851 w_852 ⟨lk_113.1, lk_113.2.1, lk_113.2.2, by decide, by decide⟩ rfl q47g rfl (by simp [Value.category]) dd_104_97 (e2_) ?_
  show am_Good mi_104 100 [some (.ref 0), some (.retAddr k), some (.retAddr 1)] [.retAddr hv] g _
  exact g_ireturn rfl dd_104_100
theorem fax_k1 {h : am_H} {E a5 mi z5 : Nat} {v0 vE w5 : List Value} (q0 : am_get h 0 = some (.inr (11, v0))) (x3 : v0[3]? = some (.ref E)) (x6 : v0[6]? = some (.ref 32)) (x11 : v0[11]? = some (.ref 47)) (qE : am_get h E = some (.inr (1, vE))) (e5 : vE[5]? = some (.ref a5)) (e6 : vE[6]? = some (.retAddr mi)) (r5 : am_get h a5 = some (.inr (8, w5))) (s5 : w5[3]? = some (.retAddr z5)) (hm : mi ≤ 60) (hz5 : z5 ≤ 4) {k : Nat} (g_k : k < 4294967296) {fb : Nat} (hfb : fb ≤ 100) (e0_ : am_EG mi_105 [.ref 0, .retAddr 1] h (some (.retAddr fb), h)) (h2 : k < fb) (h3 : z5 ≠ 0) {g : am_H} {u0 uE u47 : List Value} {lv : Nat} (q0g : am_get g 0 = some (.inr (11, u0))) (x3g : u0[3]? = some (.ref E)) (x11g : u0[11]? = some (.ref 47)) (qEg : am_get g E = some (.inr (1, uE))) (q47g : am_get g 47 = some (.inr (0, u47))) (t7g : u47[7]? = some (.retAddr lv)) {v47 : List Value} (q47 : am_get h 47 = some (.inr (0, v47))) (e1_ : am_EG mi_107 [.ref 47, .ref E, .ref 32] h (none, g)) {hv : Nat} (e2_ : am_EG mi_113 [.ref 47, .retAddr k] g (some (.retAddr hv), g)) : am_EG mi_104 [.ref 0, .retAddr k, .retAddr 1] h (some (.retAddr hv), g) := by
  refine am_enter (n := 0) tk_104.2.1 (by simp [Value.category]) (Nat.le_of_ble_eq_true rfl) ?_
  show am_Good mi_104 0 [some (.ref 0), some (.retAddr k), some (.retAddr 1)] [] h _
  refine g_iload_n (i := 2) dd_104_0 rfl ?_
  refine g_if_lt_f (t := 22) dd_104_1 (by decide) (by decide) ?_
  refine g_iload_n (i := 2) dd_104_4 rfl ?_
  refine g_iconst dd_104_5 ic_2 ?_
  refine g_icmp_gt_f (t := 22) dd_104_6 (by decide) (by decide) ?_
  refine g_iload_n (i := 1) dd_104_9 rfl ?_
  refine g_if_lt_f (t := 22) dd_104_10 (by decide) (by first | exact sk_lt_f (by omega) (by omega) | exact tk_lt_f (by omega)) ?_
  refine g_iload_n (i := 1) dd_104_13 rfl ?_
  refine g_aload_n (i := 0) dd_104_14 rfl ?_
  refine g_iload_n (i := 2) dd_104_15 rfl ?_
  refine g_virtual (M' := mi_105) (n := 1) (ci := 11) (b := 0) (as := [.retAddr 1]) (st := [.retAddr k]) (r1 := (some (.retAddr fb), h)) w_812 w_814 ps_105 ⟨lk_105.1, lk_105.2.1, lk_105.2.2, by decide, by decide⟩ rfl q0 rfl (by simp [Value.category]) dd_104_16 (e0_) ?_
  show am_Good mi_104 19 [some (.ref 0), some (.retAddr k), some (.retAddr 1)] [.retAddr fb, .retAddr k] h _
  refine g_icmp_lt_t (t := 24) dd_104_19 (by decide) (by first | exact sk_lt_t (by omega) (by omega) | exact tk_lt_t (by omega)) ?_
  refine g_aload_n (i := 0) dd_104_24 rfl ?_
  refine g_getfield (k := 3) am_ck11 (by decide) (Or.inl w_514) dd_104_25 q0 x3 ?_
  refine g_getfield (k := 5) am_ck1 (by decide) (Or.inr ⟨_, w_104⟩) dd_104_28 qE e5 ?_
  refine g_getfield (k := 3) am_ck8 (by decide) (Or.inr ⟨_, w_67⟩) dd_104_31 r5 s5 ?_
  refine g_if_ne_t (t := 40) dd_104_34 (by decide) (tk_ne_t (by omega)) ?_
  refine g_aload_n (i := 0) dd_104_40 rfl ?_
  refine g_getfield (k := 11) am_ck11 (by decide) (Or.inl w_522) dd_104_41 q0 x11 ?_
  refine g_aload_n (i := 0) dd_104_44 rfl ?_
  refine g_getfield (k := 3) am_ck11 (by decide) (Or.inl w_514) dd_104_45 q0 x3 ?_
  refine g_aload_n (i := 0) dd_104_48 rfl ?_
  refine g_getfield (k := 6) am_ck11 (by decide) (Or.inl w_517) dd_104_49 q0 x6 ?_
  refine g_virtual (M' := mi_107) (n := 2) (ci := 0) (b := 47) (as := [.ref E, .ref 32]) (st := []) (r1 := (none, g)) w_821 w_822 w_823 ⟨lk_107.1, lk_107.2.1, lk_107.2.2, by decide, by decide⟩ rfl q47 rfl (by simp [Value.category]) dd_104_52 (e1_) ?_
  show am_Good mi_104 55 [some (.ref 0), some (.retAddr k), some (.retAddr 1)] [] g _
  refine g_iload_n (i := 2) dd_104_55 rfl ?_
  refine g_lookup (t := 92) (off := 36) dd_104_56 (by decide) (by decide) (by decide) ?_
  exact faz_1 q0g x3g x11g qEg q47g t7g e2_
theorem faz_2 {E k : Nat} {g : am_H} {u0 uE u47 : List Value} {lv : Nat} (q0g : am_get g 0 = some (.inr (11, u0))) (x3g : u0[3]? = some (.ref E)) (x11g : u0[11]? = some (.ref 47)) (qEg : am_get g E = some (.inr (1, uE))) (q47g : am_get g 47 = some (.inr (0, u47))) (t7g : u47[7]? = some (.retAddr lv)) {ov hv : Nat} (e2_ : am_EG mi_70 [.ref E, .retAddr k] g (some (.retAddr ov), g)) (e3_ : am_EG mi_114 [.ref 47, .retAddr ov] g (some (.retAddr hv), g)) : am_Good mi_104 101 [some (.ref 0), some (.retAddr k), some (.retAddr 2)] [] g (some (.retAddr hv), g) := by
  refine g_aload_n (i := 0) dd_104_101 rfl ?_
  refine g_getfield (k := 11) am_ck11 (by decide) (Or.inl w_522) dd_104_102 q0g x11g ?_
  refine g_aload_n (i := 0) dd_104_105 rfl ?_
  refine g_getfield (k := 3) am_ck11 (by decide) (Or.inl w_514) dd_104_106 q0g x3g ?_
  refine g_iload_n (i := 1) dd_104_109 rfl ?_
  refine g_virtual (M' := mi_70) (n := 1) (ci := 1) (b := E) (as := [.retAddr k]) (st := [.ref 47]) (r1 := (some (.retAddr ov), g)) w_663 w_664 w_665 ⟨lk_70.1, lk_70.2.1, lk_70.2.2, by decide, by decide⟩ rfl qEg rfl (by simp [Value.category]) dd_104_110 (e2_) ?_
  show am_Good mi_104 113 [some (.ref 0), some (.retAddr k), some (.retAddr 2)] [.retAddr ov, .ref 47] g _
  refine g_virtual (M' := mi_114) (n := 1) (ci := 0) (b := 47) (as := [.retAddr ov]) (st := []) (r1 := (some (.retAddr hv), g)) w_854 w_855 w_856 ⟨lk_114.1, lk_114.2.1, lk_114.2.2, by decide, by decide⟩ rfl q47g rfl (by simp [Value.category]) dd_104_113 (e3_) ?_
  show am_Good mi_104 116 [some (.ref 0), some (.retAddr k), some (.retAddr 2)] [.retAddr hv] g _
  exact g_ireturn rfl dd_104_116
theorem fax_k2 {h : am_H} {E a5 mi z5 : Nat} {v0 vE w5 : List Value} (q0 : am_get h 0 = some (.inr (11, v0))) (x3 : v0[3]? = some (.ref E)) (x6 : v0[6]? = some (.ref 32)) (x11 : v0[11]? = some (.ref 47)) (qE : am_get h E = some (.inr (1, vE))) (e5 : vE[5]? = some (.ref a5)) (e6 : vE[6]? = some (.retAddr mi)) (r5 : am_get h a5 = some (.inr (8, w5))) (s5 : w5[3]? = some (.retAddr z5)) (hm : mi ≤ 60) (hz5 : z5 ≤ 4) {k : Nat} (g_k : k < 4294967296) {fb : Nat} (hfb : fb ≤ 100) (e0_ : am_EG mi_105 [.ref 0, .retAddr 2] h (some (.retAddr fb), h)) (h2 : k < fb) (h3 : z5 ≠ 0) {g : am_H} {u0 uE u47 : List Value} {lv : Nat} (q0g : am_get g 0 = some (.inr (11, u0))) (x3g : u0[3]? = some (.ref E)) (x11g : u0[11]? = some (.ref 47)) (qEg : am_get g E = some (.inr (1, uE))) (q47g : am_get g 47 = some (.inr (0, u47))) (t7g : u47[7]? = some (.retAddr lv)) {v47 : List Value} (q47 : am_get h 47 = some (.inr (0, v47))) (e1_ : am_EG mi_107 [.ref 47, .ref E, .ref 32] h (none, g)) {ov hv : Nat} (e2_ : am_EG mi_70 [.ref E, .retAddr k] g (some (.retAddr ov), g)) (e3_ : am_EG mi_114 [.ref 47, .retAddr ov] g (some (.retAddr hv), g)) : am_EG mi_104 [.ref 0, .retAddr k, .retAddr 2] h (some (.retAddr hv), g) := by
  refine am_enter (n := 0) tk_104.2.1 (by simp [Value.category]) (Nat.le_of_ble_eq_true rfl) ?_
  show am_Good mi_104 0 [some (.ref 0), some (.retAddr k), some (.retAddr 2)] [] h _
  refine g_iload_n (i := 2) dd_104_0 rfl ?_
  refine g_if_lt_f (t := 22) dd_104_1 (by decide) (by decide) ?_
  refine g_iload_n (i := 2) dd_104_4 rfl ?_
  refine g_iconst dd_104_5 ic_2 ?_
  refine g_icmp_gt_f (t := 22) dd_104_6 (by decide) (by decide) ?_
  refine g_iload_n (i := 1) dd_104_9 rfl ?_
  refine g_if_lt_f (t := 22) dd_104_10 (by decide) (by first | exact sk_lt_f (by omega) (by omega) | exact tk_lt_f (by omega)) ?_
  refine g_iload_n (i := 1) dd_104_13 rfl ?_
  refine g_aload_n (i := 0) dd_104_14 rfl ?_
  refine g_iload_n (i := 2) dd_104_15 rfl ?_
  refine g_virtual (M' := mi_105) (n := 1) (ci := 11) (b := 0) (as := [.retAddr 2]) (st := [.retAddr k]) (r1 := (some (.retAddr fb), h)) w_812 w_814 ps_105 ⟨lk_105.1, lk_105.2.1, lk_105.2.2, by decide, by decide⟩ rfl q0 rfl (by simp [Value.category]) dd_104_16 (e0_) ?_
  show am_Good mi_104 19 [some (.ref 0), some (.retAddr k), some (.retAddr 2)] [.retAddr fb, .retAddr k] h _
  refine g_icmp_lt_t (t := 24) dd_104_19 (by decide) (by first | exact sk_lt_t (by omega) (by omega) | exact tk_lt_t (by omega)) ?_
  refine g_aload_n (i := 0) dd_104_24 rfl ?_
  refine g_getfield (k := 3) am_ck11 (by decide) (Or.inl w_514) dd_104_25 q0 x3 ?_
  refine g_getfield (k := 5) am_ck1 (by decide) (Or.inr ⟨_, w_104⟩) dd_104_28 qE e5 ?_
  refine g_getfield (k := 3) am_ck8 (by decide) (Or.inr ⟨_, w_67⟩) dd_104_31 r5 s5 ?_
  refine g_if_ne_t (t := 40) dd_104_34 (by decide) (tk_ne_t (by omega)) ?_
  refine g_aload_n (i := 0) dd_104_40 rfl ?_
  refine g_getfield (k := 11) am_ck11 (by decide) (Or.inl w_522) dd_104_41 q0 x11 ?_
  refine g_aload_n (i := 0) dd_104_44 rfl ?_
  refine g_getfield (k := 3) am_ck11 (by decide) (Or.inl w_514) dd_104_45 q0 x3 ?_
  refine g_aload_n (i := 0) dd_104_48 rfl ?_
  refine g_getfield (k := 6) am_ck11 (by decide) (Or.inl w_517) dd_104_49 q0 x6 ?_
  refine g_virtual (M' := mi_107) (n := 2) (ci := 0) (b := 47) (as := [.ref E, .ref 32]) (st := []) (r1 := (none, g)) w_821 w_822 w_823 ⟨lk_107.1, lk_107.2.1, lk_107.2.2, by decide, by decide⟩ rfl q47 rfl (by simp [Value.category]) dd_104_52 (e1_) ?_
  show am_Good mi_104 55 [some (.ref 0), some (.retAddr k), some (.retAddr 2)] [] g _
  refine g_iload_n (i := 2) dd_104_55 rfl ?_
  refine g_lookup (t := 101) (off := 45) dd_104_56 (by decide) (by decide) (by decide) ?_
  exact faz_2 q0g x3g x11g qEg q47g t7g e2_ e3_
theorem fx_x {h : am_H} (hJ : Jv h) {E mi go : Nat} {Z X Y : Nat → Nat} (hA : je_A h E mi go Z X Y) {k wh : Nat} (hk : k < 4294967296) (hi : wh ≤ 2) (hb : k < fb_n wh (fa_tn mi) (Z 5)) (hw : Z 5 ≠ 0) : ∃ g, am_EG mi_104 [.ref 0, .retAddr k, .retAddr wh] h (some (.retAddr (fa_r mi go Z Y k wh)), g) ∧ Jv g ∧ je_A g E mi go Z X Y ∧ (g.1 = h.1 ∧ g.2.1 = h.2.1) := by
  obtain ⟨v0, q0, x3, -, x6, -, -, -, x11, qE, -, -, r5, w5, -, -, -⟩ := je_xo hA
  have hP := hA.2.2.2.1
  have p1 := hP.1
  have z0 : Z 0 ≤ 4 := hP.2.1 0 (by decide)
  have z5 : Z 5 ≤ 4 := hP.2.1 5 (by decide)
  have t6 := fa_t6 p1.1 p1.2.1
  obtain ⟨g, e1, J1, A1, sz, f8⟩ := fx_q hJ hA hw
  obtain ⟨u0, y0, y3, -, -, -, -, -, y11, yE, -, -, yr5, yw5, -, -, -⟩ := je_xo A1
  have hF := A1.2.2.2.2.2.2.2.1
  have e0 := fb_x q0 x3 x6 x11 qE rfl rfl r5 rfl p1.2.1 z5 hi
  have fbl : fb_n wh (fa_tn mi) (Z 5) ≤ 100 := by
    unfold fb_n
    by_cases c : wh = 0
    · rw [if_pos c]; decide
    · rw [if_neg c]
      by_cases d : wh = 1
      · rw [if_pos d]; omega
      · rw [if_neg d]; omega
  have c47 : ∃ w47, am_get h 47 = some (.inr (0, w47)) := by
    rcases hA.1 with ⟨-, i⟩ | ⟨-, i⟩
    · exact ⟨_, oy0_c47 i⟩
    · exact ⟨_, oy1_c47 i⟩
  obtain ⟨w47, q47⟩ := c47
  have d47 : am_get g 47 = some (.inr (0, [.ref 48, .ref 49, .ref 50, .ref 51, .ref 52, .ref 53, .retAddr (fldv g 47 6), .retAddr (fldv g 47 7), .retAddr (fldv g 47 8)])) := by
    rcases A1.1 with ⟨-, i⟩ | ⟨-, i⟩
    · exact oy0_c47 i
    · exact oy1_c47 i
  rcases hF with hF | ⟨-, f7, bh, bw, g51, g53, hbh, hbw⟩
  · rw [f8] at hF; cases hF
  have e7 := fldv_fv f7
  refine ⟨g, ?_, J1, A1, sz⟩
  unfold fa_r
  rcases (show wh = 0 ∨ wh = 1 ∨ wh = 2 by omega) with rfl | rfl | rfl
  · rw [if_pos rfl, ← e7]
    exact fax_k0 q0 x3 x6 x11 qE rfl rfl r5 rfl p1.2.1 z5 hk fbl e0 hb hw y0 y3 y11 yE d47 rfl q47 e1
  · rw [if_neg (by decide), if_pos rfl]
    have hb' : k < fa_tn mi := hb
    rw [← hbh k hb']
    exact fax_k1 q0 x3 x6 x11 qE rfl rfl r5 rfl p1.2.1 z5 hk fbl e0 hb hw y0 y3 y11 yE d47 rfl q47 e1 (so_h d47 g51 (by omega))
  · rw [if_neg (by decide), if_neg (by decide)]
    have hb' : k < max 1 (Z 5) := hb
    have k5 : k < Z 5 := by omega
    have a1 : am_ag (X 5) (2 * k + 1) = am_ag (Y 5) (2 * k + 1) := hP.2.2.2.1 5 (by decide) (2 * k + 1) (show 2 * k + 1 < Z 5 * 2 by omega)
    have oy := hP.2.2.2.2 k k5
    have e2 := kg_oof yE rfl yr5 yw5 z5 k5
    rw [a1] at e2
    have h4 : fa_o Y k < 4 := by
      show am_ag (Y 5) (2 * k + 1) < 4
      omega
    rw [← hbw _ h4]
    exact fax_k2 q0 x3 x6 x11 qE rfl rfl r5 rfl p1.2.1 z5 hk fbl e0 hb hw y0 y3 y11 yE d47 rfl q47 e1 e2 (so_s d47 g53 h4)
theorem fam_0a {h : am_H} {vs : List Value} {w tn k : Nat} (q66 : am_get h 66 = some (.inr (12, vs))) (f12 : vs[12]? = some (.retAddr w)) (hw : w ≤ 4) (t1 : 1 ≤ tn) (t6 : tn ≤ 6) (g_k : k < 4294967296) (e0_ : am_EG mi_195 [.ref 66] h (some (.retAddr tn), h)) {wh : Nat} (g_w : wh < 4294967296) (h1 : ¬ wh ≤ 2) (hw0 : w = 0) : am_EG mi_194 [.ref 66, .retAddr k, .retAddr wh] h (some (.retAddr 4294967295), h) := by
  refine am_enter (n := 5) tk_194.2.1 (by simp [Value.category]) (Nat.le_of_ble_eq_true rfl) ?_
  show am_Good mi_194 0 [some (.ref 66), some (.retAddr k), some (.retAddr wh), none, none, none, none, none] [] h _
  refine g_iload_n (i := 2) dd_194_0 rfl ?_
  refine g_if_ne_t (t := 8) dd_194_1 (by decide) (tk_ne_t (by omega)) ?_
  refine g_iload_n (i := 2) dd_194_8 rfl ?_
  refine g_iconst dd_194_9 ic_1 ?_
  refine g_icmp_ne_t (t := 22) dd_194_10 (by decide) (tk_ne_t (by omega)) ?_
  refine g_aload_n (i := 0) dd_194_22 rfl ?_
  refine g_getfield (k := 12) am_ck12 (by decide) (Or.inl w_947) dd_194_23 q66 f12 ?_
  refine g_if_ne_f (t := 33) dd_194_26 (by decide) (tk_ne_f (by omega)) ?_
  refine g_iconst dd_194_29 ic_0 ?_
  refine g_goto (t := 39) dd_194_30 (by decide) ?_
  refine g_istore_n (i := 3) dd_194_39 (am_nlb_ok rfl) (by decide) ?_
  refine g_iload_n (i := 2) dd_194_40 rfl ?_
  refine g_iconst dd_194_41 ic_0 ?_
  refine g_iconst dd_194_42 ic_2 ?_
  refine g_static (M' := mi_133) (n := 3) (as := [.retAddr wh, .retAddr 0, .retAddr 2]) (st := []) (r1 := (some (.retAddr 0), h)) w_1106 w_1107 ⟨lk_133.1, lk_133.2.1, lk_133.2.2, by decide, by decide⟩ rfl (by simp [Value.category]) dd_194_43 (rin_w g_w h1) ?_
  show am_Good mi_194 46 [some (.ref 66), some (.retAddr k), some (.retAddr wh), some (.retAddr 0), none, none, none, none] [.retAddr 0] h _
  refine g_if_eq_t (t := 58) dd_194_46 (by decide) (by decide) ?_
  refine g_iconst dd_194_58 ic_m1 ?_
  exact g_ireturn rfl dd_194_59
theorem fam_0b {h : am_H} {vs : List Value} {w tn k : Nat} (q66 : am_get h 66 = some (.inr (12, vs))) (f12 : vs[12]? = some (.retAddr w)) (hw : w ≤ 4) (t1 : 1 ≤ tn) (t6 : tn ≤ 6) (g_k : k < 4294967296) (e0_ : am_EG mi_195 [.ref 66] h (some (.retAddr tn), h)) {wh : Nat} (g_w : wh < 4294967296) (h1 : ¬ wh ≤ 2) (hw0 : w ≠ 0) : am_EG mi_194 [.ref 66, .retAddr k, .retAddr wh] h (some (.retAddr 4294967295), h) := by
  refine am_enter (n := 5) tk_194.2.1 (by simp [Value.category]) (Nat.le_of_ble_eq_true rfl) ?_
  show am_Good mi_194 0 [some (.ref 66), some (.retAddr k), some (.retAddr wh), none, none, none, none, none] [] h _
  refine g_iload_n (i := 2) dd_194_0 rfl ?_
  refine g_if_ne_t (t := 8) dd_194_1 (by decide) (tk_ne_t (by omega)) ?_
  refine g_iload_n (i := 2) dd_194_8 rfl ?_
  refine g_iconst dd_194_9 ic_1 ?_
  refine g_icmp_ne_t (t := 22) dd_194_10 (by decide) (tk_ne_t (by omega)) ?_
  refine g_aload_n (i := 0) dd_194_22 rfl ?_
  refine g_getfield (k := 12) am_ck12 (by decide) (Or.inl w_947) dd_194_23 q66 f12 ?_
  refine g_if_ne_t (t := 33) dd_194_26 (by decide) (tk_ne_t (by omega)) ?_
  refine g_aload_n (i := 0) dd_194_33 rfl ?_
  refine g_getfield (k := 12) am_ck12 (by decide) (Or.inl w_947) dd_194_34 q66 f12 ?_
  refine g_iconst dd_194_37 ic_1 ?_
  refine e_isub (v := w - 1) dd_194_38 (by omega) ?_
  refine g_istore_n (i := 3) dd_194_39 (am_nlb_ok rfl) (by decide) ?_
  refine g_iload_n (i := 2) dd_194_40 rfl ?_
  refine g_iconst dd_194_41 ic_0 ?_
  refine g_iconst dd_194_42 ic_2 ?_
  refine g_static (M' := mi_133) (n := 3) (as := [.retAddr wh, .retAddr 0, .retAddr 2]) (st := []) (r1 := (some (.retAddr 0), h)) w_1106 w_1107 ⟨lk_133.1, lk_133.2.1, lk_133.2.2, by decide, by decide⟩ rfl (by simp [Value.category]) dd_194_43 (rin_w g_w h1) ?_
  show am_Good mi_194 46 [some (.ref 66), some (.retAddr k), some (.retAddr wh), some (.retAddr (w - 1)), none, none, none, none] [.retAddr 0] h _
  refine g_if_eq_t (t := 58) dd_194_46 (by decide) (by decide) ?_
  refine g_iconst dd_194_58 ic_m1 ?_
  exact g_ireturn rfl dd_194_59
theorem fam_b0 {h : am_H} {vs : List Value} {w tn k : Nat} (q66 : am_get h 66 = some (.inr (12, vs))) (f12 : vs[12]? = some (.retAddr w)) (hw : w ≤ 4) (t1 : 1 ≤ tn) (t6 : tn ≤ 6) (g_k : k < 4294967296) (e0_ : am_EG mi_195 [.ref 66] h (some (.retAddr tn), h))  (h2 : ¬ k < 1) : am_EG mi_194 [.ref 66, .retAddr k, .retAddr 0] h (some (.retAddr 4294967295), h) := by
  refine am_enter (n := 5) tk_194.2.1 (by simp [Value.category]) (Nat.le_of_ble_eq_true rfl) ?_
  show am_Good mi_194 0 [some (.ref 66), some (.retAddr k), some (.retAddr 0), none, none, none, none, none] [] h _
  refine g_iload_n (i := 2) dd_194_0 rfl ?_
  refine g_if_ne_f (t := 8) dd_194_1 (by decide) (by decide) ?_
  refine g_iconst dd_194_4 ic_0 ?_
  refine g_goto (t := 39) dd_194_5 (by decide) ?_
  refine g_istore_n (i := 3) dd_194_39 (am_nlb_ok rfl) (by decide) ?_
  refine g_iload_n (i := 2) dd_194_40 rfl ?_
  refine g_iconst dd_194_41 ic_0 ?_
  refine g_iconst dd_194_42 ic_2 ?_
  refine g_static (M' := mi_133) (n := 3) (as := [.retAddr 0, .retAddr 0, .retAddr 2]) (st := []) (r1 := (some (.retAddr 1), h)) w_1106 w_1107 ⟨lk_133.1, lk_133.2.1, lk_133.2.2, by decide, by decide⟩ rfl (by simp [Value.category]) dd_194_43 (ri_1 (z := 3) (by decide) (by decide) (by decide)) ?_
  show am_Good mi_194 46 [some (.ref 66), some (.retAddr k), some (.retAddr 0), some (.retAddr 0), none, none, none, none] [.retAddr 1] h _
  refine g_if_eq_f (t := 58) dd_194_46 (by decide) (by decide) ?_
  refine g_iload_n (i := 1) dd_194_49 rfl ?_
  refine g_iconst dd_194_50 ic_0 ?_
  refine g_iload_n (i := 3) dd_194_51 rfl ?_
  refine g_static (M' := mi_133) (n := 3) (as := [.retAddr k, .retAddr 0, .retAddr 0]) (st := []) (r1 := (some (.retAddr 0), h)) w_1106 w_1107 ⟨lk_133.1, lk_133.2.1, lk_133.2.2, by decide, by decide⟩ rfl (by simp [Value.category]) dd_194_52 (ri_0 (z := 1) (by omega) (by omega) h2 g_k) ?_
  show am_Good mi_194 55 [some (.ref 66), some (.retAddr k), some (.retAddr 0), some (.retAddr 0), none, none, none, none] [.retAddr 0] h _
  refine g_if_ne_f (t := 60) dd_194_55 (by decide) (by decide) ?_
  refine g_iconst dd_194_58 ic_m1 ?_
  exact g_ireturn rfl dd_194_59
theorem fam_n0 {h : am_H} {vs : List Value} {w tn k : Nat} (q66 : am_get h 66 = some (.inr (12, vs))) (f12 : vs[12]? = some (.retAddr w)) (hw : w ≤ 4) (t1 : 1 ≤ tn) (t6 : tn ≤ 6) (g_k : k < 4294967296) (e0_ : am_EG mi_195 [.ref 66] h (some (.retAddr tn), h)) (hw0 : w = 0) (h2 : k < 1) : am_EG mi_194 [.ref 66, .retAddr k, .retAddr 0] h (some (.retAddr 4294967292), h) := by
  refine am_enter (n := 5) tk_194.2.1 (by simp [Value.category]) (Nat.le_of_ble_eq_true rfl) ?_
  show am_Good mi_194 0 [some (.ref 66), some (.retAddr k), some (.retAddr 0), none, none, none, none, none] [] h _
  refine g_iload_n (i := 2) dd_194_0 rfl ?_
  refine g_if_ne_f (t := 8) dd_194_1 (by decide) (by decide) ?_
  refine g_iconst dd_194_4 ic_0 ?_
  refine g_goto (t := 39) dd_194_5 (by decide) ?_
  refine g_istore_n (i := 3) dd_194_39 (am_nlb_ok rfl) (by decide) ?_
  refine g_iload_n (i := 2) dd_194_40 rfl ?_
  refine g_iconst dd_194_41 ic_0 ?_
  refine g_iconst dd_194_42 ic_2 ?_
  refine g_static (M' := mi_133) (n := 3) (as := [.retAddr 0, .retAddr 0, .retAddr 2]) (st := []) (r1 := (some (.retAddr 1), h)) w_1106 w_1107 ⟨lk_133.1, lk_133.2.1, lk_133.2.2, by decide, by decide⟩ rfl (by simp [Value.category]) dd_194_43 (ri_1 (z := 3) (by decide) (by decide) (by decide)) ?_
  show am_Good mi_194 46 [some (.ref 66), some (.retAddr k), some (.retAddr 0), some (.retAddr 0), none, none, none, none] [.retAddr 1] h _
  refine g_if_eq_f (t := 58) dd_194_46 (by decide) (by decide) ?_
  refine g_iload_n (i := 1) dd_194_49 rfl ?_
  refine g_iconst dd_194_50 ic_0 ?_
  refine g_iload_n (i := 3) dd_194_51 rfl ?_
  refine g_static (M' := mi_133) (n := 3) (as := [.retAddr k, .retAddr 0, .retAddr 0]) (st := []) (r1 := (some (.retAddr 1), h)) w_1106 w_1107 ⟨lk_133.1, lk_133.2.1, lk_133.2.2, by decide, by decide⟩ rfl (by simp [Value.category]) dd_194_52 (ri_1 (z := 1) (by omega) (by omega) h2) ?_
  show am_Good mi_194 55 [some (.ref 66), some (.retAddr k), some (.retAddr 0), some (.retAddr 0), none, none, none, none] [.retAddr 1] h _
  refine g_if_ne_t (t := 60) dd_194_55 (by decide) (by decide) ?_
  refine g_aload_n (i := 0) dd_194_60 rfl ?_
  refine g_getfield (k := 12) am_ck12 (by decide) (Or.inl w_947) dd_194_61 q66 f12 ?_
  refine g_if_ne_f (t := 70) dd_194_64 (by decide) (tk_ne_f (by omega)) ?_
  refine g_bipush dd_194_67 bi_m4 ?_
  exact g_ireturn rfl dd_194_69
theorem fam_g0 {h : am_H} {vs : List Value} {w tn k : Nat} (q66 : am_get h 66 = some (.inr (12, vs))) (f12 : vs[12]? = some (.retAddr w)) (hw : w ≤ 4) (t1 : 1 ≤ tn) (t6 : tn ≤ 6) (g_k : k < 4294967296) (e0_ : am_EG mi_195 [.ref 66] h (some (.retAddr tn), h)) {r : am_R} {g : am_H} {ug : List Value} (q66g : am_get g 66 = some (.inr (12, ug))) (f12g : ug[12]? = some (.retAddr w)) (hw0 : w ≠ 0) (h2 : k < 1) (e1_ : am_EG mi_155 [.ref 66, .retAddr 0, .retAddr 4294967292] h (none, g)) (hg : am_Good mi_194 77 [some (.ref 66), some (.retAddr k), some (.retAddr 0), some (.retAddr 0), none, none, none, none] [] g r) : am_EG mi_194 [.ref 66, .retAddr k, .retAddr 0] h r := by
  refine am_enter (n := 5) tk_194.2.1 (by simp [Value.category]) (Nat.le_of_ble_eq_true rfl) ?_
  show am_Good mi_194 0 [some (.ref 66), some (.retAddr k), some (.retAddr 0), none, none, none, none, none] [] h _
  refine g_iload_n (i := 2) dd_194_0 rfl ?_
  refine g_if_ne_f (t := 8) dd_194_1 (by decide) (by decide) ?_
  refine g_iconst dd_194_4 ic_0 ?_
  refine g_goto (t := 39) dd_194_5 (by decide) ?_
  refine g_istore_n (i := 3) dd_194_39 (am_nlb_ok rfl) (by decide) ?_
  refine g_iload_n (i := 2) dd_194_40 rfl ?_
  refine g_iconst dd_194_41 ic_0 ?_
  refine g_iconst dd_194_42 ic_2 ?_
  refine g_static (M' := mi_133) (n := 3) (as := [.retAddr 0, .retAddr 0, .retAddr 2]) (st := []) (r1 := (some (.retAddr 1), h)) w_1106 w_1107 ⟨lk_133.1, lk_133.2.1, lk_133.2.2, by decide, by decide⟩ rfl (by simp [Value.category]) dd_194_43 (ri_1 (z := 3) (by decide) (by decide) (by decide)) ?_
  show am_Good mi_194 46 [some (.ref 66), some (.retAddr k), some (.retAddr 0), some (.retAddr 0), none, none, none, none] [.retAddr 1] h _
  refine g_if_eq_f (t := 58) dd_194_46 (by decide) (by decide) ?_
  refine g_iload_n (i := 1) dd_194_49 rfl ?_
  refine g_iconst dd_194_50 ic_0 ?_
  refine g_iload_n (i := 3) dd_194_51 rfl ?_
  refine g_static (M' := mi_133) (n := 3) (as := [.retAddr k, .retAddr 0, .retAddr 0]) (st := []) (r1 := (some (.retAddr 1), h)) w_1106 w_1107 ⟨lk_133.1, lk_133.2.1, lk_133.2.2, by decide, by decide⟩ rfl (by simp [Value.category]) dd_194_52 (ri_1 (z := 1) (by omega) (by omega) h2) ?_
  show am_Good mi_194 55 [some (.ref 66), some (.retAddr k), some (.retAddr 0), some (.retAddr 0), none, none, none, none] [.retAddr 1] h _
  refine g_if_ne_t (t := 60) dd_194_55 (by decide) (by decide) ?_
  refine g_aload_n (i := 0) dd_194_60 rfl ?_
  refine g_getfield (k := 12) am_ck12 (by decide) (Or.inl w_947) dd_194_61 q66 f12 ?_
  refine g_if_ne_t (t := 70) dd_194_64 (by decide) (tk_ne_t (by omega)) ?_
  refine g_aload_n (i := 0) dd_194_70 rfl ?_
  refine g_iconst dd_194_71 ic_0 ?_
  refine g_bipush dd_194_72 bi_m4 ?_
  refine g_virtual (M' := mi_155) (n := 2) (ci := 12) (b := 66) (as := [.retAddr 0, .retAddr 4294967292]) (st := []) (r1 := (none, g)) w_1192 w_1194 ps_155 ⟨lk_155.1, lk_155.2.1, lk_155.2.2, by decide, by decide⟩ rfl q66 rfl (by simp [Value.category]) dd_194_74 (e1_) ?_
  show am_Good mi_194 77 [some (.ref 66), some (.retAddr k), some (.retAddr 0), some (.retAddr 0), none, none, none, none] [] g _
  exact hg
theorem fam_b1 {h : am_H} {vs : List Value} {w tn k : Nat} (q66 : am_get h 66 = some (.inr (12, vs))) (f12 : vs[12]? = some (.retAddr w)) (hw : w ≤ 4) (t1 : 1 ≤ tn) (t6 : tn ≤ 6) (g_k : k < 4294967296) (e0_ : am_EG mi_195 [.ref 66] h (some (.retAddr tn), h))  (h2 : ¬ k < tn) : am_EG mi_194 [.ref 66, .retAddr k, .retAddr 1] h (some (.retAddr 4294967295), h) := by
  refine am_enter (n := 5) tk_194.2.1 (by simp [Value.category]) (Nat.le_of_ble_eq_true rfl) ?_
  show am_Good mi_194 0 [some (.ref 66), some (.retAddr k), some (.retAddr 1), none, none, none, none, none] [] h _
  refine g_iload_n (i := 2) dd_194_0 rfl ?_
  refine g_if_ne_t (t := 8) dd_194_1 (by decide) (by decide) ?_
  refine g_iload_n (i := 2) dd_194_8 rfl ?_
  refine g_iconst dd_194_9 ic_1 ?_
  refine g_icmp_ne_f (t := 22) dd_194_10 (by decide) (by decide) ?_
  refine g_aload_n (i := 0) dd_194_13 rfl ?_
  refine g_virtual (M' := mi_195) (n := 0) (ci := 12) (b := 66) (as := []) (st := []) (r1 := (some (.retAddr tn), h)) w_1348 w_1350 ps_195 ⟨lk_195.1, lk_195.2.1, lk_195.2.2, by decide, by decide⟩ rfl q66 rfl (by simp [Value.category]) dd_194_14 (e0_) ?_
  show am_Good mi_194 17 [some (.ref 66), some (.retAddr k), some (.retAddr 1), none, none, none, none, none] [.retAddr tn] h _
  refine g_iconst dd_194_17 ic_1 ?_
  refine e_isub (v := tn - 1) dd_194_18 (by omega) ?_
  refine g_goto (t := 39) dd_194_19 (by decide) ?_
  refine g_istore_n (i := 3) dd_194_39 (am_nlb_ok rfl) (by decide) ?_
  refine g_iload_n (i := 2) dd_194_40 rfl ?_
  refine g_iconst dd_194_41 ic_0 ?_
  refine g_iconst dd_194_42 ic_2 ?_
  refine g_static (M' := mi_133) (n := 3) (as := [.retAddr 1, .retAddr 0, .retAddr 2]) (st := []) (r1 := (some (.retAddr 1), h)) w_1106 w_1107 ⟨lk_133.1, lk_133.2.1, lk_133.2.2, by decide, by decide⟩ rfl (by simp [Value.category]) dd_194_43 (ri_1 (z := 3) (by decide) (by decide) (by decide)) ?_
  show am_Good mi_194 46 [some (.ref 66), some (.retAddr k), some (.retAddr 1), some (.retAddr (tn - 1)), none, none, none, none] [.retAddr 1] h _
  refine g_if_eq_f (t := 58) dd_194_46 (by decide) (by decide) ?_
  refine g_iload_n (i := 1) dd_194_49 rfl ?_
  refine g_iconst dd_194_50 ic_0 ?_
  refine g_iload_n (i := 3) dd_194_51 rfl ?_
  refine g_static (M' := mi_133) (n := 3) (as := [.retAddr k, .retAddr 0, .retAddr (tn - 1)]) (st := []) (r1 := (some (.retAddr 0), h)) w_1106 w_1107 ⟨lk_133.1, lk_133.2.1, lk_133.2.2, by decide, by decide⟩ rfl (by simp [Value.category]) dd_194_52 (ri_0 (z := tn) (by omega) (by omega) h2 g_k) ?_
  show am_Good mi_194 55 [some (.ref 66), some (.retAddr k), some (.retAddr 1), some (.retAddr (tn - 1)), none, none, none, none] [.retAddr 0] h _
  refine g_if_ne_f (t := 60) dd_194_55 (by decide) (by decide) ?_
  refine g_iconst dd_194_58 ic_m1 ?_
  exact g_ireturn rfl dd_194_59
theorem fam_n1 {h : am_H} {vs : List Value} {w tn k : Nat} (q66 : am_get h 66 = some (.inr (12, vs))) (f12 : vs[12]? = some (.retAddr w)) (hw : w ≤ 4) (t1 : 1 ≤ tn) (t6 : tn ≤ 6) (g_k : k < 4294967296) (e0_ : am_EG mi_195 [.ref 66] h (some (.retAddr tn), h)) (hw0 : w = 0) (h2 : k < tn) : am_EG mi_194 [.ref 66, .retAddr k, .retAddr 1] h (some (.retAddr 4294967292), h) := by
  refine am_enter (n := 5) tk_194.2.1 (by simp [Value.category]) (Nat.le_of_ble_eq_true rfl) ?_
  show am_Good mi_194 0 [some (.ref 66), some (.retAddr k), some (.retAddr 1), none, none, none, none, none] [] h _
  refine g_iload_n (i := 2) dd_194_0 rfl ?_
  refine g_if_ne_t (t := 8) dd_194_1 (by decide) (by decide) ?_
  refine g_iload_n (i := 2) dd_194_8 rfl ?_
  refine g_iconst dd_194_9 ic_1 ?_
  refine g_icmp_ne_f (t := 22) dd_194_10 (by decide) (by decide) ?_
  refine g_aload_n (i := 0) dd_194_13 rfl ?_
  refine g_virtual (M' := mi_195) (n := 0) (ci := 12) (b := 66) (as := []) (st := []) (r1 := (some (.retAddr tn), h)) w_1348 w_1350 ps_195 ⟨lk_195.1, lk_195.2.1, lk_195.2.2, by decide, by decide⟩ rfl q66 rfl (by simp [Value.category]) dd_194_14 (e0_) ?_
  show am_Good mi_194 17 [some (.ref 66), some (.retAddr k), some (.retAddr 1), none, none, none, none, none] [.retAddr tn] h _
  refine g_iconst dd_194_17 ic_1 ?_
  refine e_isub (v := tn - 1) dd_194_18 (by omega) ?_
  refine g_goto (t := 39) dd_194_19 (by decide) ?_
  refine g_istore_n (i := 3) dd_194_39 (am_nlb_ok rfl) (by decide) ?_
  refine g_iload_n (i := 2) dd_194_40 rfl ?_
  refine g_iconst dd_194_41 ic_0 ?_
  refine g_iconst dd_194_42 ic_2 ?_
  refine g_static (M' := mi_133) (n := 3) (as := [.retAddr 1, .retAddr 0, .retAddr 2]) (st := []) (r1 := (some (.retAddr 1), h)) w_1106 w_1107 ⟨lk_133.1, lk_133.2.1, lk_133.2.2, by decide, by decide⟩ rfl (by simp [Value.category]) dd_194_43 (ri_1 (z := 3) (by decide) (by decide) (by decide)) ?_
  show am_Good mi_194 46 [some (.ref 66), some (.retAddr k), some (.retAddr 1), some (.retAddr (tn - 1)), none, none, none, none] [.retAddr 1] h _
  refine g_if_eq_f (t := 58) dd_194_46 (by decide) (by decide) ?_
  refine g_iload_n (i := 1) dd_194_49 rfl ?_
  refine g_iconst dd_194_50 ic_0 ?_
  refine g_iload_n (i := 3) dd_194_51 rfl ?_
  refine g_static (M' := mi_133) (n := 3) (as := [.retAddr k, .retAddr 0, .retAddr (tn - 1)]) (st := []) (r1 := (some (.retAddr 1), h)) w_1106 w_1107 ⟨lk_133.1, lk_133.2.1, lk_133.2.2, by decide, by decide⟩ rfl (by simp [Value.category]) dd_194_52 (ri_1 (z := tn) (by omega) (by omega) h2) ?_
  show am_Good mi_194 55 [some (.ref 66), some (.retAddr k), some (.retAddr 1), some (.retAddr (tn - 1)), none, none, none, none] [.retAddr 1] h _
  refine g_if_ne_t (t := 60) dd_194_55 (by decide) (by decide) ?_
  refine g_aload_n (i := 0) dd_194_60 rfl ?_
  refine g_getfield (k := 12) am_ck12 (by decide) (Or.inl w_947) dd_194_61 q66 f12 ?_
  refine g_if_ne_f (t := 70) dd_194_64 (by decide) (tk_ne_f (by omega)) ?_
  refine g_bipush dd_194_67 bi_m4 ?_
  exact g_ireturn rfl dd_194_69
theorem fam_g1 {h : am_H} {vs : List Value} {w tn k : Nat} (q66 : am_get h 66 = some (.inr (12, vs))) (f12 : vs[12]? = some (.retAddr w)) (hw : w ≤ 4) (t1 : 1 ≤ tn) (t6 : tn ≤ 6) (g_k : k < 4294967296) (e0_ : am_EG mi_195 [.ref 66] h (some (.retAddr tn), h)) {r : am_R} {g : am_H} {ug : List Value} (q66g : am_get g 66 = some (.inr (12, ug))) (f12g : ug[12]? = some (.retAddr w)) (hw0 : w ≠ 0) (h2 : k < tn) (e1_ : am_EG mi_155 [.ref 66, .retAddr 0, .retAddr 4294967292] h (none, g)) (hg : am_Good mi_194 77 [some (.ref 66), some (.retAddr k), some (.retAddr 1), some (.retAddr (tn - 1)), none, none, none, none] [] g r) : am_EG mi_194 [.ref 66, .retAddr k, .retAddr 1] h r := by
  refine am_enter (n := 5) tk_194.2.1 (by simp [Value.category]) (Nat.le_of_ble_eq_true rfl) ?_
  show am_Good mi_194 0 [some (.ref 66), some (.retAddr k), some (.retAddr 1), none, none, none, none, none] [] h _
  refine g_iload_n (i := 2) dd_194_0 rfl ?_
  refine g_if_ne_t (t := 8) dd_194_1 (by decide) (by decide) ?_
  refine g_iload_n (i := 2) dd_194_8 rfl ?_
  refine g_iconst dd_194_9 ic_1 ?_
  refine g_icmp_ne_f (t := 22) dd_194_10 (by decide) (by decide) ?_
  refine g_aload_n (i := 0) dd_194_13 rfl ?_
  refine g_virtual (M' := mi_195) (n := 0) (ci := 12) (b := 66) (as := []) (st := []) (r1 := (some (.retAddr tn), h)) w_1348 w_1350 ps_195 ⟨lk_195.1, lk_195.2.1, lk_195.2.2, by decide, by decide⟩ rfl q66 rfl (by simp [Value.category]) dd_194_14 (e0_) ?_
  show am_Good mi_194 17 [some (.ref 66), some (.retAddr k), some (.retAddr 1), none, none, none, none, none] [.retAddr tn] h _
  refine g_iconst dd_194_17 ic_1 ?_
  refine e_isub (v := tn - 1) dd_194_18 (by omega) ?_
  refine g_goto (t := 39) dd_194_19 (by decide) ?_
  refine g_istore_n (i := 3) dd_194_39 (am_nlb_ok rfl) (by decide) ?_
  refine g_iload_n (i := 2) dd_194_40 rfl ?_
  refine g_iconst dd_194_41 ic_0 ?_
  refine g_iconst dd_194_42 ic_2 ?_
  refine g_static (M' := mi_133) (n := 3) (as := [.retAddr 1, .retAddr 0, .retAddr 2]) (st := []) (r1 := (some (.retAddr 1), h)) w_1106 w_1107 ⟨lk_133.1, lk_133.2.1, lk_133.2.2, by decide, by decide⟩ rfl (by simp [Value.category]) dd_194_43 (ri_1 (z := 3) (by decide) (by decide) (by decide)) ?_
  show am_Good mi_194 46 [some (.ref 66), some (.retAddr k), some (.retAddr 1), some (.retAddr (tn - 1)), none, none, none, none] [.retAddr 1] h _
  refine g_if_eq_f (t := 58) dd_194_46 (by decide) (by decide) ?_
  refine g_iload_n (i := 1) dd_194_49 rfl ?_
  refine g_iconst dd_194_50 ic_0 ?_
  refine g_iload_n (i := 3) dd_194_51 rfl ?_
  refine g_static (M' := mi_133) (n := 3) (as := [.retAddr k, .retAddr 0, .retAddr (tn - 1)]) (st := []) (r1 := (some (.retAddr 1), h)) w_1106 w_1107 ⟨lk_133.1, lk_133.2.1, lk_133.2.2, by decide, by decide⟩ rfl (by simp [Value.category]) dd_194_52 (ri_1 (z := tn) (by omega) (by omega) h2) ?_
  show am_Good mi_194 55 [some (.ref 66), some (.retAddr k), some (.retAddr 1), some (.retAddr (tn - 1)), none, none, none, none] [.retAddr 1] h _
  refine g_if_ne_t (t := 60) dd_194_55 (by decide) (by decide) ?_
  refine g_aload_n (i := 0) dd_194_60 rfl ?_
  refine g_getfield (k := 12) am_ck12 (by decide) (Or.inl w_947) dd_194_61 q66 f12 ?_
  refine g_if_ne_t (t := 70) dd_194_64 (by decide) (tk_ne_t (by omega)) ?_
  refine g_aload_n (i := 0) dd_194_70 rfl ?_
  refine g_iconst dd_194_71 ic_0 ?_
  refine g_bipush dd_194_72 bi_m4 ?_
  refine g_virtual (M' := mi_155) (n := 2) (ci := 12) (b := 66) (as := [.retAddr 0, .retAddr 4294967292]) (st := []) (r1 := (none, g)) w_1192 w_1194 ps_155 ⟨lk_155.1, lk_155.2.1, lk_155.2.2, by decide, by decide⟩ rfl q66 rfl (by simp [Value.category]) dd_194_74 (e1_) ?_
  show am_Good mi_194 77 [some (.ref 66), some (.retAddr k), some (.retAddr 1), some (.retAddr (tn - 1)), none, none, none, none] [] g _
  exact hg
theorem fam_b2a {h : am_H} {vs : List Value} {w tn k : Nat} (q66 : am_get h 66 = some (.inr (12, vs))) (f12 : vs[12]? = some (.retAddr w)) (hw : w ≤ 4) (t1 : 1 ≤ tn) (t6 : tn ≤ 6) (g_k : k < 4294967296) (e0_ : am_EG mi_195 [.ref 66] h (some (.retAddr tn), h)) (hw0 : w = 0) (h2 : ¬ k < 1) : am_EG mi_194 [.ref 66, .retAddr k, .retAddr 2] h (some (.retAddr 4294967295), h) := by
  refine am_enter (n := 5) tk_194.2.1 (by simp [Value.category]) (Nat.le_of_ble_eq_true rfl) ?_
  show am_Good mi_194 0 [some (.ref 66), some (.retAddr k), some (.retAddr 2), none, none, none, none, none] [] h _
  refine g_iload_n (i := 2) dd_194_0 rfl ?_
  refine g_if_ne_t (t := 8) dd_194_1 (by decide) (by decide) ?_
  refine g_iload_n (i := 2) dd_194_8 rfl ?_
  refine g_iconst dd_194_9 ic_1 ?_
  refine g_icmp_ne_t (t := 22) dd_194_10 (by decide) (by decide) ?_
  refine g_aload_n (i := 0) dd_194_22 rfl ?_
  refine g_getfield (k := 12) am_ck12 (by decide) (Or.inl w_947) dd_194_23 q66 f12 ?_
  refine g_if_ne_f (t := 33) dd_194_26 (by decide) (tk_ne_f (by omega)) ?_
  refine g_iconst dd_194_29 ic_0 ?_
  refine g_goto (t := 39) dd_194_30 (by decide) ?_
  refine g_istore_n (i := 3) dd_194_39 (am_nlb_ok rfl) (by decide) ?_
  refine g_iload_n (i := 2) dd_194_40 rfl ?_
  refine g_iconst dd_194_41 ic_0 ?_
  refine g_iconst dd_194_42 ic_2 ?_
  refine g_static (M' := mi_133) (n := 3) (as := [.retAddr 2, .retAddr 0, .retAddr 2]) (st := []) (r1 := (some (.retAddr 1), h)) w_1106 w_1107 ⟨lk_133.1, lk_133.2.1, lk_133.2.2, by decide, by decide⟩ rfl (by simp [Value.category]) dd_194_43 (ri_1 (z := 3) (by decide) (by decide) (by decide)) ?_
  show am_Good mi_194 46 [some (.ref 66), some (.retAddr k), some (.retAddr 2), some (.retAddr 0), none, none, none, none] [.retAddr 1] h _
  refine g_if_eq_f (t := 58) dd_194_46 (by decide) (by decide) ?_
  refine g_iload_n (i := 1) dd_194_49 rfl ?_
  refine g_iconst dd_194_50 ic_0 ?_
  refine g_iload_n (i := 3) dd_194_51 rfl ?_
  refine g_static (M' := mi_133) (n := 3) (as := [.retAddr k, .retAddr 0, .retAddr 0]) (st := []) (r1 := (some (.retAddr 0), h)) w_1106 w_1107 ⟨lk_133.1, lk_133.2.1, lk_133.2.2, by decide, by decide⟩ rfl (by simp [Value.category]) dd_194_52 (ri_0 (z := 1) (by omega) (by omega) h2 g_k) ?_
  show am_Good mi_194 55 [some (.ref 66), some (.retAddr k), some (.retAddr 2), some (.retAddr 0), none, none, none, none] [.retAddr 0] h _
  refine g_if_ne_f (t := 60) dd_194_55 (by decide) (by decide) ?_
  refine g_iconst dd_194_58 ic_m1 ?_
  exact g_ireturn rfl dd_194_59
theorem fam_n2a {h : am_H} {vs : List Value} {w tn k : Nat} (q66 : am_get h 66 = some (.inr (12, vs))) (f12 : vs[12]? = some (.retAddr w)) (hw : w ≤ 4) (t1 : 1 ≤ tn) (t6 : tn ≤ 6) (g_k : k < 4294967296) (e0_ : am_EG mi_195 [.ref 66] h (some (.retAddr tn), h)) (hw0 : w = 0) (h2 : k < 1) : am_EG mi_194 [.ref 66, .retAddr k, .retAddr 2] h (some (.retAddr 4294967292), h) := by
  refine am_enter (n := 5) tk_194.2.1 (by simp [Value.category]) (Nat.le_of_ble_eq_true rfl) ?_
  show am_Good mi_194 0 [some (.ref 66), some (.retAddr k), some (.retAddr 2), none, none, none, none, none] [] h _
  refine g_iload_n (i := 2) dd_194_0 rfl ?_
  refine g_if_ne_t (t := 8) dd_194_1 (by decide) (by decide) ?_
  refine g_iload_n (i := 2) dd_194_8 rfl ?_
  refine g_iconst dd_194_9 ic_1 ?_
  refine g_icmp_ne_t (t := 22) dd_194_10 (by decide) (by decide) ?_
  refine g_aload_n (i := 0) dd_194_22 rfl ?_
  refine g_getfield (k := 12) am_ck12 (by decide) (Or.inl w_947) dd_194_23 q66 f12 ?_
  refine g_if_ne_f (t := 33) dd_194_26 (by decide) (tk_ne_f (by omega)) ?_
  refine g_iconst dd_194_29 ic_0 ?_
  refine g_goto (t := 39) dd_194_30 (by decide) ?_
  refine g_istore_n (i := 3) dd_194_39 (am_nlb_ok rfl) (by decide) ?_
  refine g_iload_n (i := 2) dd_194_40 rfl ?_
  refine g_iconst dd_194_41 ic_0 ?_
  refine g_iconst dd_194_42 ic_2 ?_
  refine g_static (M' := mi_133) (n := 3) (as := [.retAddr 2, .retAddr 0, .retAddr 2]) (st := []) (r1 := (some (.retAddr 1), h)) w_1106 w_1107 ⟨lk_133.1, lk_133.2.1, lk_133.2.2, by decide, by decide⟩ rfl (by simp [Value.category]) dd_194_43 (ri_1 (z := 3) (by decide) (by decide) (by decide)) ?_
  show am_Good mi_194 46 [some (.ref 66), some (.retAddr k), some (.retAddr 2), some (.retAddr 0), none, none, none, none] [.retAddr 1] h _
  refine g_if_eq_f (t := 58) dd_194_46 (by decide) (by decide) ?_
  refine g_iload_n (i := 1) dd_194_49 rfl ?_
  refine g_iconst dd_194_50 ic_0 ?_
  refine g_iload_n (i := 3) dd_194_51 rfl ?_
  refine g_static (M' := mi_133) (n := 3) (as := [.retAddr k, .retAddr 0, .retAddr 0]) (st := []) (r1 := (some (.retAddr 1), h)) w_1106 w_1107 ⟨lk_133.1, lk_133.2.1, lk_133.2.2, by decide, by decide⟩ rfl (by simp [Value.category]) dd_194_52 (ri_1 (z := 1) (by omega) (by omega) h2) ?_
  show am_Good mi_194 55 [some (.ref 66), some (.retAddr k), some (.retAddr 2), some (.retAddr 0), none, none, none, none] [.retAddr 1] h _
  refine g_if_ne_t (t := 60) dd_194_55 (by decide) (by decide) ?_
  refine g_aload_n (i := 0) dd_194_60 rfl ?_
  refine g_getfield (k := 12) am_ck12 (by decide) (Or.inl w_947) dd_194_61 q66 f12 ?_
  refine g_if_ne_f (t := 70) dd_194_64 (by decide) (tk_ne_f (by omega)) ?_
  refine g_bipush dd_194_67 bi_m4 ?_
  exact g_ireturn rfl dd_194_69
theorem fam_b2b {h : am_H} {vs : List Value} {w tn k : Nat} (q66 : am_get h 66 = some (.inr (12, vs))) (f12 : vs[12]? = some (.retAddr w)) (hw : w ≤ 4) (t1 : 1 ≤ tn) (t6 : tn ≤ 6) (g_k : k < 4294967296) (e0_ : am_EG mi_195 [.ref 66] h (some (.retAddr tn), h)) (hw0 : w ≠ 0) (h2 : ¬ k < w) : am_EG mi_194 [.ref 66, .retAddr k, .retAddr 2] h (some (.retAddr 4294967295), h) := by
  refine am_enter (n := 5) tk_194.2.1 (by simp [Value.category]) (Nat.le_of_ble_eq_true rfl) ?_
  show am_Good mi_194 0 [some (.ref 66), some (.retAddr k), some (.retAddr 2), none, none, none, none, none] [] h _
  refine g_iload_n (i := 2) dd_194_0 rfl ?_
  refine g_if_ne_t (t := 8) dd_194_1 (by decide) (by decide) ?_
  refine g_iload_n (i := 2) dd_194_8 rfl ?_
  refine g_iconst dd_194_9 ic_1 ?_
  refine g_icmp_ne_t (t := 22) dd_194_10 (by decide) (by decide) ?_
  refine g_aload_n (i := 0) dd_194_22 rfl ?_
  refine g_getfield (k := 12) am_ck12 (by decide) (Or.inl w_947) dd_194_23 q66 f12 ?_
  refine g_if_ne_t (t := 33) dd_194_26 (by decide) (tk_ne_t (by omega)) ?_
  refine g_aload_n (i := 0) dd_194_33 rfl ?_
  refine g_getfield (k := 12) am_ck12 (by decide) (Or.inl w_947) dd_194_34 q66 f12 ?_
  refine g_iconst dd_194_37 ic_1 ?_
  refine e_isub (v := w - 1) dd_194_38 (by omega) ?_
  refine g_istore_n (i := 3) dd_194_39 (am_nlb_ok rfl) (by decide) ?_
  refine g_iload_n (i := 2) dd_194_40 rfl ?_
  refine g_iconst dd_194_41 ic_0 ?_
  refine g_iconst dd_194_42 ic_2 ?_
  refine g_static (M' := mi_133) (n := 3) (as := [.retAddr 2, .retAddr 0, .retAddr 2]) (st := []) (r1 := (some (.retAddr 1), h)) w_1106 w_1107 ⟨lk_133.1, lk_133.2.1, lk_133.2.2, by decide, by decide⟩ rfl (by simp [Value.category]) dd_194_43 (ri_1 (z := 3) (by decide) (by decide) (by decide)) ?_
  show am_Good mi_194 46 [some (.ref 66), some (.retAddr k), some (.retAddr 2), some (.retAddr (w - 1)), none, none, none, none] [.retAddr 1] h _
  refine g_if_eq_f (t := 58) dd_194_46 (by decide) (by decide) ?_
  refine g_iload_n (i := 1) dd_194_49 rfl ?_
  refine g_iconst dd_194_50 ic_0 ?_
  refine g_iload_n (i := 3) dd_194_51 rfl ?_
  refine g_static (M' := mi_133) (n := 3) (as := [.retAddr k, .retAddr 0, .retAddr (w - 1)]) (st := []) (r1 := (some (.retAddr 0), h)) w_1106 w_1107 ⟨lk_133.1, lk_133.2.1, lk_133.2.2, by decide, by decide⟩ rfl (by simp [Value.category]) dd_194_52 (ri_0 (z := w) (by omega) (by omega) h2 g_k) ?_
  show am_Good mi_194 55 [some (.ref 66), some (.retAddr k), some (.retAddr 2), some (.retAddr (w - 1)), none, none, none, none] [.retAddr 0] h _
  refine g_if_ne_f (t := 60) dd_194_55 (by decide) (by decide) ?_
  refine g_iconst dd_194_58 ic_m1 ?_
  exact g_ireturn rfl dd_194_59
theorem fam_g2b {h : am_H} {vs : List Value} {w tn k : Nat} (q66 : am_get h 66 = some (.inr (12, vs))) (f12 : vs[12]? = some (.retAddr w)) (hw : w ≤ 4) (t1 : 1 ≤ tn) (t6 : tn ≤ 6) (g_k : k < 4294967296) (e0_ : am_EG mi_195 [.ref 66] h (some (.retAddr tn), h)) {r : am_R} {g : am_H} {ug : List Value} (q66g : am_get g 66 = some (.inr (12, ug))) (f12g : ug[12]? = some (.retAddr w)) (hw0 : w ≠ 0) (h2 : k < w) (e1_ : am_EG mi_155 [.ref 66, .retAddr 0, .retAddr 4294967292] h (none, g)) (hg : am_Good mi_194 77 [some (.ref 66), some (.retAddr k), some (.retAddr 2), some (.retAddr (w - 1)), none, none, none, none] [] g r) : am_EG mi_194 [.ref 66, .retAddr k, .retAddr 2] h r := by
  refine am_enter (n := 5) tk_194.2.1 (by simp [Value.category]) (Nat.le_of_ble_eq_true rfl) ?_
  show am_Good mi_194 0 [some (.ref 66), some (.retAddr k), some (.retAddr 2), none, none, none, none, none] [] h _
  refine g_iload_n (i := 2) dd_194_0 rfl ?_
  refine g_if_ne_t (t := 8) dd_194_1 (by decide) (by decide) ?_
  refine g_iload_n (i := 2) dd_194_8 rfl ?_
  refine g_iconst dd_194_9 ic_1 ?_
  refine g_icmp_ne_t (t := 22) dd_194_10 (by decide) (by decide) ?_
  refine g_aload_n (i := 0) dd_194_22 rfl ?_
  refine g_getfield (k := 12) am_ck12 (by decide) (Or.inl w_947) dd_194_23 q66 f12 ?_
  refine g_if_ne_t (t := 33) dd_194_26 (by decide) (tk_ne_t (by omega)) ?_
  refine g_aload_n (i := 0) dd_194_33 rfl ?_
  refine g_getfield (k := 12) am_ck12 (by decide) (Or.inl w_947) dd_194_34 q66 f12 ?_
  refine g_iconst dd_194_37 ic_1 ?_
  refine e_isub (v := w - 1) dd_194_38 (by omega) ?_
  refine g_istore_n (i := 3) dd_194_39 (am_nlb_ok rfl) (by decide) ?_
  refine g_iload_n (i := 2) dd_194_40 rfl ?_
  refine g_iconst dd_194_41 ic_0 ?_
  refine g_iconst dd_194_42 ic_2 ?_
  refine g_static (M' := mi_133) (n := 3) (as := [.retAddr 2, .retAddr 0, .retAddr 2]) (st := []) (r1 := (some (.retAddr 1), h)) w_1106 w_1107 ⟨lk_133.1, lk_133.2.1, lk_133.2.2, by decide, by decide⟩ rfl (by simp [Value.category]) dd_194_43 (ri_1 (z := 3) (by decide) (by decide) (by decide)) ?_
  show am_Good mi_194 46 [some (.ref 66), some (.retAddr k), some (.retAddr 2), some (.retAddr (w - 1)), none, none, none, none] [.retAddr 1] h _
  refine g_if_eq_f (t := 58) dd_194_46 (by decide) (by decide) ?_
  refine g_iload_n (i := 1) dd_194_49 rfl ?_
  refine g_iconst dd_194_50 ic_0 ?_
  refine g_iload_n (i := 3) dd_194_51 rfl ?_
  refine g_static (M' := mi_133) (n := 3) (as := [.retAddr k, .retAddr 0, .retAddr (w - 1)]) (st := []) (r1 := (some (.retAddr 1), h)) w_1106 w_1107 ⟨lk_133.1, lk_133.2.1, lk_133.2.2, by decide, by decide⟩ rfl (by simp [Value.category]) dd_194_52 (ri_1 (z := w) (by omega) (by omega) h2) ?_
  show am_Good mi_194 55 [some (.ref 66), some (.retAddr k), some (.retAddr 2), some (.retAddr (w - 1)), none, none, none, none] [.retAddr 1] h _
  refine g_if_ne_t (t := 60) dd_194_55 (by decide) (by decide) ?_
  refine g_aload_n (i := 0) dd_194_60 rfl ?_
  refine g_getfield (k := 12) am_ck12 (by decide) (Or.inl w_947) dd_194_61 q66 f12 ?_
  refine g_if_ne_t (t := 70) dd_194_64 (by decide) (tk_ne_t (by omega)) ?_
  refine g_aload_n (i := 0) dd_194_70 rfl ?_
  refine g_iconst dd_194_71 ic_0 ?_
  refine g_bipush dd_194_72 bi_m4 ?_
  refine g_virtual (M' := mi_155) (n := 2) (ci := 12) (b := 66) (as := [.retAddr 0, .retAddr 4294967292]) (st := []) (r1 := (none, g)) w_1192 w_1194 ps_155 ⟨lk_155.1, lk_155.2.1, lk_155.2.2, by decide, by decide⟩ rfl q66 rfl (by simp [Value.category]) dd_194_74 (e1_) ?_
  show am_Good mi_194 77 [some (.ref 66), some (.retAddr k), some (.retAddr 2), some (.retAddr (w - 1)), none, none, none, none] [] g _
  exact hg
theorem tm_x {h : am_H} {vs : List Value} {mi : Nat} (q66 : am_get h 66 = some (.inr (12, vs))) (f0 : vs[0]? = some (.retAddr mi)) (hm : mi ≤ 60) : am_EG mi_195 [.ref 66] h (some (.retAddr (fa_tn mi)), h) := by
  refine am_enter (n := 0) tk_195.2.1 (by simp [Value.category]) (Nat.le_of_ble_eq_true rfl) ?_
  show am_Good mi_195 0 [some (.ref 66)] [] h _
  refine g_aload_n (i := 0) dd_195_0 rfl ?_
  refine g_getfield (k := 0) am_ck12 (by decide) (Or.inl w_935) dd_195_1 q66 f0 ?_
  refine g_bipush dd_195_4 bi_9 ?_
  refine e_iadd (v := mi + 9) dd_195_6 (by omega) ?_
  refine g_bipush dd_195_7 bi_10 ?_
  refine e_idiv (v := fa_tn mi) dd_195_9 ⟨by omega, by decide, by decide, rfl⟩ ?_
  exact g_ireturn rfl dd_195_10
theorem fm_own {h : am_H} (hI : ax_I sbm h) : fm_ok h ∧ fm h (rowv h 90) (rowv h 91) = h ∧ (∀ r, r < 6 → am_ag (rowv h 90) r ≤ 3) ∧ (∀ i, i < 256 → am_ag (rowv h 81) i ≤ 9) := by
  have g90 : am_get h 90 = some (.inl (0, 6, rowv h 90)) := (row_in hI rfl).1
  have g91 : am_get h 91 = some (.inl (0, 4, rowv h 91)) := (row_in hI rfl).1
  refine ⟨⟨⟨_, g90⟩, ⟨_, g91⟩, trivial⟩, ?_, row1_le hI rfl, row1_le hI rfl⟩
  unfold fm
  exact am_ups_00 ⟨g90, g91, trivial⟩
theorem fm_Jv {h : am_H} (hJ : Jv h) {hr sh : Nat} (h3 : ∀ r, r < 6 → am_ag hr r ≤ 3) : Jv (fm h hr sh) := by
  obtain ⟨hH, -⟩ := fm_own hJ.1.2
  have u : ∀ a, a ≠ 90 → a ≠ 91 → am_get (fm h hr sh) a = am_get h a := fun a a1 a2 => fm_o hH (am_lk_ct (ks := [90, 91]) (by simp; omega))
  have hI : ax_I sbm (fm h hr sh) := by
    have k0 := hH
    unfold fm
    refine ax_I_ups hJ.1.2 ?_ ⟨ok_at rfl (ok_row1 (by decide) h3), ok_at rfl ok_rowt, trivial⟩
    exact k0
  refine Jv_m hJ (fun a ha => u a (by omega) (by omega)) hI (fun a ha => ?_) (fun k _ => ax_fv_get (u 66 (by decide) (by decide)) k)
  simp only [List.mem_cons, List.not_mem_nil, or_false] at ha
  exact u a (by omega) (by omega)
/-- the reference's cells, as fair reads them -/
theorem fm_h {h : am_H} (hJ : Jv h) {E mi go : Nat} {Z X Y : Nat → Nat} (hA : je_A h E mi go Z X Y) : ∃ vs, am_get h 66 = some (.inr (12, vs)) ∧ vs[0]? = some (.retAddr mi) ∧ vs[1]? = some (.retAddr go) ∧ vs[12]? = some (.retAddr (Z 5)) ∧ vs[13]? = some (.ref 72) ∧ vs[32]? = some (.ref 81) ∧ vs[51]? = some (.ref 90) ∧ vs[52]? = some (.ref 91) ∧ am_get h 72 = some (.inl (0, 8, Y 5)) ∧ am_get h 81 = some (.inl (0, 256, rowv h 81)) := by
  obtain ⟨vs, q66, -, f, -⟩ := jy_obj hJ.1.2 (a := 66) rfl
  have d := hA.2.2.1
  exact ⟨vs, q66, fvg q66 d.1, fvg q66 d.2.1, fvg q66 (d.2.2 5 (by decide)).1, f 13 _ _ rfl, f 32 _ _ rfl, f 51 _ _ rfl, f 52 _ _ rfl, (d.2.2 5 (by decide)).2, (row_in hJ.1.2 rfl).1⟩
theorem fm_x {h : am_H} (hJ : Jv h) {E mi go : Nat} {Z X Y : Nat → Nat} (hA : je_A h E mi go Z X Y) {k wh : Nat} (hk : k < 4294967296) (hi : wh ≤ 2) (hb : k < fb_n wh (fa_tn mi) (Z 5)) (hw : Z 5 ≠ 0) (et : am_EG mi_195 [.ref 66] h (some (.retAddr (fa_tn mi)), h)) : ∃ g, am_EG mi_194 [.ref 66, .retAddr k, .retAddr wh] h (some (.retAddr (fa_r mi go Z Y k wh)), g) ∧ Jv g ∧ (g.1 = h.1 ∧ g.2.1 = h.2.1) := by
  have hP := hA.2.2.2.1
  have p1 := hP.1
  have z0 : Z 0 ≤ 4 := hP.2.1 0 (by decide)
  have z5 : Z 5 ≤ 4 := hP.2.1 5 (by decide)
  have hBY : je_B Z Y := je_bY hP.2.1 hP.2.2.1
  have t6 := fa_t6 p1.1 p1.2.1
  have oy : ∀ i, i < Z 5 → am_ag (Y 5) (2 * i + 1) < Z 0 := hP.2.2.2.2
  obtain ⟨vs, q66, f0, f1, f12, -⟩ := fm_h hJ hA
  obtain ⟨g, e1, J1, A1, sz1, S1⟩ := lc_x hJ hA (come := 0) (wo := 4294967292) (by decide) (by decide)
  obtain ⟨us, u66, g0, g1, g12, g13, g32, g51, g52, b72, b81⟩ := fm_h J1 A1
  obtain ⟨hH, own, h3, h9⟩ := fm_own J1.1.2
  have ew : ∀ t, t < mi → ∀ s, s < Z 0 → am_ag (rowv g 81) (64 * s + t) = sc_W Z Y 0 4294967292 s t := fun t ht s hs => (S1 s hs t (by omega)).1
  have k1 : wh = 1 → k < fa_tn mi := fun c => by
    subst c
    exact hb
  have k2 : wh = 2 → k < Z 5 := fun c => by
    subst c
    have hb' : k < max 1 (Z 5) := hb
    omega
  have fin := fun mo => su_m (hr := rowv g 90) (sh := rowv g 91) (k := k) (wh := wh) (mo := mo) hH u66 g0 g1 g12 g13 g32 g51 g52 b72 b81 p1.1 p1.2.1 p1.2.2.1 (Nat.pos_of_ne_zero hw) z5 (fun i hi => by have := oy i hi; omega) (fun s t hs ht => Nat.le_trans (h9 _ (by omega)) (by decide)) (fun i hi t ht => h9 _ (by have := oy i hi; omega)) hi k1 k2 h3
  rw [own] at fin
  have eL : fa_L (fun s t => am_ag (rowv g 81) (64 * s + t)) mi go (Z 5) (fun i => am_ag (Y 5) (2 * i + 1)) = fa_L (fa_f Z Y) mi go (Z 5) (fa_o Y) := funext fun way => fa_L_cg (Nat.pos_of_ne_zero hw) (fun _ _ => rfl) oy (fun s hs t ht => ew t ht s hs)
  have eW : fa_w (fun s t => am_ag (rowv g 81) (64 * s + t)) mi go (fun r => (fun i => am_ag (Y 5) (2 * i + 1)) (fa_d (Z 5) (fa_tn mi) (fa_b (fa_L (fa_f Z Y) mi go (Z 5) (fa_o Y)) (Z 5 ^ fa_tn mi)) r)) ((fun i => am_ag (Y 5) (2 * i + 1)) k) (fa_tn mi) = fa_a mi go Z Y (fa_o Y k) := fa_w_cg (fun _ _ => rfl) (fun r _ t ht => ew t ht _ (oy _ (fa_d_lt (Nat.pos_of_ne_zero hw))))
  rw [eL, eW] at fin
  have key : ∀ mo, (∀ r : am_R, am_Good mi_194 77 [some (.ref 66), some (.retAddr k), some (.retAddr wh), some (.retAddr mo), none, none, none, none] [] g r → am_EG mi_194 [.ref 66, .retAddr k, .retAddr wh] h r) → ∃ g, am_EG mi_194 [.ref 66, .retAddr k, .retAddr wh] h (some (.retAddr (fa_r mi go Z Y k wh)), g) ∧ Jv g ∧ (g.1 = h.1 ∧ g.2.1 = h.2.1) := fun mo hk => by
    obtain ⟨hr', sh', p3, q⟩ := fin mo
    have sz2 : (fm g hr' sh').1 = g.1 ∧ (fm g hr' sh').2.1 = g.2.1 := by unfold fm; exact am_ups_1 _
    exact ⟨_, hk _ q, fm_Jv J1 p3, sz2.1.trans sz1.1, sz2.2.trans sz1.2⟩
  rcases (show wh = 0 ∨ wh = 1 ∨ wh = 2 by omega) with rfl | rfl | rfl
  · exact key 0 (fun r hg => fam_g0 q66 f12 z5 t6.1 t6.2.1 hk et u66 g12 hw hb e1 hg)
  · exact key (fa_tn mi - 1) (fun r hg => fam_g1 q66 f12 z5 t6.1 t6.2.1 hk et u66 g12 hw hb e1 hg)
  · exact key (Z 5 - 1) (fun r hg => fam_g2b q66 f12 z5 t6.1 t6.2.1 hk et u66 g12 hw (k2 rfl) e1 hg)
theorem jb_fair (x y : Nat) (hx : x < 4294967296) (hy : y < 4294967296) : am_B2 Jv true 104 194 [.retAddr x, .retAddr y] := by
  intro h hJ
  obtain ⟨E, mi, go, Z, X, Y, hA⟩ := je_ex hJ
  obtain ⟨v0, q0, x3, -, x6, -, -, -, x11, qE, -, -, r5, w5, -, -, -⟩ := je_xo hA
  have hP := hA.2.2.2.1
  have p1 := hP.1
  have z5 : Z 5 ≤ 4 := hP.2.1 5 (by decide)
  have t6 := fa_t6 p1.1 p1.2.1
  obtain ⟨vs, q66, f0, -, f12, -⟩ := fm_h hJ hA
  have et : am_EG mi_195 [.ref 66] h (some (.retAddr (fa_tn mi)), h) := tm_x q66 f0 p1.2.1
  by_cases h1 : y ≤ 2
  case neg =>
    by_cases hw : Z 5 = 0
    · exact je_fin hJ (fax_0 q0 x3 x6 x11 qE rfl rfl r5 rfl p1.2.1 z5 hx hy h1) (fam_0a q66 f12 z5 t6.1 t6.2.1 hx et hy h1 hw)
    · exact je_fin hJ (fax_0 q0 x3 x6 x11 qE rfl rfl r5 rfl p1.2.1 z5 hx hy h1) (fam_0b q66 f12 z5 t6.1 t6.2.1 hx et hy h1 hw)
  have e0 := fb_x q0 x3 x6 x11 qE rfl rfl r5 rfl p1.2.1 z5 h1
  have fbl : fb_n y (fa_tn mi) (Z 5) ≤ 100 := by
    unfold fb_n
    by_cases c : y = 0
    · rw [if_pos c]; decide
    · rw [if_neg c]
      by_cases d : y = 1
      · rw [if_pos d]; omega
      · rw [if_neg d]; omega
  by_cases h2 : x < fb_n y (fa_tn mi) (Z 5)
  case neg =>
    refine je_fin hJ (fax_1 q0 x3 x6 x11 qE rfl rfl r5 rfl p1.2.1 z5 hx hy h1 fbl e0 h2) ?_
    rcases (show y = 0 ∨ y = 1 ∨ y = 2 by omega) with rfl | rfl | rfl
    · exact fam_b0 q66 f12 z5 t6.1 t6.2.1 hx et h2
    · exact fam_b1 q66 f12 z5 t6.1 t6.2.1 hx et h2
    · have h2' : ¬ x < max 1 (Z 5) := h2
      by_cases hw : Z 5 = 0
      · exact fam_b2a q66 f12 z5 t6.1 t6.2.1 hx et hw (by omega)
      · exact fam_b2b q66 f12 z5 t6.1 t6.2.1 hx et hw (by omega)
  by_cases hw : Z 5 = 0
  · refine je_fin hJ (fax_2 q0 x3 x6 x11 qE rfl rfl r5 rfl p1.2.1 z5 hx hy h1 fbl e0 h2 hw) ?_
    rcases (show y = 0 ∨ y = 1 ∨ y = 2 by omega) with rfl | rfl | rfl
    · exact fam_n0 q66 f12 z5 t6.1 t6.2.1 hx et hw h2
    · exact fam_n1 q66 f12 z5 t6.1 t6.2.1 hx et hw h2
    · have h2' : x < max 1 (Z 5) := h2
      exact fam_n2a q66 f12 z5 t6.1 t6.2.1 hx et hw (by omega)
  obtain ⟨g1, ex, J1, A1, sz1⟩ := fx_x hJ hA hx h1 h2 hw
  obtain ⟨us, u66, g0, -⟩ := fm_h J1 A1
  obtain ⟨g2, em, J2, sz2⟩ := fm_x J1 A1 hx h1 h2 hw (tm_x u66 g0 p1.2.1)
  exact ⟨_, g1, _, g2, ex, em, fun _ => rfl, J2, ⟨v0, q0⟩, ⟨us, u66⟩, sz1, sz2⟩
