/-! ===== night: joined ===== -/
def fwN (Z Y : Nat → Nat) (z s t : Nat) : Nat := if nb z s t = true then 0 else sc_sw Z Y 4294967292 s t
def ffN (Z Y : Nat → Nat) (z s t : Nat) : Nat := if nb z s t = true then 8 else sc_sf Z Y 4294967292 s t
theorem sc_sw_9 {Z R : Nat → Nat} (hB : je_B Z R) (wo s t : Nat) (hs : s < Z 0) : sc_sw Z R wo s t ≤ 9 := by
  unfold sc_sw
  refine pk_P (P := fun n => n ≤ 9) ?_ (fun i hi => hB 1 (by decide) i hi 3 (by decide))
  have q := hB 0 (by decide) s hs 0 (by decide)
  rw [show je_w 0 * s + 0 = s by show 1 * s + 0 = s; omega] at q
  exact q
theorem sc_sf_8 {Z R : Nat → Nat} (hB : je_B Z R) (wo s t : Nat) : sc_sf Z R wo s t ≤ 8 := by
  unfold sc_sf
  exact pk_P (P := fun n => n ≤ 8) (Nat.le_refl _) (fun i hi => hB 1 (by decide) i hi 4 (by decide))
theorem fwN_9 {Z R : Nat → Nat} (hB : je_B Z R) (z : Nat) : ∀ s t, s < Z 0 → fwN Z R z s t ≤ 9 := fun s t hs => by
  unfold fwN
  split
  · exact Nat.zero_le _
  · exact sc_sw_9 hB _ s t hs
theorem ffN_8 {Z R : Nat → Nat} (hB : je_B Z R) (z : Nat) : ∀ s t, ffN Z R z s t ≤ 8 := fun s t => by
  unfold ffN
  split
  · exact Nat.le_refl _
  · exact sc_sf_8 hB _ s t
theorem shn0 {mi go : Nat} {Z X : Nat → Nat} {h : am_H} (i0 : ax_I sb1 h) (hP : je_x h 17 mi go Z X) (zm : mi ≤ 60) (vZ : ∀ k, k < 6 → Z k ≤ je_z k) (hB : je_B Z X) {z : Nat} : am_EG mi_123 [.ref 36, .ref 17, .retAddr z] h (none, (sv36 h (nro z mi 60 0 (sw 60 (X 1) 5 (sc_ne 4294967292) (fun n => am_ag (X 1) (5 * n + 3)) (ss 60 (am_ag (X 0)) (rowv h 37) (Z 0)) (Z 1)) (Z 0)) (nro z mi 60 8 (sw 60 (X 1) 5 (sc_ne 4294967292) (fun n => am_ag (X 1) (5 * n + 4)) (ss 60 (fun _ => 8) (rowv h 38) (Z 0)) (Z 1)) (Z 0)) (nro z mi 60 1 (sw 60 (X 1) 5 (sc_ne 4294967292) (fun _ => 0) (ss 60 (fun _ => 0) (rowv h 39) (Z 0)) (Z 1)) (Z 0)))) ∧ ax_I sb1 (sv36 h (nro z mi 60 0 (sw 60 (X 1) 5 (sc_ne 4294967292) (fun n => am_ag (X 1) (5 * n + 3)) (ss 60 (am_ag (X 0)) (rowv h 37) (Z 0)) (Z 1)) (Z 0)) (nro z mi 60 8 (sw 60 (X 1) 5 (sc_ne 4294967292) (fun n => am_ag (X 1) (5 * n + 4)) (ss 60 (fun _ => 8) (rowv h 38) (Z 0)) (Z 1)) (Z 0)) (nro z mi 60 1 (sw 60 (X 1) 5 (sc_ne 4294967292) (fun _ => 0) (ss 60 (fun _ => 0) (rowv h 39) (Z 0)) (Z 1)) (Z 0))) ∧ sv36_ok h := by
  have g1 : am_get h 37 = some (.inl (0, 240, rowv h 37)) := (row_in i0 rfl).1
  have g2 : am_get h 38 = some (.inl (0, 240, rowv h 38)) := (row_in i0 rfl).1
  have g3 : am_get h 39 = some (.inl (0, 240, rowv h 39)) := (row_in i0 rfl).1
  have hH : sv36_ok h := ⟨⟨_, g1⟩, ⟨_, g2⟩, ⟨_, g3⟩, trivial⟩
  obtain ⟨qE, ⟨r0, x0⟩, ⟨r1, x1⟩, -, -, -, -⟩ := sh0_rows i0 hP
  have z0 : Z 0 ≤ 4 := vZ 0 (by decide)
  have z1 : Z 1 ≤ 9 := vZ 1 (by decide)
  have b0 : ∀ i, i < Z 0 → am_ag (X 0) i ≤ 9 := fun i hi => by
    have q := hB 0 (by decide) i hi 0 (by decide)
    rw [show je_w 0 * i + 0 = i by show 1 * i + 0 = i; omega] at q
    exact q
  refine ⟨?_, ?_, hH⟩
  · have e := ni_m (W := rowv h 37) (F := rowv h 38) (B := rowv h 39) (z := z) hH (oz0_c36 i0) (fun W F B => (sv36_o hH rfl).trans qE) (fun W F B => (sv36_o hH rfl).trans r0) (fun W F B => (sv36_o hH rfl).trans r1) (fun W F B r c hr hc => cw1 ((sv36_o hH rfl).trans r0) ((sv36_o hH rfl).trans x0) (by omega) (by omega) hr hc) (fun W F B r c hr hc => cw5 ((sv36_o hH rfl).trans r1) ((sv36_o hH rfl).trans x1) (by omega) (by omega) hr hc) z0 z1 zm (fun i hi => hB 1 (by decide) i hi 0 (by decide)) (fun i hi => hB 1 (by decide) i hi 1 (by decide)) (fun i hi => hB 1 (by decide) i hi 2 (by decide))
    have own : sv36 h (rowv h 37) (rowv h 38) (rowv h 39) = h := by
      unfold sv36
      exact am_ups_00 ⟨g1, g2, g3, trivial⟩
    exact Eq.mp (congrArg (fun g => am_EG mi_123 [.ref 36, .ref 17, .retAddr z] g (none, (sv36 h (nro z mi 60 0 (sw 60 (X 1) 5 (sc_ne 4294967292) (fun n => am_ag (X 1) (5 * n + 3)) (ss 60 (am_ag (X 0)) (rowv h 37) (Z 0)) (Z 1)) (Z 0)) (nro z mi 60 8 (sw 60 (X 1) 5 (sc_ne 4294967292) (fun n => am_ag (X 1) (5 * n + 4)) (ss 60 (fun _ => 8) (rowv h 38) (Z 0)) (Z 1)) (Z 0)) (nro z mi 60 1 (sw 60 (X 1) 5 (sc_ne 4294967292) (fun _ => 0) (ss 60 (fun _ => 0) (rowv h 39) (Z 0)) (Z 1)) (Z 0))))) own) e
  · have k0 := hH
    unfold sv36
    refine ax_I_ups i0 ?_ ⟨ok_at rfl (ok_row1 (by decide) ?_), ok_at rfl (ok_row1 (by decide) ?_), ok_at rfl (ok_row1 (by decide) ?_), trivial⟩
    · exact k0
    · exact nro_P (P := fun n => n ≤ 99) (sw_P (P := fun n => n ≤ 99) (ss_P (P := fun n => n ≤ 99) (row1_le i0 rfl) (fun i hi => by rw [Nat.mod_eq_of_lt (am_ag_lt _ _)]; exact Nat.le_trans (b0 i hi) (by decide))) (fun i hi => by rw [Nat.mod_eq_of_lt (am_ag_lt _ _)]; exact Nat.le_trans (hB 1 (by decide) i hi 3 (by decide)) (by decide))) (by decide) _
    · exact nro_P (P := fun n => n ≤ 99) (sw_P (P := fun n => n ≤ 99) (ss_P (P := fun n => n ≤ 99) (row1_le i0 rfl) (fun i hi => by decide)) (fun i hi => by rw [Nat.mod_eq_of_lt (am_ag_lt _ _)]; exact Nat.le_trans (hB 1 (by decide) i hi 4 (by decide)) (by decide))) (by decide) _
    · exact nro_P (P := fun n => n ≤ 1) (sw_P (P := fun n => n ≤ 1) (ss_P (P := fun n => n ≤ 1) (row1_le i0 rfl) (fun i hi => by decide)) (fun i hi => by decide)) (by decide) _
theorem shn1 {mi go : Nat} {Z X : Nat → Nat} {h : am_H} (i0 : ax_I sb0 h) (hP : je_x h 4 mi go Z X) (zm : mi ≤ 60) (vZ : ∀ k, k < 6 → Z k ≤ je_z k) (hB : je_B Z X) {z : Nat} : am_EG mi_123 [.ref 36, .ref 4, .retAddr z] h (none, (sv36 h (nro z mi 60 0 (sw 60 (X 1) 5 (sc_ne 4294967292) (fun n => am_ag (X 1) (5 * n + 3)) (ss 60 (am_ag (X 0)) (rowv h 37) (Z 0)) (Z 1)) (Z 0)) (nro z mi 60 8 (sw 60 (X 1) 5 (sc_ne 4294967292) (fun n => am_ag (X 1) (5 * n + 4)) (ss 60 (fun _ => 8) (rowv h 38) (Z 0)) (Z 1)) (Z 0)) (nro z mi 60 1 (sw 60 (X 1) 5 (sc_ne 4294967292) (fun _ => 0) (ss 60 (fun _ => 0) (rowv h 39) (Z 0)) (Z 1)) (Z 0)))) ∧ ax_I sb0 (sv36 h (nro z mi 60 0 (sw 60 (X 1) 5 (sc_ne 4294967292) (fun n => am_ag (X 1) (5 * n + 3)) (ss 60 (am_ag (X 0)) (rowv h 37) (Z 0)) (Z 1)) (Z 0)) (nro z mi 60 8 (sw 60 (X 1) 5 (sc_ne 4294967292) (fun n => am_ag (X 1) (5 * n + 4)) (ss 60 (fun _ => 8) (rowv h 38) (Z 0)) (Z 1)) (Z 0)) (nro z mi 60 1 (sw 60 (X 1) 5 (sc_ne 4294967292) (fun _ => 0) (ss 60 (fun _ => 0) (rowv h 39) (Z 0)) (Z 1)) (Z 0))) ∧ sv36_ok h := by
  have g1 : am_get h 37 = some (.inl (0, 240, rowv h 37)) := (row_in i0 rfl).1
  have g2 : am_get h 38 = some (.inl (0, 240, rowv h 38)) := (row_in i0 rfl).1
  have g3 : am_get h 39 = some (.inl (0, 240, rowv h 39)) := (row_in i0 rfl).1
  have hH : sv36_ok h := ⟨⟨_, g1⟩, ⟨_, g2⟩, ⟨_, g3⟩, trivial⟩
  obtain ⟨qE, ⟨r0, x0⟩, ⟨r1, x1⟩, -, -, -, -⟩ := sh1_rows i0 hP
  have z0 : Z 0 ≤ 4 := vZ 0 (by decide)
  have z1 : Z 1 ≤ 9 := vZ 1 (by decide)
  have b0 : ∀ i, i < Z 0 → am_ag (X 0) i ≤ 9 := fun i hi => by
    have q := hB 0 (by decide) i hi 0 (by decide)
    rw [show je_w 0 * i + 0 = i by show 1 * i + 0 = i; omega] at q
    exact q
  refine ⟨?_, ?_, hH⟩
  · have e := ni_m (W := rowv h 37) (F := rowv h 38) (B := rowv h 39) (z := z) hH (oz1_c36 i0) (fun W F B => (sv36_o hH rfl).trans qE) (fun W F B => (sv36_o hH rfl).trans r0) (fun W F B => (sv36_o hH rfl).trans r1) (fun W F B r c hr hc => cw1 ((sv36_o hH rfl).trans r0) ((sv36_o hH rfl).trans x0) (by omega) (by omega) hr hc) (fun W F B r c hr hc => cw5 ((sv36_o hH rfl).trans r1) ((sv36_o hH rfl).trans x1) (by omega) (by omega) hr hc) z0 z1 zm (fun i hi => hB 1 (by decide) i hi 0 (by decide)) (fun i hi => hB 1 (by decide) i hi 1 (by decide)) (fun i hi => hB 1 (by decide) i hi 2 (by decide))
    have own : sv36 h (rowv h 37) (rowv h 38) (rowv h 39) = h := by
      unfold sv36
      exact am_ups_00 ⟨g1, g2, g3, trivial⟩
    exact Eq.mp (congrArg (fun g => am_EG mi_123 [.ref 36, .ref 4, .retAddr z] g (none, (sv36 h (nro z mi 60 0 (sw 60 (X 1) 5 (sc_ne 4294967292) (fun n => am_ag (X 1) (5 * n + 3)) (ss 60 (am_ag (X 0)) (rowv h 37) (Z 0)) (Z 1)) (Z 0)) (nro z mi 60 8 (sw 60 (X 1) 5 (sc_ne 4294967292) (fun n => am_ag (X 1) (5 * n + 4)) (ss 60 (fun _ => 8) (rowv h 38) (Z 0)) (Z 1)) (Z 0)) (nro z mi 60 1 (sw 60 (X 1) 5 (sc_ne 4294967292) (fun _ => 0) (ss 60 (fun _ => 0) (rowv h 39) (Z 0)) (Z 1)) (Z 0))))) own) e
  · have k0 := hH
    unfold sv36
    refine ax_I_ups i0 ?_ ⟨ok_at rfl (ok_row1 (by decide) ?_), ok_at rfl (ok_row1 (by decide) ?_), ok_at rfl (ok_row1 (by decide) ?_), trivial⟩
    · exact k0
    · exact nro_P (P := fun n => n ≤ 99) (sw_P (P := fun n => n ≤ 99) (ss_P (P := fun n => n ≤ 99) (row1_le i0 rfl) (fun i hi => by rw [Nat.mod_eq_of_lt (am_ag_lt _ _)]; exact Nat.le_trans (b0 i hi) (by decide))) (fun i hi => by rw [Nat.mod_eq_of_lt (am_ag_lt _ _)]; exact Nat.le_trans (hB 1 (by decide) i hi 3 (by decide)) (by decide))) (by decide) _
    · exact nro_P (P := fun n => n ≤ 99) (sw_P (P := fun n => n ≤ 99) (ss_P (P := fun n => n ≤ 99) (row1_le i0 rfl) (fun i hi => by decide)) (fun i hi => by rw [Nat.mod_eq_of_lt (am_ag_lt _ _)]; exact Nat.le_trans (hB 1 (by decide) i hi 4 (by decide)) (by decide))) (by decide) _
    · exact nro_P (P := fun n => n ≤ 1) (sw_P (P := fun n => n ≤ 1) (ss_P (P := fun n => n ≤ 1) (row1_le i0 rfl) (fun i hi => by decide)) (fun i hi => by decide)) (by decide) _
/-- a night on the class's trial screen -/
theorem shn_q {h : am_H} (hJ : Jv h) {E mi go : Nat} {Z X Y : Nat → Nat} (hA : je_A h E mi go Z X Y) {z : Nat} : ∃ g, am_EG mi_123 [.ref 36, .ref E, .retAddr z] h (none, g) ∧ Jv g ∧ je_A g E mi go Z X Y ∧ (g.1 = h.1 ∧ g.2.1 = h.2.1) ∧ ∃ W F B, am_get g 36 = some (.inr (9, [.ref 37, .ref 38, .ref 39])) ∧ am_get g 37 = some (.inl (0, 240, W)) ∧ am_get g 38 = some (.inl (0, 240, F)) ∧ am_get g 39 = some (.inl (0, 240, B)) ∧ ∀ s, s < Z 0 → ∀ t, t < mi → am_ag W (60 * s + t) = fwN Z Y z s t ∧ am_ag F (60 * s + t) = ffN Z Y z s t ∧ am_ag B (60 * s + t) = if nb z s t = true then 1 else 0 := by
  have hP := hA.2.2.2.1
  have vC := hP.2.2.2.1
  have hBX : je_B Z X := je_bX hP.2.1 hP.2.2.1 vC
  obtain ⟨v0, q0, -, -, -, -, -, -, -, -, -, -, -, -, -, q36, -⟩ := je_xo hA
  have key : ∀ (sb : ax_Sh), ax_I sb h → (am_EG mi_123 [.ref 36, .ref E, .retAddr z] h (none, (sv36 h (nro z mi 60 0 (sw 60 (X 1) 5 (sc_ne 4294967292) (fun n => am_ag (X 1) (5 * n + 3)) (ss 60 (am_ag (X 0)) (rowv h 37) (Z 0)) (Z 1)) (Z 0)) (nro z mi 60 8 (sw 60 (X 1) 5 (sc_ne 4294967292) (fun n => am_ag (X 1) (5 * n + 4)) (ss 60 (fun _ => 8) (rowv h 38) (Z 0)) (Z 1)) (Z 0)) (nro z mi 60 1 (sw 60 (X 1) 5 (sc_ne 4294967292) (fun _ => 0) (ss 60 (fun _ => 0) (rowv h 39) (Z 0)) (Z 1)) (Z 0)))) ∧ ax_I sb (sv36 h (nro z mi 60 0 (sw 60 (X 1) 5 (sc_ne 4294967292) (fun n => am_ag (X 1) (5 * n + 3)) (ss 60 (am_ag (X 0)) (rowv h 37) (Z 0)) (Z 1)) (Z 0)) (nro z mi 60 8 (sw 60 (X 1) 5 (sc_ne 4294967292) (fun n => am_ag (X 1) (5 * n + 4)) (ss 60 (fun _ => 8) (rowv h 38) (Z 0)) (Z 1)) (Z 0)) (nro z mi 60 1 (sw 60 (X 1) 5 (sc_ne 4294967292) (fun _ => 0) (ss 60 (fun _ => 0) (rowv h 39) (Z 0)) (Z 1)) (Z 0))) ∧ sv36_ok h) → (ax_I sb0 h → ax_I sb0 (sv36 h (nro z mi 60 0 (sw 60 (X 1) 5 (sc_ne 4294967292) (fun n => am_ag (X 1) (5 * n + 3)) (ss 60 (am_ag (X 0)) (rowv h 37) (Z 0)) (Z 1)) (Z 0)) (nro z mi 60 8 (sw 60 (X 1) 5 (sc_ne 4294967292) (fun n => am_ag (X 1) (5 * n + 4)) (ss 60 (fun _ => 8) (rowv h 38) (Z 0)) (Z 1)) (Z 0)) (nro z mi 60 1 (sw 60 (X 1) 5 (sc_ne 4294967292) (fun _ => 0) (ss 60 (fun _ => 0) (rowv h 39) (Z 0)) (Z 1)) (Z 0)))) → (ax_I sb1 h → ax_I sb1 (sv36 h (nro z mi 60 0 (sw 60 (X 1) 5 (sc_ne 4294967292) (fun n => am_ag (X 1) (5 * n + 3)) (ss 60 (am_ag (X 0)) (rowv h 37) (Z 0)) (Z 1)) (Z 0)) (nro z mi 60 8 (sw 60 (X 1) 5 (sc_ne 4294967292) (fun n => am_ag (X 1) (5 * n + 4)) (ss 60 (fun _ => 8) (rowv h 38) (Z 0)) (Z 1)) (Z 0)) (nro z mi 60 1 (sw 60 (X 1) 5 (sc_ne 4294967292) (fun _ => 0) (ss 60 (fun _ => 0) (rowv h 39) (Z 0)) (Z 1)) (Z 0)))) → ∃ g, am_EG mi_123 [.ref 36, .ref E, .retAddr z] h (none, g) ∧ Jv g ∧ je_A g E mi go Z X Y ∧ (g.1 = h.1 ∧ g.2.1 = h.2.1) ∧ ∃ W F B, am_get g 36 = some (.inr (9, [.ref 37, .ref 38, .ref 39])) ∧ am_get g 37 = some (.inl (0, 240, W)) ∧ am_get g 38 = some (.inl (0, 240, F)) ∧ am_get g 39 = some (.inl (0, 240, B)) ∧ ∀ s, s < Z 0 → ∀ t, t < mi → am_ag W (60 * s + t) = fwN Z Y z s t ∧ am_ag F (60 * s + t) = ffN Z Y z s t ∧ am_ag B (60 * s + t) = if nb z s t = true then 1 else 0 := fun sb hI ⟨e, i, hH⟩ i0 i1 => by
    have k4 : kp h (sv36 h (nro z mi 60 0 (sw 60 (X 1) 5 (sc_ne 4294967292) (fun n => am_ag (X 1) (5 * n + 3)) (ss 60 (am_ag (X 0)) (rowv h 37) (Z 0)) (Z 1)) (Z 0)) (nro z mi 60 8 (sw 60 (X 1) 5 (sc_ne 4294967292) (fun n => am_ag (X 1) (5 * n + 4)) (ss 60 (fun _ => 8) (rowv h 38) (Z 0)) (Z 1)) (Z 0)) (nro z mi 60 1 (sw 60 (X 1) 5 (sc_ne 4294967292) (fun _ => 0) (ss 60 (fun _ => 0) (rowv h 39) (Z 0)) (Z 1)) (Z 0))) 4 := kp_ck [37, 38, 39] (fun a ha => sv36_o hH ha) (by decide) (fun k _ => ax_fv_get (sv36_o hH rfl) k)
    have k17 : kp h (sv36 h (nro z mi 60 0 (sw 60 (X 1) 5 (sc_ne 4294967292) (fun n => am_ag (X 1) (5 * n + 3)) (ss 60 (am_ag (X 0)) (rowv h 37) (Z 0)) (Z 1)) (Z 0)) (nro z mi 60 8 (sw 60 (X 1) 5 (sc_ne 4294967292) (fun n => am_ag (X 1) (5 * n + 4)) (ss 60 (fun _ => 8) (rowv h 38) (Z 0)) (Z 1)) (Z 0)) (nro z mi 60 1 (sw 60 (X 1) 5 (sc_ne 4294967292) (fun _ => 0) (ss 60 (fun _ => 0) (rowv h 39) (Z 0)) (Z 1)) (Z 0))) 17 := kp_ck [37, 38, 39] (fun a ha => sv36_o hH ha) (by decide) (fun k _ => ax_fv_get (sv36_o hH rfl) k)
    have kE : kp h (sv36 h (nro z mi 60 0 (sw 60 (X 1) 5 (sc_ne 4294967292) (fun n => am_ag (X 1) (5 * n + 3)) (ss 60 (am_ag (X 0)) (rowv h 37) (Z 0)) (Z 1)) (Z 0)) (nro z mi 60 8 (sw 60 (X 1) 5 (sc_ne 4294967292) (fun n => am_ag (X 1) (5 * n + 4)) (ss 60 (fun _ => 8) (rowv h 38) (Z 0)) (Z 1)) (Z 0)) (nro z mi 60 1 (sw 60 (X 1) 5 (sc_ne 4294967292) (fun _ => 0) (ss 60 (fun _ => 0) (rowv h 39) (Z 0)) (Z 1)) (Z 0))) E := by
      rcases hA.1 with ⟨rfl, -⟩ | ⟨rfl, -⟩
      · exact k4
      · exact k17
    refine ⟨_, e, Jv_x hJ (fun a ha => sv36_o hH (am_lk_ct (ks := [37, 38, 39]) (by simp; omega))) (fun q => ⟨i0 q, k4⟩) (fun q => ⟨i1 q, k17⟩) (sv36_o hH rfl) (ax_fv_get (sv36_o hH rfl) 1) (ax_fv_get (sv36_o hH rfl) 16), je_A_kp kE i0 i1 hA, by unfold sv36; exact am_ups_1 _, _, _, _, (sv36_o hH rfl).trans q36, sv36_g37 hH, sv36_g38 hH, sv36_g39 hH, fun s hs t ht => ?_⟩
    have bd := je_B_bd hBX
    have zm := hP.1.2.1
    have t60 : t < 60 := by omega
    have e1 : am_ag (sw 60 (X 1) 5 (sc_ne 4294967292) (fun n => am_ag (X 1) (5 * n + 3)) (ss 60 (am_ag (X 0)) (rowv h 37) (Z 0)) (Z 1)) (60 * s + t) = sc_sw Z Y 4294967292 s t := by
      rw [← sc_sw_cg (vC 0 (by decide)) (vC 1 (by decide)) 4294967292 s t hs, sw_ag (Nat.le_refl _) t60 bd.1 (fun _ _ => am_ag_lt _ _), ss_ag (Nat.le_refl _) t60 (fun _ _ => am_ag_lt _ _), if_pos hs]
      rfl
    have e2 : am_ag (sw 60 (X 1) 5 (sc_ne 4294967292) (fun n => am_ag (X 1) (5 * n + 4)) (ss 60 (fun _ => 8) (rowv h 38) (Z 0)) (Z 1)) (60 * s + t) = sc_sf Z Y 4294967292 s t := by
      rw [← sc_sf_cg (vC 1 (by decide)) 4294967292 s t, sw_ag (Nat.le_refl _) t60 bd.1 (fun _ _ => am_ag_lt _ _), ss_ag (Nat.le_refl _) t60 (fun _ _ => by decide), if_pos hs]
      rfl
    have e3 : am_ag (sw 60 (X 1) 5 (sc_ne 4294967292) (fun _ => 0) (ss 60 (fun _ => 0) (rowv h 39) (Z 0)) (Z 1)) (60 * s + t) = 0 := by
      rw [sw_ag (Nat.le_refl _) t60 bd.1 (fun _ _ => by decide), ss_ag (Nat.le_refl _) t60 (fun _ _ => by decide), if_pos hs, pk_c, ite_self]
    rw [nro_ag zm (Nat.le_refl _) ht, nro_ag zm (Nat.le_refl _) ht, nro_ag zm (Nat.le_refl _) ht, e1, e2, e3]
    unfold fwN ffN
    by_cases hb : nb z s t = true
    · have hc : s < Z 0 ∧ nb z s t = true := ⟨hs, hb⟩
      exact ⟨(if_pos hc).trans (if_pos hb).symm, (if_pos hc).trans (if_pos hb).symm, (if_pos hc).trans (if_pos hb).symm⟩
    · have hc : ¬ (s < Z 0 ∧ nb z s t = true) := fun a => hb a.2
      exact ⟨(if_neg hc).trans (if_neg hb).symm, (if_neg hc).trans (if_neg hb).symm, (if_neg hc).trans (if_neg hb).symm⟩
  have d1 := hA.2.1
  rcases hA.1 with ⟨rfl, i⟩ | ⟨rfl, i⟩
  · have e := shn1 (z := z) i d1 hP.1.2.1 hP.2.1 hBX
    exact key sb0 i e (fun _ => e.2.1) (fun q => (sb_no i q).elim)
  · have e := shn0 (z := z) i d1 hP.1.2.1 hP.2.1 hBX
    exact key sb1 i e (fun q => (sb_no q i).elim) (fun _ => e.2.1)
/-- a night in the reference -/
theorem lni_q {h : am_H} (hJ : Jv h) {E mi go : Nat} {Z X Y : Nat → Nat} (hA : je_A h E mi go Z X Y) {z : Nat} : ∃ g, am_EG mi_206 [.ref 66, .retAddr z] h (none, g) ∧ Jv g ∧ je_A g E mi go Z X Y ∧ (g.1 = h.1 ∧ g.2.1 = h.2.1) ∧ ∀ s, s < Z 0 → ∀ t, t < mi → am_ag (rowv g 81) (64 * s + t) = fwN Z Y z s t ∧ am_ag (rowv g 82) (64 * s + t) = lc_8 (ffN Z Y z s t) ∧ am_ag (rowv g 83) (64 * s + t) = if nb z s t = true then 1 else 0 := by
  have hm := hJ.1.2
  obtain ⟨hH, own⟩ := ms_okh hm
  obtain ⟨vs, q66, -, -, m0, m1, mz_, mr, f32, f33, f34, -, -⟩ := je_mo hm hA
  have hP := hA.2.2.2.1
  have hBY : je_B Z Y := je_bY hP.2.1 hP.2.2.1
  have bd := je_B_bd hBY
  have z0 : Z 0 ≤ 4 := hP.2.1 0 (by decide)
  have zm := hP.1.2.1
  have e := ln_m (w := rowv h 81) (f := rowv h 82) (b := rowv h 83) (z := z) hH q66 (mz_ 0 (by decide)).1 (mr 0 (by decide)) (mz_ 1 (by decide)).1 (mr 1 (by decide)) (mz_ 2 (by decide)).1 (mr 2 (by decide)) (mz_ 3 (by decide)).1 (mr 3 (by decide)) m0 f32 f33 f34 (mz_ 0 (by decide)).2 (mz_ 1 (by decide)).2 (mz_ 2 (by decide)).2 (mz_ 3 (by decide)).2 hP.2.1 hBY zm
  rw [own] at e
  have w9 : ∀ i, i < 256 → am_ag (lcw Z Y 4294967292 (rowv h 81)) i ≤ 9 := lcw_P (P := fun n => n ≤ 9) (je_b9 hP) (fun i hi => hBY 1 (by decide) i hi 3 (by decide))
  have f7 : ∀ i, i < 256 → am_ag (lcf Z Y 4294967292 (rowv h 82)) i ≤ 7 ∨ am_ag (lcf Z Y 4294967292 (rowv h 82)) i = 4294967292 := by
    refine lcf_P (P := fun n => n ≤ 7 ∨ n = 4294967292) (Or.inr rfl) (fun i hi => ?_)
    have q : am_ag (Y 1) (5 * i + 4) ≤ 8 := hBY 1 (by decide) i hi 4 (by decide)
    unfold lc_8
    by_cases e : am_ag (Y 1) (5 * i + 4) = 8
    · rw [if_pos e]; exact Or.inr rfl
    · rw [if_neg e]; exact Or.inl (by omega)
  have bz : ∀ i, i < 256 → am_ag (zf (fun _ => 0) (rowv h 83) 256) i ≤ 1 := zf_P (P := fun n => n ≤ 1) (fun i hi => by decide)
  refine ⟨_, e, ms_Jv hJ (lb_P (P := fun n => n ≤ 9) w9 (by decide)) (lb_P (P := fun n => n ≤ 7 ∨ n = 4294967292) f7 (Or.inr rfl)) (zro_P bz _), ms_A hm hA, by unfold ms; exact am_ups_1 _, fun s hs t ht => ?_⟩
  rw [rowv_eq (ms_g81 hH), rowv_eq (ms_g82 hH), rowv_eq (ms_g83 hH), zf_ag, if_pos (by omega), zf_ag, if_pos (by omega)]
  unfold lb fwN ffN
  rw [zro_ag zm ht, if_pos hs, lcw_ag bd (by omega) (by omega), lcf_ag bd (by omega) (by omega)]
  have l1 : sc_sw Z Y 4294967292 s t ≤ 9 := sc_sw_9 hBY _ s t hs
  have l2 : sc_sf Z Y 4294967292 s t ≤ 8 := sc_sf_8 hBY _ s t
  unfold nbn
  by_cases hb : nb z s t = true
  · rw [if_pos hb, if_pos hb, if_pos hb, if_neg (by decide), if_neg (by decide)]
    exact ⟨rfl, rfl, rfl⟩
  · rw [if_neg hb, if_neg hb, if_neg hb, if_pos rfl, if_pos rfl]
    exact ⟨Nat.mod_eq_of_lt (by omega), Nat.mod_eq_of_lt (lc_8_lt _ (by omega)), rfl⟩
theorem nx_0 {h : am_H} {E a0 a5 mi go z0 z5 : Nat} {v0 vE w0 w5 : List Value} (q0 : am_get h 0 = some (.inr (11, v0))) (x3 : v0[3]? = some (.ref E)) (qE : am_get h E = some (.inr (1, vE))) (e0 : vE[0]? = some (.ref a0)) (e5 : vE[5]? = some (.ref a5)) (e6 : vE[6]? = some (.retAddr mi)) (e7 : vE[7]? = some (.retAddr go)) (r0 : am_get h a0 = some (.inr (8, w0))) (s0 : w0[3]? = some (.retAddr z0)) (r5 : am_get h a5 = some (.inr (8, w5))) (s5 : w5[3]? = some (.retAddr z5)) (zm : mi ≤ 60) (zz0 : z0 ≤ 4) (zz5 : z5 ≤ 4) (x7 : v0[7]? = some (.ref 36)) (x8 : v0[8]? = some (.ref 40)) {v36 : List Value} (q36 : am_get h 36 = some (.inr (9, v36))) {z i wh : Nat} (g_z : z < 4294967296) (g_i : i < 4294967296) (g_w : wh < 4294967296) (h1 : ¬ z < 10000) : am_EG mi_122 [.ref 0, .retAddr z, .retAddr i, .retAddr wh] h (some (.retAddr 4294967295), h) := by
  refine am_enter (n := 0) tk_122.2.1 (by simp [Value.category]) (Nat.le_of_ble_eq_true rfl) ?_
  show am_Good mi_122 0 [some (.ref 0), some (.retAddr z), some (.retAddr i), some (.retAddr wh)] [] h _
  refine g_iload_n (i := 1) dd_122_0 rfl ?_
  by_cases hq : 2147483648 ≤ z
  · refine g_if_lt_t (t := 28) dd_122_1 (by decide) (by first | exact sk_lt_t (by omega) (by omega) | exact tk_lt_t (by omega)) ?_
    refine g_iconst dd_122_28 ic_m1 ?_
    exact g_ireturn rfl dd_122_29
  · refine g_if_lt_f (t := 28) dd_122_1 (by decide) (by first | exact sk_lt_f (by omega) (by omega) | exact tk_lt_f (by omega)) ?_
    refine g_iload_n (i := 1) dd_122_4 rfl ?_
    refine g_sipush dd_122_5 si_10000 ?_
    refine g_icmp_ge_t (t := 28) dd_122_8 (by decide) (by first | exact sk_ge_t (by omega) (by omega) | exact tk_ge_t (by omega)) ?_
    refine g_iconst dd_122_28 ic_m1 ?_
    exact g_ireturn rfl dd_122_29
theorem nx_1 {h : am_H} {E a0 a5 mi go z0 z5 : Nat} {v0 vE w0 w5 : List Value} (q0 : am_get h 0 = some (.inr (11, v0))) (x3 : v0[3]? = some (.ref E)) (qE : am_get h E = some (.inr (1, vE))) (e0 : vE[0]? = some (.ref a0)) (e5 : vE[5]? = some (.ref a5)) (e6 : vE[6]? = some (.retAddr mi)) (e7 : vE[7]? = some (.retAddr go)) (r0 : am_get h a0 = some (.inr (8, w0))) (s0 : w0[3]? = some (.retAddr z0)) (r5 : am_get h a5 = some (.inr (8, w5))) (s5 : w5[3]? = some (.retAddr z5)) (zm : mi ≤ 60) (zz0 : z0 ≤ 4) (zz5 : z5 ≤ 4) (x7 : v0[7]? = some (.ref 36)) (x8 : v0[8]? = some (.ref 40)) {v36 : List Value} (q36 : am_get h 36 = some (.inr (9, v36))) {z i wh : Nat} (g_z : z < 4294967296) (g_i : i < 4294967296) (g_w : wh < 4294967296) (h1 : z < 10000) (h2 : ¬ i < z5) : am_EG mi_122 [.ref 0, .retAddr z, .retAddr i, .retAddr wh] h (some (.retAddr 4294967295), h) := by
  refine am_enter (n := 0) tk_122.2.1 (by simp [Value.category]) (Nat.le_of_ble_eq_true rfl) ?_
  show am_Good mi_122 0 [some (.ref 0), some (.retAddr z), some (.retAddr i), some (.retAddr wh)] [] h _
  refine g_iload_n (i := 1) dd_122_0 rfl ?_
  refine g_if_lt_f (t := 28) dd_122_1 (by decide) (by first | exact sk_lt_f (by omega) (by omega) | exact tk_lt_f (by omega)) ?_
  refine g_iload_n (i := 1) dd_122_4 rfl ?_
  refine g_sipush dd_122_5 si_10000 ?_
  refine g_icmp_ge_f (t := 28) dd_122_8 (by decide) (by first | exact sk_ge_f (by omega) (by omega) | exact tk_ge_f (by omega)) ?_
  refine g_aload_n (i := 0) dd_122_11 rfl ?_
  refine g_iload_n (i := 2) dd_122_12 rfl ?_
  refine g_virtual (M' := mi_59) (n := 1) (ci := 11) (b := 0) (as := [.retAddr i]) (st := []) (r1 := (some (.retAddr 0), h)) w_616 w_618 ps_59 ⟨lk_59.1, lk_59.2.1, lk_59.2.2, by decide, by decide⟩ rfl q0 rfl (by simp [Value.category]) dd_122_13 (iwa_0 q0 x3 qE e0 e5 e6 e7 r0 s0 r5 s5 zm zz0 zz5 h2 g_i) ?_
  show am_Good mi_122 16 [some (.ref 0), some (.retAddr z), some (.retAddr i), some (.retAddr wh)] [.retAddr 0] h _
  refine g_if_eq_t (t := 28) dd_122_16 (by decide) (by decide) ?_
  refine g_iconst dd_122_28 ic_m1 ?_
  exact g_ireturn rfl dd_122_29
theorem nx_2 {h : am_H} {E a0 a5 mi go z0 z5 : Nat} {v0 vE w0 w5 : List Value} (q0 : am_get h 0 = some (.inr (11, v0))) (x3 : v0[3]? = some (.ref E)) (qE : am_get h E = some (.inr (1, vE))) (e0 : vE[0]? = some (.ref a0)) (e5 : vE[5]? = some (.ref a5)) (e6 : vE[6]? = some (.retAddr mi)) (e7 : vE[7]? = some (.retAddr go)) (r0 : am_get h a0 = some (.inr (8, w0))) (s0 : w0[3]? = some (.retAddr z0)) (r5 : am_get h a5 = some (.inr (8, w5))) (s5 : w5[3]? = some (.retAddr z5)) (zm : mi ≤ 60) (zz0 : z0 ≤ 4) (zz5 : z5 ≤ 4) (x7 : v0[7]? = some (.ref 36)) (x8 : v0[8]? = some (.ref 40)) {v36 : List Value} (q36 : am_get h 36 = some (.inr (9, v36))) {z i wh : Nat} (g_z : z < 4294967296) (g_i : i < 4294967296) (g_w : wh < 4294967296) (h1 : z < 10000) (h2 : i < z5) (h3 : ¬ wh ≤ 1) : am_EG mi_122 [.ref 0, .retAddr z, .retAddr i, .retAddr wh] h (some (.retAddr 4294967295), h) := by
  refine am_enter (n := 0) tk_122.2.1 (by simp [Value.category]) (Nat.le_of_ble_eq_true rfl) ?_
  show am_Good mi_122 0 [some (.ref 0), some (.retAddr z), some (.retAddr i), some (.retAddr wh)] [] h _
  refine g_iload_n (i := 1) dd_122_0 rfl ?_
  refine g_if_lt_f (t := 28) dd_122_1 (by decide) (by first | exact sk_lt_f (by omega) (by omega) | exact tk_lt_f (by omega)) ?_
  refine g_iload_n (i := 1) dd_122_4 rfl ?_
  refine g_sipush dd_122_5 si_10000 ?_
  refine g_icmp_ge_f (t := 28) dd_122_8 (by decide) (by first | exact sk_ge_f (by omega) (by omega) | exact tk_ge_f (by omega)) ?_
  refine g_aload_n (i := 0) dd_122_11 rfl ?_
  refine g_iload_n (i := 2) dd_122_12 rfl ?_
  refine g_virtual (M' := mi_59) (n := 1) (ci := 11) (b := 0) (as := [.retAddr i]) (st := []) (r1 := (some (.retAddr 1), h)) w_616 w_618 ps_59 ⟨lk_59.1, lk_59.2.1, lk_59.2.2, by decide, by decide⟩ rfl q0 rfl (by simp [Value.category]) dd_122_13 (iwa_1 q0 x3 qE e0 e5 e6 e7 r0 s0 r5 s5 zm zz0 zz5 h2) ?_
  show am_Good mi_122 16 [some (.ref 0), some (.retAddr z), some (.retAddr i), some (.retAddr wh)] [.retAddr 1] h _
  refine g_if_eq_f (t := 28) dd_122_16 (by decide) (by decide) ?_
  refine g_iload_n (i := 3) dd_122_19 rfl ?_
  by_cases hq : 2147483648 ≤ wh
  · refine g_if_lt_t (t := 28) dd_122_20 (by decide) (by first | exact sk_lt_t (by omega) (by omega) | exact tk_lt_t (by omega)) ?_
    refine g_iconst dd_122_28 ic_m1 ?_
    exact g_ireturn rfl dd_122_29
  · refine g_if_lt_f (t := 28) dd_122_20 (by decide) (by first | exact sk_lt_f (by omega) (by omega) | exact tk_lt_f (by omega)) ?_
    refine g_iload_n (i := 3) dd_122_23 rfl ?_
    refine g_iconst dd_122_24 ic_1 ?_
    refine g_icmp_le_f (t := 30) dd_122_25 (by decide) (by first | exact sk_le_f (by omega) (by omega) | exact tk_le_f (by omega)) ?_
    refine g_iconst dd_122_28 ic_m1 ?_
    exact g_ireturn rfl dd_122_29
theorem nx_w {h : am_H} {E a0 a5 mi go z0 z5 : Nat} {v0 vE w0 w5 : List Value} (q0 : am_get h 0 = some (.inr (11, v0))) (x3 : v0[3]? = some (.ref E)) (qE : am_get h E = some (.inr (1, vE))) (e0 : vE[0]? = some (.ref a0)) (e5 : vE[5]? = some (.ref a5)) (e6 : vE[6]? = some (.retAddr mi)) (e7 : vE[7]? = some (.retAddr go)) (r0 : am_get h a0 = some (.inr (8, w0))) (s0 : w0[3]? = some (.retAddr z0)) (r5 : am_get h a5 = some (.inr (8, w5))) (s5 : w5[3]? = some (.retAddr z5)) (zm : mi ≤ 60) (zz0 : z0 ≤ 4) (zz5 : z5 ≤ 4) (x7 : v0[7]? = some (.ref 36)) (x8 : v0[8]? = some (.ref 40)) {v36 : List Value} (q36 : am_get h 36 = some (.inr (9, v36))) {z i wh : Nat} (g_z : z < 4294967296) (g_i : i < 4294967296) (g_w : wh < 4294967296) (h1 : z < 10000) (h2 : i < z5) (h3 : wh = 0) {g k : am_H} {wo gn : Nat} {v0g : List Value} (q0g : am_get g 0 = some (.inr (11, v0g))) (x3g : v0g[3]? = some (.ref E)) (x7g : v0g[7]? = some (.ref 36)) (x8g : v0g[8]? = some (.ref 40)) {v0k : List Value} (q0k : am_get k 0 = some (.inr (11, v0k))) (x3k : v0k[3]? = some (.ref E)) (x7k : v0k[7]? = some (.ref 36)) (x8k : v0k[8]? = some (.ref 40)) {v40k : List Value} (q40k : am_get k 40 = some (.inr (10, v40k))) (t4k : v40k[4]? = some (.retAddr wo)) (t6k : v40k[6]? = some (.retAddr gn)) (e1_ : am_EG mi_123 [.ref 36, .ref E, .retAddr z] h (none, g)) (e2_ : am_EG mi_60 [.ref 0, .retAddr i, .ref 36] g (none, k)) : am_EG mi_122 [.ref 0, .retAddr z, .retAddr i, .retAddr wh] h (some (.retAddr wo), k) := by
  refine am_enter (n := 0) tk_122.2.1 (by simp [Value.category]) (Nat.le_of_ble_eq_true rfl) ?_
  show am_Good mi_122 0 [some (.ref 0), some (.retAddr z), some (.retAddr i), some (.retAddr wh)] [] h _
  refine g_iload_n (i := 1) dd_122_0 rfl ?_
  refine g_if_lt_f (t := 28) dd_122_1 (by decide) (by first | exact sk_lt_f (by omega) (by omega) | exact tk_lt_f (by omega)) ?_
  refine g_iload_n (i := 1) dd_122_4 rfl ?_
  refine g_sipush dd_122_5 si_10000 ?_
  refine g_icmp_ge_f (t := 28) dd_122_8 (by decide) (by first | exact sk_ge_f (by omega) (by omega) | exact tk_ge_f (by omega)) ?_
  refine g_aload_n (i := 0) dd_122_11 rfl ?_
  refine g_iload_n (i := 2) dd_122_12 rfl ?_
  refine g_virtual (M' := mi_59) (n := 1) (ci := 11) (b := 0) (as := [.retAddr i]) (st := []) (r1 := (some (.retAddr 1), h)) w_616 w_618 ps_59 ⟨lk_59.1, lk_59.2.1, lk_59.2.2, by decide, by decide⟩ rfl q0 rfl (by simp [Value.category]) dd_122_13 (iwa_1 q0 x3 qE e0 e5 e6 e7 r0 s0 r5 s5 zm zz0 zz5 h2) ?_
  show am_Good mi_122 16 [some (.ref 0), some (.retAddr z), some (.retAddr i), some (.retAddr wh)] [.retAddr 1] h _
  refine g_if_eq_f (t := 28) dd_122_16 (by decide) (by decide) ?_
  refine g_iload_n (i := 3) dd_122_19 rfl ?_
  refine g_if_lt_f (t := 28) dd_122_20 (by decide) (by first | exact sk_lt_f (by omega) (by omega) | exact tk_lt_f (by omega)) ?_
  refine g_iload_n (i := 3) dd_122_23 rfl ?_
  refine g_iconst dd_122_24 ic_1 ?_
  refine g_icmp_le_t (t := 30) dd_122_25 (by decide) (by first | exact sk_le_t (by omega) (by omega) | exact tk_le_t (by omega)) ?_
  refine g_aload_n (i := 0) dd_122_30 rfl ?_
  refine g_getfield (k := 7) am_ck11 (by decide) (Or.inl w_518) dd_122_31 q0 x7 ?_
  refine g_aload_n (i := 0) dd_122_34 rfl ?_
  refine g_getfield (k := 3) am_ck11 (by decide) (Or.inl w_514) dd_122_35 q0 x3 ?_
  refine g_iload_n (i := 1) dd_122_38 rfl ?_
  refine g_virtual (M' := mi_123) (n := 2) (ci := 9) (b := 36) (as := [.ref E, .retAddr z]) (st := []) (r1 := (none, g)) w_889 w_890 w_891 ⟨lk_123.1, lk_123.2.1, lk_123.2.2, by decide, by decide⟩ rfl q36 rfl (by simp [Value.category]) dd_122_39 (e1_) ?_
  show am_Good mi_122 42 [some (.ref 0), some (.retAddr z), some (.retAddr i), some (.retAddr wh)] [] g _
  refine g_aload_n (i := 0) dd_122_42 rfl ?_
  refine g_iload_n (i := 2) dd_122_43 rfl ?_
  refine g_aload_n (i := 0) dd_122_44 rfl ?_
  refine g_getfield (k := 7) am_ck11 (by decide) (Or.inl w_518) dd_122_45 q0g x7g ?_
  refine g_virtual (M' := mi_60) (n := 2) (ci := 11) (b := 0) (as := [.retAddr i, .ref 36]) (st := []) (r1 := (none, k)) w_620 w_622 ps_60 ⟨lk_60.1, lk_60.2.1, lk_60.2.2, by decide, by decide⟩ rfl q0g rfl (by simp [Value.category]) dd_122_48 (e2_) ?_
  show am_Good mi_122 51 [some (.ref 0), some (.retAddr z), some (.retAddr i), some (.retAddr wh)] [] k _
  refine g_iload_n (i := 3) dd_122_51 rfl ?_
  refine g_if_ne_f (t := 65) dd_122_52 (by decide) (tk_ne_f (by omega)) ?_
  refine g_aload_n (i := 0) dd_122_55 rfl ?_
  refine g_getfield (k := 8) am_ck11 (by decide) (Or.inl w_519) dd_122_56 q0k x8k ?_
  refine g_getfield (k := 4) am_ck10 (by decide) (Or.inr ⟨_, w_174⟩) dd_122_59 q40k t4k ?_
  refine g_goto (t := 72) dd_122_62 (by decide) ?_
  exact g_ireturn rfl dd_122_72
theorem nx_g {h : am_H} {E a0 a5 mi go z0 z5 : Nat} {v0 vE w0 w5 : List Value} (q0 : am_get h 0 = some (.inr (11, v0))) (x3 : v0[3]? = some (.ref E)) (qE : am_get h E = some (.inr (1, vE))) (e0 : vE[0]? = some (.ref a0)) (e5 : vE[5]? = some (.ref a5)) (e6 : vE[6]? = some (.retAddr mi)) (e7 : vE[7]? = some (.retAddr go)) (r0 : am_get h a0 = some (.inr (8, w0))) (s0 : w0[3]? = some (.retAddr z0)) (r5 : am_get h a5 = some (.inr (8, w5))) (s5 : w5[3]? = some (.retAddr z5)) (zm : mi ≤ 60) (zz0 : z0 ≤ 4) (zz5 : z5 ≤ 4) (x7 : v0[7]? = some (.ref 36)) (x8 : v0[8]? = some (.ref 40)) {v36 : List Value} (q36 : am_get h 36 = some (.inr (9, v36))) {z i wh : Nat} (g_z : z < 4294967296) (g_i : i < 4294967296) (g_w : wh < 4294967296) (h1 : z < 10000) (h2 : i < z5) (h3 : wh = 1) {g k : am_H} {wo gn : Nat} {v0g : List Value} (q0g : am_get g 0 = some (.inr (11, v0g))) (x3g : v0g[3]? = some (.ref E)) (x7g : v0g[7]? = some (.ref 36)) (x8g : v0g[8]? = some (.ref 40)) {v0k : List Value} (q0k : am_get k 0 = some (.inr (11, v0k))) (x3k : v0k[3]? = some (.ref E)) (x7k : v0k[7]? = some (.ref 36)) (x8k : v0k[8]? = some (.ref 40)) {v40k : List Value} (q40k : am_get k 40 = some (.inr (10, v40k))) (t4k : v40k[4]? = some (.retAddr wo)) (t6k : v40k[6]? = some (.retAddr gn)) (e1_ : am_EG mi_123 [.ref 36, .ref E, .retAddr z] h (none, g)) (e2_ : am_EG mi_60 [.ref 0, .retAddr i, .ref 36] g (none, k)) : am_EG mi_122 [.ref 0, .retAddr z, .retAddr i, .retAddr wh] h (some (.retAddr gn), k) := by
  refine am_enter (n := 0) tk_122.2.1 (by simp [Value.category]) (Nat.le_of_ble_eq_true rfl) ?_
  show am_Good mi_122 0 [some (.ref 0), some (.retAddr z), some (.retAddr i), some (.retAddr wh)] [] h _
  refine g_iload_n (i := 1) dd_122_0 rfl ?_
  refine g_if_lt_f (t := 28) dd_122_1 (by decide) (by first | exact sk_lt_f (by omega) (by omega) | exact tk_lt_f (by omega)) ?_
  refine g_iload_n (i := 1) dd_122_4 rfl ?_
  refine g_sipush dd_122_5 si_10000 ?_
  refine g_icmp_ge_f (t := 28) dd_122_8 (by decide) (by first | exact sk_ge_f (by omega) (by omega) | exact tk_ge_f (by omega)) ?_
  refine g_aload_n (i := 0) dd_122_11 rfl ?_
  refine g_iload_n (i := 2) dd_122_12 rfl ?_
  refine g_virtual (M' := mi_59) (n := 1) (ci := 11) (b := 0) (as := [.retAddr i]) (st := []) (r1 := (some (.retAddr 1), h)) w_616 w_618 ps_59 ⟨lk_59.1, lk_59.2.1, lk_59.2.2, by decide, by decide⟩ rfl q0 rfl (by simp [Value.category]) dd_122_13 (iwa_1 q0 x3 qE e0 e5 e6 e7 r0 s0 r5 s5 zm zz0 zz5 h2) ?_
  show am_Good mi_122 16 [some (.ref 0), some (.retAddr z), some (.retAddr i), some (.retAddr wh)] [.retAddr 1] h _
  refine g_if_eq_f (t := 28) dd_122_16 (by decide) (by decide) ?_
  refine g_iload_n (i := 3) dd_122_19 rfl ?_
  refine g_if_lt_f (t := 28) dd_122_20 (by decide) (by first | exact sk_lt_f (by omega) (by omega) | exact tk_lt_f (by omega)) ?_
  refine g_iload_n (i := 3) dd_122_23 rfl ?_
  refine g_iconst dd_122_24 ic_1 ?_
  refine g_icmp_le_t (t := 30) dd_122_25 (by decide) (by first | exact sk_le_t (by omega) (by omega) | exact tk_le_t (by omega)) ?_
  refine g_aload_n (i := 0) dd_122_30 rfl ?_
  refine g_getfield (k := 7) am_ck11 (by decide) (Or.inl w_518) dd_122_31 q0 x7 ?_
  refine g_aload_n (i := 0) dd_122_34 rfl ?_
  refine g_getfield (k := 3) am_ck11 (by decide) (Or.inl w_514) dd_122_35 q0 x3 ?_
  refine g_iload_n (i := 1) dd_122_38 rfl ?_
  refine g_virtual (M' := mi_123) (n := 2) (ci := 9) (b := 36) (as := [.ref E, .retAddr z]) (st := []) (r1 := (none, g)) w_889 w_890 w_891 ⟨lk_123.1, lk_123.2.1, lk_123.2.2, by decide, by decide⟩ rfl q36 rfl (by simp [Value.category]) dd_122_39 (e1_) ?_
  show am_Good mi_122 42 [some (.ref 0), some (.retAddr z), some (.retAddr i), some (.retAddr wh)] [] g _
  refine g_aload_n (i := 0) dd_122_42 rfl ?_
  refine g_iload_n (i := 2) dd_122_43 rfl ?_
  refine g_aload_n (i := 0) dd_122_44 rfl ?_
  refine g_getfield (k := 7) am_ck11 (by decide) (Or.inl w_518) dd_122_45 q0g x7g ?_
  refine g_virtual (M' := mi_60) (n := 2) (ci := 11) (b := 0) (as := [.retAddr i, .ref 36]) (st := []) (r1 := (none, k)) w_620 w_622 ps_60 ⟨lk_60.1, lk_60.2.1, lk_60.2.2, by decide, by decide⟩ rfl q0g rfl (by simp [Value.category]) dd_122_48 (e2_) ?_
  show am_Good mi_122 51 [some (.ref 0), some (.retAddr z), some (.retAddr i), some (.retAddr wh)] [] k _
  refine g_iload_n (i := 3) dd_122_51 rfl ?_
  refine g_if_ne_t (t := 65) dd_122_52 (by decide) (tk_ne_t (by omega)) ?_
  refine g_aload_n (i := 0) dd_122_65 rfl ?_
  refine g_getfield (k := 8) am_ck11 (by decide) (Or.inl w_519) dd_122_66 q0k x8k ?_
  refine g_getfield (k := 6) am_ck10 (by decide) (Or.inr ⟨_, w_178⟩) dd_122_69 q40k t6k ?_
  exact g_ireturn rfl dd_122_72
theorem nm_0 {h : am_H} {vs : List Value} {z5 z i wh : Nat} (q66 : am_get h 66 = some (.inr (12, vs))) (f12 : vs[12]? = some (.retAddr z5)) (hz5 : z5 ≤ 4) (g_z : z < 4294967296) (g_i : i < 4294967296) (g_w : wh < 4294967296) (h1 : ¬ z < 10000) : am_EG mi_205 [.ref 66, .retAddr z, .retAddr i, .retAddr wh] h (some (.retAddr 4294967295), h) := by
  refine am_enter (n := 0) tk_205.2.1 (by simp [Value.category]) (Nat.le_of_ble_eq_true rfl) ?_
  show am_Good mi_205 0 [some (.ref 66), some (.retAddr z), some (.retAddr i), some (.retAddr wh)] [] h _
  refine g_iload_n (i := 1) dd_205_0 rfl ?_
  refine g_iconst dd_205_1 ic_0 ?_
  refine g_sipush dd_205_2 si_9999 ?_
  refine g_static (M' := mi_133) (n := 3) (as := [.retAddr z, .retAddr 0, .retAddr 9999]) (st := []) (r1 := (some (.retAddr 0), h)) w_1106 w_1107 ⟨lk_133.1, lk_133.2.1, lk_133.2.2, by decide, by decide⟩ rfl (by simp [Value.category]) dd_205_5 (rin_w g_z (by omega)) ?_
  show am_Good mi_205 8 [some (.ref 66), some (.retAddr z), some (.retAddr i), some (.retAddr wh)] [.retAddr 0] h _
  refine g_if_eq_t (t := 28) dd_205_8 (by decide) (by decide) ?_
  refine g_iconst dd_205_28 ic_m1 ?_
  exact g_ireturn rfl dd_205_29
theorem nm_1 {h : am_H} {vs : List Value} {z5 z i wh : Nat} (q66 : am_get h 66 = some (.inr (12, vs))) (f12 : vs[12]? = some (.retAddr z5)) (hz5 : z5 ≤ 4) (g_z : z < 4294967296) (g_i : i < 4294967296) (g_w : wh < 4294967296) (h1 : z < 10000) (h2 : ¬ i < z5) : am_EG mi_205 [.ref 66, .retAddr z, .retAddr i, .retAddr wh] h (some (.retAddr 4294967295), h) := by
  refine am_enter (n := 0) tk_205.2.1 (by simp [Value.category]) (Nat.le_of_ble_eq_true rfl) ?_
  show am_Good mi_205 0 [some (.ref 66), some (.retAddr z), some (.retAddr i), some (.retAddr wh)] [] h _
  refine g_iload_n (i := 1) dd_205_0 rfl ?_
  refine g_iconst dd_205_1 ic_0 ?_
  refine g_sipush dd_205_2 si_9999 ?_
  refine g_static (M' := mi_133) (n := 3) (as := [.retAddr z, .retAddr 0, .retAddr 9999]) (st := []) (r1 := (some (.retAddr 1), h)) w_1106 w_1107 ⟨lk_133.1, lk_133.2.1, lk_133.2.2, by decide, by decide⟩ rfl (by simp [Value.category]) dd_205_5 (rin1 (by decide) ⟨Nat.zero_le _, by omega⟩ (by decide)) ?_
  show am_Good mi_205 8 [some (.ref 66), some (.retAddr z), some (.retAddr i), some (.retAddr wh)] [.retAddr 1] h _
  refine g_if_eq_f (t := 28) dd_205_8 (by decide) (by decide) ?_
  refine g_aload_n (i := 0) dd_205_11 rfl ?_
  refine g_iload_n (i := 2) dd_205_12 rfl ?_
  refine g_virtual (M' := mi_164) (n := 1) (ci := 12) (b := 66) (as := [.retAddr i]) (st := []) (r1 := (some (.retAddr 0), h)) w_1226 w_1228 ps_164 ⟨lk_164.1, lk_164.2.1, lk_164.2.2, by decide, by decide⟩ rfl q66 rfl (by simp [Value.category]) dd_205_13 (mwm_0 q66 f12 hz5 h2 g_i) ?_
  show am_Good mi_205 16 [some (.ref 66), some (.retAddr z), some (.retAddr i), some (.retAddr wh)] [.retAddr 0] h _
  refine g_if_eq_t (t := 28) dd_205_16 (by decide) (by decide) ?_
  refine g_iconst dd_205_28 ic_m1 ?_
  exact g_ireturn rfl dd_205_29
theorem nm_2 {h : am_H} {vs : List Value} {z5 z i wh : Nat} (q66 : am_get h 66 = some (.inr (12, vs))) (f12 : vs[12]? = some (.retAddr z5)) (hz5 : z5 ≤ 4) (g_z : z < 4294967296) (g_i : i < 4294967296) (g_w : wh < 4294967296) (h1 : z < 10000) (h2 : i < z5) (h3 : ¬ wh ≤ 1) : am_EG mi_205 [.ref 66, .retAddr z, .retAddr i, .retAddr wh] h (some (.retAddr 4294967295), h) := by
  refine am_enter (n := 0) tk_205.2.1 (by simp [Value.category]) (Nat.le_of_ble_eq_true rfl) ?_
  show am_Good mi_205 0 [some (.ref 66), some (.retAddr z), some (.retAddr i), some (.retAddr wh)] [] h _
  refine g_iload_n (i := 1) dd_205_0 rfl ?_
  refine g_iconst dd_205_1 ic_0 ?_
  refine g_sipush dd_205_2 si_9999 ?_
  refine g_static (M' := mi_133) (n := 3) (as := [.retAddr z, .retAddr 0, .retAddr 9999]) (st := []) (r1 := (some (.retAddr 1), h)) w_1106 w_1107 ⟨lk_133.1, lk_133.2.1, lk_133.2.2, by decide, by decide⟩ rfl (by simp [Value.category]) dd_205_5 (rin1 (by decide) ⟨Nat.zero_le _, by omega⟩ (by decide)) ?_
  show am_Good mi_205 8 [some (.ref 66), some (.retAddr z), some (.retAddr i), some (.retAddr wh)] [.retAddr 1] h _
  refine g_if_eq_f (t := 28) dd_205_8 (by decide) (by decide) ?_
  refine g_aload_n (i := 0) dd_205_11 rfl ?_
  refine g_iload_n (i := 2) dd_205_12 rfl ?_
  refine g_virtual (M' := mi_164) (n := 1) (ci := 12) (b := 66) (as := [.retAddr i]) (st := []) (r1 := (some (.retAddr 1), h)) w_1226 w_1228 ps_164 ⟨lk_164.1, lk_164.2.1, lk_164.2.2, by decide, by decide⟩ rfl q66 rfl (by simp [Value.category]) dd_205_13 (mwm_1 q66 f12 hz5 h2) ?_
  show am_Good mi_205 16 [some (.ref 66), some (.retAddr z), some (.retAddr i), some (.retAddr wh)] [.retAddr 1] h _
  refine g_if_eq_f (t := 28) dd_205_16 (by decide) (by decide) ?_
  refine g_iload_n (i := 3) dd_205_19 rfl ?_
  refine g_iconst dd_205_20 ic_0 ?_
  refine g_iconst dd_205_21 ic_1 ?_
  refine g_static (M' := mi_133) (n := 3) (as := [.retAddr wh, .retAddr 0, .retAddr 1]) (st := []) (r1 := (some (.retAddr 0), h)) w_1106 w_1107 ⟨lk_133.1, lk_133.2.1, lk_133.2.2, by decide, by decide⟩ rfl (by simp [Value.category]) dd_205_22 (rin_w g_w (by omega)) ?_
  show am_Good mi_205 25 [some (.ref 66), some (.retAddr z), some (.retAddr i), some (.retAddr wh)] [.retAddr 0] h _
  refine g_if_ne_f (t := 30) dd_205_25 (by decide) (by decide) ?_
  refine g_iconst dd_205_28 ic_m1 ?_
  exact g_ireturn rfl dd_205_29
theorem nm_w {h : am_H} {vs : List Value} {z5 z i wh : Nat} (q66 : am_get h 66 = some (.inr (12, vs))) (f12 : vs[12]? = some (.retAddr z5)) (hz5 : z5 ≤ 4) (g_z : z < 4294967296) (g_i : i < 4294967296) (g_w : wh < 4294967296) (h1 : z < 10000) (h2 : i < z5) (h3 : wh = 0) {g k : am_H} {wo gn : Nat} {us ws : List Value} (q66g : am_get g 66 = some (.inr (12, us))) (q66k : am_get k 66 = some (.inr (12, ws))) (f36k : ws[36]? = some (.retAddr wo)) (f38k : ws[38]? = some (.retAddr gn)) (e1_ : am_EG mi_206 [.ref 66, .retAddr z] h (none, g)) (e2_ : am_EG mi_165 [.ref 66, .retAddr i] g (none, k)) : am_EG mi_205 [.ref 66, .retAddr z, .retAddr i, .retAddr wh] h (some (.retAddr wo), k) := by
  refine am_enter (n := 0) tk_205.2.1 (by simp [Value.category]) (Nat.le_of_ble_eq_true rfl) ?_
  show am_Good mi_205 0 [some (.ref 66), some (.retAddr z), some (.retAddr i), some (.retAddr wh)] [] h _
  refine g_iload_n (i := 1) dd_205_0 rfl ?_
  refine g_iconst dd_205_1 ic_0 ?_
  refine g_sipush dd_205_2 si_9999 ?_
  refine g_static (M' := mi_133) (n := 3) (as := [.retAddr z, .retAddr 0, .retAddr 9999]) (st := []) (r1 := (some (.retAddr 1), h)) w_1106 w_1107 ⟨lk_133.1, lk_133.2.1, lk_133.2.2, by decide, by decide⟩ rfl (by simp [Value.category]) dd_205_5 (rin1 (by decide) ⟨Nat.zero_le _, by omega⟩ (by decide)) ?_
  show am_Good mi_205 8 [some (.ref 66), some (.retAddr z), some (.retAddr i), some (.retAddr wh)] [.retAddr 1] h _
  refine g_if_eq_f (t := 28) dd_205_8 (by decide) (by decide) ?_
  refine g_aload_n (i := 0) dd_205_11 rfl ?_
  refine g_iload_n (i := 2) dd_205_12 rfl ?_
  refine g_virtual (M' := mi_164) (n := 1) (ci := 12) (b := 66) (as := [.retAddr i]) (st := []) (r1 := (some (.retAddr 1), h)) w_1226 w_1228 ps_164 ⟨lk_164.1, lk_164.2.1, lk_164.2.2, by decide, by decide⟩ rfl q66 rfl (by simp [Value.category]) dd_205_13 (mwm_1 q66 f12 hz5 h2) ?_
  show am_Good mi_205 16 [some (.ref 66), some (.retAddr z), some (.retAddr i), some (.retAddr wh)] [.retAddr 1] h _
  refine g_if_eq_f (t := 28) dd_205_16 (by decide) (by decide) ?_
  refine g_iload_n (i := 3) dd_205_19 rfl ?_
  refine g_iconst dd_205_20 ic_0 ?_
  refine g_iconst dd_205_21 ic_1 ?_
  refine g_static (M' := mi_133) (n := 3) (as := [.retAddr wh, .retAddr 0, .retAddr 1]) (st := []) (r1 := (some (.retAddr 1), h)) w_1106 w_1107 ⟨lk_133.1, lk_133.2.1, lk_133.2.2, by decide, by decide⟩ rfl (by simp [Value.category]) dd_205_22 (rin1 (by decide) ⟨Nat.zero_le _, by omega⟩ (by decide)) ?_
  show am_Good mi_205 25 [some (.ref 66), some (.retAddr z), some (.retAddr i), some (.retAddr wh)] [.retAddr 1] h _
  refine g_if_ne_t (t := 30) dd_205_25 (by decide) (by decide) ?_
  refine g_aload_n (i := 0) dd_205_30 rfl ?_
  refine g_iload_n (i := 1) dd_205_31 rfl ?_
  refine g_virtual (M' := mi_206) (n := 1) (ci := 12) (b := 66) (as := [.retAddr z]) (st := []) (r1 := (none, g)) w_1392 w_1394 ps_206 ⟨lk_206.1, lk_206.2.1, lk_206.2.2, by decide, by decide⟩ rfl q66 rfl (by simp [Value.category]) dd_205_32 (e1_) ?_
  show am_Good mi_205 35 [some (.ref 66), some (.retAddr z), some (.retAddr i), some (.retAddr wh)] [] g _
  refine g_aload_n (i := 0) dd_205_35 rfl ?_
  refine g_iload_n (i := 2) dd_205_36 rfl ?_
  refine g_virtual (M' := mi_165) (n := 1) (ci := 12) (b := 66) (as := [.retAddr i]) (st := []) (r1 := (none, k)) w_1230 w_1232 ps_165 ⟨lk_165.1, lk_165.2.1, lk_165.2.2, by decide, by decide⟩ rfl q66g rfl (by simp [Value.category]) dd_205_37 (e2_) ?_
  show am_Good mi_205 40 [some (.ref 66), some (.retAddr z), some (.retAddr i), some (.retAddr wh)] [] k _
  refine g_iload_n (i := 3) dd_205_40 rfl ?_
  refine g_if_ne_f (t := 51) dd_205_41 (by decide) (tk_ne_f (by omega)) ?_
  refine g_aload_n (i := 0) dd_205_44 rfl ?_
  refine g_getfield (k := 36) am_ck12 (by decide) (Or.inl w_971) dd_205_45 q66k f36k ?_
  refine g_goto (t := 55) dd_205_48 (by decide) ?_
  exact g_ireturn rfl dd_205_55
theorem nm_g {h : am_H} {vs : List Value} {z5 z i wh : Nat} (q66 : am_get h 66 = some (.inr (12, vs))) (f12 : vs[12]? = some (.retAddr z5)) (hz5 : z5 ≤ 4) (g_z : z < 4294967296) (g_i : i < 4294967296) (g_w : wh < 4294967296) (h1 : z < 10000) (h2 : i < z5) (h3 : wh = 1) {g k : am_H} {wo gn : Nat} {us ws : List Value} (q66g : am_get g 66 = some (.inr (12, us))) (q66k : am_get k 66 = some (.inr (12, ws))) (f36k : ws[36]? = some (.retAddr wo)) (f38k : ws[38]? = some (.retAddr gn)) (e1_ : am_EG mi_206 [.ref 66, .retAddr z] h (none, g)) (e2_ : am_EG mi_165 [.ref 66, .retAddr i] g (none, k)) : am_EG mi_205 [.ref 66, .retAddr z, .retAddr i, .retAddr wh] h (some (.retAddr gn), k) := by
  refine am_enter (n := 0) tk_205.2.1 (by simp [Value.category]) (Nat.le_of_ble_eq_true rfl) ?_
  show am_Good mi_205 0 [some (.ref 66), some (.retAddr z), some (.retAddr i), some (.retAddr wh)] [] h _
  refine g_iload_n (i := 1) dd_205_0 rfl ?_
  refine g_iconst dd_205_1 ic_0 ?_
  refine g_sipush dd_205_2 si_9999 ?_
  refine g_static (M' := mi_133) (n := 3) (as := [.retAddr z, .retAddr 0, .retAddr 9999]) (st := []) (r1 := (some (.retAddr 1), h)) w_1106 w_1107 ⟨lk_133.1, lk_133.2.1, lk_133.2.2, by decide, by decide⟩ rfl (by simp [Value.category]) dd_205_5 (rin1 (by decide) ⟨Nat.zero_le _, by omega⟩ (by decide)) ?_
  show am_Good mi_205 8 [some (.ref 66), some (.retAddr z), some (.retAddr i), some (.retAddr wh)] [.retAddr 1] h _
  refine g_if_eq_f (t := 28) dd_205_8 (by decide) (by decide) ?_
  refine g_aload_n (i := 0) dd_205_11 rfl ?_
  refine g_iload_n (i := 2) dd_205_12 rfl ?_
  refine g_virtual (M' := mi_164) (n := 1) (ci := 12) (b := 66) (as := [.retAddr i]) (st := []) (r1 := (some (.retAddr 1), h)) w_1226 w_1228 ps_164 ⟨lk_164.1, lk_164.2.1, lk_164.2.2, by decide, by decide⟩ rfl q66 rfl (by simp [Value.category]) dd_205_13 (mwm_1 q66 f12 hz5 h2) ?_
  show am_Good mi_205 16 [some (.ref 66), some (.retAddr z), some (.retAddr i), some (.retAddr wh)] [.retAddr 1] h _
  refine g_if_eq_f (t := 28) dd_205_16 (by decide) (by decide) ?_
  refine g_iload_n (i := 3) dd_205_19 rfl ?_
  refine g_iconst dd_205_20 ic_0 ?_
  refine g_iconst dd_205_21 ic_1 ?_
  refine g_static (M' := mi_133) (n := 3) (as := [.retAddr wh, .retAddr 0, .retAddr 1]) (st := []) (r1 := (some (.retAddr 1), h)) w_1106 w_1107 ⟨lk_133.1, lk_133.2.1, lk_133.2.2, by decide, by decide⟩ rfl (by simp [Value.category]) dd_205_22 (rin1 (by decide) ⟨Nat.zero_le _, by omega⟩ (by decide)) ?_
  show am_Good mi_205 25 [some (.ref 66), some (.retAddr z), some (.retAddr i), some (.retAddr wh)] [.retAddr 1] h _
  refine g_if_ne_t (t := 30) dd_205_25 (by decide) (by decide) ?_
  refine g_aload_n (i := 0) dd_205_30 rfl ?_
  refine g_iload_n (i := 1) dd_205_31 rfl ?_
  refine g_virtual (M' := mi_206) (n := 1) (ci := 12) (b := 66) (as := [.retAddr z]) (st := []) (r1 := (none, g)) w_1392 w_1394 ps_206 ⟨lk_206.1, lk_206.2.1, lk_206.2.2, by decide, by decide⟩ rfl q66 rfl (by simp [Value.category]) dd_205_32 (e1_) ?_
  show am_Good mi_205 35 [some (.ref 66), some (.retAddr z), some (.retAddr i), some (.retAddr wh)] [] g _
  refine g_aload_n (i := 0) dd_205_35 rfl ?_
  refine g_iload_n (i := 2) dd_205_36 rfl ?_
  refine g_virtual (M' := mi_165) (n := 1) (ci := 12) (b := 66) (as := [.retAddr i]) (st := []) (r1 := (none, k)) w_1230 w_1232 ps_165 ⟨lk_165.1, lk_165.2.1, lk_165.2.2, by decide, by decide⟩ rfl q66g rfl (by simp [Value.category]) dd_205_37 (e2_) ?_
  show am_Good mi_205 40 [some (.ref 66), some (.retAddr z), some (.retAddr i), some (.retAddr wh)] [] k _
  refine g_iload_n (i := 3) dd_205_40 rfl ?_
  refine g_if_ne_t (t := 51) dd_205_41 (by decide) (tk_ne_t (by omega)) ?_
  refine g_aload_n (i := 0) dd_205_51 rfl ?_
  refine g_getfield (k := 38) am_ck12 (by decide) (Or.inl w_973) dd_205_52 q66k f38k ?_
  exact g_ireturn rfl dd_205_55
theorem jb_night (x y z : Nat) (hx : x < 4294967296) (hy : y < 4294967296) (hz : z < 4294967296) : am_B2 Jv true 122 205 [.retAddr x, .retAddr y, .retAddr z] := by
  intro h hJ
  obtain ⟨E, mi, go, Z, X, Y, hA⟩ := je_ex hJ
  obtain ⟨v0, q0, x3, -, -, x7, x8, -, -, qE, r0, -, r5, -, -, q36, -⟩ := je_xo hA
  have hP := hA.2.2.2.1
  have p1 := hP.1
  have z0 : Z 0 ≤ 4 := hP.2.1 0 (by decide)
  have z5 : Z 5 ≤ 4 := hP.2.1 5 (by decide)
  obtain ⟨vs, q66⟩ := jv_g66 hJ.1
  have f12 := fvg q66 (hA.2.2.1.2.2 5 (by decide)).1
  by_cases h1 : x < 10000
  case neg => exact je_fin hJ (nx_0 q0 x3 qE rfl rfl rfl rfl r0 rfl r5 rfl p1.2.1 z0 z5 x7 x8 q36 hx hy hz h1) (nm_0 q66 f12 z5 hx hy hz h1)
  by_cases h2 : y < Z 5
  case neg => exact je_fin hJ (nx_1 q0 x3 qE rfl rfl rfl rfl r0 rfl r5 rfl p1.2.1 z0 z5 x7 x8 q36 hx hy hz h1 h2) (nm_1 q66 f12 z5 hx hy hz h1 h2)
  by_cases h3 : z ≤ 1
  case neg => exact je_fin hJ (nx_2 q0 x3 qE rfl rfl rfl rfl r0 rfl r5 rfl p1.2.1 z0 z5 x7 x8 q36 hx hy hz h1 h2 h3) (nm_2 q66 f12 z5 hx hy hz h1 h2 h3)
  have hBY : je_B Z Y := je_bY hP.2.1 hP.2.2.1
  have oy := hP.2.2.2.2 y h2
  have n9 := fwN_9 hBY x
  have n8 := ffN_8 hBY x
  obtain ⟨g, e1, J1, A1, sz1, W, F, B, s0, s1, s2, s3, pt⟩ := shn_q (z := x) hJ hA
  have hH1 := (xw_own J1.1).1
  obtain ⟨a1, a2⟩ := scR_at (Z := Z) (Y := Y) (come := 0) (wo := 0) hH1 (Or.inr ⟨rfl, rfl, rfl, rfl⟩) s0 s1 s2 s3
  have e2 := fo_xG (fb := nb x) J1 A1 hP.2.2.2.2 n9 n8 a1 a2 pt h2
  have J2 := fo_JvG (fb := nb x) (kind := am_ag (Y 5) (2 * y)) J1 n9 n8 oy z0 p1.2.2.1 p1.2.1
  obtain ⟨u0, p0, y3, -, -, y7, y8, -, -, -, -, -, -, -, -, -, -⟩ := je_xo A1
  have A2 := xw_A J1.1 A1 J2.1
  obtain ⟨c0, d0, w3, -, -, w7, w8, -, -, -, -, -, -, -, -, -, -⟩ := je_xo A2
  have q40 := xw_g40 (W := rowv g 37) (F := rowv g 38) (B := rowv g 39) (he := (wkG (fwN Z Y x) (ffN Z Y x) (nb x) (Z 0) go mi (am_ag (Y 5) (2 * y)) (am_ag (Y 5) (2 * y + 1))).1) (fr := (wkG (fwN Z Y x) (ffN Z Y x) (nb x) (Z 0) go mi (am_ag (Y 5) (2 * y)) (am_ag (Y 5) (2 * y + 1))).2.1) (wo := (wkG (fwN Z Y x) (ffN Z Y x) (nb x) (Z 0) go mi (am_ag (Y 5) (2 * y)) (am_ag (Y 5) (2 * y + 1))).2.2.1) (se := (wkG (fwN Z Y x) (ffN Z Y x) (nb x) (Z 0) go mi (am_ag (Y 5) (2 * y)) (am_ag (Y 5) (2 * y + 1))).2.2.2.1) (gn := (wkG (fwN Z Y x) (ffN Z Y x) (nb x) (Z 0) go mi (am_ag (Y 5) (2 * y)) (am_ag (Y 5) (2 * y + 1))).2.2.2.2) (pl := zf (wkQ (fwN Z Y x) (ffN Z Y x) (nb x) (Z 0) go (am_ag (Y 5) (2 * y)) (am_ag (Y 5) (2 * y + 1))) (rowv g 41) mi) hH1
  have sz2 : (xw g (rowv g 37) (rowv g 38) (rowv g 39) (wkG (fwN Z Y x) (ffN Z Y x) (nb x) (Z 0) go mi (am_ag (Y 5) (2 * y)) (am_ag (Y 5) (2 * y + 1))).1 (wkG (fwN Z Y x) (ffN Z Y x) (nb x) (Z 0) go mi (am_ag (Y 5) (2 * y)) (am_ag (Y 5) (2 * y + 1))).2.1 (wkG (fwN Z Y x) (ffN Z Y x) (nb x) (Z 0) go mi (am_ag (Y 5) (2 * y)) (am_ag (Y 5) (2 * y + 1))).2.2.1 (wkG (fwN Z Y x) (ffN Z Y x) (nb x) (Z 0) go mi (am_ag (Y 5) (2 * y)) (am_ag (Y 5) (2 * y + 1))).2.2.2.1 (wkG (fwN Z Y x) (ffN Z Y x) (nb x) (Z 0) go mi (am_ag (Y 5) (2 * y)) (am_ag (Y 5) (2 * y + 1))).2.2.2.2 (zf (wkQ (fwN Z Y x) (ffN Z Y x) (nb x) (Z 0) go (am_ag (Y 5) (2 * y)) (am_ag (Y 5) (2 * y + 1))) (rowv g 41) mi)).1 = g.1 ∧ (xw g (rowv g 37) (rowv g 38) (rowv g 39) (wkG (fwN Z Y x) (ffN Z Y x) (nb x) (Z 0) go mi (am_ag (Y 5) (2 * y)) (am_ag (Y 5) (2 * y + 1))).1 (wkG (fwN Z Y x) (ffN Z Y x) (nb x) (Z 0) go mi (am_ag (Y 5) (2 * y)) (am_ag (Y 5) (2 * y + 1))).2.1 (wkG (fwN Z Y x) (ffN Z Y x) (nb x) (Z 0) go mi (am_ag (Y 5) (2 * y)) (am_ag (Y 5) (2 * y + 1))).2.2.1 (wkG (fwN Z Y x) (ffN Z Y x) (nb x) (Z 0) go mi (am_ag (Y 5) (2 * y)) (am_ag (Y 5) (2 * y + 1))).2.2.2.1 (wkG (fwN Z Y x) (ffN Z Y x) (nb x) (Z 0) go mi (am_ag (Y 5) (2 * y)) (am_ag (Y 5) (2 * y + 1))).2.2.2.2 (zf (wkQ (fwN Z Y x) (ffN Z Y x) (nb x) (Z 0) go (am_ag (Y 5) (2 * y)) (am_ag (Y 5) (2 * y + 1))) (rowv g 41) mi)).2.1 = g.2.1 := by unfold xw; exact am_ups_1 _
  generalize xw g (rowv g 37) (rowv g 38) (rowv g 39) (wkG (fwN Z Y x) (ffN Z Y x) (nb x) (Z 0) go mi (am_ag (Y 5) (2 * y)) (am_ag (Y 5) (2 * y + 1))).1 (wkG (fwN Z Y x) (ffN Z Y x) (nb x) (Z 0) go mi (am_ag (Y 5) (2 * y)) (am_ag (Y 5) (2 * y + 1))).2.1 (wkG (fwN Z Y x) (ffN Z Y x) (nb x) (Z 0) go mi (am_ag (Y 5) (2 * y)) (am_ag (Y 5) (2 * y + 1))).2.2.1 (wkG (fwN Z Y x) (ffN Z Y x) (nb x) (Z 0) go mi (am_ag (Y 5) (2 * y)) (am_ag (Y 5) (2 * y + 1))).2.2.2.1 (wkG (fwN Z Y x) (ffN Z Y x) (nb x) (Z 0) go mi (am_ag (Y 5) (2 * y)) (am_ag (Y 5) (2 * y + 1))).2.2.2.2 (zf (wkQ (fwN Z Y x) (ffN Z Y x) (nb x) (Z 0) go (am_ag (Y 5) (2 * y)) (am_ag (Y 5) (2 * y + 1))) (rowv g 41) mi) = k at e2 J2 A2 d0 q40 sz2
  obtain ⟨m1, b1, K1, C1, y1, ptm⟩ := lni_q (z := x) J2 A2
  obtain ⟨m2, b2, K2, C2, y2, ⟨t4, -, t6⟩, -, -⟩ := wf_xG (fb := nb x) K1 C1 hP.2.2.2.2 n9 n8 ptm h2
  obtain ⟨us, u66⟩ := jv_g66 J2.1
  obtain ⟨us1, u661⟩ := jv_g66 K1.1
  obtain ⟨us2, u662⟩ := jv_g66 K2.1
  have f12' := fvg u66 (A2.2.2.1.2.2 5 (by decide)).1
  rcases (show z = 0 ∨ z = 1 by omega) with q | q
  · have ex := nx_w q0 x3 qE rfl rfl rfl rfl r0 rfl r5 rfl p1.2.1 z0 z5 x7 x8 q36 hx hy hz h1 h2 q p0 y3 y7 y8 d0 w3 w7 w8 q40 rfl rfl e1 e2
    have em := nm_w u66 f12' z5 hx hy hz h1 h2 q u661 u662 (fvg u662 t4) (fvg u662 t6) b1 b2
    exact ⟨_, k, _, m2, ex, em, fun _ => rfl, K2, ⟨v0, q0⟩, ⟨us, u66⟩, ⟨sz2.1.trans sz1.1, sz2.2.trans sz1.2⟩, y2.1.trans y1.1, y2.2.trans y1.2⟩
  · have ex := nx_g q0 x3 qE rfl rfl rfl rfl r0 rfl r5 rfl p1.2.1 z0 z5 x7 x8 q36 hx hy hz h1 h2 q p0 y3 y7 y8 d0 w3 w7 w8 q40 rfl rfl e1 e2
    have em := nm_g u66 f12' z5 hx hy hz h1 h2 q u661 u662 (fvg u662 t4) (fvg u662 t6) b1 b2
    exact ⟨_, k, _, m2, ex, em, fun _ => rfl, K2, ⟨v0, q0⟩, ⟨us, u66⟩, ⟨sz2.1.trans sz1.1, sz2.2.trans sz1.2⟩, y2.1.trans y1.1, y2.2.trans y1.2⟩
