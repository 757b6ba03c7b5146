/-! ===== contracts by what they leave between calls; fits ===== -/
/-- behind a walk of the class -/
def fkR (h g : am_H) (E mi go : Nat) (Z X Y : Nat → Nat) (σ : wkS) (P : Nat → Nat) : Prop := Jv g ∧ je_A g E mi go Z X Y ∧ (g.1 = h.1 ∧ g.2.1 = h.2.1) ∧ (ax_fv g 40 4 = some (.retAddr σ.2.2.1) ∧ ax_fv g 40 5 = some (.retAddr σ.2.2.2.1) ∧ ax_fv g 40 6 = some (.retAddr σ.2.2.2.2)) ∧ (rowv g 37 = rowv h 37 ∧ rowv g 38 = rowv h 38 ∧ rowv g 39 = rowv h 39) ∧ ∃ pl, am_get g 41 = some (.inl (0, 60, pl)) ∧ ∀ t, t < mi → am_ag pl t = P t
/-- a screen of the class as it stands: at q, rows q1, q2, q3 -/
def scR (h : am_H) (Z Y : Nat → Nat) (come wo q q1 q2 q3 : Nat) : Prop := ∃ W F B, am_get h q = some (.inr (9, [.ref q1, .ref q2, .ref q3])) ∧ am_get h q1 = some (.inl (0, 240, W)) ∧ am_get h q2 = some (.inl (0, 240, F)) ∧ am_get h q3 = some (.inl (0, 240, B)) ∧ ∀ s, s < Z 0 → ∀ t, t < 60 → am_ag W (60 * s + t) = sc_W Z Y come wo s t ∧ am_ag F (60 * s + t) = sc_F Z Y come wo s t ∧ am_ag B (60 * s + t) = if sc_B Z Y come s t = true then 1 else 0
theorem scR_32 {h : am_H} {E mi go : Nat} {Z X Y : Nat → Nat} (hA : je_A h E mi go Z X Y) : scR h Z Y 0 4294967292 32 33 34 35 := by
  obtain ⟨v0, q0, -, -, -, -, -, -, -, -, -, -, -, -, qS, -, -⟩ := je_xo hA
  obtain ⟨W, F, B, s1, s2, s3, s4⟩ := hA.2.2.2.2.2.1
  exact ⟨W, F, B, qS, s1, s2, s3, s4⟩
/-- a screen is either the evening's or the trial one -/
def scQ (q q1 q2 q3 : Nat) : Prop := (q = 32 ∧ q1 = 33 ∧ q2 = 34 ∧ q3 = 35) ∨ (q = 36 ∧ q1 = 37 ∧ q2 = 38 ∧ q3 = 39)
theorem scR_at {h : am_H} {Z Y : Nat → Nat} {come wo q q1 q2 q3 : Nat} (hH : xw_ok h) (hq : scQ q q1 q2 q3) {W F B : Nat} (g0 : am_get h q = some (.inr (9, [.ref q1, .ref q2, .ref q3]))) (g1 : am_get h q1 = some (.inl (0, 240, W))) (g2 : am_get h q2 = some (.inl (0, 240, F))) (g3 : am_get h q3 = some (.inl (0, 240, B))) : (∀ V G C he fr wo se gn pl, V = rowv h 37 → G = rowv h 38 → C = rowv h 39 → am_get (xw h V G C he fr wo se gn pl) q = some (.inr (9, [.ref q1, .ref q2, .ref q3]))) ∧ (∀ V G C he fr wo se gn pl, V = rowv h 37 → G = rowv h 38 → C = rowv h 39 → am_get (xw h V G C he fr wo se gn pl) q1 = some (.inl (0, 240, W)) ∧ am_get (xw h V G C he fr wo se gn pl) q2 = some (.inl (0, 240, F)) ∧ am_get (xw h V G C he fr wo se gn pl) q3 = some (.inl (0, 240, B))) := by
  rcases hq with ⟨rfl, rfl, rfl, rfl⟩ | ⟨rfl, rfl, rfl, rfl⟩
  · exact ⟨fun _ _ _ _ _ _ _ _ _ _ _ _ => (xw_o hH rfl).trans g0, fun _ _ _ _ _ _ _ _ _ _ _ _ => ⟨(xw_o hH rfl).trans g1, (xw_o hH rfl).trans g2, (xw_o hH rfl).trans g3⟩⟩
  · refine ⟨fun _ _ _ _ _ _ _ _ _ _ _ _ => (xw_o hH rfl).trans g0, fun V G C _ _ _ _ _ _ e1 e2 e3 => ?_⟩
    rw [rowv_eq g1] at e1
    rw [rowv_eq g2] at e2
    rw [rowv_eq g3] at e3
    subst e1
    subst e2
    subst e3
    exact ⟨xw_g37 hH, xw_g38 hH, xw_g39 hH⟩
theorem fkR_of {h : am_H} (hJ : Jv h) {E mi go : Nat} {Z X Y : Nat → Nat} (hA : je_A h E mi go Z X Y) {come wo kind own : Nat} (ho : own < Z 0) : fkR h (xw h (rowv h 37) (rowv h 38) (rowv h 39) (wkA Z Y come wo go mi kind own).1 (wkA Z Y come wo go mi kind own).2.1 (wkA Z Y come wo go mi kind own).2.2.1 (wkA Z Y come wo go mi kind own).2.2.2.1 (wkA Z Y come wo go mi kind own).2.2.2.2 (zf (wkP Z Y come wo go kind own) (rowv h 41) mi)) E mi go Z X Y (wkA Z Y come wo go mi kind own) (wkP Z Y come wo go kind own) := by
  have hP := hA.2.2.2.1
  have hBY : je_B Z Y := je_bY hP.2.1 hP.2.2.1
  have z0 : Z 0 ≤ 4 := hP.2.1 0 (by decide)
  have hH := (xw_own hJ.1).1
  have J := fo_Jv hJ hBY (come := come) (wo := wo) (kind := kind) ho z0 hP.1.2.2.1 hP.1.2.1
  refine ⟨J, xw_A hJ.1 hA J.1, by unfold xw; exact am_ups_1 _, ⟨?_, ?_, ?_⟩, ⟨rowv_eq (xw_g37 hH), rowv_eq (xw_g38 hH), rowv_eq (xw_g39 hH)⟩, _, xw_g41 hH, fun t ht => ?_⟩
  · unfold ax_fv; rw [xw_g40 hH]; rfl
  · unfold ax_fv; rw [xw_g40 hH]; rfl
  · unfold ax_fv; rw [xw_g40 hH]; rfl
  · rw [zf_wk hBY ho z0 hP.1.2.2.1, if_pos ht]
theorem fo_q {h : am_H} (hJ : Jv h) {E mi go : Nat} {Z X Y : Nat → Nat} (hA : je_A h E mi go Z X Y) {q q1 q2 q3 come wo : Nat} (hq : scQ q q1 q2 q3) (hS : scR h Z Y come wo q q1 q2 q3) {i : Nat} (hi : i < Z 5) : ∃ g, am_EG mi_60 [.ref 0, .retAddr i, .ref q] h (none, g) ∧ fkR h g E mi go Z X Y (wkA Z Y come wo go mi (am_ag (Y 5) (2 * i)) (am_ag (Y 5) (2 * i + 1))) (wkP Z Y come wo go (am_ag (Y 5) (2 * i)) (am_ag (Y 5) (2 * i + 1))) := by
  obtain ⟨W, F, B, g0, g1, g2, g3, pt⟩ := hS
  have hO : je_O Z Y := hA.2.2.2.1.2.2.2.2
  obtain ⟨a1, a2⟩ := scR_at (Z := Z) (Y := Y) (come := come) (wo := wo) (xw_own hJ.1).1 hq g0 g1 g2 g3
  exact ⟨_, fo_x hJ hA hO a1 a2 pt hi, fkR_of hJ hA (hO i hi)⟩
theorem fk_q {h : am_H} (hJ : Jv h) {E mi go : Nat} {Z X Y : Nat → Nat} (hA : je_A h E mi go Z X Y) {q q1 q2 q3 come wo : Nat} (hq : scQ q q1 q2 q3) (hS : scR h Z Y come wo q q1 q2 q3) {kind own : Nat} (hk : kind ≤ 3) (ho : own < Z 0) : ∃ g, am_EG mi_71 [.ref 40, .ref E, .ref q, .retAddr kind, .retAddr own] h (none, g) ∧ fkR h g E mi go Z X Y (wkA Z Y come wo go mi kind own) (wkP Z Y come wo go kind own) := by
  obtain ⟨W, F, B, g0, g1, g2, g3, pt⟩ := hS
  obtain ⟨hH, own_⟩ := xw_own hJ.1
  obtain ⟨qS, gS⟩ := scR_at (Z := Z) (Y := Y) (come := come) (wo := wo) hH hq g0 g1 g2 g3
  obtain ⟨v0, q0, -, -, -, -, -, -, -, qE, r0, -, -, -, -, -, -⟩ := je_xo hA
  have hI := hA.1
  have hP := hA.2.2.2.1
  have hBY : je_B Z Y := je_bY hP.2.1 hP.2.2.1
  have z0 : Z 0 ≤ 4 := hP.2.1 0 (by decide)
  have ct := fun he fr w_ se gn pl => sc_ct (H := xw h (rowv h 37) (rowv h 38) (rowv h 39) he fr w_ se gn pl) (n := Z 0) (mi := mi) (fw := sc_W Z Y come wo) (ff := sc_F Z Y come wo) (fb := sc_B Z Y come) (qS _ _ _ he fr w_ se gn pl rfl rfl rfl) (gS _ _ _ he fr w_ se gn pl rfl rfl rfl).1 (gS _ _ _ he fr w_ se gn pl rfl rfl rfl).2.1 (gS _ _ _ he fr w_ se gn pl rfl rfl rfl).2.2 (fun s hs t ht => pt s hs t (by have := hP.1.2.1; omega)) z0 hP.1.2.1 (fun s t _ _ => sc_F_8 hBY come wo s t)
  have nk : am_lk [(37, am_e0), (38, am_e0), (39, am_e0), (40, am_e0), (41, am_e0)] E = none ∧ am_lk [(37, am_e0), (38, am_e0), (39, am_e0), (40, am_e0), (41, am_e0)] (E + 1) = none := by
    rcases hI with ⟨rfl, -⟩ | ⟨rfl, -⟩ <;> exact ⟨rfl, rfl⟩
  have e := wk_m (W := rowv h 37) (F := rowv h 38) (B := rowv h 39) (he := fldv h 40 2) (fr := fldv h 40 3) (wo := fldv h 40 4) (se := fldv h 40 5) (gn := fldv h 40 6) (pl := rowv h 41) (kind := kind) (own := own) hH (fun he fr w_ se gn pl => qS _ _ _ he fr w_ se gn pl rfl rfl rfl) (fun he fr w_ se gn pl => (ct he fr w_ se gn pl).1) (fun he fr w_ se gn pl => (ct he fr w_ se gn pl).2.1) (fun he fr w_ se gn pl => (ct he fr w_ se gn pl).2.2.1) (fun he fr w_ se gn pl => (ct he fr w_ se gn pl).2.2.2) z0 hP.1.2.1 hP.1.2.2.1 (fun s t hs _ => Nat.le_trans (sc_W_9 hBY come wo s t hs) (by decide)) (fun s t => fbt_lt _) nk.1 qE rfl rfl rfl nk.2 r0 rfl hk ho
  exact ⟨_, Eq.mp (congrArg (fun g => am_EG mi_71 [.ref 40, .ref E, .ref q, .retAddr kind, .retAddr own] g (none, xw h (rowv h 37) (rowv h 38) (rowv h 39) (wkA Z Y come wo go mi kind own).1 (wkA Z Y come wo go mi kind own).2.1 (wkA Z Y come wo go mi kind own).2.2.1 (wkA Z Y come wo go mi kind own).2.2.2.1 (wkA Z Y come wo go mi kind own).2.2.2.2 (zf (wkP Z Y come wo go kind own) (rowv h 41) mi))) own_) e, fkR_of hJ hA ho⟩
/-- the reference's case as it stands -/
def msR (h : am_H) (Z Y : Nat → Nat) (come wo : Nat) : Prop := ∀ s, s < Z 0 → ∀ t, t < 60 → am_ag (rowv h 81) (64 * s + t) = sc_W Z Y come wo s t ∧ am_ag (rowv h 82) (64 * s + t) = lc_8 (sc_F Z Y come wo s t) ∧ am_ag (rowv h 83) (64 * s + t) = if sc_B Z Y come s t = true then 1 else 0
/-- behind a walk of the reference -/
def wtR (h g : am_H) (E mi go : Nat) (Z X Y : Nat → Nat) (σ : wkS) : Prop := Jv g ∧ je_A g E mi go Z X Y ∧ (g.1 = h.1 ∧ g.2.1 = h.2.1) ∧ (ax_fv g 66 36 = some (.retAddr σ.2.2.1) ∧ ax_fv g 66 37 = some (.retAddr σ.2.2.2.1) ∧ ax_fv g 66 38 = some (.retAddr σ.2.2.2.2)) ∧ (rowv g 81 = rowv h 81 ∧ rowv g 82 = rowv h 82 ∧ rowv g 83 = rowv h 83)
theorem wf_q {h : am_H} (hJ : Jv h) {E mi go : Nat} {Z X Y : Nat → Nat} (hA : je_A h E mi go Z X Y) {come wo : Nat} (hS : msR h Z Y come wo) {i : Nat} (hi : i < Z 5) : ∃ g, am_EG mi_165 [.ref 66, .retAddr i] h (none, g) ∧ wtR h g E mi go Z X Y (wkA Z Y come wo go mi (am_ag (Y 5) (2 * i)) (am_ag (Y 5) (2 * i + 1))) := by
  obtain ⟨g, b1, b2, b3, b4, b5, b6, -⟩ := wf_x hJ hA hA.2.2.2.1.2.2.2.2 hS hi
  exact ⟨g, b1, b2, b3, b4, b5, b6⟩
theorem wt_q {h : am_H} (hJ : Jv h) {E mi go : Nat} {Z X Y : Nat → Nat} (hA : je_A h E mi go Z X Y) {come wo : Nat} (pt : msR h Z Y come wo) {kind own : Nat} (hk : kind ≤ 3) (oy : own < Z 0) : ∃ g, am_EG mi_166 [.ref 66, .retAddr kind, .retAddr own] h (none, g) ∧ wtR h g E mi go Z X Y (wkA Z Y come wo go mi kind own) := by
  have hm := hJ.1.2
  obtain ⟨hH, own_⟩ := mz_own hm
  have hP := hA.2.2.2.1
  have dm := hA.2.2.1
  have hBY : je_B Z Y := je_bY hP.2.1 hP.2.2.1
  have z0 : Z 0 ≤ 4 := hP.2.1 0 (by decide)
  have p1 := hP.1
  have v0 : fldv h 66 0 = mi := fldv_fv dm.1
  have v1 : fldv h 66 1 = go := fldv_fv dm.2.1
  have v2 : fldv h 66 2 = Z 0 := fldv_fv (dm.2.2 0 (by decide)).1
  have w99 : ∀ s t, s < Z 0 → t < mi → sc_W Z Y come wo s t ≤ 99 := fun s t hs _ => Nat.le_trans (sc_W_9 hBY come wo s t hs) (by decide)
  rw [v0, v1, v2] at own_
  have e := mk_m (g := valv h 66) (mi := mi) (go := go) (n := Z 0) (nr := fldv h 66 10) (z5 := fldv h 66 12) (sa := fldv h 66 36) (fa := fldv h 66 37) (we := fldv h 66 38) (w := rowv h 81) (x := rowv h 82) (b := rowv h 83) (on := rowv h 84) (fw := sc_W Z Y come wo) (ff := sc_F Z Y come wo) (fb := sc_B Z Y come) hH (fun s t hs ht => (pt s hs t (by omega)).1) (fun s t hs ht => (pt s hs t (by omega)).2.1) (fun s t hs ht => (pt s hs t (by omega)).2.2) p1.2.2.2 z0 p1.2.1 p1.2.2.1 w99 (fun s t _ _ => sc_F_8 hBY come wo s t) hk oy
  rw [own_] at e
  obtain ⟨b1, b2, b3, b4, b5⟩ := wkA_b (come := come) (wo := wo) (kind := kind) hBY oy p1.2.2.1 p1.2.1
  obtain ⟨r1, r2, r3, r4⟩ := mz_rows hm
  have ra := fun t => wk_r_ag (fw := sc_W Z Y come wo) (ff := sc_F Z Y come wo) (fb := sc_B Z Y come) (n := Z 0) (kind := kind) (on := rowv h 84) (i := t) w99 z0 oy p1.2.2.1 (Nat.le_refl mi)
  have bon : ∀ t, t < 60 → am_ag (wk_r (sc_W Z Y come wo) (sc_F Z Y come wo) (sc_B Z Y come) (Z 0) go kind own (rowv h 84) mi) t ≤ 3 ∨ am_ag (wk_r (sc_W Z Y come wo) (sc_F Z Y come wo) (sc_B Z Y come) (Z 0) go kind own (rowv h 84) mi) t = 4294967292 := fun t ht => by
    rw [ra t]
    by_cases q : t < mi
    · rw [if_pos q]
      rcases wkP_b (come := come) (wo := wo) (kind := kind) (t := t) hBY oy p1.2.2.1 with r | r
      · exact Or.inl (by have : wk_p (sc_W Z Y come wo) (sc_F Z Y come wo) (sc_B Z Y come) (Z 0) go kind own t < Z 0 := r; omega)
      · exact Or.inr r
    · rw [if_neg q]
      exact r4 t ht
  have J := mz_Jv hJ (sa := (wkA Z Y come wo go mi kind own).2.2.1) (fa := (wkA Z Y come wo go mi kind own).2.2.2.1) (we := (wkA Z Y come wo go mi kind own).2.2.2.2) (by omega) b4 (by omega) r1 r2 r3 bon
  rw [v0, v1, v2] at J
  refine ⟨_, e, J, ?_, by unfold mz; exact am_ups_1 _, ⟨?_, ?_, ?_⟩, ⟨rowv_eq (mz_g81 hH), rowv_eq (mz_g82 hH), rowv_eq (mz_g83 hH)⟩⟩
  · refine je_A_m (fun a ha => mz_o hH (am_lk_ct (ks := [66, 81, 82, 83, 84]) (by simp; omega))) (fun a ha => ?_) (fun k hk => ?_) hA
    · simp only [List.mem_cons, List.not_mem_nil, or_false] at ha
      rcases ha with rfl | rfl | rfl | rfl | rfl | rfl <;> exact mz_o hH rfl
    · have key : ∀ k, k < 55 → ax_fv h 66 k = some (valv h 66 k) := fun k hk => val_in hm (a := 66) rfl hk
      simp only [List.mem_cons, List.not_mem_nil, or_false] at hk
      rcases hk with rfl | rfl | rfl | rfl | rfl | rfl | rfl | rfl
      · rw [dm.1]; unfold ax_fv; rw [mz_g66 hH]; rfl
      · rw [dm.2.1]; unfold ax_fv; rw [mz_g66 hH]; rfl
      · rw [(dm.2.2 0 (by decide)).1]; unfold ax_fv; rw [mz_g66 hH]; rfl
      · rw [key 4 (by decide)]; unfold ax_fv; rw [mz_g66 hH]; rfl
      · rw [key 6 (by decide)]; unfold ax_fv; rw [mz_g66 hH]; rfl
      · rw [key 8 (by decide)]; unfold ax_fv; rw [mz_g66 hH]; rfl
      · rw [(fld_in (k := 10) hm (a := 66) rfl rfl).1]; unfold ax_fv; rw [mz_g66 hH]; rfl
      · rw [(fld_in (k := 12) hm (a := 66) rfl rfl).1]; unfold ax_fv; rw [mz_g66 hH]; rfl
  · unfold ax_fv; rw [mz_g66 hH]; rfl
  · unfold ax_fv; rw [mz_g66 hH]; rfl
  · unfold ax_fv; rw [mz_g66 hH]; rfl
/-- what follows, in both, with the evening's rows -/
theorem cl_q {h : am_H} (hJ : Jv h) {E mi go : Nat} {Z X Y : Nat → Nat} (hA : je_A h E mi go Z X Y) : (∀ s, s < 256 → am_EG mi_57 [.ref 30, .retAddr s] h (some (.retAddr (cl_k (Y 4) (Z 4) 6 s)), h)) ∧ (∀ s, s < 256 → am_EG mi_162 [.ref 66, .retAddr s] h (some (.retAddr (cl_k (Y 4) (Z 4) 6 s)), h)) := by
  obtain ⟨v0, q0, -, f5, -, -, -, -, -, -, -, -, -, -, -, -, q30⟩ := je_xo hA
  obtain ⟨ws, q66, -, f, -⟩ := jy_obj hJ.1.2 (a := 66) rfl
  obtain ⟨-, -, d2, hP, ⟨cc, c1, c2⟩, -⟩ := hA
  have z : ax_fv h 66 10 = some (.retAddr (Z 4)) := (d2.2.2 4 (by decide)).1
  unfold ax_fv at z
  rw [q66] at z
  refine ⟨fun s hs => ?_, fun s hs => cr_m q66 z (f 11 _ _ rfl) (d2.2.2 4 (by decide)).2 (hP.2.1 4 (by decide)) (fun i hi => hP.2.2.1 4 (by decide) i hi) hs⟩
  have e := kn_fol q0 f5 q30 c1 hs
  rw [c2 s hs] at e
  exact e
theorem cl_k256 {mi go : Nat} {Z X Y : Nat → Nat} (hP : je_P mi go Z X Y) {s : Nat} (hs : s < 256) : cl_k (Y 4) (Z 4) 6 s < 256 := by
  have z4 : Z 4 ≤ 6 := hP.2.1 4 (by decide)
  exact cl_k_lt hs (fun j hj => hP.2.2.1 4 (by decide) (3 * j + 2) (by show 3 * j + 2 < 18; omega)) 6
theorem sh_b {c : Nat} (h : c < 31) : (1 <<< (c % 32)) % 4294967296 = 2 ^ c := by
  rw [Nat.mod_eq_of_lt (show c < 32 by omega), Nat.one_shiftLeft]
  exact Nat.mod_eq_of_lt (Nat.pow_lt_pow_right (a := 2) (n := 32) (by decide) (by omega))
/-- bits set one behind the other where a test holds -/
def bs_i (p : Nat → Bool) (q : Nat) (acc : Nat) : Nat → Nat
  | 0 => acc
  | s + 1 => if p s = true then bs_i p q acc s ||| 2 ^ (q + s) else bs_i p q acc s
theorem ftx_y {h g : am_H} {r : am_R} {E a0 n se cse set acc k s : Nat} {v0 : List Value} (q0 : am_get h 0 = some (.inr (11, v0))) (x3 : v0[3]? = some (.ref E)) (x5 : v0[5]? = some (.ref 30)) (x6 : v0[6]? = some (.ref 32)) (x8 : v0[8]? = some (.ref 40)) {vE w0 : List Value} (qE : am_get h E = some (.inr (1, vE))) (e0 : vE[0]? = some (.ref a0)) (r0 : am_get h a0 = some (.inr (8, w0))) (s0 : w0[3]? = some (.retAddr n)) {v40 : List Value} (q40 : am_get h 40 = some (.inr (10, v40))) {v0g : List Value} (q0g : am_get g 0 = some (.inr (11, v0g))) (x3g : v0g[3]? = some (.ref E)) (x5g : v0g[5]? = some (.ref 30)) (x6g : v0g[6]? = some (.ref 32)) (x8g : v0g[8]? = some (.ref 40)) {v40g : List Value} (q40g : am_get g 40 = some (.inr (10, v40g))) (t5g : v40g[5]? = some (.retAddr se)) {v30g : List Value} (q30g : am_get g 30 = some (.inr (2, v30g))) (hn : n ≤ 4) (hs : s < n) (hk : k ≤ 3) (hset : set < 256) (hcse : cse < 256) (e1 : am_EG mi_71 [.ref 40, .ref E, .ref 32, .retAddr k, .retAddr s] h (none, g)) (e2 : am_EG mi_57 [.ref 30, .retAddr se] g (some (.retAddr cse), g)) (hc : cse = set) (hg : am_Good mi_120 21 [some (.ref 0), some (.retAddr set), some (.retAddr (acc ||| 2 ^ (4 * k + s))), some (.retAddr k), some (.retAddr (s + 1))] [] g r) : am_Good mi_120 21 [some (.ref 0), some (.retAddr set), some (.retAddr acc), some (.retAddr k), some (.retAddr s)] [] h r := by
  refine g_iload dd_120_21 rfl ?_
  refine g_aload_n (i := 0) dd_120_23 rfl ?_
  refine g_getfield (k := 3) am_ck11 (by decide) (Or.inl w_514) dd_120_24 q0 x3 ?_
  refine g_getfield (k := 0) am_ck1 (by decide) (Or.inr ⟨_, w_84⟩) dd_120_27 qE e0 ?_
  refine g_getfield (k := 3) am_ck8 (by decide) (Or.inr ⟨_, w_67⟩) dd_120_30 r0 s0 ?_
  refine g_icmp_ge_f (t := 89) dd_120_33 (by decide) (by first | exact sk_ge_f (by omega) (by omega) | exact tk_ge_f (by omega)) ?_
  refine g_aload_n (i := 0) dd_120_36 rfl ?_
  refine g_getfield (k := 8) am_ck11 (by decide) (Or.inl w_519) dd_120_37 q0 x8 ?_
  refine g_aload_n (i := 0) dd_120_40 rfl ?_
  refine g_getfield (k := 3) am_ck11 (by decide) (Or.inl w_514) dd_120_41 q0 x3 ?_
  refine g_aload_n (i := 0) dd_120_44 rfl ?_
  refine g_getfield (k := 6) am_ck11 (by decide) (Or.inl w_517) dd_120_45 q0 x6 ?_
  refine g_iload_n (i := 3) dd_120_48 rfl ?_
  refine g_iload dd_120_49 rfl ?_
  refine g_virtual (M' := mi_71) (n := 4) (ci := 10) (b := 40) (as := [.ref E, .ref 32, .retAddr k, .retAddr s]) (st := []) (r1 := (none, g)) w_667 w_668 w_669 ⟨lk_71.1, lk_71.2.1, lk_71.2.2, by decide, by decide⟩ rfl q40 rfl (by simp [Value.category]) dd_120_51 (e1) ?_
  show am_Good mi_120 54 [some (.ref 0), some (.retAddr set), some (.retAddr acc), some (.retAddr k), some (.retAddr s)] [] g _
  refine g_aload_n (i := 0) dd_120_54 rfl ?_
  refine g_getfield (k := 5) am_ck11 (by decide) (Or.inl w_516) dd_120_55 q0g x5g ?_
  refine g_aload_n (i := 0) dd_120_58 rfl ?_
  refine g_getfield (k := 8) am_ck11 (by decide) (Or.inl w_519) dd_120_59 q0g x8g ?_
  refine g_getfield (k := 5) am_ck10 (by decide) (Or.inr ⟨_, w_176⟩) dd_120_62 q40g t5g ?_
  refine g_virtual (M' := mi_57) (n := 1) (ci := 2) (b := 30) (as := [.retAddr se]) (st := []) (r1 := (some (.retAddr cse), g)) w_608 w_609 w_610 ⟨lk_57.1, lk_57.2.1, lk_57.2.2, by decide, by decide⟩ rfl q30g rfl (by simp [Value.category]) dd_120_65 (e2) ?_
  show am_Good mi_120 68 [some (.ref 0), some (.retAddr set), some (.retAddr acc), some (.retAddr k), some (.retAddr s)] [.retAddr cse] g _
  refine g_iload_n (i := 1) dd_120_68 rfl ?_
  refine g_icmp_ne_f (t := 83) dd_120_69 (by decide) (tk_ne_f (by omega)) ?_
  refine g_iload_n (i := 2) dd_120_72 rfl ?_
  refine g_iconst dd_120_73 ic_1 ?_
  refine g_iconst dd_120_74 ic_4 ?_
  refine g_iload_n (i := 3) dd_120_75 rfl ?_
  refine e_imul (v := 4 * k) dd_120_76 (by omega) ?_
  refine g_iload dd_120_77 rfl ?_
  refine e_iadd (v := 4 * k + s) dd_120_79 (by omega) ?_
  refine e_ishl (v := 2 ^ (4 * k + s)) dd_120_80 (sh_b (by omega)) ?_
  refine e_ior (v := acc ||| 2 ^ (4 * k + s)) dd_120_81 rfl ?_
  refine g_istore_n (i := 2) dd_120_82 (am_nlb_ok rfl) (by decide) ?_
  refine e_iinc (v := 1) (w := s + 1) dd_120_83 rfl ic_1 (am_nlb_ok rfl) (by decide) (by omega) ?_
  refine g_goto (t := 21) dd_120_86 (by decide) ?_
  exact hg
theorem ftx_n {h g : am_H} {r : am_R} {E a0 n se cse set acc k s : Nat} {v0 : List Value} (q0 : am_get h 0 = some (.inr (11, v0))) (x3 : v0[3]? = some (.ref E)) (x5 : v0[5]? = some (.ref 30)) (x6 : v0[6]? = some (.ref 32)) (x8 : v0[8]? = some (.ref 40)) {vE w0 : List Value} (qE : am_get h E = some (.inr (1, vE))) (e0 : vE[0]? = some (.ref a0)) (r0 : am_get h a0 = some (.inr (8, w0))) (s0 : w0[3]? = some (.retAddr n)) {v40 : List Value} (q40 : am_get h 40 = some (.inr (10, v40))) {v0g : List Value} (q0g : am_get g 0 = some (.inr (11, v0g))) (x3g : v0g[3]? = some (.ref E)) (x5g : v0g[5]? = some (.ref 30)) (x6g : v0g[6]? = some (.ref 32)) (x8g : v0g[8]? = some (.ref 40)) {v40g : List Value} (q40g : am_get g 40 = some (.inr (10, v40g))) (t5g : v40g[5]? = some (.retAddr se)) {v30g : List Value} (q30g : am_get g 30 = some (.inr (2, v30g))) (hn : n ≤ 4) (hs : s < n) (hk : k ≤ 3) (hset : set < 256) (hcse : cse < 256) (e1 : am_EG mi_71 [.ref 40, .ref E, .ref 32, .retAddr k, .retAddr s] h (none, g)) (e2 : am_EG mi_57 [.ref 30, .retAddr se] g (some (.retAddr cse), g)) (hc : cse ≠ set) (hg : am_Good mi_120 21 [some (.ref 0), some (.retAddr set), some (.retAddr acc), some (.retAddr k), some (.retAddr (s + 1))] [] g r) : am_Good mi_120 21 [some (.ref 0), some (.retAddr set), some (.retAddr acc), some (.retAddr k), some (.retAddr s)] [] h r := by
  refine g_iload dd_120_21 rfl ?_
  refine g_aload_n (i := 0) dd_120_23 rfl ?_
  refine g_getfield (k := 3) am_ck11 (by decide) (Or.inl w_514) dd_120_24 q0 x3 ?_
  refine g_getfield (k := 0) am_ck1 (by decide) (Or.inr ⟨_, w_84⟩) dd_120_27 qE e0 ?_
  refine g_getfield (k := 3) am_ck8 (by decide) (Or.inr ⟨_, w_67⟩) dd_120_30 r0 s0 ?_
  refine g_icmp_ge_f (t := 89) dd_120_33 (by decide) (by first | exact sk_ge_f (by omega) (by omega) | exact tk_ge_f (by omega)) ?_
  refine g_aload_n (i := 0) dd_120_36 rfl ?_
  refine g_getfield (k := 8) am_ck11 (by decide) (Or.inl w_519) dd_120_37 q0 x8 ?_
  refine g_aload_n (i := 0) dd_120_40 rfl ?_
  refine g_getfield (k := 3) am_ck11 (by decide) (Or.inl w_514) dd_120_41 q0 x3 ?_
  refine g_aload_n (i := 0) dd_120_44 rfl ?_
  refine g_getfield (k := 6) am_ck11 (by decide) (Or.inl w_517) dd_120_45 q0 x6 ?_
  refine g_iload_n (i := 3) dd_120_48 rfl ?_
  refine g_iload dd_120_49 rfl ?_
  refine g_virtual (M' := mi_71) (n := 4) (ci := 10) (b := 40) (as := [.ref E, .ref 32, .retAddr k, .retAddr s]) (st := []) (r1 := (none, g)) w_667 w_668 w_669 ⟨lk_71.1, lk_71.2.1, lk_71.2.2, by decide, by decide⟩ rfl q40 rfl (by simp [Value.category]) dd_120_51 (e1) ?_
  show am_Good mi_120 54 [some (.ref 0), some (.retAddr set), some (.retAddr acc), some (.retAddr k), some (.retAddr s)] [] g _
  refine g_aload_n (i := 0) dd_120_54 rfl ?_
  refine g_getfield (k := 5) am_ck11 (by decide) (Or.inl w_516) dd_120_55 q0g x5g ?_
  refine g_aload_n (i := 0) dd_120_58 rfl ?_
  refine g_getfield (k := 8) am_ck11 (by decide) (Or.inl w_519) dd_120_59 q0g x8g ?_
  refine g_getfield (k := 5) am_ck10 (by decide) (Or.inr ⟨_, w_176⟩) dd_120_62 q40g t5g ?_
  refine g_virtual (M' := mi_57) (n := 1) (ci := 2) (b := 30) (as := [.retAddr se]) (st := []) (r1 := (some (.retAddr cse), g)) w_608 w_609 w_610 ⟨lk_57.1, lk_57.2.1, lk_57.2.2, by decide, by decide⟩ rfl q30g rfl (by simp [Value.category]) dd_120_65 (e2) ?_
  show am_Good mi_120 68 [some (.ref 0), some (.retAddr set), some (.retAddr acc), some (.retAddr k), some (.retAddr s)] [.retAddr cse] g _
  refine g_iload_n (i := 1) dd_120_68 rfl ?_
  refine g_icmp_ne_t (t := 83) dd_120_69 (by decide) (tk_ne_t (by omega)) ?_
  refine e_iinc (v := 1) (w := s + 1) dd_120_83 rfl ic_1 (am_nlb_ok rfl) (by decide) (by omega) ?_
  refine g_goto (t := 21) dd_120_86 (by decide) ?_
  exact hg
theorem ftx_a {h : am_H} {r : am_R} {E a0 n set acc k : Nat} {v0 : List Value} (q0 : am_get h 0 = some (.inr (11, v0))) (x3 : v0[3]? = some (.ref E)) (x5 : v0[5]? = some (.ref 30)) (x6 : v0[6]? = some (.ref 32)) (x8 : v0[8]? = some (.ref 40)) {vE w0 : List Value} (qE : am_get h E = some (.inr (1, vE))) (e0 : vE[0]? = some (.ref a0)) (r0 : am_get h a0 = some (.inr (8, w0))) (s0 : w0[3]? = some (.retAddr n)) (hn : n ≤ 4) (hk : k ≤ 3) (hg : am_Good mi_120 13 [some (.ref 0), some (.retAddr set), some (.retAddr acc), some (.retAddr (k + 1)), some (.retAddr n)] [] h r) : am_Good mi_120 21 [some (.ref 0), some (.retAddr set), some (.retAddr acc), some (.retAddr k), some (.retAddr n)] [] h r := by
  refine g_iload dd_120_21 rfl ?_
  refine g_aload_n (i := 0) dd_120_23 rfl ?_
  refine g_getfield (k := 3) am_ck11 (by decide) (Or.inl w_514) dd_120_24 q0 x3 ?_
  refine g_getfield (k := 0) am_ck1 (by decide) (Or.inr ⟨_, w_84⟩) dd_120_27 qE e0 ?_
  refine g_getfield (k := 3) am_ck8 (by decide) (Or.inr ⟨_, w_67⟩) dd_120_30 r0 s0 ?_
  refine g_icmp_ge_t (t := 89) dd_120_33 (by decide) (by first | exact sk_ge_t (by omega) (by omega) | exact tk_ge_t (by omega)) ?_
  refine e_iinc (v := 1) (w := k + 1) dd_120_89 rfl ic_1 (am_nlb_ok rfl) (by decide) (by omega) ?_
  refine g_goto (t := 13) dd_120_92 (by decide) ?_
  exact hg
theorem ftx_b {h : am_H} {r : am_R} {set acc k : Nat} {v4 : Option Value} (hk : k ≤ 3) (hg : am_Good mi_120 21 [some (.ref 0), some (.retAddr set), some (.retAddr acc), some (.retAddr k), some (.retAddr 0)] [] h r) : am_Good mi_120 13 [some (.ref 0), some (.retAddr set), some (.retAddr acc), some (.retAddr k), v4] [] h r := by
  refine g_iload_n (i := 3) dd_120_13 rfl ?_
  refine g_iconst dd_120_14 ic_4 ?_
  refine g_icmp_ge_f (t := 95) dd_120_15 (by decide) (by first | exact sk_ge_f (by omega) (by omega) | exact tk_ge_f (by omega)) ?_
  refine g_iconst dd_120_18 ic_0 ?_
  refine g_istore dd_120_19 (am_nlb_ok rfl) (by decide) ?_
  exact hg
theorem ftx_c {h : am_H} {set acc : Nat} {v4 : Option Value} : am_Good mi_120 13 [some (.ref 0), some (.retAddr set), some (.retAddr acc), some (.retAddr 4), v4] [] h (some (.retAddr acc), h) := by
  refine g_iload_n (i := 3) dd_120_13 rfl ?_
  refine g_iconst dd_120_14 ic_4 ?_
  refine g_icmp_ge_t (t := 95) dd_120_15 (by decide) (by decide) ?_
  refine g_iload_n (i := 2) dd_120_95 rfl ?_
  exact g_ireturn rfl dd_120_96
theorem ftx_d {h : am_H} {r : am_R} {set : Nat} (hs : set < 256) (hg : am_Good mi_120 13 [some (.ref 0), some (.retAddr set), some (.retAddr 0), some (.retAddr 0), none] [] h r) : am_EG mi_120 [.ref 0, .retAddr set] h r := by
  refine am_enter (n := 3) tk_120.2.1 (by simp [Value.category]) (Nat.le_of_ble_eq_true rfl) ?_
  show am_Good mi_120 0 [some (.ref 0), some (.retAddr set), none, none, none] [] h _
  refine g_iload_n (i := 1) dd_120_0 rfl ?_
  refine g_static (M' := mi_56) (n := 1) (as := [.retAddr set]) (st := []) (r1 := (some (.retAddr 1), h)) w_605 w_606 ⟨lk_56.1, lk_56.2.1, lk_56.2.2, by decide, by decide⟩ rfl (by simp [Value.category]) dd_120_1 (kn_is1 hs) ?_
  show am_Good mi_120 4 [some (.ref 0), some (.retAddr set), none, none, none] [.retAddr 1] h _
  refine g_if_ne_t (t := 9) dd_120_4 (by decide) (by decide) ?_
  refine g_iconst dd_120_9 ic_0 ?_
  refine g_istore_n (i := 2) dd_120_10 (am_nlb_ok rfl) (by decide) ?_
  refine g_iconst dd_120_11 ic_0 ?_
  refine g_istore_n (i := 3) dd_120_12 (am_nlb_ok rfl) (by decide) ?_
  exact hg
theorem ftx_0 {h : am_H} {set : Nat} (hs : ¬ set < 256) (hs2 : set < 4294967296) : am_EG mi_120 [.ref 0, .retAddr set] h (some (.retAddr 4294967295), h) := by
  refine am_enter (n := 3) tk_120.2.1 (by simp [Value.category]) (Nat.le_of_ble_eq_true rfl) ?_
  show am_Good mi_120 0 [some (.ref 0), some (.retAddr set), none, none, none] [] h _
  refine g_iload_n (i := 1) dd_120_0 rfl ?_
  refine g_static (M' := mi_56) (n := 1) (as := [.retAddr set]) (st := []) (r1 := (some (.retAddr 0), h)) w_605 w_606 ⟨lk_56.1, lk_56.2.1, lk_56.2.2, by decide, by decide⟩ rfl (by simp [Value.category]) dd_120_1 (kn_is0 hs hs2) ?_
  show am_Good mi_120 4 [some (.ref 0), some (.retAddr set), none, none, none] [.retAddr 0] h _
  refine g_if_ne_f (t := 9) dd_120_4 (by decide) (by decide) ?_
  refine g_iconst dd_120_7 ic_m1 ?_
  exact g_ireturn rfl dd_120_8
theorem ftm_y {h g : am_H} {r : am_R} {n se cse set acc k s : Nat} {vs : List Value} (q66 : am_get h 66 = some (.inr (12, vs))) (f2 : vs[2]? = some (.retAddr n)) {vsg : List Value} (q66g : am_get g 66 = some (.inr (12, vsg))) (f37g : vsg[37]? = some (.retAddr se)) (hn : n ≤ 4) (hs : s < n) (hk : k ≤ 3) (hset : set < 256) (hcse : cse < 256) (e1 : am_EG mi_166 [.ref 66, .retAddr k, .retAddr s] h (none, g)) (e2 : am_EG mi_162 [.ref 66, .retAddr se] g (some (.retAddr cse), g)) (hc : cse = set) (hg : am_Good mi_203 28 [some (.ref 66), some (.retAddr set), some (.retAddr (acc ||| 2 ^ (4 * k + s))), some (.retAddr k), some (.retAddr (s + 1))] [] g r) : am_Good mi_203 28 [some (.ref 66), some (.retAddr set), some (.retAddr acc), some (.retAddr k), some (.retAddr s)] [] h r := by
  refine g_iload dd_203_28 rfl ?_
  refine g_aload_n (i := 0) dd_203_30 rfl ?_
  refine g_getfield (k := 2) am_ck12 (by decide) (Or.inl w_937) dd_203_31 q66 f2 ?_
  refine g_icmp_ge_f (t := 77) dd_203_34 (by decide) (by first | exact sk_ge_f (by omega) (by omega) | exact tk_ge_f (by omega)) ?_
  refine g_aload_n (i := 0) dd_203_37 rfl ?_
  refine g_iload_n (i := 3) dd_203_38 rfl ?_
  refine g_iload dd_203_39 rfl ?_
  refine g_virtual (M' := mi_166) (n := 2) (ci := 12) (b := 66) (as := [.retAddr k, .retAddr s]) (st := []) (r1 := (none, g)) w_1234 w_1236 ps_166 ⟨lk_166.1, lk_166.2.1, lk_166.2.2, by decide, by decide⟩ rfl q66 rfl (by simp [Value.category]) dd_203_41 (e1) ?_
  show am_Good mi_203 44 [some (.ref 66), some (.retAddr set), some (.retAddr acc), some (.retAddr k), some (.retAddr s)] [] g _
  refine g_iload_n (i := 2) dd_203_44 rfl ?_
  refine g_aload_n (i := 0) dd_203_45 rfl ?_
  refine g_aload_n (i := 0) dd_203_46 rfl ?_
  refine g_getfield (k := 37) am_ck12 (by decide) (Or.inl w_972) dd_203_47 q66g f37g ?_
  refine g_virtual (M' := mi_162) (n := 1) (ci := 12) (b := 66) (as := [.retAddr se]) (st := [.retAddr acc]) (r1 := (some (.retAddr cse), g)) w_1218 w_1220 ps_162 ⟨lk_162.1, lk_162.2.1, lk_162.2.2, by decide, by decide⟩ rfl q66g rfl (by simp [Value.category]) dd_203_50 (e2) ?_
  show am_Good mi_203 53 [some (.ref 66), some (.retAddr set), some (.retAddr acc), some (.retAddr k), some (.retAddr s)] [.retAddr cse, .retAddr acc] g _
  refine g_iload_n (i := 1) dd_203_53 rfl ?_
  refine g_icmp_ne_f (t := 68) dd_203_54 (by decide) (tk_ne_f (by omega)) ?_
  refine g_iconst dd_203_57 ic_1 ?_
  refine g_iconst dd_203_58 ic_4 ?_
  refine g_iload_n (i := 3) dd_203_59 rfl ?_
  refine e_imul (v := 4 * k) dd_203_60 (by omega) ?_
  refine g_iload dd_203_61 rfl ?_
  refine e_iadd (v := 4 * k + s) dd_203_63 (by omega) ?_
  refine e_ishl (v := 2 ^ (4 * k + s)) dd_203_64 (sh_b (by omega)) ?_
  refine g_goto (t := 69) dd_203_65 (by decide) ?_
  refine e_ior (v := acc ||| 2 ^ (4 * k + s)) dd_203_69 rfl ?_
  refine g_istore_n (i := 2) dd_203_70 (am_nlb_ok rfl) (by decide) ?_
  refine e_iinc (v := 1) (w := s + 1) dd_203_71 rfl ic_1 (am_nlb_ok rfl) (by decide) (by omega) ?_
  refine g_goto (t := 28) dd_203_74 (by decide) ?_
  exact hg
theorem ftm_n {h g : am_H} {r : am_R} {n se cse set acc k s : Nat} {vs : List Value} (q66 : am_get h 66 = some (.inr (12, vs))) (f2 : vs[2]? = some (.retAddr n)) {vsg : List Value} (q66g : am_get g 66 = some (.inr (12, vsg))) (f37g : vsg[37]? = some (.retAddr se)) (hn : n ≤ 4) (hs : s < n) (hk : k ≤ 3) (hset : set < 256) (hcse : cse < 256) (e1 : am_EG mi_166 [.ref 66, .retAddr k, .retAddr s] h (none, g)) (e2 : am_EG mi_162 [.ref 66, .retAddr se] g (some (.retAddr cse), g)) (hc : cse ≠ set) (hg : am_Good mi_203 28 [some (.ref 66), some (.retAddr set), some (.retAddr acc), some (.retAddr k), some (.retAddr (s + 1))] [] g r) : am_Good mi_203 28 [some (.ref 66), some (.retAddr set), some (.retAddr acc), some (.retAddr k), some (.retAddr s)] [] h r := by
  refine g_iload dd_203_28 rfl ?_
  refine g_aload_n (i := 0) dd_203_30 rfl ?_
  refine g_getfield (k := 2) am_ck12 (by decide) (Or.inl w_937) dd_203_31 q66 f2 ?_
  refine g_icmp_ge_f (t := 77) dd_203_34 (by decide) (by first | exact sk_ge_f (by omega) (by omega) | exact tk_ge_f (by omega)) ?_
  refine g_aload_n (i := 0) dd_203_37 rfl ?_
  refine g_iload_n (i := 3) dd_203_38 rfl ?_
  refine g_iload dd_203_39 rfl ?_
  refine g_virtual (M' := mi_166) (n := 2) (ci := 12) (b := 66) (as := [.retAddr k, .retAddr s]) (st := []) (r1 := (none, g)) w_1234 w_1236 ps_166 ⟨lk_166.1, lk_166.2.1, lk_166.2.2, by decide, by decide⟩ rfl q66 rfl (by simp [Value.category]) dd_203_41 (e1) ?_
  show am_Good mi_203 44 [some (.ref 66), some (.retAddr set), some (.retAddr acc), some (.retAddr k), some (.retAddr s)] [] g _
  refine g_iload_n (i := 2) dd_203_44 rfl ?_
  refine g_aload_n (i := 0) dd_203_45 rfl ?_
  refine g_aload_n (i := 0) dd_203_46 rfl ?_
  refine g_getfield (k := 37) am_ck12 (by decide) (Or.inl w_972) dd_203_47 q66g f37g ?_
  refine g_virtual (M' := mi_162) (n := 1) (ci := 12) (b := 66) (as := [.retAddr se]) (st := [.retAddr acc]) (r1 := (some (.retAddr cse), g)) w_1218 w_1220 ps_162 ⟨lk_162.1, lk_162.2.1, lk_162.2.2, by decide, by decide⟩ rfl q66g rfl (by simp [Value.category]) dd_203_50 (e2) ?_
  show am_Good mi_203 53 [some (.ref 66), some (.retAddr set), some (.retAddr acc), some (.retAddr k), some (.retAddr s)] [.retAddr cse, .retAddr acc] g _
  refine g_iload_n (i := 1) dd_203_53 rfl ?_
  refine g_icmp_ne_t (t := 68) dd_203_54 (by decide) (tk_ne_t (by omega)) ?_
  refine g_iconst dd_203_68 ic_0 ?_
  refine e_ior (v := acc) dd_203_69 (Nat.or_zero acc) ?_
  refine g_istore_n (i := 2) dd_203_70 (am_nlb_ok rfl) (by decide) ?_
  refine e_iinc (v := 1) (w := s + 1) dd_203_71 rfl ic_1 (am_nlb_ok rfl) (by decide) (by omega) ?_
  refine g_goto (t := 28) dd_203_74 (by decide) ?_
  exact hg
theorem ftm_a {h : am_H} {r : am_R} {n set acc k : Nat} {vs : List Value} (q66 : am_get h 66 = some (.inr (12, vs))) (f2 : vs[2]? = some (.retAddr n)) (hn : n ≤ 4) (hk : k ≤ 3) (hg : am_Good mi_203 20 [some (.ref 66), some (.retAddr set), some (.retAddr acc), some (.retAddr (k + 1)), some (.retAddr n)] [] h r) : am_Good mi_203 28 [some (.ref 66), some (.retAddr set), some (.retAddr acc), some (.retAddr k), some (.retAddr n)] [] h r := by
  refine g_iload dd_203_28 rfl ?_
  refine g_aload_n (i := 0) dd_203_30 rfl ?_
  refine g_getfield (k := 2) am_ck12 (by decide) (Or.inl w_937) dd_203_31 q66 f2 ?_
  refine g_icmp_ge_t (t := 77) dd_203_34 (by decide) (by first | exact sk_ge_t (by omega) (by omega) | exact tk_ge_t (by omega)) ?_
  refine e_iinc (v := 1) (w := k + 1) dd_203_77 rfl ic_1 (am_nlb_ok rfl) (by decide) (by omega) ?_
  refine g_goto (t := 20) dd_203_80 (by decide) ?_
  exact hg
theorem ftm_b {h : am_H} {r : am_R} {set acc k : Nat} {v4 : Option Value} (hk : k ≤ 3) (hg : am_Good mi_203 28 [some (.ref 66), some (.retAddr set), some (.retAddr acc), some (.retAddr k), some (.retAddr 0)] [] h r) : am_Good mi_203 20 [some (.ref 66), some (.retAddr set), some (.retAddr acc), some (.retAddr k), v4] [] h r := by
  refine g_iload_n (i := 3) dd_203_20 rfl ?_
  refine g_iconst dd_203_21 ic_3 ?_
  refine g_icmp_gt_f (t := 83) dd_203_22 (by decide) (by first | exact sk_gt_f (by omega) (by omega) | exact tk_gt_f (by omega)) ?_
  refine g_iconst dd_203_25 ic_0 ?_
  refine g_istore dd_203_26 (am_nlb_ok rfl) (by decide) ?_
  exact hg
theorem ftm_c {h : am_H} {set acc : Nat} {v4 : Option Value} : am_Good mi_203 20 [some (.ref 66), some (.retAddr set), some (.retAddr acc), some (.retAddr 4), v4] [] h (some (.retAddr acc), h) := by
  refine g_iload_n (i := 3) dd_203_20 rfl ?_
  refine g_iconst dd_203_21 ic_3 ?_
  refine g_icmp_gt_t (t := 83) dd_203_22 (by decide) (by decide) ?_
  refine g_iload_n (i := 2) dd_203_83 rfl ?_
  exact g_ireturn rfl dd_203_84
theorem ftm_d {h g : am_H} {r : am_R} {set : Nat} {vs : List Value} (q66 : am_get h 66 = some (.inr (12, vs))) {vsg : List Value} (q66g : am_get g 66 = some (.inr (12, vsg))) (hs : set < 256) (e1 : am_EG mi_155 [.ref 66, .retAddr 0, .retAddr 4294967292] h (none, g)) (hg : am_Good mi_203 20 [some (.ref 66), some (.retAddr set), some (.retAddr 0), some (.retAddr 0), none] [] g r) : am_EG mi_203 [.ref 66, .retAddr set] h r := by
  refine am_enter (n := 3) tk_203.2.1 (by simp [Value.category]) (Nat.le_of_ble_eq_true rfl) ?_
  show am_Good mi_203 0 [some (.ref 66), some (.retAddr set), none, none, none] [] h _
  refine g_iload_n (i := 1) dd_203_0 rfl ?_
  refine g_static (M' := mi_161) (n := 1) (as := [.retAddr set]) (st := []) (r1 := (some (.retAddr 1), h)) w_1215 w_1216 ⟨lk_161.1, lk_161.2.1, lk_161.2.2, by decide, by decide⟩ rfl (by simp [Value.category]) dd_203_1 (kn_ms1 hs) ?_
  show am_Good mi_203 4 [some (.ref 66), some (.retAddr set), none, none, none] [.retAddr 1] h _
  refine g_if_ne_t (t := 9) dd_203_4 (by decide) (by decide) ?_
  refine g_aload_n (i := 0) dd_203_9 rfl ?_
  refine g_iconst dd_203_10 ic_0 ?_
  refine g_bipush dd_203_11 bi_m4 ?_
  refine g_virtual (M' := mi_155) (n := 2) (ci := 12) (b := 66) (as := [.retAddr 0, .retAddr 4294967292]) (st := []) (r1 := (none, g)) w_1192 w_1194 ps_155 ⟨lk_155.1, lk_155.2.1, lk_155.2.2, by decide, by decide⟩ rfl q66 rfl (by simp [Value.category]) dd_203_13 (e1) ?_
  show am_Good mi_203 16 [some (.ref 66), some (.retAddr set), none, none, none] [] g _
  refine g_iconst dd_203_16 ic_0 ?_
  refine g_istore_n (i := 2) dd_203_17 (am_nlb_ok rfl) (by decide) ?_
  refine g_iconst dd_203_18 ic_0 ?_
  refine g_istore_n (i := 3) dd_203_19 (am_nlb_ok rfl) (by decide) ?_
  exact hg
theorem ftm_0 {h : am_H} {set : Nat} (hs : ¬ set < 256) (hs2 : set < 4294967296) : am_EG mi_203 [.ref 66, .retAddr set] h (some (.retAddr 4294967295), h) := by
  refine am_enter (n := 3) tk_203.2.1 (by simp [Value.category]) (Nat.le_of_ble_eq_true rfl) ?_
  show am_Good mi_203 0 [some (.ref 66), some (.retAddr set), none, none, none] [] h _
  refine g_iload_n (i := 1) dd_203_0 rfl ?_
  refine g_static (M' := mi_161) (n := 1) (as := [.retAddr set]) (st := []) (r1 := (some (.retAddr 0), h)) w_1215 w_1216 ⟨lk_161.1, lk_161.2.1, lk_161.2.2, by decide, by decide⟩ rfl (by simp [Value.category]) dd_203_1 (kn_ms0 hs hs2) ?_
  show am_Good mi_203 4 [some (.ref 66), some (.retAddr set), none, none, none] [.retAddr 0] h _
  refine g_if_ne_f (t := 9) dd_203_4 (by decide) (by decide) ?_
  refine g_iconst dd_203_7 ic_m1 ?_
  exact g_ireturn rfl dd_203_8
/-- who would know just that set -/
def ft_p (mi go : Nat) (Z Y : Nat → Nat) (set k s : Nat) : Bool := Nat.beq (cl_k (Y 4) (Z 4) 6 (wkA Z Y 0 4294967292 go mi k s).2.2.2.1) set
def ft_o (mi go : Nat) (Z Y : Nat → Nat) (set : Nat) : Nat → Nat
  | 0 => 0
  | k + 1 => bs_i (ft_p mi go Z Y set k) (4 * k) (ft_o mi go Z Y set k) (Z 0)
theorem fvg {g : am_H} {a ci k : Nat} {vs : List Value} {v : Value} (a1 : am_get g a = some (.inr (ci, vs))) (e : ax_fv g a k = some v) : vs[k]? = some v := by
  unfold ax_fv at e
  rw [a1] at e
  exact e
theorem je_40 {h : am_H} (hJ : jv_I h) : ∃ v40, am_get h 40 = some (.inr (10, v40)) := by
  rcases hJ.1 with q | q
  · exact ⟨_, ow0_c40 q⟩
  · exact ⟨_, ow1_c40 q⟩
theorem ftx_l {E mi go set k acc : Nat} {Z X Y : Nat → Nat} (hset : set < 256) (hk : k ≤ 3) : ∀ (f s : Nat) (h : am_H), s + f = Z 0 → Jv h → je_A h E mi go Z X Y → ∃ g, Jv g ∧ je_A g E mi go Z X Y ∧ (g.1 = h.1 ∧ g.2.1 = h.2.1) ∧ ∀ r, am_Good mi_120 13 [some (.ref 0), some (.retAddr set), some (.retAddr (bs_i (ft_p mi go Z Y set k) (4 * k) acc (Z 0))), some (.retAddr (k + 1)), some (.retAddr (Z 0))] [] g r → am_Good mi_120 21 [some (.ref 0), some (.retAddr set), some (.retAddr (bs_i (ft_p mi go Z Y set k) (4 * k) acc s)), some (.retAddr k), some (.retAddr s)] [] h r
  | 0, s, h, e, hJ, hA => by
    have e' : s = Z 0 := by omega
    subst e'
    obtain ⟨v0, q0, x3, x5, x6, -, x8, -, -, qE, r0, -, -, -, -, -, -⟩ := je_xo hA
    have z0 : Z 0 ≤ 4 := hA.2.2.2.1.2.1 0 (by decide)
    exact ⟨h, hJ, hA, ⟨rfl, rfl⟩, fun r hg => ftx_a q0 x3 x5 x6 x8 qE rfl r0 rfl z0 hk hg⟩
  | f + 1, s, h, e, hJ, hA => by
    obtain ⟨v0, q0, x3, x5, x6, -, x8, -, -, qE, r0, -, -, -, -, -, -⟩ := je_xo hA
    have hP := hA.2.2.2.1
    have z0 : Z 0 ≤ 4 := hP.2.1 0 (by decide)
    have hBY : je_B Z Y := je_bY hP.2.1 hP.2.2.1
    obtain ⟨v40, q40⟩ := je_40 hJ.1
    obtain ⟨g, e1, J, A, sz, ⟨-, t5, -⟩, -⟩ := fk_q hJ hA (Or.inl ⟨rfl, rfl, rfl, rfl⟩) (scR_32 hA) hk (own := s) (by omega)
    obtain ⟨u0, p0, y3, y5, y6, -, y8, -, -, -, -, -, -, -, -, -, p30⟩ := je_xo A
    obtain ⟨u40, p40⟩ := je_40 J.1
    have b4 : (wkA Z Y 0 4294967292 go mi k s).2.2.2.1 < 256 := Nat.lt_succ_of_le (wkA_b (come := 0) (wo := 4294967292) (kind := k) (own := s) hBY (by omega) hP.1.2.2.1 hP.1.2.1).2.2.2.1
    have e2 := (cl_q J A).1 _ b4
    have c256 := cl_k256 hP b4
    obtain ⟨g', J', A', sz', hG⟩ := ftx_l hset hk f (s + 1) g (by omega) J A
    refine ⟨g', J', A', ⟨sz'.1.trans sz.1, sz'.2.trans sz.2⟩, fun r hg => ?_⟩
    have q := hG r hg
    have hb : bs_i (ft_p mi go Z Y set k) (4 * k) acc (s + 1) = if ft_p mi go Z Y set k s = true then bs_i (ft_p mi go Z Y set k) (4 * k) acc s ||| 2 ^ (4 * k + s) else bs_i (ft_p mi go Z Y set k) (4 * k) acc s := rfl
    rw [hb] at q
    by_cases hc : cl_k (Y 4) (Z 4) 6 (wkA Z Y 0 4294967292 go mi k s).2.2.2.1 = set
    · rw [if_pos (show ft_p mi go Z Y set k s = true from by unfold ft_p; rw [hc]; exact Nat.beq_refl set)] at q
      exact ftx_y q0 x3 x5 x6 x8 qE rfl r0 rfl q40 p0 y3 y5 y6 y8 p40 (fvg p40 t5) p30 z0 (by omega) hk hset c256 e1 e2 hc q
    · rw [if_neg (show ¬ ft_p mi go Z Y set k s = true from fun a => hc (Nat.eq_of_beq_eq_true a))] at q
      exact ftx_n q0 x3 x5 x6 x8 qE rfl r0 rfl q40 p0 y3 y5 y6 y8 p40 (fvg p40 t5) p30 z0 (by omega) hk hset c256 e1 e2 hc q
theorem ftx_o {E mi go set : Nat} {Z X Y : Nat → Nat} (hset : set < 256) : ∀ (f k : Nat) (h : am_H) (v4 : Option Value), k + f = 4 → Jv h → je_A h E mi go Z X Y → ∃ g, Jv g ∧ je_A g E mi go Z X Y ∧ (g.1 = h.1 ∧ g.2.1 = h.2.1) ∧ am_Good mi_120 13 [some (.ref 0), some (.retAddr set), some (.retAddr (ft_o mi go Z Y set k)), some (.retAddr k), v4] [] h (some (.retAddr (ft_o mi go Z Y set 4)), g)
  | 0, k, h, v4, e, hJ, hA => by
    have e' : k = 4 := by omega
    subst e'
    exact ⟨h, hJ, hA, ⟨rfl, rfl⟩, ftx_c⟩
  | f + 1, k, h, v4, e, hJ, hA => by
    obtain ⟨g, J, A, sz, hG⟩ := ftx_l (acc := ft_o mi go Z Y set k) hset (k := k) (by omega) (Z 0) 0 h (by omega) hJ hA
    obtain ⟨g', J', A', sz', hg⟩ := ftx_o hset f (k + 1) g (some (.retAddr (Z 0))) (by omega) J A
    exact ⟨g', J', A', ⟨sz'.1.trans sz.1, sz'.2.trans sz.2⟩, ftx_b (by omega) (hG _ hg)⟩
theorem ftm_l {E mi go set k acc : Nat} {Z X Y : Nat → Nat} (hset : set < 256) (hk : k ≤ 3) : ∀ (f s : Nat) (h : am_H), s + f = Z 0 → Jv h → je_A h E mi go Z X Y → msR h Z Y 0 4294967292 → ∃ g, Jv g ∧ je_A g E mi go Z X Y ∧ (g.1 = h.1 ∧ g.2.1 = h.2.1) ∧ msR g Z Y 0 4294967292 ∧ ∀ r, am_Good mi_203 20 [some (.ref 66), some (.retAddr set), some (.retAddr (bs_i (ft_p mi go Z Y set k) (4 * k) acc (Z 0))), some (.retAddr (k + 1)), some (.retAddr (Z 0))] [] g r → am_Good mi_203 28 [some (.ref 66), some (.retAddr set), some (.retAddr (bs_i (ft_p mi go Z Y set k) (4 * k) acc s)), some (.retAddr k), some (.retAddr s)] [] h r
  | 0, s, h, e, hJ, hA, hS => by
    have e' : s = Z 0 := by omega
    subst e'
    obtain ⟨vs, q66⟩ := jv_g66 hJ.1
    have z0 : Z 0 ≤ 4 := hA.2.2.2.1.2.1 0 (by decide)
    exact ⟨h, hJ, hA, ⟨rfl, rfl⟩, hS, fun r hg => ftm_a q66 (fvg q66 (hA.2.2.1.2.2 0 (by decide)).1) z0 hk hg⟩
  | f + 1, s, h, e, hJ, hA, hS => by
    obtain ⟨vs, q66⟩ := jv_g66 hJ.1
    have hP := hA.2.2.2.1
    have z0 : Z 0 ≤ 4 := hP.2.1 0 (by decide)
    have hBY : je_B Z Y := je_bY hP.2.1 hP.2.2.1
    obtain ⟨g, e1, J, A, sz, ⟨-, t5, -⟩, ⟨m1, m2, m3⟩⟩ := wt_q hJ hA hS hk (own := s) (by omega)
    obtain ⟨us, u66⟩ := jv_g66 J.1
    have hS' : msR g Z Y 0 4294967292 := by unfold msR; rw [m1, m2, m3]; exact hS
    have b4 : (wkA Z Y 0 4294967292 go mi k s).2.2.2.1 < 256 := Nat.lt_succ_of_le (wkA_b (come := 0) (wo := 4294967292) (kind := k) (own := s) hBY (by omega) hP.1.2.2.1 hP.1.2.1).2.2.2.1
    have e2 := (cl_q J A).2 _ b4
    have c256 := cl_k256 hP b4
    obtain ⟨g', J', A', sz', S', hG⟩ := ftm_l hset hk f (s + 1) g (by omega) J A hS'
    refine ⟨g', J', A', ⟨sz'.1.trans sz.1, sz'.2.trans sz.2⟩, S', fun r hg => ?_⟩
    have q := hG r hg
    have hb : bs_i (ft_p mi go Z Y set k) (4 * k) acc (s + 1) = if ft_p mi go Z Y set k s = true then bs_i (ft_p mi go Z Y set k) (4 * k) acc s ||| 2 ^ (4 * k + s) else bs_i (ft_p mi go Z Y set k) (4 * k) acc s := rfl
    rw [hb] at q
    by_cases hc : cl_k (Y 4) (Z 4) 6 (wkA Z Y 0 4294967292 go mi k s).2.2.2.1 = set
    · rw [if_pos (show ft_p mi go Z Y set k s = true from by unfold ft_p; rw [hc]; exact Nat.beq_refl set)] at q
      exact ftm_y q66 (fvg q66 (hA.2.2.1.2.2 0 (by decide)).1) u66 (fvg u66 t5) z0 (by omega) hk hset c256 e1 e2 hc q
    · rw [if_neg (show ¬ ft_p mi go Z Y set k s = true from fun a => hc (Nat.eq_of_beq_eq_true a))] at q
      exact ftm_n q66 (fvg q66 (hA.2.2.1.2.2 0 (by decide)).1) u66 (fvg u66 t5) z0 (by omega) hk hset c256 e1 e2 hc q
theorem ftm_o {E mi go set : Nat} {Z X Y : Nat → Nat} (hset : set < 256) : ∀ (f k : Nat) (h : am_H) (v4 : Option Value), k + f = 4 → Jv h → je_A h E mi go Z X Y → msR h Z Y 0 4294967292 → ∃ g, Jv g ∧ (g.1 = h.1 ∧ g.2.1 = h.2.1) ∧ am_Good mi_203 20 [some (.ref 66), some (.retAddr set), some (.retAddr (ft_o mi go Z Y set k)), some (.retAddr k), v4] [] h (some (.retAddr (ft_o mi go Z Y set 4)), g)
  | 0, k, h, v4, e, hJ, hA, hS => by
    have e' : k = 4 := by omega
    subst e'
    exact ⟨h, hJ, ⟨rfl, rfl⟩, ftm_c⟩
  | f + 1, k, h, v4, e, hJ, hA, hS => by
    obtain ⟨g, J, A, sz, S, hG⟩ := ftm_l (acc := ft_o mi go Z Y set k) hset (k := k) (by omega) (Z 0) 0 h (by omega) hJ hA hS
    obtain ⟨g', J', sz', hg⟩ := ftm_o hset f (k + 1) g (some (.retAddr (Z 0))) (by omega) J A S
    exact ⟨g', J', ⟨sz'.1.trans sz.1, sz'.2.trans sz.2⟩, ftm_b (by omega) (hG _ hg)⟩
theorem jb_fits (x : Nat) (hx : x < 4294967296) : am_B2 Jv true 120 203 [.retAddr x] := by
  intro h hJ
  by_cases hs : x < 256
  case neg => exact je_fin hJ (ftx_0 hs hx) (ftm_0 hs hx)
  obtain ⟨E, mi, go, Z, X, Y, hA⟩ := je_ex hJ
  obtain ⟨g, J, A, sz, e1⟩ := ftx_o (set := x) hs 4 0 h none (by omega) hJ hA
  obtain ⟨g1, a1, a2, a3, a4, a5⟩ := lc_x J A (come := 0) (wo := 4294967292) (by decide) (by decide)
  obtain ⟨g2, b1, b2, e2⟩ := ftm_o (set := x) hs 4 0 g1 none (by omega) a2 a3 a5
  obtain ⟨us, u66⟩ := jv_g66 J.1
  obtain ⟨ws, w66⟩ := jv_g66 a2.1
  exact ⟨_, g, _, g2, ftx_d hs e1, ftm_d u66 w66 hs a1 e2, fun _ => rfl, b1, jv_g0 hJ.1, ⟨us, u66⟩, sz, b2.1.trans a4.1, b2.2.trans a4.2⟩
