/-! ===== a night: both ===== -/
def wkG (fw ff : Nat → Nat → Nat) (fb : Nat → Nat → Bool) (n go mi kind own : Nat) : wkS := wk fw ff fb n go kind own mi
def wkQ (fw ff : Nat → Nat → Nat) (fb : Nat → Nat → Bool) (n go kind own t : Nat) : Nat := wk_p fw ff fb n go kind own t
theorem wkG_b {Z : Nat → Nat} {fw ff : Nat → Nat → Nat} {fb : Nat → Nat → Bool} (h9 : ∀ s t, s < Z 0 → fw s t ≤ 9) (h8 : ∀ s t, ff s t ≤ 8) {go mi kind own : Nat} (ho : own < Z 0) (hg : go ≤ 3) (hm : mi ≤ 60) : (wkG fw ff fb (Z 0) go mi kind own).1 < Z 0 ∧ (wkG fw ff fb (Z 0) go mi kind own).2.1 ≤ 62 ∧ (wkG fw ff fb (Z 0) go mi kind own).2.2.1 ≤ 5940 ∧ (wkG fw ff fb (Z 0) go mi kind own).2.2.2.1 ≤ 255 ∧ (wkG fw ff fb (Z 0) go mi kind own).2.2.2.2 ≤ 60 := by
  obtain ⟨i1, i2, i3, i4, i5⟩ := wk_inv (fw := fw) (ff := ff) (fb := fb) (n := Z 0) (kind := kind) (m := mi) (fun s t hs _ => Nat.le_trans (h9 s t hs) (by decide)) ho hg (Nat.le_refl mi)
  unfold wkG
  exact ⟨i1, by omega, by omega, by omega, by omega⟩
theorem wkQ_b {Z : Nat → Nat} {fw ff : Nat → Nat → Nat} {fb : Nat → Nat → Bool} (h9 : ∀ s t, s < Z 0 → fw s t ≤ 9) (h8 : ∀ s t, ff s t ≤ 8) {go kind own t : Nat} (ho : own < Z 0) (hg : go ≤ 3) : wkQ fw ff fb (Z 0) go kind own t < Z 0 ∨ wkQ fw ff fb (Z 0) go kind own t = 4294967292 := wk_p_c (m := t + 1) (fun s u hs _ => Nat.le_trans (h9 s u hs) (by decide)) ho hg (Nat.lt_succ_self t)

/-- the class follows a watcher on a screen -/
theorem fo_xG {h : am_H} (hJ : Jv h) {E mi go : Nat} {Z X Y : Nat → Nat} (hA : je_A h E mi go Z X Y) (hO : je_O Z Y) {fw ff : Nat → Nat → Nat} {fb : Nat → Nat → Bool} (h9 : ∀ s t, s < Z 0 → fw s t ≤ 9) (h8 : ∀ s t, ff s t ≤ 8) {q q1 q2 q3 W F B : Nat} (qS : ∀ W F B he fr wo se gn pl, W = rowv h 37 → F = rowv h 38 → B = rowv h 39 → am_get (xw h W F B he fr wo se gn pl) q = some (.inr (9, [.ref q1, .ref q2, .ref q3]))) (g1 : ∀ V G C he fr wo se gn pl, V = rowv h 37 → G = rowv h 38 → C = rowv h 39 → am_get (xw h V G C he fr wo se gn pl) q1 = some (.inl (0, 240, W)) ∧ am_get (xw h V G C he fr wo se gn pl) q2 = some (.inl (0, 240, F)) ∧ am_get (xw h V G C he fr wo se gn pl) q3 = some (.inl (0, 240, B))) (pt : ∀ s, s < Z 0 → ∀ t, t < mi → am_ag W (60 * s + t) = fw s t ∧ am_ag F (60 * s + t) = ff s t ∧ am_ag B (60 * s + t) = if fb s t = true then 1 else 0) {i : Nat} (hi : i < Z 5) : am_EG mi_60 [.ref 0, .retAddr i, .ref q] h (none, xw h (rowv h 37) (rowv h 38) (rowv h 39) (wkG fw ff fb (Z 0) go mi (am_ag (Y 5) (2 * i)) (am_ag (Y 5) (2 * i + 1))).1 (wkG fw ff fb (Z 0) go mi (am_ag (Y 5) (2 * i)) (am_ag (Y 5) (2 * i + 1))).2.1 (wkG fw ff fb (Z 0) go mi (am_ag (Y 5) (2 * i)) (am_ag (Y 5) (2 * i + 1))).2.2.1 (wkG fw ff fb (Z 0) go mi (am_ag (Y 5) (2 * i)) (am_ag (Y 5) (2 * i + 1))).2.2.2.1 (wkG fw ff fb (Z 0) go mi (am_ag (Y 5) (2 * i)) (am_ag (Y 5) (2 * i + 1))).2.2.2.2 (zf (wkQ fw ff fb (Z 0) go (am_ag (Y 5) (2 * i)) (am_ag (Y 5) (2 * i + 1))) (rowv h 41) mi)) := by
  obtain ⟨hH, own⟩ := xw_own hJ.1
  obtain ⟨v0, q0, x3, -, -, -, x8, -, -, qE, r0, -, r5, w5, -, -, -⟩ := je_xo hA
  obtain ⟨hI, -, -, hP, -⟩ := hA
  have hBY : je_B Z Y := je_bY hP.2.1 hP.2.2.1
  have z0 : Z 0 ≤ 4 := hP.2.1 0 (by decide)
  have z5 : Z 5 ≤ 4 := hP.2.1 5 (by decide)
  have ct := fun he fr w_ se gn pl => sc_ct (H := xw h (rowv h 37) (rowv h 38) (rowv h 39) he fr w_ se gn pl) (n := Z 0) (mi := mi) (fw := fw) (ff := ff) (fb := fb) (qS _ _ _ he fr w_ se gn pl rfl rfl rfl) (g1 _ _ _ he fr w_ se gn pl rfl rfl rfl).1 (g1 _ _ _ he fr w_ se gn pl rfl rfl rfl).2.1 (g1 _ _ _ he fr w_ se gn pl rfl rfl rfl).2.2 (fun s hs t ht => pt s hs t ht) z0 hP.1.2.1 (fun s t _ _ => h8 s t)
  have nk : am_lk [(37, am_e0), (38, am_e0), (39, am_e0), (40, am_e0), (41, am_e0)] E = none ∧ am_lk [(37, am_e0), (38, am_e0), (39, am_e0), (40, am_e0), (41, am_e0)] (E + 1) = none ∧ am_lk [(37, am_e0), (38, am_e0), (39, am_e0), (40, am_e0), (41, am_e0)] (E + 11) = none ∧ am_lk [(37, am_e0), (38, am_e0), (39, am_e0), (40, am_e0), (41, am_e0)] (E + 12) = none := by
    rcases hI with ⟨rfl, -⟩ | ⟨rfl, -⟩ <;> exact ⟨rfl, rfl, rfl, rfl⟩
  obtain ⟨t1, t2, t3⟩ := je_wt hP hi
  have e := fo_m (W := rowv h 37) (F := rowv h 38) (B := rowv h 39) (he := fldv h 40 2) (fr := fldv h 40 3) (wo := fldv h 40 4) (se := fldv h 40 5) (gn := fldv h 40 6) (pl := rowv h 41) hH nk.1 nk.2.1 nk.2.2.1 nk.2.2.2 q0 x3 x8 qE r0 r5 w5 z5 (fun j hj => by
      obtain ⟨u1, u2, u3⟩ := je_wt hP hj
      rw [u1, u2]
      exact ⟨u3, hO j hj⟩) (fun he fr w_ se gn pl => qS _ _ _ he fr w_ se gn pl rfl rfl rfl) (fun he fr w_ se gn pl => (ct he fr w_ se gn pl).1) (fun he fr w_ se gn pl => (ct he fr w_ se gn pl).2.1) (fun he fr w_ se gn pl => (ct he fr w_ se gn pl).2.2.1) (fun he fr w_ se gn pl => (ct he fr w_ se gn pl).2.2.2) z0 hP.1.2.1 hP.1.2.2.1 (fun s t hs _ => Nat.le_trans (h9 s t hs) (by decide)) (fun s t => fbt_lt _) hi
  rw [t1, t2] at e
  exact Eq.mp (congrArg (fun g => am_EG mi_60 [.ref 0, .retAddr i, .ref q] g (none, xw h (rowv h 37) (rowv h 38) (rowv h 39) (wkG fw ff fb (Z 0) go mi (am_ag (Y 5) (2 * i)) (am_ag (Y 5) (2 * i + 1))).1 (wkG fw ff fb (Z 0) go mi (am_ag (Y 5) (2 * i)) (am_ag (Y 5) (2 * i + 1))).2.1 (wkG fw ff fb (Z 0) go mi (am_ag (Y 5) (2 * i)) (am_ag (Y 5) (2 * i + 1))).2.2.1 (wkG fw ff fb (Z 0) go mi (am_ag (Y 5) (2 * i)) (am_ag (Y 5) (2 * i + 1))).2.2.2.1 (wkG fw ff fb (Z 0) go mi (am_ag (Y 5) (2 * i)) (am_ag (Y 5) (2 * i + 1))).2.2.2.2 (zf (wkQ fw ff fb (Z 0) go (am_ag (Y 5) (2 * i)) (am_ag (Y 5) (2 * i + 1))) (rowv h 41) mi))) own) e

/-- places behind a walk -/
theorem zf_wkG {Z : Nat → Nat} {fw ff : Nat → Nat → Nat} {fb : Nat → Nat → Bool} (h9 : ∀ s t, s < Z 0 → fw s t ≤ 9) (h8 : ∀ s t, ff s t ≤ 8) {go kind own x mi : Nat} (ho : own < Z 0) (z0 : Z 0 ≤ 4) (hg : go ≤ 3) : ∀ i, am_ag (zf (wkQ fw ff fb (Z 0) go kind own) x mi) i = if i < mi then wkQ fw ff fb (Z 0) go kind own i else am_ag x i := fun i => by
  rw [zf_ag]
  by_cases q : i < mi
  · rw [if_pos q, if_pos q]
    exact Nat.mod_eq_of_lt (by rcases wkQ_b (fb := fb) h9 h8 (kind := kind) (t := i) ho hg with r | r <;> omega)
  · rw [if_neg q, if_neg q]

/-- Jv behind a walk of the class -/
theorem fo_JvG {h : am_H} (hJ : Jv h) {Z : Nat → Nat} {fw ff : Nat → Nat → Nat} {fb : Nat → Nat → Bool} (h9 : ∀ s t, s < Z 0 → fw s t ≤ 9) (h8 : ∀ s t, ff s t ≤ 8) {go mi kind own : Nat} (ho : own < Z 0) (z0 : Z 0 ≤ 4) (hg : go ≤ 3) (hm : mi ≤ 60) : Jv (xw h (rowv h 37) (rowv h 38) (rowv h 39) (wkG fw ff fb (Z 0) go mi kind own).1 (wkG fw ff fb (Z 0) go mi kind own).2.1 (wkG fw ff fb (Z 0) go mi kind own).2.2.1 (wkG fw ff fb (Z 0) go mi kind own).2.2.2.1 (wkG fw ff fb (Z 0) go mi kind own).2.2.2.2 (zf (wkQ fw ff fb (Z 0) go kind own) (rowv h 41) mi)) := by
  obtain ⟨b1, b2, b3, b4, b5⟩ := wkG_b (fb := fb) h9 h8 (kind := kind) ho hg hm
  obtain ⟨r1, r2, r3⟩ := xw_rows hJ.1
  refine xw_Jv hJ r1 r2 r3 (by omega) (by omega) (by omega) (by omega) (by omega) (fun i hi => ?_)
  rw [zf_wkG (fb := fb) h9 h8 ho z0 hg]
  by_cases q : i < mi
  · rw [if_pos q]
    rcases wkQ_b (fb := fb) h9 h8 (kind := kind) (t := i) ho hg with r | r
    · exact Or.inl (by omega)
    · exact Or.inr r
  · rw [if_neg q]
    exact xw_pl hJ.1 i hi

/-- the reference follows a watcher on the case laid -/
theorem wf_xG {h : am_H} (hJ : Jv h) {E mi go : Nat} {Z X Y : Nat → Nat} (hA : je_A h E mi go Z X Y) (hO : je_O Z Y) {fw ff : Nat → Nat → Nat} {fb : Nat → Nat → Bool} (h9 : ∀ s t, s < Z 0 → fw s t ≤ 9) (h8 : ∀ s t, ff s t ≤ 8) (pt : ∀ s, s < Z 0 → ∀ t, t < mi → am_ag (rowv h 81) (64 * s + t) = fw s t ∧ am_ag (rowv h 82) (64 * s + t) = lc_8 (ff s t) ∧ am_ag (rowv h 83) (64 * s + t) = if fb s t = true then 1 else 0) {i : Nat} (hi : i < Z 5) : ∃ g, am_EG mi_165 [.ref 66, .retAddr i] h (none, g) ∧ Jv g ∧ je_A g E mi go Z X Y ∧ (g.1 = h.1 ∧ g.2.1 = h.2.1) ∧ (ax_fv g 66 36 = some (.retAddr (wkG fw ff fb (Z 0) go mi (am_ag (Y 5) (2 * i)) (am_ag (Y 5) (2 * i + 1))).2.2.1) ∧ ax_fv g 66 37 = some (.retAddr (wkG fw ff fb (Z 0) go mi (am_ag (Y 5) (2 * i)) (am_ag (Y 5) (2 * i + 1))).2.2.2.1) ∧ ax_fv g 66 38 = some (.retAddr (wkG fw ff fb (Z 0) go mi (am_ag (Y 5) (2 * i)) (am_ag (Y 5) (2 * i + 1))).2.2.2.2)) ∧ (rowv g 81 = rowv h 81 ∧ rowv g 82 = rowv h 82 ∧ rowv g 83 = rowv h 83) ∧ ∃ on, am_get g 84 = some (.inl (0, 60, on)) ∧ ∀ t, t < mi → am_ag on t = wkQ fw ff fb (Z 0) go (am_ag (Y 5) (2 * i)) (am_ag (Y 5) (2 * i + 1)) t := by
  have hm := hJ.1.2
  obtain ⟨hH, own⟩ := mz_own hm
  have hP := hA.2.2.2.1
  have dm := hA.2.2.1
  have hBY : je_B Z Y := je_bY hP.2.1 hP.2.2.1
  have z0 : Z 0 ≤ 4 := hP.2.1 0 (by decide)
  have z5 : Z 5 ≤ 4 := hP.2.1 5 (by decide)
  have p1 := hP.1
  have v0 : fldv h 66 0 = mi := fldv_fv dm.1
  have v1 : fldv h 66 1 = go := fldv_fv dm.2.1
  have v2 : fldv h 66 2 = Z 0 := fldv_fv (dm.2.2 0 (by decide)).1
  have w99 : ∀ s t, s < Z 0 → t < mi → fw s t ≤ 99 := fun s t hs _ => Nat.le_trans (h9 s t hs) (by decide)
  obtain ⟨-, -, ky⟩ := je_wt hP hi
  have oy := hO i hi
  rw [v0, v1, v2] at own
  have e := wf_m (g := valv h 66) (mi := mi) (go := go) (n := Z 0) (nr := fldv h 66 10) (z5 := fldv h 66 12) (sa := fldv h 66 36) (fa := fldv h 66 37) (we := fldv h 66 38) (w := rowv h 81) (x := rowv h 82) (b := rowv h 83) (on := rowv h 84) (fw := fw) (ff := ff) (fb := fb) (i := i) hH (fun s t hs ht => (pt s hs t ht).1) (fun s t hs ht => (pt s hs t ht).2.1) (fun s t hs ht => (pt s hs t ht).2.2) p1.2.2.2 z0 p1.2.1 p1.2.2.1 w99 (fun s t _ _ => h8 s t) (dm.2.2 5 (by decide)).2 (by omega) ky oy
  rw [own] at e
  obtain ⟨b1, b2, b3, b4, b5⟩ := wkG_b (fb := fb) h9 h8 (kind := am_ag (Y 5) (2 * i)) oy p1.2.2.1 p1.2.1
  obtain ⟨r1, r2, r3, r4⟩ := mz_rows hm
  have ra := fun t => wk_r_ag (fw := fw) (ff := ff) (fb := fb) (n := Z 0) (kind := am_ag (Y 5) (2 * i)) (on := rowv h 84) (i := t) w99 z0 oy p1.2.2.1 (Nat.le_refl mi)
  have bon : ∀ t, t < 60 → am_ag (wk_r fw ff fb (Z 0) go (am_ag (Y 5) (2 * i)) (am_ag (Y 5) (2 * i + 1)) (rowv h 84) mi) t ≤ 3 ∨ am_ag (wk_r fw ff fb (Z 0) go (am_ag (Y 5) (2 * i)) (am_ag (Y 5) (2 * i + 1)) (rowv h 84) mi) t = 4294967292 := fun t ht => by
    rw [ra t]
    by_cases q : t < mi
    · rw [if_pos q]
      rcases wkQ_b (fb := fb) h9 h8 (kind := am_ag (Y 5) (2 * i)) (t := t) oy p1.2.2.1 with r | r
      · exact Or.inl (by have : wk_p fw ff fb (Z 0) go (am_ag (Y 5) (2 * i)) (am_ag (Y 5) (2 * i + 1)) t < Z 0 := r; omega)
      · exact Or.inr r
    · rw [if_neg q]
      exact r4 t ht
  have J := mz_Jv hJ (sa := (wkG fw ff fb (Z 0) go mi (am_ag (Y 5) (2 * i)) (am_ag (Y 5) (2 * i + 1))).2.2.1) (fa := (wkG fw ff fb (Z 0) go mi (am_ag (Y 5) (2 * i)) (am_ag (Y 5) (2 * i + 1))).2.2.2.1) (we := (wkG fw ff fb (Z 0) go mi (am_ag (Y 5) (2 * i)) (am_ag (Y 5) (2 * i + 1))).2.2.2.2) (by omega) b4 (by omega) r1 r2 r3 bon
  rw [v0, v1, v2] at J
  refine ⟨_, e, J, ?_, by unfold mz; exact am_ups_1 _, ⟨?_, ?_, ?_⟩, ⟨?_, ?_, ?_⟩, _, mz_g84 hH, fun t ht => ?_⟩
  · refine je_A_m (fun a ha => mz_o hH (am_lk_ct (ks := [66, 81, 82, 83, 84]) (by simp; omega))) (fun a ha => ?_) (fun k hk => ?_) hA
    · simp only [List.mem_cons, List.not_mem_nil, or_false] at ha
      rcases ha with rfl | rfl | rfl | rfl | rfl | rfl <;> exact mz_o hH rfl
    · have key : ∀ k, k < 55 → ax_fv h 66 k = some (valv h 66 k) := fun k hk => val_in hm (a := 66) rfl hk
      simp only [List.mem_cons, List.not_mem_nil, or_false] at hk
      rcases hk with rfl | rfl | rfl | rfl | rfl | rfl | rfl | rfl
      · rw [dm.1]; unfold ax_fv; rw [mz_g66 hH]; rfl
      · rw [dm.2.1]; unfold ax_fv; rw [mz_g66 hH]; rfl
      · rw [(dm.2.2 0 (by decide)).1]; unfold ax_fv; rw [mz_g66 hH]; rfl
      · rw [key 4 (by decide)]; unfold ax_fv; rw [mz_g66 hH]; rfl
      · rw [key 6 (by decide)]; unfold ax_fv; rw [mz_g66 hH]; rfl
      · rw [key 8 (by decide)]; unfold ax_fv; rw [mz_g66 hH]; rfl
      · rw [(fld_in (k := 10) hm (a := 66) rfl rfl).1]; unfold ax_fv; rw [mz_g66 hH]; rfl
      · rw [(fld_in (k := 12) hm (a := 66) rfl rfl).1]; unfold ax_fv; rw [mz_g66 hH]; rfl
  · unfold ax_fv; rw [mz_g66 hH]; rfl
  · unfold ax_fv; rw [mz_g66 hH]; rfl
  · unfold ax_fv; rw [mz_g66 hH]; rfl
  · exact rowv_eq (mz_g81 hH)
  · exact rowv_eq (mz_g82 hH)
  · exact rowv_eq (mz_g83 hH)
  · rw [ra t, if_pos ht]
    rfl

/-- the number that decides whether a break is drawn -/
def ni_E (z t s : Nat) : Int64 := let x := ((((7919 : Int64) * (Int32.ofNat z).toInt64) + ((6151 : Int64) * (Int32.ofNat t).toInt64)) + ((3571 : Int64) * (Int32.ofNat s).toInt64)) + Int64.ofNat 1; let y := (x * x) - (x * x) / (65521 : Int64) * (65521 : Int64); y - y / (4 : Int64) * (4 : Int64)
theorem ng_cmp {a : Int64} (h : ¬ a = 0) : ∃ v, lg_cmp a (Int64.ofNat 0) = Int32.ofNat v ∧ v % 4294967296 ≠ 0 := by
  have h' : ¬ a = Int64.ofNat 0 := h
  unfold lg_cmp
  by_cases h1 : a > Int64.ofNat 0
  · exact ⟨1, by rw [if_pos h1]; rfl, by decide⟩
  · exact ⟨4294967295, by rw [if_neg h1, if_neg h']; rfl, by decide⟩
def nb (z s t : Nat) : Bool := decide (ni_E z t s = 0)
/-- numbers set where a test holds -/
def nr (p : Nat → Bool) (o v x : Nat) : Nat → Nat
  | 0 => x
  | t + 1 => if p t = true then am_as (nr p o v x t) (o + t) v else nr p o v x t
theorem nr_ag (p : Nat → Bool) (o v x : Nat) : ∀ (m i : Nat), am_ag (nr p o v x m) i = if (o ≤ i ∧ i < o + m) ∧ p (i - o) = true then v % 4294967296 else am_ag x i
  | 0, i => by
    rw [if_neg (by omega)]
    rfl
  | m + 1, i => by
    have ih := nr_ag p o v x m i
    show am_ag (if p m = true then am_as (nr p o v x m) (o + m) v else nr p o v x m) i = _
    by_cases hi : i = o + m
    · have e : i - o = m := by omega
      by_cases hp : p m = true
      · rw [if_pos hp, am_ag_as, if_pos hi, if_pos ⟨by omega, by rw [e]; exact hp⟩]
      · rw [if_neg hp, ih, if_neg (by omega), if_neg (fun q => hp (by have := q.2; rw [e] at this; exact this))]
    · have iff : ((o ≤ i ∧ i < o + (m + 1)) ∧ p (i - o) = true) ↔ ((o ≤ i ∧ i < o + m) ∧ p (i - o) = true) := ⟨fun q => ⟨by omega, q.2⟩, fun q => ⟨by omega, q.2⟩⟩
      have e2 : (if (o ≤ i ∧ i < o + (m + 1)) ∧ p (i - o) = true then v % 4294967296 else am_ag x i) = (if (o ≤ i ∧ i < o + m) ∧ p (i - o) = true then v % 4294967296 else am_ag x i) := by
        by_cases q : (o ≤ i ∧ i < o + m) ∧ p (i - o) = true
        · rw [if_pos q, if_pos (iff.mpr q)]
        · rw [if_neg q, if_neg (fun a => q (iff.mp a))]
      rw [e2, ← ih]
      split
      · rw [am_ag_as, if_neg hi]
      · rfl
def nro (z mi q v x : Nat) : Nat → Nat
  | 0 => x
  | s + 1 => nr (nb z s) (q * s) v (nro z mi q v x s) mi
theorem nro_ag {z mi q v x s t : Nat} (hm : mi ≤ 60) (hq : 60 ≤ q) (ht : t < mi) : ∀ n, am_ag (nro z mi q v x n) (q * s + t) = if s < n ∧ nb z s t = true then v % 4294967296 else am_ag x (q * s + t)
  | 0 => by
    rw [if_neg (by omega)]
    rfl
  | n + 1 => by
    show am_ag (nr (nb z n) (q * n) v (nro z mi q v x n) mi) (q * s + t) = _
    rw [nr_ag, nro_ag hm hq ht n]
    by_cases e : s = n
    · subst e
      have e1 : q * s + t - q * s = t := by omega
      rw [e1]
      by_cases hb : nb z s t = true
      · rw [if_pos ⟨by omega, hb⟩, if_pos ⟨by omega, hb⟩]
      · rw [if_neg (fun a => hb a.2), if_neg (fun a => hb a.2), if_neg (fun a => hb a.2)]
    · have hne : ¬ (q * n ≤ q * s + t ∧ q * s + t < q * n + mi) := by
        rintro ⟨a1, a2⟩
        rcases Nat.lt_or_gt_of_ne e with h | h
        · have h3 : q * (s + 1) ≤ q * n := Nat.mul_le_mul_left q h
          rw [Nat.mul_add, Nat.mul_one] at h3
          omega
        · have h3 : q * (n + 1) ≤ q * s := Nat.mul_le_mul_left q h
          rw [Nat.mul_add, Nat.mul_one] at h3
          omega
      rw [if_neg (fun a => hne a.1)]
      by_cases hb : s < n ∧ nb z s t = true
      · rw [if_pos hb, if_pos ⟨by omega, hb.2⟩]
      · rw [if_neg hb, if_neg (fun a => hb ⟨by omega, a.2⟩)]
theorem nr_P {P : Nat → Prop} {N o v x : Nat} {p : Nat → Bool} (hx : ∀ i, i < N → P (am_ag x i)) (hv : P (v % 4294967296)) (m : Nat) : ∀ i, i < N → P (am_ag (nr p o v x m) i) := fun i hi => by
  rw [nr_ag]
  split
  · exact hv
  · exact hx i hi
theorem nro_P {P : Nat → Prop} {N z mi q v x : Nat} (hx : ∀ i, i < N → P (am_ag x i)) (hv : P (v % 4294967296)) : ∀ n i, i < N → P (am_ag (nro z mi q v x n) i)
  | 0, i, hi => hx i hi
  | n + 1, i, hi => nr_P (nro_P hx hv n) hv mi i hi
/-- the reference sets all, one behind the other -/
def zr (g : Nat → Nat) (o x : Nat) : Nat → Nat
  | 0 => x
  | t + 1 => am_as (zr g o x t) (o + t) (g t)
theorem zr_ag (g : Nat → Nat) (o x : Nat) : ∀ (m i : Nat), am_ag (zr g o x m) i = if o ≤ i ∧ i < o + m then g (i - o) % 4294967296 else am_ag x i
  | 0, i => by
    rw [if_neg (by omega)]
    rfl
  | m + 1, i => by
    show am_ag (am_as (zr g o x m) (o + m) (g m)) i = _
    rw [am_ag_as, zr_ag g o x m i]
    by_cases e : i = o + m
    · rw [if_pos e, if_pos (by omega), show i - o = m by omega]
    · rw [if_neg e]
      by_cases q : o ≤ i ∧ i < o + m
      · rw [if_pos q, if_pos (by omega)]
      · rw [if_neg q, if_neg (by omega)]
def nbn (z s t : Nat) : Nat := if nb z s t = true then 1 else 0
def zro (z mi x : Nat) : Nat → Nat
  | 0 => x
  | s + 1 => zr (nbn z s) (64 * s) (zro z mi x s) mi
theorem nbn_1 (z s t : Nat) : nbn z s t ≤ 1 := by
  unfold nbn
  split <;> decide
theorem zro_ag {z mi x s t : Nat} (hm : mi ≤ 60) (ht : t < mi) : ∀ n, am_ag (zro z mi x n) (64 * s + t) = if s < n then nbn z s t else am_ag x (64 * s + t)
  | 0 => by
    rw [if_neg (by omega)]
    rfl
  | n + 1 => by
    show am_ag (zr (nbn z n) (64 * n) (zro z mi x n) mi) (64 * s + t) = _
    have b1 := nbn_1 z n t
    rw [zr_ag, zro_ag hm ht n]
    by_cases e : s = n
    · subst e
      rw [if_pos (by omega), if_pos (by omega), show 64 * s + t - 64 * s = t by omega]
      exact Nat.mod_eq_of_lt (by omega)
    · rw [if_neg (by omega)]
      by_cases q : s < n
      · rw [if_pos q, if_pos (by omega)]
      · rw [if_neg q, if_neg (by omega)]
theorem zro_P {N z mi x : Nat} (hx : ∀ i, i < N → am_ag x i ≤ 1) : ∀ n i, i < N → am_ag (zro z mi x n) i ≤ 1
  | 0, i, hi => hx i hi
  | n + 1, i, hi => by
    show am_ag (zr (nbn z n) (64 * n) (zro z mi x n) mi) i ≤ 1
    rw [zr_ag]
    split
    · have := nbn_1 z n (i - 64 * n)
      rw [Nat.mod_eq_of_lt (by omega)]
      exact this
    · exact zro_P hx n i hi
theorem dr_t {h : am_H} {z t s : Nat} (hE : ni_E z t s = 0) : am_EG mi_124 [.retAddr z, .retAddr t, .retAddr s] h (some (.retAddr 1), h) := by
  refine am_enter (n := 2) tk_124.2.1 (by simp [Value.category]) (Nat.le_of_ble_eq_true rfl) ?_
  show am_Good mi_124 0 [some (.retAddr z), some (.retAddr t), some (.retAddr s), none, none] [] h _
  refine g_ldc2 dd_124_0 w_896 ?_
  refine g_iload_n (i := 0) dd_124_3 rfl ?_
  refine g_i2l dd_124_4 ?_
  refine g_lmul dd_124_5 ?_
  refine g_ldc2 dd_124_6 w_897 ?_
  refine g_iload_n (i := 1) dd_124_9 rfl ?_
  refine g_i2l dd_124_10 ?_
  refine g_lmul dd_124_11 ?_
  refine g_ladd dd_124_12 ?_
  refine g_ldc2 dd_124_13 w_898 ?_
  refine g_iload_n (i := 2) dd_124_16 rfl ?_
  refine g_i2l dd_124_17 ?_
  refine g_lmul dd_124_18 ?_
  refine g_ladd dd_124_19 ?_
  refine g_lconst dd_124_20 ?_
  refine g_ladd dd_124_21 ?_
  refine g_lstore_n (i := 3) dd_124_22 (am_nlb_ok rfl) (by decide) ?_
  refine g_lload_n (i := 3) dd_124_23 rfl ?_
  refine g_lload_n (i := 3) dd_124_24 rfl ?_
  refine g_lmul dd_124_25 ?_
  refine g_ldc2 dd_124_26 w_899 ?_
  refine g_lrem dd_124_29 (by decide) ?_
  refine g_ldc2 dd_124_30 w_900 ?_
  refine g_lrem dd_124_33 (by decide) ?_
  refine g_lconst dd_124_34 ?_
  refine g_lcmp (v := 0) dd_124_35 (by show lg_cmp (ni_E z t s) (Int64.ofNat 0) = _; rw [hE]; rfl) ?_
  refine g_if_ne_f (t := 43) dd_124_36 (by decide) (by decide) ?_
  refine g_iconst dd_124_39 ic_1 ?_
  refine g_goto (t := 44) dd_124_40 (by decide) ?_
  exact g_zreturn rfl (by first | decide | omega) dd_124_44
theorem dr_f {h : am_H} {z t s : Nat} (hE : ¬ ni_E z t s = 0) : am_EG mi_124 [.retAddr z, .retAddr t, .retAddr s] h (some (.retAddr 0), h) := by
  refine am_enter (n := 2) tk_124.2.1 (by simp [Value.category]) (Nat.le_of_ble_eq_true rfl) ?_
  show am_Good mi_124 0 [some (.retAddr z), some (.retAddr t), some (.retAddr s), none, none] [] h _
  obtain ⟨v, hv, hv0⟩ := ng_cmp hE
  refine g_ldc2 dd_124_0 w_896 ?_
  refine g_iload_n (i := 0) dd_124_3 rfl ?_
  refine g_i2l dd_124_4 ?_
  refine g_lmul dd_124_5 ?_
  refine g_ldc2 dd_124_6 w_897 ?_
  refine g_iload_n (i := 1) dd_124_9 rfl ?_
  refine g_i2l dd_124_10 ?_
  refine g_lmul dd_124_11 ?_
  refine g_ladd dd_124_12 ?_
  refine g_ldc2 dd_124_13 w_898 ?_
  refine g_iload_n (i := 2) dd_124_16 rfl ?_
  refine g_i2l dd_124_17 ?_
  refine g_lmul dd_124_18 ?_
  refine g_ladd dd_124_19 ?_
  refine g_lconst dd_124_20 ?_
  refine g_ladd dd_124_21 ?_
  refine g_lstore_n (i := 3) dd_124_22 (am_nlb_ok rfl) (by decide) ?_
  refine g_lload_n (i := 3) dd_124_23 rfl ?_
  refine g_lload_n (i := 3) dd_124_24 rfl ?_
  refine g_lmul dd_124_25 ?_
  refine g_ldc2 dd_124_26 w_899 ?_
  refine g_lrem dd_124_29 (by decide) ?_
  refine g_ldc2 dd_124_30 w_900 ?_
  refine g_lrem dd_124_33 (by decide) ?_
  refine g_lconst dd_124_34 ?_
  refine g_lcmp (v := v) dd_124_35 hv ?_
  refine g_if_ne_t (t := 43) dd_124_36 (by decide) (tk_ne_t (by omega)) ?_
  refine g_iconst dd_124_43 ic_0 ?_
  exact g_zreturn rfl (by first | decide | omega) dd_124_44
theorem ni_t {h : am_H} {W F B : Nat} (hH : sv36_ok h) (qS : am_get h 36 = some (.inr (9, [.ref 37, .ref 38, .ref 39]))) {E a0 a1 a2 a3 a4 a5 d0 d1 l0 l1 mi go : Nat} {Z R : Nat → Nat} (qE : ∀ W F B, am_get (sv36 h W F B) E = some (.inr (1, [.ref a0, .ref a1, .ref a2, .ref a3, .ref a4, .ref a5, .retAddr mi, .retAddr go]))) (q0 : ∀ W F B, am_get (sv36 h W F B) a0 = some (.inr (8, [.ref d0, .retAddr 1, .retAddr l0, .retAddr (Z 0)]))) (q1 : ∀ W F B, am_get (sv36 h W F B) a1 = some (.inr (8, [.ref d1, .retAddr 5, .retAddr l1, .retAddr (Z 1)]))) (c0 : ∀ W F B r c, r < Z 0 → c < 1 → am_EG mi_31 [.ref a0, .retAddr r, .retAddr c] (sv36 h W F B) (some (.retAddr (am_ag (R 0) (1 * r + c))), sv36 h W F B)) (c1 : ∀ W F B r c, r < Z 1 → c < 5 → am_EG mi_31 [.ref a1, .retAddr r, .retAddr c] (sv36 h W F B) (some (.retAddr (am_ag (R 1) (5 * r + c))), sv36 h W F B)) (z0 : Z 0 ≤ 4) (z1 : Z 1 ≤ 9) (zm : mi ≤ 60) (hb10 : ∀ i, i < Z 1 → am_ag (R 1) (5 * i) ≤ 3) (hb11 : ∀ i, i < Z 1 → am_ag (R 1) (5 * i + 1) ≤ 59) (hb12 : ∀ i, i < Z 1 → am_ag (R 1) (5 * i + 2) ≤ 59) {z : Nat} {r : am_R} {s t : Nat} (hs : s < Z 0) (ht : t < mi) (hE : ni_E z t s = 0) (hg : am_Good mi_123 34 [some (.ref 36), some (.ref E), some (.retAddr z), some (.retAddr s), some (.retAddr (t + 1))] [] (sv36 h (am_as W (60 * s + t) 0) (am_as F (60 * s + t) 8) (am_as B (60 * s + t) 1)) r) : am_Good mi_123 34 [some (.ref 36), some (.ref E), some (.retAddr z), some (.retAddr s), some (.retAddr t)] [] (sv36 h W F B) r := by
  refine g_iload dd_123_34 rfl ?_
  refine g_aload_n (i := 1) dd_123_36 rfl ?_
  refine g_getfield (k := 6) am_ck1 (by decide) (Or.inr ⟨_, w_109⟩) dd_123_37 (qE _ _ _) rfl ?_
  refine g_icmp_ge_f (t := 70) dd_123_40 (by decide) (by first | exact sk_ge_f (by omega) (by omega) | exact tk_ge_f (by omega)) ?_
  refine g_iload_n (i := 2) dd_123_43 rfl ?_
  refine g_iload dd_123_44 rfl ?_
  refine g_iload_n (i := 3) dd_123_46 rfl ?_
  refine g_static (M' := mi_124) (n := 3) (as := [.retAddr z, .retAddr t, .retAddr s]) (st := []) (r1 := (some (.retAddr 1), (sv36 h W F B))) w_893 w_894 ⟨lk_124.1, lk_124.2.1, lk_124.2.2, by decide, by decide⟩ rfl (by simp [Value.category]) dd_123_47 (dr_t hE) ?_
  show am_Good mi_123 50 [some (.ref 36), some (.ref E), some (.retAddr z), some (.retAddr s), some (.retAddr t)] [.retAddr 1] (sv36 h W F B) _
  refine g_if_eq_f (t := 64) dd_123_50 (by decide) (by decide) ?_
  refine g_aload_n (i := 0) dd_123_53 rfl ?_
  refine g_iload_n (i := 3) dd_123_54 rfl ?_
  refine g_iload dd_123_55 rfl ?_
  refine g_iconst dd_123_57 ic_0 ?_
  refine g_bipush dd_123_58 bi_8 ?_
  refine g_iconst dd_123_60 ic_1 ?_
  refine g_virtual (M' := mi_34) (n := 5) (ci := 9) (b := 36) (as := [.retAddr s, .retAddr t, .retAddr 0, .retAddr 8, .retAddr 1]) (st := []) (r1 := (none, (sv36 h (am_as W (60 * s + t) 0) (am_as F (60 * s + t) 8) (am_as B (60 * s + t) 1)))) w_462 w_464 ps_34 ⟨lk_34.1, lk_34.2.1, lk_34.2.2, by decide, by decide⟩ rfl ((sv36_o hH rfl).trans qS) rfl (by simp [Value.category]) dd_123_61 (s36_put hH qS (by omega) (by omega)) ?_
  show am_Good mi_123 64 [some (.ref 36), some (.ref E), some (.retAddr z), some (.retAddr s), some (.retAddr t)] [] (sv36 h (am_as W (60 * s + t) 0) (am_as F (60 * s + t) 8) (am_as B (60 * s + t) 1)) _
  refine e_iinc (v := 1) (w := t + 1) dd_123_64 rfl ic_1 (am_nlb_ok rfl) (by decide) (by omega) ?_
  refine g_goto (t := 34) dd_123_67 (by decide) ?_
  exact hg
theorem ni_f {h : am_H} {W F B : Nat} (hH : sv36_ok h) (qS : am_get h 36 = some (.inr (9, [.ref 37, .ref 38, .ref 39]))) {E a0 a1 a2 a3 a4 a5 d0 d1 l0 l1 mi go : Nat} {Z R : Nat → Nat} (qE : ∀ W F B, am_get (sv36 h W F B) E = some (.inr (1, [.ref a0, .ref a1, .ref a2, .ref a3, .ref a4, .ref a5, .retAddr mi, .retAddr go]))) (q0 : ∀ W F B, am_get (sv36 h W F B) a0 = some (.inr (8, [.ref d0, .retAddr 1, .retAddr l0, .retAddr (Z 0)]))) (q1 : ∀ W F B, am_get (sv36 h W F B) a1 = some (.inr (8, [.ref d1, .retAddr 5, .retAddr l1, .retAddr (Z 1)]))) (c0 : ∀ W F B r c, r < Z 0 → c < 1 → am_EG mi_31 [.ref a0, .retAddr r, .retAddr c] (sv36 h W F B) (some (.retAddr (am_ag (R 0) (1 * r + c))), sv36 h W F B)) (c1 : ∀ W F B r c, r < Z 1 → c < 5 → am_EG mi_31 [.ref a1, .retAddr r, .retAddr c] (sv36 h W F B) (some (.retAddr (am_ag (R 1) (5 * r + c))), sv36 h W F B)) (z0 : Z 0 ≤ 4) (z1 : Z 1 ≤ 9) (zm : mi ≤ 60) (hb10 : ∀ i, i < Z 1 → am_ag (R 1) (5 * i) ≤ 3) (hb11 : ∀ i, i < Z 1 → am_ag (R 1) (5 * i + 1) ≤ 59) (hb12 : ∀ i, i < Z 1 → am_ag (R 1) (5 * i + 2) ≤ 59) {z : Nat} {r : am_R} {s t : Nat} (hs : s < Z 0) (ht : t < mi) (hE : ¬ ni_E z t s = 0) (hg : am_Good mi_123 34 [some (.ref 36), some (.ref E), some (.retAddr z), some (.retAddr s), some (.retAddr (t + 1))] [] (sv36 h W F B) r) : am_Good mi_123 34 [some (.ref 36), some (.ref E), some (.retAddr z), some (.retAddr s), some (.retAddr t)] [] (sv36 h W F B) r := by
  refine g_iload dd_123_34 rfl ?_
  refine g_aload_n (i := 1) dd_123_36 rfl ?_
  refine g_getfield (k := 6) am_ck1 (by decide) (Or.inr ⟨_, w_109⟩) dd_123_37 (qE _ _ _) rfl ?_
  refine g_icmp_ge_f (t := 70) dd_123_40 (by decide) (by first | exact sk_ge_f (by omega) (by omega) | exact tk_ge_f (by omega)) ?_
  refine g_iload_n (i := 2) dd_123_43 rfl ?_
  refine g_iload dd_123_44 rfl ?_
  refine g_iload_n (i := 3) dd_123_46 rfl ?_
  refine g_static (M' := mi_124) (n := 3) (as := [.retAddr z, .retAddr t, .retAddr s]) (st := []) (r1 := (some (.retAddr 0), (sv36 h W F B))) w_893 w_894 ⟨lk_124.1, lk_124.2.1, lk_124.2.2, by decide, by decide⟩ rfl (by simp [Value.category]) dd_123_47 (dr_f hE) ?_
  show am_Good mi_123 50 [some (.ref 36), some (.ref E), some (.retAddr z), some (.retAddr s), some (.retAddr t)] [.retAddr 0] (sv36 h W F B) _
  refine g_if_eq_t (t := 64) dd_123_50 (by decide) (by decide) ?_
  refine e_iinc (v := 1) (w := t + 1) dd_123_64 rfl ic_1 (am_nlb_ok rfl) (by decide) (by omega) ?_
  refine g_goto (t := 34) dd_123_67 (by decide) ?_
  exact hg
theorem ni_a {h : am_H} {W F B : Nat} (hH : sv36_ok h) (qS : am_get h 36 = some (.inr (9, [.ref 37, .ref 38, .ref 39]))) {E a0 a1 a2 a3 a4 a5 d0 d1 l0 l1 mi go : Nat} {Z R : Nat → Nat} (qE : ∀ W F B, am_get (sv36 h W F B) E = some (.inr (1, [.ref a0, .ref a1, .ref a2, .ref a3, .ref a4, .ref a5, .retAddr mi, .retAddr go]))) (q0 : ∀ W F B, am_get (sv36 h W F B) a0 = some (.inr (8, [.ref d0, .retAddr 1, .retAddr l0, .retAddr (Z 0)]))) (q1 : ∀ W F B, am_get (sv36 h W F B) a1 = some (.inr (8, [.ref d1, .retAddr 5, .retAddr l1, .retAddr (Z 1)]))) (c0 : ∀ W F B r c, r < Z 0 → c < 1 → am_EG mi_31 [.ref a0, .retAddr r, .retAddr c] (sv36 h W F B) (some (.retAddr (am_ag (R 0) (1 * r + c))), sv36 h W F B)) (c1 : ∀ W F B r c, r < Z 1 → c < 5 → am_EG mi_31 [.ref a1, .retAddr r, .retAddr c] (sv36 h W F B) (some (.retAddr (am_ag (R 1) (5 * r + c))), sv36 h W F B)) (z0 : Z 0 ≤ 4) (z1 : Z 1 ≤ 9) (zm : mi ≤ 60) (hb10 : ∀ i, i < Z 1 → am_ag (R 1) (5 * i) ≤ 3) (hb11 : ∀ i, i < Z 1 → am_ag (R 1) (5 * i + 1) ≤ 59) (hb12 : ∀ i, i < Z 1 → am_ag (R 1) (5 * i + 2) ≤ 59) {z : Nat} {r : am_R} {s : Nat} (hs : s < Z 0) (hg : am_Good mi_123 20 [some (.ref 36), some (.ref E), some (.retAddr z), some (.retAddr (s + 1)), some (.retAddr mi)] [] (sv36 h W F B) r) : am_Good mi_123 34 [some (.ref 36), some (.ref E), some (.retAddr z), some (.retAddr s), some (.retAddr mi)] [] (sv36 h W F B) r := by
  refine g_iload dd_123_34 rfl ?_
  refine g_aload_n (i := 1) dd_123_36 rfl ?_
  refine g_getfield (k := 6) am_ck1 (by decide) (Or.inr ⟨_, w_109⟩) dd_123_37 (qE _ _ _) rfl ?_
  refine g_icmp_ge_t (t := 70) dd_123_40 (by decide) (by first | exact sk_ge_t (by omega) (by omega) | exact tk_ge_t (by omega)) ?_
  refine e_iinc (v := 1) (w := s + 1) dd_123_70 rfl ic_1 (am_nlb_ok rfl) (by decide) (by omega) ?_
  refine g_goto (t := 20) dd_123_73 (by decide) ?_
  exact hg
theorem ni_b {h : am_H} {W F B : Nat} (hH : sv36_ok h) (qS : am_get h 36 = some (.inr (9, [.ref 37, .ref 38, .ref 39]))) {E a0 a1 a2 a3 a4 a5 d0 d1 l0 l1 mi go : Nat} {Z R : Nat → Nat} (qE : ∀ W F B, am_get (sv36 h W F B) E = some (.inr (1, [.ref a0, .ref a1, .ref a2, .ref a3, .ref a4, .ref a5, .retAddr mi, .retAddr go]))) (q0 : ∀ W F B, am_get (sv36 h W F B) a0 = some (.inr (8, [.ref d0, .retAddr 1, .retAddr l0, .retAddr (Z 0)]))) (q1 : ∀ W F B, am_get (sv36 h W F B) a1 = some (.inr (8, [.ref d1, .retAddr 5, .retAddr l1, .retAddr (Z 1)]))) (c0 : ∀ W F B r c, r < Z 0 → c < 1 → am_EG mi_31 [.ref a0, .retAddr r, .retAddr c] (sv36 h W F B) (some (.retAddr (am_ag (R 0) (1 * r + c))), sv36 h W F B)) (c1 : ∀ W F B r c, r < Z 1 → c < 5 → am_EG mi_31 [.ref a1, .retAddr r, .retAddr c] (sv36 h W F B) (some (.retAddr (am_ag (R 1) (5 * r + c))), sv36 h W F B)) (z0 : Z 0 ≤ 4) (z1 : Z 1 ≤ 9) (zm : mi ≤ 60) (hb10 : ∀ i, i < Z 1 → am_ag (R 1) (5 * i) ≤ 3) (hb11 : ∀ i, i < Z 1 → am_ag (R 1) (5 * i + 1) ≤ 59) (hb12 : ∀ i, i < Z 1 → am_ag (R 1) (5 * i + 2) ≤ 59) {z : Nat} {r : am_R} {s : Nat} {v4 : Option Value} (hs : s < Z 0) (hg : am_Good mi_123 34 [some (.ref 36), some (.ref E), some (.retAddr z), some (.retAddr s), some (.retAddr 0)] [] (sv36 h W F B) r) : am_Good mi_123 20 [some (.ref 36), some (.ref E), some (.retAddr z), some (.retAddr s), v4] [] (sv36 h W F B) r := by
  refine g_iload_n (i := 3) dd_123_20 rfl ?_
  refine g_aload_n (i := 1) dd_123_21 rfl ?_
  refine g_getfield (k := 0) am_ck1 (by decide) (Or.inr ⟨_, w_80⟩) dd_123_22 (qE _ _ _) rfl ?_
  refine g_getfield (k := 3) am_ck8 (by decide) (Or.inr ⟨_, w_63⟩) dd_123_25 (q0 _ _ _) rfl ?_
  refine g_icmp_ge_f (t := 76) dd_123_28 (by decide) (by first | exact sk_ge_f (by omega) (by omega) | exact tk_ge_f (by omega)) ?_
  refine g_iconst dd_123_31 ic_0 ?_
  refine g_istore dd_123_32 (am_nlb_ok rfl) (by decide) ?_
  exact hg
theorem ni_c {h : am_H} {W F B : Nat} (hH : sv36_ok h) (qS : am_get h 36 = some (.inr (9, [.ref 37, .ref 38, .ref 39]))) {E a0 a1 a2 a3 a4 a5 d0 d1 l0 l1 mi go : Nat} {Z R : Nat → Nat} (qE : ∀ W F B, am_get (sv36 h W F B) E = some (.inr (1, [.ref a0, .ref a1, .ref a2, .ref a3, .ref a4, .ref a5, .retAddr mi, .retAddr go]))) (q0 : ∀ W F B, am_get (sv36 h W F B) a0 = some (.inr (8, [.ref d0, .retAddr 1, .retAddr l0, .retAddr (Z 0)]))) (q1 : ∀ W F B, am_get (sv36 h W F B) a1 = some (.inr (8, [.ref d1, .retAddr 5, .retAddr l1, .retAddr (Z 1)]))) (c0 : ∀ W F B r c, r < Z 0 → c < 1 → am_EG mi_31 [.ref a0, .retAddr r, .retAddr c] (sv36 h W F B) (some (.retAddr (am_ag (R 0) (1 * r + c))), sv36 h W F B)) (c1 : ∀ W F B r c, r < Z 1 → c < 5 → am_EG mi_31 [.ref a1, .retAddr r, .retAddr c] (sv36 h W F B) (some (.retAddr (am_ag (R 1) (5 * r + c))), sv36 h W F B)) (z0 : Z 0 ≤ 4) (z1 : Z 1 ≤ 9) (zm : mi ≤ 60) (hb10 : ∀ i, i < Z 1 → am_ag (R 1) (5 * i) ≤ 3) (hb11 : ∀ i, i < Z 1 → am_ag (R 1) (5 * i + 1) ≤ 59) (hb12 : ∀ i, i < Z 1 → am_ag (R 1) (5 * i + 2) ≤ 59) {z : Nat} {v4 : Option Value} : am_Good mi_123 20 [some (.ref 36), some (.ref E), some (.retAddr z), some (.retAddr (Z 0)), v4] [] (sv36 h W F B) (none, (sv36 h W F B)) := by
  refine g_iload_n (i := 3) dd_123_20 rfl ?_
  refine g_aload_n (i := 1) dd_123_21 rfl ?_
  refine g_getfield (k := 0) am_ck1 (by decide) (Or.inr ⟨_, w_80⟩) dd_123_22 (qE _ _ _) rfl ?_
  refine g_getfield (k := 3) am_ck8 (by decide) (Or.inr ⟨_, w_63⟩) dd_123_25 (q0 _ _ _) rfl ?_
  refine g_icmp_ge_t (t := 76) dd_123_28 (by decide) (by first | exact sk_ge_t (by omega) (by omega) | exact tk_ge_t (by omega)) ?_
  exact g_return rfl dd_123_76
theorem ni_l {h : am_H} {W F B : Nat} (hH : sv36_ok h) (qS : am_get h 36 = some (.inr (9, [.ref 37, .ref 38, .ref 39]))) {E a0 a1 a2 a3 a4 a5 d0 d1 l0 l1 mi go : Nat} {Z R : Nat → Nat} (qE : ∀ W F B, am_get (sv36 h W F B) E = some (.inr (1, [.ref a0, .ref a1, .ref a2, .ref a3, .ref a4, .ref a5, .retAddr mi, .retAddr go]))) (q0 : ∀ W F B, am_get (sv36 h W F B) a0 = some (.inr (8, [.ref d0, .retAddr 1, .retAddr l0, .retAddr (Z 0)]))) (q1 : ∀ W F B, am_get (sv36 h W F B) a1 = some (.inr (8, [.ref d1, .retAddr 5, .retAddr l1, .retAddr (Z 1)]))) (c0 : ∀ W F B r c, r < Z 0 → c < 1 → am_EG mi_31 [.ref a0, .retAddr r, .retAddr c] (sv36 h W F B) (some (.retAddr (am_ag (R 0) (1 * r + c))), sv36 h W F B)) (c1 : ∀ W F B r c, r < Z 1 → c < 5 → am_EG mi_31 [.ref a1, .retAddr r, .retAddr c] (sv36 h W F B) (some (.retAddr (am_ag (R 1) (5 * r + c))), sv36 h W F B)) (z0 : Z 0 ≤ 4) (z1 : Z 1 ≤ 9) (zm : mi ≤ 60) (hb10 : ∀ i, i < Z 1 → am_ag (R 1) (5 * i) ≤ 3) (hb11 : ∀ i, i < Z 1 → am_ag (R 1) (5 * i + 1) ≤ 59) (hb12 : ∀ i, i < Z 1 → am_ag (R 1) (5 * i + 2) ≤ 59) {z : Nat} {r : am_R} {s : Nat} (hs : s < Z 0) (hg : am_Good mi_123 34 [some (.ref 36), some (.ref E), some (.retAddr z), some (.retAddr s), some (.retAddr mi)] [] (sv36 h (nr (nb z s) (60 * s) 0 W mi) (nr (nb z s) (60 * s) 8 F mi) (nr (nb z s) (60 * s) 1 B mi)) r) : ∀ (k t : Nat), t + k = mi → am_Good mi_123 34 [some (.ref 36), some (.ref E), some (.retAddr z), some (.retAddr s), some (.retAddr t)] [] (sv36 h (nr (nb z s) (60 * s) 0 W t) (nr (nb z s) (60 * s) 8 F t) (nr (nb z s) (60 * s) 1 B t)) r
  | 0, t, e => by
    have e' : t = mi := by omega
    subst e'
    exact hg
  | k + 1, t, e => by
    have q := ni_l hH qS qE q0 q1 c0 c1 z0 z1 zm hb10 hb11 hb12 hs hg k (t + 1) (by omega)
    have st : ∀ v x, nr (nb z s) (60 * s) v x (t + 1) = if nb z s t = true then am_as (nr (nb z s) (60 * s) v x t) (60 * s + t) v else nr (nb z s) (60 * s) v x t := fun _ _ => rfl
    rw [st, st, st] at q
    by_cases hE : ni_E z t s = 0
    · have hb : nb z s t = true := decide_eq_true hE
      rw [if_pos hb, if_pos hb, if_pos hb] at q
      exact ni_t hH qS qE q0 q1 c0 c1 z0 z1 zm hb10 hb11 hb12 hs (by omega) hE q
    · have hb : ¬ nb z s t = true := fun a => hE (of_decide_eq_true a)
      rw [if_neg hb, if_neg hb, if_neg hb] at q
      exact ni_f hH qS qE q0 q1 c0 c1 z0 z1 zm hb10 hb11 hb12 hs (by omega) hE q
theorem ni_o {h : am_H} {W F B : Nat} (hH : sv36_ok h) (qS : am_get h 36 = some (.inr (9, [.ref 37, .ref 38, .ref 39]))) {E a0 a1 a2 a3 a4 a5 d0 d1 l0 l1 mi go : Nat} {Z R : Nat → Nat} (qE : ∀ W F B, am_get (sv36 h W F B) E = some (.inr (1, [.ref a0, .ref a1, .ref a2, .ref a3, .ref a4, .ref a5, .retAddr mi, .retAddr go]))) (q0 : ∀ W F B, am_get (sv36 h W F B) a0 = some (.inr (8, [.ref d0, .retAddr 1, .retAddr l0, .retAddr (Z 0)]))) (q1 : ∀ W F B, am_get (sv36 h W F B) a1 = some (.inr (8, [.ref d1, .retAddr 5, .retAddr l1, .retAddr (Z 1)]))) (c0 : ∀ W F B r c, r < Z 0 → c < 1 → am_EG mi_31 [.ref a0, .retAddr r, .retAddr c] (sv36 h W F B) (some (.retAddr (am_ag (R 0) (1 * r + c))), sv36 h W F B)) (c1 : ∀ W F B r c, r < Z 1 → c < 5 → am_EG mi_31 [.ref a1, .retAddr r, .retAddr c] (sv36 h W F B) (some (.retAddr (am_ag (R 1) (5 * r + c))), sv36 h W F B)) (z0 : Z 0 ≤ 4) (z1 : Z 1 ≤ 9) (zm : mi ≤ 60) (hb10 : ∀ i, i < Z 1 → am_ag (R 1) (5 * i) ≤ 3) (hb11 : ∀ i, i < Z 1 → am_ag (R 1) (5 * i + 1) ≤ 59) (hb12 : ∀ i, i < Z 1 → am_ag (R 1) (5 * i + 2) ≤ 59) {z : Nat} : ∀ (k s : Nat) (v4 : Option Value), s + k = Z 0 → am_Good mi_123 20 [some (.ref 36), some (.ref E), some (.retAddr z), some (.retAddr s), v4] [] (sv36 h (nro z mi 60 0 W s) (nro z mi 60 8 F s) (nro z mi 60 1 B s)) (none, (sv36 h (nro z mi 60 0 W (Z 0)) (nro z mi 60 8 F (Z 0)) (nro z mi 60 1 B (Z 0))))
  | 0, s, v4, e => by
    have e' : s = Z 0 := by omega
    subst e'
    exact ni_c hH qS qE q0 q1 c0 c1 z0 z1 zm hb10 hb11 hb12
  | k + 1, s, v4, e => by
    have q := ni_o (W := W) (F := F) (B := B) (z := z) hH qS qE q0 q1 c0 c1 z0 z1 zm hb10 hb11 hb12 k (s + 1) (some (.retAddr mi)) (by omega)
    exact ni_b hH qS qE q0 q1 c0 c1 z0 z1 zm hb10 hb11 hb12 (by omega) (ni_l hH qS qE q0 q1 c0 c1 z0 z1 zm hb10 hb11 hb12 (by omega) (ni_a hH qS qE q0 q1 c0 c1 z0 z1 zm hb10 hb11 hb12 (by omega) q) mi 0 (by omega))
theorem ni_m {h : am_H} {W F B : Nat} (hH : sv36_ok h) (qS : am_get h 36 = some (.inr (9, [.ref 37, .ref 38, .ref 39]))) {E a0 a1 a2 a3 a4 a5 d0 d1 l0 l1 mi go : Nat} {Z R : Nat → Nat} (qE : ∀ W F B, am_get (sv36 h W F B) E = some (.inr (1, [.ref a0, .ref a1, .ref a2, .ref a3, .ref a4, .ref a5, .retAddr mi, .retAddr go]))) (q0 : ∀ W F B, am_get (sv36 h W F B) a0 = some (.inr (8, [.ref d0, .retAddr 1, .retAddr l0, .retAddr (Z 0)]))) (q1 : ∀ W F B, am_get (sv36 h W F B) a1 = some (.inr (8, [.ref d1, .retAddr 5, .retAddr l1, .retAddr (Z 1)]))) (c0 : ∀ W F B r c, r < Z 0 → c < 1 → am_EG mi_31 [.ref a0, .retAddr r, .retAddr c] (sv36 h W F B) (some (.retAddr (am_ag (R 0) (1 * r + c))), sv36 h W F B)) (c1 : ∀ W F B r c, r < Z 1 → c < 5 → am_EG mi_31 [.ref a1, .retAddr r, .retAddr c] (sv36 h W F B) (some (.retAddr (am_ag (R 1) (5 * r + c))), sv36 h W F B)) (z0 : Z 0 ≤ 4) (z1 : Z 1 ≤ 9) (zm : mi ≤ 60) (hb10 : ∀ i, i < Z 1 → am_ag (R 1) (5 * i) ≤ 3) (hb11 : ∀ i, i < Z 1 → am_ag (R 1) (5 * i + 1) ≤ 59) (hb12 : ∀ i, i < Z 1 → am_ag (R 1) (5 * i + 2) ≤ 59) {z : Nat} : am_EG mi_123 [.ref 36, .ref E, .retAddr z] (sv36 h W F B) (none, (sv36 h (nro z mi 60 0 (sw 60 (R 1) 5 (sc_ne 4294967292) (fun n => am_ag (R 1) (5 * n + 3)) (ss 60 (am_ag (R 0)) W (Z 0)) (Z 1)) (Z 0)) (nro z mi 60 8 (sw 60 (R 1) 5 (sc_ne 4294967292) (fun n => am_ag (R 1) (5 * n + 4)) (ss 60 (fun _ => 8) F (Z 0)) (Z 1)) (Z 0)) (nro z mi 60 1 (sw 60 (R 1) 5 (sc_ne 4294967292) (fun _ => 0) (ss 60 (fun _ => 0) B (Z 0)) (Z 1)) (Z 0)))) := by
  refine am_enter (n := 2) tk_123.2.1 (by simp [Value.category]) (Nat.le_of_ble_eq_true rfl) ?_
  show am_Good mi_123 0 [some (.ref 36), some (.ref E), some (.retAddr z), none, none] [] (sv36 h W F B) _
  refine g_aload_n (i := 0) dd_123_0 rfl ?_
  refine g_aload_n (i := 1) dd_123_1 rfl ?_
  refine g_getfield (k := 0) am_ck1 (by decide) (Or.inr ⟨_, w_80⟩) dd_123_2 (qE _ _ _) rfl ?_
  refine g_virtual (M' := mi_33) (n := 1) (ci := 9) (b := 36) (as := [.ref a0]) (st := []) (r1 := (none, (sv36 h (ss 60 (am_ag (R 0)) W (Z 0)) (ss 60 (fun _ => 8) F (Z 0)) (ss 60 (fun _ => 0) B (Z 0))))) w_457 w_459 ps_33 ⟨lk_33.1, lk_33.2.1, lk_33.2.2, by decide, by decide⟩ rfl ((sv36_o hH rfl).trans qS) rfl (by simp [Value.category]) dd_123_5 (s36_sst hH qS q0 c0 z0) ?_
  show am_Good mi_123 8 [some (.ref 36), some (.ref E), some (.retAddr z), none, none] [] (sv36 h (ss 60 (am_ag (R 0)) W (Z 0)) (ss 60 (fun _ => 8) F (Z 0)) (ss 60 (fun _ => 0) B (Z 0))) _
  refine g_aload_n (i := 0) dd_123_8 rfl ?_
  refine g_aload_n (i := 1) dd_123_9 rfl ?_
  refine g_getfield (k := 1) am_ck1 (by decide) (Or.inr ⟨_, w_87⟩) dd_123_10 (qE _ _ _) rfl ?_
  refine g_bipush dd_123_13 bi_m4 ?_
  refine g_virtual (M' := mi_36) (n := 2) (ci := 9) (b := 36) (as := [.ref a1, .retAddr 4294967292]) (st := []) (r1 := (none, (sv36 h (sw 60 (R 1) 5 (sc_ne 4294967292) (fun n => am_ag (R 1) (5 * n + 3)) (ss 60 (am_ag (R 0)) W (Z 0)) (Z 1)) (sw 60 (R 1) 5 (sc_ne 4294967292) (fun n => am_ag (R 1) (5 * n + 4)) (ss 60 (fun _ => 8) F (Z 0)) (Z 1)) (sw 60 (R 1) 5 (sc_ne 4294967292) (fun _ => 0) (ss 60 (fun _ => 0) B (Z 0)) (Z 1))))) w_469 w_471 ps_36 ⟨lk_36.1, lk_36.2.1, lk_36.2.2, by decide, by decide⟩ rfl ((sv36_o hH rfl).trans qS) rfl (by simp [Value.category]) dd_123_15 (s36_sc hH qS q1 c1 z1 hb10 hb11 hb12 (by decide)) ?_
  show am_Good mi_123 18 [some (.ref 36), some (.ref E), some (.retAddr z), none, none] [] (sv36 h (sw 60 (R 1) 5 (sc_ne 4294967292) (fun n => am_ag (R 1) (5 * n + 3)) (ss 60 (am_ag (R 0)) W (Z 0)) (Z 1)) (sw 60 (R 1) 5 (sc_ne 4294967292) (fun n => am_ag (R 1) (5 * n + 4)) (ss 60 (fun _ => 8) F (Z 0)) (Z 1)) (sw 60 (R 1) 5 (sc_ne 4294967292) (fun _ => 0) (ss 60 (fun _ => 0) B (Z 0)) (Z 1))) _
  refine g_iconst dd_123_18 ic_0 ?_
  refine g_istore_n (i := 3) dd_123_19 (am_nlb_ok rfl) (by decide) ?_
  exact ni_o hH qS qE q0 q1 c0 c1 z0 z1 zm hb10 hb11 hb12 (Z 0) 0 none (by omega)
theorem ln_t {h : am_H} {vs : List Value} {Z R : Nat → Nat} {w f b mi z : Nat} (hH : ms_ok h) (q66 : am_get h 66 = some (.inr (12, vs))) (f2 : vs[2]? = some (.retAddr (Z 0))) (f3 : vs[3]? = some (.ref 67)) (f4 : vs[4]? = some (.retAddr (Z 1))) (f5 : vs[5]? = some (.ref 68)) (f6 : vs[6]? = some (.retAddr (Z 2))) (f7 : vs[7]? = some (.ref 69)) (f8 : vs[8]? = some (.retAddr (Z 3))) (f9 : vs[9]? = some (.ref 70)) (f0 : vs[0]? = some (.retAddr mi)) (f32 : vs[32]? = some (.ref 81)) (f33 : vs[33]? = some (.ref 82)) (f34 : vs[34]? = some (.ref 83)) (a67 : am_get h 67 = some (.inl (0, 4, R 0))) (a68 : am_get h 68 = some (.inl (0, 45, R 1))) (a69 : am_get h 69 = some (.inl (0, 18, R 2))) (a70 : am_get h 70 = some (.inl (0, 16, R 3))) (vZ : ∀ k, k < 6 → Z k ≤ je_z k) (hB : je_B Z R) (zm : mi ≤ 60) {r : am_R} {s t : Nat} {v4 : Option Value} (hs : s < Z 0) (ht : t < mi) (hE : ni_E z t s = 0) (hg : am_Good mi_206 18 [some (.ref 66), some (.retAddr z), some (.retAddr s), some (.retAddr (t + 1)), none, none] [] (ms h w f (am_as b (64 * s + t) 1)) r) : am_Good mi_206 18 [some (.ref 66), some (.retAddr z), some (.retAddr s), some (.retAddr t), none, none] [] (ms h w f b) r := by
  have z0 : Z 0 ≤ 4 := vZ 0 (by decide)
  have z1 : Z 1 ≤ 9 := vZ 1 (by decide)
  have z2 : Z 2 ≤ 6 := vZ 2 (by decide)
  have z3 : Z 3 ≤ 4 := vZ 3 (by decide)
  refine g_iload_n (i := 3) dd_206_18 rfl ?_
  refine g_aload_n (i := 0) dd_206_19 rfl ?_
  refine g_getfield (k := 0) am_ck12 (by decide) (Or.inl w_935) dd_206_20 ((ms_o hH rfl).trans q66) f0 ?_
  refine g_icmp_ge_f (t := 90) dd_206_23 (by decide) (by first | exact sk_ge_f (by omega) (by omega) | exact tk_ge_f (by omega)) ?_
  refine g_ldc2 dd_206_26 w_1396 ?_
  refine g_iload_n (i := 1) dd_206_29 rfl ?_
  refine g_i2l dd_206_30 ?_
  refine g_lmul dd_206_31 ?_
  refine g_ldc2 dd_206_32 w_1397 ?_
  refine g_iload_n (i := 3) dd_206_35 rfl ?_
  refine g_i2l dd_206_36 ?_
  refine g_lmul dd_206_37 ?_
  refine g_ladd dd_206_38 ?_
  refine g_ldc2 dd_206_39 w_1398 ?_
  refine g_iload_n (i := 2) dd_206_42 rfl ?_
  refine g_i2l dd_206_43 ?_
  refine g_lmul dd_206_44 ?_
  refine g_ladd dd_206_45 ?_
  refine g_lconst dd_206_46 ?_
  refine g_ladd dd_206_47 ?_
  refine g_lstore dd_206_48 (am_nlb_ok rfl) (by decide) ?_
  refine g_aload_n (i := 0) dd_206_50 rfl ?_
  refine g_getfield (k := 34) am_ck12 (by decide) (Or.inl w_969) dd_206_51 ((ms_o hH rfl).trans q66) f34 ?_
  refine g_bipush dd_206_54 bi_64 ?_
  refine g_iload_n (i := 2) dd_206_56 rfl ?_
  refine e_imul (v := 64 * s) dd_206_57 (by omega) ?_
  refine g_iload_n (i := 3) dd_206_58 rfl ?_
  refine e_iadd (v := 64 * s + t) dd_206_59 (by omega) ?_
  refine g_lload dd_206_60 rfl ?_
  refine g_lload dd_206_62 rfl ?_
  refine g_lmul dd_206_64 ?_
  refine g_ldc2 dd_206_65 w_1399 ?_
  refine g_lrem dd_206_68 (by decide) ?_
  refine g_ldc2 dd_206_69 w_1400 ?_
  refine g_lrem dd_206_72 (by decide) ?_
  refine g_lconst dd_206_73 ?_
  refine g_lcmp (v := 0) dd_206_74 (by show lg_cmp (ni_E z t s) (Int64.ofNat 0) = _; rw [hE]; rfl) ?_
  refine g_if_ne_f (t := 82) dd_206_75 (by decide) (by decide) ?_
  refine g_iconst dd_206_78 ic_1 ?_
  refine g_goto (t := 83) dd_206_79 (by decide) ?_
  refine g_zastore dd_206_83 (ms_g83 hH) (by omega) (by decide) ?_
  refine am_heq (ms_u83 hH) ?_
  show am_Good mi_206 84 [some (.ref 66), some (.retAddr z), some (.retAddr s), some (.retAddr t), some (.long (((((7919 : Int64) * (Int32.ofNat z).toInt64) + ((6151 : Int64) * (Int32.ofNat t).toInt64)) + ((3571 : Int64) * (Int32.ofNat s).toInt64)) + (Int64.ofNat 1))), none] [] (ms h w f (am_as b (64 * s + t) 1)) _
  refine e_iinc (v := 1) (w := t + 1) dd_206_84 rfl ic_1 (am_nlb_ok rfl) (by decide) (by omega) ?_
  refine g_goto (t := 18) dd_206_87 (by decide) ?_
  refine g_forget (L' := [some (.ref 66), some (.retAddr z), some (.retAddr s), some (.retAddr (t + 1)), none, none]) ?_ hg
  intro i v_ hi
  match i, hi with
  | 0, hi => exact hi
  | 1, hi => exact hi
  | 2, hi => exact hi
  | 3, hi => exact hi
  | 4, hi => cases hi
  | 5, hi => cases hi
  | i + 6, hi => cases hi
theorem ln_f {h : am_H} {vs : List Value} {Z R : Nat → Nat} {w f b mi z : Nat} (hH : ms_ok h) (q66 : am_get h 66 = some (.inr (12, vs))) (f2 : vs[2]? = some (.retAddr (Z 0))) (f3 : vs[3]? = some (.ref 67)) (f4 : vs[4]? = some (.retAddr (Z 1))) (f5 : vs[5]? = some (.ref 68)) (f6 : vs[6]? = some (.retAddr (Z 2))) (f7 : vs[7]? = some (.ref 69)) (f8 : vs[8]? = some (.retAddr (Z 3))) (f9 : vs[9]? = some (.ref 70)) (f0 : vs[0]? = some (.retAddr mi)) (f32 : vs[32]? = some (.ref 81)) (f33 : vs[33]? = some (.ref 82)) (f34 : vs[34]? = some (.ref 83)) (a67 : am_get h 67 = some (.inl (0, 4, R 0))) (a68 : am_get h 68 = some (.inl (0, 45, R 1))) (a69 : am_get h 69 = some (.inl (0, 18, R 2))) (a70 : am_get h 70 = some (.inl (0, 16, R 3))) (vZ : ∀ k, k < 6 → Z k ≤ je_z k) (hB : je_B Z R) (zm : mi ≤ 60) {r : am_R} {s t : Nat} {v4 : Option Value} (hs : s < Z 0) (ht : t < mi) (hE : ¬ ni_E z t s = 0) (hg : am_Good mi_206 18 [some (.ref 66), some (.retAddr z), some (.retAddr s), some (.retAddr (t + 1)), none, none] [] (ms h w f (am_as b (64 * s + t) 0)) r) : am_Good mi_206 18 [some (.ref 66), some (.retAddr z), some (.retAddr s), some (.retAddr t), none, none] [] (ms h w f b) r := by
  have z0 : Z 0 ≤ 4 := vZ 0 (by decide)
  have z1 : Z 1 ≤ 9 := vZ 1 (by decide)
  have z2 : Z 2 ≤ 6 := vZ 2 (by decide)
  have z3 : Z 3 ≤ 4 := vZ 3 (by decide)
  obtain ⟨v, hv, hv0⟩ := ng_cmp hE
  refine g_iload_n (i := 3) dd_206_18 rfl ?_
  refine g_aload_n (i := 0) dd_206_19 rfl ?_
  refine g_getfield (k := 0) am_ck12 (by decide) (Or.inl w_935) dd_206_20 ((ms_o hH rfl).trans q66) f0 ?_
  refine g_icmp_ge_f (t := 90) dd_206_23 (by decide) (by first | exact sk_ge_f (by omega) (by omega) | exact tk_ge_f (by omega)) ?_
  refine g_ldc2 dd_206_26 w_1396 ?_
  refine g_iload_n (i := 1) dd_206_29 rfl ?_
  refine g_i2l dd_206_30 ?_
  refine g_lmul dd_206_31 ?_
  refine g_ldc2 dd_206_32 w_1397 ?_
  refine g_iload_n (i := 3) dd_206_35 rfl ?_
  refine g_i2l dd_206_36 ?_
  refine g_lmul dd_206_37 ?_
  refine g_ladd dd_206_38 ?_
  refine g_ldc2 dd_206_39 w_1398 ?_
  refine g_iload_n (i := 2) dd_206_42 rfl ?_
  refine g_i2l dd_206_43 ?_
  refine g_lmul dd_206_44 ?_
  refine g_ladd dd_206_45 ?_
  refine g_lconst dd_206_46 ?_
  refine g_ladd dd_206_47 ?_
  refine g_lstore dd_206_48 (am_nlb_ok rfl) (by decide) ?_
  refine g_aload_n (i := 0) dd_206_50 rfl ?_
  refine g_getfield (k := 34) am_ck12 (by decide) (Or.inl w_969) dd_206_51 ((ms_o hH rfl).trans q66) f34 ?_
  refine g_bipush dd_206_54 bi_64 ?_
  refine g_iload_n (i := 2) dd_206_56 rfl ?_
  refine e_imul (v := 64 * s) dd_206_57 (by omega) ?_
  refine g_iload_n (i := 3) dd_206_58 rfl ?_
  refine e_iadd (v := 64 * s + t) dd_206_59 (by omega) ?_
  refine g_lload dd_206_60 rfl ?_
  refine g_lload dd_206_62 rfl ?_
  refine g_lmul dd_206_64 ?_
  refine g_ldc2 dd_206_65 w_1399 ?_
  refine g_lrem dd_206_68 (by decide) ?_
  refine g_ldc2 dd_206_69 w_1400 ?_
  refine g_lrem dd_206_72 (by decide) ?_
  refine g_lconst dd_206_73 ?_
  refine g_lcmp (v := v) dd_206_74 hv ?_
  refine g_if_ne_t (t := 82) dd_206_75 (by decide) (tk_ne_t (by omega)) ?_
  refine g_iconst dd_206_82 ic_0 ?_
  refine g_zastore dd_206_83 (ms_g83 hH) (by omega) (by decide) ?_
  refine am_heq (ms_u83 hH) ?_
  show am_Good mi_206 84 [some (.ref 66), some (.retAddr z), some (.retAddr s), some (.retAddr t), some (.long (((((7919 : Int64) * (Int32.ofNat z).toInt64) + ((6151 : Int64) * (Int32.ofNat t).toInt64)) + ((3571 : Int64) * (Int32.ofNat s).toInt64)) + (Int64.ofNat 1))), none] [] (ms h w f (am_as b (64 * s + t) 0)) _
  refine e_iinc (v := 1) (w := t + 1) dd_206_84 rfl ic_1 (am_nlb_ok rfl) (by decide) (by omega) ?_
  refine g_goto (t := 18) dd_206_87 (by decide) ?_
  refine g_forget (L' := [some (.ref 66), some (.retAddr z), some (.retAddr s), some (.retAddr (t + 1)), none, none]) ?_ hg
  intro i v_ hi
  match i, hi with
  | 0, hi => exact hi
  | 1, hi => exact hi
  | 2, hi => exact hi
  | 3, hi => exact hi
  | 4, hi => cases hi
  | 5, hi => cases hi
  | i + 6, hi => cases hi
theorem ln_a {h : am_H} {vs : List Value} {Z R : Nat → Nat} {w f b mi z : Nat} (hH : ms_ok h) (q66 : am_get h 66 = some (.inr (12, vs))) (f2 : vs[2]? = some (.retAddr (Z 0))) (f3 : vs[3]? = some (.ref 67)) (f4 : vs[4]? = some (.retAddr (Z 1))) (f5 : vs[5]? = some (.ref 68)) (f6 : vs[6]? = some (.retAddr (Z 2))) (f7 : vs[7]? = some (.ref 69)) (f8 : vs[8]? = some (.retAddr (Z 3))) (f9 : vs[9]? = some (.ref 70)) (f0 : vs[0]? = some (.retAddr mi)) (f32 : vs[32]? = some (.ref 81)) (f33 : vs[33]? = some (.ref 82)) (f34 : vs[34]? = some (.ref 83)) (a67 : am_get h 67 = some (.inl (0, 4, R 0))) (a68 : am_get h 68 = some (.inl (0, 45, R 1))) (a69 : am_get h 69 = some (.inl (0, 18, R 2))) (a70 : am_get h 70 = some (.inl (0, 16, R 3))) (vZ : ∀ k, k < 6 → Z k ≤ je_z k) (hB : je_B Z R) (zm : mi ≤ 60) {r : am_R} {s : Nat} (hs : s < Z 0) (hg : am_Good mi_206 8 [some (.ref 66), some (.retAddr z), some (.retAddr (s + 1)), some (.retAddr mi), none, none] [] (ms h w f b) r) : am_Good mi_206 18 [some (.ref 66), some (.retAddr z), some (.retAddr s), some (.retAddr mi), none, none] [] (ms h w f b) r := by
  have z0 : Z 0 ≤ 4 := vZ 0 (by decide)
  have z1 : Z 1 ≤ 9 := vZ 1 (by decide)
  have z2 : Z 2 ≤ 6 := vZ 2 (by decide)
  have z3 : Z 3 ≤ 4 := vZ 3 (by decide)
  refine g_iload_n (i := 3) dd_206_18 rfl ?_
  refine g_aload_n (i := 0) dd_206_19 rfl ?_
  refine g_getfield (k := 0) am_ck12 (by decide) (Or.inl w_935) dd_206_20 ((ms_o hH rfl).trans q66) f0 ?_
  refine g_icmp_ge_t (t := 90) dd_206_23 (by decide) (by first | exact sk_ge_t (by omega) (by omega) | exact tk_ge_t (by omega)) ?_
  refine e_iinc (v := 1) (w := s + 1) dd_206_90 rfl ic_1 (am_nlb_ok rfl) (by decide) (by omega) ?_
  refine g_goto (t := 8) dd_206_93 (by decide) ?_
  exact hg
theorem ln_b {h : am_H} {vs : List Value} {Z R : Nat → Nat} {w f b mi z : Nat} (hH : ms_ok h) (q66 : am_get h 66 = some (.inr (12, vs))) (f2 : vs[2]? = some (.retAddr (Z 0))) (f3 : vs[3]? = some (.ref 67)) (f4 : vs[4]? = some (.retAddr (Z 1))) (f5 : vs[5]? = some (.ref 68)) (f6 : vs[6]? = some (.retAddr (Z 2))) (f7 : vs[7]? = some (.ref 69)) (f8 : vs[8]? = some (.retAddr (Z 3))) (f9 : vs[9]? = some (.ref 70)) (f0 : vs[0]? = some (.retAddr mi)) (f32 : vs[32]? = some (.ref 81)) (f33 : vs[33]? = some (.ref 82)) (f34 : vs[34]? = some (.ref 83)) (a67 : am_get h 67 = some (.inl (0, 4, R 0))) (a68 : am_get h 68 = some (.inl (0, 45, R 1))) (a69 : am_get h 69 = some (.inl (0, 18, R 2))) (a70 : am_get h 70 = some (.inl (0, 16, R 3))) (vZ : ∀ k, k < 6 → Z k ≤ je_z k) (hB : je_B Z R) (zm : mi ≤ 60) {r : am_R} {s : Nat} {v3 : Option Value} (hs : s < Z 0) (hg : am_Good mi_206 18 [some (.ref 66), some (.retAddr z), some (.retAddr s), some (.retAddr 0), none, none] [] (ms h w f b) r) : am_Good mi_206 8 [some (.ref 66), some (.retAddr z), some (.retAddr s), v3, none, none] [] (ms h w f b) r := by
  have z0 : Z 0 ≤ 4 := vZ 0 (by decide)
  have z1 : Z 1 ≤ 9 := vZ 1 (by decide)
  have z2 : Z 2 ≤ 6 := vZ 2 (by decide)
  have z3 : Z 3 ≤ 4 := vZ 3 (by decide)
  refine g_iload_n (i := 2) dd_206_8 rfl ?_
  refine g_aload_n (i := 0) dd_206_9 rfl ?_
  refine g_getfield (k := 2) am_ck12 (by decide) (Or.inl w_937) dd_206_10 ((ms_o hH rfl).trans q66) f2 ?_
  refine g_icmp_ge_f (t := 96) dd_206_13 (by decide) (by first | exact sk_ge_f (by omega) (by omega) | exact tk_ge_f (by omega)) ?_
  refine g_iconst dd_206_16 ic_0 ?_
  refine g_istore_n (i := 3) dd_206_17 (am_nlb_ok rfl) (by decide) ?_
  exact hg
theorem ln_c {h : am_H} {vs : List Value} {Z R : Nat → Nat} {w f b mi z : Nat} (hH : ms_ok h) (q66 : am_get h 66 = some (.inr (12, vs))) (f2 : vs[2]? = some (.retAddr (Z 0))) (f3 : vs[3]? = some (.ref 67)) (f4 : vs[4]? = some (.retAddr (Z 1))) (f5 : vs[5]? = some (.ref 68)) (f6 : vs[6]? = some (.retAddr (Z 2))) (f7 : vs[7]? = some (.ref 69)) (f8 : vs[8]? = some (.retAddr (Z 3))) (f9 : vs[9]? = some (.ref 70)) (f0 : vs[0]? = some (.retAddr mi)) (f32 : vs[32]? = some (.ref 81)) (f33 : vs[33]? = some (.ref 82)) (f34 : vs[34]? = some (.ref 83)) (a67 : am_get h 67 = some (.inl (0, 4, R 0))) (a68 : am_get h 68 = some (.inl (0, 45, R 1))) (a69 : am_get h 69 = some (.inl (0, 18, R 2))) (a70 : am_get h 70 = some (.inl (0, 16, R 3))) (vZ : ∀ k, k < 6 → Z k ≤ je_z k) (hB : je_B Z R) (zm : mi ≤ 60) {v3 : Option Value} : am_Good mi_206 8 [some (.ref 66), some (.retAddr z), some (.retAddr (Z 0)), v3, none, none] [] (ms h w f b) (none, (ms h (zf (lb b w 0) w 256) (zf (lb b f 4294967292) f 256) b)) := by
  have z0 : Z 0 ≤ 4 := vZ 0 (by decide)
  have z1 : Z 1 ≤ 9 := vZ 1 (by decide)
  have z2 : Z 2 ≤ 6 := vZ 2 (by decide)
  have z3 : Z 3 ≤ 4 := vZ 3 (by decide)
  refine g_iload_n (i := 2) dd_206_8 rfl ?_
  refine g_aload_n (i := 0) dd_206_9 rfl ?_
  refine g_getfield (k := 2) am_ck12 (by decide) (Or.inl w_937) dd_206_10 ((ms_o hH rfl).trans q66) f2 ?_
  refine g_icmp_ge_t (t := 96) dd_206_13 (by decide) (by first | exact sk_ge_t (by omega) (by omega) | exact tk_ge_t (by omega)) ?_
  refine g_aload_n (i := 0) dd_206_96 rfl ?_
  refine g_virtual (M' := mi_159) (n := 0) (ci := 12) (b := 66) (as := []) (st := []) (r1 := (none, (ms h (zf (lb b w 0) w 256) (zf (lb b f 4294967292) f 256) b))) w_1207 w_1209 ps_159 ⟨lk_159.1, lk_159.2.1, lk_159.2.2, by decide, by decide⟩ rfl ((ms_o hH rfl).trans q66) rfl (by simp [Value.category]) dd_206_97 (lb_m hH q66 f2 f3 f4 f5 f6 f7 f8 f9 f32 f33 f34 a67 a68 a69 a70 vZ hB) ?_
  show am_Good mi_206 100 [some (.ref 66), some (.retAddr z), some (.retAddr (Z 0)), v3, none, none] [] (ms h (zf (lb b w 0) w 256) (zf (lb b f 4294967292) f 256) b) _
  exact g_return rfl dd_206_100
theorem ln_l {h : am_H} {vs : List Value} {Z R : Nat → Nat} {w f b mi z : Nat} (hH : ms_ok h) (q66 : am_get h 66 = some (.inr (12, vs))) (f2 : vs[2]? = some (.retAddr (Z 0))) (f3 : vs[3]? = some (.ref 67)) (f4 : vs[4]? = some (.retAddr (Z 1))) (f5 : vs[5]? = some (.ref 68)) (f6 : vs[6]? = some (.retAddr (Z 2))) (f7 : vs[7]? = some (.ref 69)) (f8 : vs[8]? = some (.retAddr (Z 3))) (f9 : vs[9]? = some (.ref 70)) (f0 : vs[0]? = some (.retAddr mi)) (f32 : vs[32]? = some (.ref 81)) (f33 : vs[33]? = some (.ref 82)) (f34 : vs[34]? = some (.ref 83)) (a67 : am_get h 67 = some (.inl (0, 4, R 0))) (a68 : am_get h 68 = some (.inl (0, 45, R 1))) (a69 : am_get h 69 = some (.inl (0, 18, R 2))) (a70 : am_get h 70 = some (.inl (0, 16, R 3))) (vZ : ∀ k, k < 6 → Z k ≤ je_z k) (hB : je_B Z R) (zm : mi ≤ 60) {r : am_R} {s : Nat} (hs : s < Z 0) (hg : am_Good mi_206 18 [some (.ref 66), some (.retAddr z), some (.retAddr s), some (.retAddr mi), none, none] [] (ms h w f (zr (nbn z s) (64 * s) b mi)) r) : ∀ (k t : Nat), t + k = mi → am_Good mi_206 18 [some (.ref 66), some (.retAddr z), some (.retAddr s), some (.retAddr t), none, none] [] (ms h w f (zr (nbn z s) (64 * s) b t)) r
  | 0, t, e => by
    have e' : t = mi := by omega
    subst e'
    exact hg
  | k + 1, t, e => by
    have q := ln_l hH q66 f2 f3 f4 f5 f6 f7 f8 f9 f0 f32 f33 f34 a67 a68 a69 a70 vZ hB zm hs hg k (t + 1) (by omega)
    have st : zr (nbn z s) (64 * s) b (t + 1) = am_as (zr (nbn z s) (64 * s) b t) (64 * s + t) (nbn z s t) := rfl
    rw [st] at q
    by_cases hE : ni_E z t s = 0
    · have hb : nbn z s t = 1 := if_pos (decide_eq_true hE)
      rw [hb] at q
      exact ln_t (v4 := none) hH q66 f2 f3 f4 f5 f6 f7 f8 f9 f0 f32 f33 f34 a67 a68 a69 a70 vZ hB zm hs (by omega) hE q
    · have hb : nbn z s t = 0 := if_neg (fun a => hE (of_decide_eq_true a))
      rw [hb] at q
      exact ln_f (v4 := none) hH q66 f2 f3 f4 f5 f6 f7 f8 f9 f0 f32 f33 f34 a67 a68 a69 a70 vZ hB zm hs (by omega) hE q
theorem ln_o {h : am_H} {vs : List Value} {Z R : Nat → Nat} {w f b mi z : Nat} (hH : ms_ok h) (q66 : am_get h 66 = some (.inr (12, vs))) (f2 : vs[2]? = some (.retAddr (Z 0))) (f3 : vs[3]? = some (.ref 67)) (f4 : vs[4]? = some (.retAddr (Z 1))) (f5 : vs[5]? = some (.ref 68)) (f6 : vs[6]? = some (.retAddr (Z 2))) (f7 : vs[7]? = some (.ref 69)) (f8 : vs[8]? = some (.retAddr (Z 3))) (f9 : vs[9]? = some (.ref 70)) (f0 : vs[0]? = some (.retAddr mi)) (f32 : vs[32]? = some (.ref 81)) (f33 : vs[33]? = some (.ref 82)) (f34 : vs[34]? = some (.ref 83)) (a67 : am_get h 67 = some (.inl (0, 4, R 0))) (a68 : am_get h 68 = some (.inl (0, 45, R 1))) (a69 : am_get h 69 = some (.inl (0, 18, R 2))) (a70 : am_get h 70 = some (.inl (0, 16, R 3))) (vZ : ∀ k, k < 6 → Z k ≤ je_z k) (hB : je_B Z R) (zm : mi ≤ 60) : ∀ (k s : Nat) (v3 : Option Value), s + k = Z 0 → am_Good mi_206 8 [some (.ref 66), some (.retAddr z), some (.retAddr s), v3, none, none] [] (ms h w f (zro z mi b s)) (none, (ms h (zf (lb (zro z mi b (Z 0)) w 0) w 256) (zf (lb (zro z mi b (Z 0)) f 4294967292) f 256) (zro z mi b (Z 0))))
  | 0, s, v3, e => by
    have e' : s = Z 0 := by omega
    subst e'
    exact ln_c (z := z) hH q66 f2 f3 f4 f5 f6 f7 f8 f9 f0 f32 f33 f34 a67 a68 a69 a70 vZ hB zm
  | k + 1, s, v3, e => by
    have q := ln_o (w := w) (f := f) (b := b) (z := z) hH q66 f2 f3 f4 f5 f6 f7 f8 f9 f0 f32 f33 f34 a67 a68 a69 a70 vZ hB zm k (s + 1) (some (.retAddr mi)) (by omega)
    exact ln_b hH q66 f2 f3 f4 f5 f6 f7 f8 f9 f0 f32 f33 f34 a67 a68 a69 a70 vZ hB zm (by omega) (ln_l hH q66 f2 f3 f4 f5 f6 f7 f8 f9 f0 f32 f33 f34 a67 a68 a69 a70 vZ hB zm (by omega) (ln_a hH q66 f2 f3 f4 f5 f6 f7 f8 f9 f0 f32 f33 f34 a67 a68 a69 a70 vZ hB zm (by omega) q) mi 0 (by omega))
theorem ln_m {h : am_H} {vs : List Value} {Z R : Nat → Nat} {w f b mi z : Nat} (hH : ms_ok h) (q66 : am_get h 66 = some (.inr (12, vs))) (f2 : vs[2]? = some (.retAddr (Z 0))) (f3 : vs[3]? = some (.ref 67)) (f4 : vs[4]? = some (.retAddr (Z 1))) (f5 : vs[5]? = some (.ref 68)) (f6 : vs[6]? = some (.retAddr (Z 2))) (f7 : vs[7]? = some (.ref 69)) (f8 : vs[8]? = some (.retAddr (Z 3))) (f9 : vs[9]? = some (.ref 70)) (f0 : vs[0]? = some (.retAddr mi)) (f32 : vs[32]? = some (.ref 81)) (f33 : vs[33]? = some (.ref 82)) (f34 : vs[34]? = some (.ref 83)) (a67 : am_get h 67 = some (.inl (0, 4, R 0))) (a68 : am_get h 68 = some (.inl (0, 45, R 1))) (a69 : am_get h 69 = some (.inl (0, 18, R 2))) (a70 : am_get h 70 = some (.inl (0, 16, R 3))) (vZ : ∀ k, k < 6 → Z k ≤ je_z k) (hB : je_B Z R) (zm : mi ≤ 60) : am_EG mi_206 [.ref 66, .retAddr z] (ms h w f b) (none, (ms h (zf (lb (zro z mi (zf (fun _ => 0) b 256) (Z 0)) (lcw Z R 4294967292 w) 0) (lcw Z R 4294967292 w) 256) (zf (lb (zro z mi (zf (fun _ => 0) b 256) (Z 0)) (lcf Z R 4294967292 f) 4294967292) (lcf Z R 4294967292 f) 256) (zro z mi (zf (fun _ => 0) b 256) (Z 0)))) := by
  refine am_enter (n := 4) tk_206.2.1 (by simp [Value.category]) (Nat.le_of_ble_eq_true rfl) ?_
  show am_Good mi_206 0 [some (.ref 66), some (.retAddr z), none, none, none, none] [] (ms h w f b) _
  refine g_aload_n (i := 0) dd_206_0 rfl ?_
  refine g_bipush dd_206_1 bi_m4 ?_
  refine g_virtual (M' := mi_156) (n := 1) (ci := 12) (b := 66) (as := [.retAddr 4294967292]) (st := []) (r1 := (none, (ms h (lcw Z R 4294967292 w) (lcf Z R 4294967292 f) (zf (fun _ => 0) b 256)))) w_1196 w_1198 ps_156 ⟨lk_156.1, lk_156.2.1, lk_156.2.2, by decide, by decide⟩ rfl ((ms_o hH rfl).trans q66) rfl (by simp [Value.category]) dd_206_3 (ls_m hH q66 f2 f3 f4 f5 f6 f7 f8 f9 f32 f33 f34 a67 a68 a69 a70 vZ hB (by decide)) ?_
  show am_Good mi_206 6 [some (.ref 66), some (.retAddr z), none, none, none, none] [] (ms h (lcw Z R 4294967292 w) (lcf Z R 4294967292 f) (zf (fun _ => 0) b 256)) _
  refine g_iconst dd_206_6 ic_0 ?_
  refine g_istore_n (i := 2) dd_206_7 (am_nlb_ok rfl) (by decide) ?_
  exact ln_o hH q66 f2 f3 f4 f5 f6 f7 f8 f9 f0 f32 f33 f34 a67 a68 a69 a70 vZ hB zm (Z 0) 0 none (by omega)
