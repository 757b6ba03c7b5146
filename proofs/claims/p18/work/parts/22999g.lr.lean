/-! ===== learning, purely: minute by minute, to the end ===== -/
theorem lz_eq7 {a b : Nat} (ha : a ≤ 7) (hb : b ≤ 7) (h : ∀ n, n < 7 → (a ≤ n ↔ b ≤ n)) : a = b := by
  rcases Nat.lt_trichotomy a b with q | q | q
  · have := (h a (by omega)).mp (Nat.le_refl _); omega
  · exact q
  · have := (h b (by omega)).mpr (Nat.le_refl _); omega
/-- what an evening is, for learning -/
def lz_V (cl : Nat → Nat) (f : Nat → Nat → Nat) (go st len fr en A F : Nat) : Prop := lz_C cl ∧ (∀ s t, f s t < 256) ∧ go ≤ 3 ∧ st ≤ 4 ∧ fr < st ∧ (F < 256 ∧ A = cl F) ∧ (∀ s t, s < st → t < len → lz_sub (f s t) F) ∧ en ≤ len ∧ len ≤ 60 ∧ ∀ s t, s < st → en ≤ t → t < len → f s t = 0
theorem lz_V_A {cl : Nat → Nat} {f : Nat → Nat → Nat} {go st len fr en A F : Nat} (h : lz_V cl f go st len fr en A F) : A < 256 ∧ cl A = A ∧ (∀ s t, s < st → t < en → lz_sub (f s t) A) := by
  obtain ⟨hC, hf, -, -, -, ⟨hF, rfl⟩, hs, he, -, -⟩ := h
  exact ⟨hC.1 _ hF, lz_C_2 hC hF, fun s t h1 h2 j hj => hC.2.2.2.1 F j (hs s t h1 (by omega) j hj)⟩
theorem lz_V_in {cl : Nat → Nat} {f : Nat → Nat → Nat} {go st len fr en A F : Nat} (h : lz_V cl f go st len fr en A F) {k : Nat} (hk : k ≤ 1024 * len) {u g x : Nat} (hg : g < 4) (hx : x < 256) (he : lz_e f go st len fr k (lz_ixr u g x) ≤ 6) : g < st ∧ lz_sub (cl x) A ∧ (u = 0 ∨ 1024 * u < k + 3072) := by
  obtain ⟨hC, hf, h3, h4, h5, ⟨hF, rfl⟩, hs, -, -, -⟩ := h
  obtain ⟨a, b, c⟩ := lz_e_in h3 h4 h5 hf hs k hk u g x hg hx he
  exact ⟨a, hC.2.2.1 _ _ hx hF b, c⟩
/-- a minute's row stays -/
theorem lz_fin {f : Nat → Nat → Nat} {go st len fr t s y : Nat} (hg : go ≤ 3) (ht : t ≤ len) (hs : s < 4) (hy : y < 256) : lz_e f go st len fr (1024 * len) (lz_ixr t s y) = lz_e f go st len fr (1024 * t) (lz_ixr t s y) := by
  have q := lz_e_st (f := f) (go := go) (st := st) (len := len) (fr := fr) (k := 1024 * t) (i := lz_ixr t s y) hg (by unfold lz_ixr; omega) (1024 * len - 1024 * t)
  rw [show 1024 * t + (1024 * len - 1024 * t) = 1024 * len by omega] at q
  exact q
/-- what is found in a minute -/
theorem lz_ff_m {cl : Nat → Nat} {f : Nat → Nat → Nat} {go st len fr set t : Nat} (hg : go ≤ 3) (ht : t ≤ len) (h60 : len ≤ 60) (h0 : lz_fI (lz_ff (lz_e f go st len fr (1024 * len)) cl set (1024 * t))) : lz_fI (lz_ff (lz_e f go st len fr (1024 * len)) cl set (1024 * (t + 1))) ∧ (∀ n, n < 7 → ((lz_ff (lz_e f go st len fr (1024 * len)) cl set (1024 * (t + 1))).1 ≤ n ↔ (lz_ff (lz_e f go st len fr (1024 * len)) cl set (1024 * t)).1 ≤ n ∨ ∃ s y, s < 4 ∧ y < 256 ∧ lz_sat set (cl y) ∧ lz_e f go st len fr (1024 * t) (lz_ixr t s y) ≤ n)) ∧ (((lz_ff (lz_e f go st len fr (1024 * len)) cl set (1024 * (t + 1))).1 = (lz_ff (lz_e f go st len fr (1024 * len)) cl set (1024 * t)).1 ∧ (lz_ff (lz_e f go st len fr (1024 * len)) cl set (1024 * (t + 1))).2.1 = (lz_ff (lz_e f go st len fr (1024 * len)) cl set (1024 * t)).2.1) ∨ ((lz_ff (lz_e f go st len fr (1024 * len)) cl set (1024 * (t + 1))).1 < (lz_ff (lz_e f go st len fr (1024 * len)) cl set (1024 * t)).1 ∧ (lz_ff (lz_e f go st len fr (1024 * len)) cl set (1024 * (t + 1))).2.1 = t)) ∧ (lz_ff (lz_e f go st len fr (1024 * len)) cl set (1024 * (t + 1))).2.2 = if (lz_ff (lz_e f go st len fr (1024 * len)) cl set (1024 * t)).1 < 7 then (lz_ff (lz_e f go st len fr (1024 * len)) cl set (1024 * t)).2.2 else if (lz_ff (lz_e f go st len fr (1024 * len)) cl set (1024 * (t + 1))).1 < 7 then t else 4294967292 := by
  obtain ⟨a, b, c, d⟩ := lz_ff_mi (e := lz_e f go st len fr (1024 * len)) (cl := cl) (set := set) (t := t) (by omega) h0 1024 (Nat.le_refl _)
  rw [show 1024 * (t + 1) = 1024 * t + 1024 by omega]
  refine ⟨a, fun n hn => ?_, c, d⟩
  rw [b n hn]
  refine ⟨fun h => h.elim Or.inl (fun ⟨k, h1, h2, h3⟩ => ?_), fun h => h.elim Or.inl (fun ⟨s, y, h1, h2, h3, h4⟩ => ?_)⟩
  · refine Or.inr ⟨k / 256, k % 256, by omega, by omega, h2, ?_⟩
    rw [← lz_fin hg ht (by omega) (by omega), show lz_ixr t (k / 256) (k % 256) = 1024 * t + k by unfold lz_ixr; omega]
    exact h3
  · refine Or.inr ⟨256 * s + y, by omega, by rw [show (256 * s + y) % 256 = y by omega]; exact h3, ?_⟩
    rw [← lz_fin hg ht h1 h2, show lz_ixr t s y = 1024 * t + (256 * s + y) by unfold lz_ixr; omega] at h4
    exact h4
theorem lz_ff_I {cl : Nat → Nat} {f : Nat → Nat → Nat} {go st len fr set : Nat} (hg : go ≤ 3) (h60 : len ≤ 60) : ∀ t, t ≤ len + 1 → lz_fI (lz_ff (lz_e f go st len fr (1024 * len)) cl set (1024 * t))
  | 0, _ => ⟨Nat.le_refl _, fun _ => ⟨rfl, rfl⟩, fun h => absurd h (Nat.lt_irrefl _)⟩
  | t + 1, ht => (lz_ff_m hg (by omega) h60 (lz_ff_I hg h60 t (by omega))).1
/-- a minute through: what was found -/
theorem lz_M_f {cl : Nat → Nat} {f : Nat → Nat → Nat} {go st len fr en A F set t : Nat} (hV : lz_V cl f go st len fr en A F) (ht : t ≤ en) {c : Nat → Nat} {b fg mf ma : Nat} (hM : lz_M (lz_e f go st len fr (1024 * t)) en A cl f go st set (lz_ff (lz_e f go st len fr (1024 * len)) cl set (1024 * t)).1 (lz_ff (lz_e f go st len fr (1024 * len)) cl set (1024 * t)).2.1 (lz_ff (lz_e f go st len fr (1024 * len)) cl set (1024 * t)).2.2 t (fun s' x' => s' < st ∧ x' ≤ A) c b fg mf ma) : b = (lz_ff (lz_e f go st len fr (1024 * len)) cl set (1024 * (t + 1))).1 ∧ mf = (lz_ff (lz_e f go st len fr (1024 * len)) cl set (1024 * (t + 1))).2.1 ∧ ma = (lz_ff (lz_e f go st len fr (1024 * len)) cl set (1024 * (t + 1))).2.2 := by
  have hV' := hV
  obtain ⟨hC, hf, hg, h4, h5, ⟨hF, hA⟩, hs, hel, h60, hz⟩ := hV'
  have I0 := lz_ff_I (cl := cl) (f := f) (go := go) (st := st) (len := len) (fr := fr) (set := set) hg h60 t (by omega)
  obtain ⟨I1, g2, g3, g4⟩ := lz_ff_m (cl := cl) (f := f) (st := st) (fr := fr) (set := set) hg (show t ≤ len by omega) h60 I0
  obtain ⟨-, -, ⟨m3, m4⟩, -, m6, -, m8, -, -⟩ := hM
  have eb : b = (lz_ff (lz_e f go st len fr (1024 * len)) cl set (1024 * (t + 1))).1 := lz_eq7 m3 I1.1 fun n hn => by
    rw [m4 n hn, g2 n hn]
    refine ⟨fun h => h.elim Or.inl (fun ⟨s, y, a1, a2, a3, a4⟩ => Or.inr ⟨s, y, a1, a2, a4⟩), fun h => h.elim Or.inl (fun ⟨s, y, a1, a2, a3, a4⟩ => ?_)⟩
    obtain ⟨b1, b2, -⟩ := lz_V_in hV (show 1024 * t ≤ 1024 * len by omega) a1 a2 (Nat.le_trans a4 (by omega))
    exact Or.inr ⟨s, y, a1, a2, ⟨b1, lz_sub_le b2⟩, a3, a4⟩
  refine ⟨eb, ?_, ?_⟩
  · rcases m6 with ⟨r1, r2⟩ | ⟨r1, r2⟩ <;> rcases g3 with ⟨q1, q2⟩ | ⟨q1, q2⟩ <;> omega
  · rw [m8, g4, ← eb]
theorem lz_M_0 {cl : Nat → Nat} {f : Nat → Nat → Nat} {go st len fr en A F set t : Nat} (hV : lz_V cl f go st len fr en A F) {E : Nat → Nat} {fw so an : Nat} {c : Nat → Nat} {b fg mf ma : Nat} (hM : lz_M E en A cl f go st set fw so an t (fun s' x' => s' < st ∧ x' ≤ A) c b fg mf ma) : ∀ s x, s < 4 → x < 256 → c (lz_ixc t s x) = 99 := fun s x hs hx => by
  obtain ⟨m1, -, -, -, -, -, -, -, m10⟩ := hM
  by_cases q : c (lz_ixc t s x) = 99
  · exact q
  · obtain ⟨-, a, b⟩ := m10 t s x (Nat.le_refl _) (by omega) hs hx q
    exact m1 s x hs hx ⟨a, lz_sub_le b⟩
/-- the next minute -/
theorem lz_M_n {cl : Nat → Nat} {f : Nat → Nat → Nat} {go st len fr en A F set t : Nat} (hV : lz_V cl f go st len fr en A F) (ht : t + 1 ≤ en) {c : Nat → Nat} {b fg mf ma : Nat} (hM : lz_M (lz_e f go st len fr (1024 * t)) en A cl f go st set (lz_ff (lz_e f go st len fr (1024 * len)) cl set (1024 * t)).1 (lz_ff (lz_e f go st len fr (1024 * len)) cl set (1024 * t)).2.1 (lz_ff (lz_e f go st len fr (1024 * len)) cl set (1024 * t)).2.2 t (fun s' x' => s' < st ∧ x' ≤ A) c b fg mf ma) : lz_M (lz_e f go st len fr (1024 * (t + 1))) en A cl f go st set (lz_ff (lz_e f go st len fr (1024 * len)) cl set (1024 * (t + 1))).1 (lz_ff (lz_e f go st len fr (1024 * len)) cl set (1024 * (t + 1))).2.1 (lz_ff (lz_e f go st len fr (1024 * len)) cl set (1024 * (t + 1))).2.2 (t + 1) (fun _ _ => False) c b fg mf ma := by
  obtain ⟨eb, em, ea⟩ := lz_M_f hV (by omega) hM
  have c0 := lz_M_0 hV hM
  have hV' := hV
  obtain ⟨hC, hf, hg, h4, h5, ⟨hF, hA⟩, hs, hel, h60, hz⟩ := hV'
  have I1 := lz_ff_I (cl := cl) (f := f) (go := go) (st := st) (len := len) (fr := fr) (set := set) hg h60 (t + 1) (by omega)
  obtain ⟨m1, m2, ⟨m3, m4⟩, m5, m6, m7, m8, m9, m10⟩ := hM
  have c4 : ∀ g z, g < 4 → z < 256 → c (lz_ixc (t + 4) g z) = 99 := fun g z h1 h2 => by
    have q := c0 g z h1 h2
    unfold lz_ixc at q ⊢
    rw [show (t + 4) % 4 = t % 4 by omega]
    exact q
  have key : ∀ u g z n, t < u → u ≤ t + 3 → u ≤ en → g < 4 → z < 256 → n < b → (c (lz_ixc u g z) ≤ n ↔ ∃ x, x < 256 ∧ cl x = z ∧ lz_e f go st len fr (1024 * (t + 1)) (lz_ixr u g x) ≤ n) := fun u g z n h1 h2 h3 h6 h7 h8 => by
    rw [m5 u g z n h1 h2 h3 h6 h7 h8]
    refine ⟨fun ⟨x, x1, x2, x3⟩ => ⟨x, x1, x2, (lz_e_m1 hg h6 x1 hf h4).mpr (x3.elim Or.inl (fun ⟨s, y, m, a1, a2, a3, a4, a5, a6⟩ => Or.inr ⟨by omega, s, y, m, a1, a2, a4, a5, a6⟩))⟩, fun ⟨x, x1, x2, x3⟩ => ⟨x, x1, x2, ((lz_e_m1 hg h6 x1 hf h4).mp x3).elim Or.inl (fun ⟨_, s, y, m, a1, a2, a4, a5, a6⟩ => ?_)⟩⟩
    obtain ⟨b1, b2, -⟩ := lz_V_in hV (show 1024 * t ≤ 1024 * len by omega) a1 a2 a4
    exact Or.inr ⟨s, y, m, a1, a2, ⟨b1, lz_sub_le b2⟩, a4, a5, a6⟩
  refine ⟨fun s x _ _ h => h.elim, fun s x n h1 h2 _ h3 => key (t + 1) s x n (by omega) (by omega) ht h1 h2 h3, ⟨m3, fun n hn => ?_⟩, fun u g z n h1 h2 h3 h6 h7 h8 => ?_, Or.inl ⟨eb, em⟩, m7, ?_, m9, fun u g z h1 h2 h3 h6 h7 => ?_⟩
  · rw [← eb]
    exact ⟨Or.inl, fun h => h.elim (fun h => h) (fun ⟨_, _, _, _, h, _⟩ => h.elim)⟩
  · have ex : (∃ x, x < 256 ∧ cl x = z ∧ (lz_e f go st len fr (1024 * (t + 1)) (lz_ixr u g x) ≤ n ∨ ∃ s y m, s < 4 ∧ y < 256 ∧ False ∧ lz_e f go st len fr (1024 * (t + 1)) (lz_ixr (t + 1) s y) ≤ 6 ∧ lz_S lz_id f go st (t + 1) s y (lz_e f go st len fr (1024 * (t + 1)) (lz_ixr (t + 1) s y)) u g x m ∧ m ≤ n)) ↔ ∃ x, x < 256 ∧ cl x = z ∧ lz_e f go st len fr (1024 * (t + 1)) (lz_ixr u g x) ≤ n := ⟨fun ⟨x, x1, x2, x3⟩ => ⟨x, x1, x2, x3.elim (fun h => h) (fun ⟨_, _, _, _, _, h, _⟩ => h.elim)⟩, fun ⟨x, x1, x2, x3⟩ => ⟨x, x1, x2, Or.inl x3⟩⟩
    rw [ex]
    by_cases q : u = t + 4
    · subst q
      rw [c4 g z h6 h7]
      refine ⟨fun h => by omega, fun ⟨x, x1, x2, x3⟩ => ?_⟩
      obtain ⟨-, -, b3⟩ := lz_V_in hV (show 1024 * (t + 1) ≤ 1024 * len by omega) h6 x1 (Nat.le_trans x3 (by omega))
      omega
    · exact key u g z n (by omega) (by omega) h3 h6 h7 h8
  · rw [← eb, ← ea]
    by_cases q : b < 7
    · rw [if_pos q]
    · rw [if_neg q, if_neg q, ea]
      exact (I1.2.1 (by have := I1.1; omega)).2
  · by_cases q : u = t + 4
    · subst q
      exact absurd (c4 g z h3 h6) h7
    · exact m10 u g z (by omega) (by omega) h3 h6 h7
/-- the beginning -/
def lz_c0 (fr : Nat) : Nat → Nat := fun i => if i = lz_ixc 0 fr 0 then 0 else 99
theorem lz_M_b {cl : Nat → Nat} {f : Nat → Nat → Nat} {go st len fr en A F set : Nat} (hV : lz_V cl f go st len fr en A F) : lz_M (lz_e f go st len fr (1024 * 0)) en A cl f go st set (lz_ff (lz_e f go st len fr (1024 * len)) cl set (1024 * 0)).1 (lz_ff (lz_e f go st len fr (1024 * len)) cl set (1024 * 0)).2.1 (lz_ff (lz_e f go st len fr (1024 * len)) cl set (1024 * 0)).2.2 0 (fun _ _ => False) (lz_c0 fr) 7 4294967292 4294967292 4294967292 := by
  obtain ⟨hC, hf, hg, h4, h5, ⟨hF, hA⟩, hs, hel, h60, hz⟩ := hV
  have e0 : ∀ u g x, g < 4 → x < 256 → ∀ n, n < 7 → (lz_e f go st len fr (1024 * 0) (lz_ixr u g x) ≤ n ↔ u = 0 ∧ g = fr ∧ x = 0) := fun u g x h1 h2 n hn => by
    show (if lz_ixr u g x = 256 * fr then 0 else 7) ≤ n ↔ _
    unfold lz_ixr
    by_cases q : 1024 * u + 256 * g + x = 256 * fr
    · rw [if_pos q]
      exact ⟨fun _ => by omega, fun _ => Nat.zero_le _⟩
    · rw [if_neg q]
      exact ⟨fun h => by omega, fun ⟨a, b, c⟩ => by subst a b c; omega⟩
  have k0 : ∀ u g z, u ≤ 3 → g < 4 → z < 256 → (lz_c0 fr (lz_ixc u g z) = 99 ∧ ¬ (u = 0 ∧ g = fr ∧ z = 0)) ∨ (lz_c0 fr (lz_ixc u g z) = 0 ∧ u = 0 ∧ g = fr ∧ z = 0) := fun u g z h1 h2 h3 => by
    unfold lz_c0
    by_cases q : lz_ixc u g z = lz_ixc 0 fr 0
    · rw [if_pos q]
      have := lz_ixc_i (t := 0) (Nat.zero_le _) (by omega) (Nat.zero_le _) (by omega) h2 h3 (by omega) (by decide) q
      exact Or.inr ⟨rfl, this⟩
    · rw [if_neg q]
      exact Or.inl ⟨rfl, fun ⟨a, b, c⟩ => q (by subst a b c; rfl)⟩
  refine ⟨fun s x _ _ h => h.elim, fun s x n h1 h2 _ h3 => ?_, ⟨Nat.le_refl _, fun n hn => ?_⟩, fun u g z n h1 h2 h3 h6 h7 h8 => ?_, Or.inl ⟨rfl, rfl⟩, rfl, rfl, fun i => ?_, fun u g z h1 h2 h3 h6 h7 => ?_⟩
  · refine ⟨fun h => ?_, fun ⟨y, y1, y2, y3⟩ => ?_⟩
    · rcases k0 0 s x (by omega) h1 h2 with ⟨a, -⟩ | ⟨-, -, rfl, rfl⟩
      · omega
      · exact ⟨0, by decide, hC.2.2.2.2, (e0 0 s 0 h1 (by decide) n h3).mpr ⟨rfl, rfl, rfl⟩⟩
    · obtain ⟨-, rfl, rfl⟩ := (e0 0 s y h1 y1 n h3).mp y3
      rw [hC.2.2.2.2] at y2
      subst y2
      rcases k0 0 s 0 (by omega) h1 (by decide) with ⟨-, a⟩ | ⟨a, -⟩
      · exact absurd ⟨rfl, rfl, rfl⟩ a
      · omega
  · show 7 ≤ n ↔ 7 ≤ n ∨ _
    exact ⟨Or.inl, fun h => h.elim (fun h => h) (fun ⟨_, _, _, _, h, _⟩ => h.elim)⟩
  · refine ⟨fun h => ?_, fun ⟨x, x1, x2, x3⟩ => ?_⟩
    · rcases k0 u g z (by omega) h6 h7 with ⟨a, -⟩ | ⟨-, a, -⟩ <;> omega
    · rcases x3 with x3 | ⟨_, _, _, _, _, h, _⟩
      · have := ((e0 u g x h6 x1 n h8).mp x3).1
        omega
      · exact h.elim
  · unfold lz_c0
    by_cases q : i = lz_ixc 0 fr 0
    · rw [if_pos q]; exact Or.inr (by decide)
    · rw [if_neg q]; exact Or.inl rfl
  · rcases k0 u g z (by omega) h3 h6 with ⟨a, -⟩ | ⟨-, rfl, rfl, rfl⟩
    · exact absurd a h7
    · exact ⟨Nat.zero_le _, h5, fun j hj => by rw [Nat.zero_testBit] at hj; exact absurd hj (by decide)⟩
/-- a minute through -/
theorem lz_M_tf {cl : Nat → Nat} {f : Nat → Nat → Nat} {go st len fr en A F set : Nat} (hV : lz_V cl f go st len fr en A F) (t : Nat) (ht : t ≤ en) {σ : (Nat → Nat) × Nat × Nat × Nat × Nat} (h : lz_M (lz_e f go st len fr (1024 * t)) en A cl f go st set (lz_ff (lz_e f go st len fr (1024 * len)) cl set (1024 * t)).1 (lz_ff (lz_e f go st len fr (1024 * len)) cl set (1024 * t)).2.1 (lz_ff (lz_e f go st len fr (1024 * len)) cl set (1024 * t)).2.2 t (fun _ _ => False) σ.1 σ.2.1 σ.2.2.1 σ.2.2.2.1 σ.2.2.2.2) : lz_M (lz_e f go st len fr (1024 * t)) en A cl f go st set (lz_ff (lz_e f go st len fr (1024 * len)) cl set (1024 * t)).1 (lz_ff (lz_e f go st len fr (1024 * len)) cl set (1024 * t)).2.1 (lz_ff (lz_e f go st len fr (1024 * len)) cl set (1024 * t)).2.2 t (fun s' x' => s' < st ∧ x' ≤ A) (lz_ws en A cl f go st set t σ st).1 (lz_ws en A cl f go st set t σ st).2.1 (lz_ws en A cl f go st set t σ st).2.2.1 (lz_ws en A cl f go st set t σ st).2.2.2.1 (lz_ws en A cl f go st set t σ st).2.2.2.2 := by
  obtain ⟨a1, a2, a3⟩ := lz_V_A hV
  obtain ⟨hC, hf, hg, h4, h5, -, hs, hel, h60, hz⟩ := hV
  have I := lz_ff_I (cl := cl) (f := f) (go := go) (st := st) (len := len) (fr := fr) (set := set) hg h60 t (by omega)
  exact lz_M_s hC hf hg h4 a1 a2 a3 (by omega) I.1 (fun q => (I.2.2 q).2) h st (Nat.le_refl _)
/-- to the end -/
theorem lz_M_t {cl : Nat → Nat} {f : Nat → Nat → Nat} {go st len fr en A F set : Nat} (hV : lz_V cl f go st len fr en A F) : ∀ t, t ≤ en → lz_M (lz_e f go st len fr (1024 * t)) en A cl f go st set (lz_ff (lz_e f go st len fr (1024 * len)) cl set (1024 * t)).1 (lz_ff (lz_e f go st len fr (1024 * len)) cl set (1024 * t)).2.1 (lz_ff (lz_e f go st len fr (1024 * len)) cl set (1024 * t)).2.2 t (fun _ _ => False) (lz_wt en A cl f go st set (lz_c0 fr, 7, 4294967292, 4294967292, 4294967292) t).1 (lz_wt en A cl f go st set (lz_c0 fr, 7, 4294967292, 4294967292, 4294967292) t).2.1 (lz_wt en A cl f go st set (lz_c0 fr, 7, 4294967292, 4294967292, 4294967292) t).2.2.1 (lz_wt en A cl f go st set (lz_c0 fr, 7, 4294967292, 4294967292, 4294967292) t).2.2.2.1 (lz_wt en A cl f go st set (lz_c0 fr, 7, 4294967292, 4294967292, 4294967292) t).2.2.2.2
  | 0, _ => lz_M_b hV
  | t + 1, ht => lz_M_n hV ht (lz_M_tf hV t (by omega) (lz_M_t hV t (by omega)))
/-- behind the last fact nothing new comes -/
theorem lz_Z {cl : Nat → Nat} {f : Nat → Nat → Nat} {go st len fr en A F set : Nat} (hV : lz_V cl f go st len fr en A F) (t : Nat) : t ≤ len → ∀ u g x n, t ≤ u → en < u → g < 4 → x < 256 → lz_sat set (cl x) → n < (lz_ff (lz_e f go st len fr (1024 * len)) cl set (1024 * t)).1 → ¬ lz_e f go st len fr (1024 * t) (lz_ixr u g x) ≤ n := by
  induction t with
  | zero =>
    intro _ u g x n h1 h2 h3 h4 h5 h6 h
    have h7 : n < 7 := h6
    have h' : (if lz_ixr u g x = 256 * fr then 0 else 7) ≤ n := h
    obtain ⟨-, -, -, q4, q5, -⟩ := hV
    clear h h6
    have ne : ¬ lz_ixr u g x = 256 * fr := by unfold lz_ixr; omega
    rw [if_neg ne] at h'
    omega
  | succ t ih =>
    intro ht u g x n h1 h2 h3 h4 h5 h6 h
    have ih := ih (by omega)
    have hV' := hV
    obtain ⟨hC, hf, hg, q4, q5, -, hs, hel, h60, hz⟩ := hV'
    have I0 := lz_ff_I (cl := cl) (f := f) (go := go) (st := st) (len := len) (fr := fr) (set := set) hg h60 t (by omega)
    obtain ⟨I1, g2, g3, g4⟩ := lz_ff_m (cl := cl) (f := f) (st := st) (fr := fr) (set := set) hg (show t ≤ len by omega) h60 I0
    have le : (lz_ff (lz_e f go st len fr (1024 * len)) cl set (1024 * (t + 1))).1 ≤ (lz_ff (lz_e f go st len fr (1024 * len)) cl set (1024 * t)).1 := by
      rcases g3 with ⟨q, -⟩ | ⟨q, -⟩ <;> omega
    rcases (lz_e_m1 hg h3 h4 hf q4).mp h with h | ⟨-, s, y, m, a1, a2, a3, a4, a5⟩
    · exact ih u g x n (by omega) h2 h3 h4 h5 (by omega) h
    · obtain ⟨b1, -, -⟩ := lz_V_in hV (show 1024 * t ≤ 1024 * len by omega) a1 a2 a3
      have su := lz_S_u hg a4
      have ex : x = y := by
        rcases a4 with ⟨c1, rfl, rfl, -⟩ | ⟨c1, -, c2, rfl, -⟩
        · show y ||| f g t = y
          rw [hz g t b1 (by omega) (by omega), Nat.or_zero]
        · unfold lz_X
          unfold lz_T at c2
          by_cases cg : go = 0
          · rw [if_pos cg] at c2 ⊢
            show y ||| f g t = y
            rw [hz g t c1 (by omega) (by omega), Nat.or_zero]
          · rw [if_neg cg]
      subst ex
      have n7 : n < 7 := Nat.lt_of_lt_of_le h6 I1.1
      have := (g2 n n7).mpr (Or.inr ⟨s, x, a1, a2, h5, by omega⟩)
      omega
theorem lz_ff_e {cl : Nat → Nat} {f : Nat → Nat → Nat} {go st len fr en A F set : Nat} (hV : lz_V cl f go st len fr en A F) : ∀ d, en + 1 + d ≤ len + 1 → lz_ff (lz_e f go st len fr (1024 * len)) cl set (1024 * (en + 1 + d)) = lz_ff (lz_e f go st len fr (1024 * len)) cl set (1024 * (en + 1))
  | 0, _ => rfl
  | d + 1, hd => by
    rw [← lz_ff_e hV d (by omega)]
    have hZ := lz_Z (set := set) hV (en + 1 + d) (by omega)
    obtain ⟨hC, hf, hg, q4, q5, -, hs, hel, h60, hz⟩ := hV
    have I0 := lz_ff_I (cl := cl) (f := f) (go := go) (st := st) (len := len) (fr := fr) (set := set) hg h60 (en + 1 + d) (by omega)
    obtain ⟨I1, g2, g3, g4⟩ := lz_ff_m (cl := cl) (f := f) (st := st) (fr := fr) (set := set) hg (show en + 1 + d ≤ len by omega) h60 I0
    have e1 : (lz_ff (lz_e f go st len fr (1024 * len)) cl set (1024 * (en + 1 + d + 1))).1 = (lz_ff (lz_e f go st len fr (1024 * len)) cl set (1024 * (en + 1 + d))).1 := lz_eq7 I1.1 I0.1 fun n hn => by
      rw [g2 n hn]
      refine ⟨fun h => h.elim (fun h => h) (fun ⟨s, y, a1, a2, a3, a4⟩ => ?_), Or.inl⟩
      by_cases q : n < (lz_ff (lz_e f go st len fr (1024 * len)) cl set (1024 * (en + 1 + d))).1
      · exact absurd a4 (hZ _ s y n (Nat.le_refl _) (by omega) a1 a2 a3 q)
      · omega
    show lz_ff (lz_e f go st len fr (1024 * len)) cl set (1024 * (en + 1 + d + 1)) = _
    generalize lz_ff (lz_e f go st len fr (1024 * len)) cl set (1024 * (en + 1 + d + 1)) = p at I1 g2 g3 g4 e1 ⊢
    generalize lz_ff (lz_e f go st len fr (1024 * len)) cl set (1024 * (en + 1 + d)) = p0 at I0 g2 g3 g4 e1 ⊢
    obtain ⟨a, b, c⟩ := p
    obtain ⟨a0, b0, c0⟩ := p0
    unfold lz_fI at I0 I1
    dsimp only at I0 I1 g3 g4 e1
    have e2 : b = b0 := by rcases g3 with ⟨q, r⟩ | ⟨q, r⟩ <;> omega
    have e3 : c = c0 := by
      rw [g4]
      by_cases q : a0 < 7
      · rw [if_pos q]
      · rw [if_neg q, if_neg (by omega)]
        exact ((I0.2.1 (by omega)).2).symm
    rw [e1, e2, e3]
/-- learning: both find the same -/
theorem lz_main {cl : Nat → Nat} {f : Nat → Nat → Nat} {go st len fr en A F set : Nat} (hV : lz_V cl f go st len fr en A F) : lz_fI (lz_ff (lz_e f go st len fr (1024 * len)) cl set (1024 * (len + 1))) ∧ (lz_wt en A cl f go st set (lz_c0 fr, 7, 4294967292, 4294967292, 4294967292) (en + 1)).2.1 = (lz_ff (lz_e f go st len fr (1024 * len)) cl set (1024 * (len + 1))).1 ∧ (lz_wt en A cl f go st set (lz_c0 fr, 7, 4294967292, 4294967292, 4294967292) (en + 1)).2.2.1 = (if (lz_ff (lz_e f go st len fr (1024 * len)) cl set (1024 * (len + 1))).1 = 7 then 4294967292 else (lz_ff (lz_e f go st len fr (1024 * len)) cl set (1024 * (len + 1))).1) ∧ (lz_wt en A cl f go st set (lz_c0 fr, 7, 4294967292, 4294967292, 4294967292) (en + 1)).2.2.2.1 = (lz_ff (lz_e f go st len fr (1024 * len)) cl set (1024 * (len + 1))).2.1 ∧ (lz_wt en A cl f go st set (lz_c0 fr, 7, 4294967292, 4294967292, 4294967292) (en + 1)).2.2.2.2 = (lz_ff (lz_e f go st len fr (1024 * len)) cl set (1024 * (len + 1))).2.2 ∧ ∀ i, i < 4096 → (lz_wt en A cl f go st set (lz_c0 fr, 7, 4294967292, 4294967292, 4294967292) (en + 1)).1 i = 99 := by
  have hel : en ≤ len := hV.2.2.2.2.2.2.2.1
  have hg : go ≤ 3 := hV.2.2.1
  have h60 : len ≤ 60 := hV.2.2.2.2.2.2.2.2.1
  have hM := lz_M_tf hV en (Nat.le_refl _) (lz_M_t (set := set) hV en (Nat.le_refl _))
  have e : lz_wt en A cl f go st set (lz_c0 fr, 7, 4294967292, 4294967292, 4294967292) (en + 1) = lz_ws en A cl f go st set en (lz_wt en A cl f go st set (lz_c0 fr, 7, 4294967292, 4294967292, 4294967292) en) st := rfl
  rw [← e] at hM
  have q := lz_ff_e (set := set) hV (len - en) (by omega)
  rw [show en + 1 + (len - en) = len + 1 by omega] at q
  have I := lz_ff_I (cl := cl) (f := f) (go := go) (st := st) (len := len) (fr := fr) (set := set) hg h60 (len + 1) (Nat.le_refl _)
  obtain ⟨eb, em, ea⟩ := lz_M_f hV (Nat.le_refl _) hM
  have c0 := lz_M_0 hV hM
  obtain ⟨-, -, -, -, -, m7, -, -, m10⟩ := hM
  refine ⟨I, by rw [q]; exact eb, by rw [q, ← eb]; exact m7, by rw [q]; exact em, by rw [q]; exact ea, fun i hi => ?_⟩
  obtain ⟨u, h1, h2, h3⟩ : ∃ u, en ≤ u ∧ u ≤ en + 3 ∧ u % 4 = i / 1024 := ⟨en + (i / 1024 + 4 - en % 4) % 4, by omega, by omega, by omega⟩
  have ei : i = lz_ixc u (i / 256 % 4) (i % 256) := by unfold lz_ixc; omega
  by_cases c : u = en
  · rw [ei, c]
    exact c0 _ _ (by omega) (by omega)
  · by_cases w : (lz_wt en A cl f go st set (lz_c0 fr, 7, 4294967292, 4294967292, 4294967292) (en + 1)).1 i = 99
    · exact w
    · rw [ei] at w
      have := (m10 u (i / 256 % 4) (i % 256) h1 h2 (by omega) (by omega) w).1
      omega
/-- more is asked for than is told -/
theorem lz_none {cl : Nat → Nat} {f : Nat → Nat → Nat} {go st len fr en A F set : Nat} (hV : lz_V cl f go st len fr en A F) (hA : ¬ A &&& set = set) : ∀ k, lz_ff (lz_e f go st len fr (1024 * len)) cl set k = (7, 4294967292, 4294967292)
  | 0 => rfl
  | k + 1 => by
    show (if lz_e f go st len fr (1024 * len) k ≤ 6 ∧ cl (k % 256) &&& set = set then _ else lz_ff (lz_e f go st len fr (1024 * len)) cl set k) = _
    rw [if_neg ?_, lz_none hV hA k]
    rintro ⟨h1, h2⟩
    have ek : k = lz_ixr (k / 1024) (k / 256 % 4) (k % 256) := by unfold lz_ixr; omega
    rw [ek] at h1
    obtain ⟨-, b2, -⟩ := lz_V_in hV (Nat.le_refl _) (show k / 256 % 4 < 4 by omega) (show k % 256 < 256 by omega) h1
    refine hA (Nat.eq_of_testBit_eq fun j => ?_)
    have e : (cl (k % 256) &&& set).testBit j = set.testBit j := by rw [h2]
    rw [Nat.testBit_and] at e ⊢
    cases q : set.testBit j
    · rw [Bool.and_false]
    · rw [q, Bool.and_true] at e
      rw [b2 j e]; rfl
