/-! ===== learning, purely: pushes, the reference's table ===== -/
def lz_pu (e : Nat → Nat) (j n : Nat) : Nat → Nat := fun i => if i = j then (if n < e i then n else e i) else e i
theorem lz_pu_le {e : Nat → Nat} {j m i n : Nat} : lz_pu e j m i ≤ n ↔ e i ≤ n ∨ (i = j ∧ m ≤ n) := by
  unfold lz_pu
  by_cases h : i = j
  · rw [if_pos h]
    by_cases q : m < e i
    · rw [if_pos q]; omega
    · rw [if_neg q]; omega
  · rw [if_neg h]; omega
def lz_cm (ok : Nat → Nat → Bool) (ix : Nat → Nat → Nat → Nat) (e : Nat → Nat) (u g y n : Nat) : Nat → Nat := if ok u n = true then lz_pu e (ix u g y) n else e
theorem lz_cm_le {ok : Nat → Nat → Bool} {ix : Nat → Nat → Nat → Nat} {e : Nat → Nat} {u g y m i n : Nat} : lz_cm ok ix e u g y m i ≤ n ↔ e i ≤ n ∨ (ok u m = true ∧ i = ix u g y ∧ m ≤ n) := by
  unfold lz_cm
  by_cases h : ok u m = true
  · rw [if_pos h, lz_pu_le]
    exact ⟨fun q => q.elim Or.inl (fun q => Or.inr ⟨h, q⟩), fun q => q.elim Or.inl (fun q => Or.inr q.2)⟩
  · rw [if_neg h]
    exact ⟨Or.inl, fun q => q.elim (fun q => q) (fun q => absurd q.1 h)⟩
def lz_T (go t : Nat) : Nat := if go = 0 then t + 1 else t + go
def lz_X (q : Nat → Nat) (f : Nat → Nat → Nat) (go t g x : Nat) : Nat := if go = 0 then q (x ||| f g t) else x
/-- goings to the first so many stations -/
def lz_t (ok : Nat → Nat → Bool) (ix : Nat → Nat → Nat → Nat) (q : Nat → Nat) (f : Nat → Nat → Nat) (go t s x v : Nat) (e : Nat → Nat) : Nat → (Nat → Nat)
  | 0 => e
  | g + 1 => if g = s then lz_t ok ix q f go t s x v e g else lz_cm ok ix (lz_t ok ix q f go t s x v e g) (lz_T go t) g (lz_X q f go t g x) (v + 1)
def lz_p (ok : Nat → Nat → Bool) (ix : Nat → Nat → Nat → Nat) (q : Nat → Nat) (f : Nat → Nat → Nat) (go st t s x v : Nat) (e : Nat → Nat) : Nat → Nat := lz_t ok ix q f go t s x v (lz_cm ok ix e (t + 1) s (q (x ||| f s t)) v) st
/-- where one comes from a place in a step, and by how many goings -/
def lz_S (q : Nat → Nat) (f : Nat → Nat → Nat) (go st t s x v u g y m : Nat) : Prop := (u = t + 1 ∧ g = s ∧ y = q (x ||| f s t) ∧ m = v) ∨ (g < st ∧ g ≠ s ∧ u = lz_T go t ∧ y = lz_X q f go t g x ∧ m = v + 1)
theorem lz_t_le {ok : Nat → Nat → Bool} {ix : Nat → Nat → Nat → Nat} {q : Nat → Nat} {f : Nat → Nat → Nat} {go t s x v i n : Nat} {e : Nat → Nat} : ∀ k, lz_t ok ix q f go t s x v e k i ≤ n ↔ e i ≤ n ∨ ∃ g, g < k ∧ g ≠ s ∧ ok (lz_T go t) (v + 1) = true ∧ i = ix (lz_T go t) g (lz_X q f go t g x) ∧ v + 1 ≤ n
  | 0 => ⟨Or.inl, fun h => h.elim (fun h => h) (fun ⟨g, h, _⟩ => absurd h (Nat.not_lt_zero g))⟩
  | k + 1 => by
    have ih := lz_t_le (ok := ok) (ix := ix) (q := q) (f := f) (go := go) (t := t) (s := s) (x := x) (v := v) (i := i) (n := n) (e := e) k
    show (if k = s then lz_t ok ix q f go t s x v e k else lz_cm ok ix (lz_t ok ix q f go t s x v e k) (lz_T go t) k (lz_X q f go t k x) (v + 1)) i ≤ n ↔ _
    by_cases h : k = s
    · rw [if_pos h, ih]
      refine ⟨fun a => a.elim Or.inl (fun ⟨g, h1, h2⟩ => Or.inr ⟨g, by omega, h2⟩), fun a => a.elim Or.inl (fun ⟨g, h1, h2, h3⟩ => Or.inr ⟨g, by omega, h2, h3⟩)⟩
    · rw [if_neg h, lz_cm_le, ih]
      refine ⟨fun a => ?_, fun a => ?_⟩
      · rcases a with (a | ⟨g, h1, h2⟩) | a
        · exact Or.inl a
        · exact Or.inr ⟨g, by omega, h2⟩
        · exact Or.inr ⟨k, by omega, h, a⟩
      · rcases a with a | ⟨g, h1, h2, h3⟩
        · exact Or.inl (Or.inl a)
        · by_cases c : g = k
          · subst c; exact Or.inr h3
          · exact Or.inl (Or.inr ⟨g, by omega, h2, h3⟩)
theorem lz_p_le {ok : Nat → Nat → Bool} {ix : Nat → Nat → Nat → Nat} {q : Nat → Nat} {f : Nat → Nat → Nat} {go st t s x v i n : Nat} {e : Nat → Nat} : lz_p ok ix q f go st t s x v e i ≤ n ↔ e i ≤ n ∨ ∃ u g y m, lz_S q f go st t s x v u g y m ∧ ok u m = true ∧ i = ix u g y ∧ m ≤ n := by
  unfold lz_p
  rw [lz_t_le, lz_cm_le]
  refine ⟨fun a => ?_, fun a => ?_⟩
  · rcases a with (a | ⟨h1, h2, h3⟩) | ⟨g, h1, h2, h3, h4, h5⟩
    · exact Or.inl a
    · exact Or.inr ⟨_, _, _, _, Or.inl ⟨rfl, rfl, rfl, rfl⟩, h1, h2, h3⟩
    · exact Or.inr ⟨_, g, _, _, Or.inr ⟨h1, h2, rfl, rfl, rfl⟩, h3, h4, h5⟩
  · rcases a with a | ⟨u, g, y, m, hS, h1, h2, h3⟩
    · exact Or.inl (Or.inl a)
    · rcases hS with ⟨rfl, rfl, rfl, rfl⟩ | ⟨a1, a2, rfl, rfl, rfl⟩
      · exact Or.inl (Or.inr ⟨h1, h2, h3⟩)
      · exact Or.inr ⟨g, a1, a2, h1, h2, h3⟩
theorem lz_eq {a b : Nat} (h : ∀ n, a ≤ n ↔ b ≤ n) : a = b := Nat.le_antisymm ((h b).mpr (Nat.le_refl b)) ((h a).mp (Nat.le_refl a))
theorem lz_S_u {q : Nat → Nat} {f : Nat → Nat → Nat} {go st t s x v u g y m : Nat} (hg : go ≤ 3) (h : lz_S q f go st t s x v u g y m) : t + 1 ≤ u ∧ u ≤ t + 3 ∧ v ≤ m ∧ m ≤ v + 1 := by
  rcases h with ⟨rfl, -, -, rfl⟩ | ⟨-, -, rfl, -, rfl⟩
  · omega
  · unfold lz_T
    by_cases c : go = 0
    · rw [if_pos c]; omega
    · rw [if_neg c]; omega
/-- sets -/
def lz_sub (a b : Nat) : Prop := ∀ j, a.testBit j = true → b.testBit j = true
theorem lz_sub_or {a b c : Nat} (h1 : lz_sub a c) (h2 : lz_sub b c) : lz_sub (a ||| b) c := fun j hj => by
  rw [Nat.testBit_or, Bool.or_eq_true] at hj
  exact hj.elim (h1 j) (h2 j)
theorem lz_sub_le {a b : Nat} (h : lz_sub a b) : a ≤ b := by
  have e : a &&& b = a := Nat.eq_of_testBit_eq fun j => by
    rw [Nat.testBit_and]
    cases q : a.testBit j
    · rfl
    · rw [h j q]; rfl
  rw [← e]
  exact Nat.and_le_right
theorem lz_or_lt {a b : Nat} (ha : a < 256) (hb : b < 256) : a ||| b < 256 := Nat.or_lt_two_pow (n := 8) ha hb
/-- the reference's table behind k places -/
def lz_okr (len : Nat) (u _n : Nat) : Bool := decide (u ≤ len)
def lz_ixr (u g y : Nat) : Nat := 1024 * u + 256 * g + y
def lz_id (x : Nat) : Nat := x
def lz_e (f : Nat → Nat → Nat) (go st len fr : Nat) : Nat → (Nat → Nat)
  | 0 => fun i => if i = 256 * fr then 0 else 7
  | k + 1 => if lz_e f go st len fr k k ≤ 6 then lz_p (lz_okr len) lz_ixr lz_id f go st (k / 1024) (k / 256 % 4) (k % 256) (lz_e f go st len fr k k) (lz_e f go st len fr k) else lz_e f go st len fr k
theorem lz_e_le {f : Nat → Nat → Nat} {go st len fr k i n : Nat} : lz_e f go st len fr (k + 1) i ≤ n ↔ lz_e f go st len fr k i ≤ n ∨ (lz_e f go st len fr k k ≤ 6 ∧ ∃ u g y m, lz_S lz_id f go st (k / 1024) (k / 256 % 4) (k % 256) (lz_e f go st len fr k k) u g y m ∧ u ≤ len ∧ i = lz_ixr u g y ∧ m ≤ n) := by
  show (if lz_e f go st len fr k k ≤ 6 then lz_p (lz_okr len) lz_ixr lz_id f go st (k / 1024) (k / 256 % 4) (k % 256) (lz_e f go st len fr k k) (lz_e f go st len fr k) else lz_e f go st len fr k) i ≤ n ↔ _
  by_cases h : lz_e f go st len fr k k ≤ 6
  · rw [if_pos h, lz_p_le]
    refine ⟨fun a => a.elim Or.inl (fun ⟨u, g, y, m, h1, h2, h3⟩ => Or.inr ⟨h, u, g, y, m, h1, of_decide_eq_true h2, h3⟩), fun a => a.elim Or.inl (fun ⟨_, u, g, y, m, h1, h2, h3⟩ => Or.inr ⟨u, g, y, m, h1, decide_eq_true h2, h3⟩)⟩
  · rw [if_neg h]
    exact ⟨Or.inl, fun a => a.elim (fun a => a) (fun a => absurd a.1 h)⟩
theorem lz_e_st {f : Nat → Nat → Nat} {go st len fr k i : Nat} (hg : go ≤ 3) (hi : i < 1024 * (k / 1024 + 1)) : ∀ d, lz_e f go st len fr (k + d) i = lz_e f go st len fr k i
  | 0 => rfl
  | d + 1 => by
    rw [← lz_e_st hg hi d]
    refine lz_eq fun n => ?_
    rw [show k + (d + 1) = k + d + 1 from rfl, lz_e_le]
    refine ⟨fun a => a.elim (fun a => a) (fun ⟨_, u, g, y, m, hS, _, h3, _⟩ => ?_), Or.inl⟩
    have := lz_S_u hg hS
    unfold lz_ixr at h3
    omega
/-- a minute of it -/
theorem lz_e_mi {f : Nat → Nat → Nat} {go st len fr t i n : Nat} (hg : go ≤ 3) : ∀ r, r ≤ 1024 → (lz_e f go st len fr (1024 * t + r) i ≤ n ↔ lz_e f go st len fr (1024 * t) i ≤ n ∨ ∃ k, k < r ∧ lz_e f go st len fr (1024 * t) (1024 * t + k) ≤ 6 ∧ ∃ u g y m, lz_S lz_id f go st t (k / 256) (k % 256) (lz_e f go st len fr (1024 * t) (1024 * t + k)) u g y m ∧ u ≤ len ∧ i = lz_ixr u g y ∧ m ≤ n)
  | 0, _ => ⟨Or.inl, fun h => h.elim (fun h => h) (fun ⟨g, h, _⟩ => absurd h (Nat.not_lt_zero g))⟩
  | r + 1, hr => by
    have ih := lz_e_mi (f := f) (st := st) (len := len) (fr := fr) (t := t) (i := i) (n := n) hg r (by omega)
    have e1 : lz_e f go st len fr (1024 * t + r) (1024 * t + r) = lz_e f go st len fr (1024 * t) (1024 * t + r) := lz_e_st hg (by omega) r
    rw [show 1024 * t + (r + 1) = 1024 * t + r + 1 from rfl, lz_e_le, ih, e1, show (1024 * t + r) / 1024 = t by omega, show (1024 * t + r) / 256 % 4 = r / 256 by omega, show (1024 * t + r) % 256 = r % 256 by omega]
    refine ⟨fun a => ?_, fun a => ?_⟩
    · rcases a with (a | ⟨k, h1, h2⟩) | a
      · exact Or.inl a
      · exact Or.inr ⟨k, by omega, h2⟩
      · exact Or.inr ⟨r, by omega, a⟩
    · rcases a with a | ⟨k, h1, h2⟩
      · exact Or.inl (Or.inl a)
      · by_cases c : k = r
        · subst c; exact Or.inr h2
        · exact Or.inl (Or.inr ⟨k, by omega, h2⟩)
theorem lz_e_m1 {f : Nat → Nat → Nat} {go st len fr t u g x n : Nat} (hg : go ≤ 3) (g4 : g < 4) (hx : x < 256) (hf : ∀ s t, f s t < 256) (hst : st ≤ 4) : lz_e f go st len fr (1024 * (t + 1)) (lz_ixr u g x) ≤ n ↔ lz_e f go st len fr (1024 * t) (lz_ixr u g x) ≤ n ∨ (u ≤ len ∧ ∃ s y m, s < 4 ∧ y < 256 ∧ lz_e f go st len fr (1024 * t) (lz_ixr t s y) ≤ 6 ∧ lz_S lz_id f go st t s y (lz_e f go st len fr (1024 * t) (lz_ixr t s y)) u g x m ∧ m ≤ n) := by
  rw [show 1024 * (t + 1) = 1024 * t + 1024 by omega, lz_e_mi hg 1024 (Nat.le_refl _)]
  refine ⟨fun a => ?_, fun a => ?_⟩
  · rcases a with a | ⟨k, h1, h2, u', g', y', m, hS, h3, h4, h5⟩
    · exact Or.inl a
    · have ek : 1024 * t + k = lz_ixr t (k / 256) (k % 256) := by unfold lz_ixr; omega
      rw [ek] at h2 hS
      have bb : g' < 4 ∧ y' < 256 := by
        rcases hS with ⟨-, rfl, rfl, -⟩ | ⟨q, -, -, rfl, -⟩
        · exact ⟨by omega, lz_or_lt (by omega) (hf _ _)⟩
        · refine ⟨by omega, ?_⟩
          unfold lz_X
          by_cases c : go = 0
          · rw [if_pos c]; exact lz_or_lt (by omega) (hf _ _)
          · rw [if_neg c]; omega
      unfold lz_ixr at h4
      obtain ⟨rfl, rfl, rfl⟩ : u = u' ∧ g = g' ∧ x = y' := by omega
      exact Or.inr ⟨h3, _, _, m, by omega, by omega, h2, hS, h5⟩
  · rcases a with a | ⟨h1, s, y, m, s4, y4, h2, hS, h3⟩
    · exact Or.inl a
    · have ek : lz_ixr t s y = 1024 * t + (256 * s + y) := by unfold lz_ixr; omega
      rw [ek] at h2 hS
      refine Or.inr ⟨256 * s + y, by omega, h2, u, g, x, m, ?_, h1, rfl, h3⟩
      rw [show (256 * s + y) / 256 = s by omega, show (256 * s + y) % 256 = y by omega]
      exact hS
/-- what stands in it -/
theorem lz_e_in {f : Nat → Nat → Nat} {go st len fr F : Nat} (hg : go ≤ 3) (hst : st ≤ 4) (hfr : fr < st) (hf : ∀ s t, f s t < 256) (hF : ∀ s t, s < st → t < len → lz_sub (f s t) F) : ∀ k, k ≤ 1024 * len → ∀ u g x, g < 4 → x < 256 → lz_e f go st len fr k (lz_ixr u g x) ≤ 6 → g < st ∧ lz_sub x F ∧ (u = 0 ∨ 1024 * u < k + 3072)
  | 0, _, u, g, x, g4, hx, h => by
    have h' : (if lz_ixr u g x = 256 * fr then 0 else 7) ≤ 6 := h
    by_cases c : lz_ixr u g x = 256 * fr
    · unfold lz_ixr at c
      obtain ⟨rfl, rfl, rfl⟩ : u = 0 ∧ g = fr ∧ x = 0 := by omega
      exact ⟨hfr, fun j hj => by rw [Nat.zero_testBit] at hj; exact absurd hj (by decide), Or.inl rfl⟩
    · rw [if_neg c] at h'; omega
  | k + 1, hk, u, g, x, g4, hx, h => by
    have ih := lz_e_in (fr := fr) hg hst hfr hf hF k (by omega)
    rw [lz_e_le] at h
    rcases h with h | ⟨h1, u', g', y', m, hS, h2, h3, h4⟩
    · obtain ⟨a, b, c⟩ := ih u g x g4 hx h
      exact ⟨a, b, by omega⟩
    · have ek : k = lz_ixr (k / 1024) (k / 256 % 4) (k % 256) := by unfold lz_ixr; omega
      obtain ⟨i1, i2, -⟩ := ih (k / 1024) (k / 256 % 4) (k % 256) (by omega) (by omega) (by rw [← ek]; exact h1)
      have su := lz_S_u hg hS
      have kl : k / 1024 < len := by omega
      have bb : g' < st ∧ y' < 256 ∧ lz_sub y' F := by
        rcases hS with ⟨-, rfl, rfl, -⟩ | ⟨q, -, -, rfl, -⟩
        · exact ⟨i1, lz_or_lt (by omega) (hf _ _), lz_sub_or i2 (hF _ _ i1 kl)⟩
        · refine ⟨q, ?_⟩
          unfold lz_X
          by_cases c : go = 0
          · rw [if_pos c]; exact ⟨lz_or_lt (by omega) (hf _ _), lz_sub_or i2 (hF _ _ q kl)⟩
          · rw [if_neg c]; exact ⟨by omega, i2⟩
      unfold lz_ixr at h3
      obtain ⟨rfl, rfl, rfl⟩ : u = u' ∧ g = g' ∧ x = y' := by omega
      exact ⟨bb.1, bb.2.2, by omega⟩
/-- what is found in it -/
def lz_sat (set k : Nat) : Prop := k &&& set = set
def lz_ff (e : Nat → Nat) (cl : Nat → Nat) (set : Nat) : Nat → Nat × Nat × Nat
  | 0 => (7, 4294967292, 4294967292)
  | k + 1 => if e k ≤ 6 ∧ cl (k % 256) &&& set = set then (if e k < (lz_ff e cl set k).1 then e k else (lz_ff e cl set k).1, if e k < (lz_ff e cl set k).1 then k / 1024 else (lz_ff e cl set k).2.1, if (lz_ff e cl set k).2.2 = 4294967292 then k / 1024 else (lz_ff e cl set k).2.2) else lz_ff e cl set k
def lz_fI (p : Nat × Nat × Nat) : Prop := p.1 ≤ 7 ∧ (p.1 = 7 → p.2.1 = 4294967292 ∧ p.2.2 = 4294967292) ∧ (p.1 < 7 → p.2.1 < 4294967292 ∧ p.2.2 < 4294967292)
theorem lz_ff_mi {e : Nat → Nat} {cl : Nat → Nat} {set t : Nat} (ht : t < 4294967292) (h0 : lz_fI (lz_ff e cl set (1024 * t))) : ∀ r, r ≤ 1024 → lz_fI (lz_ff e cl set (1024 * t + r)) ∧ (∀ n, n < 7 → ((lz_ff e cl set (1024 * t + r)).1 ≤ n ↔ (lz_ff e cl set (1024 * t)).1 ≤ n ∨ ∃ k, k < r ∧ lz_sat set (cl (k % 256)) ∧ e (1024 * t + k) ≤ n)) ∧ (((lz_ff e cl set (1024 * t + r)).1 = (lz_ff e cl set (1024 * t)).1 ∧ (lz_ff e cl set (1024 * t + r)).2.1 = (lz_ff e cl set (1024 * t)).2.1) ∨ ((lz_ff e cl set (1024 * t + r)).1 < (lz_ff e cl set (1024 * t)).1 ∧ (lz_ff e cl set (1024 * t + r)).2.1 = t)) ∧ (lz_ff e cl set (1024 * t + r)).2.2 = if (lz_ff e cl set (1024 * t)).1 < 7 then (lz_ff e cl set (1024 * t)).2.2 else if (lz_ff e cl set (1024 * t + r)).1 < 7 then t else 4294967292
  | 0, _ => by
    refine ⟨h0, fun n _ => ⟨Or.inl, fun h => h.elim (fun h => h) (fun ⟨g, h, _⟩ => absurd h (Nat.not_lt_zero g))⟩, Or.inl ⟨rfl, rfl⟩, ?_⟩
    show (lz_ff e cl set (1024 * t)).2.2 = if (lz_ff e cl set (1024 * t)).1 < 7 then (lz_ff e cl set (1024 * t)).2.2 else if (lz_ff e cl set (1024 * t)).1 < 7 then t else 4294967292
    by_cases c : (lz_ff e cl set (1024 * t)).1 < 7
    · rw [if_pos c]
    · rw [if_neg c, if_neg c]
      exact (h0.2.1 (by have := h0.1; omega)).2
  | r + 1, hr => by
    obtain ⟨i1, i2, i3, i4⟩ := lz_ff_mi ht h0 r (by omega)
    have es : lz_ff e cl set (1024 * t + (r + 1)) = if e (1024 * t + r) ≤ 6 ∧ cl ((1024 * t + r) % 256) &&& set = set then (if e (1024 * t + r) < (lz_ff e cl set (1024 * t + r)).1 then e (1024 * t + r) else (lz_ff e cl set (1024 * t + r)).1, if e (1024 * t + r) < (lz_ff e cl set (1024 * t + r)).1 then (1024 * t + r) / 1024 else (lz_ff e cl set (1024 * t + r)).2.1, if (lz_ff e cl set (1024 * t + r)).2.2 = 4294967292 then (1024 * t + r) / 1024 else (lz_ff e cl set (1024 * t + r)).2.2) else lz_ff e cl set (1024 * t + r) := rfl
    rw [es, show (1024 * t + r) % 256 = r % 256 by omega, show (1024 * t + r) / 1024 = t by omega]
    generalize lz_ff e cl set (1024 * t + r) = p at i1 i2 i3 i4 ⊢
    generalize lz_ff e cl set (1024 * t) = p0 at h0 i2 i3 i4 ⊢
    obtain ⟨a, b, c⟩ := p
    obtain ⟨a0, b0, c0⟩ := p0
    unfold lz_fI at i1 h0 ⊢
    dsimp only at i1 i2 i3 i4 h0 ⊢
    by_cases hc : e (1024 * t + r) ≤ 6 ∧ cl (r % 256) &&& set = set
    · rw [if_pos hc]
      dsimp only
      have hs : ∀ n, (∃ k, k < r + 1 ∧ lz_sat set (cl (k % 256)) ∧ e (1024 * t + k) ≤ n) ↔ (∃ k, k < r ∧ lz_sat set (cl (k % 256)) ∧ e (1024 * t + k) ≤ n) ∨ e (1024 * t + r) ≤ n := fun n => by
        refine ⟨fun ⟨k, h1, h2⟩ => ?_, fun h => h.elim (fun ⟨k, h1, h2⟩ => ⟨k, by omega, h2⟩) (fun h => ⟨r, by omega, hc.2, h⟩)⟩
        by_cases q : k = r
        · subst q; exact Or.inr h2.2
        · exact Or.inl ⟨k, by omega, h2⟩
      by_cases q : e (1024 * t + r) < a
      · rw [if_pos q, if_pos q]
        refine ⟨⟨by omega, fun h => by omega, fun _ => ⟨ht, ?_⟩⟩, fun n hn => ?_, Or.inr ⟨by omega, rfl⟩, ?_⟩
        · by_cases w : c = 4294967292
          · rw [if_pos w]; exact ht
          · rw [if_neg w]
            by_cases z : a = 7
            · exact absurd (i1.2.1 z).2 w
            · exact (i1.2.2 (by omega)).2
        · rw [hs, ← or_assoc, ← i2 n hn]
          omega
        · by_cases z : a0 < 7
          · rw [if_pos z] at i4 ⊢
            rw [if_neg (by have := (h0.2.2 z).2; omega)]
            exact i4
          · rw [if_neg z] at i4 ⊢
            rw [if_pos (show e (1024 * t + r) < 7 by omega)]
            by_cases w : c = 4294967292
            · rw [if_pos w]
            · rw [if_neg w]
              by_cases z2 : a < 7
              · rw [if_pos z2] at i4; exact i4
              · rw [if_neg z2] at i4; exact absurd i4 w
      · rw [if_neg q, if_neg q]
        have a7 : a < 7 := by omega
        have cn := (i1.2.2 a7).2
        rw [if_neg (show ¬ c = 4294967292 by omega)]
        refine ⟨i1, fun n hn => ?_, i3, i4⟩
        rw [hs, ← or_assoc, ← i2 n hn]
        omega
    · rw [if_neg hc]
      refine ⟨i1, fun n hn => ?_, i3, i4⟩
      rw [i2 n hn]
      refine ⟨fun h => h.elim Or.inl (fun ⟨k, h1, h2⟩ => Or.inr ⟨k, by omega, h2⟩), fun h => h.elim Or.inl (fun ⟨k, h1, h2, h3⟩ => ?_)⟩
      by_cases q : k = r
      · subst q; exact absurd ⟨by omega, h2⟩ hc
      · exact Or.inr ⟨k, by omega, h2, h3⟩
