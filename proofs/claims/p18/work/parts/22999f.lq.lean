/-! ===== learning, purely: the class's table, both ===== -/
def lz_okc (en b u n : Nat) : Bool := decide (u ≤ en) && decide (n < b)
def lz_ixc (u g y : Nat) : Nat := 1024 * (u % 4) + 256 * g + y
def lz_cl (c : Nat → Nat) (j : Nat) : Nat → Nat := fun i => if i = j then 99 else c i
/-- a place taken out: table, goings to beat, fewest, minutes by fewest, minutes by any -/
def lz_w (en : Nat) (cl : Nat → Nat) (f : Nat → Nat → Nat) (go st set t s x : Nat) (σ : (Nat → Nat) × Nat × Nat × Nat × Nat) : (Nat → Nat) × Nat × Nat × Nat × Nat :=
  if σ.1 (lz_ixc t s x) = 99 then σ
  else if x &&& set = set then (lz_cl σ.1 (lz_ixc t s x), if σ.1 (lz_ixc t s x) < σ.2.1 then σ.1 (lz_ixc t s x) else σ.2.1, if σ.1 (lz_ixc t s x) < σ.2.1 then σ.1 (lz_ixc t s x) else σ.2.2.1, if σ.1 (lz_ixc t s x) < σ.2.1 then t else σ.2.2.2.1, if σ.2.2.2.2 = 4294967292 then t else σ.2.2.2.2)
  else (lz_p (lz_okc en σ.2.1) lz_ixc cl f go st t s x (σ.1 (lz_ixc t s x)) (lz_cl σ.1 (lz_ixc t s x)), σ.2)
theorem lz_w_0 {en : Nat} {cl : Nat → Nat} {f : Nat → Nat → Nat} {go st set t s x : Nat} {c : Nat → Nat} {b fg mf ma : Nat} (h : c (lz_ixc t s x) = 99) : lz_w en cl f go st set t s x (c, b, fg, mf, ma) = (c, b, fg, mf, ma) := if_pos h
theorem lz_w_1 {en : Nat} {cl : Nat → Nat} {f : Nat → Nat → Nat} {go st set t s x : Nat} {c : Nat → Nat} {b fg mf ma : Nat} (h : ¬ c (lz_ixc t s x) = 99) (hs : x &&& set = set) : lz_w en cl f go st set t s x (c, b, fg, mf, ma) = (lz_cl c (lz_ixc t s x), if c (lz_ixc t s x) < b then c (lz_ixc t s x) else b, if c (lz_ixc t s x) < b then c (lz_ixc t s x) else fg, if c (lz_ixc t s x) < b then t else mf, if ma = 4294967292 then t else ma) := (if_neg h).trans (if_pos hs)
theorem lz_w_2 {en : Nat} {cl : Nat → Nat} {f : Nat → Nat → Nat} {go st set t s x : Nat} {c : Nat → Nat} {b fg mf ma : Nat} (h : ¬ c (lz_ixc t s x) = 99) (hs : ¬ x &&& set = set) : lz_w en cl f go st set t s x (c, b, fg, mf, ma) = (lz_p (lz_okc en b) lz_ixc cl f go st t s x (c (lz_ixc t s x)) (lz_cl c (lz_ixc t s x)), b, fg, mf, ma) := (if_neg h).trans (if_neg hs)
def lz_wx (en : Nat) (cl : Nat → Nat) (f : Nat → Nat → Nat) (go st set t s : Nat) (σ : (Nat → Nat) × Nat × Nat × Nat × Nat) : Nat → (Nat → Nat) × Nat × Nat × Nat × Nat
  | 0 => σ
  | x + 1 => lz_w en cl f go st set t s x (lz_wx en cl f go st set t s σ x)
def lz_ws (en A : Nat) (cl : Nat → Nat) (f : Nat → Nat → Nat) (go st set t : Nat) (σ : (Nat → Nat) × Nat × Nat × Nat × Nat) : Nat → (Nat → Nat) × Nat × Nat × Nat × Nat
  | 0 => σ
  | s + 1 => lz_wx en cl f go st set t s (lz_ws en A cl f go st set t σ s) (A + 1)
def lz_wt (en A : Nat) (cl : Nat → Nat) (f : Nat → Nat → Nat) (go st set : Nat) (σ : (Nat → Nat) × Nat × Nat × Nat × Nat) : Nat → (Nat → Nat) × Nat × Nat × Nat × Nat
  | 0 => σ
  | t + 1 => lz_ws en A cl f go st set t (lz_wt en A cl f go st set σ t) st
/-- in the midst of a minute -/
def lz_M (E : Nat → Nat) (en A : Nat) (cl : Nat → Nat) (f : Nat → Nat → Nat) (go st set fw so an t : Nat) (D : Nat → Nat → Prop) (c : Nat → Nat) (b fg mf ma : Nat) : Prop :=
  (∀ s x, s < 4 → x < 256 → D s x → c (lz_ixc t s x) = 99) ∧
  (∀ s x n, s < 4 → x < 256 → ¬ D s x → n < b → (c (lz_ixc t s x) ≤ n ↔ ∃ y, y < 256 ∧ cl y = x ∧ E (lz_ixr t s y) ≤ n)) ∧
  (b ≤ 7 ∧ ∀ n, n < 7 → (b ≤ n ↔ fw ≤ n ∨ ∃ s y, s < 4 ∧ y < 256 ∧ D s (cl y) ∧ lz_sat set (cl y) ∧ E (lz_ixr t s y) ≤ n)) ∧
  (∀ u g z n, t < u → u ≤ t + 3 → u ≤ en → g < 4 → z < 256 → n < b → (c (lz_ixc u g z) ≤ n ↔ ∃ x, x < 256 ∧ cl x = z ∧ (E (lz_ixr u g x) ≤ n ∨ ∃ s y m, s < 4 ∧ y < 256 ∧ D s (cl y) ∧ E (lz_ixr t s y) ≤ 6 ∧ lz_S lz_id f go st t s y (E (lz_ixr t s y)) u g x m ∧ m ≤ n))) ∧
  ((b = fw ∧ mf = so) ∨ (b < fw ∧ mf = t)) ∧ (fg = if b = 7 then 4294967292 else b) ∧ (ma = if fw < 7 then an else if b < 7 then t else 4294967292) ∧
  (∀ i, c i = 99 ∨ c i ≤ 6) ∧
  (∀ u g z, t ≤ u → u ≤ t + 3 → g < 4 → z < 256 → c (lz_ixc u g z) ≠ 99 → u ≤ en ∧ g < st ∧ lz_sub z A)
theorem lz_ixc_i {u g y u' g' y' t : Nat} (h1 : t ≤ u) (h2 : u ≤ t + 3) (h3 : t ≤ u') (h4 : u' ≤ t + 3) (g4 : g < 4) (y4 : y < 256) (g4' : g' < 4) (y4' : y' < 256) (e : lz_ixc u g y = lz_ixc u' g' y') : u = u' ∧ g = g' ∧ y = y' := by
  unfold lz_ixc at e
  omega
/-- what is needed of the closure -/
def lz_C (cl : Nat → Nat) : Prop := (∀ x, x < 256 → cl x < 256) ∧ (∀ a b, a < 256 → b < 256 → cl (cl a ||| b) = cl (a ||| b)) ∧ (∀ a b, a < 256 → b < 256 → lz_sub a b → lz_sub (cl a) (cl b)) ∧ (∀ a, lz_sub a (cl a)) ∧ cl 0 = 0
theorem lz_C_2 {cl : Nat → Nat} (h : lz_C cl) {a : Nat} (ha : a < 256) : cl (cl a) = cl a := by
  have q := h.2.1 a 0 ha (by decide)
  rwa [Nat.or_zero, Nat.or_zero] at q
/-- the same step, closed -/
theorem lz_S_c {cl : Nat → Nat} (h : lz_C cl) {f : Nat → Nat → Nat} (hf : ∀ s t, f s t < 256) {go st t s y v v' u g x m : Nat} (hy : y < 256) (hS : lz_S lz_id f go st t s y v u g x m) (hv : v' ≤ v) : ∃ m', m' ≤ m ∧ lz_S cl f go st t s (cl y) v' u g (cl x) m' := by
  rcases hS with ⟨rfl, rfl, rfl, rfl⟩ | ⟨a1, a2, rfl, rfl, rfl⟩
  · exact ⟨v', hv, Or.inl ⟨rfl, rfl, (h.2.1 y _ hy (hf _ _)).symm, rfl⟩⟩
  · refine ⟨v' + 1, by omega, Or.inr ⟨a1, a2, rfl, ?_, rfl⟩⟩
    unfold lz_X
    by_cases c : go = 0
    · rw [if_pos c, if_pos c]; exact (h.2.1 y _ hy (hf _ _)).symm
    · rw [if_neg c, if_neg c]
theorem lz_S_o {cl : Nat → Nat} (h : lz_C cl) {f : Nat → Nat → Nat} (hf : ∀ s t, f s t < 256) {go st t s y v v' u g z m : Nat} (hy : y < 256) (hS : lz_S cl f go st t s (cl y) v u g z m) (hv : v' ≤ v) : ∃ x m', x < 256 ∧ cl x = z ∧ m' ≤ m ∧ lz_S lz_id f go st t s y v' u g x m' := by
  rcases hS with ⟨rfl, rfl, rfl, rfl⟩ | ⟨a1, a2, rfl, rfl, rfl⟩
  · exact ⟨y ||| f g t, v', lz_or_lt hy (hf _ _), (h.2.1 y _ hy (hf _ _)).symm, hv, Or.inl ⟨rfl, rfl, rfl, rfl⟩⟩
  · refine ⟨lz_X lz_id f go t g y, v' + 1, ?_, ?_, by omega, Or.inr ⟨a1, a2, rfl, rfl, rfl⟩⟩
    · unfold lz_X
      by_cases c : go = 0
      · rw [if_pos c]; exact lz_or_lt hy (hf _ _)
      · rw [if_neg c]; exact hy
    · unfold lz_X
      by_cases c : go = 0
      · rw [if_pos c, if_pos c]; exact (h.2.1 y _ hy (hf _ _)).symm
      · rw [if_neg c, if_neg c]
theorem lz_S_b {cl : Nat → Nat} (h : lz_C cl) {f : Nat → Nat → Nat} (hf : ∀ s t, f s t < 256) {go st t s x v u g y m : Nat} (hs : s < 4) (hst : st ≤ 4) (hx : x < 256) (hS : lz_S cl f go st t s x v u g y m) : g < 4 ∧ y < 256 := by
  rcases hS with ⟨-, rfl, rfl, -⟩ | ⟨q, -, -, rfl, -⟩
  · exact ⟨hs, h.1 _ (lz_or_lt hx (hf _ _))⟩
  · refine ⟨by omega, ?_⟩
    unfold lz_X
    by_cases c : go = 0
    · rw [if_pos c]; exact h.1 _ (lz_or_lt hx (hf _ _))
    · rw [if_neg c]; exact hx
/-- one place more -/
theorem lz_M_w {E : Nat → Nat} {en A : Nat} {cl : Nat → Nat} {f : Nat → Nat → Nat} {go st set fw so an t : Nat} {D : Nat → Nat → Prop} {c : Nat → Nat} {b fg mf ma : Nat} (hC : lz_C cl) (hf : ∀ s t, f s t < 256) (hg : go ≤ 3) (hst : st ≤ 4) (hA : A < 256) (hcA : cl A = A) (hfA : ∀ s t, s < st → t < en → lz_sub (f s t) A) (ht : t < 4294967292) (hfw : fw ≤ 7) (han : fw < 7 → an < 4294967292) (hM : lz_M E en A cl f go st set fw so an t D c b fg mf ma) {s x : Nat} (hs : s < st) (hx : x < 256) (hD : ¬ D s x) : lz_M E en A cl f go st set fw so an t (fun s' x' => D s' x' ∨ (s' = s ∧ x' = x)) (lz_w en cl f go st set t s x (c, b, fg, mf, ma)).1 (lz_w en cl f go st set t s x (c, b, fg, mf, ma)).2.1 (lz_w en cl f go st set t s x (c, b, fg, mf, ma)).2.2.1 (lz_w en cl f go st set t s x (c, b, fg, mf, ma)).2.2.2.1 (lz_w en cl f go st set t s x (c, b, fg, mf, ma)).2.2.2.2 := by
  obtain ⟨m1, m2, ⟨m3, m4⟩, m5, m6, m7, m8, m9, m10⟩ := hM
  have s4 : s < 4 := by omega
  have hv := m2 s x
  have h9 := m9 (lz_ixc t s x)
  have h10 := m10 t s x (Nat.le_refl _) (by omega) s4 hx
  -- places of this minute, and of later ones
  have inj : ∀ s' x', s' < 4 → x' < 256 → lz_ixc t s' x' = lz_ixc t s x → s' = s ∧ x' = x := fun s' x' h1 h2 e => (lz_ixc_i (t := t) (by omega) (by omega) (by omega) (by omega) h1 h2 s4 hx e).2
  have inj2 : ∀ u g z, t < u → u ≤ t + 3 → g < 4 → z < 256 → lz_ixc u g z ≠ lz_ixc t s x := fun u g z h1 h2 h3 h4 e => by
    have := (lz_ixc_i (t := t) (by omega) (by omega) (by omega) (by omega) h3 h4 s4 hx e).1
    omega
  by_cases c99 : c (lz_ixc t s x) = 99
  · rw [lz_w_0 c99]
    dsimp only
    generalize ev : c (lz_ixc t s x) = v at hv h9 h10 c99
    subst c99
    have no : ∀ n, n < b → ∀ y, y < 256 → cl y = x → ¬ E (lz_ixr t s y) ≤ n := fun n hn y hy hc he => by
      have := (hv n s4 hx hD hn).mpr ⟨y, hy, hc, he⟩
      omega
    refine ⟨fun s' x' h1 h2 h3 => ?_, fun s' x' n h1 h2 h3 hn => m2 s' x' n h1 h2 (fun h => h3 (Or.inl h)) hn, ⟨m3, fun n hn => ?_⟩, fun u g z n h1 h2 h3 h4 h5 h6 => ?_, m6, m7, m8, m9, m10⟩
    · rcases h3 with h3 | ⟨rfl, rfl⟩
      · exact m1 s' x' h1 h2 h3
      · exact ev
    · rw [m4 n hn]
      refine ⟨fun h => h.elim Or.inl (fun ⟨s', y, a1, a2, a3, a4⟩ => Or.inr ⟨s', y, a1, a2, Or.inl a3, a4⟩), fun h => h.elim Or.inl (fun ⟨s', y, a1, a2, a3, a4, a5⟩ => ?_)⟩
      rcases a3 with a3 | ⟨rfl, a3⟩
      · exact Or.inr ⟨s', y, a1, a2, a3, a4, a5⟩
      · by_cases q : n < b
        · exact absurd a5 (no n q y a2 a3)
        · exact (m4 n hn).mp (by omega)
    · rw [m5 u g z n h1 h2 h3 h4 h5 h6]
      refine ⟨fun ⟨w, w1, w2, w3⟩ => ⟨w, w1, w2, w3.elim Or.inl (fun ⟨s', y, m, a1, a2, a3, a4⟩ => Or.inr ⟨s', y, m, a1, a2, Or.inl a3, a4⟩)⟩, fun ⟨w, w1, w2, w3⟩ => ⟨w, w1, w2, w3.elim Or.inl (fun ⟨s', y, m, a1, a2, a3, a4, a5, a6⟩ => ?_)⟩⟩
      rcases a3 with a3 | ⟨rfl, a3⟩
      · exact Or.inr ⟨s', y, m, a1, a2, a3, a4, a5, a6⟩
      · have := lz_S_u hg a5
        exact absurd (Nat.le_trans this.2.2.1 a6) (no n h6 y a2 a3)
  · have v6 : c (lz_ixc t s x) ≤ 6 := by omega
    obtain ⟨te, -, xA⟩ := h10 c99
    have cl1 : ∀ s' x', s' < 4 → x' < 256 → ¬ (s' = s ∧ x' = x) → lz_cl c (lz_ixc t s x) (lz_ixc t s' x') = c (lz_ixc t s' x') := fun s' x' h1 h2 h3 => if_neg (fun e => h3 (inj s' x' h1 h2 e))
    have cl2 : ∀ u g z, t < u → u ≤ t + 3 → g < 4 → z < 256 → lz_cl c (lz_ixc t s x) (lz_ixc u g z) = c (lz_ixc u g z) := fun u g z h1 h2 h3 h4 => if_neg (inj2 u g z h1 h2 h3 h4)
    have cl3 : lz_cl c (lz_ixc t s x) (lz_ixc t s x) = 99 := if_pos rfl
    have cl9 : ∀ i, lz_cl c (lz_ixc t s x) i = 99 ∨ lz_cl c (lz_ixc t s x) i ≤ 6 := fun i => by
      unfold lz_cl
      by_cases q : i = lz_ixc t s x
      · rw [if_pos q]; exact Or.inl rfl
      · rw [if_neg q]; exact m9 i
    have cl10 : ∀ u g z, t ≤ u → u ≤ t + 3 → g < 4 → z < 256 → lz_cl c (lz_ixc t s x) (lz_ixc u g z) ≠ 99 → u ≤ en ∧ g < st ∧ lz_sub z A := fun u g z h1 h2 h3 h4 h5 => by
      refine m10 u g z h1 h2 h3 h4 (fun q => h5 ?_)
      unfold lz_cl
      by_cases q2 : lz_ixc u g z = lz_ixc t s x
      · rw [if_pos q2]
      · rw [if_neg q2]; exact q
    by_cases hsat : x &&& set = set
    · rw [lz_w_1 c99 hsat]
      dsimp only
      generalize ev : c (lz_ixc t s x) = v at hv v6 ⊢
      have hb' : (if v < b then v else b) ≤ b ∧ (if v < b then v else b) ≤ v := by
        by_cases q : v < b
        · rw [if_pos q]; omega
        · rw [if_neg q]; omega
      have an_ : ∀ n, n < 7 → ((if v < b then v else b) ≤ n ↔ b ≤ n ∨ v ≤ n) := fun n _ => by
        by_cases q : v < b
        · rw [if_pos q]; omega
        · rw [if_neg q]; omega
      refine ⟨fun s' x' h1 h2 h3 => ?_, fun s' x' n h1 h2 h3 hn => ?_, ⟨by omega, fun n hn => ?_⟩, fun u g z n h1 h2 h3 h4 h5 h6 => ?_, ?_, ?_, ?_, cl9, cl10⟩
      · by_cases q : s' = s ∧ x' = x
        · obtain ⟨rfl, rfl⟩ := q; exact cl3
        · rw [cl1 s' x' h1 h2 q]
          rcases h3 with h3 | h3
          · exact m1 s' x' h1 h2 h3
          · exact absurd h3 q
      · rw [cl1 s' x' h1 h2 (fun h => h3 (Or.inr h))]
        exact m2 s' x' n h1 h2 (fun h => h3 (Or.inl h)) (by omega)
      · rw [an_ n hn, m4 n hn]
        refine ⟨fun h => ?_, fun h => ?_⟩
        · rcases h with (h | ⟨s', y, a1, a2, a3, a4⟩) | h
          · exact Or.inl h
          · exact Or.inr ⟨s', y, a1, a2, Or.inl a3, a4⟩
          · by_cases q : n < b
            · obtain ⟨y, y1, y2, y3⟩ := (hv n s4 hx hD q).mp h
              exact Or.inr ⟨s, y, s4, y1, Or.inr ⟨rfl, y2⟩, by rw [y2]; exact hsat, y3⟩
            · rcases (m4 n hn).mp (by omega) with r | ⟨s', y, a1, a2, a3, a4⟩
              · exact Or.inl r
              · exact Or.inr ⟨s', y, a1, a2, Or.inl a3, a4⟩
        · rcases h with h | ⟨s', y, a1, a2, a3, a4, a5⟩
          · exact Or.inl (Or.inl h)
          · rcases a3 with a3 | ⟨rfl, a3⟩
            · exact Or.inl (Or.inr ⟨s', y, a1, a2, a3, a4, a5⟩)
            · by_cases q : n < b
              · exact Or.inr ((hv n s4 hx hD q).mpr ⟨y, a2, a3, a5⟩)
              · exact Or.inl ((m4 n hn).mp (by omega))
      · rw [cl2 u g z h1 h2 h4 h5, m5 u g z n h1 h2 h3 h4 h5 (by omega)]
        refine ⟨fun ⟨w, w1, w2, w3⟩ => ⟨w, w1, w2, w3.elim Or.inl (fun ⟨s', y, m, a1, a2, a3, a4⟩ => Or.inr ⟨s', y, m, a1, a2, Or.inl a3, a4⟩)⟩, fun ⟨w, w1, w2, w3⟩ => ⟨w, w1, w2, w3.elim Or.inl (fun ⟨s', y, m, a1, a2, a3, a4, a5, a6⟩ => ?_)⟩⟩
        rcases a3 with a3 | ⟨rfl, a3⟩
        · exact Or.inr ⟨s', y, m, a1, a2, a3, a4, a5, a6⟩
        · have su := lz_S_u hg a5
          have := (hv n s4 hx hD (by omega)).mpr ⟨y, a2, a3, by omega⟩
          omega
      · by_cases q : v < b
        · rw [if_pos q, if_pos q]
          refine Or.inr ⟨?_, rfl⟩
          rcases m6 with ⟨r, -⟩ | ⟨r, -⟩ <;> omega
        · rw [if_neg q, if_neg q]; exact m6
      · by_cases q : v < b
        · rw [if_pos q, if_pos q, if_neg (by omega)]
        · rw [if_neg q, if_neg q]; exact m7
      · by_cases w : fw < 7
        · rw [if_pos w] at m8 ⊢
          have := han w
          rw [if_neg (show ¬ ma = 4294967292 by omega)]
          exact m8
        · rw [if_neg w] at m8 ⊢
          have nb : (if v < b then v else b) < 7 := by omega
          rw [if_pos nb]
          by_cases z : ma = 4294967292
          · rw [if_pos z]
          · rw [if_neg z]
            by_cases z2 : b < 7
            · rw [if_pos z2] at m8; exact m8
            · rw [if_neg z2] at m8; exact absurd m8 z
    · rw [lz_w_2 c99 hsat]
      dsimp only
      generalize ev : c (lz_ixc t s x) = v at hv v6 ⊢
      have pl : ∀ i n, lz_p (lz_okc en b) lz_ixc cl f go st t s x v (lz_cl c (lz_ixc t s x)) i ≤ n ↔ lz_cl c (lz_ixc t s x) i ≤ n ∨ ∃ u g y m, lz_S cl f go st t s x v u g y m ∧ (u ≤ en ∧ m < b) ∧ i = lz_ixc u g y ∧ m ≤ n := fun i n => by
        rw [lz_p_le]
        unfold lz_okc
        simp only [Bool.and_eq_true, decide_eq_true_eq]
      -- nothing comes to this minute
      have same : ∀ s' x', s' < 4 → x' < 256 → lz_p (lz_okc en b) lz_ixc cl f go st t s x v (lz_cl c (lz_ixc t s x)) (lz_ixc t s' x') = lz_cl c (lz_ixc t s x) (lz_ixc t s' x') := fun s' x' h1 h2 => lz_eq fun n => by
        rw [pl]
        refine ⟨fun h => h.elim (fun h => h) (fun ⟨u, g, y, m, a1, a2, a3, a4⟩ => ?_), Or.inl⟩
        have su := lz_S_u hg a1
        have bb := lz_S_b hC hf s4 hst hx a1
        have := (lz_ixc_i (t := t) (by omega) (by omega) (by omega) (by omega) h1 h2 bb.1 bb.2 a3).1
        omega
      refine ⟨fun s' x' h1 h2 h3 => ?_, fun s' x' n h1 h2 h3 hn => ?_, ⟨m3, fun n hn => ?_⟩, fun u g z n h1 h2 h3 h4 h5 h6 => ?_, m6, m7, m8, fun i => ?_, fun u g z h1 h2 h3 h4 h5 => ?_⟩
      · rw [same s' x' h1 h2]
        by_cases q : s' = s ∧ x' = x
        · obtain ⟨rfl, rfl⟩ := q; exact cl3
        · rw [cl1 s' x' h1 h2 q]
          rcases h3 with h3 | h3
          · exact m1 s' x' h1 h2 h3
          · exact absurd h3 q
      · rw [same s' x' h1 h2, cl1 s' x' h1 h2 (fun h => h3 (Or.inr h))]
        exact m2 s' x' n h1 h2 (fun h => h3 (Or.inl h)) hn
      · rw [m4 n hn]
        refine ⟨fun h => h.elim Or.inl (fun ⟨s', y, a1, a2, a3, a4⟩ => Or.inr ⟨s', y, a1, a2, Or.inl a3, a4⟩), fun h => h.elim Or.inl (fun ⟨s', y, a1, a2, a3, a4, a5⟩ => ?_)⟩
        rcases a3 with a3 | ⟨rfl, a3⟩
        · exact Or.inr ⟨s', y, a1, a2, a3, a4, a5⟩
        · rw [a3] at a4
          exact absurd a4 hsat
      · rw [pl, cl2 u g z h1 h2 h4 h5, m5 u g z n h1 h2 h3 h4 h5 h6]
        refine ⟨fun h => ?_, fun ⟨w, w1, w2, w3⟩ => ?_⟩
        · rcases h with ⟨w, w1, w2, w3⟩ | ⟨u', g', z', m, a1, a2, a3, a4⟩
          · exact ⟨w, w1, w2, w3.elim Or.inl (fun ⟨s', y, m, a1, a2, a3, a4⟩ => Or.inr ⟨s', y, m, a1, a2, Or.inl a3, a4⟩)⟩
          · have su := lz_S_u hg a1
            have bb := lz_S_b hC hf s4 hst hx a1
            obtain ⟨rfl, rfl, rfl⟩ := lz_ixc_i (t := t) (by omega) (by omega) (by omega) (by omega) h4 h5 bb.1 bb.2 a3
            obtain ⟨y, y1, y2, y3⟩ := (hv v s4 hx hD (by omega)).mp (Nat.le_refl _)
            subst y2
            obtain ⟨w, m', w1, w2, w3, w4⟩ := lz_S_o hC hf y1 a1 y3
            exact ⟨w, w1, w2, Or.inr ⟨s, y, m', s4, y1, Or.inr ⟨rfl, rfl⟩, by omega, w4, by omega⟩⟩
        · rcases w3 with w3 | ⟨s', y, m, a1, a2, a3, a4, a5, a6⟩
          · exact Or.inl ⟨w, w1, w2, Or.inl w3⟩
          · rcases a3 with a3 | ⟨rfl, a3⟩
            · exact Or.inl ⟨w, w1, w2, Or.inr ⟨s', y, m, a1, a2, a3, a4, a5, a6⟩⟩
            · have su := lz_S_u hg a5
              have vv := (hv (E (lz_ixr t s' y)) s4 hx hD (by omega)).mpr ⟨y, a2, a3, Nat.le_refl _⟩
              obtain ⟨m', q1, q2⟩ := lz_S_c hC hf a2 a5 vv
              rw [a3, w2] at q2
              exact Or.inr ⟨u, g, z, m', q2, ⟨h3, by omega⟩, rfl, by omega⟩
      · by_cases q : lz_p (lz_okc en b) lz_ixc cl f go st t s x v (lz_cl c (lz_ixc t s x)) i ≤ 6
        · exact Or.inr q
        · refine Or.inl (lz_eq fun n => ?_)
          rw [pl]
          refine ⟨fun h => ?_, fun h => ?_⟩
          · rcases h with h | ⟨u, g, y, m, a1, a2, a3, a4⟩
            · rcases cl9 i with r | r
              · omega
              · exact absurd ((pl i 6).mpr (Or.inl r)) q
            · exact absurd ((pl i 6).mpr (Or.inr ⟨u, g, y, m, a1, a2, a3, by omega⟩)) q
          · rcases cl9 i with r | r
            · exact Or.inl (by omega)
            · exact Or.inl (by omega)
      · by_cases q : lz_cl c (lz_ixc t s x) (lz_ixc u g z) = 99
        · -- it has come there now
          have ne : lz_p (lz_okc en b) lz_ixc cl f go st t s x v (lz_cl c (lz_ixc t s x)) (lz_ixc u g z) ≤ 98 := by
            have := (pl (lz_ixc u g z) 99).mpr (Or.inl (by omega))
            omega
          rcases (pl _ _).mp ne with r | ⟨u', g', y, m, a1, a2, a3, a4⟩
          · omega
          · have su := lz_S_u hg a1
            have bb := lz_S_b hC hf s4 hst hx a1
            obtain ⟨rfl, rfl, rfl⟩ := lz_ixc_i (t := t) (by omega) (by omega) (by omega) (by omega) h3 h4 bb.1 bb.2 a3
            refine ⟨a2.1, ?_⟩
            have go0 : ∀ k, k < st → t < en → lz_sub (cl (x ||| f k t)) A := fun k hk h6 => by
              have e := hC.2.2.1 (x ||| f k t) A (lz_or_lt hx (hf _ _)) hA (lz_sub_or xA (hfA k t hk h6))
              rw [hcA] at e
              exact e
            rcases a1 with ⟨rfl, rfl, rfl, -⟩ | ⟨b1, -, b3, rfl, -⟩
            · exact ⟨hs, go0 _ hs (by omega)⟩
            · refine ⟨b1, ?_⟩
              unfold lz_X
              unfold lz_T at b3
              by_cases cg : go = 0
              · rw [if_pos cg] at b3 ⊢
                exact go0 _ b1 (by omega)
              · rw [if_neg cg]; exact xA
        · exact cl10 u g z h1 h2 h3 h4 q
/-- only which places are done matters -/
theorem lz_M_D {E : Nat → Nat} {en A : Nat} {cl : Nat → Nat} {f : Nat → Nat → Nat} {go st set fw so an t : Nat} {D D' : Nat → Nat → Prop} {c : Nat → Nat} {b fg mf ma : Nat} (hD : ∀ s x, D s x ↔ D' s x) (h : lz_M E en A cl f go st set fw so an t D c b fg mf ma) : lz_M E en A cl f go st set fw so an t D' c b fg mf ma := by
  have e : D = D' := funext fun s => funext fun x => propext (hD s x)
  subst e
  exact h
/-- a station's places, one behind the other -/
theorem lz_M_x {E : Nat → Nat} {en A : Nat} {cl : Nat → Nat} {f : Nat → Nat → Nat} {go st set fw so an t : Nat} (hC : lz_C cl) (hf : ∀ s t, f s t < 256) (hg : go ≤ 3) (hst : st ≤ 4) (hA : A < 256) (hcA : cl A = A) (hfA : ∀ s t, s < st → t < en → lz_sub (f s t) A) (ht : t < 4294967292) (hfw : fw ≤ 7) (han : fw < 7 → an < 4294967292) {σ : (Nat → Nat) × Nat × Nat × Nat × Nat} {s : Nat} (hs : s < st) : ∀ x, x ≤ 256 → lz_M E en A cl f go st set fw so an t (fun s' x' => s' < s ∧ x' ≤ A) σ.1 σ.2.1 σ.2.2.1 σ.2.2.2.1 σ.2.2.2.2 → lz_M E en A cl f go st set fw so an t (fun s' x' => (s' < s ∧ x' ≤ A) ∨ (s' = s ∧ x' < x)) (lz_wx en cl f go st set t s σ x).1 (lz_wx en cl f go st set t s σ x).2.1 (lz_wx en cl f go st set t s σ x).2.2.1 (lz_wx en cl f go st set t s σ x).2.2.2.1 (lz_wx en cl f go st set t s σ x).2.2.2.2
  | 0, _, h => by
    refine lz_M_D (fun s' x' => ?_) h
    constructor
    · exact Or.inl
    · intro q; rcases q with q | q
      · exact q
      · omega
  | x + 1, hx, h => by
    have ih := lz_M_x hC hf hg hst hA hcA hfA ht hfw han hs x (by omega) h
    have q := lz_M_w hC hf hg hst hA hcA hfA ht hfw han ih hs (show x < 256 by omega) (by omega)
    refine lz_M_D (fun s' x' => ?_) q
    constructor
    · intro r; rcases r with (r | r) | r
      · exact Or.inl r
      · exact Or.inr ⟨r.1, by omega⟩
      · exact Or.inr ⟨r.1, by omega⟩
    · intro r; rcases r with r | r
      · exact Or.inl (Or.inl r)
      · by_cases c : x' = x
        · exact Or.inr ⟨r.1, c⟩
        · exact Or.inl (Or.inr ⟨r.1, by omega⟩)
theorem lz_M_s {E : Nat → Nat} {en A : Nat} {cl : Nat → Nat} {f : Nat → Nat → Nat} {go st set fw so an t : Nat} (hC : lz_C cl) (hf : ∀ s t, f s t < 256) (hg : go ≤ 3) (hst : st ≤ 4) (hA : A < 256) (hcA : cl A = A) (hfA : ∀ s t, s < st → t < en → lz_sub (f s t) A) (ht : t < 4294967292) (hfw : fw ≤ 7) (han : fw < 7 → an < 4294967292) {σ : (Nat → Nat) × Nat × Nat × Nat × Nat} (h : lz_M E en A cl f go st set fw so an t (fun _ _ => False) σ.1 σ.2.1 σ.2.2.1 σ.2.2.2.1 σ.2.2.2.2) : ∀ s, s ≤ st → lz_M E en A cl f go st set fw so an t (fun s' x' => s' < s ∧ x' ≤ A) (lz_ws en A cl f go st set t σ s).1 (lz_ws en A cl f go st set t σ s).2.1 (lz_ws en A cl f go st set t σ s).2.2.1 (lz_ws en A cl f go st set t σ s).2.2.2.1 (lz_ws en A cl f go st set t σ s).2.2.2.2
  | 0, _ => lz_M_D (fun s' x' => ⟨fun q => q.elim, fun q => absurd q.1 (Nat.not_lt_zero _)⟩) h
  | s + 1, hs => by
    have ih := lz_M_s hC hf hg hst hA hcA hfA ht hfw han h s (by omega)
    have q := lz_M_x hC hf hg hst hA hcA hfA ht hfw han (s := s) (by omega) (A + 1) (by omega) ih
    refine lz_M_D (fun s' x' => ?_) q
    constructor
    · intro r; rcases r with r | r
      · exact ⟨by omega, r.2⟩
      · exact ⟨by omega, by omega⟩
    · intro r
      by_cases c : s' = s
      · exact Or.inr ⟨c, by omega⟩
      · exact Or.inl ⟨by omega, r.2⟩
