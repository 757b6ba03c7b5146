/-! ===== what follows from facts, purely ===== -/
/-- one rule -/
def cl_1 (rr i all : Nat) : Nat := if all.testBit (am_ag rr (3 * i)) = true ∧ all.testBit (am_ag rr (3 * i + 1)) = true then all ||| 2 ^ (am_ag rr (3 * i + 2)) else all
/-- the first n rules, one behind the other -/
def cl_n (rr : Nat) : Nat → Nat → Nat
  | 0, all => all
  | n + 1, all => cl_1 rr n (cl_n rr n all)
/-- so many rounds -/
def cl_k (rr n : Nat) : Nat → Nat → Nat
  | 0, all => all
  | k + 1, all => cl_n rr n (cl_k rr n k all)
theorem cl_1_mono {rr i all j : Nat} (h : all.testBit j = true) : (cl_1 rr i all).testBit j = true := by
  unfold cl_1
  split
  · rw [Nat.testBit_or, h]; rfl
  · exact h
theorem cl_n_mono {rr : Nat} : ∀ {n all j : Nat}, all.testBit j = true → (cl_n rr n all).testBit j = true
  | 0, _, _, h => h
  | n + 1, all, j, h => cl_1_mono (cl_n_mono (n := n) h)
/-- rules whose fact isn't known yet -/
def cl_u (rr : Nat) : Nat → Nat → Nat
  | 0, _ => 0
  | n + 1, all => cl_u rr n all + (if all.testBit (am_ag rr (3 * n + 2)) = true then 0 else 1)
theorem cl_u_le (rr all : Nat) : ∀ n, cl_u rr n all ≤ n
  | 0 => Nat.le_refl _
  | n + 1 => by
    have := cl_u_le rr all n
    show cl_u rr n all + (if all.testBit (am_ag rr (3 * n + 2)) = true then 0 else 1) ≤ n + 1
    split <;> omega
theorem cl_u_mono {rr a b : Nat} (h : ∀ j, a.testBit j = true → b.testBit j = true) : ∀ n, cl_u rr n b ≤ cl_u rr n a
  | 0 => Nat.le_refl _
  | n + 1 => by
    have ih := cl_u_mono (rr := rr) h n
    show cl_u rr n b + (if b.testBit (am_ag rr (3 * n + 2)) = true then 0 else 1) ≤ cl_u rr n a + (if a.testBit (am_ag rr (3 * n + 2)) = true then 0 else 1)
    by_cases q : a.testBit (am_ag rr (3 * n + 2)) = true
    · rw [if_pos q, if_pos (h _ q)]; omega
    · rw [if_neg q]
      split <;> omega
theorem cl_u_lt {rr a b i : Nat} (h : ∀ j, a.testBit j = true → b.testBit j = true) (h1 : ¬ a.testBit (am_ag rr (3 * i + 2)) = true) (h2 : b.testBit (am_ag rr (3 * i + 2)) = true) : ∀ n, i < n → cl_u rr n b < cl_u rr n a
  | 0, hi => absurd hi (Nat.not_lt_zero _)
  | n + 1, hi => by
    show cl_u rr n b + (if b.testBit (am_ag rr (3 * n + 2)) = true then 0 else 1) < cl_u rr n a + (if a.testBit (am_ag rr (3 * n + 2)) = true then 0 else 1)
    by_cases q : i = n
    · subst q
      have := cl_u_mono h i (rr := rr)
      rw [if_pos h2, if_neg h1]
      omega
    · have ih := cl_u_lt h h1 h2 n (by omega)
      by_cases q2 : a.testBit (am_ag rr (3 * n + 2)) = true
      · rw [if_pos q2, if_pos (h _ q2)]; omega
      · rw [if_neg q2]
        split <;> omega
theorem cl_1_same {rr i all : Nat} (h : all.testBit (am_ag rr (3 * i + 2)) = true) : cl_1 rr i all = all := by
  unfold cl_1
  split
  · apply Nat.eq_of_testBit_eq
    intro j
    rw [Nat.testBit_or, Nat.testBit_two_pow]
    by_cases q : am_ag rr (3 * i + 2) = j
    · rw [← q, h]; rfl
    · rw [decide_eq_false q, Bool.or_false]
  · rfl
/-- a round that changes has told a fact that wasn't known -/
theorem cl_n_ch {rr : Nat} : ∀ {n all : Nat}, cl_n rr n all ≠ all → ∃ i, i < n ∧ ¬ all.testBit (am_ag rr (3 * i + 2)) = true ∧ (cl_n rr n all).testBit (am_ag rr (3 * i + 2)) = true
  | 0, all, h => absurd rfl h
  | n + 1, all, h => by
    by_cases q : cl_n rr n all = all
    · have h1 : cl_1 rr n all ≠ all := fun e => h (by show cl_1 rr n (cl_n rr n all) = all; rw [q]; exact e)
      have h2 : ¬ all.testBit (am_ag rr (3 * n + 2)) = true := fun e => h1 (cl_1_same e)
      refine ⟨n, by omega, h2, ?_⟩
      show (cl_1 rr n (cl_n rr n all)).testBit _ = true
      rw [q]
      unfold cl_1 at h1 ⊢
      split
      · rw [Nat.testBit_or, Nat.testBit_two_pow_self, Bool.or_true]
      · rename_i q2
        rw [if_neg q2] at h1
        exact absurd rfl h1
    · obtain ⟨i, h1, h2, h3⟩ := cl_n_ch q
      exact ⟨i, by omega, h2, cl_1_mono h3⟩
theorem cl_k_mono {rr n : Nat} : ∀ {k all j : Nat}, all.testBit j = true → (cl_k rr n k all).testBit j = true
  | 0, _, _, h => h
  | k + 1, _, _, h => cl_n_mono (cl_k_mono (k := k) h)
/-- behind k rounds it stays as it is, or k rules are done -/
theorem cl_k_fix {rr n all : Nat} : ∀ k, cl_n rr n (cl_k rr n k all) = cl_k rr n k all ∨ cl_u rr n (cl_k rr n k all) + k ≤ n
  | 0 => Or.inr (by have := cl_u_le rr all n; exact this)
  | k + 1 => by
    show cl_n rr n (cl_n rr n (cl_k rr n k all)) = cl_n rr n (cl_k rr n k all) ∨ cl_u rr n (cl_n rr n (cl_k rr n k all)) + (k + 1) ≤ n
    rcases cl_k_fix (rr := rr) (n := n) (all := all) k with h | h
    · exact Or.inl (by rw [h, h])
    · by_cases q : cl_n rr n (cl_k rr n k all) = cl_k rr n k all
      · exact Or.inl (by rw [q, q])
      · obtain ⟨i, h1, h2, h3⟩ := cl_n_ch q
        have := cl_u_lt (fun j hj => cl_n_mono (n := n) (rr := rr) hj) h2 h3 n h1
        exact Or.inr (by omega)
theorem cl_u_0 {rr all : Nat} : ∀ {n : Nat}, cl_u rr n all = 0 → cl_n rr n all = all
  | 0, _ => rfl
  | n + 1, h => by
    have h' : cl_u rr n all + (if all.testBit (am_ag rr (3 * n + 2)) = true then 0 else 1) = 0 := h
    have h1 : cl_u rr n all = 0 := by omega
    have h2 : all.testBit (am_ag rr (3 * n + 2)) = true := by
      by_cases q : all.testBit (am_ag rr (3 * n + 2)) = true
      · exact q
      · rw [if_neg q] at h'; omega
    show cl_1 rr n (cl_n rr n all) = all
    rw [cl_u_0 h1]
    exact cl_1_same h2
/-- six rounds are enough for six rules -/
theorem cl_6 {rr n all : Nat} (hn : n ≤ 6) : cl_n rr n (cl_k rr n 6 all) = cl_k rr n 6 all := by
  rcases cl_k_fix (rr := rr) (n := n) (all := all) 6 with h | h
  · exact h
  · exact cl_u_0 (by omega)
/-- a round without change: no later one changes -/
theorem cl_k_stop {rr n all k : Nat} (h : cl_n rr n (cl_k rr n k all) = cl_k rr n k all) : ∀ j, cl_k rr n (k + j) all = cl_k rr n k all
  | 0 => rfl
  | j + 1 => by
    show cl_n rr n (cl_k rr n (k + j) all) = _
    rw [cl_k_stop h j, h]
/-- only the rules' own numbers matter -/
theorem cl_1_congr {rr rr' i all : Nat} (h : ∀ j, j < 3 → am_ag rr (3 * i + j) = am_ag rr' (3 * i + j)) : cl_1 rr i all = cl_1 rr' i all := by
  have h0 : am_ag rr (3 * i) = am_ag rr' (3 * i) := h 0 (by decide)
  unfold cl_1
  rw [h0, h 1 (by decide), h 2 (by decide)]
theorem cl_n_congr {rr rr' n : Nat} (h : ∀ j, j < n * 3 → am_ag rr j = am_ag rr' j) : ∀ {m all : Nat}, m ≤ n → cl_n rr m all = cl_n rr' m all
  | 0, _, _ => rfl
  | m + 1, all, hm => by
    show cl_1 rr m (cl_n rr m all) = cl_1 rr' m (cl_n rr' m all)
    rw [cl_n_congr h (m := m) (all := all) (by omega), cl_1_congr (fun j hj => h _ (by omega))]
theorem cl_k_congr {rr rr' n : Nat} (h : ∀ j, j < n * 3 → am_ag rr j = am_ag rr' j) : ∀ {k all : Nat}, cl_k rr n k all = cl_k rr' n k all
  | 0, _ => rfl
  | k + 1, all => by
    show cl_n rr n (cl_k rr n k all) = cl_n rr' n (cl_k rr' n k all)
    rw [cl_k_congr h (k := k) (all := all), cl_n_congr h (Nat.le_refl _)]
