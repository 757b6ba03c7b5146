/-! ===== what a text tells: numbers ===== -/
/-- letters of the text: none behind its end -/
def rd_c (tx len i : Nat) : Nat := if i < len then am_ag tx i else 0
abbrev rd_fg (c : Nat → Nat) (p : Nat) : Prop := 48 ≤ c p ∧ c p ≤ 57
def rd_nf (c : Nat → Nat) (p : Nat) : Nat := if rd_fg c p then (if rd_fg c (p + 1) then 2 else 1) else 0
def rd_vl (c : Nat → Nat) (p : Nat) : Nat := if rd_fg c (p + 1) then 10 * (c p - 48) + (c (p + 1) - 48) else c p - 48
def rd_ps (c : Nat → Nat) (p : Nat) : Nat → Nat
  | 0 => p
  | k + 1 => rd_ps c p k + rd_nf c (rd_ps c p k) + 1
def rd_Q (c : Nat → Nat) (p sep k : Nat) : Prop := rd_fg c (rd_ps c p k) ∧ c (rd_ps c p k + rd_nf c (rd_ps c p k)) = sep
def rd_A (c : Nat → Nat) (p n : Nat) : Prop := (∀ j, j + 1 < n → rd_Q c p 44 j) ∧ rd_Q c p 59 (n - 1)
theorem rd_c_lt {tx len i : Nat} (h : i < len) : rd_c tx len i = am_ag tx i := if_pos h
theorem rd_c_ge {tx len i : Nat} (h : ¬ i < len) : rd_c tx len i = 0 := if_neg h
theorem rd_c_eq {tx tm len : Nat} (h : ∀ i, i < len → am_ag tx i = am_ag tm i) : rd_c tx len = rd_c tm len := by
  funext i
  unfold rd_c
  by_cases q : i < len
  · rw [if_pos q, if_pos q, h i q]
  · rw [if_neg q, if_neg q]
theorem rd_fg_iff {tx len p : Nat} : rd_fg (rd_c tx len) p ↔ (p < len ∧ 48 ≤ am_ag tx p ∧ am_ag tx p ≤ 57) := by
  unfold rd_fg
  by_cases q : p < len
  · rw [rd_c_lt q]; exact ⟨fun h => ⟨q, h⟩, fun h => h.2⟩
  · rw [rd_c_ge q]; exact ⟨fun h => by omega, fun h => absurd h.1 q⟩
theorem rd_nf_0 {c : Nat → Nat} {p : Nat} (h : ¬ rd_fg c p) : rd_nf c p = 0 := if_neg h
theorem rd_nf_1 {c : Nat → Nat} {p : Nat} (h : rd_fg c p) (h1 : ¬ rd_fg c (p + 1)) : rd_nf c p = 1 := by unfold rd_nf; rw [if_pos h, if_neg h1]
theorem rd_nf_2 {c : Nat → Nat} {p : Nat} (h : rd_fg c p) (h1 : rd_fg c (p + 1)) : rd_nf c p = 2 := by unfold rd_nf; rw [if_pos h, if_pos h1]
theorem rd_nf_le (c : Nat → Nat) (p : Nat) : rd_nf c p ≤ 2 := by
  unfold rd_nf
  split
  · split <;> omega
  · omega
theorem rd_nf_fg {c : Nat → Nat} {p : Nat} : rd_fg c p ↔ rd_nf c p ≠ 0 := by
  unfold rd_nf
  by_cases h : rd_fg c p
  · rw [if_pos h]
    refine ⟨fun _ => ?_, fun _ => h⟩
    split <;> omega
  · rw [if_neg h]
    exact ⟨fun q => absurd q h, fun q => absurd rfl q⟩
theorem rd_nf_len {tx len p : Nat} (h : p ≤ len) : p + rd_nf (rd_c tx len) p ≤ len := by
  by_cases h0 : rd_fg (rd_c tx len) p
  · by_cases h1 : rd_fg (rd_c tx len) (p + 1)
    · rw [rd_nf_2 h0 h1]
      have := rd_fg_iff.mp h1
      omega
    · rw [rd_nf_1 h0 h1]
      have := rd_fg_iff.mp h0
      omega
  · rw [rd_nf_0 h0]
    omega
theorem rd_vl_99 {c : Nat → Nat} {p : Nat} (h : rd_fg c p) : rd_vl c p ≤ 99 := by
  unfold rd_vl
  unfold rd_fg at h
  split
  · rename_i h1
    unfold rd_fg at h1
    omega
  · omega
theorem rd_Q_ne {c : Nat → Nat} {p k : Nat} (h : rd_Q c p 44 k) (h1 : rd_Q c p 59 k) : False := by
  have a := h.2
  have b := h1.2
  omega
theorem rd_A_uniq {c : Nat → Nat} {p n m : Nat} (hn : 1 ≤ n) (hm : 1 ≤ m) (h : rd_A c p n) (h1 : rd_A c p m) : n = m := by
  by_cases q : n < m
  · exact (rd_Q_ne (h1.1 (n - 1) (by omega)) h.2).elim
  · by_cases q2 : m < n
    · exact (rd_Q_ne (h.1 (m - 1) (by omega)) h1.2).elim
    · omega
theorem rd_noA {c : Nat → Nat} {p k : Nat} (hQ : ∀ j, j < k → rd_Q c p 44 j) (h1 : ¬ rd_Q c p 44 k) (h2 : ¬ rd_Q c p 59 k) {n : Nat} (hn : 1 ≤ n) : ¬ rd_A c p n := fun h => by
  by_cases q : n ≤ k
  · exact rd_Q_ne (hQ (n - 1) (by omega)) h.2
  · by_cases q2 : n = k + 1
    · subst q2
      exact h2 h.2
    · exact h1 (h.1 k (by omega))
theorem rd_noA5 {c : Nat → Nat} {p k : Nat} (hQ : ∀ j, j < k → rd_Q c p 44 j) {n : Nat} (hn : 1 ≤ n) (hk : n ≤ k) : ¬ rd_A c p n := fun h => rd_Q_ne (hQ (n - 1) (by omega)) h.2
theorem rd_Q_sp {tx len p sep k : Nat} (hs : sep ≠ 0) (h : rd_Q (rd_c tx len) p sep k) : rd_ps (rd_c tx len) p (k + 1) ≤ len := by
  have h1 := h.2
  by_cases q : rd_ps (rd_c tx len) p k + rd_nf (rd_c tx len) (rd_ps (rd_c tx len) p k) < len
  · show rd_ps (rd_c tx len) p k + rd_nf (rd_c tx len) (rd_ps (rd_c tx len) p k) + 1 ≤ len
    omega
  · rw [rd_c_ge q] at h1
    exact absurd h1.symm hs
theorem rd_ps_gt (c : Nat → Nat) (p : Nat) : ∀ k, p + k ≤ rd_ps c p k
  | 0 => Nat.le_refl _
  | k + 1 => by
    have := rd_ps_gt c p k
    show p + (k + 1) ≤ rd_ps c p k + rd_nf c (rd_ps c p k) + 1
    omega
