/-! ===== lay of the class: its runs ===== -/
theorem jv_none (b : Nat) (hb : b < 64) : ax_at sbm b = none := by
  have h8 : b / 8 < 8 := by omega
  have : am_nth sbm (b / 8) = some [] := by
    have h : b / 8 = 0 ∨ b / 8 = 1 ∨ b / 8 = 2 ∨ b / 8 = 3 ∨ b / 8 = 4 ∨ b / 8 = 5 ∨ b / 8 = 6 ∨ b / 8 = 7 := by omega
    rcases h with q | q | q | q | q | q | q | q <;> rw [q] <;> rfl
  unfold ax_at
  rw [this]
  show am_nth ([] : List ax_C) (b % 8) = none
  rw [am_nth_eq]
  rfl
theorem jv_nonx {xs : ax_Sh} (hl : xs.length = 9) (hb : (xs[8]?).map List.length = some 2) (b : Nat) (h : 66 ≤ b) : ax_at xs b = none := by
  by_cases h8 : b / 8 = 8
  · unfold ax_at
    rw [h8, am_nth_eq]
    cases hx : xs[8]? with
    | none => rfl
    | some r =>
      rw [hx] at hb
      have h2 : r.length = 2 := Option.some.inj hb
      show am_nth r (b % 8) = none
      rw [am_nth_eq]
      exact List.getElem?_eq_none (by omega)
  · exact ax_at_far (by omega)
theorem jv_nonex (b : Nat) (h : 66 ≤ b) : ax_at xq0 b = none := jv_nonx rfl rfl b h
theorem jv_nonex1 (b : Nat) (h : 66 ≤ b) : ax_at xq1 b = none := jv_nonx rfl rfl b h
