/-! ===== tests decided by inequalities ===== -/
theorem tc_lt_t {a b : Nat} (h : (a + 2147483648) % 4294967296 < (b + 2147483648) % 4294967296) : am_tlt a b = true := by
  unfold am_tlt
  simpa [Nat.blt_eq] using h
theorem tc_lt_f {a b : Nat} (h : (b + 2147483648) % 4294967296 ≤ (a + 2147483648) % 4294967296) : am_tlt a b = false := by
  unfold am_tlt
  cases hb : Nat.blt ((a + 2147483648) % 4294967296) ((b + 2147483648) % 4294967296)
  · rfl
  · have h1 : (a + 2147483648) % 4294967296 < (b + 2147483648) % 4294967296 := by simpa [Nat.blt_eq] using hb
    omega
theorem tc_eq_t {a b : Nat} (h : a % 4294967296 = b % 4294967296) : am_teq a b = true := by
  unfold am_teq
  rw [h]
  exact Nat.beq_refl _
theorem tc_eq_f {a b : Nat} (h : a % 4294967296 ≠ b % 4294967296) : am_teq a b = false := by
  unfold am_teq
  cases hb : Nat.beq (a % 4294967296) (b % 4294967296)
  · rfl
  · exact absurd (Nat.eq_of_beq_eq_true hb) h
theorem tcn_t {b : Bool} (h : b = false) : (!b) = true := by rw [h]; rfl
theorem tcn_f {b : Bool} (h : b = true) : (!b) = false := by rw [h]; rfl
theorem tk_eq_t {a b : Nat} (h : a % 4294967296 = b % 4294967296) : am_tc .eq a b = true := tc_eq_t h
theorem tk_eq_f {a b : Nat} (h : a % 4294967296 ≠ b % 4294967296) : am_tc .eq a b = false := tc_eq_f h
theorem tk_lt_t {a b : Nat} (h : (a + 2147483648) % 4294967296 < (b + 2147483648) % 4294967296) : am_tc .lt a b = true := tc_lt_t h
theorem tk_lt_f {a b : Nat} (h : (b + 2147483648) % 4294967296 ≤ (a + 2147483648) % 4294967296) : am_tc .lt a b = false := tc_lt_f h
theorem tk_gt_t {a b : Nat} (h : (b + 2147483648) % 4294967296 < (a + 2147483648) % 4294967296) : am_tc .gt a b = true := tc_lt_t h
theorem tk_gt_f {a b : Nat} (h : (a + 2147483648) % 4294967296 ≤ (b + 2147483648) % 4294967296) : am_tc .gt a b = false := tc_lt_f h
theorem tk_ne_t {a b : Nat} (h : a % 4294967296 ≠ b % 4294967296) : am_tc .ne a b = true := by
  show (!am_teq a b) = true
  rw [tc_eq_f h]
  rfl
theorem tk_ne_f {a b : Nat} (h : a % 4294967296 = b % 4294967296) : am_tc .ne a b = false := by
  show (!am_teq a b) = false
  rw [tc_eq_t h]
  rfl
theorem tk_ge_t {a b : Nat} (h : (b + 2147483648) % 4294967296 ≤ (a + 2147483648) % 4294967296) : am_tc .ge a b = true := by
  show (!am_tlt a b) = true
  rw [tc_lt_f h]
  rfl
theorem tk_ge_f {a b : Nat} (h : (a + 2147483648) % 4294967296 < (b + 2147483648) % 4294967296) : am_tc .ge a b = false := by
  show (!am_tlt a b) = false
  rw [tc_lt_t h]
  rfl
theorem tk_le_t {a b : Nat} (h : (a + 2147483648) % 4294967296 ≤ (b + 2147483648) % 4294967296) : am_tc .le a b = true := by
  show (!am_tlt b a) = true
  rw [tc_lt_f h]
  rfl
theorem tk_le_f {a b : Nat} (h : (b + 2147483648) % 4294967296 < (a + 2147483648) % 4294967296) : am_tc .le a b = false := by
  show (!am_tlt b a) = false
  rw [tc_lt_t h]
  rfl
