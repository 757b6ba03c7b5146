/-! ===== numbers: ints as naturals modulo 2^32 ===== -/
theorem an_mod (n : Nat) : Int32.ofNat (n % 4294967296) = Int32.ofNat n := by
  apply Int32.toBitVec_inj.mp
  apply BitVec.eq_of_toNat_eq
  simp
theorem an_toInt (n : Nat) : (Int32.ofNat n).toInt = Int.bmod n 4294967296 := by
  simp [Int32.toInt_ofNat']
theorem an_add (a b : Nat) : Int32.ofNat ((a + b) % 4294967296) = Int32.ofNat a + Int32.ofNat b := by
  rw [an_mod, Int32.ofNat_add]
theorem an_mul (a b : Nat) : Int32.ofNat ((a * b) % 4294967296) = Int32.ofNat a * Int32.ofNat b := by
  rw [an_mod, Int32.ofNat_mul]
theorem an_sub (a b : Nat) : Int32.ofNat ((a + (4294967296 - b % 4294967296)) % 4294967296) = Int32.ofNat a - Int32.ofNat b := by
  apply Int32.toBitVec_inj.mp
  apply BitVec.eq_of_toNat_eq
  simp [BitVec.toNat_sub]
  omega
theorem an_and (a b : Nat) : Int32.ofNat (a &&& b) = Int32.ofNat a &&& Int32.ofNat b := by
  apply Int32.toBitVec_inj.mp
  simp
theorem an_or (a b : Nat) : Int32.ofNat (a ||| b) = Int32.ofNat a ||| Int32.ofNat b := by
  apply Int32.toBitVec_inj.mp
  simp
theorem an_xor (a b : Nat) : Int32.ofNat (a ^^^ b) = Int32.ofNat a ^^^ Int32.ofNat b := by
  apply Int32.toBitVec_inj.mp
  simp
theorem an_eq (a b : Nat) : (Int32.ofNat a = Int32.ofNat b) ↔ a % 4294967296 = b % 4294967296 := by
  constructor
  · intro h
    have h2 := congrArg (fun x : Int32 => x.toBitVec.toNat) h
    simpa using h2
  · intro h
    rw [← an_mod a, ← an_mod b, h]
theorem an_lt (a b : Nat) : (Int32.ofNat a < Int32.ofNat b) ↔ (a + 2147483648) % 4294967296 < (b + 2147483648) % 4294967296 := by
  rw [Int32.lt_iff_toInt_lt, an_toInt, an_toInt]
  simp only [Int.bmod]
  omega
theorem an_le (a b : Nat) : (Int32.ofNat a ≤ Int32.ofNat b) ↔ (a + 2147483648) % 4294967296 ≤ (b + 2147483648) % 4294967296 := by
  rw [Int32.le_iff_toInt_le, an_toInt, an_toInt]
  simp only [Int.bmod]
  omega
theorem an_clamp {a : Nat} (h : a < 2147483648) : (Int32.ofNat a).toNatClampNeg = a := by
  show (Int32.ofNat a).toInt.toNat = a
  rw [an_toInt]
  simp only [Int.bmod]
  omega
theorem an_nonneg {a : Nat} (h : a < 2147483648) : ¬ Int32.ofNat a < 0 := by
  have := an_lt a 0
  intro h2
  have h3 := this.mp h2
  omega
theorem an_toIntS {a : Nat} (h : a < 2147483648) : (Int32.ofNat a).toInt = a := by
  rw [an_toInt]
  simp only [Int.bmod]
  omega
theorem an_div {a b : Nat} (ha : a < 2147483648) (hb : b < 2147483648) : Int32.ofNat (a / b) = Int32.ofNat a / Int32.ofNat b := by
  apply Int32.toInt_inj.mp
  have h1 : a / b < 2147483648 := Nat.lt_of_le_of_lt (Nat.div_le_self _ _) ha
  rw [Int32.toInt_div, an_toIntS h1, an_toIntS ha, an_toIntS hb]
  have e : ((a : Int).tdiv (b : Int)) = ((a / b : Nat) : Int) := by simp
  rw [e, show ((2 : Nat) ^ 32) = 4294967296 from rfl]
  simp only [Int.bmod]
  generalize a / b = q at h1 ⊢
  omega
theorem an_rem {a b : Nat} (ha : a < 2147483648) (hb : b < 2147483648) : Int32.ofNat (a % b) = Int32.ofNat a - Int32.ofNat a / Int32.ofNat b * Int32.ofNat b := by
  rw [← an_div ha hb]
  rw [← Int32.ofNat_mul]
  have e : a % b = a - a / b * b := by
    have := Nat.div_add_mod a b
    rw [Nat.mul_comm] at this
    omega
  have hle : a / b * b ≤ a := Nat.div_mul_le_self a b
  rw [e]
  apply Int32.toBitVec_inj.mp
  apply BitVec.eq_of_toNat_eq
  simp [BitVec.toNat_sub]
  omega
theorem an_ne0 {b : Nat} (h0 : 0 < b) (hb : b < 2147483648) : ¬ Int32.ofNat b = 0 := by
  intro h
  have h2 := (an_eq b 0).mp h
  omega
