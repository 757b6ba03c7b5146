/-! ===== numbers: ints as naturals modulo 2^32 ===== -/
theorem an_mod (n : Nat) : Int32.ofNat (n % 4294967296) = Int32.ofNat n := by
  apply Int32.toBitVec_inj.mp
  apply BitVec.eq_of_toNat_eq
  simp
theorem an_toInt (n : Nat) : (Int32.ofNat n).toInt = Int.bmod n 4294967296 := by
  simp [Int32.toInt_ofNat']
theorem an_add (a b : Nat) : Int32.ofNat ((a + b) % 4294967296) = Int32.ofNat a + Int32.ofNat b := by
  rw [an_mod, Int32.ofNat_add]
theorem an_mul (a b : Nat) : Int32.ofNat ((a * b) % 4294967296) = Int32.ofNat a * Int32.ofNat b := by
  rw [an_mod, Int32.ofNat_mul]
theorem an_sub (a b : Nat) : Int32.ofNat ((a + (4294967296 - b % 4294967296)) % 4294967296) = Int32.ofNat a - Int32.ofNat b := by
  apply Int32.toBitVec_inj.mp
  apply BitVec.eq_of_toNat_eq
  simp [BitVec.toNat_sub]
  omega
theorem an_and (a b : Nat) : Int32.ofNat (a &&& b) = Int32.ofNat a &&& Int32.ofNat b := by
  apply Int32.toBitVec_inj.mp
  simp
theorem an_or (a b : Nat) : Int32.ofNat (a ||| b) = Int32.ofNat a ||| Int32.ofNat b := by
  apply Int32.toBitVec_inj.mp
  simp
theorem an_xor (a b : Nat) : Int32.ofNat (a ^^^ b) = Int32.ofNat a ^^^ Int32.ofNat b := by
  apply Int32.toBitVec_inj.mp
  simp
theorem an_eq (a b : Nat) : (Int32.ofNat a = Int32.ofNat b) ↔ a % 4294967296 = b % 4294967296 := by
  constructor
  · intro h
    have h2 := congrArg (fun x : Int32 => x.toBitVec.toNat) h
    simpa using h2
  · intro h
    rw [← an_mod a, ← an_mod b, h]
theorem an_lt (a b : Nat) : (Int32.ofNat a < Int32.ofNat b) ↔ (a + 2147483648) % 4294967296 < (b + 2147483648) % 4294967296 := by
  rw [Int32.lt_iff_toInt_lt, an_toInt, an_toInt]
  simp only [Int.bmod]
  omega
theorem an_le (a b : Nat) : (Int32.ofNat a ≤ Int32.ofNat b) ↔ (a + 2147483648) % 4294967296 ≤ (b + 2147483648) % 4294967296 := by
  rw [Int32.le_iff_toInt_le, an_toInt, an_toInt]
  simp only [Int.bmod]
  omega
theorem an_clamp {a : Nat} (h : a < 2147483648) : (Int32.ofNat a).toNatClampNeg = a := by
  show (Int32.ofNat a).toInt.toNat = a
  rw [an_toInt]
  simp only [Int.bmod]
  omega
theorem an_nonneg {a : Nat} (h : a < 2147483648) : ¬ Int32.ofNat a < 0 := by
  have := an_lt a 0
  intro h2
  have h3 := this.mp h2
  omega
theorem an_toIntS {a : Nat} (h : a < 2147483648) : (Int32.ofNat a).toInt = a := by
  rw [an_toInt]
  simp only [Int.bmod]
  omega
theorem an_div {a b : Nat} (ha : a < 2147483648) (hb : b < 2147483648) : Int32.ofNat (a / b) = Int32.ofNat a / Int32.ofNat b := by
  apply Int32.toInt_inj.mp
  have h1 : a / b < 2147483648 := Nat.lt_of_le_of_lt (Nat.div_le_self _ _) ha
  rw [Int32.toInt_div, an_toIntS h1, an_toIntS ha, an_toIntS hb]
  have e : ((a : Int).tdiv (b : Int)) = ((a / b : Nat) : Int) := by simp
  rw [e, show ((2 : Nat) ^ 32) = 4294967296 from rfl]
  simp only [Int.bmod]
  generalize a / b = q at h1 ⊢
  omega
theorem an_rem {a b : Nat} (ha : a < 2147483648) (hb : b < 2147483648) : Int32.ofNat (a % b) = Int32.ofNat a - Int32.ofNat a / Int32.ofNat b * Int32.ofNat b := by
  rw [← an_div ha hb]
  rw [← Int32.ofNat_mul]
  have e : a % b = a - a / b * b := by
    have := Nat.div_add_mod a b
    rw [Nat.mul_comm] at this
    omega
  have hle : a / b * b ≤ a := Nat.div_mul_le_self a b
  rw [e]
  apply Int32.toBitVec_inj.mp
  apply BitVec.eq_of_toNat_eq
  simp [BitVec.toNat_sub]
  omega
theorem an_ne0 {b : Nat} (h0 : 0 < b) (hb : b < 2147483648) : ¬ Int32.ofNat b = 0 := by
  intro h
  have h2 := (an_eq b 0).mp h
  omega
theorem an_and31 (b : Nat) : Int32.ofNat b &&& 31 = Int32.ofNat (b % 32) := by
  have h := an_and b 31
  rw [show (31 : Int32) = Int32.ofNat 31 from rfl, ← h, show b &&& 31 = b % 32 from Nat.and_two_pow_sub_one_eq_mod b 5]
theorem an_smod : ∀ c, c < 32 → ((Int32.ofNat c).toBitVec.smod 32).toNat = c := by decide +kernel
theorem an_tn (n : Nat) : (Int32.ofNat n).toBitVec.toNat = n % 4294967296 := by simp
theorem an_shl (a b : Nat) : Int32.ofNat ((a <<< (b % 32)) % 4294967296) = Int32.ofNat a <<< (Int32.ofNat b &&& 31) := by
  rw [an_and31]
  apply Int32.toBitVec_inj.mp
  apply BitVec.eq_of_toNat_eq
  rw [pk_shl _ _ (b % 32) (an_smod _ (Nat.mod_lt _ (by decide))), an_tn, an_tn, Nat.shiftLeft_eq, Nat.mod_mod, Nat.mod_mul_mod]
theorem an_shr {a : Nat} (b : Nat) (ha : a < 2147483648) : Int32.ofNat (a >>> (b % 32)) = Int32.ofNat a >>> (Int32.ofNat b &&& 31) := by
  rw [an_and31]
  apply Int32.toInt_inj.mp
  have h1 : a >>> (b % 32) < 2147483648 := Nat.lt_of_le_of_lt (Nat.shiftRight_le a _) ha
  rw [an_toIntS h1]
  show _ = ((Int32.ofNat a).toBitVec.sshiftRight ((Int32.ofNat (b % 32)).toBitVec.smod 32).toNat).toInt
  rw [an_smod _ (Nat.mod_lt _ (by decide)), BitVec.toInt_sshiftRight]
  show _ = (Int32.ofNat a).toInt >>> (b % 32)
  rw [an_toIntS ha]
  rfl
theorem an_and31u (b : Nat) : ((Int32.ofNat b).toUInt32 &&& Int32.toUInt32 31).toNat = b % 32 := by
  have h := an_and31 b
  have h2 : ((Int32.ofNat b).toUInt32 &&& Int32.toUInt32 31) = (Int32.ofNat b &&& 31).toUInt32 := rfl
  rw [h2, h]
  show ((Int32.ofNat (b % 32)).toBitVec).toNat = _
  rw [an_tn]
  omega
theorem an_ushr (a b : Nat) : Int32.ofNat ((a % 4294967296) >>> (b % 32)) = ((Int32.ofNat a).toUInt32 >>> ((Int32.ofNat b).toUInt32 &&& Int32.toUInt32 31)).toInt32 := by
  apply Int32.toBitVec_inj.mp
  apply BitVec.eq_of_toNat_eq
  rw [an_tn]
  show _ = ((Int32.ofNat a).toUInt32 >>> ((Int32.ofNat b).toUInt32 &&& Int32.toUInt32 31)).toNat
  rw [UInt32.toNat_shiftRight, an_and31u]
  show _ = ((Int32.ofNat a).toBitVec).toNat >>> (b % 32 % 32)
  rw [an_tn, Nat.mod_mod]
  exact Nat.mod_eq_of_lt (Nat.lt_of_le_of_lt (Nat.shiftRight_le _ _) (Nat.mod_lt _ (by decide)))
theorem an_i2c (a : Nat) : ((Int32.ofNat a).toUInt32 % 65536).toInt32 = Int32.ofNat (a % 65536) := by
  apply Int32.toBitVec_inj.mp
  apply BitVec.eq_of_toNat_eq
  rw [an_tn]
  show ((Int32.ofNat a).toUInt32 % 65536).toNat = _
  rw [UInt32.toNat_mod]
  show ((Int32.ofNat a).toBitVec).toNat % 65536 = _
  rw [an_tn]
  omega
theorem an_b1 (a : Nat) : narrow .boolean (.int (Int32.ofNat a)) = .int (Int32.ofNat (a % 2)) := by
  have h := an_and a 1
  show Value.int (Int32.ofNat a &&& 1) = _
  rw [show (1 : Int32) = Int32.ofNat 1 from rfl, ← h, show a &&& 1 = a % 2 from Nat.and_two_pow_sub_one_eq_mod a 1]
theorem an_c16 (a : Nat) : narrow .char (.int (Int32.ofNat a)) = .int (Int32.ofNat (a % 65536)) := by
  rw [← an_i2c]
  rfl
theorem an_toIntN {a : Nat} (h1 : 2147483648 ≤ a) (h2 : a < 4294967296) : (Int32.ofNat a).toInt = (a : Int) - 4294967296 := by
  rw [an_toInt]
  simp only [Int.bmod]
  omega
theorem an_out {a : Nat} {lo hi : Int} (ha : a < 4294967296) (h0 : 0 ≤ lo) (h1 : (a : Int) < lo ∨ hi < (a : Int)) : (Int32.ofNat a).toInt < lo ∨ hi < (Int32.ofNat a).toInt := by
  by_cases h : a < 2147483648
  · rw [an_toIntS h]
    exact h1
  · rw [an_toIntN (Nat.not_lt.mp h) ha]
    exact Or.inl (by omega)
