/-! ===== rules with the result named ===== -/
theorem e_iinc {M : am_MI} {pc : Nat} {L : am_L} {st : List Value} {h : am_H} {r : am_R} {i n v w : Nat} {d : Int} (hd : decode M.2.1 pc = .ok (.iinc i d, 3)) (hi : L[i]? = some (some (.retAddr n))) (hv : Int32.ofInt d = Int32.ofNat v) (hl : am_nl L i) (hn : i < M.2.2.1) (he : (n + v) % 4294967296 = w) (hg : am_Good M (pc + 3) (L.set i (some (.retAddr w))) st h r) : am_Good M pc L st h r := by
  subst he
  exact g_iinc hd hi hv hl hn hg
theorem e_iadd {M : am_MI} {pc : Nat} {L : am_L} {st : List Value} {h : am_H} {r : am_R} {a b v : Nat} (hd : decode M.2.1 pc = .ok (.iadd, 1)) (he : (a + b) % 4294967296 = v) (hg : am_Good M (pc + 1) L (.retAddr v :: st) h r) : am_Good M pc L (.retAddr b :: .retAddr a :: st) h r := by
  subst he
  exact g_iadd hd hg
theorem e_isub {M : am_MI} {pc : Nat} {L : am_L} {st : List Value} {h : am_H} {r : am_R} {a b v : Nat} (hd : decode M.2.1 pc = .ok (.isub, 1)) (he : (a + (4294967296 - b % 4294967296)) % 4294967296 = v) (hg : am_Good M (pc + 1) L (.retAddr v :: st) h r) : am_Good M pc L (.retAddr b :: .retAddr a :: st) h r := by
  subst he
  exact g_isub hd hg
theorem e_imul {M : am_MI} {pc : Nat} {L : am_L} {st : List Value} {h : am_H} {r : am_R} {a b v : Nat} (hd : decode M.2.1 pc = .ok (.imul, 1)) (he : (a * b) % 4294967296 = v) (hg : am_Good M (pc + 1) L (.retAddr v :: st) h r) : am_Good M pc L (.retAddr b :: .retAddr a :: st) h r := by
  subst he
  exact g_imul hd hg
theorem e_iand {M : am_MI} {pc : Nat} {L : am_L} {st : List Value} {h : am_H} {r : am_R} {a b v : Nat} (hd : decode M.2.1 pc = .ok (.iand, 1)) (he : a &&& b = v) (hg : am_Good M (pc + 1) L (.retAddr v :: st) h r) : am_Good M pc L (.retAddr b :: .retAddr a :: st) h r := by
  subst he
  exact g_iand hd hg
theorem e_ior {M : am_MI} {pc : Nat} {L : am_L} {st : List Value} {h : am_H} {r : am_R} {a b v : Nat} (hd : decode M.2.1 pc = .ok (.ior, 1)) (he : a ||| b = v) (hg : am_Good M (pc + 1) L (.retAddr v :: st) h r) : am_Good M pc L (.retAddr b :: .retAddr a :: st) h r := by
  subst he
  exact g_ior hd hg
theorem e_ixor {M : am_MI} {pc : Nat} {L : am_L} {st : List Value} {h : am_H} {r : am_R} {a b v : Nat} (hd : decode M.2.1 pc = .ok (.ixor, 1)) (he : a ^^^ b = v) (hg : am_Good M (pc + 1) L (.retAddr v :: st) h r) : am_Good M pc L (.retAddr b :: .retAddr a :: st) h r := by
  subst he
  exact g_ixor hd hg
theorem e_ishl {M : am_MI} {pc : Nat} {L : am_L} {st : List Value} {h : am_H} {r : am_R} {a b v : Nat} (hd : decode M.2.1 pc = .ok (.ishl, 1)) (he : (a <<< (b % 32)) % 4294967296 = v) (hg : am_Good M (pc + 1) L (.retAddr v :: st) h r) : am_Good M pc L (.retAddr b :: .retAddr a :: st) h r := by
  subst he
  exact g_ishl hd hg
theorem e_ishr {M : am_MI} {pc : Nat} {L : am_L} {st : List Value} {h : am_H} {r : am_R} {a b v : Nat} (hd : decode M.2.1 pc = .ok (.ishr, 1)) (he : a < 2147483648 ∧ a >>> (b % 32) = v) (hg : am_Good M (pc + 1) L (.retAddr v :: st) h r) : am_Good M pc L (.retAddr b :: .retAddr a :: st) h r := by
  obtain ⟨h1, rfl⟩ := he
  exact g_ishr hd h1 hg
theorem e_idiv {M : am_MI} {pc : Nat} {L : am_L} {st : List Value} {h : am_H} {r : am_R} {a b v : Nat} (hd : decode M.2.1 pc = .ok (.idiv, 1)) (he : a < 2147483648 ∧ b < 2147483648 ∧ 0 < b ∧ a / b = v) (hg : am_Good M (pc + 1) L (.retAddr v :: st) h r) : am_Good M pc L (.retAddr b :: .retAddr a :: st) h r := by
  obtain ⟨h1, h2, h3, rfl⟩ := he
  exact g_idiv hd h1 h2 h3 hg
theorem e_irem {M : am_MI} {pc : Nat} {L : am_L} {st : List Value} {h : am_H} {r : am_R} {a b v : Nat} (hd : decode M.2.1 pc = .ok (.irem, 1)) (he : a < 2147483648 ∧ b < 2147483648 ∧ 0 < b ∧ a % b = v) (hg : am_Good M (pc + 1) L (.retAddr v :: st) h r) : am_Good M pc L (.retAddr b :: .retAddr a :: st) h r := by
  obtain ⟨h1, h2, h3, rfl⟩ := he
  exact g_irem hd h1 h2 h3 hg

/-! ===== locals that are no longer looked at ===== -/
def am_fg : am_L → am_L → Prop
  | [], _ => True
  | none :: a, _ :: b => am_fg a b
  | some v :: a, w :: b => w = some v ∧ am_fg a b
  | _ :: _, [] => False
theorem am_fg_ok : ∀ {L' L : am_L}, am_fg L' L → ∀ (i : Nat) (v : Value), L'[i]? = some (some v) → L[i]? = some (some v)
  | [], _, _, i, v, hi => by simp at hi
  | none :: a, w :: b, h, 0, v, hi => by simp at hi
  | none :: a, w :: b, h, i + 1, v, hi => by
    rw [List.getElem?_cons_succ] at hi ⊢
    exact am_fg_ok (L' := a) (L := b) h i v hi
  | some x :: a, w :: b, h, 0, v, hi => by
    rw [List.getElem?_cons_zero] at hi ⊢
    rw [h.1]
    exact hi
  | some x :: a, w :: b, h, i + 1, v, hi => by
    rw [List.getElem?_cons_succ] at hi ⊢
    exact am_fg_ok (L' := a) (L := b) h.2 i v hi
  | none :: _, [], h, _, _, _ => h.elim
  | some _ :: _, [], h, _, _, _ => h.elim
theorem am_fgo {M : am_MI} {pc : Nat} {L L' : am_L} {st : List Value} {h : am_H} {r : am_R} (hg : am_Good M pc L' st h r) (hf : am_fg L' L) : am_Good M pc L st h r := g_forget (am_fg_ok hf) hg
def am_isz (z : am_Z) (r : am_R) : Bool := match z with
  | .inr x => am_is x r
  | _ => false
theorem am_isz_ok {z : am_Z} {r : am_R} (h : am_isz z r = true) : z = .inr (some r) := by
  cases z with
  | inl _ => cases h
  | inr x => exact congrArg _ (am_is_ok h)
theorem am_hrun {M : am_MI} {f : am_S → am_Z} (hf : ∀ pc L st h, am_St M pc L st h (f (pc, L, st, h))) {n pc : Nat} {L : am_L} {st : List Value} {h : am_H} {r : am_R} (q : am_isz (am_it f n (pc, L, st, h)) r = true) : am_Good M pc L st h r := by
  have h1 := am_it_ok hf n pc L st h
  rw [am_isz_ok q] at h1
  exact h1
theorem ag_seg (c k m j : Nat) (hj : j < m) : am_ag ((c >>> (32 * k)) % 2 ^ (32 * m)) j = am_ag c (k + j) := by
  apply Nat.eq_of_testBit_eq
  intro b
  rw [am_ag_bit, am_ag_bit, Nat.testBit_mod_two_pow, Nat.testBit_shiftRight]
  by_cases hb : b < 32
  · have h1 : 32 * j + b < 32 * m := by omega
    rw [show 32 * (k + j) + b = 32 * k + (32 * j + b) by omega]
    simp [hb, h1]
  · simp [hb]
def sg_ (c k m p : Nat) : Bool := Nat.beq ((c >>> (32 * k)) % 2 ^ (32 * m)) p
theorem sg_ok {c k m p : Nat} (h : sg_ c k m p = true) (j : Nat) (hj : j < m) : am_ag c (k + j) = am_ag p j := by
  have h1 := Nat.eq_of_beq_eq_true h
  rw [← ag_seg c k m j hj, h1]
def p7_256 : Nat := 7 * ((2 ^ 8192 - 1) / 4294967295)
def p7_252 : Nat := 7 * ((2 ^ 8064 - 1) / 4294967295)
theorem p7_a : am_all 256 (fun j => Nat.beq (am_ag p7_256 j) 7) = true := by decide +kernel
theorem p7_b : am_all 252 (fun j => Nat.beq (am_ag p7_252 j) 7) = true := by decide +kernel
theorem sg_a {c k : Nat} (h : sg_ c k 256 p7_256 = true) (j : Nat) (hj : j < 256) : am_ag c (k + j) = 7 := (sg_ok h j hj).trans (Nat.eq_of_beq_eq_true (am_all_ok p7_a j hj))
theorem sg_b {c k : Nat} (h : sg_ c k 252 p7_252 = true) (j : Nat) (hj : j < 252) : am_ag c (k + j) = 7 := (sg_ok h j hj).trans (Nat.eq_of_beq_eq_true (am_all_ok p7_b j hj))
