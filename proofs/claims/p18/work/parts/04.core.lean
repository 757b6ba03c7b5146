/-! ===== the abstract machine: lists, heaps ===== -/
abbrev am_E : Type := (Nat × Nat × Nat) ⊕ (Nat × List Value)
abbrev am_H : Type := Nat × Nat × List (List am_E)
abbrev am_L : Type := List (Option Value)
abbrev am_R : Type := Option Value × am_H
noncomputable def am_force {β : Type} (n : Nat) (k : Nat → β) : β := Nat.rec (motive := fun _ => β) (k 0) (fun m _ => k (Nat.succ m)) n
theorem am_force_eq {β : Type} (n : Nat) (k : Nat → β) : am_force n k = k n := by cases n <;> rfl
noncomputable def am_nth {α : Type} (l : List α) : Nat → Option α :=
  List.rec (motive := fun _ => Nat → Option α) (fun _ => none) (fun a _ ih n => Nat.rec (motive := fun _ => Option α) (some a) (fun m _ => ih m) n) l
theorem am_nth_eq {α : Type} (l : List α) (n : Nat) : am_nth l n = l[n]? := by
  induction l generalizing n with
  | nil => rfl
  | cons a l ih =>
    cases n with
    | zero => rfl
    | succ n => rw [List.getElem?_cons_succ]; exact ih n
noncomputable def am_setc {α β : Type} (l : List α) (v : α) : Nat → (List α → β) → β :=
  List.rec (motive := fun _ => Nat → (List α → β) → β) (fun _ k => k []) (fun a l ih n k => Nat.rec (motive := fun _ => β) (k (v :: l)) (fun m _ => ih m (fun l' => k (a :: l'))) n) l
theorem am_setc_eq {α β : Type} (l : List α) (v : α) (n : Nat) (k : List α → β) : am_setc l v n k = k (l.set n v) := by
  induction l generalizing n k with
  | nil => rfl
  | cons a l ih =>
    cases n with
    | zero => rfl
    | succ n => exact ih n (fun l' => k (a :: l'))
noncomputable def am_get (h : am_H) (a : Nat) : Option am_E := Option.rec (motive := fun _ => Option am_E) none (fun b => am_nth b (a % 8)) (am_nth h.2.2 (a / 8))
theorem am_get_eq (h : am_H) (a : Nat) : am_get h a = (h.2.2[a / 8]?).bind (fun b => b[a % 8]?) := by
  unfold am_get
  rw [am_nth_eq]
  cases h.2.2[a / 8]? with
  | none => rfl
  | some b => exact am_nth_eq b _
def am_upd (h : am_H) (a : Nat) (e : am_E) : am_H := (h.1, h.2.1, match h.2.2[a / 8]? with
  | some b => h.2.2.set (a / 8) (b.set (a % 8) e)
  | none => h.2.2)
noncomputable def am_updc {β : Type} (h : am_H) (a : Nat) (e : am_E) (k : am_H → β) : β := match h with
  | (n, s, bs) => Option.rec (motive := fun _ => β) (k (n, s, bs)) (fun b => am_setc b e (a % 8) fun b' => am_setc bs b' (a / 8) fun bs' => k (n, s, bs')) (am_nth bs (a / 8))
theorem am_updc_eq {β : Type} (h : am_H) (a : Nat) (e : am_E) (k : am_H → β) : am_updc h a e k = k (am_upd h a e) := by
  obtain ⟨n, s, bs⟩ := h
  unfold am_updc am_upd
  simp only [am_nth_eq]
  cases bs[a / 8]? with
  | none => rfl
  | some b => simp only [am_setc_eq]
theorem am_get_upd {h : am_H} {a : Nat} {e0 e : am_E} (h0 : am_get h a = some e0) (k : Nat) : am_get (am_upd h a e) k = if k = a then some e else am_get h k := by
  obtain ⟨n, s, bs⟩ := h
  rw [am_get_eq] at h0 ⊢
  rw [am_get_eq]
  unfold am_upd
  dsimp only at h0 ⊢
  cases hb : bs[a / 8]? with
  | none => rw [hb] at h0; cases h0
  | some b =>
    rw [hb] at h0
    have hb1 : a / 8 < bs.length := (List.getElem?_eq_some_iff.mp hb).1
    have hb2 : a % 8 < b.length := (List.getElem?_eq_some_iff.mp h0).1
    dsimp only
    by_cases hk : k / 8 = a / 8
    · rw [hk, List.getElem?_set_self hb1, hb]
      show (b.set (a % 8) e)[k % 8]? = if k = a then some e else b[k % 8]?
      by_cases hk2 : k % 8 = a % 8
      · rw [if_pos (by omega), hk2, List.getElem?_set_self hb2]
      · rw [if_neg (by omega), List.getElem?_set_ne (fun q => hk2 q.symm)]
    · rw [List.getElem?_set_ne (fun q => hk q.symm), if_neg (by omega)]
/-- a new cell of n slots -/
noncomputable def am_pushc {β : Type} (h : am_H) (n : Nat) (e : am_E) (z : β) (k : Nat → am_H → β) : β := match h with
  | (c, s, bs) => Option.rec (motive := fun _ => β) (bif Nat.beq (8 * bs.length) c then am_force (c + 1) fun c' => am_force (s + n) fun s' => k c (c', s', bs ++ [[e]]) else z) (fun b => bif Nat.beq b.length (c % 8) then am_force (c + 1) fun c' => am_force (s + n) fun s' => am_setc bs (b ++ [e]) (c / 8) fun bs' => k c (c', s', bs') else z) (am_nth bs (c / 8))
def am_New (h h' : am_H) (n : Nat) (e : am_E) : Prop := h'.1 = h.1 + 1 ∧ h'.2.1 = h.2.1 + n ∧ ∀ k x, am_get h' k = some x → (k = h.1 ∧ x = e) ∨ am_get h k = some x
theorem am_pushc_eq {β : Type} (h : am_H) (n : Nat) (e : am_E) (z : β) (k : Nat → am_H → β) : am_pushc h n e z k = z ∨ ∃ h', am_New h h' n e ∧ am_pushc h n e z k = k h.1 h' := by
  obtain ⟨c, s, bs⟩ := h
  unfold am_pushc
  simp only [am_nth_eq, am_force_eq, am_setc_eq]
  cases hb : bs[c / 8]? with
  | none =>
    dsimp only
    cases hc : Nat.beq (8 * bs.length) c with
    | false => exact Or.inl rfl
    | true =>
      refine Or.inr ⟨_, ⟨rfl, rfl, fun j x hx => ?_⟩, rfl⟩
      have hc' := Nat.eq_of_beq_eq_true hc
      rw [am_get_eq] at hx ⊢
      dsimp only at hx ⊢
      by_cases h1 : j / 8 < bs.length
      · rw [List.getElem?_append_left h1] at hx
        exact Or.inr hx
      · rw [List.getElem?_append_right (by omega)] at hx
        by_cases h2 : j / 8 - bs.length = 0
        · rw [h2] at hx
          change ([e] : List am_E)[j % 8]? = some x at hx
          by_cases h3 : j % 8 = 0
          · rw [h3] at hx
            refine Or.inl ⟨by omega, ?_⟩
            simpa using hx.symm
          · have := (List.getElem?_eq_some_iff.mp hx).1
            simp at this
            omega
        · have h4 : ([[e]] : List (List am_E))[j / 8 - bs.length]? = none := List.getElem?_eq_none (by simp; omega)
          rw [h4] at hx
          cases hx
  | some b =>
    dsimp only
    cases hc : Nat.beq b.length (c % 8) with
    | false => exact Or.inl rfl
    | true =>
      refine Or.inr ⟨_, ⟨rfl, rfl, fun j x hx => ?_⟩, rfl⟩
      have hc' := Nat.eq_of_beq_eq_true hc
      have hb1 : c / 8 < bs.length := (List.getElem?_eq_some_iff.mp hb).1
      rw [am_get_eq] at hx ⊢
      dsimp only at hx ⊢
      by_cases hk : j / 8 = c / 8
      · rw [hk, List.getElem?_set_self hb1] at hx
        change (b ++ [e])[j % 8]? = some x at hx
        by_cases h1 : j % 8 < b.length
        · rw [List.getElem?_append_left h1] at hx
          refine Or.inr ?_
          rw [hk, hb]
          exact hx
        · rw [List.getElem?_append_right (by omega)] at hx
          have h3 := (List.getElem?_eq_some_iff.mp hx).1
          have h4 : j % 8 - b.length = 0 := by simp at h3; omega
          rw [h4] at hx
          refine Or.inl ⟨by omega, ?_⟩
          simpa using hx.symm
      · rw [List.getElem?_set_ne (fun q => hk q.symm)] at hx
        exact Or.inr hx
/-! ===== packed rows of 32 bits ===== -/
def am_ag (c i : Nat) : Nat := (c >>> (32 * i)) % 4294967296
def am_as (c i v : Nat) : Nat := c ^^^ ((am_ag c i ^^^ (v % 4294967296)) <<< (32 * i))
theorem am_ag_bit (c i b : Nat) : (am_ag c i).testBit b = (decide (b < 32) && c.testBit (32 * i + b)) := by
  unfold am_ag
  rw [show 4294967296 = 2 ^ 32 from rfl, Nat.testBit_mod_two_pow, Nat.testBit_shiftRight]
theorem am_ag_lt (c i : Nat) : am_ag c i < 4294967296 := Nat.mod_lt _ (by decide)
theorem am_ag_as (c i v j : Nat) : am_ag (am_as c i v) j = if j = i then v % 4294967296 else am_ag c j := by
  apply Nat.eq_of_testBit_eq
  intro b
  rw [am_ag_bit]
  unfold am_as
  rw [Nat.testBit_xor, Nat.testBit_shiftLeft, Nat.testBit_xor, am_ag_bit]
  have hv : (v % 4294967296).testBit = fun b => (decide (b < 32) && v.testBit b) := by
    funext b
    rw [show 4294967296 = 2 ^ 32 from rfl, Nat.testBit_mod_two_pow]
  rw [hv]
  by_cases hj : j = i
  · subst hj
    rw [if_pos rfl, hv]
    have e : 32 * j + b - 32 * j = b := by omega
    rw [e]
    by_cases hb : b < 32
    · simp [hb]
    · simp [hb]
  · rw [if_neg hj, am_ag_bit]
    by_cases hb : b < 32
    · by_cases h1 : 32 * j + b ≥ 32 * i
      · have h2 : ¬ (32 * j + b - 32 * i < 32) := by omega
        simp [hb, h1, h2]
      · simp [hb, h1]
    · simp [hb]
/-- n elements of c0 from sp on, into c1 from dp on -/
def am_cp (c0 c1 sp dp n : Nat) : Nat := c1 ^^^ ((((c1 >>> (32 * dp)) % 2 ^ (32 * n)) ^^^ ((c0 >>> (32 * sp)) % 2 ^ (32 * n))) <<< (32 * dp))
theorem am_ag_cp (c0 c1 sp dp n j : Nat) : am_ag (am_cp c0 c1 sp dp n) j = if dp ≤ j ∧ j < dp + n then am_ag c0 (sp + (j - dp)) else am_ag c1 j := by
  apply Nat.eq_of_testBit_eq
  intro b
  rw [am_ag_bit]
  unfold am_cp
  rw [Nat.testBit_xor, Nat.testBit_shiftLeft, Nat.testBit_xor, Nat.testBit_mod_two_pow, Nat.testBit_mod_two_pow, Nat.testBit_shiftRight, Nat.testBit_shiftRight]
  by_cases hj : dp ≤ j ∧ j < dp + n
  · rw [if_pos hj, am_ag_bit]
    by_cases hb : b < 32
    · have h1 : 32 * j + b ≥ 32 * dp := by omega
      have h2 : 32 * j + b - 32 * dp < 32 * n := by omega
      have e1 : 32 * dp + (32 * j + b - 32 * dp) = 32 * j + b := by omega
      have e2 : 32 * sp + (32 * j + b - 32 * dp) = 32 * (sp + (j - dp)) + b := by omega
      simp [hb, h1, h2, e1, e2]
    · simp [hb]
  · rw [if_neg hj, am_ag_bit]
    by_cases hb : b < 32
    · by_cases h1 : 32 * j + b ≥ 32 * dp
      · have h2 : ¬ (32 * j + b - 32 * dp < 32 * n) := by omega
        simp [hb, h1, h2]
      · simp [hb, h1]
    · simp [hb]
