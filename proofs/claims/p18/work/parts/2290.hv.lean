/-! ===== views of the heap ===== -/
theorem sk_lt_t {a b : Nat} (h : a < b) (h2 : b < 2147483648) : am_tc .lt a b = true := tk_lt_t (by omega)
theorem sk_lt_f {a b : Nat} (h : b ≤ a) (h2 : a < 2147483648) : am_tc .lt a b = false := tk_lt_f (by omega)
theorem sk_ge_t {a b : Nat} (h : b ≤ a) (h2 : a < 2147483648) : am_tc .ge a b = true := tk_ge_t (by omega)
theorem sk_ge_f {a b : Nat} (h : a < b) (h2 : b < 2147483648) : am_tc .ge a b = false := tk_ge_f (by omega)
theorem sk_gt_t {a b : Nat} (h : b < a) (h2 : a < 2147483648) : am_tc .gt a b = true := tk_gt_t (by omega)
theorem sk_gt_f {a b : Nat} (h : a ≤ b) (h2 : b < 2147483648) : am_tc .gt a b = false := tk_gt_f (by omega)
theorem sk_le_t {a b : Nat} (h : a ≤ b) (h2 : b < 2147483648) : am_tc .le a b = true := tk_le_t (by omega)
theorem sk_le_f {a b : Nat} (h : b < a) (h2 : a < 2147483648) : am_tc .le a b = false := tk_le_f (by omega)
theorem am_heq {M : am_MI} {pc : Nat} {L : am_L} {st : List Value} {h h' : am_H} {r : am_R} (e : h' = h) (hg : am_Good M pc L st h r) : am_Good M pc L st h' r := by subst e; exact hg
theorem am_upd_comm {h : am_H} {a b : Nat} {e1 e2 ea eb : am_E} (ha : am_get h a = some ea) (hb : am_get h b = some eb) (ne : a ≠ b) : am_upd (am_upd h a e1) b e2 = am_upd (am_upd h b e2) a e1 := by
  obtain ⟨n, s, bs⟩ := h
  rw [am_get_eq] at ha hb
  dsimp only at ha hb
  cases h1 : bs[a / 8]? with
  | none => rw [h1] at ha; cases ha
  | some A =>
    cases h2 : bs[b / 8]? with
    | none => rw [h2] at hb; cases hb
    | some B =>
      have l1 : a / 8 < bs.length := (List.getElem?_eq_some_iff.mp h1).1
      have l2 : b / 8 < bs.length := (List.getElem?_eq_some_iff.mp h2).1
      unfold am_upd
      dsimp only
      rw [h1, h2]
      dsimp only
      by_cases hq : a / 8 = b / 8
      · rw [← hq] at h2 ⊢
        have e : A = B := by rw [h1] at h2; cases h2; rfl
        subst e
        rw [List.getElem?_set_self l1, List.getElem?_set_self l1]
        dsimp only
        rw [List.set_set, List.set_set, List.set_comm _ _ (show a % 8 ≠ b % 8 by omega)]
      · rw [List.getElem?_set_ne hq, List.getElem?_set_ne (Ne.symm hq), h1, h2]
        dsimp only
        rw [List.set_comm _ _ hq]
def am_e0 : am_E := .inl (0, 0, 0)
def am_ups (h : am_H) : List (Nat × am_E) → am_H
  | [] => h
  | (a, e) :: l => am_upd (am_ups h l) a e
def am_lk : List (Nat × am_E) → Nat → Option am_E
  | [], _ => none
  | (a, e) :: l, k => bif Nat.beq k a then some e else am_lk l k
def am_st : List (Nat × am_E) → Nat → am_E → List (Nat × am_E)
  | [], _, _ => []
  | (a, e) :: l, k, e' => bif Nat.beq k a then (a, e') :: l else (a, e) :: am_st l k e'
def am_ke (h : am_H) : List Nat → Prop
  | [] => True
  | k :: l => (∃ e, am_get h k = some e) ∧ am_ke h l
theorem am_get_ups {h : am_H} : ∀ {l : List (Nat × am_E)}, am_ke h (l.map Prod.fst) → ∀ k, am_get (am_ups h l) k = match am_lk l k with
    | some e => some e
    | none => am_get h k
  | [], _, k => rfl
  | (a, e) :: l, hk, k => by
    have ih := am_get_ups (l := l) hk.2
    have ea : ∃ e0, am_get (am_ups h l) a = some e0 := by
      rw [ih a]
      cases am_lk l a with
      | none => exact hk.1
      | some e1 => exact ⟨e1, rfl⟩
    obtain ⟨e0, he0⟩ := ea
    show am_get (am_upd (am_ups h l) a e) k = match (bif Nat.beq k a then some e else am_lk l k) with
      | some e => some e
      | none => am_get h k
    rw [am_get_upd he0 k]
    by_cases q : k = a
    · rw [if_pos q, (show Nat.beq k a = true from by rw [q]; exact Nat.beq_refl a), cond_true]
    · rw [if_neg q, ih k]
      have : Nat.beq k a = false := by
        cases hb : Nat.beq k a
        · rfl
        · exact absurd (Nat.eq_of_beq_eq_true hb) q
      rw [this, cond_false]
theorem am_ups_g {h : am_H} {l : List (Nat × am_E)} {k : Nat} {e : am_E} (hk : am_ke h (l.map Prod.fst)) (he : am_lk l k = some e) : am_get (am_ups h l) k = some e := by
  rw [am_get_ups hk, he]
theorem am_ups_n {h : am_H} {l : List (Nat × am_E)} {k : Nat} (hk : am_ke h (l.map Prod.fst)) (he : am_lk l k = none) : am_get (am_ups h l) k = am_get h k := by
  rw [am_get_ups hk, he]
theorem am_lk_k : ∀ {l l' : List (Nat × am_E)}, l.map Prod.fst = l'.map Prod.fst → ∀ {k : Nat}, (am_lk l k = none) ↔ (am_lk l' k = none)
  | [], [], _, _ => Iff.rfl
  | [], _ :: _, h, _ => by cases h
  | _ :: _, [], h, _ => by cases h
  | (a, e) :: l, (a', e') :: l', h, k => by
    have h1 : a = a' := (List.cons.inj h).1
    have h2 := (List.cons.inj h).2
    subst h1
    show ((bif Nat.beq k a then some e else am_lk l k) = none) ↔ ((bif Nat.beq k a then some e' else am_lk l' k) = none)
    cases Nat.beq k a
    · rw [cond_false, cond_false]
      exact am_lk_k h2
    · rw [cond_true, cond_true]
      exact ⟨fun q => (by cases q), fun q => (by cases q)⟩
theorem am_upd_st {h : am_H} : ∀ {l : List (Nat × am_E)}, am_ke h (l.map Prod.fst) → ∀ {k : Nat} {e0 e' : am_E}, am_lk l k = some e0 → am_upd (am_ups h l) k e' = am_ups h (am_st l k e')
  | [], _, k, e0, e', hl => by cases hl
  | (a, e) :: l, hk, k, e0, e', hl => by
    have ih := am_get_ups (l := l) hk.2
    have ea : ∃ e0, am_get (am_ups h l) a = some e0 := by
      rw [ih a]
      cases am_lk l a with
      | none => exact hk.1
      | some e1 => exact ⟨e1, rfl⟩
    obtain ⟨e1, he1⟩ := ea
    have hl' : (bif Nat.beq k a then some e else am_lk l k) = some e0 := hl
    show am_upd (am_upd (am_ups h l) a e) k e' = am_ups h (bif Nat.beq k a then (a, e') :: l else (a, e) :: am_st l k e')
    cases hb : Nat.beq k a
    · rw [hb, cond_false] at hl'
      rw [cond_false]
      have ne : k ≠ a := fun q => by rw [(show Nat.beq k a = true from by rw [q]; exact Nat.beq_refl a)] at hb; cases hb
      have ek : am_get (am_ups h l) k = some e0 := am_ups_g hk.2 hl'
      rw [am_upd_comm he1 ek (Ne.symm ne), am_upd_st hk.2 hl']
      rfl
    · rw [cond_true]
      have q := Nat.eq_of_beq_eq_true hb
      subst q
      exact jm_upd_upd he1
theorem am_upd_ups {h : am_H} {l l' : List (Nat × am_E)} (hk : am_ke h (l.map Prod.fst)) {k : Nat} {e0 e' : am_E} (h1 : am_lk l k = some e0 ∧ am_st l k e' = l') : am_upd (am_ups h l) k e' = am_ups h l' := by
  rw [am_upd_st hk h1.1, h1.2]
theorem am_ups_0 {h : am_H} {l : List (Nat × am_E)} (h1 : ∀ p, p ∈ l → am_get h p.1 = some p.2) : am_ups h l = h := by
  induction l with
  | nil => rfl
  | cons p l ih =>
    obtain ⟨a, e⟩ := p
    show am_upd (am_ups h l) a e = h
    rw [ih (fun p hp => h1 p (List.mem_cons_of_mem _ hp))]
    exact jm_upd_self (h1 (a, e) (List.mem_cons_self ..))
theorem am_ups_1 {h : am_H} : ∀ (l : List (Nat × am_E)), (am_ups h l).1 = h.1 ∧ (am_ups h l).2.1 = h.2.1
  | [] => ⟨rfl, rfl⟩
  | (a, e) :: l => am_ups_1 l
