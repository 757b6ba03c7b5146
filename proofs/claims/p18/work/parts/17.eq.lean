/-! ===== equality by a program ===== -/
def am_eqL {α : Type} (f : α → α → Bool) : List α → List α → Bool
  | [], [] => true
  | a :: l, b :: k => bif f a b then am_eqL f l k else false
  | _, _ => false
theorem am_eqL_ok {α : Type} {f : α → α → Bool} (hf : ∀ a b, f a b = true → a = b) : ∀ {l k : List α}, am_eqL f l k = true → l = k
  | [], [], _ => rfl
  | [], _ :: _, h => by cases h
  | _ :: _, [], h => by cases h
  | a :: l, b :: k, h => by
    have h1 : (bif f a b then am_eqL f l k else false) = true := h
    cases hab : f a b
    · rw [hab] at h1
      cases h1
    · rw [hab] at h1
      rw [hf a b hab, am_eqL_ok hf h1]
def am_eqV (a b : Value) : Bool := match a, b with
  | .retAddr m, .retAddr n => Nat.beq m n
  | .ref m, .ref n => Nat.beq m n
  | .null, .null => true
  | _, _ => false
theorem am_eqV_ok (a b : Value) (h : am_eqV a b = true) : a = b := by
  cases a <;> cases b <;> first | (cases h; done) | rfl | (rw [Nat.eq_of_beq_eq_true h])
def am_eqE (a b : am_E) : Bool := match a, b with
  | .inl (k, n, c), .inl (k', n', c') => bif Nat.beq k k' then (bif Nat.beq n n' then Nat.beq c c' else false) else false
  | .inr (c, fs), .inr (c', fs') => bif Nat.beq c c' then am_eqL am_eqV fs fs' else false
  | _, _ => false
theorem am_eqE_ok (a b : am_E) (h : am_eqE a b = true) : a = b := by
  rcases a with ⟨k, n, c⟩ | ⟨c, fs⟩ <;> rcases b with ⟨k', n', c'⟩ | ⟨c', fs'⟩
  · have h1 : (bif Nat.beq k k' then (bif Nat.beq n n' then Nat.beq c c' else false) else false) = true := h
    cases e1 : Nat.beq k k' <;> rw [e1] at h1
    · cases h1
    · cases e2 : Nat.beq n n' <;> rw [e2] at h1
      · cases h1
      · rw [Nat.eq_of_beq_eq_true e1, Nat.eq_of_beq_eq_true e2, Nat.eq_of_beq_eq_true h1]
  · cases h
  · cases h
  · have h1 : (bif Nat.beq c c' then am_eqL am_eqV fs fs' else false) = true := h
    cases e1 : Nat.beq c c' <;> rw [e1] at h1
    · cases h1
    · rw [Nat.eq_of_beq_eq_true e1, am_eqL_ok am_eqV_ok h1]
def am_eqH (a b : am_H) : Bool := match a, b with
  | (n, s, bs), (n', s', bs') => bif Nat.beq n n' then (bif Nat.beq s s' then am_eqL (am_eqL am_eqE) bs bs' else false) else false
theorem am_eqH_ok (a b : am_H) (h : am_eqH a b = true) : a = b := by
  obtain ⟨n, s, bs⟩ := a
  obtain ⟨n', s', bs'⟩ := b
  have h1 : (bif Nat.beq n n' then (bif Nat.beq s s' then am_eqL (am_eqL am_eqE) bs bs' else false) else false) = true := h
  cases e1 : Nat.beq n n' <;> rw [e1] at h1
  · cases h1
  · cases e2 : Nat.beq s s' <;> rw [e2] at h1
    · cases h1
    · rw [Nat.eq_of_beq_eq_true e1, Nat.eq_of_beq_eq_true e2, am_eqL_ok (fun a b h => am_eqL_ok am_eqE_ok h) h1]
def am_eqO (a b : Option Value) : Bool := match a, b with
  | some v, some w => am_eqV v w
  | none, none => true
  | _, _ => false
theorem am_eqO_ok (a b : Option Value) (h : am_eqO a b = true) : a = b := by
  cases a <;> cases b <;> first | (cases h; done) | rfl | (rw [am_eqV_ok _ _ h])
/-- the run ends so -/
def am_is (x : Option am_R) (r : am_R) : Bool := match x with
  | some (v, h) => bif am_eqO v r.1 then am_eqH h r.2 else false
  | none => false
theorem am_is_ok {x : Option am_R} {r : am_R} (h : am_is x r = true) : x = some r := by
  cases x with
  | none => cases h
  | some y =>
    obtain ⟨v, h'⟩ := y
    obtain ⟨w, k⟩ := r
    have h1 : (bif am_eqO v w then am_eqH h' k else false) = true := h
    cases e1 : am_eqO v w <;> rw [e1] at h1
    · cases h1
    · rw [am_eqO_ok _ _ e1, am_eqH_ok _ _ h1]
theorem am_runs {d j : Nat} {as : List Value} {h : am_H} {r : am_R} (q : am_is (am_evd am_tab d j as h) r = true) : am_EG (am_mi j) as h r := am_run (am_is_ok q)
