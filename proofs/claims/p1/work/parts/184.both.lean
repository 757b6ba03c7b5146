/-! ===== class and reference at one call ===== -/
def am_tl : List (List am_E) := hp_m.2.2.drop 8
def Both (jx jm : Nat) (as : List Value) : Prop := ∃ v h1 h2, am_EG (am_mi jx) (.ref 0 :: as) hp_0 (some (.retAddr v), h1) ∧ am_EG (am_mi jm) (.ref 66 :: as) hp_m (some (.retAddr v), h2) ∧ (h1.1 = 93 ∧ h1.2.1 = 71397 ∧ h1.2.2.drop 8 = am_tl) ∧ h2.1 = 93 ∧ h2.2.1 = 71397
def am_b1 (x : Option am_R) (k : Nat → Bool) : Bool := match x with
  | some (some (.retAddr v), (n, s, bs)) => bif Nat.beq n 93 then (bif Nat.beq s 71397 then (bif am_eqL (am_eqL am_eqE) (bs.drop 8) am_tl then k v else false) else false) else false
  | _ => false
def am_b2 (v : Nat) (x : Option am_R) : Bool := match x with
  | some (some (.retAddr w), (n, s, _)) => bif Nat.beq n 93 then (bif Nat.beq s 71397 then Nat.beq v w else false) else false
  | _ => false
noncomputable def am_bt (mx mm : am_Mo) (jx jm : Nat) (as : List Value) : Bool := am_b1 (am_evr mx 9 jx (.ref 0 :: as) hp_0) fun v => am_b2 v (am_evr mm 9 jm (.ref 66 :: as) hp_m)
theorem am_b1_ok {x : Option am_R} {k : Nat → Bool} (h : am_b1 x k = true) : ∃ v h1, x = some (some (.retAddr v), h1) ∧ (h1.1 = 93 ∧ h1.2.1 = 71397 ∧ h1.2.2.drop 8 = am_tl) ∧ k v = true := by
  unfold am_b1 at h
  split at h
  · rename_i v n s bs
    cases e1 : Nat.beq n 93 <;> rw [e1] at h
    · cases h
    · cases e2 : Nat.beq s 71397 <;> rw [e2] at h
      · cases h
      · cases e3 : am_eqL (am_eqL am_eqE) (bs.drop 8) am_tl <;> rw [e3] at h
        · cases h
        · exact ⟨v, (n, s, bs), rfl, ⟨Nat.eq_of_beq_eq_true e1, Nat.eq_of_beq_eq_true e2, am_eqL_ok (fun a b h => am_eqL_ok am_eqE_ok h) e3⟩, h⟩
  · cases h
theorem am_b2_ok {x : Option am_R} {v : Nat} (h : am_b2 v x = true) : ∃ h2, x = some (some (.retAddr v), h2) ∧ h2.1 = 93 ∧ h2.2.1 = 71397 := by
  unfold am_b2 at h
  split at h
  · rename_i w n s bs
    cases e1 : Nat.beq n 93 <;> rw [e1] at h
    · cases h
    · cases e2 : Nat.beq s 71397 <;> rw [e2] at h
      · cases h
      · have e3 := Nat.eq_of_beq_eq_true h
        subst e3
        exact ⟨(n, s, bs), rfl, Nat.eq_of_beq_eq_true e1, Nat.eq_of_beq_eq_true e2⟩
  · cases h
theorem am_bt_ok {mx mm : am_Mo} (hx : am_MoOk mx) (hm : am_MoOk mm) {jx jm : Nat} {as : List Value} (h : am_bt mx mm jx jm as = true) : Both jx jm as := by
  obtain ⟨v, h1, e1, k1, h'⟩ := am_b1_ok h
  obtain ⟨h2, e2, k2, k3⟩ := am_b2_ok h'
  exact ⟨v, h1, h2, am_evr_ok hx 9 _ _ _ _ e1, am_evr_ok hm 9 _ _ _ _ e2, k1, k2, k3⟩
