/-! ===== runs that know some calls' results already ===== -/
noncomputable def am_ev1 (tab : am_Tb) (ev : am_Ev) : am_Ev := fun j as h => match am_nth tab (j / 16) with
  | some b => match am_nth b (j % 16) with
    | some (nL, code) => bif am_all1 as && Nat.ble as.length nL then Sum.rec (motive := fun _ => Option am_R) (fun _ => none) (fun r => r) (am_it (am_stp code ev) 24 (0, am_init as (nL - as.length), [], h)) else none
    | none => none
  | none => none
theorem am_ev1_ok {tab : am_Tb} (hT : am_TbOk tab) {ev : am_Ev} (ih : am_EvOk ev) : am_EvOk (am_ev1 tab ev) := by
  intro j as h r q1
  unfold am_ev1 at q1
  cases hb : am_nth tab (j / 16) with
  | none => rw [hb] at q1; cases q1
  | some b =>
    rw [hb] at q1
    dsimp only at q1
    cases he : am_nth b (j % 16) with
    | none => rw [he] at q1; cases q1
    | some e =>
      obtain ⟨nL, code⟩ := e
      rw [he] at q1
      dsimp only at q1
      rw [am_nth_eq] at hb he
      obtain ⟨t1, t2, t3⟩ := hT j nL code (by rw [hb]; exact he)
      cases ha : am_all1 as
      · rw [ha] at q1; cases q1
      · cases hl : Nat.ble as.length nL
        · rw [ha, hl] at q1; cases q1
        · rw [ha, hl] at q1
          have hs := am_it_ok (fun pc L st h => am_stp_ok t3 ih pc L st h) 24 0 (am_init as (nL - as.length)) [] h
          cases hz : am_it (am_stp code ev) 24 (0, am_init as (nL - as.length), [], h) with
          | inl s => rw [hz] at q1; cases q1
          | inr x =>
            rw [hz] at q1 hs
            have q2 : x = some r := q1
            subst q2
            have hs2 : am_Good (am_mi j) 0 (am_init as (nL - as.length)) [] h r := hs
            rw [am_init_eq] at hs2
            exact am_enter t2 (am_all1_ok ha) (by rw [← t1]; exact Nat.le_of_ble_eq_true hl) hs2
abbrev am_Mo : Type := List (Nat × List Value × am_H × am_R)
def am_fnd (mo : am_Mo) (j : Nat) (as : List Value) (h : am_H) : Option am_R := match mo with
  | [] => none
  | (j', as', h', r) :: l => bif Nat.beq j j' then (bif am_eqL am_eqV as as' then (bif am_eqH h h' then some r else am_fnd l j as h) else am_fnd l j as h) else am_fnd l j as h
def am_MoOk (mo : am_Mo) : Prop := ∀ q ∈ mo, am_EG (am_mi q.1) q.2.1 q.2.2.1 q.2.2.2
theorem am_MoOk.nil : am_MoOk [] := fun _ h => absurd h List.not_mem_nil
theorem am_MoOk.cons {j : Nat} {as : List Value} {h : am_H} {r : am_R} {l : am_Mo} (h1 : am_EG (am_mi j) as h r) (h2 : am_MoOk l) : am_MoOk ((j, as, h, r) :: l) := List.forall_mem_cons.mpr ⟨h1, h2⟩
theorem am_fnd_ok : ∀ {mo : am_Mo} {j : Nat} {as : List Value} {h : am_H} {r : am_R}, am_MoOk mo → am_fnd mo j as h = some r → am_EG (am_mi j) as h r
  | [], _, _, _, _, _, q => by cases q
  | (j', as', h', r') :: l, j, as, h, r, hm, q => by
    have hl : am_MoOk l := fun x hx => hm x (List.mem_cons_of_mem _ hx)
    have q1 : (bif Nat.beq j j' then (bif am_eqL am_eqV as as' then (bif am_eqH h h' then some r' else am_fnd l j as h) else am_fnd l j as h) else am_fnd l j as h) = some r := q
    cases e1 : Nat.beq j j' <;> rw [e1] at q1
    · exact am_fnd_ok hl q1
    · cases e2 : am_eqL am_eqV as as' <;> rw [e2] at q1
      · exact am_fnd_ok hl q1
      · cases e3 : am_eqH h h' <;> rw [e3] at q1
        · exact am_fnd_ok hl q1
        · have q2 : some r' = some r := q1
          cases q2
          have z1 := Nat.eq_of_beq_eq_true e1
          have z2 := am_eqL_ok am_eqV_ok e2
          have z3 := am_eqH_ok _ _ e3
          subst z1
          subst z2
          subst z3
          exact hm _ List.mem_cons_self
def am_mm (mo : am_Mo) (ev : am_Ev) : am_Ev := fun j as h => match am_fnd mo j as h with
  | some r => some r
  | none => ev j as h
theorem am_mm_ok {mo : am_Mo} (hm : am_MoOk mo) {ev : am_Ev} (ih : am_EvOk ev) : am_EvOk (am_mm mo ev) := by
  intro j as h r q
  unfold am_mm at q
  cases hf : am_fnd mo j as h with
  | none => rw [hf] at q; exact ih j as h r q
  | some r' =>
    rw [hf] at q
    cases q
    exact am_fnd_ok hm hf
noncomputable def am_evr (mo : am_Mo) (d : Nat) : am_Ev := Nat.rec (motive := fun _ => am_Ev) (fun _ _ _ => none) (fun _ ih => am_ev1 am_tab (am_mm mo ih)) d
theorem am_evr_ok {mo : am_Mo} (hm : am_MoOk mo) (d : Nat) : am_EvOk (am_evr mo d) := by
  induction d with
  | zero => exact fun j as h r q => by cases q
  | succ d ih => exact am_ev1_ok am_tab_ok (am_mm_ok hm ih)
theorem am_runm {mo : am_Mo} (hm : am_MoOk mo) {d j : Nat} {as : List Value} {h : am_H} {r : am_R} (q : am_is (am_evr mo d j as h) r = true) : am_EG (am_mi j) as h r := am_evr_ok hm d j as h r (am_is_ok q)
/-- for every k below n -/
noncomputable def am_all (n : Nat) (f : Nat → Bool) : Bool := Nat.rec (motive := fun _ => Bool) true (fun k ih => bif f k then ih else false) n
theorem am_all_ok {n : Nat} {f : Nat → Bool} (h : am_all n f = true) : ∀ k, k < n → f k = true := by
  induction n with
  | zero => exact fun k hk => absurd hk (Nat.not_lt_zero k)
  | succ n ih =>
    have h1 : (bif f n then am_all n f else false) = true := h
    cases e : f n <;> rw [e] at h1
    · cases h1
    · intro k hk
      by_cases hkn : k = n
      · rw [hkn]; exact e
      · exact ih h1 k (by omega)

/-- a method by its own table -/
theorem am_run0 {M : am_MI} {code : am_Cd} (hc : am_rows M 0 code) (hy : plainName M.1.cls = true) {mo : am_Mo} {d : Nat} (hev : am_EvOk (am_evr mo d)) {as : List Value} {h : am_H} {r : am_R} (h1 : am_all1 as = true) (h2 : as.length ≤ M.2.2.1) (q : Sum.rec (motive := fun _ => Option am_R) (fun _ => none) (fun r => r) (am_it (am_stp code (am_mm mo (am_evr mo d))) 24 (0, am_init as (M.2.2.1 - as.length), [], h)) = some r) (hm : am_MoOk mo) : am_EG M as h r := by
  have hs := am_it_ok (fun pc L st h => am_stp_ok hc (am_mm_ok hm hev) pc L st h) 24 0 (am_init as (M.2.2.1 - as.length)) [] h
  cases hz : am_it (am_stp code (am_mm mo (am_evr mo d))) 24 (0, am_init as (M.2.2.1 - as.length), [], h) with
  | inl s => rw [hz] at q; cases q
  | inr x =>
    rw [hz] at q hs
    have q2 : x = some r := q
    subst q2
    have hs2 : am_Good M 0 (am_init as (M.2.2.1 - as.length)) [] h r := hs
    rw [am_init_eq] at hs2
    exact am_enter hy (am_all1_ok h1) h2 hs2
