/-! ===== running ===== -/
abbrev am_Cd : Type := List (List (Option am_Op))
noncomputable def am_stp (code : am_Cd) (ev : am_Ev) (s : am_S) : am_Z := match s with
  | (pc, L, st, h) => match am_nth code (pc / 8) with
    | some b => match am_nth b (pc % 8) with
      | some (some op) => op ev L st h
      | _ => .inr none
    | none => .inr none
noncomputable def am_it (f : am_S → am_Z) (n : Nat) : am_S → am_Z := Nat.rec (motive := fun _ => am_S → am_Z) (fun s => f s) (fun _ ih s => Sum.rec (motive := fun _ => am_Z) (fun s' => ih s') (fun r => .inr r) (ih s)) n
def am_row (M : am_MI) : Nat → List (Option am_Op) → Prop
  | _, [] => True
  | pc, none :: l => am_row M (pc + 1) l
  | pc, some op :: l => am_OpOk M pc op ∧ am_row M (pc + 1) l
theorem am_rz {M : am_MI} {pc : Nat} : am_row M pc [] := trivial
theorem am_rn {M : am_MI} {pc pc' : Nat} {l : List (Option am_Op)} (he : pc + 1 = pc') (h : am_row M pc' l) : am_row M pc (none :: l) := by subst he; exact h
theorem am_rs {M : am_MI} {pc pc' : Nat} {op : am_Op} {l : List (Option am_Op)} (he : pc + 1 = pc') (ho : am_OpOk M pc op) (h : am_row M pc' l) : am_row M pc (some op :: l) := by subst he; exact ⟨ho, h⟩
theorem am_row_get {M : am_MI} : ∀ {b : List (Option am_Op)} {pc k : Nat} {op : am_Op}, am_row M pc b → b[k]? = some (some op) → am_OpOk M (pc + k) op
  | [], _, _, _, _, h => by cases h
  | none :: l, pc, 0, op, _, h => by cases h
  | some o :: l, pc, 0, op, hr, h => by
    cases h
    exact hr.1
  | none :: l, pc, k + 1, op, hr, h => by
    rw [show pc + (k + 1) = pc + 1 + k by omega]
    exact am_row_get (b := l) hr h
  | some o :: l, pc, k + 1, op, hr, h => by
    rw [show pc + (k + 1) = pc + 1 + k by omega]
    exact am_row_get (b := l) hr.2 h
def am_rows (M : am_MI) : Nat → am_Cd → Prop
  | _, [] => True
  | pc, b :: l => am_row M pc b ∧ am_rows M (pc + 8) l
theorem am_bz {M : am_MI} {pc : Nat} : am_rows M pc [] := trivial
theorem am_bs {M : am_MI} {pc pc' : Nat} {b : List (Option am_Op)} {l : am_Cd} (he : pc + 8 = pc') (hb : am_row M pc b) (h : am_rows M pc' l) : am_rows M pc (b :: l) := by subst he; exact ⟨hb, h⟩
theorem am_rows_get {M : am_MI} : ∀ {c : am_Cd} {pc k : Nat} {b : List (Option am_Op)}, am_rows M pc c → c[k]? = some b → am_row M (pc + 8 * k) b
  | [], _, _, _, _, h => by cases h
  | x :: l, pc, 0, b, hr, h => by
    cases h
    exact hr.1
  | x :: l, pc, k + 1, b, hr, h => by
    rw [show pc + 8 * (k + 1) = pc + 8 + 8 * k by omega]
    exact am_rows_get (c := l) hr.2 h
theorem am_stp_ok {M : am_MI} {code : am_Cd} {ev : am_Ev} (hc : am_rows M 0 code) (hev : am_EvOk ev) (pc : Nat) (L : am_L) (st : List Value) (h : am_H) : am_St M pc L st h (am_stp code ev (pc, L, st, h)) := by
  simp only [am_stp]
  split
  · rename_i b hb
    rw [am_nth_eq] at hb
    split
    · rename_i op ho
      rw [am_nth_eq] at ho
      have h1 := am_row_get (am_rows_get hc hb) ho
      rw [show 0 + 8 * (pc / 8) + pc % 8 = pc by omega] at h1
      exact h1 ev hev L st h
    · trivial
  · trivial
theorem am_it_ok {M : am_MI} {f : am_S → am_Z} (hf : ∀ pc L st h, am_St M pc L st h (f (pc, L, st, h))) (n : Nat) : ∀ pc L st h, am_St M pc L st h (am_it f n (pc, L, st, h)) := by
  induction n with
  | zero => exact hf
  | succ n ih =>
    intro pc L st h
    have h1 := ih pc L st h
    show am_St M pc L st h (Sum.rec (motive := fun _ => am_Z) (fun s' => am_it f n s') (fun r => .inr r) (am_it f n (pc, L, st, h)))
    cases hz : am_it f n (pc, L, st, h) with
    | inr r =>
      rw [hz] at h1
      exact h1
    | inl s' =>
      rw [hz] at h1
      obtain ⟨pc1, L1, st1, h1'⟩ := s'
      have h2 := ih pc1 L1 st1 h1'
      show am_St M pc L st h (am_it f n (pc1, L1, st1, h1'))
      cases hy : am_it f n (pc1, L1, st1, h1') with
      | inr r =>
        rw [hy] at h2
        cases r with
        | none => trivial
        | some r => exact h1 r h2
      | inl s2 =>
        rw [hy] at h2
        obtain ⟨pc2, L2, st2, h2'⟩ := s2
        exact fun r hg => h1 r (h2 r hg)
noncomputable def am_init (as : List Value) (pad : Nat) : am_L := List.rec (motive := fun _ => am_L) (Nat.rec (motive := fun _ => am_L) [] (fun _ ih => none :: ih) pad) (fun a _ ih => some a :: ih) as
theorem am_init_eq (as : List Value) (pad : Nat) : am_init as pad = as.map some ++ List.replicate pad none := by
  induction as with
  | nil =>
    induction pad with
    | zero => rfl
    | succ n ih =>
      show none :: am_init [] n = _
      rw [ih, List.replicate_succ]
      rfl
  | cons a l ih =>
    show some a :: am_init l pad = _
    rw [ih]
    rfl
noncomputable def am_all1 (as : List Value) : Bool := List.rec (motive := fun _ => Bool) true (fun a _ ih => bif am_c1 a then ih else false) as
theorem am_all1_ok : ∀ {as : List Value}, am_all1 as = true → ∀ v ∈ as, v.category = 1
  | [], _, v, hv => by cases hv
  | a :: l, h, v, hv => by
    have h1 : (bif am_c1 a then am_all1 l else false) = true := h
    cases ha : am_c1 a
    · rw [ha] at h1
      cases h1
    · rw [ha] at h1
      rcases List.mem_cons.mp hv with rfl | hv
      · exact am_c1_ok ha
      · exact am_all1_ok h1 v hv
abbrev am_Tb : Type := List (List (Nat × am_Cd))
noncomputable def am_evd (tab : am_Tb) (d : Nat) : am_Ev := Nat.rec (motive := fun _ => am_Ev) (fun _ _ _ => none) (fun _ ih j as h => match am_nth tab (j / 16) with
  | some b => match am_nth b (j % 16) with
    | some (nL, code) => bif am_all1 as && Nat.ble as.length nL then Sum.rec (motive := fun _ => Option am_R) (fun _ => none) (fun r => r) (am_it (am_stp code ih) 24 (0, am_init as (nL - as.length), [], h)) else none
    | none => none
  | none => none) d
def am_TbOk (tab : am_Tb) : Prop := ∀ j nL code, ((tab[j / 16]?).bind (fun b => b[j % 16]?)) = some (nL, code) → nL = (am_mi j).2.2.1 ∧ plainName (am_mi j).1.cls = true ∧ am_rows (am_mi j) 0 code
theorem am_evd_ok {tab : am_Tb} (hT : am_TbOk tab) (d : Nat) : am_EvOk (am_evd tab d) := by
  induction d with
  | zero => exact fun j as h r q => by cases q
  | succ d ih =>
    intro j as h r q
    have q1 : (match am_nth tab (j / 16) with
      | some b => match am_nth b (j % 16) with
        | some (nL, code) => bif am_all1 as && Nat.ble as.length nL then Sum.rec (motive := fun _ => Option am_R) (fun _ => none) (fun r => r) (am_it (am_stp code (am_evd tab d)) 24 (0, am_init as (nL - as.length), [], h)) else none
        | none => none
      | none => none) = some r := q
    cases hb : am_nth tab (j / 16) with
    | none => rw [hb] at q1; cases q1
    | some b =>
      rw [hb] at q1
      dsimp only at q1
      cases he : am_nth b (j % 16) with
      | none => rw [he] at q1; cases q1
      | some e =>
        obtain ⟨nL, code⟩ := e
        rw [he] at q1
        dsimp only at q1
        rw [am_nth_eq] at hb he
        obtain ⟨t1, t2, t3⟩ := hT j nL code (by rw [hb]; exact he)
        cases ha : am_all1 as
        · rw [ha] at q1; cases q1
        · cases hl : Nat.ble as.length nL
          · rw [ha, hl] at q1; cases q1
          · rw [ha, hl] at q1
            have hs := am_it_ok (fun pc L st h => am_stp_ok t3 ih pc L st h) 24 0 (am_init as (nL - as.length)) [] h
            cases hz : am_it (am_stp code (am_evd tab d)) 24 (0, am_init as (nL - as.length), [], h) with
            | inl s => rw [hz] at q1; cases q1
            | inr x =>
              rw [hz] at q1 hs
              have q2 : x = some r := q1
              subst q2
              have hs2 : am_Good (am_mi j) 0 (am_init as (nL - as.length)) [] h r := hs
              rw [am_init_eq] at hs2
              exact am_enter t2 (am_all1_ok ha) (by rw [← t1]; exact Nat.le_of_ble_eq_true hl) hs2
