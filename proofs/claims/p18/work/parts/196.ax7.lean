/-! ===== symbolic runs: back at a loop's head ===== -/
noncomputable def ax_mp (c0 : Nat) (ns : List Nat) (g : Nat) : Option Nat := bif Nat.blt g (4294967296 + c0) then some g else am_nth ns (g - (4294967296 + c0))
def ax_eqo (x : Option Nat) (n : Nat) : Bool := match x with
  | some m => Nat.beq m n
  | none => false
theorem ax_eqo_ok {x : Option Nat} {n : Nat} (h : ax_eqo x n = true) : x = some n := by
  cases x with
  | none => cases h
  | some m => rw [Nat.eq_of_beq_eq_true h]
def ax_rho (ρ : Nat → Nat) (c0 : Nat) (ns : List Nat) (i : Nat) : Nat := if i < c0 then ρ i else match ns[i - c0]? with
  | some n => ax_vl ρ n
  | none => 0
theorem ax_rho_ag {ρ : Nat → Nat} {c0 : Nat} {ns : List Nat} : ax_ag c0 ρ (ax_rho ρ c0 ns) := fun i hi => by
  unfold ax_rho
  rw [if_pos hi]
theorem ax_mp_ok {ρ : Nat → Nat} {c0 g n : Nat} {ns : List Nat} (e : ax_mp c0 ns g = some n) : ax_vl (ax_rho ρ c0 ns) g = ax_vl ρ n := by
  unfold ax_mp at e
  cases hb : Nat.blt g (4294967296 + c0)
  · rw [hb, cond_false, am_nth_eq] at e
    have hb' := ax_blt_f hb
    have h1 : ax_vl (ax_rho ρ c0 ns) g = ax_rho ρ c0 ns (g - 4294967296) := by
      unfold ax_vl
      rw [if_neg (by omega)]
    rw [h1]
    unfold ax_rho
    rw [if_neg (by omega), show g - 4294967296 - c0 = g - (4294967296 + c0) by omega, e]
  · rw [hb] at e
    cases e
    exact ax_vl_ag ax_rho_ag (ax_blt_t hb)
noncomputable def ax_bl2 (c0 c : Nat) (ns : List Nat) : am_L → am_L → Bool
  | [], [] => true
  | none :: a, _ :: b => ax_bl2 c0 c ns a b
  | some (.retAddr g) :: a, some (.retAddr n) :: b => bif Nat.blt g (4294967296 + c) && ax_eqo (ax_mp c0 ns g) n then ax_bl2 c0 c ns a b else false
  | some (.ref x) :: a, some (.ref y) :: b => bif Nat.beq x y then ax_bl2 c0 c ns a b else false
  | _, _ => false
def ax_fz : am_L → am_L → am_L
  | none :: a, _ :: b => none :: ax_fz a b
  | some _ :: a, v :: b => v :: ax_fz a b
  | _, _ => []
theorem ax_fz_le : ∀ {A L : am_L} (i : Nat) (v : Value), (ax_fz A L)[i]? = some (some v) → L[i]? = some (some v)
  | [], _, i, v, h => by simp [ax_fz] at h
  | none :: a, [], i, v, h => by simp [ax_fz] at h
  | some _ :: a, [], i, v, h => by simp [ax_fz] at h
  | none :: a, w :: b, 0, v, h => by simp [ax_fz] at h
  | none :: a, w :: b, i + 1, v, h => by
    have := ax_fz_le (A := a) (L := b) i v (by simpa [ax_fz] using h)
    simpa using this
  | some _ :: a, w :: b, 0, v, h => by simpa [ax_fz] using h
  | some _ :: a, w :: b, i + 1, v, h => by
    have := ax_fz_le (A := a) (L := b) i v (by simpa [ax_fz] using h)
    simpa using this
theorem ax_bl2_ok {ρ : Nat → Nat} {c0 c cb : Nat} {ns : List Nat} : ∀ {A Ab L : am_L}, ax_bl2 c0 c ns A Ab = true → ax_rl ρ cb Ab L → ax_rl (ax_rho ρ c0 ns) c A (ax_fz A L)
  | [], [], L, _, hl => by
    cases L with
    | nil => trivial
    | cons _ _ => exact hl.elim
  | [], _ :: _, _, e, _ => by simp [ax_bl2] at e
  | none :: a, [], _, e, _ => by simp [ax_bl2] at e
  | none :: a, _ :: b, L, e, hl => by
    cases L with
    | nil => exact hl.elim
    | cons v m => exact And.intro trivial (ax_bl2_ok (A := a) (Ab := b) (by simpa [ax_bl2] using e) hl.2)
  | some x :: a, [], _, e, _ => by cases x <;> simp [ax_bl2] at e
  | some x :: a, none :: b, _, e, _ => by cases x <;> simp [ax_bl2] at e
  | some x :: a, some y :: b, L, e, hl => by
    cases L with
    | nil => exact hl.elim
    | cons v m =>
      cases v with
      | none => exact hl.1.elim
      | some v =>
        cases x with
        | retAddr g =>
          cases y with
          | retAddr n =>
            have e' : (bif Nat.blt g (4294967296 + c) && ax_eqo (ax_mp c0 ns g) n then ax_bl2 c0 c ns a b else false) = true := by simpa only [ax_bl2] using e
            cases hb : Nat.blt g (4294967296 + c) && ax_eqo (ax_mp c0 ns g) n
            · rw [hb] at e'
              cases e'
            · rw [hb, cond_true] at e'
              rw [Bool.and_eq_true] at hb
              have hv : v = .retAddr (ax_vl ρ n) := hl.1.2
              subst hv
              exact And.intro (ax_rvi (ax_blt_t hb.1) (ax_mp_ok (ax_eqo_ok hb.2))) (ax_bl2_ok e' hl.2)
          | _ => simp [ax_bl2] at e
        | ref p =>
          cases y with
          | ref q =>
            have e' : (bif Nat.beq p q then ax_bl2 c0 c ns a b else false) = true := by simpa only [ax_bl2] using e
            cases hb : Nat.beq p q
            · rw [hb] at e'
              cases e'
            · rw [hb, cond_true] at e'
              have hv : v = .ref q := hl.1
              subst hv
              have := Nat.eq_of_beq_eq_true hb
              subst this
              exact And.intro rfl (ax_bl2_ok e' hl.2)
          | _ => simp [ax_bl2] at e
        | _ => simp [ax_bl2] at e
noncomputable def ax_bf (c0 c : Nat) (ns : List Nat) (fcb : List (Nat × Nat × Nat)) : List (Nat × Nat × Nat) → Bool
  | [] => true
  | (a, k, g) :: l => match ax_fc fcb a k with
    | some n => bif Nat.blt g (4294967296 + c) && ax_eqo (ax_mp c0 ns g) n then ax_bf c0 c ns fcb l else false
    | none => false
theorem ax_bf_ok {ρ : Nat → Nat} {c0 c cb : Nat} {ns : List Nat} {h : am_H} {fcb : List (Nat × Nat × Nat)} (hf : ax_fcok ρ cb h fcb) : ∀ {fc : List (Nat × Nat × Nat)}, ax_bf c0 c ns fcb fc = true → ax_fcok (ax_rho ρ c0 ns) c h fc
  | [], _, q, hq => by cases hq
  | (a, k, g) :: l, e, q, hq => by
    unfold ax_bf at e
    split at e
    · rename_i n hn
      cases hb : Nat.blt g (4294967296 + c) && ax_eqo (ax_mp c0 ns g) n
      · rw [hb] at e
        cases e
      · rw [hb, cond_true] at e
        rw [Bool.and_eq_true] at hb
        rcases List.mem_cons.mp hq with rfl | hq
        · refine ⟨ax_blt_t hb.1, ?_⟩
          show ax_fv h a k = some (.retAddr (ax_vl _ g))
          rw [ax_mp_ok (ax_eqo_ok hb.2)]
          exact (hf _ (ax_fc_ok hn)).2
        · exact ax_bf_ok hf e q hq
    · cases e
noncomputable def ax_ba (c0 c : Nat) (ns : List Nat) (acb : List (Nat × Nat × Nat)) : List (Nat × Nat × Nat) → Bool
  | [] => true
  | (a, i, g) :: l => match ax_mp c0 ns i with
    | some i' => match ax_fc acb a i' with
      | some n => bif (Nat.blt i (4294967296 + c) && Nat.blt g (4294967296 + c)) && ax_eqo (ax_mp c0 ns g) n then ax_ba c0 c ns acb l else false
      | none => false
    | none => false
theorem ax_ba_ok {ρ : Nat → Nat} {c0 c cb : Nat} {ns : List Nat} {h : am_H} {acb : List (Nat × Nat × Nat)} (hf : ax_acok ρ cb h acb) : ∀ {ac : List (Nat × Nat × Nat)}, ax_ba c0 c ns acb ac = true → ax_acok (ax_rho ρ c0 ns) c h ac
  | [], _, q, hq => by cases hq
  | (a, i, g) :: l, e, q, hq => by
    unfold ax_ba at e
    split at e
    · rename_i i' hi'
      split at e
      · rename_i n hn
        cases hb : (Nat.blt i (4294967296 + c) && Nat.blt g (4294967296 + c)) && ax_eqo (ax_mp c0 ns g) n
        · rw [hb] at e
          cases e
        · rw [hb, cond_true] at e
          rw [Bool.and_eq_true, Bool.and_eq_true] at hb
          rcases List.mem_cons.mp hq with rfl | hq
          · refine ⟨ax_blt_t hb.1.1, ax_blt_t hb.1.2, ?_⟩
            show ax_av h a (ax_vl _ i) = some (ax_vl _ g)
            rw [ax_mp_ok hi', ax_mp_ok (ax_eqo_ok hb.2)]
            exact (hf _ (ax_fc_ok hn)).2.2
          · exact ax_ba_ok hf e q hq
      · cases e
    · cases e
noncomputable def ax_bg (Xg Xb : ax_X) (c0 : Nat) : List Nat → Nat → Bool
  | [], j => Nat.beq (c0 + j) Xg.1
  | n :: l, j => match am_nth Xg.2.1 (Xg.1 - 1 - (c0 + j)) with
    | some e => bif Nat.beq e.1 0 && (ax_sub (ax_rg Xb n) e.2.2.2 && Nat.blt n (4294967296 + Xb.1)) then ax_bg Xg Xb c0 l (j + 1) else false
    | none => false
theorem ax_bg_ok {sh : ax_Sh} {ρ : Nat → Nat} {Xg Xb : ax_X} {h : am_H} {c0 : Nat} (hx : ax_xo sh ρ Xb h) : ∀ {l : List Nat} {j : Nat}, ax_bg Xg Xb c0 l j = true → c0 + j + l.length = Xg.1 ∧ ∀ i n, l[i]? = some n → ∃ e, Xg.2.1[Xg.1 - 1 - (c0 + (j + i))]? = some e ∧ e.1 = 0 ∧ ax_in (ax_vl ρ n) e.2.2.2 ∧ n < 4294967296 + Xb.1
  | [], j, e => ⟨Nat.eq_of_beq_eq_true e, fun i n hn => by simp at hn⟩
  | n :: l, j, e => by
    unfold ax_bg at e
    rw [am_nth_eq] at e
    split at e
    · rename_i en hen
      cases hb : Nat.beq en.1 0 && (ax_sub (ax_rg Xb n) en.2.2.2 && Nat.blt n (4294967296 + Xb.1))
      · rw [hb] at e
        cases e
      · rw [hb, cond_true] at e
        rw [Bool.and_eq_true, Bool.and_eq_true] at hb
        obtain ⟨i1, i2⟩ := ax_bg_ok hx e
        refine ⟨by rw [List.length_cons]; omega, fun i m hm => ?_⟩
        cases i with
        | zero =>
          cases hm
          have hn := ax_blt_t hb.2.2
          exact ⟨en, hen, Nat.eq_of_beq_eq_true hb.1, ax_sub_ok hb.2.1 (ax_rg_ok hx hn), hn⟩
        | succ i =>
          obtain ⟨e', q⟩ := i2 i m (by simpa using hm)
          refine ⟨e', ?_⟩
          rw [show j + (i + 1) = j + 1 + i by omega]
          exact q
    · cases e
noncomputable def ax_nsl (Ab : am_L) : List (Nat × ax_R) → (List Nat → Bool) → Bool
  | [], k => k []
  | (i, _) :: l, k => match am_nth Ab i with
    | some (some (.retAddr n)) => ax_nsl Ab l fun r => k (n :: r)
    | _ => false
theorem ax_nsl_ok {Ab : am_L} : ∀ {ml : List (Nat × ax_R)} {k : List Nat → Bool}, ax_nsl Ab ml k = true → ∃ r, k r = true
  | [], k, e => ⟨[], e⟩
  | (i, _) :: l, k, e => by
    unfold ax_nsl at e
    split at e
    · obtain ⟨r, hr⟩ := ax_nsl_ok e
      exact ⟨_, hr⟩
    · cases e
noncomputable def ax_nsf (fc : List (Nat × Nat × Nat)) : List (Nat × Nat × ax_R) → (List Nat → Bool) → Bool
  | [], k => k []
  | (a, b, _) :: l, k => match ax_fc fc a b with
    | some n => ax_nsf fc l fun r => k (n :: r)
    | none => false
theorem ax_nsf_ok {fc : List (Nat × Nat × Nat)} : ∀ {mf : List (Nat × Nat × ax_R)} {k : List Nat → Bool}, ax_nsf fc mf k = true → ∃ r, k r = true
  | [], k, e => ⟨[], e⟩
  | (a, b, _) :: l, k, e => by
    unfold ax_nsf at e
    split at e
    · obtain ⟨r, hr⟩ := ax_nsf_ok e
      exact ⟨_, hr⟩
    · cases e
/-- head, locals and knowledge there, how many names before, the loop's row -/
abbrev ax_A : Type := Nat × am_L × ax_X × Nat × ax_Lp
noncomputable def ax_bk1 (a : ax_A) (Ab : am_L) (Xb : ax_X) (ns : List Nat) : Bool := match a with
  | (_, Ag, Xg, c0, lp) => (ax_bg Xg Xb c0 ns 0 && ax_bl2 c0 Xg.1 ns Ag Ab) && ((ax_bf c0 Xg.1 ns Xb.2.2.1 Xg.2.2.1 && ax_ba c0 Xg.1 ns Xb.2.2.2 Xg.2.2.2) && (match am_nth ns lp.2.2.2.2.2.1 with
    | some n => bif lp.2.2.2.2.2.2 then ax_upq Xb (4294967296 + (c0 + lp.2.2.2.2.2.1)) 40 n else ax_dnq Xb (4294967296 + (c0 + lp.2.2.2.2.2.1)) 40 n
    | none => false))
noncomputable def ax_bk (a : ax_A) (Ab : am_L) (Sb : List Value) (Xb : ax_X) : Bool := match Sb with
  | [] => ax_nsl Ab a.2.2.2.2.1 fun n1 => ax_nsf Xb.2.2.1 a.2.2.2.2.2.1 fun n2 => ax_bk1 a Ab Xb (n1 ++ n2)
  | _ => false
def ax_mv (up : Bool) (x : Nat) : Nat := bif up then 4294967296 - ax_bi x else ax_bi x
def ax_bm (sh : ax_Sh) (M : am_MI) (a : ax_A) (ρ : Nat → Nat) (L : am_L) (st : List Value) (h : am_H) : Prop := a.2.2.2.1 + a.2.2.2.2.2.2.2.2.2.1 < a.2.2.1.1 ∧ ∃ ρ' L', ax_ag a.2.2.2.1 ρ ρ' ∧ ax_rl ρ' a.2.2.1.1 a.2.1 L' ∧ ax_xo sh ρ' a.2.2.1 h ∧ ax_mv a.2.2.2.2.2.2.2.2.2.2 (ρ' (a.2.2.2.1 + a.2.2.2.2.2.2.2.2.2.1)) < ax_mv a.2.2.2.2.2.2.2.2.2.2 (ρ (a.2.2.2.1 + a.2.2.2.2.2.2.2.2.2.1)) ∧ ∀ r, am_Good M a.1 L' [] h r → am_Good M a.1 L st h r
theorem ax_bk_ok {sh : ax_Sh} {M : am_MI} {a : ax_A} {Ab L : am_L} {Sb st : List Value} {Xb : ax_X} {ρ : Nat → Nat} {h : am_H} (hb : ax_bk a Ab Sb Xb = true) (hl : ax_rl ρ Xb.1 Ab L) (hs : ax_rs ρ Xb.1 Sb st) (hx : ax_xo sh ρ Xb h) (hse : ax_se ρ a.2.2.1.2.1) (hlen : a.2.2.1.1 = a.2.2.1.2.1.length) (hcb : a.2.2.1.1 ≤ Xb.1) : ax_bm sh M a ρ L st h := by
  obtain ⟨pc, Ag, Xg, c0, lp⟩ := a
  unfold ax_bk at hb
  split at hb
  · have hst := ax_rs0 hs
    subst hst
    obtain ⟨n1, hb⟩ := ax_nsl_ok hb
    obtain ⟨n2, hb⟩ := ax_nsf_ok hb
    generalize n1 ++ n2 = ns at hb
    unfold ax_bk1 at hb
    dsimp only at hb hse hlen hcb
    rw [Bool.and_eq_true, Bool.and_eq_true, Bool.and_eq_true, Bool.and_eq_true] at hb
    obtain ⟨⟨b1, b2⟩, ⟨b3, b4⟩, b5⟩ := hb
    obtain ⟨g1, g2⟩ := ax_bg_ok hx b1
    have hse' : ax_se ρ Xg.2.1 := hse
    have hlen' : Xg.1 = Xg.2.1.length := hlen
    have hcb' : Xg.1 ≤ Xb.1 := hcb
    refine ⟨?_, ax_rho ρ c0 ns, ax_fz Ag L, ax_rho_ag, ax_bl2_ok b2 hl, ⟨hlen, fun k e hk0 => ?_, ax_bf_ok hx.2.2.1 b3, ax_ba_ok hx.2.2.2.1 b4, hx.2.2.2.2⟩, ?_, fun r hg => g_forget ax_fz_le hg⟩
    · show c0 + lp.2.2.2.2.2.1 < Xg.1
      rw [am_nth_eq] at b5
      split at b5
      · rename_i n hn
        have hnl := (List.getElem?_eq_some_iff.mp hn).1
        omega
      · cases b5
    · have hk : Xg.2.1[k]? = some e := hk0
      show ax_s1 (ax_rho ρ c0 ns) e (Xg.2.1.length - 1 - k)
      have hk' := (List.getElem?_eq_some_iff.mp hk).1
      by_cases hi : Xg.2.1.length - 1 - k < c0
      · exact (hse' k e hk).ag ax_rho_ag hi
      · have hj : Xg.2.1.length - 1 - k - c0 < ns.length := by omega
        obtain ⟨en, q1, q2, q3, q4⟩ := g2 (Xg.2.1.length - 1 - k - c0) ns[Xg.2.1.length - 1 - k - c0] (List.getElem?_eq_getElem hj)
        rw [show Xg.1 - 1 - (c0 + (0 + (Xg.2.1.length - 1 - k - c0))) = k by omega, hk] at q1
        cases q1
        refine ⟨?_, fun h0 => absurd q2 h0⟩
        unfold ax_rho
        rw [if_neg hi, List.getElem?_eq_getElem hj]
        exact q3
    · show ax_mv lp.2.2.2.2.2.2 (ax_rho ρ c0 ns (c0 + lp.2.2.2.2.2.1)) < ax_mv lp.2.2.2.2.2.2 (ρ (c0 + lp.2.2.2.2.2.1))
      rw [am_nth_eq] at b5
      split at b5
      · rename_i n hn
        have hnl := (List.getElem?_eq_some_iff.mp hn).1
        obtain ⟨en, q1, q2, q3, q4⟩ := g2 _ n hn
        have e1 : ax_rho ρ c0 ns (c0 + lp.2.2.2.2.2.1) = ax_vl ρ n := by
          unfold ax_rho
          rw [if_neg (by omega), show c0 + lp.2.2.2.2.2.1 - c0 = lp.2.2.2.2.2.1 by omega, hn]
        have hgi : 4294967296 + (c0 + lp.2.2.2.2.2.1) < 4294967296 + Xb.1 := by omega
        have l1 := ax_bi_lt (ρ (c0 + lp.2.2.2.2.2.1))
        have l2 := ax_bi_lt (ax_vl ρ n)
        rw [e1]
        unfold ax_mv
        cases hu : lp.2.2.2.2.2.2
        · rw [hu, cond_false] at b5
          have := ax_dnq_ok hx hgi q4 b5
          rw [ax_vl_i] at this
          rw [cond_false, cond_false]
          exact this
        · rw [hu, cond_true] at b5
          have := ax_upq_ok hx hgi q4 b5
          rw [ax_vl_i] at this
          rw [cond_true, cond_true]
          omega
      · cases b5
  · cases hb
/-! ===== symbolic runs: running ===== -/
abbrev ax_Cd : Type := List (List (Option ax_Op))
def ax_prow (sh : ax_Sh) : List (Option am_Op) → List (Option ax_Op) → Prop
  | _, [] => True
  | _ :: a, none :: b => ax_prow sh a b
  | some op :: a, some ao :: b => ax_Sim sh op ao ∧ ax_prow sh a b
  | _, _ => False
def ax_prows (sh : ax_Sh) : am_Cd → ax_Cd → Prop
  | _, [] => True
  | x :: a, y :: b => ax_prow sh x y ∧ ax_prows sh a b
  | [], _ :: _ => False
theorem ax_prow_get {sh : ax_Sh} : ∀ {a : List (Option am_Op)} {b : List (Option ax_Op)} {k : Nat} {ao : ax_Op}, ax_prow sh a b → b[k]? = some (some ao) → ∃ op, a[k]? = some (some op) ∧ ax_Sim sh op ao
  | _, [], _, _, _, h => by cases h
  | [], none :: b, _, _, hp, _ => hp.elim
  | [], some _ :: b, _, _, hp, _ => hp.elim
  | none :: a, some _ :: b, _, _, hp, _ => hp.elim
  | x :: a, none :: b, 0, _, _, h => by cases h
  | x :: a, none :: b, k + 1, ao, hp, h => by
    have hp' : ax_prow sh a b := by cases x <;> exact hp
    obtain ⟨op, q1, q2⟩ := ax_prow_get (a := a) (b := b) (k := k) hp' (by simpa using h)
    exact ⟨op, by simpa using q1, q2⟩
  | some op :: a, some ao' :: b, 0, ao, hp, h => by
    cases h
    exact ⟨op, rfl, hp.1⟩
  | some op :: a, some ao' :: b, k + 1, ao, hp, h => by
    obtain ⟨op, q1, q2⟩ := ax_prow_get (a := a) (b := b) (k := k) hp.2 (by simpa using h)
    exact ⟨op, by simpa using q1, q2⟩
theorem ax_prows_get {sh : ax_Sh} : ∀ {a : am_Cd} {b : ax_Cd} {k : Nat} {y : List (Option ax_Op)}, ax_prows sh a b → b[k]? = some y → ∃ x, a[k]? = some x ∧ ax_prow sh x y
  | _, [], _, _, _, h => by cases h
  | [], _ :: _, _, _, hp, _ => hp.elim
  | x :: a, y :: b, 0, y', hp, h => by
    cases h
    exact ⟨x, rfl, hp.1⟩
  | x :: a, y :: b, k + 1, y', hp, h => by
    obtain ⟨op, q1, q2⟩ := ax_prows_get (a := a) (b := b) (k := k) hp.2 (by simpa using h)
    exact ⟨op, by simpa using q1, q2⟩
noncomputable def ax_stp (code : ax_Cd) (aev : ax_Ev) (s : ax_S) : Option ax_Z := match s with
  | (pc, A, S, X) => match am_nth code (pc / 8) with
    | some b => match am_nth b (pc % 8) with
      | some (some op) => op aev A S X
      | _ => none
    | none => none
def ax_g (sh : ax_Sh) (M : am_MI) (ρ : Nat → Nat) (c pc : Nat) (L : am_L) (st : List Value) (h : am_H) (y : ax_S ⊕ ax_E) : Prop := match y with
  | .inl s => ∃ ρ', ax_ag c ρ ρ' ∧ c ≤ s.2.2.2.1 ∧ ∃ L' st' h', (∀ r, am_Good M s.1 L' st' h' r → am_Good M pc L st h r) ∧ ax_rl ρ' s.2.2.2.1 s.2.1 L' ∧ ax_rs ρ' s.2.2.2.1 s.2.2.1 st' ∧ ax_xo sh ρ' s.2.2.2 h' ∧ ax_Fr sh h h'
  | .inr e => ax_en sh ρ c h e (fun v h' => am_Good M pc L st h (v, h'))
theorem ax_stp_ok {sh : ax_Sh} {M : am_MI} {code : am_Cd} {acode : ax_Cd} {aev : ax_Ev} (hc : am_rows M 0 code) (hp : ax_prows sh code acode) (hev : ax_EvOk sh aev) {s : ax_S} {z : ax_Z} (e : ax_stp acode aev s = some z) {ρ : Nat → Nat} {L : am_L} {st : List Value} {h : am_H} (hl : ax_rl ρ s.2.2.2.1 s.2.1 L) (hs : ax_rs ρ s.2.2.2.1 s.2.2.1 st) (hx : ax_xo sh ρ s.2.2.2 h) : ∃ y ∈ z, ax_g sh M ρ s.2.2.2.1 s.1 L st h y := by
  obtain ⟨pc, A, S, X⟩ := s
  simp only [ax_stp, am_nth_eq] at e
  split at e
  · rename_i b hb
    split at e
    · rename_i ao hao
      obtain ⟨x, x1, x2⟩ := ax_prows_get hp hb
      obtain ⟨op, o1, o2⟩ := ax_prow_get x2 hao
      have hok := am_row_get (am_rows_get hc x1) o1
      rw [show 0 + 8 * (pc / 8) + pc % 8 = pc by omega] at hok
      obtain ⟨ev, hev', y, hy, hn⟩ := o2 aev hev A S X z e ρ L st h hl hs hx
      have hst := hok ev hev' L st h
      refine ⟨y, hy, ?_⟩
      cases y with
      | inl s =>
        obtain ⟨ρ', n1, n2, L', st', h', n3, n4⟩ := hn
        rw [n3] at hst
        exact ⟨ρ', n1, n2, L', st', h', hst, n4⟩
      | inr en =>
        obtain ⟨ρ', n1, n2, v, h', n3, n4⟩ := hn
        rw [n3] at hst
        exact ⟨ρ', n1, n2, v, h', hst, n4⟩
    · cases e
  · cases e
def ax_Wn (sh : ax_Sh) (M : am_MI) (act : List ax_A) (ρ : Nat → Nat) (c : Nat) (es : List ax_E) (pc : Nat) (L : am_L) (st : List Value) (h : am_H) : Prop := (∃ e ∈ es, ax_en sh ρ c h e (fun v h' => am_Good M pc L st h (v, h'))) ∨ ∃ a ∈ act, ∃ ρ' L' st' h', ax_ag c ρ ρ' ∧ ax_Fr sh h h' ∧ ax_bm sh M a ρ' L' st' h' ∧ ∀ r, am_Good M a.1 L' st' h' r → am_Good M pc L st h r
theorem ax_en.bk {sh : ax_Sh} {ρ ρ1 : Nat → Nat} {c c1 : Nat} {h h1 : am_H} {e : ax_E} {P P1 : Option Value → am_H → Prop} (ha : ax_ag c ρ ρ1) (hc : c ≤ c1) (hF : ax_Fr sh h h1) (hP : ∀ v h', P1 v h' → P v h') (he : ax_en sh ρ1 c1 h1 e P1) : ax_en sh ρ c h e P := by
  obtain ⟨ρ2, a1, a2, v, h', a3, a4, a5, a6⟩ := he
  exact ⟨ρ2, ha.tr a1 hc, by omega, v, h', hP v h' a3, a4, a5, hF.tr a6⟩
theorem ax_Wn.bk {sh : ax_Sh} {M : am_MI} {act : List ax_A} {ρ ρ1 : Nat → Nat} {c c1 pc pc1 : Nat} {es : List ax_E} {L L1 : am_L} {st st1 : List Value} {h h1 : am_H} (ha : ax_ag c ρ ρ1) (hc : c ≤ c1) (hF : ax_Fr sh h h1) (hg : ∀ r, am_Good M pc1 L1 st1 h1 r → am_Good M pc L st h r) (hw : ax_Wn sh M act ρ1 c1 es pc1 L1 st1 h1) : ax_Wn sh M act ρ c es pc L st h := by
  rcases hw with ⟨e, he, hn⟩ | ⟨a, haa, ρ2, L2, st2, h2, b1, b2, b3, b4⟩
  · exact Or.inl ⟨e, he, hn.bk ha hc hF fun v h' q => hg _ q⟩
  · exact Or.inr ⟨a, haa, ρ2, L2, st2, h2, ha.tr b1 hc, hF.tr b2, b3, fun r q => hg r (b4 r q)⟩
theorem ax_Wn.mono {sh : ax_Sh} {M : am_MI} {act : List ax_A} {ρ : Nat → Nat} {c pc : Nat} {es es' : List ax_E} {L : am_L} {st : List Value} {h : am_H} (hs : ∀ e ∈ es, e ∈ es') (hw : ax_Wn sh M act ρ c es pc L st h) : ax_Wn sh M act ρ c es' pc L st h := by
  rcases hw with ⟨e, he, hn⟩ | q
  · exact Or.inl ⟨e, hs e he, hn⟩
  · exact Or.inr q
def ax_Ac (ρ : Nat → Nat) (c : Nat) (act : List ax_A) : Prop := ∀ a ∈ act, ax_se ρ a.2.2.1.2.1 ∧ a.2.2.1.1 = a.2.2.1.2.1.length ∧ a.2.2.1.1 ≤ c
theorem ax_Ac.ag {ρ ρ' : Nat → Nat} {c d : Nat} {act : List ax_A} (h : ax_ag c ρ ρ') (hd : c ≤ d) (ha : ax_Ac ρ c act) : ax_Ac ρ' d act := fun a q => by
  obtain ⟨h1, h2, h3⟩ := ha a q
  exact ⟨h1.ag (h.le (by omega)), h2, by omega⟩
def ax_fol (f : ax_S → Option (List ax_E)) : ax_Z → Option (List ax_E)
  | [] => some []
  | .inl s :: l => match f s with
    | some e1 => match ax_fol f l with
      | some e2 => some (e1 ++ e2)
      | none => none
    | none => none
  | .inr e :: l => match ax_fol f l with
    | some e2 => some (e :: e2)
    | none => none
/-- what is to be shown of a run from a state -/
def ax_Gd (sh : ax_Sh) (M : am_MI) (act : List ax_A) (f : ax_S → Option (List ax_E)) : Prop := ∀ s es, f s = some es → ∀ ρ L st h, ax_rl ρ s.2.2.2.1 s.2.1 L → ax_rs ρ s.2.2.2.1 s.2.2.1 st → ax_xo sh ρ s.2.2.2 h → ax_Ac ρ s.2.2.2.1 act → ax_Wn sh M act ρ s.2.2.2.1 es s.1 L st h
theorem ax_fol_ok {sh : ax_Sh} {M : am_MI} {act : List ax_A} {f : ax_S → Option (List ax_E)} (hf : ax_Gd sh M act f) {ρ : Nat → Nat} {c pc : Nat} {L : am_L} {st : List Value} {h : am_H} (hA : ax_Ac ρ c act) : ∀ {z : ax_Z} {es : List ax_E} {y : ax_S ⊕ ax_E}, ax_fol f z = some es → y ∈ z → ax_g sh M ρ c pc L st h y → ax_Wn sh M act ρ c es pc L st h
  | [], _, _, _, hy, _ => by cases hy
  | .inl s :: l, es, y, e, hy, hg => by
    unfold ax_fol at e
    split at e
    · rename_i e1 h1
      split at e
      · rename_i e2 h2
        cases e
        rcases List.mem_cons.mp hy with rfl | hy
        · obtain ⟨ρ', a1, a2, L', st', h', a3, a4, a5, a6, a7⟩ := hg
          exact ax_Wn.mono (fun e he => List.mem_append_left _ he) (ax_Wn.bk a1 a2 a7 a3 (hf s e1 h1 ρ' L' st' h' a4 a5 a6 (hA.ag a1 a2)))
        · exact ax_Wn.mono (fun e he => List.mem_append_right _ he) (ax_fol_ok hf hA h2 hy hg)
      · cases e
    · cases e
  | .inr en :: l, es, y, e, hy, hg => by
    unfold ax_fol at e
    split at e
    · rename_i e2 h2
      cases e
      rcases List.mem_cons.mp hy with rfl | hy
      · exact Or.inl ⟨en, List.mem_cons_self, hg⟩
      · exact ax_Wn.mono (fun e he => List.mem_cons_of_mem _ he) (ax_fol_ok hf hA h2 hy hg)
    · cases e
noncomputable def ax_ish (lps : List (Nat × ax_Lp)) (pc : Nat) : Option ax_Lp := List.rec (motive := fun _ => Option ax_Lp) none (fun q _ ih => bif Nat.beq q.1 pc then some q.2 else ih) lps
noncomputable def ax_fa (act : List ax_A) (pc : Nat) : Option ax_A := List.rec (motive := fun _ => Option ax_A) none (fun q _ ih => bif Nat.beq q.1 pc then some q else ih) act
theorem ax_fa_ok {pc : Nat} {a : ax_A} : ∀ {act : List ax_A}, ax_fa act pc = some a → a ∈ act ∧ a.1 = pc
  | [], h => by cases h
  | q :: l, h => by
    have h' : (bif Nat.beq q.1 pc then some q else ax_fa l pc) = some a := h
    cases hb : Nat.beq q.1 pc
    · rw [hb] at h'
      obtain ⟨h1, h2⟩ := ax_fa_ok h'
      exact ⟨List.mem_cons_of_mem _ h1, h2⟩
    · rw [hb] at h'
      cases h'
      exact ⟨List.mem_cons_self, Nat.eq_of_beq_eq_true hb⟩
noncomputable def ax_ch (code : ax_Cd) (lps : List (Nat × ax_Lp)) (aev : ax_Ev) (s : ax_S) : ax_S ⊕ (ax_S ⊕ Option ax_Z) := match ax_ish lps s.1 with
  | some _ => .inr (.inl s)
  | none => match ax_stp code aev s with
    | some [.inl s'] => .inl s'
    | z => .inr (.inr z)
noncomputable def ax_it (f : ax_S → ax_S ⊕ (ax_S ⊕ Option ax_Z)) (n : Nat) : ax_S → ax_S ⊕ (ax_S ⊕ Option ax_Z) := Nat.rec (motive := fun _ => ax_S → ax_S ⊕ (ax_S ⊕ Option ax_Z)) (fun s => f s) (fun _ ih s => Sum.rec (motive := fun _ => ax_S ⊕ (ax_S ⊕ Option ax_Z)) (fun s' => ih s') (fun r => .inr r) (ih s)) n
noncomputable def ax_go (code : ax_Cd) (lps : List (Nat × ax_Lp)) (aev : ax_Ev) (n : Nat) : List ax_A → ax_S → Option (List ax_E) := Nat.rec (motive := fun _ => List ax_A → ax_S → Option (List ax_E)) (fun _ _ => none) (fun _ ih act s => match ax_it (ax_ch code lps aev) 7 s with
  | .inl s' => ih act s'
  | .inr (.inr none) => none
  | .inr (.inr (some z)) => ax_fol (ih act) z
  | .inr (.inl s') => match ax_fa act s'.1 with
    | some a => bif ax_bk a s'.2.1 s'.2.2.1 s'.2.2.2 then some [] else none
    | none => match ax_ish lps s'.1 with
      | some lp => match ax_gen lp s'.2.1 s'.2.2.1 s'.2.2.2 with
        | some (A', X') => (match ax_stp code aev (s'.1, A', [], X') with
          | some z => ax_fol (ih ((s'.1, A', X', s'.2.2.2.1, lp) :: act)) z
          | none => none)
        | none => (match ax_stp code aev s' with
          | some z => ax_fol (ih act) z
          | none => none)
      | none => none) n
/-- one state leads to the other -/
def ax_lead (sh : ax_Sh) (M : am_MI) (s s' : ax_S) : Prop := ∀ ρ L st h, ax_rl ρ s.2.2.2.1 s.2.1 L → ax_rs ρ s.2.2.2.1 s.2.2.1 st → ax_xo sh ρ s.2.2.2 h → ax_g sh M ρ s.2.2.2.1 s.1 L st h (.inl s')
theorem ax_lead.rf {sh : ax_Sh} {M : am_MI} {s : ax_S} : ax_lead sh M s s := fun ρ L st h h1 h2 h3 => ⟨ρ, ax_ag.rf, Nat.le_refl _, L, st, h, fun _ q => q, h1, h2, h3, ax_Fr.rf⟩
theorem ax_lead.tr {sh : ax_Sh} {M : am_MI} {s s1 s2 : ax_S} (h1 : ax_lead sh M s s1) (h2 : ax_lead sh M s1 s2) : ax_lead sh M s s2 := fun ρ L st h q1 q2 q3 => by
  obtain ⟨ρ', a1, a2, L', st', h', a3, a4, a5, a6, a7⟩ := h1 ρ L st h q1 q2 q3
  obtain ⟨ρ2, b1, b2, L2, st2, hh2, b3, b4, b5, b6, b7⟩ := h2 ρ' L' st' h' a4 a5 a6
  exact ⟨ρ2, a1.tr b1 a2, Nat.le_trans a2 b2, L2, st2, hh2, fun r q => a3 r (b3 r q), b4, b5, b6, a7.tr b7⟩
def ax_leads (sh : ax_Sh) (M : am_MI) (code : ax_Cd) (aev : ax_Ev) (s : ax_S) (w : ax_S ⊕ (ax_S ⊕ Option ax_Z)) : Prop := match w with
  | .inl s' => ax_lead sh M s s'
  | .inr (.inl s') => ax_lead sh M s s'
  | .inr (.inr none) => True
  | .inr (.inr (some z)) => ∃ s', ax_lead sh M s s' ∧ ax_stp code aev s' = some z
theorem ax_leads.bk {sh : ax_Sh} {M : am_MI} {code : ax_Cd} {aev : ax_Ev} {s s1 : ax_S} {w : ax_S ⊕ (ax_S ⊕ Option ax_Z)} (h : ax_lead sh M s s1) (hw : ax_leads sh M code aev s1 w) : ax_leads sh M code aev s w := by
  rcases w with s' | s' | z
  · exact ax_lead.tr h hw
  · exact ax_lead.tr h hw
  · cases z with
    | none => trivial
    | some z =>
      obtain ⟨s2, h1, h2⟩ := hw
      exact ⟨s2, h.tr h1, h2⟩
theorem ax_ch_ok {sh : ax_Sh} {M : am_MI} {code : am_Cd} {acode : ax_Cd} {aev : ax_Ev} (hc : am_rows M 0 code) (hp : ax_prows sh code acode) (hev : ax_EvOk sh aev) (lps : List (Nat × ax_Lp)) (s : ax_S) : ax_leads sh M acode aev s (ax_ch acode lps aev s) := by
  unfold ax_ch
  split
  · exact ax_lead.rf
  · split
    · rename_i s' hs'
      intro ρ L st h h1 h2 h3
      obtain ⟨y, hy, hg⟩ := ax_stp_ok hc hp hev hs' h1 h2 h3
      rw [List.mem_singleton.mp hy] at hg
      exact hg
    · cases hz : ax_stp acode aev s with
      | none => trivial
      | some z => exact ⟨s, ax_lead.rf, hz⟩
theorem ax_it_ok {sh : ax_Sh} {M : am_MI} {acode : ax_Cd} {aev : ax_Ev} {f : ax_S → ax_S ⊕ (ax_S ⊕ Option ax_Z)} (hf : ∀ s, ax_leads sh M acode aev s (f s)) (n : Nat) : ∀ s, ax_leads sh M acode aev s (ax_it f n s) := by
  induction n with
  | zero => exact hf
  | succ n ih =>
    intro s
    have h1 := ih s
    show ax_leads sh M acode aev s (Sum.rec (motive := fun _ => ax_S ⊕ (ax_S ⊕ Option ax_Z)) (fun s' => ax_it f n s') (fun r => .inr r) (ax_it f n s))
    cases hz : ax_it f n s with
    | inr r =>
      rw [hz] at h1
      exact h1
    | inl s' =>
      rw [hz] at h1
      exact ax_leads.bk h1 (ih s')
theorem ax_loop {sh : ax_Sh} {M : am_MI} {act : List ax_A} {a : ax_A} {es : List ax_E} (hbody : ∀ ρ L h, ax_rl ρ a.2.2.1.1 a.2.1 L → ax_xo sh ρ a.2.2.1 h → ax_Ac ρ a.2.2.1.1 act → ax_Wn sh M (a :: act) ρ a.2.2.1.1 es a.1 L [] h) (hc0 : a.2.2.2.1 ≤ a.2.2.1.1) : ∀ (m : Nat) (ρ : Nat → Nat) (L : am_L) (h : am_H), ax_mv a.2.2.2.2.2.2.2.2.2.2 (ρ (a.2.2.2.1 + a.2.2.2.2.2.2.2.2.2.1)) < m → ax_rl ρ a.2.2.1.1 a.2.1 L → ax_xo sh ρ a.2.2.1 h → ax_Ac ρ a.2.2.2.1 act → ax_Wn sh M act ρ a.2.2.2.1 es a.1 L [] h := by
  intro m
  induction m with
  | zero => intro ρ L h hm; omega
  | succ m ih =>
    intro ρ L h hm hl hx hA
    rcases hbody ρ L h hl hx (hA.ag ax_ag.rf hc0) with ⟨e, he, hn⟩ | ⟨a', ha', ρ1, L1, st1, h1, b1, b2, b3, b4⟩
    · exact Or.inl ⟨e, he, hn.bk ax_ag.rf hc0 ax_Fr.rf fun _ _ q => q⟩
    · rcases List.mem_cons.mp ha' with rfl | ha'
      · obtain ⟨hgi, ρ2, L2, d1, d2, d3, d4, d5⟩ := b3
        · have e1 : ρ1 (a'.2.2.2.1 + a'.2.2.2.2.2.2.2.2.2.1) = ρ (a'.2.2.2.1 + a'.2.2.2.2.2.2.2.2.2.1) := b1 _ hgi
          rw [e1] at d4
          have ag2 : ax_ag a'.2.2.2.1 ρ ρ2 := (b1.le hc0).tr d1 (Nat.le_refl _)
          exact ax_Wn.bk ag2 (Nat.le_refl _) b2 (fun r q => b4 r (d5 r q)) (ih ρ2 L2 h1 (by omega) d2 d3 (hA.ag ag2 (Nat.le_refl _)))
      · exact Or.inr ⟨a', ha', ρ1, L1, st1, h1, b1.le hc0, b2, b3, b4⟩
theorem ax_go_ok {sh : ax_Sh} {M : am_MI} {code : am_Cd} {acode : ax_Cd} {aev : ax_Ev} (hc : am_rows M 0 code) (hp : ax_prows sh code acode) (hev : ax_EvOk sh aev) (lps : List (Nat × ax_Lp)) (n : Nat) : ∀ act, ax_Gd sh M act (ax_go acode lps aev n act) := by
  induction n with
  | zero => exact fun act s es e => by cases e
  | succ n ih =>
    intro act s es e ρ L st h hl hs hx hA
    have hlead := ax_it_ok (ax_ch_ok hc hp hev lps) 7 s
    have e' : (match ax_it (ax_ch acode lps aev) 7 s with
      | .inl s' => ax_go acode lps aev n act s'
      | .inr (.inr none) => none
      | .inr (.inr (some z)) => ax_fol (ax_go acode lps aev n act) z
      | .inr (.inl s') => match ax_fa act s'.1 with
        | some a => bif ax_bk a s'.2.1 s'.2.2.1 s'.2.2.2 then some [] else none
        | none => match ax_ish lps s'.1 with
          | some lp => match ax_gen lp s'.2.1 s'.2.2.1 s'.2.2.2 with
            | some (A', X') => (match ax_stp acode aev (s'.1, A', [], X') with
              | some z => ax_fol (ax_go acode lps aev n ((s'.1, A', X', s'.2.2.2.1, lp) :: act)) z
              | none => none)
            | none => (match ax_stp acode aev s' with
              | some z => ax_fol (ax_go acode lps aev n act) z
              | none => none)
          | none => none) = some es := e
    generalize ax_it (ax_ch acode lps aev) 7 s = w at hlead e'
    rcases w with s' | s' | z
    · obtain ⟨ρ', a1, a2, L', st', h', a3, a4, a5, a6, a7⟩ := hlead ρ L st h hl hs hx
      exact ax_Wn.bk a1 a2 a7 a3 (ih act s' es e' ρ' L' st' h' a4 a5 a6 (hA.ag a1 a2))
    · obtain ⟨ρ', a1, a2, L', st', h', a3, a4, a5, a6, a7⟩ := hlead ρ L st h hl hs hx
      have hA' := hA.ag a1 a2
      refine ax_Wn.bk a1 a2 a7 a3 ?_
      dsimp only at e'
      cases hf : ax_fa act s'.1 with
      | some a =>
        rw [hf] at e'
        dsimp only at e'
        cases hb : ax_bk a s'.2.1 s'.2.2.1 s'.2.2.2
        · rw [hb] at e'
          cases e'
        · obtain ⟨f1, f2⟩ := ax_fa_ok hf
          obtain ⟨q1, q2, q3⟩ := hA' a f1
          have hbm := ax_bk_ok (M := M) hb a4 a5 a6 q1 q2 q3
          refine Or.inr ⟨a, f1, ρ', L', st', h', ax_ag.rf, ax_Fr.rf, hbm, ?_⟩
          rw [f2]
          exact fun r q => q
      | none =>
        rw [hf] at e'
        dsimp only at e'
        cases hi : ax_ish lps s'.1 with
        | none => rw [hi] at e'; cases e'
        | some lp =>
          rw [hi] at e'
          dsimp only at e'
          cases hg : ax_gen lp s'.2.1 s'.2.2.1 s'.2.2.2 with
          | none =>
            rw [hg] at e'
            dsimp only at e'
            cases hz : ax_stp acode aev s' with
            | none => rw [hz] at e'; cases e'
            | some z =>
              rw [hz] at e'
              obtain ⟨y, hy, hgy⟩ := ax_stp_ok hc hp hev hz a4 a5 a6
              exact ax_fol_ok (ih act) hA' e' hy hgy
          | some AX =>
            obtain ⟨A', X'⟩ := AX
            rw [hg] at e'
            dsimp only at e'
            cases hz : ax_stp acode aev (s'.1, A', [], X') with
            | none => rw [hz] at e'; cases e'
            | some z =>
              rw [hz] at e'
              obtain ⟨ρg, Lg, g1, g2, g3, g4, g5⟩ := ax_gen_ok (M := M) (pc := s'.1) hg a4 a5 a6
              refine ax_Wn.bk g1 (Nat.le_refl _) ax_Fr.rf g5 ?_
              refine ax_loop (a := (s'.1, A', X', s'.2.2.2.1, lp)) (es := es) (fun ρ2 L2 h2 r1 r2 r3 => ?_) g2 _ ρg Lg h' (Nat.lt_succ_self _) g3 g4 (hA'.ag g1 (Nat.le_refl _))
              have r4 : ax_Ac ρ2 X'.1 ((s'.1, A', X', s'.2.2.2.1, lp) :: act) := fun q hq => by
                rcases List.mem_cons.mp hq with rfl | hq
                · exact ⟨r2.2.1, r2.1, Nat.le_refl _⟩
                · exact r3 q hq
              obtain ⟨y, hy, hgy⟩ := ax_stp_ok hc hp hev hz (L := L2) (st := []) r1 trivial r2
              exact ax_fol_ok (ih _) r4 e' hy hgy
    · cases z with
      | none => cases e'
      | some z =>
        obtain ⟨s', hs', hz⟩ := hlead
        obtain ⟨ρ', a1, a2, L', st', h', a3, a4, a5, a6, a7⟩ := hs' ρ L st h hl hs hx
        obtain ⟨y, hy, hgy⟩ := ax_stp_ok hc hp hev hz a4 a5 a6
        exact ax_Wn.bk a1 a2 a7 a3 (ax_fol_ok (ih act) (hA.ag a1 a2) e' hy hgy)
