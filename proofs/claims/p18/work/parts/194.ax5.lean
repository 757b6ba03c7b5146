/-! ===== symbolic runs: cells ===== -/
noncomputable def ax_fc (fc : List (Nat × Nat × Nat)) (a k : Nat) : Option Nat := List.rec (motive := fun _ => Option Nat) none (fun q _ ih => bif Nat.beq q.1 a && Nat.beq q.2.1 k then some q.2.2 else ih) fc
theorem ax_fc_ok {a k n : Nat} : ∀ {fc : List (Nat × Nat × Nat)}, ax_fc fc a k = some n → (a, k, n) ∈ fc
  | [], h => by cases h
  | q :: l, h => by
    have h' : (bif Nat.beq q.1 a && Nat.beq q.2.1 k then some q.2.2 else ax_fc l a k) = some n := h
    cases hb : Nat.beq q.1 a && Nat.beq q.2.1 k
    · rw [hb] at h'
      exact List.mem_cons_of_mem _ (ax_fc_ok h')
    · rw [hb] at h'
      cases h'
      rw [Bool.and_eq_true] at hb
      rw [← Nat.eq_of_beq_eq_true hb.1, ← Nat.eq_of_beq_eq_true hb.2]
      exact List.mem_cons_self
def ax_afc (X : ax_X) (a k n : Nat) : ax_X := match X with
  | (c, es, fc, ac) => (c, es, (a, k, n) :: fc, ac)
def ax_aac (X : ax_X) (a i n : Nat) : ax_X := match X with
  | (c, es, fc, ac) => (c, es, fc, (a, i, n) :: ac)
noncomputable def ax_gf (sh : ax_Sh) (ci k nx : Nat) : ax_Op := fun _ L st X => match st with
  | .ref a :: st' => match ax_at sh a with
    | some (.inr (c, fs)) => bif Nat.beq c ci then (match am_nth fs k with
      | some f => bif Nat.beq f.1 0 then (match ax_fc X.2.2.1 a k with
        | some n => some [.inl (nx, L, .retAddr n :: st', X)]
        | none => ax_new X 0 0 0 f.2.2 fun n X' => some [.inl (nx, L, .retAddr n :: st', ax_afc X' a k n)]) else some [.inl (nx, L, .ref f.2.1 :: st', X)]
      | none => none) else none
    | _ => none
  | _ => none
theorem sm_gf {sh : ax_Sh} {ci k nx : Nat} : ax_Simp sh (am_gf ci k nx) (ax_gf sh ci k nx) := by
  intro aev A S X z e ρ L st h hl hs hx
  unfold ax_gf at e
  split at e
  · rename_i a S'
    obtain ⟨v, st', rfl, h2, hs'⟩ := ax_rs1 hs
    have h2' : v = .ref a := h2
    subst h2'
    split at e
    · rename_i c fs hat
      cases hc : Nat.beq c ci
      · rw [hc] at e
        cases e
      · rw [hc, cond_true] at e
        have hci := Nat.eq_of_beq_eq_true hc
        subst hci
        obtain ⟨vs, hg, hlen, hf⟩ := hx.2.2.2.2.obj hat
        rw [am_nth_eq] at e
        split at e
        · rename_i f hfk
          have hk : k < vs.length := by rw [hlen]; exact (List.getElem?_eq_some_iff.mp hfk).1
          obtain ⟨v, hv⟩ : ∃ v, vs[k]? = some v := ⟨_, List.getElem?_eq_getElem hk⟩
          have hfok := hf k f v hfk hv
          have hop : ∀ ev, am_gf c k nx ev L (.ref a :: st') h = .inl (nx, L, v :: st', h) := fun ev => by
            simp only [am_gf, hg, hc, cond_true, am_nth_eq, hv]
          have hfv : ax_fv h a k = some v := by simp only [ax_fv, hg, hv]
          cases hz : Nat.beq f.1 0
          · rw [hz, cond_false] at e
            cases e
            unfold ax_fok at hfok
            rw [if_neg (fun q => by rw [q] at hz; cases hz)] at hfok
            subst hfok
            exact ⟨_, List.mem_cons_self, fun ev => ax_st1 (hop ev) hl (ax_rs.c ax_rvr hs') hx⟩
          · rw [hz, cond_true] at e
            unfold ax_fok at hfok
            rw [if_pos (Nat.eq_of_beq_eq_true hz)] at hfok
            obtain ⟨n, rfl, hin⟩ := hfok
            split at e
            · rename_i m hm
              cases e
              obtain ⟨m1, m2⟩ := hx.2.2.1 _ (ax_fc_ok hm)
              have m3 : some (Value.retAddr n) = some (Value.retAddr (ax_vl ρ m)) := hfv.symm.trans m2
              have m4 : n = ax_vl ρ m := by cases m3; rfl
              exact ⟨_, List.mem_cons_self, fun ev => ax_st1 (hop ev) hl (ax_rs.c (ax_rvi m1 m4.symm) hs') hx⟩
            · obtain ⟨m, X', ρ', e2, n2, n3, n4, n5, n6, n7⟩ := ax_new_e hx hin (op := 0) (a := 0) (b := 0) (fun q => absurd rfl q) e
              cases e2
              obtain ⟨c', es', fc', ac'⟩ := X'
              refine ⟨_, List.mem_cons_self, fun ev => ⟨ρ', n2, n3, L, _, h, hop ev, hl.ag n2 n3, ax_rs.c (ax_rvi n4 n5) (hs'.ag n2 n3), ?_, ax_Fr.rf⟩⟩
              refine ⟨n6.1, n6.2.1, fun q hq => ?_, n6.2.2.2.1, n6.2.2.2.2⟩
              rcases List.mem_cons.mp hq with rfl | hq
              · exact ⟨n4, by show ax_fv h a k = some (.retAddr (ax_vl ρ' m)); rw [n5]; exact hfv⟩
              · exact n6.2.2.1 q hq
        · cases e
    · cases e
  · cases e
def ax_any (p : Nat × Nat → Bool) : ax_R → Bool
  | [] => false
  | r :: l => bif p r then true else ax_any p l
theorem ax_any_ok {p : Nat × Nat → Bool} : ∀ {R : ax_R}, ax_any p R = true → ∃ r ∈ R, p r = true
  | [], h => by cases h
  | a :: l, h => by
    have h' : (bif p a then true else ax_any p l) = true := h
    cases hp : p a
    · rw [hp] at h'
      obtain ⟨r, hr, hq⟩ := ax_any_ok h'
      exact ⟨r, List.mem_cons_of_mem _ hr, hq⟩
    · exact ⟨a, List.mem_cons_self, hp⟩
def ax_sub (A B : ax_R) : Bool := ax_all (fun a => ax_any (fun b => Nat.ble b.1 a.1 && Nat.ble a.2 b.2) B) A
theorem ax_sub_ok {A B : ax_R} {v : Nat} (h : ax_sub A B = true) (hv : ax_in v A) : ax_in v B := by
  refine ax_in_sub hv fun r hr h1 h2 => ?_
  obtain ⟨b, hb, hq⟩ := ax_any_ok (ax_all_ok h r hr)
  rw [Bool.and_eq_true] at hq
  have q1 := ax_ble_t hq.1
  have q2 := ax_ble_t hq.2
  exact ⟨b, hb, by omega, by omega⟩
theorem ax_upd_f {sh : ax_Sh} {h : am_H} {a ci k n : Nat} {R : ax_R} {fs : List ax_F} {vs : List Value} (hI : ax_I sh h) (hs : ax_at sh a = some (.inr (ci, fs))) (hf : fs[k]? = some (0, 1, R)) (hg : am_get h a = some (.inr (ci, vs))) (hlen : vs.length = fs.length) (hn : ax_in n R) : ax_I sh (am_upd h a (.inr (ci, vs.set k (.retAddr n)))) ∧ ax_Fr sh h (am_upd h a (.inr (ci, vs.set k (.retAddr n)))) ∧ (∀ a' k', ¬ (a' = a ∧ k' = k) → ax_fv (am_upd h a (.inr (ci, vs.set k (.retAddr n)))) a' k' = ax_fv h a' k') ∧ ax_fv (am_upd h a (.inr (ci, vs.set k (.retAddr n)))) a k = some (.retAddr n) ∧ (∀ a' i, ax_av (am_upd h a (.inr (ci, vs.set k (.retAddr n)))) a' i = ax_av h a' i) := by
  have hk : k < vs.length := by rw [hlen]; exact (List.getElem?_eq_some_iff.mp hf).1
  have hget := am_get_upd (e := .inr (ci, vs.set k (.retAddr n))) hg
  generalize hh' : am_upd h a (.inr (ci, vs.set k (.retAddr n))) = h' at hget
  have hfv : ∀ a' k', ¬ (a' = a ∧ k' = k) → ax_fv h' a' k' = ax_fv h a' k' := fun a' k' hne => by
    unfold ax_fv
    rw [hget]
    by_cases ha : a' = a
    · subst ha
      rw [if_pos rfl, hg]
      show (vs.set k (.retAddr n))[k']? = vs[k']?
      exact List.getElem?_set_ne (fun q => hne ⟨rfl, q.symm⟩)
    · rw [if_neg ha]
  refine ⟨fun a' s hs' => ?_, ⟨by rw [← hh']; rfl, by rw [← hh']; rfl, fun a' ha' => ?_, fun a' kd m cols ha' => ?_, fun a' ci' fs' k' R' ha' hf' => ?_⟩, hfv, ?_, fun a' i => ?_⟩
  · by_cases ha : a' = a
    · subst ha
      rw [hs] at hs'
      cases hs'
      obtain ⟨vs0, hg0, -, ho⟩ := hI.obj hs
      rw [hg] at hg0
      cases hg0
      refine ⟨.inr (ci, vs.set k (.retAddr n)), by rw [hget, if_pos rfl], And.intro rfl (And.intro (by rw [List.length_set]; exact hlen) fun k' f v hf' hv' => ?_)⟩
      by_cases hkk : k' = k
      · subst hkk
        rw [List.getElem?_set_self hk] at hv'
        rw [hf] at hf'
        cases hf'
        cases hv'
        exact ⟨n, rfl, hn⟩
      · rw [List.getElem?_set_ne (fun q => hkk q.symm)] at hv'
        exact ho k' f v hf' hv'
    · obtain ⟨e, he, ho⟩ := hI a' s hs'
      exact ⟨e, by rw [hget, if_neg ha]; exact he, ho⟩
  · rw [hget, if_neg (fun q => by rw [q, hs] at ha'; cases ha')]
  · rw [hget, if_neg (fun q => by rw [q, hs] at ha'; cases ha')]
  · exact hfv a' k' (fun q => by
      obtain ⟨rfl, rfl⟩ := q
      rw [hs] at ha'
      cases ha'
      rw [hf] at hf'
      cases hf')
  · unfold ax_fv
    rw [hget, if_pos rfl]
    exact List.getElem?_set_self hk
  · unfold ax_av
    rw [hget]
    by_cases ha : a' = a
    · subst ha
      rw [if_pos rfl, hg]
    · rw [if_neg ha]
def ax_dfc (a k : Nat) (q : Nat × Nat × Nat) : Bool := !(Nat.beq q.1 a && Nat.beq q.2.1 k)
def ax_sfc (X : ax_X) (a k n : Nat) : ax_X := match X with
  | (c, es, fc, ac) => (c, es, (a, k, n) :: fc.filter (ax_dfc a k), ac)
noncomputable def ax_pf (sh : ax_Sh) (ci k tk nx : Nat) : ax_Op := fun _ L st X => match st with
  | .retAddr n :: .ref a :: st' => match ax_at sh a with
    | some (.inr (c, fs)) => bif Nat.beq c ci then (match am_nth fs k with
      | some f => bif (Nat.beq f.1 0 && Nat.beq f.2.1 1) && (ax_sub (ax_rg X n) f.2.2 && (bif Nat.beq tk 0 then true else Nat.beq tk 1 && ax_lt (ax_rg X n) 2)) then some [.inl (nx, L, st', ax_sfc X a k n)] else none
      | none => none) else none
    | _ => none
  | _ => none
theorem sm_pf {sh : ax_Sh} {ci k tk nx : Nat} : ax_Simp sh (am_pf ci k tk nx) (ax_pf sh ci k tk nx) := by
  intro aev A S X z e ρ L st h hl hs hx
  unfold ax_pf at e
  split at e
  · rename_i n a S'
    obtain ⟨v, st', rfl, h2, hs'⟩ := ax_rs1 hs
    obtain ⟨w, st2, rfl, h3, hs2⟩ := ax_rs1 hs'
    obtain ⟨n1, rfl⟩ := h2
    have h3' : w = .ref a := h3
    subst h3'
    split at e
    · rename_i c fs hat
      cases hc : Nat.beq c ci
      · rw [hc] at e
        cases e
      · rw [hc, cond_true] at e
        have hci := Nat.eq_of_beq_eq_true hc
        subst hci
        obtain ⟨vs, hg, hlen, hf⟩ := hx.2.2.2.2.obj hat
        rw [am_nth_eq] at e
        split at e
        · rename_i f hfk
          cases hb : (Nat.beq f.1 0 && Nat.beq f.2.1 1) && (ax_sub (ax_rg X n) f.2.2 && (bif Nat.beq tk 0 then true else Nat.beq tk 1 && ax_lt (ax_rg X n) 2))
          · rw [hb] at e
            cases e
          · rw [hb] at e
            cases e
            rw [Bool.and_eq_true, Bool.and_eq_true, Bool.and_eq_true] at hb
            obtain ⟨⟨b1, b2⟩, b3, b4⟩ := hb
            obtain ⟨f1, f2, R⟩ := f
            have e1 : f1 = 0 := Nat.eq_of_beq_eq_true b1
            have e2 : f2 = 1 := Nat.eq_of_beq_eq_true b2
            subst e1
            subst e2
            have hin := ax_rg_ok hx n1
            obtain ⟨u1, u2, u3, u4, u5⟩ := ax_upd_f hx.2.2.2.2 hat hfk hg hlen (ax_sub_ok b3 hin)
            have hk : k < vs.length := by rw [hlen]; exact (List.getElem?_eq_some_iff.mp hfk).1
            have hfit : am_fitb tk (.retAddr (ax_vl ρ n)) = true := by
              show (bif Nat.beq tk 0 then true else (bif Nat.beq tk 1 then Nat.blt (ax_vl ρ n) 2 else false)) = true
              cases ht : Nat.beq tk 0
              · rw [ht, cond_false, Bool.and_eq_true] at b4
                rw [b4.1, cond_false, cond_true]
                exact Nat.ble_eq_true_of_le (ax_lt_ok b4.2 hin)
              · rfl
            obtain ⟨cX, es, fc, ac⟩ := X
            refine ⟨_, List.mem_cons_self, fun ev => ⟨ρ, ax_ag.rf, Nat.le_refl _, L, st2, am_upd h a (.inr (c, vs.set k (.retAddr (ax_vl ρ n)))), ?_, hl, hs2, ⟨hx.1, hx.2.1, ?_, ?_, u1⟩, u2⟩⟩
            · simp only [am_pf, hfit, cond_true, hg, hc, am_nth_eq, List.getElem?_eq_getElem hk, am_setc_eq, am_updc_eq]
            · intro q hq
              rcases List.mem_cons.mp hq with rfl | hq
              · exact ⟨n1, u4⟩
              · obtain ⟨q1, q2⟩ := List.mem_filter.mp hq
                obtain ⟨q3, q4⟩ := hx.2.2.1 q q1
                refine ⟨q3, ?_⟩
                rw [u3 q.1 q.2.1 (fun z => by
                  unfold ax_dfc at q2
                  rw [z.1, z.2, Nat.beq_refl, Nat.beq_refl] at q2
                  cases q2)]
                exact q4
            · intro q hq
              obtain ⟨q3, q4, q5⟩ := hx.2.2.2.1 q hq
              exact ⟨q3, q4, by rw [u5]; exact q5⟩
        · cases e
    · cases e
  · cases e
/-! rows -/
noncomputable def ax_rsd (X : ax_X) (m : Nat) : Nat → Nat → Option Nat
  | 0, n => bif Nat.blt n 4294967296 then some (n % m) else none
  | d + 1, n => bif Nat.blt n 4294967296 then some (n % m) else (match am_nth X.2.1 (X.1 - 1 - (n - 4294967296)) with
    | some e => bif Nat.beq e.1 3 then (bif (Nat.blt e.2.1 4294967296 && Nat.beq (e.2.1 % m) 0) && ax_all (fun r => Nat.blt (e.2.1 * r.2) 4294967296) (ax_rg X e.2.2.1) then some 0 else none) else (bif Nat.beq e.1 1 && (ax_lt (ax_rg X e.2.1) 2147483648 && ax_lt (ax_rg X e.2.2.1) 2147483648) then (match ax_rsd X m d e.2.1 with
      | some p => match ax_rsd X m d e.2.2.1 with
        | some q => some ((p + q) % m)
        | none => none
      | none => none) else none)
    | none => none)
theorem ax_rsd_ok {sh : ax_Sh} {ρ : Nat → Nat} {X : ax_X} {h : am_H} (hx : ax_xo sh ρ X h) {m : Nat} : ∀ (d : Nat) {n r : Nat}, n < 4294967296 + X.1 → ax_rsd X m d n = some r → ax_vl ρ n % m = r
  | 0, n, r, hn, e => by
    unfold ax_rsd at e
    cases hb : Nat.blt n 4294967296
    · rw [hb] at e
      cases e
    · rw [hb] at e
      cases e
      rw [ax_vl_c (ax_blt_t hb)]
  | d + 1, n, r, hn, e => by
    unfold ax_rsd at e
    cases hb : Nat.blt n 4294967296
    · rw [hb, cond_false] at e
      have hb' := ax_blt_f hb
      obtain ⟨en, he, hs⟩ := ax_id hx (by omega) hn
      rw [am_nth_eq, he] at e
      have e' : (bif Nat.beq en.1 3 then (bif (Nat.blt en.2.1 4294967296 && Nat.beq (en.2.1 % m) 0) && ax_all (fun r => Nat.blt (en.2.1 * r.2) 4294967296) (ax_rg X en.2.2.1) then some 0 else none) else (bif Nat.beq en.1 1 && (ax_lt (ax_rg X en.2.1) 2147483648 && ax_lt (ax_rg X en.2.2.1) 2147483648) then (match ax_rsd X m d en.2.1 with
        | some p => match ax_rsd X m d en.2.2.1 with
          | some q => some ((p + q) % m)
          | none => none
        | none => none) else none)) = some r := e
      have hval : ax_vl ρ n = ρ (n - 4294967296) := by unfold ax_vl; rw [if_neg (by omega)]
      cases h3 : Nat.beq en.1 3
      · rw [h3, cond_false] at e'
        cases h1 : Nat.beq en.1 1 && (ax_lt (ax_rg X en.2.1) 2147483648 && ax_lt (ax_rg X en.2.2.1) 2147483648)
        · rw [h1] at e'
          cases e'
        · rw [h1, cond_true] at e'
          rw [Bool.and_eq_true, Bool.and_eq_true] at h1
          have ho := Nat.eq_of_beq_eq_true h1.1
          obtain ⟨s1, s2, s3⟩ := hs.2 (by rw [ho]; decide)
          have a1 : en.2.1 < 4294967296 + X.1 := by omega
          have a2 : en.2.2.1 < 4294967296 + X.1 := by omega
          have l1 := ax_lt_ok h1.2.1 (ax_rg_ok hx a1)
          have l2 := ax_lt_ok h1.2.2 (ax_rg_ok hx a2)
          cases hp : ax_rsd X m d en.2.1 with
          | none => rw [hp] at e'; cases e'
          | some p =>
            rw [hp] at e'
            cases hq : ax_rsd X m d en.2.2.1 with
            | none => rw [hq] at e'; cases e'
            | some q =>
              rw [hq] at e'
              cases e'
              have i1 := ax_rsd_ok hx d a1 hp
              have i2 := ax_rsd_ok hx d a2 hq
              rw [hval, s3, ho]
              show (ax_vl ρ en.2.1 + ax_vl ρ en.2.2.1) % 4294967296 % m = (p + q) % m
              rw [Nat.mod_eq_of_lt (a := ax_vl ρ en.2.1 + ax_vl ρ en.2.2.1) (b := 4294967296) (by omega), Nat.add_mod, i1, i2]
      · rw [h3, cond_true] at e'
        cases h1 : (Nat.blt en.2.1 4294967296 && Nat.beq (en.2.1 % m) 0) && ax_all (fun r => Nat.blt (en.2.1 * r.2) 4294967296) (ax_rg X en.2.2.1)
        · rw [h1] at e'
          cases e'
        · rw [h1] at e'
          cases e'
          rw [Bool.and_eq_true, Bool.and_eq_true] at h1
          have ho := Nat.eq_of_beq_eq_true h3
          obtain ⟨s1, s2, s3⟩ := hs.2 (by rw [ho]; decide)
          have a2 : en.2.2.1 < 4294967296 + X.1 := by omega
          obtain ⟨-, rr, hr, r1, r2⟩ := ax_rg_ok hx a2
          have l1 := ax_blt_t (ax_all_ok h1.2 rr hr)
          have l2 := Nat.mul_le_mul_left en.2.1 r2
          rw [hval, s3, ho, ax_vl_c (ax_blt_t h1.1.1)]
          show (en.2.1 * ax_vl ρ en.2.2.1) % 4294967296 % m = 0
          rw [Nat.mod_eq_of_lt (a := en.2.1 * ax_vl ρ en.2.2.1) (b := 4294967296) (by omega), Nat.mul_mod, Nat.eq_of_beq_eq_true h1.1.2, Nat.zero_mul, Nat.zero_mod]
    · rw [hb] at e
      cases e
      rw [ax_vl_c (ax_blt_t hb)]
noncomputable def ax_col (X : ax_X) (cols : List ax_R) (i : Nat) : ax_R := match cols with
  | [R] => R
  | _ => match ax_rsd X cols.length 4 i with
    | some r => (match am_nth cols r with
      | some R => R
      | none => [])
    | none => ax_nrm (cols.flatMap fun R => R)
theorem ax_col_ok {sh : ax_Sh} {ρ : Nat → Nat} {X : ax_X} {h : am_H} (hx : ax_xo sh ρ X h) {cols : List ax_R} {i w : Nat} (hi : i < 4294967296 + X.1) (hc : ∃ R, cols[ax_vl ρ i % cols.length]? = some R ∧ ax_in w R) : ax_in w (ax_col X cols i) := by
  obtain ⟨R, hR, hw⟩ := hc
  unfold ax_col
  split
  · rename_i R0
    rw [show ([R0] : List ax_R).length = 1 from rfl, Nat.mod_one] at hR
    cases hR
    exact hw
  · split
    · rename_i r hr
      have := ax_rsd_ok hx 4 hi hr
      rw [this] at hR
      rw [am_nth_eq, hR]
      exact hw
    · exact ax_in_nrm (ax_in_sub hw fun q hq h1 h2 => ⟨q, List.mem_flatMap.mpr ⟨R, List.mem_of_getElem? hR, hq⟩, h1, h2⟩)
noncomputable def ax_ald (sh : ax_Sh) (kd nx : Nat) : ax_Op := fun _ L st X => match st with
  | .retAddr i :: .ref a :: st' => match ax_at sh a with
    | some (.inl (kd', n, _, cols)) => bif Nat.beq kd' kd && (ax_lt (ax_rg X i) n && Nat.ble n 2147483648) then (match ax_fc X.2.2.2 a i with
      | some v => some [.inl (nx, L, .retAddr v :: st', X)]
      | none => ax_frc (ax_col X cols i) fun R => ax_new X 0 0 0 R fun v X' => some [.inl (nx, L, .retAddr v :: st', ax_aac X' a i v)]) else none
    | _ => none
  | _ => none
theorem sm_ald {sh : ax_Sh} {kd nx : Nat} : ax_Simp sh (am_ald kd nx) (ax_ald sh kd nx) := by
  intro aev A S X z e ρ L st h hl hs hx
  unfold ax_ald at e
  split at e
  · rename_i i a S'
    obtain ⟨v, st', rfl, h2, hs'⟩ := ax_rs1 hs
    obtain ⟨w, st2, rfl, h3, hs2⟩ := ax_rs1 hs'
    obtain ⟨i1, rfl⟩ := h2
    have h3' : w = .ref a := h3
    subst h3'
    split at e
    · rename_i kd' n ww cols hat
      cases hc : Nat.beq kd' kd && (ax_lt (ax_rg X i) n && Nat.ble n 2147483648)
      · rw [hc] at e
        cases e
      · rw [hc, cond_true] at e
        rw [Bool.and_eq_true, Bool.and_eq_true] at hc
        obtain ⟨c1, c2, c3⟩ := hc
        obtain ⟨x, hg, ho⟩ := hx.2.2.2.2.row hat
        have hi := ax_lt_ok c2 (ax_rg_ok hx i1)
        have hop : ∀ ev, am_ald kd nx ev L (.retAddr (ax_vl ρ i) :: .ref a :: st2) h = .inl (nx, L, .retAddr (am_ag x (ax_vl ρ i)) :: st2, h) := fun ev => by
          simp only [am_ald, hg, c1, cond_true, c3, show Nat.blt (ax_vl ρ i) n = true from Nat.ble_eq_true_of_le hi, am_force_eq]
        have hav : ax_av h a (ax_vl ρ i) = some (am_ag x (ax_vl ρ i)) := by simp only [ax_av, hg]
        split at e
        · rename_i m hm
          cases e
          obtain ⟨m1, m2, m3⟩ := hx.2.2.2.1 _ (ax_fc_ok hm)
          have m4 : am_ag x (ax_vl ρ i) = ax_vl ρ m := Option.some.inj (hav.symm.trans m3)
          exact ⟨_, List.mem_cons_self, fun ev => ax_st1 (hop ev) hl (ax_rs.c (ax_rvi m2 m4.symm) hs2) hx⟩
        · rw [ax_frc_eq] at e
          obtain ⟨m, X', ρ', e2, n2, n3, n4, n5, n6, n7⟩ := ax_new_e hx (ax_col_ok hx i1 (ho _ hi)) (op := 0) (a := 0) (b := 0) (fun q => absurd rfl q) e
          cases e2
          obtain ⟨c', es', fc', ac'⟩ := X'
          have n3' : X.1 ≤ c' := n3
          refine ⟨_, List.mem_cons_self, fun ev => ⟨ρ', n2, n3, L, _, h, hop ev, hl.ag n2 n3, ax_rs.c (ax_rvi n4 n5) (hs2.ag n2 n3), ?_, ax_Fr.rf⟩⟩
          refine ⟨n6.1, n6.2.1, n6.2.2.1, fun q hq => ?_, n6.2.2.2.2⟩
          rcases List.mem_cons.mp hq with rfl | hq
          · refine ⟨by show i < 4294967296 + c'; omega, n4, ?_⟩
            show ax_av h a (ax_vl ρ' i) = some (ax_vl ρ' m)
            rw [n5, ax_vl_ag n2 i1]
            exact hav
          · exact n6.2.2.2.1 q hq
    · cases e
  · cases e
theorem ax_upd_a {sh : ax_Sh} {h : am_H} {a kd n x i v : Nat} {cols : List ax_R} (hI : ax_I sh h) (hs : ax_at sh a = some (.inl (kd, n, 1, cols))) (hg : am_get h a = some (.inl (kd, n, x))) (hv : v < 4294967296) (hc : ∀ R, cols[i % cols.length]? = some R → ax_in v R) : ax_I sh (am_upd h a (.inl (kd, n, am_as x i v))) ∧ ax_Fr sh h (am_upd h a (.inl (kd, n, am_as x i v))) ∧ (∀ a' k', ax_fv (am_upd h a (.inl (kd, n, am_as x i v))) a' k' = ax_fv h a' k') ∧ (∀ a' j, a' ≠ a → ax_av (am_upd h a (.inl (kd, n, am_as x i v))) a' j = ax_av h a' j) ∧ ax_av (am_upd h a (.inl (kd, n, am_as x i v))) a i = some v ∧ (∀ j, j ≠ i → ax_av (am_upd h a (.inl (kd, n, am_as x i v))) a j = ax_av h a j) := by
  have hget := am_get_upd (e := .inl (kd, n, am_as x i v)) hg
  generalize hh' : am_upd h a (.inl (kd, n, am_as x i v)) = h' at hget
  have hfv : ∀ a' k', ax_fv h' a' k' = ax_fv h a' k' := fun a' k' => by
    unfold ax_fv
    rw [hget]
    by_cases ha : a' = a
    · subst ha
      rw [if_pos rfl, hg]
    · rw [if_neg ha]
  refine ⟨fun a' s hs' => ?_, ⟨by rw [← hh']; rfl, by rw [← hh']; rfl, fun a' ha' => ?_, fun a' kd' m cols' ha' => ?_, fun a' ci' fs' k' R' ha' hf' => hfv a' k'⟩, hfv, fun a' j hne => ?_, ?_, fun j hne => ?_⟩
  · by_cases ha : a' = a
    · subst ha
      rw [hs] at hs'
      cases hs'
      obtain ⟨x0, hg0, ho⟩ := hI.row hs
      rw [hg] at hg0
      cases hg0
      refine ⟨.inl (kd, n, am_as x i v), by rw [hget, if_pos rfl], And.intro rfl (And.intro rfl fun j hj => ?_)⟩
      rw [am_ag_as]
      by_cases hji : j = i
      · subst hji
        obtain ⟨R, hR, -⟩ := ho j hj
        rw [if_pos rfl, Nat.mod_eq_of_lt hv]
        exact ⟨R, hR, hc R hR⟩
      · rw [if_neg hji]
        exact ho j hj
    · obtain ⟨e, he, ho⟩ := hI a' s hs'
      exact ⟨e, by rw [hget, if_neg ha]; exact he, ho⟩
  · rw [hget, if_neg (fun q => by rw [q, hs] at ha'; cases ha')]
  · rw [hget, if_neg (fun q => by rw [q, hs] at ha'; cases ha')]
  · unfold ax_av
    rw [hget, if_neg hne]
  · unfold ax_av
    rw [hget, if_pos rfl]
    show some (am_ag (am_as x i v) i) = some v
    rw [am_ag_as, if_pos rfl, Nat.mod_eq_of_lt hv]
  · unfold ax_av
    rw [hget, if_pos rfl, hg]
    show some (am_ag (am_as x i v) j) = some (am_ag x j)
    rw [am_ag_as, if_neg hne]
def ax_allc (p : ax_R → Bool) : List ax_R → Bool
  | [] => true
  | r :: l => bif p r then ax_allc p l else false
theorem ax_allc_ok {p : ax_R → Bool} : ∀ {R : List ax_R}, ax_allc p R = true → ∀ r ∈ R, p r = true
  | [], _, r, hr => by cases hr
  | a :: l, h, r, hr => by
    have h' : (bif p a then ax_allc p l else false) = true := h
    cases hp : p a
    · rw [hp] at h'
      cases h'
    · rw [hp] at h'
      rcases List.mem_cons.mp hr with rfl | hr
      · exact hp
      · exact ax_allc_ok h' r hr
noncomputable def ax_fit (X : ax_X) (cols : List ax_R) (i : Nat) (V : ax_R) : Bool := match cols with
  | [R] => ax_sub V R
  | _ => match ax_rsd X cols.length 4 i with
    | some r => (match am_nth cols r with
      | some R => ax_sub V R
      | none => false)
    | none => ax_allc (ax_sub V) cols
theorem ax_fit_ok {sh : ax_Sh} {ρ : Nat → Nat} {X : ax_X} {h : am_H} (hx : ax_xo sh ρ X h) {cols : List ax_R} {i w : Nat} {V : ax_R} (hi : i < 4294967296 + X.1) (hf : ax_fit X cols i V = true) (hw : ax_in w V) (R : ax_R) (hR : cols[ax_vl ρ i % cols.length]? = some R) : ax_in w R := by
  unfold ax_fit at hf
  split at hf
  · rename_i R0
    rw [show ([R0] : List ax_R).length = 1 from rfl, Nat.mod_one] at hR
    cases hR
    exact ax_sub_ok hf hw
  · split at hf
    · rename_i r hr
      have := ax_rsd_ok hx 4 hi hr
      rw [this] at hR
      rw [am_nth_eq, hR] at hf
      exact ax_sub_ok hf hw
    · exact ax_sub_ok (ax_allc_ok hf R (List.mem_of_getElem? hR)) hw
def ax_dac (a : Nat) (q : Nat × Nat × Nat) : Bool := !Nat.beq q.1 a
def ax_dad (a i : Nat) (q : Nat × Nat × Nat) : Bool := bif Nat.beq q.1 a then (Nat.blt i 4294967296 && Nat.blt q.2.1 4294967296) && !Nat.beq q.2.1 i else true
def ax_sac (X : ax_X) (a i v : Nat) : ax_X := match X with
  | (c, es, fc, ac) => (c, es, fc, (a, i, v) :: ac.filter (ax_dad a i))
noncomputable def ax_ast (sh : ax_Sh) (kd lim nx : Nat) : ax_Op := fun _ L st X => match st with
  | .retAddr v :: .retAddr i :: .ref a :: st' => match ax_at sh a with
    | some (.inl (kd', n, w, cols)) => bif (Nat.beq kd' kd && Nat.beq w 1) && ((ax_lt (ax_rg X i) n && Nat.ble n 2147483648) && (ax_lt (ax_rg X v) lim && ax_fit X cols i (ax_rg X v))) then some [.inl (nx, L, st', ax_sac X a i v)] else none
    | _ => none
  | _ => none
theorem sm_ast {sh : ax_Sh} {kd lim nx : Nat} {f : Nat → Nat} (hf : ∀ v, v < lim → f v = v) : ax_Simp sh (am_ast kd f nx) (ax_ast sh kd lim nx) := by
  intro aev A S X z e ρ L st h hl hs hx
  unfold ax_ast at e
  split at e
  · rename_i v i a S'
    obtain ⟨u, st', rfl, h2, hs'⟩ := ax_rs1 hs
    obtain ⟨w, st2, rfl, h3, hs2⟩ := ax_rs1 hs'
    obtain ⟨y, st3, rfl, h4, hs3⟩ := ax_rs1 hs2
    obtain ⟨v1, rfl⟩ := h2
    obtain ⟨i1, rfl⟩ := h3
    have h4' : y = .ref a := h4
    subst h4'
    split at e
    · rename_i kd' n ww cols hat
      cases hc : (Nat.beq kd' kd && Nat.beq ww 1) && ((ax_lt (ax_rg X i) n && Nat.ble n 2147483648) && (ax_lt (ax_rg X v) lim && ax_fit X cols i (ax_rg X v)))
      · rw [hc] at e
        cases e
      · rw [hc] at e
        cases e
        rw [Bool.and_eq_true, Bool.and_eq_true, Bool.and_eq_true, Bool.and_eq_true, Bool.and_eq_true] at hc
        obtain ⟨⟨c1, c2⟩, ⟨c3, c4⟩, c5, c6⟩ := hc
        have hww := Nat.eq_of_beq_eq_true c2
        subst hww
        have hkd := Nat.eq_of_beq_eq_true c1
        subst hkd
        obtain ⟨x, hg, ho⟩ := hx.2.2.2.2.row hat
        have hi := ax_lt_ok c3 (ax_rg_ok hx i1)
        have hvi := ax_rg_ok hx v1
        have hv := ax_lt_ok c5 hvi
        obtain ⟨u1, u2, u3, u4, u5, u6⟩ := ax_upd_a (i := ax_vl ρ i) (v := ax_vl ρ v) hx.2.2.2.2 hat hg hvi.1 (fun R hR => ax_fit_ok hx i1 c6 hvi R hR)
        obtain ⟨cX, es, fc, ac⟩ := X
        refine ⟨_, List.mem_cons_self, fun ev => ⟨ρ, ax_ag.rf, Nat.le_refl _, L, st3, am_upd h a (.inl (kd', n, am_as x (ax_vl ρ i) (ax_vl ρ v))), ?_, hl, hs3, ⟨hx.1, hx.2.1, ?_, ?_, u1⟩, u2⟩⟩
        · simp only [am_ast, hg, c1, cond_true, c4, show Nat.blt (ax_vl ρ i) n = true from Nat.ble_eq_true_of_le hi, am_force_eq, hf _ hv, am_updc_eq]
        · intro q hq
          obtain ⟨q3, q4⟩ := hx.2.2.1 q hq
          exact ⟨q3, by rw [u3]; exact q4⟩
        · intro q hq
          rcases List.mem_cons.mp hq with rfl | hq
          · exact ⟨i1, v1, u5⟩
          · obtain ⟨q1, q2⟩ := List.mem_filter.mp hq
            obtain ⟨q3, q4, q5⟩ := hx.2.2.2.1 q q1
            refine ⟨q3, q4, ?_⟩
            unfold ax_dad at q2
            cases hqa : Nat.beq q.1 a
            · rw [u4 q.1 _ (fun z => by
                rw [z, Nat.beq_refl] at hqa
                cases hqa)]
              exact q5
            · rw [hqa, cond_true, Bool.and_eq_true, Bool.and_eq_true] at q2
              have z1 := Nat.eq_of_beq_eq_true hqa
              have z2 := ax_blt_t q2.1.1
              have z3 := ax_blt_t q2.1.2
              have z4 : ¬ q.2.1 = i := fun z => by
                have := q2.2
                rw [z, Nat.beq_refl] at this
                cases this
              rw [z1] at q5 ⊢
              rw [u6 _ (by rw [ax_vl_c z3, ax_vl_c z2]; exact z4)]
              exact q5
    · cases e
  · cases e
noncomputable def ax_len (sh : ax_Sh) (nx : Nat) : ax_Op := fun _ L st X => match st with
  | .ref a :: st' => match ax_at sh a with
    | some (.inl (kd, n, _, _)) => bif Nat.blt kd 3 && Nat.blt n 4294967296 then some [.inl (nx, L, .retAddr n :: st', X)] else none
    | _ => none
  | _ => none
theorem sm_len {sh : ax_Sh} {nx : Nat} : ax_Simp sh (am_len nx) (ax_len sh nx) := by
  intro aev A S X z e ρ L st h hl hs hx
  unfold ax_len at e
  split at e
  · rename_i a S'
    obtain ⟨v, st', rfl, h2, hs'⟩ := ax_rs1 hs
    have h2' : v = .ref a := h2
    subst h2'
    split at e
    · rename_i kd n ww cols hat
      cases hc : Nat.blt kd 3 && Nat.blt n 4294967296
      · rw [hc] at e
        cases e
      · rw [hc] at e
        cases e
        rw [Bool.and_eq_true] at hc
        obtain ⟨x, hg, ho⟩ := hx.2.2.2.2.row hat
        have hn := ax_blt_t hc.2
        exact ⟨_, List.mem_cons_self, fun ev => ax_st1 (by simp only [am_len, hg, hc.1, cond_true]) hl (ax_rs.c (ax_rvi (by omega) (ax_vl_c hn)) hs') hx⟩
    · cases e
  · cases e
def ax_top1 : ax_R → Nat
  | [] => 0
  | r :: l => ax_max r.2 (ax_top1 l)
theorem ax_top1_ok {v : Nat} : ∀ {R : ax_R}, (∃ r ∈ R, r.1 ≤ v ∧ v ≤ r.2) → v ≤ ax_top1 R
  | [], h => by obtain ⟨r, hr, _⟩ := h; cases hr
  | a :: l, h => by
    obtain ⟨r, hr, h1, h2⟩ := h
    rcases List.mem_cons.mp hr with rfl | hr
    · exact Nat.le_trans h2 (ax_le_max _ _).1
    · exact Nat.le_trans (ax_top1_ok ⟨r, hr, h1, h2⟩) (ax_le_max _ _).2
def ax_cac (X : ax_X) (a : Nat) : ax_X := match X with
  | (c, es, fc, ac) => (c, es, fc, ac.filter (ax_dac a))
/-- what is known of n elements from i on -/
noncomputable def ax_cr (X : ax_X) (a0 : Nat) : Nat → Nat → Option ax_R
  | _, 0 => some []
  | i, n + 1 => match ax_fc X.2.2.2 a0 i with
    | some v => match ax_cr X a0 (i + 1) n with
      | some R => some (ax_rg X v ++ R)
      | none => none
    | none => none
theorem ax_cr_ok {sh : ax_Sh} {ρ : Nat → Nat} {X : ax_X} {h : am_H} (hx : ax_xo sh ρ X h) {a0 kd m x0 : Nat} (hg : am_get h a0 = some (.inl (kd, m, x0))) : ∀ {n i : Nat} {R : ax_R}, ax_cr X a0 i n = some R → i + n < 4294967296 → ∀ j, j < n → ax_in (am_ag x0 (i + j)) R
  | 0, i, R, _, _, j, hj => absurd hj (Nat.not_lt_zero j)
  | n + 1, i, R, e, hi, j, hj => by
    unfold ax_cr at e
    split at e
    · rename_i v hv
      split at e
      · rename_i R' hR'
        cases e
        cases j with
        | zero =>
          obtain ⟨n1, n2, n3⟩ := hx.2.2.2.1 _ (ax_fc_ok hv)
          have n4 : ax_av h a0 (ax_vl ρ i) = some (ax_vl ρ v) := n3
          rw [ax_vl_c (show i < 4294967296 by omega)] at n4
          unfold ax_av at n4
          rw [hg] at n4
          have n5 : am_ag x0 i = ax_vl ρ v := Option.some.inj n4
          rw [Nat.add_zero, n5]
          exact ax_in_l (ax_rg_ok hx n2)
        | succ j =>
          have := ax_cr_ok hx hg hR' (by omega) j (by omega)
          rw [show i + (j + 1) = i + 1 + j by omega]
          exact ax_in_r this
      · cases e
    · cases e
noncomputable def ax_src (X : ax_X) (a0 sp n : Nat) (R0 : ax_R) : ax_R := bif Nat.blt sp 64 && Nat.blt n 64 then (match ax_cr X a0 sp n with
  | some R => R
  | none => R0) else R0
theorem ax_src_ok {sh : ax_Sh} {ρ : Nat → Nat} {X : ax_X} {h : am_H} (hx : ax_xo sh ρ X h) {a0 sp n kd m x0 : Nat} {R0 : ax_R} (hg : am_get h a0 = some (.inl (kd, m, x0))) (h0 : ∀ i, i < m → ax_in (am_ag x0 i) R0) (hm : ax_vl ρ sp + ax_vl ρ n ≤ m) (j : Nat) (hj : j < ax_vl ρ n) : ax_in (am_ag x0 (ax_vl ρ sp + j)) (ax_src X a0 sp n R0) := by
  unfold ax_src
  cases hc : Nat.blt sp 64 && Nat.blt n 64
  · rw [cond_false]
    exact h0 _ (by omega)
  · rw [cond_true]
    rw [Bool.and_eq_true] at hc
    have c1 := ax_blt_t hc.1
    have c2 := ax_blt_t hc.2
    rw [ax_vl_c (show n < 4294967296 by omega)] at hj
    split
    · rename_i R hR
      rw [ax_vl_c (show sp < 4294967296 by omega)]
      exact ax_cr_ok hx hg hR (by omega) j hj
    · rw [ax_vl_c (show n < 4294967296 by omega)] at hm
      exact h0 _ (by omega)
noncomputable def ax_acp (sh : ax_Sh) (nx : Nat) : ax_Op := fun _ L st X => match st with
  | .retAddr n :: .retAddr dp :: .ref a :: .retAddr sp :: .ref a0 :: rest => bif am_sh rest then (match ax_at sh a0, ax_at sh a with
    | some (.inl (0, n0, _, [R0])), some (.inl (0, n1, 1, [R1])) => bif ax_sub (ax_src X a0 sp n R0) R1 && ((Nat.ble (ax_top1 (ax_rg X sp) + ax_top1 (ax_rg X n)) n0 && Nat.ble (ax_top1 (ax_rg X dp) + ax_top1 (ax_rg X n)) n1) && (Nat.blt n0 2147483648 && Nat.blt n1 2147483648)) then some [.inl (nx, L, rest, ax_cac X a)] else none
    | _, _ => none) else none
  | _ => none
theorem sm_acp {sh : ax_Sh} {nx : Nat} : ax_Simp sh (am_acp nx) (ax_acp sh nx) := by
  intro aev A S X z e ρ L st h hl hs hx
  unfold ax_acp at e
  split at e
  · rename_i n dp a sp a0 rest
    obtain ⟨v1, st1, rfl, g1, s1⟩ := ax_rs1 hs
    obtain ⟨v2, st2, rfl, g2, s2⟩ := ax_rs1 s1
    obtain ⟨v3, st3, rfl, g3, s3⟩ := ax_rs1 s2
    obtain ⟨v4, st4, rfl, g4, s4⟩ := ax_rs1 s3
    obtain ⟨v5, st5, rfl, g5, s5⟩ := ax_rs1 s4
    obtain ⟨i1, rfl⟩ := g1
    obtain ⟨i2, rfl⟩ := g2
    have g3' : v3 = .ref a := g3
    subst g3'
    obtain ⟨i4, rfl⟩ := g4
    have g5' : v5 = .ref a0 := g5
    subst g5'
    cases hb : am_sh rest
    · rw [hb] at e
      cases e
    · rw [hb, cond_true] at e
      have hb' : am_sh st5 = true := by rw [ax_sh s5]; exact hb
      split at e
      · rename_i n0 w0 R0 n1 R1 ha0 ha
        cases hc : ax_sub (ax_src X a0 sp n R0) R1 && ((Nat.ble (ax_top1 (ax_rg X sp) + ax_top1 (ax_rg X n)) n0 && Nat.ble (ax_top1 (ax_rg X dp) + ax_top1 (ax_rg X n)) n1) && (Nat.blt n0 2147483648 && Nat.blt n1 2147483648))
        · rw [hc] at e
          cases e
        · rw [hc] at e
          cases e
          rw [Bool.and_eq_true, Bool.and_eq_true, Bool.and_eq_true, Bool.and_eq_true] at hc
          obtain ⟨c1, ⟨c2, c3⟩, c4, c5⟩ := hc
          obtain ⟨x0, hg0, ho0⟩ := hx.2.2.2.2.row ha0
          obtain ⟨x1, hg1, ho1⟩ := hx.2.2.2.2.row ha
          have t1 := ax_top1_ok (ax_rg_ok hx i1).2
          have t2 := ax_top1_ok (ax_rg_ok hx i2).2
          have t4 := ax_top1_ok (ax_rg_ok hx i4).2
          have c2' := ax_ble_t c2
          have c3' := ax_ble_t c3
          have hsrc : ∀ j, j < ax_vl ρ n → ax_in (am_ag x0 (ax_vl ρ sp + j)) (ax_src X a0 sp n R0) := fun j hj => ax_src_ok hx hg0 (fun i hi => by
            obtain ⟨R', hR', hin'⟩ := ho0 i hi
            rw [show ([R0] : List ax_R).length = 1 from rfl, Nat.mod_one] at hR'
            cases hR'
            exact hin') (by omega) j hj
          have hget := am_get_upd (e := .inl (0, n1, am_cp x0 x1 (ax_vl ρ sp) (ax_vl ρ dp) (ax_vl ρ n))) hg1
          have hop : ∀ ev, am_acp nx ev L (.retAddr (ax_vl ρ n) :: .retAddr (ax_vl ρ dp) :: .ref a :: .retAddr (ax_vl ρ sp) :: .ref a0 :: st5) h = .inl (nx, L, st5, am_upd h a (.inl (0, n1, am_cp x0 x1 (ax_vl ρ sp) (ax_vl ρ dp) (ax_vl ρ n)))) := fun ev => by
            simp only [am_acp, hb', cond_true, hg0, hg1, Nat.beq_refl, Bool.true_and, c4, c5, Bool.and_true, am_force_eq, am_updc_eq, show Nat.ble (ax_vl ρ sp + ax_vl ρ n) n0 = true from Nat.ble_eq_true_of_le (by omega), show Nat.ble (ax_vl ρ dp + ax_vl ρ n) n1 = true from Nat.ble_eq_true_of_le (by omega)]
          generalize hh' : am_upd h a (.inl (0, n1, am_cp x0 x1 (ax_vl ρ sp) (ax_vl ρ dp) (ax_vl ρ n))) = h' at hget hop
          have hfv : ∀ a' k', ax_fv h' a' k' = ax_fv h a' k' := fun a' k' => by
            unfold ax_fv
            rw [hget]
            by_cases hq : a' = a
            · subst hq
              rw [if_pos rfl, hg1]
            · rw [if_neg hq]
          obtain ⟨cX, es, fc, ac⟩ := X
          refine ⟨_, List.mem_cons_self, fun ev => ⟨ρ, ax_ag.rf, Nat.le_refl _, L, st5, h', hop ev, hl, s5, ⟨hx.1, hx.2.1, ?_, ?_, ?_⟩, ⟨by rw [← hh']; rfl, by rw [← hh']; rfl, fun a' ha' => ?_, fun a' kd' m cols' ha' => ?_, fun a' ci' fs' k' R' ha' hf' => hfv a' k'⟩⟩⟩
          · intro q hq
            obtain ⟨q3, q4⟩ := hx.2.2.1 q hq
            exact ⟨q3, by rw [hfv]; exact q4⟩
          · intro q hq
            obtain ⟨q1, q2⟩ := List.mem_filter.mp hq
            obtain ⟨q3, q4, q5⟩ := hx.2.2.2.1 q q1
            refine ⟨q3, q4, ?_⟩
            unfold ax_av
            rw [hget, if_neg (fun z => by
              unfold ax_dac at q2
              rw [z, Nat.beq_refl] at q2
              cases q2)]
            exact q5
          · intro a' s hs'
            by_cases hq : a' = a
            · subst hq
              rw [ha] at hs'
              cases hs'
              refine ⟨.inl (0, n1, am_cp x0 x1 (ax_vl ρ sp) (ax_vl ρ dp) (ax_vl ρ n)), by rw [hget, if_pos rfl], And.intro rfl (And.intro rfl fun j hj => ?_)⟩
              rw [am_ag_cp]
              obtain ⟨R, hR, hin⟩ := ho1 j hj
              by_cases hj2 : ax_vl ρ dp ≤ j ∧ j < ax_vl ρ dp + ax_vl ρ n
              · rw [if_pos hj2]
                have hin' := hsrc (j - ax_vl ρ dp) (by omega)
                exact ⟨R1, by rw [show ([R1] : List ax_R).length = 1 from rfl, Nat.mod_one]; rfl, ax_sub_ok c1 hin'⟩
              · rw [if_neg hj2]
                exact ⟨R, hR, hin⟩
            · obtain ⟨en, he, ho⟩ := hx.2.2.2.2 a' s hs'
              exact ⟨en, by rw [hget, if_neg hq]; exact he, ho⟩
          · rw [hget, if_neg (fun q => by rw [q, ha] at ha'; cases ha')]
          · rw [hget, if_neg (fun q => by rw [q, ha] at ha'; cases ha')]
      · cases e
  · cases e
