/-! ===== symbolic runs: methods ===== -/
def ax_allE (p : ax_E → Bool) : List ax_E → Bool
  | [] => true
  | r :: l => bif p r then ax_allE p l else false
theorem ax_allE_ok {p : ax_E → Bool} : ∀ {R : List ax_E}, ax_allE p R = true → ∀ r ∈ R, p r = true
  | [], _, r, hr => by cases hr
  | a :: l, h, r, hr => by
    have h' : (bif p a then ax_allE p l else false) = true := h
    cases hp : p a
    · rw [hp] at h'
      cases h'
    · rw [hp] at h'
      rcases List.mem_cons.mp hr with rfl | hr
      · exact hp
      · exact ax_allE_ok h' r hr
noncomputable def ax_mX (X : ax_X) (es : List ax_E) : ax_X := match X with
  | (c, en, fc, ac) => (c, en, fc.filter (fun q => ax_allE (fun e => ax_eqo (ax_fc e.2.2.2.1 q.1 q.2.1) q.2.2) es), ac.filter (fun q => ax_allE (fun e => ax_eqo (ax_fc e.2.2.2.2 q.1 q.2.1) q.2.2) es))
theorem ax_mX_ok {sh : ax_Sh} {ρ ρ' : Nat → Nat} {X : ax_X} {h h' : am_H} {es : List ax_E} {e : ax_E} (hx : ax_xo sh ρ X h) (ha : ax_ag X.1 ρ ρ') (he : e ∈ es) (hx' : ax_xo sh ρ' e.2 h') : ax_xo sh ρ' (ax_mX X es) h' ∧ (ax_mX X es).1 = X.1 := by
  obtain ⟨c, en, fc, ac⟩ := X
  have hl : c = en.length := hx.1
  have hse : ax_se ρ' en := ax_se.ag (l := en) (by rw [← hl]; exact ha) hx.2.1
  refine ⟨⟨hx.1, hse, fun q hq => ?_, fun q hq => ?_, hx'.2.2.2.2⟩, rfl⟩
  · obtain ⟨q1, q2⟩ := List.mem_filter.mp hq
    have q3 := ax_fc_ok (ax_eqo_ok (ax_allE_ok q2 e he))
    exact ⟨(hx.2.2.1 q q1).1, (hx'.2.2.1 _ q3).2⟩
  · obtain ⟨q1, q2⟩ := List.mem_filter.mp hq
    have q3 := ax_fc_ok (ax_eqo_ok (ax_allE_ok q2 e he))
    exact ⟨(hx.2.2.2.1 q q1).1, (hx.2.2.2.1 q q1).2.1, (hx'.2.2.2.1 _ q3).2.2⟩
def ax_rn (e : ax_E) : Option Nat := match e.1 with
  | some (.retAddr n) => some n
  | _ => none
def ax_no (e : ax_E) : Bool := match e.1 with
  | none => true
  | _ => false
def ax_is (e : ax_E) : Bool := match ax_rn e with
  | some _ => true
  | none => false
noncomputable def ax_un : List ax_E → ax_R
  | [] => []
  | e :: l => (match ax_rn e with
    | some n => ax_rg e.2 n
    | none => []) ++ ax_un l
theorem ax_un_ok {e : ax_E} {n v : Nat} (hn : ax_rn e = some n) (hv : ax_in v (ax_rg e.2 n)) : ∀ {es : List ax_E}, e ∈ es → ax_in v (ax_un es)
  | [], h => by cases h
  | x :: l, h => by
    unfold ax_un
    rcases List.mem_cons.mp h with rfl | h
    · rw [hn]
      exact ax_in_l hv
    · exact ax_in_r (ax_un_ok hn hv h)
noncomputable def ax_mrg (X : ax_X) (es : List ax_E) : List ax_E := match es with
  | [] => []
  | [e] => [e]
  | e0 :: _ => bif ax_allE ax_no es then [(none, ax_mX X es)] else (bif ax_allE ax_is es then (match ax_rn e0 with
    | some n => bif Nat.blt n (4294967296 + X.1) && ax_allE (fun e => ax_eqo (ax_rn e) n) es then [(some (.retAddr n), ax_mX X es)] else ax_frc (ax_nrm (ax_un es)) fun R => ax_new (ax_mX X es) 0 0 0 R fun m X' => [(some (.retAddr m), X')]
    | none => es) else es)
theorem ax_rn_ok {e : ax_E} {n : Nat} (h : ax_rn e = some n) : e.1 = some (.retAddr n) := by
  unfold ax_rn at h
  split at h
  · rename_i m hm
    cases h
    exact hm
  · cases h
theorem ax_mrg_ok {sh : ax_Sh} {ρ : Nat → Nat} {X : ax_X} {h : am_H} {P : Option Value → am_H → Prop} (hx : ax_xo sh ρ X h) {es : List ax_E} {e : ax_E} (he : e ∈ es) (hn : ax_en sh ρ X.1 h e P) : ∃ e' ∈ ax_mrg X es, ax_en sh ρ X.1 h e' P := by
  unfold ax_mrg
  split
  · cases he
  · exact ⟨e, he, hn⟩
  · rename_i e0 rest _
    obtain ⟨ρ', a1, a2, v, h', a3, a4, a5, a6⟩ := hn
    obtain ⟨m1, m2⟩ := ax_mX_ok hx a1 he a5
    cases hb : ax_allE ax_no (e0 :: rest)
    · rw [cond_false]
      cases hc : ax_allE ax_is (e0 :: rest)
      · rw [cond_false]
        exact ⟨e, he, ρ', a1, a2, v, h', a3, a4, a5, a6⟩
      · rw [cond_true]
        have hi := ax_allE_ok hc e he
        split
        · rename_i n0 hn0
          cases hd : Nat.blt n0 (4294967296 + X.1) && ax_allE (fun e => ax_eqo (ax_rn e) n0) (e0 :: rest)
          · rw [cond_false, ax_frc_eq]
            unfold ax_is at hi
            cases hr : ax_rn e with
            | none => rw [hr] at hi; cases hi
            | some n =>
              have hr' := ax_rn_ok hr
              rw [hr'] at a4
              cases v with
              | none => exact a4.elim
              | some v =>
                have a4' : ax_rv ρ' e.2.1 (.retAddr n) v := a4
                obtain ⟨b1, rfl⟩ := a4'
                have hin := ax_in_nrm (ax_un_ok hr (ax_rg_ok a5 b1) he)
                obtain ⟨m, X', ρ2, e2, n2, n3, n4, n5, n6, -⟩ := ax_new_e m1 hin (op := 0) (a := 0) (b := 0) (fun q => absurd rfl q) (k := fun m X' => ([(some (.retAddr m), X')] : List ax_E)) rfl
                rw [m2] at n2 n3
                refine ⟨(some (.retAddr m), X'), by rw [← e2]; exact List.mem_cons_self, ρ2, a1.tr n2 (Nat.le_refl _), n3, some (.retAddr (ax_vl ρ' n)), h', a3, ax_rvi n4 n5, n6, a6⟩
          · rw [cond_true]
            rw [Bool.and_eq_true] at hd
            have d1 := ax_blt_t hd.1
            have d2 := ax_rn_ok (ax_eqo_ok (ax_allE_ok hd.2 e he))
            rw [d2] at a4
            cases v with
            | none => exact a4.elim
            | some v =>
              have a4' : ax_rv ρ' e.2.1 (.retAddr n0) v := a4
              obtain ⟨b1, rfl⟩ := a4'
              exact ⟨_, List.mem_cons_self, ρ', a1, by show X.1 ≤ (ax_mX X _).1; rw [m2]; exact Nat.le_refl _, some (.retAddr (ax_vl ρ' n0)), h', a3, ax_rvi (by rw [m2]; exact d1) rfl, m1, a6⟩
        · exact ⟨e, he, ρ', a1, a2, v, h', a3, a4, a5, a6⟩
    · rw [cond_true]
      have hi := ax_allE_ok hb e he
      obtain ⟨ev, eX⟩ := e
      cases ev with
      | some _ => cases hi
      | none => cases v with
        | some _ => exact a4.elim
        | none => exact ⟨_, List.mem_cons_self, ρ', a1, by show X.1 ≤ (ax_mX X _).1; rw [m2]; exact Nat.le_refl _, none, h', a3, trivial, m1, a6⟩
/-! what all ends say of a field -/
noncomputable def ax_uk (a k : Nat) : List ax_E → Option ax_R
  | [] => some []
  | e :: l => match ax_fc e.2.2.2.1 a k with
    | some n => match ax_uk a k l with
      | some R => some (ax_rg e.2 n ++ R)
      | none => none
    | none => none
theorem ax_uk_ok {sh : ax_Sh} {ρ : Nat → Nat} {h : am_H} {a k : Nat} {e : ax_E} (hx : ax_xo sh ρ e.2 h) : ∀ {es : List ax_E} {R : ax_R}, e ∈ es → ax_uk a k es = some R → ∃ w, ax_fv h a k = some (.retAddr w) ∧ ax_in w R
  | [], R, he, _ => by cases he
  | x :: l, R, he, q => by
    unfold ax_uk at q
    split at q
    · rename_i n hn
      split at q
      · rename_i R' hR'
        cases q
        rcases List.mem_cons.mp he with rfl | he
        · obtain ⟨n1, n2⟩ := hx.2.2.1 _ (ax_fc_ok hn)
          exact ⟨_, n2, ax_in_l (ax_rg_ok hx n1)⟩
        · obtain ⟨w, w1, w2⟩ := ax_uk_ok hx he hR'
          exact ⟨w, w1, ax_in_r w2⟩
      · cases q
    · cases q
noncomputable def ax_jk (es : List ax_E) : List (Nat × Nat) → ax_X → (ax_X → List ax_E) → List ax_E
  | [], X, f => f X
  | (a, k) :: l, X, f => match ax_uk a k es with
    | some R => ax_frc (ax_nrm R) fun R' => (match X with
      | (c, en, fc, ac) => am_force (c + 1) fun c' => am_force (4294967296 + c) fun n => ax_jk es l (c', (0, 0, 0, R') :: en, (a, k, n) :: fc.filter (ax_dfc a k), ac) f)
    | none => ax_jk es l X f
theorem ax_jk_ok {sh : ax_Sh} {h : am_H} {es : List ax_E} {e : ax_E} (he : e ∈ es) {ρe : Nat → Nat} (hxe : ax_xo sh ρe e.2 h) : ∀ {ks : List (Nat × Nat)} {X : ax_X} {ρ : Nat → Nat} (f : ax_X → List ax_E), ax_xo sh ρ X h → ∃ X' ρ', ax_jk es ks X f = f X' ∧ ax_ag X.1 ρ ρ' ∧ X.1 ≤ X'.1 ∧ ax_xo sh ρ' X' h
  | [], X, ρ, f, hx => ⟨X, ρ, rfl, ax_ag.rf, Nat.le_refl _, hx⟩
  | (a, k) :: l, X, ρ, f, hx => by
    unfold ax_jk
    split
    · rename_i R hR
      obtain ⟨w, w1, w2⟩ := ax_uk_ok hxe he hR
      obtain ⟨c, en, fc, ac⟩ := X
      obtain ⟨g1, g2⟩ := ax_nm hx (ax_in_nrm w2)
      have hx2 : ax_xo sh (fun i => if i = c then w else ρ i) (c + 1, (0, 0, 0, ax_nrm R) :: en, (a, k, 4294967296 + c) :: fc.filter (ax_dfc a k), ac) h := by
        refine ⟨g2.1, g2.2.1, fun q hq => ?_, g2.2.2.2⟩
        rcases List.mem_cons.mp hq with rfl | hq
        · refine ⟨by show 4294967296 + c < 4294967296 + (c + 1); omega, ?_⟩
          show ax_fv h a k = some (.retAddr (ax_vl _ (4294967296 + c)))
          rw [ax_vl_i]
          simpa using w1
        · exact g2.2.2.1 q (List.mem_filter.mp hq).1
      obtain ⟨X', ρ', j1, j2, j3, j4⟩ := ax_jk_ok he hxe (ks := l) f hx2
      refine ⟨X', ρ', ?_, g1.tr j2 (Nat.le_succ c), Nat.le_trans (Nat.le_succ c) j3, j4⟩
      simp only [ax_frc_eq, am_force_eq]
      exact j1
    · exact ax_jk_ok he hxe (ks := l) f hx
noncomputable def ax_mrg2 (ks : List (Nat × Nat)) (X : ax_X) (es : List ax_E) : List ax_E := match ax_mrg X es with
  | [e'] => ax_jk es ks e'.2 fun X' => [(e'.1, X')]
  | r => r
theorem ax_mrg2_ok {sh : ax_Sh} {ρ : Nat → Nat} {X : ax_X} {h : am_H} {P : Option Value → am_H → Prop} {ks : List (Nat × Nat)} (hx : ax_xo sh ρ X h) {es : List ax_E} {e : ax_E} (he : e ∈ es) (hn : ax_en sh ρ X.1 h e P) : ∃ e' ∈ ax_mrg2 ks X es, ax_en sh ρ X.1 h e' P := by
  have hn2 : ax_en sh ρ X.1 h e (fun v h' => P v h' ∧ ∃ ρe, ax_xo sh ρe e.2 h') := by
    obtain ⟨ρ', a1, a2, v, h', a3, a4, a5, a6⟩ := hn
    exact ⟨ρ', a1, a2, v, h', ⟨a3, ρ', a5⟩, a4, a5, a6⟩
  obtain ⟨e', he', hn'⟩ := ax_mrg_ok hx he hn2
  unfold ax_mrg2
  split
  · rename_i x hx1
    rw [hx1] at he'
    have := List.mem_singleton.mp he'
    subst this
    obtain ⟨ρ', a1, a2, v, h', ⟨a3, ρe, a3e⟩, a4, a5, a6⟩ := hn'
    obtain ⟨X', ρ2, j1, j2, j3, j4⟩ := ax_jk_ok he a3e (ks := ks) (fun X' => [(e'.1, X')]) a5
    rw [j1]
    exact ⟨(e'.1, X'), List.mem_cons_self, ρ2, a1.tr j2 a2, Nat.le_trans a2 j3, v, h', a3, a4.ag j2 j3, j4, a6⟩
  · obtain ⟨ρ', a1, a2, v, h', a3, a4⟩ := hn'
    exact ⟨e', he', ρ', a1, a2, v, h', a3.1, a4⟩
abbrev ax_Mt : Type := Nat × ax_Cd × List (Nat × ax_Lp) × Bool × List (Nat × Nat)
noncomputable def ax_ev1 (tab : List (List ax_Mt)) (ev : ax_Ev) : ax_Ev := fun j as X => match am_nth tab (j / 16) with
  | some b => match am_nth b (j % 16) with
    | some (nL, code, lps, mg, ks) => bif am_all1 as && Nat.ble as.length nL then (match ax_go code lps ev 1000 [] (0, am_init as (nL - as.length), [], X) with
      | some es => some (bif mg then ax_mrg2 ks X es else es)
      | none => none) else none
    | none => none
  | none => none
noncomputable def ax_evd (tab : List (List ax_Mt)) (d : Nat) : ax_Ev := Nat.rec (motive := fun _ => ax_Ev) (fun _ _ _ => none) (fun _ ih => ax_ev1 tab ih) d
def ax_TbOk (sh : ax_Sh) (tab : List (List ax_Mt)) : Prop := ∀ j nL code lps mg, ((tab[j / 16]?).bind (fun b => b[j % 16]?)) = some (nL, code, lps, mg) → nL = (am_mi j).2.2.1 ∧ plainName (am_mi j).1.cls = true ∧ ∃ cc, am_rows (am_mi j) 0 cc ∧ ax_prows sh cc code
theorem ax_init_r {ρ : Nat → Nat} {c pad : Nat} : ∀ {as vs : List Value}, ax_rs ρ c as vs → ax_rl ρ c (am_init as pad) (am_init vs pad)
  | [], [], _ => by
    rw [am_init_eq]
    induction pad with
    | zero => trivial
    | succ n ih => exact And.intro trivial ih
  | [], _ :: _, h => h.elim
  | _ :: _, [], h => h.elim
  | a :: as, v :: vs, h => And.intro h.1 (ax_init_r (as := as) (vs := vs) h.2)
theorem ax_all1_r {ρ : Nat → Nat} {c : Nat} : ∀ {as vs : List Value}, ax_rs ρ c as vs → am_all1 vs = am_all1 as ∧ vs.length = as.length
  | [], [], _ => ⟨rfl, rfl⟩
  | [], _ :: _, h => h.elim
  | _ :: _, [], h => h.elim
  | a :: as, v :: vs, h => by
    obtain ⟨i1, i2⟩ := ax_all1_r (as := as) (vs := vs) h.2
    refine ⟨?_, by simp [i2]⟩
    show (bif am_c1 v then am_all1 vs else false) = (bif am_c1 a then am_all1 as else false)
    rw [ax_c1 h.1, i1]
theorem ax_ev1_ok {sh : ax_Sh} {tab : List (List ax_Mt)} (hT : ax_TbOk sh tab) {ev : ax_Ev} (hev : ax_EvOk sh ev) : ax_EvOk sh (ax_ev1 tab ev) := by
  intro j as X fs e ρ vs h hr hx
  unfold ax_ev1 at e
  rw [am_nth_eq] at e
  split at e
  · rename_i b hb
    rw [am_nth_eq] at e
    split at e
    · rename_i nL code lps mg ks hm
      obtain ⟨t1, t2, cc, t3, t4⟩ := hT j nL code lps (mg, ks) (by rw [hb]; exact hm)
      cases ha : am_all1 as && Nat.ble as.length nL
      · rw [ha] at e
        cases e
      · rw [ha, cond_true] at e
        rw [Bool.and_eq_true] at ha
        split at e
        · rename_i es hes
          cases e
          obtain ⟨r1, r2⟩ := ax_all1_r hr
          have hW := ax_go_ok t3 t4 hev lps 1000 [] (0, am_init as (nL - as.length), [], X) es hes ρ (am_init vs (nL - as.length)) [] h (ax_init_r hr) trivial hx (fun a q => by cases q)
          rcases hW with ⟨en, he, hn⟩ | ⟨a, q, _⟩
          · have hn' : ax_en sh ρ X.1 h en (fun v h' => am_EG (am_mi j) vs h (v, h')) := hn.bk ax_ag.rf (Nat.le_refl _) ax_Fr.rf (fun v h' hg => by
              have hg' : am_Good (am_mi j) 0 (am_init vs (nL - as.length)) [] h (v, h') := hg
              rw [am_init_eq] at hg'
              exact am_enter t2 (am_all1_ok (by rw [r1]; exact ha.1)) (by rw [← t1, r2]; exact ax_ble_t ha.2) hg')
            cases mg
            · exact ⟨en, he, hn'⟩
            · exact ax_mrg2_ok hx he hn'
          · cases q
        · cases e
    · cases e
  · cases e
theorem ax_evd_ok {sh : ax_Sh} {tab : List (List ax_Mt)} (hT : ax_TbOk sh tab) (d : Nat) : ax_EvOk sh (ax_evd tab d) := by
  induction d with
  | zero => exact fun j as X fs e => by cases e
  | succ d ih => exact ax_ev1_ok hT ih
def ax_x0 (k : Nat) : ax_X := (k, List.replicate k (0, 0, 0, ax_top), [], [])
theorem ax_x0_ok {sh : ax_Sh} {k : Nat} {h : am_H} {ρ : Nat → Nat} (hρ : ∀ i, ρ i < 4294967296) (hI : ax_I sh h) : ax_xo sh ρ (ax_x0 k) h := by
  refine ⟨by simp [ax_x0], fun i e he => ?_, fun q hq => (by cases hq), fun q hq => (by cases hq), hI⟩
  have he' : e = (0, 0, 0, ax_top) := by
    have he0 : (List.replicate k ((0, 0, 0, ax_top) : ax_N))[i]? = some e := he
    have := List.mem_of_getElem? he0
    exact List.eq_of_mem_replicate this
  subst he'
  exact ⟨ax_in_top (hρ _), fun q => absurd rfl q⟩
/-- a method comes to its end, whatever numbers it is given, and keeps what is known of the heap -/
def ax_Con (sh : ax_Sh) (j : Nat) (vs : List Value) : Prop := ∀ h, ax_I sh h → ∃ v h', am_EG (am_mi j) vs h (v, h') ∧ ax_I sh h' ∧ ax_Fr sh h h'
theorem ax_con {sh : ax_Sh} {tab : List (List ax_Mt)} (hT : ax_TbOk sh tab) {d j k : Nat} {as vs : List Value} (e : (ax_evd tab d j as (ax_x0 k)).isSome = true) (ρ : Nat → Nat) (hρ : ∀ i, ρ i < 4294967296) (hr : ax_rs ρ k as vs) : ax_Con sh j vs := by
  intro h hI
  cases hf : ax_evd tab d j as (ax_x0 k) with
  | none => rw [hf] at e; cases e
  | some fs =>
    obtain ⟨en, -, ρ', -, -, v, h', q1, -, q3, q4⟩ := ax_evd_ok hT d j as (ax_x0 k) fs hf ρ vs h hr (ax_x0_ok hρ hI)
    exact ⟨v, h', q1, q3.2.2.2.2, q4⟩
/-! rows of tables -/
theorem ax_pz {sh : ax_Sh} {a : List (Option am_Op)} : ax_prow sh a [] := by cases a <;> trivial
theorem ax_pn {sh : ax_Sh} {x : Option am_Op} {a : List (Option am_Op)} {b : List (Option ax_Op)} (h : ax_prow sh a b) : ax_prow sh (x :: a) (none :: b) := by cases x <;> exact h
theorem ax_ps {sh : ax_Sh} {op : am_Op} {ao : ax_Op} {a : List (Option am_Op)} {b : List (Option ax_Op)} (h1 : ax_Sim sh op ao) (h : ax_prow sh a b) : ax_prow sh (some op :: a) (some ao :: b) := And.intro h1 h
theorem ax_pp1 {sh : ax_Sh} {op : am_Op} {ao : ax_Op} {a : List (Option am_Op)} {b : List (Option ax_Op)} (h1 : ax_Simp sh op ao) (h : ax_prow sh a b) : ax_prow sh (some op :: a) (some ao :: b) := And.intro h1.s h
theorem ax_rz {sh : ax_Sh} {a : am_Cd} : ax_prows sh a [] := by cases a <;> trivial
theorem ax_rs_ {sh : ax_Sh} {x : List (Option am_Op)} {y : List (Option ax_Op)} {a : am_Cd} {b : ax_Cd} (h1 : ax_prow sh x y) (h : ax_prows sh a b) : ax_prows sh (x :: a) (y :: b) := And.intro h1 h
