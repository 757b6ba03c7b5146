/-! ===== symbolic runs: loops ===== -/
theorem ax_rl.set1 {ρ : Nat → Nat} {c : Nat} {a v : Value} (ha : ax_rv ρ c a v) : ∀ {l m : am_L} {i : Nat}, ax_rl ρ c l m → m[i]? = some (some v) → ax_rl ρ c (l.set i (some a)) m
  | [], [], _, _, h => by cases h
  | [], _ :: _, _, hr, _ => hr.elim
  | _ :: _, [], _, hr, _ => hr.elim
  | _ :: l, _ :: m, 0, hr, h => by
    cases h
    exact And.intro ha hr.2
  | _ :: l, _ :: m, i + 1, hr, h => And.intro hr.1 (ax_rl.set1 ha (i := i) hr.2 (by simpa using h))
noncomputable def ax_gl : List (Nat × ax_R) → am_L → ax_X → Option (am_L × ax_X)
  | [], A, X => some (A, X)
  | (i, R) :: l, A, X => match am_nth A i with
    | some (some (.retAddr n)) => bif ax_sub (ax_rg X n) R then (match X with
      | (c, es, q) => am_force (c + 1) fun c' => am_force (4294967296 + c) fun m => am_setc A (some (.retAddr m)) i fun A' => ax_gl l A' (c', (0, 0, 0, R) :: es, q)) else none
    | _ => none
/-- a new name for a value that is there -/
theorem ax_nm {sh : ax_Sh} {ρ : Nat → Nat} {c : Nat} {es : List ax_N} {fc ac : List (Nat × Nat × Nat)} {h : am_H} (hx : ax_xo sh ρ (c, es, fc, ac) h) {w : Nat} {R : ax_R} (hw : ax_in w R) : ax_ag c ρ (fun i => if i = c then w else ρ i) ∧ ax_xo sh (fun i => if i = c then w else ρ i) (c + 1, (0, 0, 0, R) :: es, fc, ac) h := by
  have ha : ax_ag c ρ (fun i => if i = c then w else ρ i) := fun i hi => by
    show (if i = c then w else ρ i) = ρ i
    rw [if_neg (by omega)]
  have hl : c = es.length := hx.1
  refine ⟨ha, by show c + 1 = (_ :: es).length; rw [List.length_cons, hl], ?_, hx.2.2.1.ag ha (Nat.le_succ _), hx.2.2.2.1.ag ha (Nat.le_succ _), hx.2.2.2.2⟩
  refine ax_se.cons ?_ (hx.2.1.ag (by show ax_ag es.length _ _; rw [← hl]; exact ha))
  rw [← hl]
  refine ⟨by show ax_in (if c = c then w else ρ c) R; rw [if_pos rfl]; exact hw, fun h0 => absurd rfl h0⟩
theorem ax_gl_ok {sh : ax_Sh} {h : am_H} {L : am_L} : ∀ {ml : List (Nat × ax_R)} {ρ : Nat → Nat} {A A' : am_L} {X X' : ax_X}, ax_gl ml A X = some (A', X') → ax_rl ρ X.1 A L → ax_xo sh ρ X h → ∃ ρ', ax_ag X.1 ρ ρ' ∧ X.1 ≤ X'.1 ∧ ax_rl ρ' X'.1 A' L ∧ ax_xo sh ρ' X' h
  | [], ρ, A, A', X, X', e, hl, hx => by
    cases e
    exact ⟨ρ, ax_ag.rf, Nat.le_refl _, hl, hx⟩
  | (i, R) :: l, ρ, A, A', X, X', e, hl, hx => by
    unfold ax_gl at e
    rw [am_nth_eq] at e
    split at e
    · rename_i n hn
      obtain ⟨v, h1, h2⟩ := hl.get1 hn
      obtain ⟨n1, rfl⟩ := h2
      cases hb : ax_sub (ax_rg X n) R
      · rw [hb] at e
        cases e
      · rw [hb] at e
        have hw := ax_sub_ok hb (ax_rg_ok hx n1)
        obtain ⟨c, es, fc, ac⟩ := X
        simp only [cond_true, am_force_eq, am_setc_eq] at e
        obtain ⟨ha, hx'⟩ := ax_nm hx hw
        have hl' := ax_rl.set1 (a := .retAddr (4294967296 + c)) (v := .retAddr (ax_vl ρ n)) (i := i) (ax_rvi (ρ := fun i => if i = c then ax_vl ρ n else ρ i) (c := c + 1) (by omega) (by rw [ax_vl_i]; simp)) (hl.ag ha (Nat.le_succ c)) h1
        obtain ⟨ρ', g1, g2, g3, g4⟩ := ax_gl_ok e hl' hx'
        exact ⟨ρ', ha.tr g1 (Nat.le_succ c), Nat.le_trans (Nat.le_succ c) g2, g3, g4⟩
    · cases e
noncomputable def ax_gfd : List (Nat × Nat × ax_R) → ax_X → Option ax_X
  | [], X => some X
  | (a, k, R) :: l, X => match ax_fc X.2.2.1 a k with
    | some n => bif ax_sub (ax_rg X n) R then (match X with
      | (c, es, fc, ac) => am_force (c + 1) fun c' => am_force (4294967296 + c) fun m => ax_gfd l (c', (0, 0, 0, R) :: es, (a, k, m) :: fc.filter (ax_dfc a k), ac)) else none
    | none => none
theorem ax_gfd_ok {sh : ax_Sh} {h : am_H} : ∀ {mf : List (Nat × Nat × ax_R)} {ρ : Nat → Nat} {X X' : ax_X}, ax_gfd mf X = some X' → ax_xo sh ρ X h → ∃ ρ', ax_ag X.1 ρ ρ' ∧ X.1 ≤ X'.1 ∧ ax_xo sh ρ' X' h
  | [], ρ, X, X', e, hx => by
    cases e
    exact ⟨ρ, ax_ag.rf, Nat.le_refl _, hx⟩
  | (a, k, R) :: l, ρ, X, X', e, hx => by
    unfold ax_gfd at e
    split at e
    · rename_i n hn
      obtain ⟨n1, n2⟩ := hx.2.2.1 _ (ax_fc_ok hn)
      cases hb : ax_sub (ax_rg X n) R
      · rw [hb] at e
        cases e
      · rw [hb] at e
        have hw := ax_sub_ok hb (ax_rg_ok hx n1)
        obtain ⟨c, es, fc, ac⟩ := X
        simp only [cond_true, am_force_eq] at e
        obtain ⟨ha, hx'⟩ := ax_nm hx hw
        have hx2 : ax_xo sh (fun i => if i = c then ax_vl ρ n else ρ i) (c + 1, (0, 0, 0, R) :: es, (a, k, 4294967296 + c) :: fc.filter (ax_dfc a k), ac) h := by
          refine ⟨hx'.1, hx'.2.1, fun q hq => ?_, hx'.2.2.2⟩
          rcases List.mem_cons.mp hq with rfl | hq
          · refine ⟨by show 4294967296 + c < 4294967296 + (c + 1); omega, ?_⟩
            show ax_fv h a k = some (.retAddr (ax_vl _ (4294967296 + c)))
            rw [ax_vl_i]
            simpa using n2
          · exact hx'.2.2.1 q (List.mem_filter.mp hq).1
        obtain ⟨ρ', g1, g2, g3⟩ := ax_gfd_ok e hx2
        exact ⟨ρ', ha.tr g1 (Nat.le_succ c), Nat.le_trans (Nat.le_succ c) g2, g3⟩
    · cases e
noncomputable def ax_fgl : List Nat → am_L → (am_L → Option (am_L × ax_X)) → Option (am_L × ax_X)
  | [], A, k => k A
  | i :: l, A, k => am_setc A none i fun A' => ax_fgl l A' k
def ax_fgs : List Nat → am_L → am_L
  | [], A => A
  | i :: l, A => ax_fgs l (A.set i none)
theorem ax_fgl_eq : ∀ (l : List Nat) (A : am_L) (k : am_L → Option (am_L × ax_X)), ax_fgl l A k = k (ax_fgs l A)
  | [], _, _ => rfl
  | i :: l, A, k => by
    show am_setc A none i (fun A' => ax_fgl l A' k) = _
    rw [am_setc_eq]
    exact ax_fgl_eq l _ k
theorem ax_fgs_ok {ρ : Nat → Nat} {c : Nat} : ∀ {l : List Nat} {A L : am_L}, ax_rl ρ c A L → ax_rl ρ c (ax_fgs l A) (ax_fgs l L)
  | [], _, _, h => h
  | i :: l, A, L, h => ax_fgs_ok (l := l) (ax_rl.set (a := none) (v := none) trivial (i := i) h)
theorem ax_fgs_le : ∀ {l : List Nat} {L : am_L} (i : Nat) (v : Value), (ax_fgs l L)[i]? = some (some v) → L[i]? = some (some v)
  | [], _, _, _, h => h
  | j :: l, L, i, v, h => by
    have h1 := ax_fgs_le (l := l) i v h
    by_cases hij : i = j
    · subst hij
      have hl : i < L.length := by have := (List.getElem?_eq_some_iff.mp h1).1; simpa using this
      rw [List.getElem?_set_self hl] at h1
      cases h1
    · rwa [List.getElem?_set_ne (fun q => hij q.symm)] at h1
def ax_kf (kf : List (Nat × Nat)) (q : Nat × Nat × Nat) : Bool := match kf with
  | [] => true
  | (a, k) :: l => bif Nat.beq q.1 a && Nat.beq q.2.1 k then false else ax_kf l q
def ax_ka (ka : List Nat) (q : Nat × Nat × Nat) : Bool := match ka with
  | [] => true
  | a :: l => bif Nat.beq q.1 a then false else ax_ka l q
def ax_kil (kf : List (Nat × Nat)) (ka : List Nat) (X : ax_X) : ax_X := match X with
  | (c, es, fc, ac) => (c, es, fc.filter (ax_kf kf), ac.filter (ax_ka ka))
theorem ax_kil_ok {sh : ax_Sh} {ρ : Nat → Nat} {X : ax_X} {h : am_H} {kf : List (Nat × Nat)} {ka : List Nat} (hx : ax_xo sh ρ X h) : ax_xo sh ρ (ax_kil kf ka X) h ∧ (ax_kil kf ka X).1 = X.1 := by
  obtain ⟨c, es, fc, ac⟩ := X
  exact ⟨⟨hx.1, hx.2.1, fun q hq => hx.2.2.1 q (List.mem_filter.mp hq).1, fun q hq => hx.2.2.2.1 q (List.mem_filter.mp hq).1, hx.2.2.2.2⟩, rfl⟩
/-- numbers that change, fields that change, locals no longer looked at, fields and rows no longer known, which of the numbers measures, upwards -/
abbrev ax_Lp : Type := List (Nat × ax_R) × List (Nat × Nat × ax_R) × List Nat × List (Nat × Nat) × List Nat × Nat × Bool
noncomputable def ax_gen (lp : ax_Lp) (A : am_L) (S : List Value) (X : ax_X) : Option (am_L × ax_X) := match S with
  | [] => match ax_gl lp.1 A X with
    | some (A1, X1) => match ax_gfd lp.2.1 X1 with
      | some X2 => ax_fgl lp.2.2.1 A1 fun A2 => some (A2, ax_kil lp.2.2.2.1 lp.2.2.2.2.1 X2)
      | none => none
    | none => none
  | _ => none
theorem ax_gen_ok {sh : ax_Sh} {M : am_MI} {pc : Nat} {h : am_H} {lp : ax_Lp} {ρ : Nat → Nat} {A A' L : am_L} {S st : List Value} {X X' : ax_X} (e : ax_gen lp A S X = some (A', X')) (hl : ax_rl ρ X.1 A L) (hs : ax_rs ρ X.1 S st) (hx : ax_xo sh ρ X h) : ∃ ρ' L', ax_ag X.1 ρ ρ' ∧ X.1 ≤ X'.1 ∧ ax_rl ρ' X'.1 A' L' ∧ ax_xo sh ρ' X' h ∧ ∀ r, am_Good M pc L' [] h r → am_Good M pc L st h r := by
  unfold ax_gen at e
  split at e
  · have hst := ax_rs0 hs
    subst hst
    split at e
    · rename_i A1 X1 h1
      split at e
      · rename_i X2 h2
        rw [ax_fgl_eq] at e
        cases e
        obtain ⟨ρ1, a1, a2, a3, a4⟩ := ax_gl_ok h1 hl hx
        obtain ⟨ρ2, b1, b2, b3⟩ := ax_gfd_ok h2 a4
        obtain ⟨k1, k2⟩ := ax_kil_ok (kf := lp.2.2.2.1) (ka := lp.2.2.2.2.1) b3
        refine ⟨ρ2, ax_fgs lp.2.2.1 L, a1.tr b1 a2, by rw [k2]; omega, ?_, k1, fun r hg => g_forget ax_fgs_le hg⟩
        rw [k2]
        exact ax_fgs_ok (a3.ag b1 b2)
      · cases e
    · cases e
  · cases e
/-! more, less -/
theorem ax_bi_up {x c : Nat} (hx : x < 4294967296) (hc : c < 2147483648) (h : ax_bi x + c < 4294967296) : ax_bi ((x + c) % 4294967296) = ax_bi x + c := by
  by_cases h1 : x < 2147483648
  · rw [ax_bi_a h1] at h ⊢
    rw [Nat.mod_eq_of_lt (by omega), ax_bi_a (by omega)]
    omega
  · rw [ax_bi_b (by omega) hx] at h ⊢
    by_cases h2 : x + c < 4294967296
    · rw [Nat.mod_eq_of_lt h2, ax_bi_b (by omega) h2]
      omega
    · rw [Nat.mod_eq_sub_mod (by omega), Nat.mod_eq_of_lt (by omega), ax_bi_a (by omega)]
      omega
theorem ax_bi_dn {x : Nat} (hx : x < 4294967296) (h : 1 ≤ ax_bi x) : ax_bi ((x + 4294967295) % 4294967296) + 1 = ax_bi x := by
  by_cases h1 : x < 2147483648
  · by_cases h0 : x = 0
    · subst h0
      rfl
    · rw [Nat.mod_eq_sub_mod (by omega), Nat.mod_eq_of_lt (by omega), ax_bi_a h1, ax_bi_a (by omega)]
      omega
  · rw [ax_bi_b (by omega) hx] at h ⊢
    rw [Nat.mod_eq_sub_mod (by omega), Nat.mod_eq_of_lt (by omega), ax_bi_b (by omega) (by omega)]
    omega
noncomputable def ax_ent (X : ax_X) (n : Nat) : Option ax_N := bif Nat.blt n 4294967296 then none else am_nth X.2.1 (X.1 - 1 - (n - 4294967296))
theorem ax_ent_ok {sh : ax_Sh} {ρ : Nat → Nat} {X : ax_X} {h : am_H} (hx : ax_xo sh ρ X h) {n : Nat} (hn : n < 4294967296 + X.1) {e : ax_N} (he : ax_ent X n = some e) (h0 : e.1 ≠ 0) : e.2.1 < 4294967296 + X.1 ∧ e.2.2.1 < 4294967296 + X.1 ∧ ax_vl ρ n = ax_f e.1 (ax_vl ρ e.2.1) (ax_vl ρ e.2.2.1) := by
  unfold ax_ent at he
  cases hb : Nat.blt n 4294967296
  · rw [hb, cond_false, am_nth_eq] at he
    have hb' := ax_blt_f hb
    obtain ⟨e', he', hs⟩ := ax_id hx (by omega) hn
    rw [he] at he'
    cases he'
    obtain ⟨s1, s2, s3⟩ := hs.2 h0
    refine ⟨by omega, by omega, ?_⟩
    rw [← s3]
    unfold ax_vl
    rw [if_neg (by omega)]
  · rw [hb] at he
    cases he
noncomputable def ax_upq (X : ax_X) (g : Nat) : Nat → Nat → Bool
  | 0, _ => false
  | d + 1, v => bif Nat.blt (ax_mx (ax_rg X g)) (ax_mn (ax_rg X v)) then true else (match ax_ent X v with
    | some e => bif Nat.beq e.1 1 && ((Nat.blt 0 e.2.2.1 && Nat.blt e.2.2.1 2147483648) && Nat.blt (ax_mx (ax_rg X e.2.1) + e.2.2.1) 4294967296) then (bif Nat.beq e.2.1 g then true else ax_upq X g d e.2.1) else false
    | none => false)
theorem ax_upq_ok {sh : ax_Sh} {ρ : Nat → Nat} {X : ax_X} {h : am_H} (hx : ax_xo sh ρ X h) {g : Nat} (hg : g < 4294967296 + X.1) : ∀ {d v : Nat}, v < 4294967296 + X.1 → ax_upq X g d v = true → ax_bi (ax_vl ρ g) < ax_bi (ax_vl ρ v)
  | 0, v, hv, e => by cases e
  | d + 1, v, hv, e => by
    have rg := ax_rg_ok hx hg
    have rv := ax_rg_ok hx hv
    unfold ax_upq at e
    cases hb : Nat.blt (ax_mx (ax_rg X g)) (ax_mn (ax_rg X v))
    · rw [hb, cond_false] at e
      split at e
      · rename_i en hen
        cases hc : Nat.beq en.1 1 && ((Nat.blt 0 en.2.2.1 && Nat.blt en.2.2.1 2147483648) && Nat.blt (ax_mx (ax_rg X en.2.1) + en.2.2.1) 4294967296)
        · rw [hc] at e
          cases e
        · rw [hc, cond_true] at e
          rw [Bool.and_eq_true, Bool.and_eq_true, Bool.and_eq_true] at hc
          obtain ⟨c1, ⟨c2, c3⟩, c4⟩ := hc
          have c1' := Nat.eq_of_beq_eq_true c1
          have c2' := ax_blt_t c2
          have c3' := ax_blt_t c3
          have c4' := ax_blt_t c4
          obtain ⟨a1, a2, a3⟩ := ax_ent_ok hx hv hen (by rw [c1']; decide)
          have ra := ax_rg_ok hx a1
          have m := ax_le_mx ra.1 ra.2
          rw [c1', ax_vl_c (n := en.2.2.1) (by omega)] at a3
          have a4 : ax_bi (ax_vl ρ v) = ax_bi (ax_vl ρ en.2.1) + en.2.2.1 := by
            rw [a3]
            exact ax_bi_up ra.1 c3' (by omega)
          cases hq : Nat.beq en.2.1 g
          · rw [hq, cond_false] at e
            have := ax_upq_ok hx hg a1 e
            omega
          · rw [Nat.eq_of_beq_eq_true hq] at a4
            omega
      · cases e
    · have b := ax_blt_t hb
      have m1 := ax_le_mx rg.1 rg.2
      have m2 := ax_mn_le rv.1 rv.2
      omega
theorem ax_f2_1 (x : Nat) : ax_f 2 x 1 = (x + 4294967295) % 4294967296 := by
  rw [show ax_f 2 = am_sub from rfl]
  unfold am_sub
  rw [show 4294967296 - 1 % 4294967296 = 4294967295 from by decide]
theorem ax_f1_m (x : Nat) : ax_f 1 x 4294967295 = (x + 4294967295) % 4294967296 := by
  rw [show ax_f 1 = am_add from rfl]
  unfold am_add
  exact Eq.refl _
noncomputable def ax_dnq (X : ax_X) (g : Nat) : Nat → Nat → Bool
  | 0, _ => false
  | d + 1, v => bif Nat.blt (ax_mx (ax_rg X v)) (ax_mn (ax_rg X g)) then true else (match ax_ent X v with
    | some e => bif Nat.beq e.1 1 && (Nat.beq e.2.1 g && (Nat.beq e.2.2.1 4294967295 && Nat.ble 1 (ax_mn (ax_rg X g)))) then true else (bif Nat.beq e.1 2 && (Nat.beq e.2.1 g && (Nat.beq e.2.2.1 1 && Nat.ble 1 (ax_mn (ax_rg X g)))) then true else (bif Nat.beq e.1 4 && ax_lt (ax_rg X e.2.2.1) 2147483648 then ax_dnq X g d e.2.2.1 else (bif Nat.beq e.1 11 && (Nat.beq e.2.2.1 g && ax_all (fun r => Nat.blt 0 r.1 && Nat.blt r.2 2147483648) (ax_rg X g)) then true else (bif Nat.beq e.1 13 && (Nat.beq e.2.2.1 g && ax_all (fun r => Nat.blt 0 r.1 && Nat.blt r.2 2147483648) (ax_rg X g)) then true else false))))
    | none => false)
theorem ax_dnq_ok {sh : ax_Sh} {ρ : Nat → Nat} {X : ax_X} {h : am_H} (hx : ax_xo sh ρ X h) {g : Nat} (hg : g < 4294967296 + X.1) : ∀ {d v : Nat}, v < 4294967296 + X.1 → ax_dnq X g d v = true → ax_bi (ax_vl ρ v) < ax_bi (ax_vl ρ g)
  | 0, v, hv, e => by cases e
  | d + 1, v, hv, e => by
    have rg := ax_rg_ok hx hg
    have rv := ax_rg_ok hx hv
    have gm := ax_mn_le rg.1 rg.2
    unfold ax_dnq at e
    cases hb : Nat.blt (ax_mx (ax_rg X v)) (ax_mn (ax_rg X g))
    · rw [hb, cond_false] at e
      split at e
      · rename_i en hen
        cases hc : Nat.beq en.1 1 && (Nat.beq en.2.1 g && (Nat.beq en.2.2.1 4294967295 && Nat.ble 1 (ax_mn (ax_rg X g))))
        · rw [hc, cond_false] at e
          cases hd : Nat.beq en.1 2 && (Nat.beq en.2.1 g && (Nat.beq en.2.2.1 1 && Nat.ble 1 (ax_mn (ax_rg X g))))
          · rw [hd, cond_false] at e
            cases hf : Nat.beq en.1 4 && ax_lt (ax_rg X en.2.2.1) 2147483648
            · rw [hf, cond_false] at e
              cases hk : Nat.beq en.1 11 && (Nat.beq en.2.2.1 g && ax_all (fun r => Nat.blt 0 r.1 && Nat.blt r.2 2147483648) (ax_rg X g))
              · rw [hk, cond_false] at e
                cases hm : Nat.beq en.1 13 && (Nat.beq en.2.2.1 g && ax_all (fun r => Nat.blt 0 r.1 && Nat.blt r.2 2147483648) (ax_rg X g))
                · rw [hm] at e
                  cases e
                · rw [Bool.and_eq_true, Bool.and_eq_true] at hm
                  obtain ⟨k1, k2, k3⟩ := hm
                  have k1' := Nat.eq_of_beq_eq_true k1
                  obtain ⟨a1, a2, a3⟩ := ax_ent_ok hx hv hen (by rw [k1']; decide)
                  rw [k1', Nat.eq_of_beq_eq_true k2] at a3
                  have a4 : ax_vl ρ v = am_grmf (ax_vl ρ en.2.1) (ax_vl ρ g) := a3
                  obtain ⟨-, r, hr, r1, r2⟩ := rg
                  have k4 := ax_all_ok k3 r hr
                  rw [Bool.and_eq_true] at k4
                  have k5 := ax_blt_t k4.1
                  have k6 := ax_blt_t k4.2
                  have vl := rv.1
                  rw [ax_bi_a (x := ax_vl ρ g) (by omega)]
                  by_cases hlow : ax_vl ρ v < 2147483648
                  · have := ax_grm_lt (a := ax_vl ρ en.2.1) (b := ax_vl ρ g) (by omega) (by omega) (by rw [← a4]; exact hlow)
                    rw [← a4] at this
                    rw [ax_bi_a hlow]
                    omega
                  · rw [ax_bi_b (by omega) vl]
                    omega
              · rw [Bool.and_eq_true, Bool.and_eq_true] at hk
                obtain ⟨k1, k2, k3⟩ := hk
                have k1' := Nat.eq_of_beq_eq_true k1
                obtain ⟨a1, a2, a3⟩ := ax_ent_ok hx hv hen (by rw [k1']; decide)
                rw [k1', Nat.eq_of_beq_eq_true k2] at a3
                obtain ⟨-, r, hr, r1, r2⟩ := rg
                have k4 := ax_all_ok k3 r hr
                rw [Bool.and_eq_true] at k4
                have k5 := ax_blt_t k4.1
                have k6 := ax_blt_t k4.2
                have a4 : ax_vl ρ v < ax_vl ρ g := by
                  rw [a3]
                  exact Nat.mod_lt _ (by omega)
                rw [ax_bi_a (x := ax_vl ρ v) (by omega), ax_bi_a (x := ax_vl ρ g) (by omega)]
                omega
            · rw [hf, cond_true] at e
              rw [Bool.and_eq_true] at hf
              have f1 := Nat.eq_of_beq_eq_true hf.1
              obtain ⟨a1, a2, a3⟩ := ax_ent_ok hx hv hen (by rw [f1]; decide)
              have i := ax_dnq_ok hx hg a2 e
              have f2 := ax_lt_ok hf.2 (ax_rg_ok hx a2)
              rw [f1] at a3
              have a4 : ax_vl ρ v ≤ ax_vl ρ en.2.2.1 := by
                rw [a3]
                exact Nat.and_le_right
              rw [ax_bi_a f2] at i
              rw [ax_bi_a (x := ax_vl ρ v) (by omega)]
              omega
          · rw [Bool.and_eq_true, Bool.and_eq_true, Bool.and_eq_true] at hd
            obtain ⟨c1, c2, c3, c4⟩ := hd
            have c1' := Nat.eq_of_beq_eq_true c1
            obtain ⟨a1, a2, a3⟩ := ax_ent_ok hx hv hen (by rw [c1']; decide)
            rw [c1', Nat.eq_of_beq_eq_true c2, Nat.eq_of_beq_eq_true c3, ax_vl_c (n := 1) (by decide), ax_f2_1] at a3
            have c4' := ax_ble_t c4
            have := ax_bi_dn rg.1 (by omega)
            rw [a3]
            omega
        · rw [Bool.and_eq_true, Bool.and_eq_true, Bool.and_eq_true] at hc
          obtain ⟨c1, c2, c3, c4⟩ := hc
          have c1' := Nat.eq_of_beq_eq_true c1
          obtain ⟨a1, a2, a3⟩ := ax_ent_ok hx hv hen (by rw [c1']; decide)
          rw [c1', Nat.eq_of_beq_eq_true c2, Nat.eq_of_beq_eq_true c3, ax_vl_c (n := 4294967295) (by decide), ax_f1_m] at a3
          have c4' := ax_ble_t c4
          have := ax_bi_dn rg.1 (by omega)
          rw [a3]
          omega
      · cases e
    · have b := ax_blt_t hb
      have m1 := ax_le_mx rv.1 rv.2
      omega
