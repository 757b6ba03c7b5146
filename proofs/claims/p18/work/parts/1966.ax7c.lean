/-! ===== symbolic runs: sums with a number, tests between names ===== -/
noncomputable def ax_mk1 (X : ax_X) (op a b : Nat) (R : ax_R) (k : Nat → ax_X → Option ax_Z) : Option ax_Z := match ax_fd op a b X.2.1 0 with
  | some i => am_force (4294967296 + (X.1 - 1 - i)) fun n => k n X
  | none => ax_frc R fun R' => ax_new X op a b R' k
theorem ax_mk1_ok {sh : ax_Sh} {ρ : Nat → Nat} {X : ax_X} {h : am_H} (hx : ax_xo sh ρ X h) {op a b w : Nat} {R : ax_R} (h0 : op ≠ 0) (ha : a < 4294967296 + X.1) (hb : b < 4294967296 + X.1) (hw : w = ax_f op (ax_vl ρ a) (ax_vl ρ b)) (hR : ax_in w R) {k : Nat → ax_X → Option ax_Z} {z : ax_Z} (e : ax_mk1 X op a b R k = some z) : ∃ n X' ρ', k n X' = some z ∧ ax_ag X.1 ρ ρ' ∧ X.1 ≤ X'.1 ∧ n < 4294967296 + X'.1 ∧ ax_vl ρ' n = w ∧ ax_xo sh ρ' X' h := by
  unfold ax_mk1 at e
  cases hd : ax_fd op a b X.2.1 0 with
  | some i =>
    rw [hd] at e
    have e2 : am_force (4294967296 + (X.1 - 1 - i)) (fun n => k n X) = some z := e
    rw [am_force_eq] at e2
    obtain ⟨x, -, hxe, x1, x2, x3⟩ := ax_fd_ok hd
    rw [Nat.sub_zero] at hxe
    have hl := (List.getElem?_eq_some_iff.mp hxe).1
    have hX := hx.1
    have hs := (hx.2.1 i x hxe).2 (by rw [x1]; exact h0)
    refine ⟨_, X, ρ, e2, ax_ag.rf, Nat.le_refl _, by omega, ?_, hx⟩
    rw [ax_vl_i, hX, hs.2.2, x1, x2, x3, hw]
  | none =>
    rw [hd] at e
    have e2 : ax_frc R (fun R' => ax_new X op a b R' k) = some z := e
    rw [ax_frc_eq] at e2
    obtain ⟨n, X', ρ', n1, n2, n3, n4, n5, n6, -⟩ := ax_new_e hx hR (op := op) (a := a) (b := b) (fun _ => ⟨ha, hb, hw⟩) e2
    exact ⟨n, X', ρ', n1, n2, n3, n4, n5, n6⟩
noncomputable def ax_ad (X : ax_X) (a b : Nat) (k : Nat → ax_X → Option ax_Z) : Option ax_Z := bif Nat.blt b 4294967296 then (bif Nat.blt a 4294967296 then am_force (am_add a b) fun v => k v X else (bif Nat.beq b 0 then k a X else (match ax_bn ax_gadd (ax_rg X a) [(b, b)] with
  | none => none
  | some R => match ax_ent X a with
    | some e => bif Nat.beq e.1 1 && Nat.blt e.2.2.1 4294967296 then am_force ((e.2.2.1 + b) % 4294967296) fun d => (bif Nat.beq d 0 then k e.2.1 X else ax_mk1 X 1 e.2.1 d R k) else ax_mk1 X 1 a b R k
    | none => none))) else ax_b 1 am_add ax_gadd true X a b k
theorem ax_add3 (y d b : Nat) : am_add (am_add y d) b = am_add y ((d + b) % 4294967296) := by
  unfold am_add
  rw [Nat.mod_add_mod, Nat.add_mod_mod, Nat.add_assoc]
theorem ax_ad_ok {sh : ax_Sh} {ρ : Nat → Nat} {X : ax_X} {h : am_H} (hx : ax_xo sh ρ X h) {a b : Nat} (ha : a < 4294967296 + X.1) (hb : b < 4294967296 + X.1) {k : Nat → ax_X → Option ax_Z} {z : ax_Z} (e : ax_ad X a b k = some z) : ∃ n X' ρ', k n X' = some z ∧ ax_ag X.1 ρ ρ' ∧ X.1 ≤ X'.1 ∧ n < 4294967296 + X'.1 ∧ ax_vl ρ' n = am_add (ax_vl ρ a) (ax_vl ρ b) ∧ ax_xo sh ρ' X' h := by
  unfold ax_ad at e
  cases h1 : Nat.blt b 4294967296
  · rw [h1, cond_false] at e
    exact (ax_b_ok bk_add hx ha hb e).2
  · rw [h1, cond_true] at e
    have b1 := ax_blt_t h1
    cases h2 : Nat.blt a 4294967296
    · rw [h2, cond_false] at e
      have a1 := ax_blt_f h2
      have ra := ax_rg_ok hx ha
      rw [ax_vl_c b1]
      cases h3 : Nat.beq b 0
      · rw [h3, cond_false] at e
        split at e
        · cases e
        · rename_i R hR
          have hin := (ax_bn_ok ax_gadd_ok hR ra (ax_in_1 b1 (Nat.le_refl _) (Nat.le_refl _))).1
          split at e
          · rename_i en hen
            cases h4 : Nat.beq en.1 1 && Nat.blt en.2.2.1 4294967296
            · rw [h4, cond_false] at e
              exact ax_mk1_ok hx (by decide) ha hb (by rw [ax_vl_c b1]; rfl) hin e
            · rw [h4, cond_true, am_force_eq] at e
              rw [Bool.and_eq_true] at h4
              have o1 := Nat.eq_of_beq_eq_true h4.1
              have d1 := ax_blt_t h4.2
              obtain ⟨y1, y2, y3⟩ := ax_ent_ok hx ha hen (by rw [o1]; decide)
              rw [o1, ax_vl_c d1] at y3
              have y4 : ax_vl ρ a = am_add (ax_vl ρ en.2.1) en.2.2.1 := y3
              rw [y4, ax_add3] at hin ⊢
              have hm := Nat.mod_lt (en.2.2.1 + b) (show 0 < 4294967296 by decide)
              cases h5 : Nat.beq ((en.2.2.1 + b) % 4294967296) 0
              · rw [h5, cond_false] at e
                exact ax_mk1_ok hx (by decide) y1 (by omega) (by rw [ax_vl_c hm]; rfl) hin e
              · rw [h5, cond_true] at e
                have e0 := Nat.eq_of_beq_eq_true h5
                rw [e0]
                refine ⟨en.2.1, X, ρ, e, ax_ag.rf, Nat.le_refl _, y1, ?_, hx⟩
                unfold am_add
                rw [Nat.add_zero, Nat.mod_eq_of_lt (ax_rg_ok hx y1).1]
          · cases e
      · rw [h3, cond_true] at e
        have e0 := Nat.eq_of_beq_eq_true h3
        subst e0
        refine ⟨a, X, ρ, e, ax_ag.rf, Nat.le_refl _, ha, ?_, hx⟩
        unfold am_add
        rw [Nat.add_zero, Nat.mod_eq_of_lt ra.1]
    · rw [h2, cond_true, am_force_eq] at e
      have a1 := ax_blt_t h2
      have hm : am_add a b < 4294967296 := Nat.mod_lt _ (by decide)
      refine ⟨am_add a b, X, ρ, e, ax_ag.rf, Nat.le_refl _, by omega, ?_, hx⟩
      rw [ax_vl_c hm, ax_vl_c a1, ax_vl_c b1]
noncomputable def ax_addo (nx : Nat) : ax_Op := fun _ L st X => match st with
  | .retAddr b :: .retAddr a :: st' => ax_ad X a b fun n X' => some [.inl (nx, L, .retAddr n :: st', X')]
  | _ => none
theorem sm_addo {sh : ax_Sh} {nx : Nat} : ax_Simp sh (am_bin am_add nx) (ax_addo nx) := by
  intro aev A S X z e ρ L st h hl hs hx
  unfold ax_addo at e
  split at e
  · rename_i b a S'
    obtain ⟨v, st', rfl, h2, hs'⟩ := ax_rs1 hs
    obtain ⟨w, st2, rfl, h3, hs2⟩ := ax_rs1 hs'
    obtain ⟨b1, rfl⟩ := h2
    obtain ⟨a1, rfl⟩ := h3
    obtain ⟨n, X', ρ', e2, n2, n3, n4, n5, n6⟩ := ax_ad_ok hx a1 b1 e
    cases e2
    exact ⟨_, List.mem_cons_self, fun ev => ⟨ρ', n2, n3, L, _, h, ax_bin_o ev L _ _ _ _, hl.ag n2 n3, ax_rs.c (ax_rvi n4 n5) (hs2.ag n2 n3), n6, ax_Fr.rf⟩⟩
  · cases e
theorem bk_sub : ax_Bok 2 am_sub (fun _ _ => True) ax_gsub true := ax_Bok_t (by decide) rfl ax_gsub_ok (fun x y _ _ => Nat.mod_lt _ (by decide))
noncomputable def ax_subo (nx : Nat) : ax_Op := fun _ L st X => match st with
  | .retAddr b :: .retAddr a :: st' => bif Nat.blt b 4294967296 && Nat.ble 4294967296 a then am_force ((4294967296 - b) % 4294967296) fun c => ax_ad X a c fun n X' => some [.inl (nx, L, .retAddr n :: st', X')] else ax_b 2 am_sub ax_gsub true X a b fun n X' => some [.inl (nx, L, .retAddr n :: st', X')]
  | _ => none
theorem ax_subc {x b : Nat} (hb : b < 4294967296) : am_sub x b = am_add x ((4294967296 - b) % 4294967296) := by
  unfold am_sub am_add
  rw [Nat.mod_eq_of_lt hb, Nat.add_mod x ((4294967296 - b) % 4294967296), Nat.mod_mod, ← Nat.add_mod]
theorem sm_subo {sh : ax_Sh} {nx : Nat} : ax_Simp sh (am_bin am_sub nx) (ax_subo nx) := by
  intro aev A S X z e ρ L st h hl hs hx
  unfold ax_subo at e
  split at e
  · rename_i b a S'
    obtain ⟨v, st', rfl, h2, hs'⟩ := ax_rs1 hs
    obtain ⟨w, st2, rfl, h3, hs2⟩ := ax_rs1 hs'
    obtain ⟨b1, rfl⟩ := h2
    obtain ⟨a1, rfl⟩ := h3
    have main : ∃ n X' ρ', some [Sum.inl (nx, A, Value.retAddr n :: S', X')] = some z ∧ ax_ag X.1 ρ ρ' ∧ X.1 ≤ X'.1 ∧ n < 4294967296 + X'.1 ∧ ax_vl ρ' n = am_sub (ax_vl ρ a) (ax_vl ρ b) ∧ ax_xo sh ρ' X' h := by
      cases hc : Nat.blt b 4294967296 && Nat.ble 4294967296 a
      · rw [hc, cond_false] at e
        exact (ax_b_ok bk_sub hx a1 b1 e).2
      · rw [hc, cond_true, am_force_eq] at e
        rw [Bool.and_eq_true] at hc
        have hb := ax_blt_t hc.1
        have hm := Nat.mod_lt (4294967296 - b) (show 0 < 4294967296 by decide)
        have := ax_ad_ok hx a1 (b := (4294967296 - b) % 4294967296) (by omega) e
        rw [ax_vl_c hm, ← ax_subc hb] at this
        rw [ax_vl_c hb]
        exact this
    obtain ⟨n, X', ρ', e2, n2, n3, n4, n5, n6⟩ := main
    cases e2
    exact ⟨_, List.mem_cons_self, fun ev => ⟨ρ', n2, n3, L, _, h, ax_bin_o ev L _ _ _ _, hl.ag n2 n3, ax_rs.c (ax_rvi n4 n5) (hs2.ag n2 n3), n6, ax_Fr.rf⟩⟩
  · cases e
noncomputable def ax_inc2 (i v nx : Nat) : ax_Op := fun _ L st X => match am_nth L i with
  | some (some (.retAddr n)) => bif am_nlb L i && Nat.blt v 4294967296 then ax_ad X n v fun r X' => am_setc L (some (.retAddr r)) i fun L' => some [.inl (nx, L', st, X')] else none
  | _ => none
theorem sm_inc2 {sh : ax_Sh} {i v nx : Nat} : ax_Simp sh (am_inc i v nx) (ax_inc2 i v nx) := by
  intro aev A S X z e ρ L st h hl hs hx
  simp only [ax_inc2, am_nth_eq, am_setc_eq] at e
  split at e
  · rename_i n hn
    obtain ⟨w, h1, h2⟩ := hl.get1 hn
    obtain ⟨a1, rfl⟩ := h2
    cases hb : am_nlb A i && Nat.blt v 4294967296
    · rw [hb] at e
      cases e
    · rw [hb] at e
      rw [Bool.and_eq_true] at hb
      have hb' : am_nlb L i = true := by rw [ax_nlb hl]; exact hb.1
      have hv := ax_blt_t hb.2
      obtain ⟨n', X', ρ', e2, n2, n3, n4, n5, n6⟩ := ax_ad_ok hx a1 (b := v) (by omega) (show ax_ad X n v (fun r X' => some [.inl (nx, A.set i (some (.retAddr r)), S, X')]) = some z from e)
      cases e2
      refine ⟨_, List.mem_cons_self, fun ev => ⟨ρ', n2, n3, L.set i (some (.retAddr (am_add (ax_vl ρ n) (ax_vl ρ v)))), st, h, ?_, ax_rlset (ax_rvi n4 n5) (hl.ag n2 n3), hs.ag n2 n3, n6, ax_Fr.rf⟩⟩
      simp only [am_inc, am_nth_eq, h1, hb', cond_true, am_force_eq, am_setc_eq, ax_vl_c hv]
      rfl
  · cases e
/-! tests between names -/
noncomputable def ax_base (X : ax_X) (n : Nat) : Nat × Nat := match ax_ent X n with
  | some e => bif Nat.beq e.1 1 && (Nat.blt e.2.2.1 4294967296 && Nat.ble 4294967296 e.2.1) then (e.2.1, e.2.2.1) else (n, 0)
  | none => (n, 0)
theorem ax_base_ok {sh : ax_Sh} {ρ : Nat → Nat} {X : ax_X} {h : am_H} (hx : ax_xo sh ρ X h) {n : Nat} (hn : n < 4294967296 + X.1) (h2 : (ax_base X n).2 < 2147483648) (h3 : ax_mx (ax_rg X (ax_base X n).1) + (ax_base X n).2 < 4294967296) : (ax_base X n).1 < 4294967296 + X.1 ∧ ax_bi (ax_vl ρ n) = ax_bi (ax_vl ρ (ax_base X n).1) + (ax_base X n).2 := by
  unfold ax_base at h2 h3 ⊢
  split
  · rename_i e he
    rw [he] at h2 h3
    dsimp only at h2 h3
    cases hc : Nat.beq e.1 1 && (Nat.blt e.2.2.1 4294967296 && Nat.ble 4294967296 e.2.1)
    · rw [cond_false]
      exact ⟨hn, (Nat.add_zero _).symm⟩
    · rw [hc, cond_true] at h2 h3
      rw [cond_true]
      rw [Bool.and_eq_true, Bool.and_eq_true] at hc
      have o1 := Nat.eq_of_beq_eq_true hc.1
      obtain ⟨y1, y2, y3⟩ := ax_ent_ok hx hn he (by rw [o1]; decide)
      rw [o1, ax_vl_c (ax_blt_t hc.2.1)] at y3
      have ry := ax_rg_ok hx y1
      have m := ax_le_mx ry.1 ry.2
      dsimp only at h2 h3 ⊢
      refine ⟨y1, ?_⟩
      rw [y3]
      exact ax_bi_up ry.1 h2 (by omega)
  · exact ⟨hn, (Nat.add_zero _).symm⟩
/-- is a below b: 1, not: 0, not known: 2 -/
noncomputable def ax_cmp (X : ax_X) (a b : Nat) : Nat := match ax_base X a with
  | (p, u) => match ax_base X b with
    | (q, v) => bif (Nat.beq p q && (Nat.blt u 2147483648 && Nat.blt v 2147483648)) && (Nat.blt (ax_mx (ax_rg X p) + u) 4294967296 && Nat.blt (ax_mx (ax_rg X p) + v) 4294967296) then (bif Nat.blt u v then 1 else 0) else (match ax_fd 20 a b X.2.1 0 with
      | some i => (match am_nth X.2.1 i with
        | some e => bif ax_lt e.2.2.2 1 then 0 else (bif ax_all (fun r => Nat.blt 0 r.1) e.2.2.2 then 1 else 2)
        | none => 2)
      | none => 2)
theorem ax_cmp_ok {sh : ax_Sh} {ρ : Nat → Nat} {X : ax_X} {h : am_H} (hx : ax_xo sh ρ X h) {a b : Nat} (ha : a < 4294967296 + X.1) (hb : b < 4294967296 + X.1) : (ax_cmp X a b = 1 → am_tlt (ax_vl ρ a) (ax_vl ρ b) = true) ∧ (ax_cmp X a b = 0 → am_tlt (ax_vl ρ a) (ax_vl ρ b) = false) := by
  have lt_i : ∀ {p q : Nat}, ax_bi p < ax_bi q → am_tlt p q = true := fun h => Nat.ble_eq_true_of_le h
  have lt_n : ∀ {p q : Nat}, ax_bi q ≤ ax_bi p → am_tlt p q = false := fun {p q} h => by
    cases hq : am_tlt p q
    · rfl
    · have h' : ax_bi p < ax_bi q := ax_blt_t hq
      omega
  unfold ax_cmp
  have hA := ax_base_ok hx ha
  have hB := ax_base_ok hx hb
  generalize ax_base X a = pu at hA ⊢
  generalize ax_base X b = qv at hB ⊢
  obtain ⟨p, u⟩ := pu
  obtain ⟨q, v⟩ := qv
  dsimp only at hA hB ⊢
  cases hc : (Nat.beq p q && (Nat.blt u 2147483648 && Nat.blt v 2147483648)) && (Nat.blt (ax_mx (ax_rg X p) + u) 4294967296 && Nat.blt (ax_mx (ax_rg X p) + v) 4294967296)
  · rw [cond_false]
    split
    · rename_i i hi
      obtain ⟨e, -, hxe, x1, x2, x3⟩ := ax_fd_ok hi
      rw [Nat.sub_zero] at hxe
      rw [am_nth_eq, hxe]
      dsimp only
      have hs := hx.2.1 i e hxe
      have hv := (hs.2 (by rw [x1]; decide)).2.2
      rw [x1, x2, x3] at hv
      have hv' : ρ (X.2.1.length - 1 - i) = bif am_tlt (ax_vl ρ a) (ax_vl ρ b) then 1 else 0 := hv
      cases h1 : ax_lt e.2.2.2 1
      · rw [cond_false]
        cases h2 : ax_all (fun r => Nat.blt 0 r.1) e.2.2.2
        · rw [cond_false]
          exact ⟨fun q => absurd q (by decide), fun q => absurd q (by decide)⟩
        · rw [cond_true]
          refine ⟨fun _ => ?_, fun q => absurd q (by decide)⟩
          obtain ⟨-, r, hr, r1, r2⟩ := hs.1
          have := ax_blt_t (ax_all_ok h2 r hr)
          cases ht : am_tlt (ax_vl ρ a) (ax_vl ρ b)
          · rw [ht, cond_false] at hv'
            omega
          · rfl
      · rw [cond_true]
        refine ⟨fun q => absurd q (by decide), fun _ => ?_⟩
        have := ax_lt_ok h1 hs.1
        cases ht : am_tlt (ax_vl ρ a) (ax_vl ρ b)
        · rfl
        · rw [ht, cond_true] at hv'
          omega
    · exact ⟨fun q => absurd q (by decide), fun q => absurd q (by decide)⟩
  · rw [cond_true]
    rw [Bool.and_eq_true, Bool.and_eq_true, Bool.and_eq_true, Bool.and_eq_true] at hc
    obtain ⟨⟨c1, c2, c3⟩, c4, c5⟩ := hc
    have e1 := Nat.eq_of_beq_eq_true c1
    subst e1
    obtain ⟨-, a2⟩ := hA (ax_blt_t c2) (ax_blt_t c4)
    obtain ⟨-, b2⟩ := hB (ax_blt_t c3) (ax_blt_t c5)
    cases h1 : Nat.blt u v
    · rw [cond_false]
      have := ax_blt_f h1
      exact ⟨fun q => absurd q (by decide), fun _ => lt_n (by omega)⟩
    · rw [cond_true]
      have := ax_blt_t h1
      exact ⟨fun _ => lt_i (by omega), fun q => absurd q (by decide)⟩
theorem ax_f20 (a b : Nat) : ax_f 20 a b = bif am_tlt a b then 1 else 0 := rfl
theorem ax_tle (a b : Nat) : am_tc .le a b = !am_tlt b a := rfl
/-- a name that says which is the lesser -/
noncomputable def ax_psh2 (a b w t : Nat) (L : am_L) (st : List Value) (X : ax_X) : ax_Z := match X with
  | (c, es, q) => am_force (c + 1) fun c' => [.inl (t, L, st, (c', (20, a, b, [(w, w)]) :: es, q))]
noncomputable def ax_side2 (X : ax_X) (a b : Nat) (P : ax_R × ax_R) (w t : Nat) (L : am_L) (st : List Value) : ax_Z := match P with
  | ([], _) => []
  | (_, []) => []
  | (A, B) => ax_sr X a A fun X1 => ax_sr X1 b B (ax_psh2 a b w t L st)
theorem ax_nm2 {sh : ax_Sh} {ρ : Nat → Nat} {c : Nat} {es : List ax_N} {fc ac : List (Nat × Nat × Nat)} {h : am_H} (hx : ax_xo sh ρ (c, es, fc, ac) h) {op a b w : Nat} {R : ax_R} (hw : ax_in w R) (hf : op ≠ 0 → a < 4294967296 + c ∧ b < 4294967296 + c ∧ w = ax_f op (ax_vl ρ a) (ax_vl ρ b)) : ax_ag c ρ (fun i => if i = c then w else ρ i) ∧ ax_xo sh (fun i => if i = c then w else ρ i) (c + 1, (op, a, b, R) :: es, fc, ac) h := by
  have ha : ax_ag c ρ (fun i => if i = c then w else ρ i) := fun i hi => by
    show (if i = c then w else ρ i) = ρ i
    rw [if_neg (by omega)]
  have hl : c = es.length := hx.1
  refine ⟨ha, by show c + 1 = (_ :: es).length; rw [List.length_cons, hl], ?_, hx.2.2.1.ag ha (Nat.le_succ _), hx.2.2.2.1.ag ha (Nat.le_succ _), hx.2.2.2.2⟩
  refine ax_se.cons ?_ (hx.2.1.ag (by show ax_ag es.length _ _; rw [← hl]; exact ha))
  rw [← hl]
  refine ⟨by show ax_in (if c = c then w else ρ c) R; rw [if_pos rfl]; exact hw, fun h0 => ?_⟩
  obtain ⟨q1, q2, q3⟩ := hf h0
  refine ⟨q1, q2, ?_⟩
  show (if c = c then w else ρ c) = ax_f op (ax_vl _ a) (ax_vl _ b)
  rw [if_pos rfl, ax_vl_ag ha q1, ax_vl_ag ha q2]
  exact q3
theorem ax_side2_ok {sh : ax_Sh} {ρ : Nat → Nat} {X : ax_X} {h : am_H} (hx : ax_xo sh ρ X h) {a b w : Nat} (ha : a < 4294967296 + X.1) (hb : b < 4294967296 + X.1) {P : ax_R × ax_R} (h1 : ax_in (ax_vl ρ a) P.1) (h2 : ax_in (ax_vl ρ b) P.2) (hw : w = ax_f 20 (ax_vl ρ a) (ax_vl ρ b)) (hw2 : w < 4294967296) (t : Nat) {A L : am_L} {S st : List Value} (hl : ax_rl ρ X.1 A L) (hs : ax_rs ρ X.1 S st) : ∃ y ∈ ax_side2 X a b P w t A S, ax_nx sh ρ X.1 h (.inl (t, L, st, h)) y := by
  obtain ⟨Q, B⟩ := P
  cases Q with
  | nil => obtain ⟨_, r, hr, _⟩ := h1; cases hr
  | cons p Q => cases B with
    | nil => obtain ⟨_, r, hr, _⟩ := h2; cases hr
    | cons q B =>
      obtain ⟨X1, e1, c1, o1⟩ := ax_sr_ok hx ha h1 (fun X1 => ax_sr X1 b (q :: B) (ax_psh2 a b w t A S))
      obtain ⟨X2, e2, c2, o2⟩ := ax_sr_ok o1 (n := b) (by rw [c1]; exact hb) h2 (ax_psh2 a b w t A S)
      have e3 : ax_side2 X a b (p :: Q, q :: B) w t A S = ax_psh2 a b w t A S X2 := e1.trans e2
      rw [e3]
      obtain ⟨c, es, fc, ac⟩ := X2
      have c3 : c = X.1 := c2.trans c1
      subst c3
      obtain ⟨g1, g2⟩ := ax_nm2 o2 (op := 20) (a := a) (b := b) (w := w) (R := [(w, w)]) (ax_in_1 hw2 (Nat.le_refl _) (Nat.le_refl _)) (fun _ => ⟨ha, hb, hw⟩)
      have e4 : ax_psh2 a b w t A S (X.1, es, fc, ac) = [.inl (t, A, S, (X.1 + 1, (20, a, b, [(w, w)]) :: es, fc, ac))] := by
        unfold ax_psh2
        exact am_force_eq _ _
      rw [e4]
      exact ⟨.inl (t, A, S, (X.1 + 1, (20, a, b, [(w, w)]) :: es, fc, ac)), List.mem_cons_self, _, g1, Nat.le_succ _, L, st, h, rfl, hl.ag g1 (Nat.le_succ _), hs.ag g1 (Nat.le_succ _), g2, ax_Fr.rf⟩
noncomputable def ax_brl (X : ax_X) (a b t nx : Nat) (L : am_L) (st : List Value) : ax_Z := match ax_cmp X a b with
  | 0 => [.inl (nx, L, st, X)]
  | 1 => [.inl (t, L, st, X)]
  | _ => ax_side2 X a b (ax_rf .lt (ax_rg X a) (ax_rg X b)) 1 t L st ++ ax_side2 X a b (ax_rf .ge (ax_rg X a) (ax_rg X b)) 0 nx L st
theorem ax_brl_ok {sh : ax_Sh} {ρ : Nat → Nat} {X : ax_X} {h : am_H} (hx : ax_xo sh ρ X h) {a b : Nat} (ha : a < 4294967296 + X.1) (hb : b < 4294967296 + X.1) {t nx : Nat} {A L : am_L} {S st : List Value} (hl : ax_rl ρ X.1 A L) (hs : ax_rs ρ X.1 S st) : ∃ y ∈ ax_brl X a b t nx A S, ax_nx sh ρ X.1 h (bif am_tlt (ax_vl ρ a) (ax_vl ρ b) then .inl (t, L, st, h) else .inl (nx, L, st, h)) y := by
  obtain ⟨k1, k0⟩ := ax_cmp_ok hx ha hb
  unfold ax_brl
  split
  · rename_i h0
    rw [k0 h0]
    exact ⟨_, List.mem_cons_self, ax_st1 rfl hl hs hx⟩
  · rename_i h1
    rw [k1 h1]
    exact ⟨_, List.mem_cons_self, ax_st1 rfl hl hs hx⟩
  · cases ht : am_tlt (ax_vl ρ a) (ax_vl ρ b)
    · obtain ⟨r1, r2⟩ := ax_rf_ok (c := .ge) (ax_rg_ok hx ha) (ax_rg_ok hx hb) (by rw [ax_tge, ht]; rfl)
      obtain ⟨y, hy, hn⟩ := ax_side2_ok hx ha hb (w := 0) r1 r2 (by rw [ax_f20, ht]; rfl) (by decide) nx hl hs
      exact ⟨y, List.mem_append_right _ hy, hn⟩
    · obtain ⟨r1, r2⟩ := ax_rf_ok (c := .lt) (ax_rg_ok hx ha) (ax_rg_ok hx hb) ht
      obtain ⟨y, hy, hn⟩ := ax_side2_ok hx ha hb (w := 1) r1 r2 (by rw [ax_f20, ht]; rfl) (by decide) t hl hs
      exact ⟨y, List.mem_append_left _ hy, hn⟩
noncomputable def ax_brr (c : Jvm.ClassFile.Cond) (t nx : Nat) : ax_Op := fun _ L st X => match st with
  | .retAddr b :: .retAddr a :: st' => bif Nat.ble 4294967296 a && Nat.ble 4294967296 b then (match c with
    | .lt => some (ax_brl X a b t nx L st')
    | .ge => some (ax_brl X a b nx t L st')
    | .gt => some (ax_brl X b a t nx L st')
    | .le => some (ax_brl X b a nx t L st')
    | c => some (ax_br X c a b t nx L st')) else some (ax_br X c a b t nx L st')
  | _ => none
theorem sm_brr {sh : ax_Sh} {c : Jvm.ClassFile.Cond} {t nx : Nat} : ax_Simp sh (am_br2 c t nx) (ax_brr c t nx) := by
  intro aev A S X z e ρ L st h hl hs hx
  unfold ax_brr at e
  split at e
  · rename_i b a S'
    obtain ⟨v, st', rfl, h2, hs'⟩ := ax_rs1 hs
    obtain ⟨w, st2, rfl, h3, hs2⟩ := ax_rs1 hs'
    obtain ⟨b1, rfl⟩ := h2
    obtain ⟨a1, rfl⟩ := h3
    have old : ∃ y ∈ ax_br X c a b t nx A S', ∀ ev, ax_nx sh ρ X.1 h (am_br2 c t nx ev L (.retAddr (ax_vl ρ b) :: .retAddr (ax_vl ρ a) :: st2) h) y := by
      obtain ⟨y, hy, hn⟩ := ax_br_ok hx a1 b1 (c := c) (t := t) (nx := nx) hl hs2
      exact ⟨y, hy, fun ev => hn _ rfl⟩
    cases hc : Nat.ble 4294967296 a && Nat.ble 4294967296 b
    · rw [hc] at e
      cases e
      exact old
    · rw [hc, cond_true] at e
      cases c <;> cases e
      · exact old
      · exact old
      · obtain ⟨y, hy, hn⟩ := ax_brl_ok hx a1 b1 (t := t) (nx := nx) hl hs2
        exact ⟨y, hy, fun ev => hn⟩
      · obtain ⟨y, hy, hn⟩ := ax_brl_ok hx a1 b1 (t := nx) (nx := t) hl hs2
        refine ⟨y, hy, fun ev => ?_⟩
        have e1 : am_br2 .ge t nx ev L (.retAddr (ax_vl ρ b) :: .retAddr (ax_vl ρ a) :: st2) h = (bif am_tlt (ax_vl ρ a) (ax_vl ρ b) then .inl (nx, L, st2, h) else .inl (t, L, st2, h)) := by
          simp only [am_br2, ax_tge]
          cases am_tlt (ax_vl ρ a) (ax_vl ρ b) <;> rfl
        rw [e1]
        exact hn
      · obtain ⟨y, hy, hn⟩ := ax_brl_ok hx b1 a1 (t := t) (nx := nx) hl hs2
        exact ⟨y, hy, fun ev => hn⟩
      · obtain ⟨y, hy, hn⟩ := ax_brl_ok hx b1 a1 (t := nx) (nx := t) hl hs2
        refine ⟨y, hy, fun ev => ?_⟩
        have e1 : am_br2 .le t nx ev L (.retAddr (ax_vl ρ b) :: .retAddr (ax_vl ρ a) :: st2) h = (bif am_tlt (ax_vl ρ b) (ax_vl ρ a) then .inl (nx, L, st2, h) else .inl (t, L, st2, h)) := by
          simp only [am_br2, ax_tle]
          cases am_tlt (ax_vl ρ b) (ax_vl ρ a) <;> rfl
        rw [e1]
        exact hn
  · cases e
