/-! ===== symbolic runs: tests ===== -/
noncomputable def ax_side (X : ax_X) (a b : Nat) (P : ax_R × ax_R) (t : Nat) (L : am_L) (st : List Value) : ax_Z := match P with
  | ([], _) => []
  | (_, []) => []
  | (A, B) => ax_sr X a A fun X1 => ax_sr X1 b B fun X2 => [.inl (t, L, st, X2)]
theorem ax_side_ok {sh : ax_Sh} {ρ : Nat → Nat} {X : ax_X} {h : am_H} (hx : ax_xo sh ρ X h) {a b : Nat} (ha : a < 4294967296 + X.1) (hb : b < 4294967296 + X.1) {P : ax_R × ax_R} (h1 : ax_in (ax_vl ρ a) P.1) (h2 : ax_in (ax_vl ρ b) P.2) (t : Nat) (L : am_L) (st : List Value) : ∃ X2, Sum.inl (t, L, st, X2) ∈ ax_side X a b P t L st ∧ X2.1 = X.1 ∧ ax_xo sh ρ X2 h := by
  obtain ⟨A, B⟩ := P
  cases A with
  | nil => obtain ⟨_, r, hr, _⟩ := h1; cases hr
  | cons p A => cases B with
    | nil => obtain ⟨_, r, hr, _⟩ := h2; cases hr
    | cons q B =>
      show ∃ X2, Sum.inl (t, L, st, X2) ∈ (ax_sr X a (p :: A) fun X1 => ax_sr X1 b (q :: B) fun X2 => ([.inl (t, L, st, X2)] : ax_Z)) ∧ _
      obtain ⟨X1, e1, c1, o1⟩ := ax_sr_ok hx ha h1 (fun X1 => ax_sr X1 b (q :: B) fun X2 => ([.inl (t, L, st, X2)] : ax_Z))
      rw [e1]
      obtain ⟨X2, e2, c2, o2⟩ := ax_sr_ok o1 (n := b) (by rw [c1]; exact hb) h2 (fun X2 => ([.inl (t, L, st, X2)] : ax_Z))
      rw [e2]
      exact ⟨X2, List.mem_cons_self, by rw [c2, c1], o2⟩
noncomputable def ax_br (X : ax_X) (c : Jvm.ClassFile.Cond) (a b t nx : Nat) (L : am_L) (st : List Value) : ax_Z := ax_side X a b (ax_rf c (ax_rg X a) (ax_rg X b)) t L st ++ ax_side X a b (ax_rf (ax_ng c) (ax_rg X a) (ax_rg X b)) nx L st
theorem ax_br_ok {sh : ax_Sh} {ρ : Nat → Nat} {X : ax_X} {h : am_H} (hx : ax_xo sh ρ X h) {a b : Nat} (ha : a < 4294967296 + X.1) (hb : b < 4294967296 + X.1) {c : Jvm.ClassFile.Cond} {t nx : Nat} {A L : am_L} {S st : List Value} (hl : ax_rl ρ X.1 A L) (hs : ax_rs ρ X.1 S st) : ∃ y ∈ ax_br X c a b t nx A S, ∀ z : am_Z, z = (bif am_tc c (ax_vl ρ a) (ax_vl ρ b) then .inl (t, L, st, h) else .inl (nx, L, st, h)) → ax_nx sh ρ X.1 h z y := by
  unfold ax_br
  cases hc : am_tc c (ax_vl ρ a) (ax_vl ρ b)
  · have hc' : am_tc (ax_ng c) (ax_vl ρ a) (ax_vl ρ b) = true := by rw [ax_ng_ok, hc]; rfl
    obtain ⟨r1, r2⟩ := ax_rf_ok (ax_rg_ok hx ha) (ax_rg_ok hx hb) hc'
    obtain ⟨X2, m, c2, o2⟩ := ax_side_ok hx ha hb r1 r2 nx A S
    refine ⟨_, List.mem_append_right _ m, fun z hz => ⟨ρ, ax_ag.rf, by rw [c2]; exact Nat.le_refl _, L, st, h, hz, ?_, ?_, o2, ax_Fr.rf⟩⟩
    · rw [c2]; exact hl
    · rw [c2]; exact hs
  · obtain ⟨r1, r2⟩ := ax_rf_ok (ax_rg_ok hx ha) (ax_rg_ok hx hb) hc
    obtain ⟨X2, m, c2, o2⟩ := ax_side_ok hx ha hb r1 r2 t A S
    refine ⟨_, List.mem_append_left _ m, fun z hz => ⟨ρ, ax_ag.rf, by rw [c2]; exact Nat.le_refl _, L, st, h, hz, ?_, ?_, o2, ax_Fr.rf⟩⟩
    · rw [c2]; exact hl
    · rw [c2]; exact hs
noncomputable def ax_br2 (c : Jvm.ClassFile.Cond) (t nx : Nat) : ax_Op := fun _ L st X => match st with
  | .retAddr b :: .retAddr a :: st' => some (ax_br X c a b t nx L st')
  | _ => none
theorem sm_br2 {sh : ax_Sh} {c : Jvm.ClassFile.Cond} {t nx : Nat} : ax_Simp sh (am_br2 c t nx) (ax_br2 c t nx) := by
  intro aev A S X z e ρ L st h hl hs hx
  unfold ax_br2 at e
  split at e
  · rename_i b a S'
    obtain ⟨v, st', rfl, h2, hs'⟩ := ax_rs1 hs
    obtain ⟨w, st2, rfl, h3, hs2⟩ := ax_rs1 hs'
    obtain ⟨b1, rfl⟩ := h2
    obtain ⟨a1, rfl⟩ := h3
    cases e
    obtain ⟨y, hy, hn⟩ := ax_br_ok hx a1 b1 (c := c) (t := t) (nx := nx) hl hs2
    exact ⟨y, hy, fun ev => hn _ rfl⟩
  · cases e
noncomputable def ax_br1 (c : Jvm.ClassFile.Cond) (t nx : Nat) : ax_Op := fun _ L st X => match st with
  | .retAddr a :: st' => some (ax_br X c a 0 t nx L st')
  | _ => none
theorem sm_br1 {sh : ax_Sh} {c : Jvm.ClassFile.Cond} {t nx : Nat} : ax_Simp sh (am_br1 c t nx) (ax_br1 c t nx) := by
  intro aev A S X z e ρ L st h hl hs hx
  unfold ax_br1 at e
  split at e
  · rename_i a S'
    obtain ⟨v, st', rfl, h2, hs'⟩ := ax_rs1 hs
    obtain ⟨b1, rfl⟩ := h2
    cases e
    obtain ⟨y, hy, hn⟩ := ax_br_ok hx b1 (b := 0) (by omega) (c := c) (t := t) (nx := nx) hl hs'
    refine ⟨y, hy, fun ev => hn _ ?_⟩
    rw [ax_vl_c (n := 0) (by decide)]
    rfl
  · cases e
noncomputable def ax_s1x (X : ax_X) (a : Nat) (A : ax_R) (t : Nat) (L : am_L) (st : List Value) (l : ax_Z) : ax_Z := match A with
  | [] => l
  | _ => ax_sr X a A fun X1 => .inl (t, L, st, X1) :: l
theorem ax_s1x_l {X : ax_X} {a : Nat} {A : ax_R} {t : Nat} {L : am_L} {st : List Value} {l : ax_Z} {y : ax_S ⊕ ax_E} (h : y ∈ l) : y ∈ ax_s1x X a A t L st l := by
  unfold ax_s1x
  split
  · exact h
  · obtain ⟨c, es, q⟩ := X
    unfold ax_sr
    cases Nat.blt a 4294967296
    · simp only [cond_false]
      split
      · rw [ax_frc_eq, am_setc_eq]
        exact List.mem_cons_of_mem _ h
      · exact List.mem_cons_of_mem _ h
    · exact List.mem_cons_of_mem _ h
theorem ax_s1x_h {sh : ax_Sh} {ρ : Nat → Nat} {X : ax_X} {h : am_H} (hx : ax_xo sh ρ X h) {a : Nat} (ha : a < 4294967296 + X.1) {A : ax_R} (h1 : ax_in (ax_vl ρ a) A) (t : Nat) (L : am_L) (st : List Value) (l : ax_Z) : ∃ X2, Sum.inl (t, L, st, X2) ∈ ax_s1x X a A t L st l ∧ X2.1 = X.1 ∧ ax_xo sh ρ X2 h := by
  cases A with
  | nil => obtain ⟨_, r, hr, _⟩ := h1; cases hr
  | cons p A =>
    show ∃ X2, Sum.inl (t, L, st, X2) ∈ (ax_sr X a (p :: A) fun X1 => (.inl (t, L, st, X1) :: l : ax_Z)) ∧ _
    obtain ⟨X1, e1, c1, o1⟩ := ax_sr_ok hx ha h1 (fun X1 => (.inl (t, L, st, X1) :: l : ax_Z))
    rw [e1]
    exact ⟨X1, List.mem_cons_self, c1, o1⟩
noncomputable def ax_tw (X : ax_X) (a d : Nat) (L : am_L) (st : List Value) : List Nat → Nat → ax_R → ax_Z
  | [], _, A => ax_s1x X a A d L st []
  | t :: ts, v, A => ax_s1x X a (ax_isec A [(v, v)]) t L st (ax_tw X a d L st ts (v + 1) (ax_rm A [(v, v)]))
theorem ax_tw_ok {sh : ax_Sh} {ρ : Nat → Nat} {X : ax_X} {h : am_H} (hx : ax_xo sh ρ X h) {a d : Nat} (ha : a < 4294967296 + X.1) (L : am_L) (st : List Value) : ∀ (ts : List Nat) (v : Nat) (A : ax_R), ax_in (ax_vl ρ a) A → v + ts.length ≤ 4294967296 → ∃ t X2, Sum.inl (t, L, st, X2) ∈ ax_tw X a d L st ts v A ∧ X2.1 = X.1 ∧ ax_xo sh ρ X2 h ∧ ((∃ i, ax_vl ρ a = v + i ∧ ts[i]? = some t) ∨ ((ax_vl ρ a < v ∨ v + ts.length ≤ ax_vl ρ a) ∧ t = d))
  | [], v, A, hA, _ => by
    obtain ⟨X2, m, c, o⟩ := ax_s1x_h hx ha hA d L st []
    exact ⟨d, X2, m, c, o, Or.inr ⟨by simp; omega, rfl⟩⟩
  | t :: ts, v, A, hA, hv => by
    by_cases he : ax_vl ρ a = v
    · have hv1 : ax_in (ax_vl ρ a) [(v, v)] := ax_in_1 hA.1 (by omega) (by omega)
      obtain ⟨X2, m, c, o⟩ := ax_s1x_h hx ha (ax_in_isec hA hv1) t L st (ax_tw X a d L st ts (v + 1) (ax_rm A [(v, v)]))
      exact ⟨t, X2, m, c, o, Or.inl ⟨0, by omega, rfl⟩⟩
    · have hlen : (t :: ts).length = ts.length + 1 := rfl
      have hv1 : ax_in v [(v, v)] := ax_in_1 (by omega) (Nat.le_refl _) (Nat.le_refl _)
      obtain ⟨t', X2, m, c, o, q⟩ := ax_tw_ok hx ha L st ts (v + 1) (ax_rm A [(v, v)]) (ax_in_rm hA hv1 he) (by omega)
      refine ⟨t', X2, ax_s1x_l m, c, o, ?_⟩
      rcases q with ⟨i, q1, q2⟩ | ⟨q1, q2⟩
      · exact Or.inl ⟨i + 1, by omega, by simpa using q2⟩
      · refine Or.inr ⟨?_, q2⟩
        rw [hlen]
        omega
noncomputable def ax_tsw (lo : Nat) (ts : List Nat) (d : Nat) : ax_Op := fun _ L st X => match st with
  | .retAddr a :: st' => bif Nat.ble (lo + ts.length) 4294967296 then some (ax_tw X a d L st' ts lo (ax_rg X a)) else none
  | _ => none
theorem sm_tsw {sh : ax_Sh} {lo : Nat} {ts : List Nat} {d : Nat} : ax_Simp sh (am_tsw lo ts d) (ax_tsw lo ts d) := by
  intro aev A S X z e ρ L st h hl hs hx
  unfold ax_tsw at e
  split at e
  · rename_i a S'
    obtain ⟨v, st', rfl, h2, hs'⟩ := ax_rs1 hs
    obtain ⟨b1, rfl⟩ := h2
    cases hb : Nat.ble (lo + ts.length) 4294967296
    · rw [hb] at e
      cases e
    · rw [hb] at e
      cases e
      have hA := ax_rg_ok hx b1
      obtain ⟨t, X2, m, c2, o2, q⟩ := ax_tw_ok hx b1 (d := d) A S' ts lo (ax_rg X a) hA (ax_ble_t hb)
      refine ⟨_, m, fun ev => ⟨ρ, ax_ag.rf, by rw [c2]; exact Nat.le_refl _, L, st', h, ?_, by rw [c2]; exact hl, by rw [c2]; exact hs', o2, ax_Fr.rf⟩⟩
      simp only [am_tsw, am_nth_eq]
      rcases q with ⟨i, q1, q2⟩ | ⟨q1, q2⟩
      · have hlt : Nat.blt (ax_vl ρ a) lo = false := by
          cases hq : Nat.blt (ax_vl ρ a) lo
          · rfl
          · have := ax_blt_t hq
            omega
        rw [hlt, cond_false, show ax_vl ρ a - lo = i by omega, q2]
      · subst q2
        rcases q1 with q1 | q1
        · rw [show Nat.blt (ax_vl ρ a) lo = true from Nat.ble_eq_true_of_le q1, cond_true]
        · have hlt : Nat.blt (ax_vl ρ a) lo = false := by
            cases hq : Nat.blt (ax_vl ρ a) lo
            · rfl
            · have := ax_blt_t hq
              omega
          have hnone : ts[ax_vl ρ a - lo]? = none := List.getElem?_eq_none (by omega)
          rw [hlt, cond_false, hnone, show Nat.blt (ax_vl ρ a) 4294967296 = true from Nat.ble_eq_true_of_le hA.1]
          rfl
  · cases e
noncomputable def ax_lsw (t0 t1 d : Nat) : ax_Op := fun _ L st X => match st with
  | .retAddr a :: st' => some (ax_tw X a d L st' [t0, t1] 0 (ax_rg X a))
  | _ => none
theorem sm_lsw {sh : ax_Sh} {t0 t1 d : Nat} : ax_Simp sh (am_lsw t0 t1 d) (ax_lsw t0 t1 d) := by
  intro aev A S X z e ρ L st h hl hs hx
  unfold ax_lsw at e
  split at e
  · rename_i a S'
    obtain ⟨v, st', rfl, h2, hs'⟩ := ax_rs1 hs
    obtain ⟨b1, rfl⟩ := h2
    cases e
    have hA := ax_rg_ok hx b1
    obtain ⟨t, X2, m, c2, o2, q⟩ := ax_tw_ok hx b1 (d := d) A S' [t0, t1] 0 (ax_rg X a) hA (by simp)
    refine ⟨_, m, fun ev => ⟨ρ, ax_ag.rf, by rw [c2]; exact Nat.le_refl _, L, st', h, ?_, by rw [c2]; exact hl, by rw [c2]; exact hs', o2, ax_Fr.rf⟩⟩
    simp only [am_lsw]
    rcases q with ⟨i, q1, q2⟩ | ⟨q1, q2⟩
    · match i, q2 with
      | 0, q2 =>
        cases q2
        rw [q1]
        rfl
      | 1, q2 =>
        cases q2
        rw [q1]
        rfl
      | i + 2, q2 => simp at q2
    · subst q2
      have q3 : 2 ≤ ax_vl ρ a := by
        rcases q1 with q1 | q1
        · omega
        · simpa using q1
      have e0 : Nat.beq (ax_vl ρ a) 0 = false := by
        cases hq : Nat.beq (ax_vl ρ a) 0
        · rfl
        · have := Nat.eq_of_beq_eq_true hq
          omega
      have e1 : Nat.beq (ax_vl ρ a) 1 = false := by
        cases hq : Nat.beq (ax_vl ρ a) 1
        · rfl
        · have := Nat.eq_of_beq_eq_true hq
          omega
      rw [e0, e1, cond_false, cond_false, show Nat.blt (ax_vl ρ a) 4294967296 = true from Nat.ble_eq_true_of_le hA.1, cond_true]
  · cases e
/-! returns -/
def ax_iret : ax_Op := fun _ _ st X => match st with
  | [.retAddr n] => some [.inr (some (.retAddr n), X)]
  | _ => none
theorem sm_iret {sh : ax_Sh} : ax_Simp sh am_iret ax_iret := by
  intro aev A S X z e ρ L st h hl hs hx
  unfold ax_iret at e
  split at e
  · obtain ⟨v, st', rfl, h2, hs'⟩ := ax_rs1 hs
    have hst := ax_rs0 hs'
    subst hst
    have h2' := h2
    obtain ⟨b1, rfl⟩ := h2'
    cases e
    exact ⟨_, List.mem_cons_self, fun ev => ⟨ρ, ax_ag.rf, Nat.le_refl _, _, h, rfl, h2, hx, ax_Fr.rf⟩⟩
  · cases e
noncomputable def ax_zret : ax_Op := fun _ _ st X => match st with
  | [.retAddr n] => bif ax_lt (ax_rg X n) 2 then some [.inr (some (.retAddr n), X)] else none
  | _ => none
theorem sm_zret {sh : ax_Sh} : ax_Simp sh am_zret ax_zret := by
  intro aev A S X z e ρ L st h hl hs hx
  unfold ax_zret at e
  split at e
  · rename_i n
    obtain ⟨v, st', rfl, h2, hs'⟩ := ax_rs1 hs
    have hst := ax_rs0 hs'
    subst hst
    have h2' := h2
    obtain ⟨b1, rfl⟩ := h2'
    cases hb : ax_lt (ax_rg X n) 2
    · rw [hb] at e
      cases e
    · rw [hb] at e
      cases e
      have := ax_lt_ok hb (ax_rg_ok hx b1)
      refine ⟨_, List.mem_cons_self, fun ev => ⟨ρ, ax_ag.rf, Nat.le_refl _, some (.retAddr (ax_vl ρ n)), h, ?_, h2, hx, ax_Fr.rf⟩⟩
      simp only [am_zret, show Nat.blt (ax_vl ρ n) 2 = true from Nat.ble_eq_true_of_le this, cond_true]
  · cases e
def ax_vret : ax_Op := fun _ _ st X => match st with
  | [] => some [.inr (none, X)]
  | _ => none
theorem sm_vret {sh : ax_Sh} : ax_Simp sh am_vret ax_vret := by
  intro aev A S X z e ρ L st h hl hs hx
  unfold ax_vret at e
  split at e
  · have hst := ax_rs0 hs
    subst hst
    cases e
    exact ⟨_, List.mem_cons_self, fun ev => ⟨ρ, ax_ag.rf, Nat.le_refl _, _, h, rfl, trivial, hx, ax_Fr.rf⟩⟩
  · cases e
def ax_aret : ax_Op := fun _ _ st X => match st with
  | [.ref n] => some [.inr (some (.ref n), X)]
  | _ => none
theorem sm_aret {sh : ax_Sh} : ax_Simp sh am_aret ax_aret := by
  intro aev A S X z e ρ L st h hl hs hx
  unfold ax_aret at e
  split at e
  · obtain ⟨v, st', rfl, h2, hs'⟩ := ax_rs1 hs
    have hst := ax_rs0 hs'
    subst hst
    have h2' : v = _ := h2
    subst h2'
    cases e
    exact ⟨_, List.mem_cons_self, fun ev => ⟨ρ, ax_ag.rf, Nat.le_refl _, _, h, rfl, h2, hx, ax_Fr.rf⟩⟩
  · cases e
/-! calls -/
noncomputable def am_evx (j : Nat) (as : List Value) (h : am_H) (r : am_R) : am_Ev := fun j' as' h' => @ite _ (j' = j ∧ as' = as ∧ h' = h) (Classical.propDecidable _) (some r) none
theorem am_evx_ok {j : Nat} {as : List Value} {h : am_H} {r : am_R} (q : am_EG (am_mi j) as h r) : am_EvOk (am_evx j as h r) := by
  intro j' as' h' r' e
  unfold am_evx at e
  by_cases hc : j' = j ∧ as' = as ∧ h' = h
  · rw [if_pos hc] at e
    cases e
    obtain ⟨rfl, rfl, rfl⟩ := hc
    exact q
  · rw [if_neg hc] at e
    cases e
theorem am_evx_at (j : Nat) (as : List Value) (h : am_H) (r : am_R) : am_evx j as h r j as h = some r := by
  unfold am_evx
  rw [if_pos ⟨rfl, rfl, rfl⟩]
theorem ax_pop {β γ : Type} (z : β) (z' : γ) {ρ : Nat → Nat} {c : Nat} (n : Nat) : ∀ (S st acc acc' : List Value), ax_rs ρ c S st → ax_rs ρ c acc acc' → (∀ k, am_pop z n S acc k = z) ∨ ∃ as rest vs rest', (∀ k, am_pop z n S acc k = k as rest) ∧ (∀ k', am_pop z' n st acc' k' = k' vs rest') ∧ ax_rs ρ c as vs ∧ ax_rs ρ c rest rest' := by
  induction n with
  | zero => exact fun S st acc acc' h1 h2 => Or.inr ⟨acc, S, acc', st, fun _ => rfl, fun _ => rfl, h2, h1⟩
  | succ n ih =>
    intro S st acc acc' h1 h2
    cases S with
    | nil => exact Or.inl fun _ => rfl
    | cons a S =>
      obtain ⟨v, st', rfl, h3, h4⟩ := ax_rs1 h1
      exact ih S st' (a :: acc) (v :: acc') h4 (ax_rs.c h3 h2)
def ax_push (v : Option Value) (rest : List Value) : List Value := match v with
  | none => rest
  | some v => v :: rest
def ax_ret (nx : Nat) (L : am_L) (rest : List Value) : List ax_E → ax_Z
  | [] => []
  | e :: l => .inl (nx, L, ax_push e.1 rest, e.2) :: ax_ret nx L rest l
theorem ax_ret_mem {nx : Nat} {L : am_L} {rest : List Value} {e : ax_E} : ∀ {l : List ax_E}, e ∈ l → Sum.inl (nx, L, ax_push e.1 rest, e.2) ∈ ax_ret nx L rest l
  | [], h => by cases h
  | x :: l, h => by
    rcases List.mem_cons.mp h with rfl | h
    · exact List.mem_cons_self
    · exact List.mem_cons_of_mem _ (ax_ret_mem h)
def ax_back (nx : Nat) (L : am_L) (rest : List Value) (x : Option (List ax_E)) : Option ax_Z := match x with
  | some fs => some (ax_ret nx L rest fs)
  | none => none
theorem ax_call {sh : ax_Sh} {aev : ax_Ev} (hev : ax_EvOk sh aev) {ρ : Nat → Nat} {X : ax_X} {h : am_H} {A L : am_L} {as vs rest rest' : List Value} {j nx : Nat} {z : ax_Z} (hl : ax_rl ρ X.1 A L) (ha : ax_rs ρ X.1 as vs) (hr : ax_rs ρ X.1 rest rest') (hx : ax_xo sh ρ X h) (e : ax_back nx A rest (aev j as X) = some z) : ∃ r, am_EG (am_mi j) vs h r ∧ ∃ y ∈ z, ∀ w, w = am_back nx L rest' (some r) → ax_nx sh ρ X.1 h w y := by
  unfold ax_back at e
  cases hf : aev j as X with
  | none => rw [hf] at e; cases e
  | some fs =>
    rw [hf] at e
    cases e
    obtain ⟨en, hen, ρ', h1, h2, v, h', h3, h4, h5, h6⟩ := hev j as X fs hf ρ vs h ha hx
    refine ⟨(v, h'), h3, _, ax_ret_mem hen, fun w hw => ⟨ρ', h1, h2, L, ax_push v rest', h', ?_, hl.ag h1 h2, ?_, h5, h6⟩⟩
    · rw [hw]
      cases v <;> rfl
    · obtain ⟨ev, eX⟩ := en
      cases ev with
      | none => cases v with
        | none => exact hr.ag h1 h2
        | some v => exact h4.elim
      | some a => cases v with
        | none => exact h4.elim
        | some v => exact ax_rs.c h4 (hr.ag h1 h2)
noncomputable def ax_cs (j n nx : Nat) : ax_Op := fun aev L st X => am_pop none n st [] fun as rest => bif am_sh rest then ax_back nx L rest (aev j as X) else none
theorem ax_sh {ρ : Nat → Nat} {c : Nat} {l m : List Value} (h : ax_rs ρ c l m) : am_sh m = am_sh l := by
  unfold am_sh
  rw [ax_csum h]
theorem sm_cs {sh : ax_Sh} {j n nx : Nat} : ax_Sim sh (am_cs j n nx) (ax_cs j n nx) := by
  intro aev hev A S X z e ρ L st h hl hs hx
  unfold ax_cs at e
  rcases ax_pop (none : Option ax_Z) (Sum.inr none : am_Z) n S st [] [] hs trivial with q | ⟨as, rest, vs, rest', q1, q2, q3, q4⟩
  · rw [q] at e
    cases e
  · rw [q1] at e
    cases hb : am_sh rest
    · rw [hb] at e
      cases e
    · rw [hb] at e
      obtain ⟨r, hr, y, hy, hn⟩ := ax_call hev hl q3 q4 hx e
      refine ⟨am_evx j vs h r, am_evx_ok hr, y, hy, hn _ ?_⟩
      have hb' : am_sh rest' = true := by rw [ax_sh q4]; exact hb
      simp only [am_cs, q2, hb', cond_true, am_evx_at]
noncomputable def ax_cv (sh : ax_Sh) (j n ci nx : Nat) : ax_Op := fun aev L st X => am_pop none n st [] fun as st2 => match st2 with
  | .ref b :: rest => bif am_sh rest then (match ax_at sh b with
    | some (.inr (c, _)) => bif Nat.beq c ci then ax_back nx L rest (aev j (.ref b :: as) X) else none
    | _ => none) else none
  | _ => none
theorem ax_I.obj {sh : ax_Sh} {h : am_H} (hI : ax_I sh h) {a ci : Nat} {fs : List ax_F} (ha : ax_at sh a = some (.inr (ci, fs))) : ∃ vs, am_get h a = some (.inr (ci, vs)) ∧ vs.length = fs.length ∧ ∀ (k : Nat) (f : ax_F) (v : Value), fs[k]? = some f → vs[k]? = some v → ax_fok f v := by
  obtain ⟨e, he, ho⟩ := hI a _ ha
  match e, ho with
  | .inr (c', vs), ho =>
    obtain ⟨rfl, h2, h3⟩ := ho
    exact ⟨vs, he, h2, h3⟩
theorem ax_I.row {sh : ax_Sh} {h : am_H} (hI : ax_I sh h) {a kd n w : Nat} {cols : List ax_R} (ha : ax_at sh a = some (.inl (kd, n, w, cols))) : ∃ x, am_get h a = some (.inl (kd, n, x)) ∧ ∀ i : Nat, i < n → ∃ R, cols[i % cols.length]? = some R ∧ ax_in (am_ag x i) R := by
  obtain ⟨e, he, ho⟩ := hI a _ ha
  match e, ho with
  | .inl (k', n', x), ho =>
    obtain ⟨rfl, rfl, h3⟩ := ho
    exact ⟨x, he, h3⟩
theorem sm_cv {sh : ax_Sh} {j n ci nx : Nat} : ax_Sim sh (am_cv j n ci nx) (ax_cv sh j n ci nx) := by
  intro aev hev A S X z e ρ L st h hl hs hx
  unfold ax_cv at e
  rcases ax_pop (none : Option ax_Z) (Sum.inr none : am_Z) n S st [] [] hs trivial with q | ⟨as, st2, vs, st2', q1, q2, q3, q4⟩
  · rw [q] at e
    cases e
  · rw [q1] at e
    split at e
    · rename_i b rest
      obtain ⟨v, rest', rfl, h3, h4⟩ := ax_rs1 q4
      have h3' : v = .ref b := h3
      subst h3'
      cases hb : am_sh rest
      · rw [hb] at e
        cases e
      · rw [hb, cond_true] at e
        split at e
        · rename_i c fs hat
          cases hc : Nat.beq c ci
          · rw [hc] at e
            cases e
          · rw [hc, cond_true] at e
            obtain ⟨ws, hg, -, -⟩ := hx.2.2.2.2.obj hat
            obtain ⟨r, hr, y, hy, hn⟩ := ax_call hev hl (ax_rs.c h3 q3) h4 hx e
            refine ⟨am_evx j (.ref b :: vs) h r, am_evx_ok hr, y, hy, hn _ ?_⟩
            have hb' : am_sh rest' = true := by rw [ax_sh h4]; exact hb
            simp only [am_cv, q2, hb', cond_true, hg, hc, am_evx_at]
        · cases e
    · cases e
noncomputable def ax_cn (j n nx : Nat) : ax_Op := fun aev L st X => am_pop none n st [] fun as st2 => match st2 with
  | .ref b :: rest => bif am_sh rest then ax_back nx L rest (aev j (.ref b :: as) X) else none
  | _ => none
theorem sm_cn {sh : ax_Sh} {j n nx : Nat} : ax_Sim sh (am_cn j n nx) (ax_cn j n nx) := by
  intro aev hev A S X z e ρ L st h hl hs hx
  unfold ax_cn at e
  rcases ax_pop (none : Option ax_Z) (Sum.inr none : am_Z) n S st [] [] hs trivial with q | ⟨as, st2, vs, st2', q1, q2, q3, q4⟩
  · rw [q] at e
    cases e
  · rw [q1] at e
    split at e
    · rename_i b rest
      obtain ⟨v, rest', rfl, h3, h4⟩ := ax_rs1 q4
      have h3' : v = .ref b := h3
      subst h3'
      cases hb : am_sh rest
      · rw [hb] at e
        cases e
      · rw [hb, cond_true] at e
        obtain ⟨r, hr, y, hy, hn⟩ := ax_call hev hl (ax_rs.c h3 q3) h4 hx e
        refine ⟨am_evx j (.ref b :: vs) h r, am_evx_ok hr, y, hy, hn _ ?_⟩
        have hb' : am_sh rest' = true := by rw [ax_sh h4]; exact hb
        simp only [am_cn, q2, hb', cond_true, am_evx_at]
    · cases e
