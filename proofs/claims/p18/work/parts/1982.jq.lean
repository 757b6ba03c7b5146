/-! ===== begin, over, undo of the reference: what can be undone ===== -/
noncomputable def jq_g (k gk : Nat) (e : ax_E) : Bool := match ax_fc e.2.2.2.1 66 40 with
  | some n => bif Nat.beq gk 0 then Nat.beq n (4294967296 + k) else (match ax_ent e.2 n with
    | some en => Nat.beq en.1 1 && (Nat.beq en.2.1 (4294967296 + k) && Nat.beq en.2.2.1 (bif Nat.beq gk 1 then 1 else 4294967295))
    | none => false)
  | none => false
noncomputable def jq_ns (k : Nat) : List Nat → Nat → ax_E → Bool
  | [], _, _ => true
  | c :: l, i, e => match ax_fc e.2.2.2.2 86 i with
    | some n => (bif Nat.blt c 8 then Nat.beq n (4294967296 + (k + 1 + c)) else (bif Nat.beq c 8 then ax_lt (ax_rg e.2 n) 4 else Nat.beq n 4294967292)) && jq_ns k l (i + 1) e
    | none => false
noncomputable def jq_p (k m gk : Nat) (ns : List Nat) (e : ax_E) : Bool := ax_eqo (ax_fc e.2.2.2.1 66 42) m && (jq_g k gk e && jq_ns k ns 0 e)
theorem jq_g_ok {sh : ax_Sh} {ρ ρ' : Nat → Nat} {k gk : Nat} {e : ax_E} {h : am_H} (hx : ax_xo sh ρ' e.2 h) (ha : ax_ag (k + 9) ρ ρ') (hc : jq_g k gk e = true) : ∃ w, ax_fv h 66 40 = some (.retAddr w) ∧ (gk = 0 → w = ρ k) ∧ (gk = 1 → w = am_add (ρ k) 1) ∧ (gk = 2 → w = am_add (ρ k) 4294967295) := by
  have hk : ax_vl ρ' (4294967296 + k) = ρ k := by rw [ax_vl_i]; exact ha k (by omega)
  unfold jq_g at hc
  split at hc
  · rename_i n hn
    obtain ⟨n1, n2⟩ := hx.2.2.1 _ (ax_fc_ok hn)
    refine ⟨_, n2, ?_⟩
    show (gk = 0 → ax_vl ρ' n = _) ∧ (gk = 1 → ax_vl ρ' n = _) ∧ (gk = 2 → ax_vl ρ' n = _)
    cases h0 : Nat.beq gk 0
    · rw [h0, cond_false] at hc
      have g0 : gk ≠ 0 := fun q => by rw [q] at h0; cases h0
      split at hc
      · rename_i en hen
        rw [Bool.and_eq_true, Bool.and_eq_true] at hc
        have o1 := Nat.eq_of_beq_eq_true hc.1
        have o2 := Nat.eq_of_beq_eq_true hc.2.1
        have o3 := Nat.eq_of_beq_eq_true hc.2.2
        obtain ⟨y1, y2, y3⟩ := ax_ent_ok hx n1 hen (by rw [o1]; decide)
        rw [o1, o2, hk, o3] at y3
        refine ⟨fun q => absurd q g0, fun q => ?_, fun q => ?_⟩
        · subst q
          rw [show Nat.beq 1 1 = true from rfl, cond_true, ax_vl_c (n := 1) (by decide), show ax_f 1 = am_add from rfl] at y3
          exact y3
        · subst q
          rw [show Nat.beq 2 1 = false from rfl, cond_false, ax_vl_c (n := 4294967295) (by decide), show ax_f 1 = am_add from rfl] at y3
          exact y3
      · cases hc
    · rw [h0, cond_true] at hc
      have q0 := Nat.eq_of_beq_eq_true h0
      have q1 := Nat.eq_of_beq_eq_true hc
      refine ⟨fun _ => by rw [q1]; exact hk, fun q => absurd (q0.symm.trans q) (by decide), fun q => absurd (q0.symm.trans q) (by decide)⟩
  · cases hc
theorem jq_ns_ok {sh : ax_Sh} {ρ ρ' : Nat → Nat} {k : Nat} {e : ax_E} {h : am_H} (hx : ax_xo sh ρ' e.2 h) (ha : ax_ag (k + 9) ρ ρ') : ∀ {ns : List Nat} {i : Nat}, i + ns.length ≤ 8 → jq_ns k ns i e = true → ∀ j c, ns[j]? = some c → ∃ w, ax_av h 86 (i + j) = some w ∧ (c < 8 → w = ρ (k + 1 + c)) ∧ (c = 8 → w < 4) ∧ (8 < c → w = 4294967292)
  | [], i, _, _, j, c, hj => by simp at hj
  | c0 :: l, i, hi, hc, j, c, hj => by
    rw [List.length_cons] at hi
    unfold jq_ns at hc
    split at hc
    · rename_i n hn
      rw [Bool.and_eq_true] at hc
      cases j with
      | zero =>
        cases hj
        obtain ⟨n1, n2, n3⟩ := hx.2.2.2.1 _ (ax_fc_ok hn)
        rw [ax_vl_c (show i < 4294967296 by omega)] at n3
        refine ⟨_, n3, fun q => ?_, fun q => ?_, fun q => ?_⟩
        · have h1 := hc.1
          rw [show Nat.blt c0 8 = true from Nat.ble_eq_true_of_le q, cond_true] at h1
          show ax_vl ρ' n = _
          rw [Nat.eq_of_beq_eq_true h1, ax_vl_i]
          exact ha _ (by omega)
        · subst q
          have h1 : ax_lt (ax_rg e.2 n) 4 = true := hc.1
          exact ax_lt_ok h1 (ax_rg_ok hx n2)
        · have h1 := hc.1
          have hb : Nat.blt c0 8 = false := by
            cases hq : Nat.blt c0 8
            · rfl
            · have := ax_blt_t hq; omega
          have hb2 : Nat.beq c0 8 = false := by
            cases hq : Nat.beq c0 8
            · rfl
            · have := Nat.eq_of_beq_eq_true hq; omega
          rw [hb, hb2, cond_false, cond_false] at h1
          show ax_vl ρ' n = _
          rw [Nat.eq_of_beq_eq_true h1]
          exact ax_vl_c (by decide)
      | succ j =>
        have := jq_ns_ok hx ha (ns := l) (i := i + 1) (by omega) hc.2 j c (by simpa using hj)
        rw [show i + 1 + j = i + (j + 1) by omega] at this
        exact this
    · cases hc
def jq_A : ax_R := [(0, 3), (4294967292, 4294967292)]
def jq_X (k c : Nat) (G : ax_R) (A : Nat → ax_R) : ax_X := (k + 9, [(0, 0, 0, A 7), (0, 0, 0, A 6), (0, 0, 0, A 5), (0, 0, 0, A 4), (0, 0, 0, A 3), (0, 0, 0, A 2), (0, 0, 0, A 1), (0, 0, 0, A 0), (0, 0, 0, G)] ++ List.replicate k (0, 0, 0, ax_top), [(66, 42, c), (66, 40, 4294967296 + k)], [(86, 0, 4294967296 + (k + 1 + 0)), (86, 1, 4294967296 + (k + 1 + 1)), (86, 2, 4294967296 + (k + 1 + 2)), (86, 3, 4294967296 + (k + 1 + 3)), (86, 4, 4294967296 + (k + 1 + 4)), (86, 5, 4294967296 + (k + 1 + 5)), (86, 6, 4294967296 + (k + 1 + 6)), (86, 7, 4294967296 + (k + 1 + 7))])
def jq_r (k : Nat) (ar : Nat → Nat) (g x : Nat) (i : Nat) : Nat := if i < k then ar i % 4294967296 else if i = k then g else am_ag x (i - k - 1)
theorem jq_r_g {k g x : Nat} {ar : Nat → Nat} : jq_r k ar g x k = g := by unfold jq_r; rw [if_neg (by omega), if_pos rfl]
theorem jq_r_a {k g x : Nat} {ar : Nat → Nat} (c : Nat) : jq_r k ar g x (k + 1 + c) = am_ag x c := by
  unfold jq_r
  rw [if_neg (by omega), if_neg (by omega), show k + 1 + c - k - 1 = c by omega]
theorem jq_X_ok {sh : ax_Sh} {h : am_H} {k c g x : Nat} {G : ax_R} {A : Nat → ax_R} {ar : Nat → Nat} (hI : ax_I sh h) (hc : c < 4294967296) (h1 : ax_fv h 66 42 = some (.retAddr c)) (h2 : ax_fv h 66 40 = some (.retAddr g)) (h3 : am_get h 86 = some (.inl (0, 8, x))) (hG : ax_in g G) (hA : ∀ i, i < 8 → ax_in (am_ag x i) (A i)) : ax_xo sh (jq_r k ar g x) (jq_X k c G A) h := by
  have hav : ∀ i, ax_av h 86 i = some (am_ag x i) := fun i => by unfold ax_av; rw [h3]
  refine ⟨by simp [jq_X], fun i e he => ?_, fun q hq => ?_, fun q hq => ?_, hI⟩
  · have hl : (jq_X k c G A).2.1.length - 1 - i = k + 8 - i := by simp [jq_X]
    rw [hl]
    have ent : ∀ (R : ax_R) (j : Nat), k + 8 - i = j → e = (0, 0, 0, R) → ax_in (jq_r k ar g x j) R → ax_s1 (jq_r k ar g x) e (k + 8 - i) := fun R j hj he hR => by
      rw [hj, he]
      exact ⟨hR, fun q => absurd rfl q⟩
    match i, he with
    | 0, he => cases he; exact ent _ (k + 1 + 7) (by omega) rfl (by rw [jq_r_a]; exact hA 7 (by decide))
    | 1, he => cases he; exact ent _ (k + 1 + 6) (by omega) rfl (by rw [jq_r_a]; exact hA 6 (by decide))
    | 2, he => cases he; exact ent _ (k + 1 + 5) (by omega) rfl (by rw [jq_r_a]; exact hA 5 (by decide))
    | 3, he => cases he; exact ent _ (k + 1 + 4) (by omega) rfl (by rw [jq_r_a]; exact hA 4 (by decide))
    | 4, he => cases he; exact ent _ (k + 1 + 3) (by omega) rfl (by rw [jq_r_a]; exact hA 3 (by decide))
    | 5, he => cases he; exact ent _ (k + 1 + 2) (by omega) rfl (by rw [jq_r_a]; exact hA 2 (by decide))
    | 6, he => cases he; exact ent _ (k + 1 + 1) (by omega) rfl (by rw [jq_r_a]; exact hA 1 (by decide))
    | 7, he => cases he; exact ent _ (k + 1 + 0) (by omega) rfl (by rw [jq_r_a]; exact hA 0 (by decide))
    | 8, he => cases he; exact ent _ k (by omega) rfl (by rw [jq_r_g]; exact hG)
    | i + 9, he =>
      have he0 : (List.replicate k ((0, 0, 0, ax_top) : ax_N))[i]? = some e := he
      have hik : i < k := by have := (List.getElem?_eq_some_iff.mp he0).1; simpa using this
      have he' := List.eq_of_mem_replicate (List.mem_of_getElem? he0)
      refine ent _ (k - 1 - i) (by omega) he' (ax_in_top ?_)
      unfold jq_r
      rw [if_pos (by omega)]
      exact Nat.mod_lt _ (by decide)
  · have hq' : q ∈ [(66, 42, c), (66, 40, 4294967296 + k)] := hq
    rcases List.mem_cons.mp hq' with rfl | hq'
    · exact ⟨by show c < 4294967296 + (k + 9); omega, by show ax_fv h 66 42 = _; rw [ax_vl_c hc]; exact h1⟩
    · rw [List.mem_singleton.mp hq']
      exact ⟨by show 4294967296 + k < 4294967296 + (k + 9); omega, by show ax_fv h 66 40 = _; rw [ax_vl_i, jq_r_g]; exact h2⟩
  · have gen : ∀ i, i < 8 → i < 4294967296 + (k + 9) ∧ 4294967296 + (k + 1 + i) < 4294967296 + (k + 9) ∧ ax_av h 86 (ax_vl (jq_r k ar g x) i) = some (ax_vl (jq_r k ar g x) (4294967296 + (k + 1 + i))) := fun i hi => by
      refine ⟨by omega, by omega, ?_⟩
      rw [ax_vl_c (show i < 4294967296 by omega), ax_vl_i, jq_r_a]
      exact hav i
    have hq' : q ∈ [(86, 0, 4294967296 + (k + 1 + 0)), (86, 1, 4294967296 + (k + 1 + 1)), (86, 2, 4294967296 + (k + 1 + 2)), (86, 3, 4294967296 + (k + 1 + 3)), (86, 4, 4294967296 + (k + 1 + 4)), (86, 5, 4294967296 + (k + 1 + 5)), (86, 6, 4294967296 + (k + 1 + 6)), (86, 7, 4294967296 + (k + 1 + 7))] := hq
    simp only [List.mem_cons, List.not_mem_nil, or_false] at hq'
    rcases hq' with rfl | rfl | rfl | rfl | rfl | rfl | rfl | rfl
    · exact gen 0 (by decide)
    · exact gen 1 (by decide)
    · exact gen 2 (by decide)
    · exact gen 3 (by decide)
    · exact gen 4 (by decide)
    · exact gen 5 (by decide)
    · exact gen 6 (by decide)
    · exact gen 7 (by decide)
