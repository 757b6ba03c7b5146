/-! ===== lay of the class, what it answers ===== -/
theorem jz_lay {P Q : am_H → Prop} (hP : ∀ g g' : am_H, (∀ a, a ≠ 0 → am_get g' a = am_get g a) → P g → P g') {xa xb : ax_Sh} {fs : List ax_F} {t : List ax_C} {bs : ax_Sh} {e s rs : Nat} {fse fr frs : List ax_F} (ha : xa = (.inr (11, fs) :: t) :: bs) (hb : xb = (.inr (11, (fs.set 3 (1, s, [])).set 4 (1, e, [])) :: t) :: bs) (hl : fs.length = 17)
    (f0 : fs[0]? = some (1, 1, [])) (f1 : fs[1]? = some (0, 0, [(0, 200)])) (f2 : fs[2]? = some (1, 2, [])) (f3 : fs[3]? = some (1, e, [])) (f4 : fs[4]? = some (1, s, []))
    (a2 : ax_at xa 2 = some (.inr (6, fr))) (as_ : ax_at xa s = some (.inr (1, fse))) (as0 : fse[0]? = some (1, rs, [])) (ars : ax_at xa rs = some (.inr (8, frs))) (ars3 : frs[3]? = some (0, 0, [(0, 4)])) (hs0 : s ≠ 0) (hrs0 : rs ≠ 0) {cls1 : List ax_R} (a1 : ax_at xa 1 = some (.inl (1, 200, 0, cls1)))
    (ct : ∀ h, ax_I xb h → P h → ∃ h', am_EG (am_mi 28) [.ref 0] h (none, h') ∧ ax_I xb h' ∧ (h'.1 = h.1 ∧ h'.2.1 = h.2.1 ∧ (∀ a, ax_at xb a = none → am_get h' a = am_get h a) ∧ am_get h' 1 = am_get h 1 ∧ ax_fv h' 0 1 = ax_fv h 0 1 ∧ ax_fv h' rs 3 = ax_fv h rs 3) ∧ ax_fv h' 0 16 = some (.retAddr 0) ∧ Q h') {h h1 : am_H} (pP : P h1) {v n sz : Nat} (hI : ax_I xa h) (hnn : ax_fv h 0 1 = some (.retAddr n)) (c1 : am_EG (am_mi 13) [.ref 2, .ref 1, .retAddr n, .ref s] h (some (.retAddr v), h1)) (c2 : ax_I xa h1) (hszz : ax_fv h1 rs 3 = some (.retAddr sz)) : (am_tc .ne v 4294967292 = false ∧ am_tc .ne sz 0 = true ∧ ∃ h3, am_EG (am_mi 49) [.ref 0] h (some (.retAddr sz), h3) ∧ ax_I xb h3 ∧ h3.1 = h1.1 ∧ h3.2.1 = h1.2.1 ∧ (∀ a, ax_at xa a = none → am_get h3 a = am_get h1 a) ∧ ax_fv h3 0 1 = ax_fv h1 0 1 ∧ am_get h3 1 = am_get h1 1 ∧ ax_fv h3 0 16 = some (.retAddr 0) ∧ Q h3) ∨ (¬ (am_tc .ne v 4294967292 = false ∧ am_tc .ne sz 0 = true) ∧ am_EG (am_mi 49) [.ref 0] h (some (.retAddr 4294967294), h1)) := by
  have h0at : ax_at xa 0 = some (.inr (11, fs)) := by rw [ha]; rfl
  obtain ⟨vs, hg, hvl, hvr, hvi⟩ := jy_obj hI h0at
  have hn : vs[1]? = some (.retAddr n) := by unfold ax_fv at hnn; rw [hg] at hnn; exact hnn
  obtain ⟨v2, hg2, -⟩ := jy_obj hI a2
  obtain ⟨ws, kg, kl, kr, ki⟩ := jy_obj c2 h0at
  have kl17 : ws.length = 17 := by rw [kl, hl]
  obtain ⟨ss, sg, sl, sr, -⟩ := jy_obj c2 as_
  obtain ⟨rr, rg, rl, -, ri⟩ := jy_obj c2 ars
  have hsz : rr[3]? = some (.retAddr sz) := by unfold ax_fv at hszz; rw [rg] at hszz; exact hszz
  have e1 : ∀ r : am_R, am_Good mi_49 19 [some (.ref 0), none] [.retAddr v] h1 r → am_EG mi_49 [.ref 0] h r := fun r hgood => by
    refine am_enter (n := 1) tk_49.2.1 (by simp [Value.category]) (Nat.le_of_ble_eq_true rfl) ?_
    show am_Good mi_49 0 [some (.ref 0), none] [] h _
    refine g_aload_n (i := 0) dd_49_0 rfl ?_
    refine g_getfield (k := 2) am_ck11 (by decide) (Or.inl w_513) dd_49_1 hg (hvr 2 _ _ f2) ?_
    refine g_aload_n (i := 0) dd_49_4 rfl ?_
    refine g_getfield (k := 0) am_ck11 (by decide) (Or.inl w_511) dd_49_5 hg (hvr 0 _ _ f0) ?_
    refine g_aload_n (i := 0) dd_49_8 rfl ?_
    refine g_getfield (k := 1) am_ck11 (by decide) (Or.inl w_512) dd_49_9 hg hn ?_
    refine g_aload_n (i := 0) dd_49_12 rfl ?_
    refine g_getfield (k := 4) am_ck11 (by decide) (Or.inl w_515) dd_49_13 hg (hvr 4 _ _ f4) ?_
    show am_Good mi_49 16 [some (.ref 0), none] [.ref s, .retAddr n, .ref 1, .ref 2] h _
    refine g_virtual (M := mi_49) (M' := mi_13) (n := 3) (ci := 6) (b := 2) (as := [.ref 1, .retAddr n, .ref s]) (st := []) (r1 := (some (.retAddr v), h1)) w_380 w_381 w_382 ⟨lk_13.1, lk_13.2.1, lk_13.2.2, by decide, by decide⟩ rfl hg2 rfl (by simp) dd_49_16 c1 ?_
    exact hgood
  have no : am_Good mi_49 37 [some (.ref 0), none] [] h1 (some (.retAddr 4294967294), h1) := by
    refine g_bipush dd_49_37 bi_m2 ?_
    exact g_ireturn rfl dd_49_39
  by_cases hv : am_tc .ne v 4294967292 = true
  · refine Or.inr ⟨fun q => (by rw [hv] at q; exact Bool.noConfusion q.1), e1 _ ?_⟩
    refine g_bipush dd_49_19 bi_m4 ?_
    refine g_icmp_ne_t (t := 37) dd_49_21 (by decide) hv ?_
    exact no
  · have hv' : am_tc .ne v 4294967292 = false := by simpa using hv
    have e2 : ∀ r : am_R, am_Good mi_49 34 [some (.ref 0), none] [.retAddr sz] h1 r → am_EG mi_49 [.ref 0] h r := fun r hgood => e1 r (by
      refine g_bipush dd_49_19 bi_m4 ?_
      refine g_icmp_ne_f (t := 37) dd_49_21 (by decide) hv' ?_
      refine g_aload_n (i := 0) dd_49_24 rfl ?_
      refine g_getfield (k := 4) am_ck11 (by decide) (Or.inl w_515) dd_49_25 kg (kr 4 _ _ f4) ?_
      refine g_getfield (k := 0) am_ck1 (by decide) (Or.inr ⟨_, w_84⟩) dd_49_28 sg (sr 0 _ _ as0) ?_
      refine g_getfield (k := 3) am_ck8 (by decide) (Or.inr ⟨_, w_67⟩) dd_49_31 rg hsz ?_
      exact hgood)
    by_cases hz : am_tc .ne sz 0 = true
    · have taken := hz
      obtain ⟨j1, j2⟩ := jy_swap ha hb hl c2 kg kl17
      have kg1 := am_get_upd (e := .inr (11, ws.set 3 (.ref s))) kg
      have kg2 : am_get (am_upd h1 0 (.inr (11, ws.set 3 (.ref s)))) 0 = some (.inr (11, ws.set 3 (.ref s))) := by rw [kg1, if_pos rfl]
      have kg3 := am_get_upd (e := .inr (11, (ws.set 3 (.ref s)).set 4 (.ref e))) kg2
      generalize hh2 : am_upd (am_upd h1 0 (.inr (11, ws.set 3 (.ref s)))) 0 (.inr (11, (ws.set 3 (.ref s)).set 4 (.ref e))) = h2 at j1 j2 kg3
      have z2 : h2.1 = h1.1 ∧ h2.2.1 = h1.2.1 := by rw [← hh2]; exact ⟨rfl, rfl⟩
      obtain ⟨h3, t1, t2, t3, t4, t5⟩ := ct h2 j1 (hP _ _ j2 pP)
      have hbat : ax_at xb 0 = some (.inr (11, (fs.set 3 (1, s, [])).set 4 (1, e, []))) := by rw [hb]; rfl
      obtain ⟨us, ug, ul, ur, ui⟩ := jy_obj t2 hbat
      have xeq : ∀ a, a ≠ 0 → ax_at xb a = ax_at xa a := fun a h0 => by rw [ha, hb]; exact ax_at_hd h0
      obtain ⟨ss3, sg3, -, sr3, -⟩ := jy_obj (a := s) (ci := 1) (fl := fse) t2 (by rw [xeq s hs0]; exact as_)
      obtain ⟨rr3, rg3, -, -, ri3⟩ := jy_obj (a := rs) (ci := 8) (fl := frs) t2 (by rw [xeq rs hrs0]; exact ars)
      have hsz3 : rr3[3]? = some (.retAddr sz) := by
        have q := t3.2.2.2.2.2
        have q2 : ax_fv h2 rs 3 = some (.retAddr sz) := by rw [ax_fv_get (j2 rs hrs0)]; exact hszz
        rw [q2] at q
        unfold ax_fv at q
        rw [rg3] at q
        exact q
      have g0f : ((fs.set 3 (1, s, [])).set 4 (1, e, []))[3]? = some (1, s, []) := by
        rw [List.getElem?_set_ne (by decide), List.getElem?_set_self (by omega)]
      have g1f : ((fs.set 3 (1, s, [])).set 4 (1, e, []))[1]? = some (0, 0, [(0, 200)]) := by
        rw [List.getElem?_set_ne (by decide), List.getElem?_set_ne (by decide)]
        exact f1
      refine Or.inl ⟨hv', hz, h3, e2 _ ?_, t2, by rw [t3.1, z2.1], by rw [t3.2.1, z2.2], fun a hna => ?_, ?_, by rw [t3.2.2.2.1, j2 1 (by decide)], t4, t5⟩
      · refine g_if_ne_t (t := 40) dd_49_34 (by decide) hz ?_
        refine g_aload_n (i := 0) dd_49_40 rfl ?_
        refine g_getfield (k := 3) am_ck11 (by decide) (Or.inl w_514) dd_49_41 kg (kr 3 _ _ f3) ?_
        refine g_astore_n (i := 1) dd_49_44 (am_nlb_ok rfl) (by decide) ?_
        refine g_aload_n (i := 0) dd_49_45 rfl ?_
        refine g_aload_n (i := 0) dd_49_46 rfl ?_
        refine g_getfield (k := 4) am_ck11 (by decide) (Or.inl w_515) dd_49_47 kg (kr 4 _ _ f4) ?_
        refine g_putfield (k := 3) am_ck11 (by decide) (Or.inl w_514) (Or.inl rfl) dd_49_50 kg (by omega) trivial ?_
        refine g_aload_n (i := 0) dd_49_53 rfl ?_
        refine g_aload_n (i := 1) dd_49_54 rfl ?_
        refine g_putfield (k := 4) am_ck11 (by decide) (Or.inl w_515) (Or.inl rfl) dd_49_55 kg2 (by rw [List.length_set]; omega) trivial ?_
        rw [hh2]
        show am_Good mi_49 58 [some (.ref 0), some (.ref e)] [] h2 _
        refine g_aload_n (i := 0) dd_49_58 rfl ?_
        show am_Good mi_49 59 [some (.ref 0), some (.ref e)] [.ref 0] h2 _
        refine g_virtual (M := mi_49) (M' := mi_28) (n := 0) (ci := 11) (b := 0) (as := []) (st := []) (r1 := (none, h3)) w_438 w_440 ps_28 ⟨lk_28.1, lk_28.2.1, lk_28.2.2, by decide, by decide⟩ rfl (by rw [kg3, if_pos rfl]) rfl (by simp) dd_49_59 t1 ?_
        refine g_aload_n (i := 0) dd_49_62 rfl ?_
        refine g_getfield (k := 3) am_ck11 (by decide) (Or.inl w_514) dd_49_63 ug (ur 3 _ _ g0f) ?_
        refine g_getfield (k := 0) am_ck1 (by decide) (Or.inr ⟨_, w_84⟩) dd_49_66 sg3 (sr3 0 _ _ as0) ?_
        refine g_getfield (k := 3) am_ck8 (by decide) (Or.inr ⟨_, w_67⟩) dd_49_69 rg3 hsz3 ?_
        exact g_ireturn rfl dd_49_72
      · have h0 : a ≠ 0 := fun q => by rw [q, h0at] at hna; cases hna
        rw [t3.2.2.1 a (by rw [xeq a h0]; exact hna), j2 a h0]
      · rw [t3.2.2.2.2.1]
        unfold ax_fv
        rw [kg3, if_pos rfl, kg]
        show ((ws.set 3 (.ref s)).set 4 (.ref e))[1]? = ws[1]?
        rw [List.getElem?_set_ne (by decide), List.getElem?_set_ne (by decide)]
    · have hz' : am_tc .ne sz 0 = false := by simpa using hz
      refine Or.inr ⟨fun q => hz q.2, e2 _ ?_⟩
      refine g_if_ne_f (t := 40) dd_49_34 (by decide) hz' ?_
      exact no
def jl_lt : List (Nat × am_E) → Bool
  | [] => true
  | (k, _) :: l => Nat.blt k 66 && jl_lt l
theorem jl_lk {a : Nat} : ∀ {l : List (Nat × am_E)}, jl_lt l = true → 66 ≤ a → am_lk l a = none
  | [], _, _ => rfl
  | (k, e) :: l, h, ha => by
    have h' : (Nat.blt k 66 && jl_lt l) = true := h
    rw [Bool.and_eq_true] at h'
    have hk : k < 66 := Nat.le_of_ble_eq_true h'.1
    show (bif Nat.beq a k then some e else am_lk l a) = none
    have : Nat.beq a k = false := by
      cases hb : Nat.beq a k
      · rfl
      · have := Nat.eq_of_beq_eq_true hb
        omega
    rw [this, cond_false]
    exact jl_lk h'.2 ha
theorem jl_sbm {h h' : am_H} (hm : ax_I sbm h) (hg : ∀ a, 66 ≤ a → am_get h' a = am_get h a) (i2 : ax_I sb0 h' ∨ ax_I sb1 h') : ax_I sbm h' := by
  have c64 : ∀ sbx : ax_Sh, ax_I sbx h' → ax_at sbx 64 = ax_at sbm 64 → ax_at sbx 65 = ax_at sbm 65 → ax_I sbm h' := fun sbx hsb e64 e65 b s hs => by
    by_cases h66 : 66 ≤ b
    · rw [hg b h66]
      exact hm b s hs
    · by_cases h64 : b = 64
      · subst h64
        exact hsb 64 s (by rw [e64]; exact hs)
      · by_cases h65 : b = 65
        · subst h65
          exact hsb 65 s (by rw [e65]; exact hs)
        · have : ax_at sbm b = none := jv_none b (by omega)
          rw [this] at hs
          cases hs
  rcases i2 with q | q
  · exact c64 sb0 q rfl rfl
  · exact c64 sb1 q rfl rfl
theorem jq_get {h h' : am_H} (hQ : jv_Q h) (e66 : am_get h' 66 = am_get h 66) (e86 : am_get h' 86 = am_get h 86) : jv_Q h' := by
  obtain ⟨a, k, x, q1, q2, q3, q4⟩ := hQ
  exact ⟨a, k, x, by rw [ax_fv_get e66]; exact q1, by rw [ax_fv_get e66]; exact q2, by rw [e86]; exact q3, q4⟩
theorem jy_17 {h : am_H} (hI : ax_I sb0 h) (hm : ax_I sbm h) {n : Nat} (t1 : ax_fv h 0 1 = some (.retAddr n)) (t2 : ax_fv h 66 15 = some (.retAddr n)) (t3 : jv_X h n) (hQ : jv_Q h) : ∃ v h1 w h2, am_EG (am_mi 49) [.ref 0] h (some (.retAddr v), h1) ∧ am_EG (am_mi 151) [.ref 66] h1 (some (.retAddr w), h2) ∧ (true = true → v = w) ∧ Jv h2 ∧ (∃ fs, am_get h 0 = some (.inr (11, fs))) ∧ (∃ fs, am_get h1 66 = some (.inr (12, fs))) ∧ (h1.1 = h.1 ∧ h1.2.1 = h.2.1) ∧ h2.1 = h1.1 ∧ h2.2.1 = h1.2.1 := by
  obtain ⟨tx, tm, x1, x2, x3, hK⟩ := t3
  have e1 : rowv h 1 = tx := by unfold rowv; rw [x1]
  have e2 : rowv h 73 = tm := by unfold rowv; rw [x2]
  have b1 : ∀ i, i < 200 → am_ag (rowv h 1) i ≤ 126 := row1_le hI rfl
  have b2 : ∀ i, i < 200 → am_ag (rowv h 73) i ≤ 126 := row1_le hm rfl
  have al : ∀ i, i < n → am_ag (rowv h 1) i = am_ag (rowv h 73) i := by rw [e1, e2]; exact x3
  have hn := jw_200 ⟨Or.inl hI, hm⟩ t2
  have hX := o17_ok hI
  obtain ⟨res, mi', go', N', nr', td', at', Z', X', Y', k1, k2, k3, k4⟩ := x17_both (h := h) (len := n) (tx := rowv h 1) (tm := rowv h 73) (mi := fldv h 17 6) (go := fldv h 17 7) (Z := fun k => fldv h (18 + 2 * k) 3) hX hn (fun i hi => by have := b1 i hi; omega) b2 al (o17_V hI hm)
  have er := Eq.mp (congrArg (fun g => am_EG mi_13 [.ref 2, .ref 1, .retAddr n, .ref 17] g (some (.retAddr res), (rx17 h (rowv h 1) (N') (nr') (mi') (go') (Z' 0) (X' 0) (Z' 1) (X' 1) (Z' 2) (X' 2) (Z' 3) (X' 3) (Z' 4) (X' 4) (Z' 5) (X' 5)))) (o17_own hI)) k1
  have i1 := o17_I hI k3
  have m1 : ax_I sbm (rx17 h (rowv h 1) (N') (nr') (mi') (go') (Z' 0) (X' 0) (Z' 1) (X' 1) (Z' 2) (X' 2) (Z' 3) (X' 3) (Z' 4) (X' 4) (Z' 5) (X' 5)) := o17_M hI hm
  have og : ∀ a, 66 ≤ a → am_get (rx17 h (rowv h 1) (N') (nr') (mi') (go') (Z' 0) (X' 0) (Z' 1) (X' 1) (Z' 2) (X' 2) (Z' 3) (X' 3) (Z' 4) (X' 4) (Z' 5) (X' 5)) a = am_get h a := fun a ha => rx17_o hX (jl_lk (by decide) ha)
  have o0 : am_get (rx17 h (rowv h 1) (N') (nr') (mi') (go') (Z' 0) (X' 0) (Z' 1) (X' 1) (Z' 2) (X' 2) (Z' 3) (X' 3) (Z' 4) (X' 4) (Z' 5) (X' 5)) 0 = am_get h 0 := rx17_o hX rfl
  have s0 : ((rx17 h (rowv h 1) (N') (nr') (mi') (go') (Z' 0) (X' 0) (Z' 1) (X' 1) (Z' 2) (X' 2) (Z' 3) (X' 3) (Z' 4) (X' 4) (Z' 5) (X' 5))).1 = h.1 ∧ ((rx17 h (rowv h 1) (N') (nr') (mi') (go') (Z' 0) (X' 0) (Z' 1) (X' 1) (Z' 2) (X' 2) (Z' 3) (X' 3) (Z' 4) (X' 4) (Z' 5) (X' 5))).2.1 = h.2.1 := by unfold rx17; exact am_ups_1 _
  have g1 : am_get (rx17 h (rowv h 1) (N') (nr') (mi') (go') (Z' 0) (X' 0) (Z' 1) (X' 1) (Z' 2) (X' 2) (Z' 3) (X' 3) (Z' 4) (X' 4) (Z' 5) (X' 5)) 1 = _ := rx17_g1 hX
  have z0 : ax_fv (rx17 h (rowv h 1) (N') (nr') (mi') (go') (Z' 0) (X' 0) (Z' 1) (X' 1) (Z' 2) (X' 2) (Z' 3) (X' 3) (Z' 4) (X' 4) (Z' 5) (X' 5)) 18 3 = some (.retAddr (Z' 0)) := by
    unfold ax_fv
    rw [rx17_g18 hX]
    rfl
  have px : je_x (rx17 h (rowv h 1) (N') (nr') (mi') (go') (Z' 0) (X' 0) (Z' 1) (X' 1) (Z' 2) (X' 2) (Z' 3) (X' 3) (Z' 4) (X' 4) (Z' 5) (X' 5)) 17 mi' go' Z' X' := ⟨by unfold ax_fv; rw [rx17_g17 hX]; rfl, by unfold ax_fv; rw [rx17_g17 hX]; rfl, fun k hk => by
    match k, hk with
    | 0, _ => exact ⟨by unfold ax_fv; rw [rx17_g18 hX]; rfl, rx17_g19 hX⟩
    | 1, _ => exact ⟨by unfold ax_fv; rw [rx17_g20 hX]; rfl, rx17_g21 hX⟩
    | 2, _ => exact ⟨by unfold ax_fv; rw [rx17_g22 hX]; rfl, rx17_g23 hX⟩
    | 3, _ => exact ⟨by unfold ax_fv; rw [rx17_g24 hX]; rfl, rx17_g25 hX⟩
    | 4, _ => exact ⟨by unfold ax_fv; rw [rx17_g26 hX]; rfl, rx17_g27 hX⟩
    | 5, _ => exact ⟨by unfold ax_fv; rw [rx17_g28 hX]; rfl, rx17_g29 hX⟩
    | k + 6, hk => exact absurd hk (by omega)⟩
  have kp1 : kp h (rx17 h (rowv h 1) (N') (nr') (mi') (go') (Z' 0) (X' 0) (Z' 1) (X' 1) (Z' 2) (X' 2) (Z' 3) (X' 3) (Z' 4) (X' 4) (Z' 5) (X' 5)) 4 := kp_ck [1, 2, 3, 17, 18, 19, 20, 21, 22, 23, 24, 25, 26, 27, 28, 29] (fun a ha => rx17_o hX ha) (by decide) (fun k _ => ax_fv_get (og 66 (by decide)) k)
  have pl : je_L (rx17 h (rowv h 1) (N') (nr') (mi') (go') (Z' 0) (X' 0) (Z' 1) (X' 1) (Z' 2) (X' 2) (Z' 3) (X' 3) (Z' 4) (X' 4) (Z' 5) (X' 5)) := je_L_get (rx17_o hX rfl) (jv_E_L hK.2)
  generalize (rx17 h (rowv h 1) (N') (nr') (mi') (go') (Z' 0) (X' 0) (Z' 1) (X' 1) (Z' 2) (X' 2) (Z' 3) (X' 3) (Z' 4) (X' 4) (Z' 5) (X' 5)) = h1 at er i1 m1 og o0 s0 g1 z0 px pl kp1
  have fin : ∀ h3 : am_H, (ax_I sb0 h3 ∨ ax_I sb1 h3) → (∀ a, 66 ≤ a → am_get h3 a = am_get h1 a) → ax_fv h3 0 1 = ax_fv h1 0 1 → am_get h3 1 = am_get h1 1 → (if am_tc .ne res 4294967292 = false ∧ am_tc .ne (Z' 0) 0 = true then (ax_fv h3 0 16 = some (.retAddr 0) ∧ jv_N h3 mi' go' Z' X') else jv_K h3) → ∃ h4, am_EG (am_mi 151) [.ref 66] h3 (some (.retAddr (if am_tc .ne res 4294967292 = false ∧ am_tc .ne (Z' 0) 0 = true then Z' 0 else 4294967294)), h4) ∧ Jv h4 ∧ h4.1 = h3.1 ∧ h4.2.1 = h3.2.1 := fun h3 hx3 og3 l3 g3 hk3 => by
    have hm3 := jl_sbm m1 og3 hx3
    have gg : ∀ a, 66 ≤ a → am_get h3 a = am_get h a := fun a ha => (og3 a ha).trans (og a ha)
    exact jl_ref (tx := rowv h 1) hx3 hm3 (jq_get hQ (gg 66 (by decide)) (gg 86 (by decide))) hn (by rw [l3, ax_fv_get o0]; exact t1) (by rw [ax_fv_get (gg 66 (by decide))]; exact t2) (by rw [g3, g1]) (rowv_get (gg 73 (by decide))) al (rowv_get (gg 74 (by decide))) (fun k hk => rowv_get (gg (75 + k) (by omega))) k2 k3 k4 hk3
  have hbd : je_B Z' X' := je_bX k3.2.2.2.1 k3.2.2.2.2.2.1 k3.2.2.2.2.2.2.1
  rcases jz_lay (P := fun h => je_x h 17 mi' go' Z' X' ∧ je_L h) (Q := fun h => je_x h 17 mi' go' Z' X' ∧ je_T0 h mi' go' Z' X') (fun g g' hg hp => ⟨je_x_lo (by decide) (fun a h0 _ => hg a h0) (by decide) hp.1, je_L_get (hg 46 (by decide)) hp.2⟩) (xa := xta0) (xb := xtb0) (e := 4) (s := 17) (rs := 18) rfl rfl rfl rfl rfl rfl rfl rfl rfl rfl rfl rfl rfl (by decide) (by decide) rfl (fun h i p => te0_take k3.2.2.2.1 hbd i p.1 p.2) ⟨px, pl⟩ ((ax_I_to st_xta0).mp hI) t1 er ((ax_I_to st_xta0).mp i1) z0 with ⟨c1, c2, h3, d1, d2, d3, d4, d5, d6, d7, d8, d9⟩ | ⟨c1, d1⟩
  · obtain ⟨h4, p1, p2, p3⟩ := fin h3 (Or.inr ((ax_I_to st_xtb0).mpr d2)) (fun a ha => d5 a (jv_nonx rfl rfl a ha)) d6 d7 (by rw [if_pos ⟨c1, c2⟩]; exact ⟨d8, Or.inr ⟨(ax_I_to st_xtb0).mpr d2, d9.1, d9.2⟩⟩)
    rw [if_pos ⟨c1, c2⟩] at p1
    refine ⟨Z' 0, h3, Z' 0, h4, d1, p1, fun _ => rfl, p2, ⟨_, ov17_c0 hI⟩, ?_, ⟨d3.trans s0.1, d4.trans s0.2⟩, p3⟩
    obtain ⟨fs, hf⟩ := jv_g66 ⟨Or.inl i1, m1⟩
    exact ⟨fs, by rw [d5 66 (jv_nonx rfl rfl 66 (by decide))]; exact hf⟩
  · obtain ⟨h4, p1, p2, p3⟩ := fin h1 (Or.inl i1) (fun a ha => rfl) rfl rfl (by rw [if_neg c1]; exact jv_K_fv (ax_fv_get o0 16) (ax_fv_get (og 66 (by decide)) 53) (jv_E_0 hI i1 kp1) hK)
    rw [if_neg c1] at p1
    exact ⟨_, h1, _, h4, d1, p1, fun _ => rfl, p2, ⟨_, ov17_c0 hI⟩, jv_g66 ⟨Or.inl i1, m1⟩, s0, p3⟩
theorem jy_4 {h : am_H} (hI : ax_I sb1 h) (hm : ax_I sbm h) {n : Nat} (t1 : ax_fv h 0 1 = some (.retAddr n)) (t2 : ax_fv h 66 15 = some (.retAddr n)) (t3 : jv_X h n) (hQ : jv_Q h) : ∃ v h1 w h2, am_EG (am_mi 49) [.ref 0] h (some (.retAddr v), h1) ∧ am_EG (am_mi 151) [.ref 66] h1 (some (.retAddr w), h2) ∧ (true = true → v = w) ∧ Jv h2 ∧ (∃ fs, am_get h 0 = some (.inr (11, fs))) ∧ (∃ fs, am_get h1 66 = some (.inr (12, fs))) ∧ (h1.1 = h.1 ∧ h1.2.1 = h.2.1) ∧ h2.1 = h1.1 ∧ h2.2.1 = h1.2.1 := by
  obtain ⟨tx, tm, x1, x2, x3, hK⟩ := t3
  have e1 : rowv h 1 = tx := by unfold rowv; rw [x1]
  have e2 : rowv h 73 = tm := by unfold rowv; rw [x2]
  have b1 : ∀ i, i < 200 → am_ag (rowv h 1) i ≤ 126 := row1_le hI rfl
  have b2 : ∀ i, i < 200 → am_ag (rowv h 73) i ≤ 126 := row1_le hm rfl
  have al : ∀ i, i < n → am_ag (rowv h 1) i = am_ag (rowv h 73) i := by rw [e1, e2]; exact x3
  have hn := jw_200 ⟨Or.inr hI, hm⟩ t2
  have hX := o4_ok hI
  obtain ⟨res, mi', go', N', nr', td', at', Z', X', Y', k1, k2, k3, k4⟩ := x4_both (h := h) (len := n) (tx := rowv h 1) (tm := rowv h 73) (mi := fldv h 4 6) (go := fldv h 4 7) (Z := fun k => fldv h (5 + 2 * k) 3) hX hn (fun i hi => by have := b1 i hi; omega) b2 al (o4_V hI hm)
  have er := Eq.mp (congrArg (fun g => am_EG mi_13 [.ref 2, .ref 1, .retAddr n, .ref 4] g (some (.retAddr res), (rx4 h (rowv h 1) (N') (nr') (mi') (go') (Z' 0) (X' 0) (Z' 1) (X' 1) (Z' 2) (X' 2) (Z' 3) (X' 3) (Z' 4) (X' 4) (Z' 5) (X' 5)))) (o4_own hI)) k1
  have i1 := o4_I hI k3
  have m1 : ax_I sbm (rx4 h (rowv h 1) (N') (nr') (mi') (go') (Z' 0) (X' 0) (Z' 1) (X' 1) (Z' 2) (X' 2) (Z' 3) (X' 3) (Z' 4) (X' 4) (Z' 5) (X' 5)) := o4_M hI hm
  have og : ∀ a, 66 ≤ a → am_get (rx4 h (rowv h 1) (N') (nr') (mi') (go') (Z' 0) (X' 0) (Z' 1) (X' 1) (Z' 2) (X' 2) (Z' 3) (X' 3) (Z' 4) (X' 4) (Z' 5) (X' 5)) a = am_get h a := fun a ha => rx4_o hX (jl_lk (by decide) ha)
  have o0 : am_get (rx4 h (rowv h 1) (N') (nr') (mi') (go') (Z' 0) (X' 0) (Z' 1) (X' 1) (Z' 2) (X' 2) (Z' 3) (X' 3) (Z' 4) (X' 4) (Z' 5) (X' 5)) 0 = am_get h 0 := rx4_o hX rfl
  have s0 : ((rx4 h (rowv h 1) (N') (nr') (mi') (go') (Z' 0) (X' 0) (Z' 1) (X' 1) (Z' 2) (X' 2) (Z' 3) (X' 3) (Z' 4) (X' 4) (Z' 5) (X' 5))).1 = h.1 ∧ ((rx4 h (rowv h 1) (N') (nr') (mi') (go') (Z' 0) (X' 0) (Z' 1) (X' 1) (Z' 2) (X' 2) (Z' 3) (X' 3) (Z' 4) (X' 4) (Z' 5) (X' 5))).2.1 = h.2.1 := by unfold rx4; exact am_ups_1 _
  have g1 : am_get (rx4 h (rowv h 1) (N') (nr') (mi') (go') (Z' 0) (X' 0) (Z' 1) (X' 1) (Z' 2) (X' 2) (Z' 3) (X' 3) (Z' 4) (X' 4) (Z' 5) (X' 5)) 1 = _ := rx4_g1 hX
  have z0 : ax_fv (rx4 h (rowv h 1) (N') (nr') (mi') (go') (Z' 0) (X' 0) (Z' 1) (X' 1) (Z' 2) (X' 2) (Z' 3) (X' 3) (Z' 4) (X' 4) (Z' 5) (X' 5)) 5 3 = some (.retAddr (Z' 0)) := by
    unfold ax_fv
    rw [rx4_g5 hX]
    rfl
  have px : je_x (rx4 h (rowv h 1) (N') (nr') (mi') (go') (Z' 0) (X' 0) (Z' 1) (X' 1) (Z' 2) (X' 2) (Z' 3) (X' 3) (Z' 4) (X' 4) (Z' 5) (X' 5)) 4 mi' go' Z' X' := ⟨by unfold ax_fv; rw [rx4_g4 hX]; rfl, by unfold ax_fv; rw [rx4_g4 hX]; rfl, fun k hk => by
    match k, hk with
    | 0, _ => exact ⟨by unfold ax_fv; rw [rx4_g5 hX]; rfl, rx4_g6 hX⟩
    | 1, _ => exact ⟨by unfold ax_fv; rw [rx4_g7 hX]; rfl, rx4_g8 hX⟩
    | 2, _ => exact ⟨by unfold ax_fv; rw [rx4_g9 hX]; rfl, rx4_g10 hX⟩
    | 3, _ => exact ⟨by unfold ax_fv; rw [rx4_g11 hX]; rfl, rx4_g12 hX⟩
    | 4, _ => exact ⟨by unfold ax_fv; rw [rx4_g13 hX]; rfl, rx4_g14 hX⟩
    | 5, _ => exact ⟨by unfold ax_fv; rw [rx4_g15 hX]; rfl, rx4_g16 hX⟩
    | k + 6, hk => exact absurd hk (by omega)⟩
  have kp1 : kp h (rx4 h (rowv h 1) (N') (nr') (mi') (go') (Z' 0) (X' 0) (Z' 1) (X' 1) (Z' 2) (X' 2) (Z' 3) (X' 3) (Z' 4) (X' 4) (Z' 5) (X' 5)) 17 := kp_ck [1, 2, 3, 4, 5, 6, 7, 8, 9, 10, 11, 12, 13, 14, 15, 16] (fun a ha => rx4_o hX ha) (by decide) (fun k _ => ax_fv_get (og 66 (by decide)) k)
  have pl : je_L (rx4 h (rowv h 1) (N') (nr') (mi') (go') (Z' 0) (X' 0) (Z' 1) (X' 1) (Z' 2) (X' 2) (Z' 3) (X' 3) (Z' 4) (X' 4) (Z' 5) (X' 5)) := je_L_get (rx4_o hX rfl) (jv_E_L hK.2)
  generalize (rx4 h (rowv h 1) (N') (nr') (mi') (go') (Z' 0) (X' 0) (Z' 1) (X' 1) (Z' 2) (X' 2) (Z' 3) (X' 3) (Z' 4) (X' 4) (Z' 5) (X' 5)) = h1 at er i1 m1 og o0 s0 g1 z0 px pl kp1
  have fin : ∀ h3 : am_H, (ax_I sb0 h3 ∨ ax_I sb1 h3) → (∀ a, 66 ≤ a → am_get h3 a = am_get h1 a) → ax_fv h3 0 1 = ax_fv h1 0 1 → am_get h3 1 = am_get h1 1 → (if am_tc .ne res 4294967292 = false ∧ am_tc .ne (Z' 0) 0 = true then (ax_fv h3 0 16 = some (.retAddr 0) ∧ jv_N h3 mi' go' Z' X') else jv_K h3) → ∃ h4, am_EG (am_mi 151) [.ref 66] h3 (some (.retAddr (if am_tc .ne res 4294967292 = false ∧ am_tc .ne (Z' 0) 0 = true then Z' 0 else 4294967294)), h4) ∧ Jv h4 ∧ h4.1 = h3.1 ∧ h4.2.1 = h3.2.1 := fun h3 hx3 og3 l3 g3 hk3 => by
    have hm3 := jl_sbm m1 og3 hx3
    have gg : ∀ a, 66 ≤ a → am_get h3 a = am_get h a := fun a ha => (og3 a ha).trans (og a ha)
    exact jl_ref (tx := rowv h 1) hx3 hm3 (jq_get hQ (gg 66 (by decide)) (gg 86 (by decide))) hn (by rw [l3, ax_fv_get o0]; exact t1) (by rw [ax_fv_get (gg 66 (by decide))]; exact t2) (by rw [g3, g1]) (rowv_get (gg 73 (by decide))) al (rowv_get (gg 74 (by decide))) (fun k hk => rowv_get (gg (75 + k) (by omega))) k2 k3 k4 hk3
  have hbd : je_B Z' X' := je_bX k3.2.2.2.1 k3.2.2.2.2.2.1 k3.2.2.2.2.2.2.1
  rcases jz_lay (P := fun h => je_x h 4 mi' go' Z' X' ∧ je_L h) (Q := fun h => je_x h 4 mi' go' Z' X' ∧ je_T0 h mi' go' Z' X') (fun g g' hg hp => ⟨je_x_lo (by decide) (fun a h0 _ => hg a h0) (by decide) hp.1, je_L_get (hg 46 (by decide)) hp.2⟩) (xa := xta1) (xb := xtb1) (e := 17) (s := 4) (rs := 5) rfl rfl rfl rfl rfl rfl rfl rfl rfl rfl rfl rfl rfl (by decide) (by decide) rfl (fun h i p => te1_take k3.2.2.2.1 hbd i p.1 p.2) ⟨px, pl⟩ ((ax_I_to st_xta1).mp hI) t1 er ((ax_I_to st_xta1).mp i1) z0 with ⟨c1, c2, h3, d1, d2, d3, d4, d5, d6, d7, d8, d9⟩ | ⟨c1, d1⟩
  · obtain ⟨h4, p1, p2, p3⟩ := fin h3 (Or.inl ((ax_I_to st_xtb1).mpr d2)) (fun a ha => d5 a (jv_nonx rfl rfl a ha)) d6 d7 (by rw [if_pos ⟨c1, c2⟩]; exact ⟨d8, Or.inl ⟨(ax_I_to st_xtb1).mpr d2, d9.1, d9.2⟩⟩)
    rw [if_pos ⟨c1, c2⟩] at p1
    refine ⟨Z' 0, h3, Z' 0, h4, d1, p1, fun _ => rfl, p2, ⟨_, ov4_c0 hI⟩, ?_, ⟨d3.trans s0.1, d4.trans s0.2⟩, p3⟩
    obtain ⟨fs, hf⟩ := jv_g66 ⟨Or.inr i1, m1⟩
    exact ⟨fs, by rw [d5 66 (jv_nonx rfl rfl 66 (by decide))]; exact hf⟩
  · obtain ⟨h4, p1, p2, p3⟩ := fin h1 (Or.inr i1) (fun a ha => rfl) rfl rfl (by rw [if_neg c1]; exact jv_K_fv (ax_fv_get o0 16) (ax_fv_get (og 66 (by decide)) 53) (jv_E_1 hI i1 kp1) hK)
    rw [if_neg c1] at p1
    exact ⟨_, h1, _, h4, d1, p1, fun _ => rfl, p2, ⟨_, ov4_c0 hI⟩, jv_g66 ⟨Or.inr i1, m1⟩, s0, p3⟩
theorem jb_lay : am_B2 Jv true 49 151 [] := by
  intro h hJ
  obtain ⟨⟨hI, hm⟩, ⟨n, t1, t2, t3⟩, hQ⟩ := hJ
  rcases hI with hI | hI
  · exact jy_17 hI hm t1 t2 t3 hQ
  · exact jy_4 hI hm t1 t2 t3 hQ
