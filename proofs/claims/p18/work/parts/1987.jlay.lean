/-! ===== lay of the class: the two evenings change places ===== -/
def jy_X : ax_X := (1, [(0, 0, 0, [(0, 200)])], [], [])
theorem jy_read {sh : ax_Sh} {s : Nat} (e : ax_ck ax_is (ax_evd (ax_tab sh) 9 13 [.ref 2, .ref 1, .retAddr (4294967296 + 0), .ref s] jy_X) = true) {n : Nat} (hn : ax_in n [(0, 200)]) : ax_Cn sh 13 [.ref 2, .ref 1, .retAddr n, .ref s] := by
  intro h hI
  have hx : ax_xo sh (fun _ => n) jy_X h := by
    refine ⟨rfl, fun i e he => ?_, fun q hq => (by cases hq), fun q hq => (by cases hq), hI⟩
    match i, he with
    | 0, he => cases he; exact ⟨hn, fun q => absurd rfl q⟩
    | i + 1, he => cases he
  obtain ⟨en, hp, ρ', -, -, v, h', q1, q2, q3, q4⟩ := ax_run (ax_tab_ok sh) e (vs := [.ref 2, .ref 1, .retAddr n, .ref s]) (ax_rs.c ax_rvr (ax_rs.c ax_rvr (ax_rs.c (ax_rvi (by decide) (by rw [ax_vl_i])) (ax_rs.c ax_rvr trivial)))) hx
  obtain ⟨m, -, rfl⟩ := ax_is_ok hp q2
  exact ⟨_, h', q1, q3.2.2.2.2, q4⟩
theorem jy_take {sh : ax_Sh} (e : ax_ck ax_no (ax_evd (ax_tab sh) 9 28 [.ref 0] (ax_x0 0)) = true) (h : am_H) (hI : ax_I sh h) : ∃ h', am_EG (am_mi 28) [.ref 0] h (none, h') ∧ ax_I sh h' ∧ ax_Fr sh h h' := by
  obtain ⟨en, hp, ρ', -, -, v, h', q1, q2, q3, q4⟩ := ax_run (ax_tab_ok sh) e (ρ := fun _ => 0) (vs := [.ref 0]) (ax_rs.c ax_rvr trivial) (ax_x0_ok (fun _ => by decide) hI)
  unfold ax_no at hp
  split at hp
  · rename_i hn
    rw [hn] at q2
    cases v with
    | none => exact ⟨h', q1, q3.2.2.2.2, q4⟩
    | some v => exact q2.elim
  · cases hp
theorem ax_at_hd {c c' : ax_C} {t : List ax_C} {bs : ax_Sh} {a : Nat} (h : a ≠ 0) : ax_at ((c :: t) :: bs) a = ax_at ((c' :: t) :: bs) a := by
  unfold ax_at
  rw [am_nth_eq, am_nth_eq]
  by_cases h8 : a / 8 = 0
  · rw [h8]
    show am_nth (c :: t) (a % 8) = am_nth (c' :: t) (a % 8)
    rw [am_nth_eq, am_nth_eq]
    obtain ⟨m, hm⟩ : ∃ m, a % 8 = m + 1 := ⟨a % 8 - 1, by omega⟩
    rw [hm, List.getElem?_cons_succ, List.getElem?_cons_succ]
  · obtain ⟨m, hm⟩ : ∃ m, a / 8 = m + 1 := ⟨a / 8 - 1, by omega⟩
    rw [hm, List.getElem?_cons_succ, List.getElem?_cons_succ]
/-- the fields of the class' object when its two evenings have changed places -/
theorem jy_swap {xa xb : ax_Sh} {fs : List ax_F} {t : List ax_C} {bs : ax_Sh} {e s : Nat} (ha : xa = (.inr (11, fs) :: t) :: bs) (hb : xb = (.inr (11, (fs.set 3 (1, s, [])).set 4 (1, e, [])) :: t) :: bs) (hl : fs.length = 17) {h : am_H} {vs : List Value} (hI : ax_I xa h) (hg : am_get h 0 = some (.inr (11, vs))) (hv : vs.length = 17) : ax_I xb (am_upd (am_upd h 0 (.inr (11, vs.set 3 (.ref s)))) 0 (.inr (11, (vs.set 3 (.ref s)).set 4 (.ref e)))) ∧ ∀ a, a ≠ 0 → am_get (am_upd (am_upd h 0 (.inr (11, vs.set 3 (.ref s)))) 0 (.inr (11, (vs.set 3 (.ref s)).set 4 (.ref e)))) a = am_get h a := by
  have g1 := am_get_upd (e := .inr (11, vs.set 3 (.ref s))) hg
  have g1' : am_get (am_upd h 0 (.inr (11, vs.set 3 (.ref s)))) 0 = some (.inr (11, vs.set 3 (.ref s))) := by rw [g1, if_pos rfl]
  have g2 := am_get_upd (e := .inr (11, (vs.set 3 (.ref s)).set 4 (.ref e))) g1'
  have hne : ∀ a, a ≠ 0 → am_get (am_upd (am_upd h 0 (.inr (11, vs.set 3 (.ref s)))) 0 (.inr (11, (vs.set 3 (.ref s)).set 4 (.ref e)))) a = am_get h a := fun a ha => by rw [g2, if_neg ha, g1, if_neg ha]
  refine ⟨fun a c hc => ?_, hne⟩
  by_cases h0 : a = 0
  · subst h0
    rw [hb] at hc
    have hc' : some (.inr (11, (fs.set 3 (1, s, [])).set 4 (1, e, []))) = some c := hc
    cases hc'
    refine ⟨.inr (11, (vs.set 3 (.ref s)).set 4 (.ref e)), by rw [g2, if_pos rfl], And.intro rfl (And.intro (by simp [hl, hv]) fun k f v hf hv' => ?_)⟩
    obtain ⟨vs0, hg0, -, ho⟩ := hI.obj (a := 0) (ci := 11) (fs := fs) (by rw [ha]; rfl)
    rw [hg] at hg0
    have e1 : vs = vs0 := by cases hg0; rfl
    subst e1
    by_cases h4 : k = 4
    · subst h4
      rw [List.getElem?_set_self (by simp [hl])] at hf
      rw [List.getElem?_set_self (by simp [hv])] at hv'
      cases hf
      cases hv'
      rfl
    · rw [List.getElem?_set_ne (fun q => h4 q.symm)] at hf hv'
      by_cases h3 : k = 3
      · subst h3
        rw [List.getElem?_set_self (by omega)] at hf hv'
        cases hf
        cases hv'
        rfl
      · rw [List.getElem?_set_ne (fun q => h3 q.symm)] at hf hv'
        exact ho k f v hf hv'
  · rw [hne a h0]
    refine hI a c ?_
    rw [ha]
    rw [hb] at hc
    rw [ax_at_hd h0] at hc
    exact hc
theorem jy_obj {g : am_H} {c : ax_Sh} {a ci : Nat} {fl : List ax_F} (hc : ax_I c g) (hat : ax_at c a = some (.inr (ci, fl))) : ∃ vs, am_get g a = some (.inr (ci, vs)) ∧ vs.length = fl.length ∧ (∀ (k b : Nat) (R : ax_R), fl[k]? = some (1, b, R) → vs[k]? = some (Value.ref b)) ∧ (∀ (k w : Nat) (R : ax_R), fl[k]? = some (0, w, R) → ∃ n, vs[k]? = some (Value.retAddr n) ∧ ax_in n R) := by
  obtain ⟨vs, hv, hlen, ho⟩ := hc.obj hat
  refine ⟨vs, hv, hlen, fun k b R hk => ?_, fun k w R hk => ?_⟩
  · have hkl : k < vs.length := by rw [hlen]; exact (List.getElem?_eq_some_iff.mp hk).1
    have h1 : vs[k] = Value.ref b := ho k _ _ hk (List.getElem?_eq_getElem hkl)
    rw [List.getElem?_eq_getElem hkl, h1]
  · have hkl : k < vs.length := by rw [hlen]; exact (List.getElem?_eq_some_iff.mp hk).1
    have h1 : ∃ n, vs[k] = Value.retAddr n ∧ ax_in n R := ho k _ _ hk (List.getElem?_eq_getElem hkl)
    obtain ⟨n, hn, hin⟩ := h1
    exact ⟨n, by rw [List.getElem?_eq_getElem hkl, hn], hin⟩
/-- lay, from one order of the evenings -/
theorem jy_lay {xa xb : ax_Sh} {fs : List ax_F} {t : List ax_C} {bs : ax_Sh} {e s re rs : Nat} {fe fse fr frs : List ax_F} (ha : xa = (.inr (11, fs) :: t) :: bs) (hb : xb = (.inr (11, (fs.set 3 (1, s, [])).set 4 (1, e, [])) :: t) :: bs) (hl : fs.length = 17)
    (f0 : fs[0]? = some (1, 1, [])) (f1 : fs[1]? = some (0, 0, [(0, 200)])) (f2 : fs[2]? = some (1, 2, [])) (f3 : fs[3]? = some (1, e, [])) (f4 : fs[4]? = some (1, s, []))
    (a2 : ax_at xa 2 = some (.inr (6, fr))) (as_ : ax_at xa s = some (.inr (1, fse))) (as0 : fse[0]? = some (1, rs, [])) (ars : ax_at xa rs = some (.inr (8, frs))) (ars3 : frs[3]? = some (0, 1, [(0, 4)])) (ars' : frs.length = 4) (hs0 : s ≠ 0) (hrs0 : rs ≠ 0) {cls1 : List ax_R} (a1 : ax_at xa 1 = some (.inl (1, 200, 0, cls1)))
    (cr : ∀ n, ax_in n [(0, 200)] → ax_Cn xa 13 [.ref 2, .ref 1, .retAddr n, .ref s]) (ct : ∀ h, ax_I xb h → ∃ h', am_EG (am_mi 28) [.ref 0] h (none, h') ∧ ax_I xb h' ∧ ax_Fr xb h h') {h : am_H} (hI : ax_I xa h) : ∃ v h', am_EG (am_mi 49) [.ref 0] h (some (.retAddr v), h') ∧ (ax_I xa h' ∨ ax_I xb h') ∧ h'.1 = h.1 ∧ h'.2.1 = h.2.1 ∧ (∀ a, ax_at xa a = none → am_get h' a = am_get h a) ∧ ax_fv h' 0 1 = ax_fv h 0 1 ∧ am_get h' 1 = am_get h 1 := by
  have h0at : ax_at xa 0 = some (.inr (11, fs)) := by rw [ha]; rfl
  obtain ⟨vs, hg, hvl, hvr, hvi⟩ := jy_obj hI h0at
  obtain ⟨n, hn, hnr⟩ := hvi 1 0 _ f1
  obtain ⟨v2, hg2, -⟩ := jy_obj hI a2
  obtain ⟨v, h1, c1, c2, c3⟩ := cr n hnr h hI
  obtain ⟨ws, kg, kl, kr, ki⟩ := jy_obj c2 h0at
  have kl17 : ws.length = 17 := by rw [kl, hl]
  obtain ⟨ss, sg, sl, sr, -⟩ := jy_obj c2 as_
  obtain ⟨rr, rg, rl, -, ri⟩ := jy_obj c2 ars
  obtain ⟨sz, hsz, hszr⟩ := ri 3 1 _ ars3
  have e1 : ∀ r : am_R, am_Good mi_49 19 [some (.ref 0), none] [.retAddr v] h1 r → am_EG mi_49 [.ref 0] h r := fun r hgood => by
    refine am_enter (n := 1) tk_49.2.1 (by simp [Value.category]) (Nat.le_of_ble_eq_true rfl) ?_
    show am_Good mi_49 0 [some (.ref 0), none] [] h _
    refine g_aload_n (i := 0) dd_49_0 rfl ?_
    refine g_getfield (k := 2) am_ck11 (by decide) (Or.inl w_513) dd_49_1 hg (hvr 2 _ _ f2) ?_
    refine g_aload_n (i := 0) dd_49_4 rfl ?_
    refine g_getfield (k := 0) am_ck11 (by decide) (Or.inl w_511) dd_49_5 hg (hvr 0 _ _ f0) ?_
    refine g_aload_n (i := 0) dd_49_8 rfl ?_
    refine g_getfield (k := 1) am_ck11 (by decide) (Or.inl w_512) dd_49_9 hg hn ?_
    refine g_aload_n (i := 0) dd_49_12 rfl ?_
    refine g_getfield (k := 4) am_ck11 (by decide) (Or.inl w_515) dd_49_13 hg (hvr 4 _ _ f4) ?_
    show am_Good mi_49 16 [some (.ref 0), none] [.ref s, .retAddr n, .ref 1, .ref 2] h _
    refine g_virtual (M := mi_49) (M' := mi_13) (n := 3) (ci := 6) (b := 2) (as := [.ref 1, .retAddr n, .ref s]) (st := []) (r1 := (some (.retAddr v), h1)) w_380 w_381 w_382 ⟨lk_13.1, lk_13.2.1, lk_13.2.2, by decide, by decide⟩ rfl hg2 rfl (by simp) dd_49_16 c1 ?_
    exact hgood
  have no : am_Good mi_49 37 [some (.ref 0), none] [] h1 (some (.retAddr 4294967294), h1) := by
    refine g_bipush dd_49_37 bi_m2 ?_
    exact g_ireturn rfl dd_49_39
  have l1 : ax_fv h1 0 1 = ax_fv h 0 1 := c3.2.2.2.2 0 11 fs 1 _ h0at f1
  by_cases hv : am_tc .ne v 4294967292 = true
  · refine ⟨4294967294, h1, e1 _ ?_, Or.inl c2, c3.1, c3.2.1, c3.2.2.1, l1, c3.2.2.2.1 1 1 200 _ a1⟩
    refine g_bipush dd_49_19 bi_m4 ?_
    refine g_icmp_ne_t (t := 37) dd_49_21 (by decide) hv ?_
    exact no
  · have hv' : am_tc .ne v 4294967292 = false := by simpa using hv
    have e2 : ∀ r : am_R, am_Good mi_49 34 [some (.ref 0), none] [.retAddr sz] h1 r → am_EG mi_49 [.ref 0] h r := fun r hgood => e1 r (by
      refine g_bipush dd_49_19 bi_m4 ?_
      refine g_icmp_ne_f (t := 37) dd_49_21 (by decide) hv' ?_
      refine g_aload_n (i := 0) dd_49_24 rfl ?_
      refine g_getfield (k := 4) am_ck11 (by decide) (Or.inl w_515) dd_49_25 kg (kr 4 _ _ f4) ?_
      refine g_getfield (k := 0) am_ck1 (by decide) (Or.inr ⟨_, w_84⟩) dd_49_28 sg (sr 0 _ _ as0) ?_
      refine g_getfield (k := 3) am_ck8 (by decide) (Or.inr ⟨_, w_67⟩) dd_49_31 rg hsz ?_
      exact hgood)
    by_cases hz : am_tc .ne sz 0 = true
    · -- taken
      obtain ⟨j1, j2⟩ := jy_swap ha hb hl c2 kg kl17
      have kg1 := am_get_upd (e := .inr (11, ws.set 3 (.ref s))) kg
      have kg2 : am_get (am_upd h1 0 (.inr (11, ws.set 3 (.ref s)))) 0 = some (.inr (11, ws.set 3 (.ref s))) := by rw [kg1, if_pos rfl]
      have kg3 := am_get_upd (e := .inr (11, (ws.set 3 (.ref s)).set 4 (.ref e))) kg2
      generalize hh2 : am_upd (am_upd h1 0 (.inr (11, ws.set 3 (.ref s)))) 0 (.inr (11, (ws.set 3 (.ref s)).set 4 (.ref e))) = h2 at j1 j2 kg3
      have z2 : h2.1 = h1.1 ∧ h2.2.1 = h1.2.1 := by rw [← hh2]; exact ⟨rfl, rfl⟩
      obtain ⟨h3, t1, t2, t3⟩ := ct h2 j1
      have hbat : ax_at xb 0 = some (.inr (11, (fs.set 3 (1, s, [])).set 4 (1, e, []))) := by rw [hb]; rfl
      obtain ⟨us, ug, ul, ur, ui⟩ := jy_obj t2 hbat
      have xeq : ∀ a, a ≠ 0 → ax_at xb a = ax_at xa a := fun a h0 => by rw [ha, hb]; exact ax_at_hd h0
      obtain ⟨ss3, sg3, -, sr3, -⟩ := jy_obj (a := s) (ci := 1) (fl := fse) t2 (by rw [xeq s hs0]; exact as_)
      obtain ⟨rr3, rg3, -, -, ri3⟩ := jy_obj (a := rs) (ci := 8) (fl := frs) t2 (by rw [xeq rs hrs0]; exact ars)
      obtain ⟨sz3, hsz3, -⟩ := ri3 3 1 _ ars3
      have g0f : ((fs.set 3 (1, s, [])).set 4 (1, e, []))[3]? = some (1, s, []) := by
        rw [List.getElem?_set_ne (by decide), List.getElem?_set_self (by omega)]
      have g1f : ((fs.set 3 (1, s, [])).set 4 (1, e, []))[1]? = some (0, 0, [(0, 200)]) := by
        rw [List.getElem?_set_ne (by decide), List.getElem?_set_ne (by decide)]
        exact f1
      refine ⟨sz3, h3, e2 _ ?_, Or.inr t2, by rw [t3.1, z2.1, c3.1], by rw [t3.2.1, z2.2, c3.2.1], fun a hna => ?_, ?_, by rw [t3.2.2.2.1 1 1 200 _ (by rw [xeq 1 (by decide)]; exact a1), j2 1 (by decide), c3.2.2.2.1 1 1 200 _ a1]⟩
      · refine g_if_ne_t (t := 40) dd_49_34 (by decide) hz ?_
        refine g_aload_n (i := 0) dd_49_40 rfl ?_
        refine g_getfield (k := 3) am_ck11 (by decide) (Or.inl w_514) dd_49_41 kg (kr 3 _ _ f3) ?_
        refine g_astore_n (i := 1) dd_49_44 (am_nlb_ok rfl) (by decide) ?_
        refine g_aload_n (i := 0) dd_49_45 rfl ?_
        refine g_aload_n (i := 0) dd_49_46 rfl ?_
        refine g_getfield (k := 4) am_ck11 (by decide) (Or.inl w_515) dd_49_47 kg (kr 4 _ _ f4) ?_
        refine g_putfield (k := 3) am_ck11 (by decide) (Or.inl w_514) (Or.inl rfl) dd_49_50 kg (by omega) trivial ?_
        refine g_aload_n (i := 0) dd_49_53 rfl ?_
        refine g_aload_n (i := 1) dd_49_54 rfl ?_
        refine g_putfield (k := 4) am_ck11 (by decide) (Or.inl w_515) (Or.inl rfl) dd_49_55 kg2 (by rw [List.length_set]; omega) trivial ?_
        rw [hh2]
        show am_Good mi_49 58 [some (.ref 0), some (.ref e)] [] h2 _
        refine g_aload_n (i := 0) dd_49_58 rfl ?_
        show am_Good mi_49 59 [some (.ref 0), some (.ref e)] [.ref 0] h2 _
        refine g_virtual (M := mi_49) (M' := mi_28) (n := 0) (ci := 11) (b := 0) (as := []) (st := []) (r1 := (none, h3)) w_438 w_440 ps_28 ⟨lk_28.1, lk_28.2.1, lk_28.2.2, by decide, by decide⟩ rfl (by rw [kg3, if_pos rfl]) rfl (by simp) dd_49_59 t1 ?_
        refine g_aload_n (i := 0) dd_49_62 rfl ?_
        refine g_getfield (k := 3) am_ck11 (by decide) (Or.inl w_514) dd_49_63 ug (ur 3 _ _ g0f) ?_
        refine g_getfield (k := 0) am_ck1 (by decide) (Or.inr ⟨_, w_84⟩) dd_49_66 sg3 (sr3 0 _ _ as0) ?_
        refine g_getfield (k := 3) am_ck8 (by decide) (Or.inr ⟨_, w_67⟩) dd_49_69 rg3 hsz3 ?_
        exact g_ireturn rfl dd_49_72
      · have h0 : a ≠ 0 := fun q => by rw [q, h0at] at hna; cases hna
        rw [t3.2.2.1 a (by rw [xeq a h0]; exact hna), j2 a h0, c3.2.2.1 a hna]
      · rw [t3.2.2.2.2 0 11 _ 1 _ hbat g1f, ← l1]
        unfold ax_fv
        rw [kg3, if_pos rfl, kg]
        show ((ws.set 3 (.ref s)).set 4 (.ref e))[1]? = ws[1]?
        rw [List.getElem?_set_ne (by decide), List.getElem?_set_ne (by decide)]
    · have hz' : am_tc .ne sz 0 = false := by simpa using hz
      refine ⟨4294967294, h1, e2 _ ?_, Or.inl c2, c3.1, c3.2.1, c3.2.2.1, l1, c3.2.2.2.1 1 1 200 _ a1⟩
      refine g_if_ne_f (t := 40) dd_49_34 (by decide) hz' ?_
      exact no
