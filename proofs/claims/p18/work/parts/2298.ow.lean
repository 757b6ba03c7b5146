/-! ===== views of a heap of a shape ===== -/
theorem row_in {sh : ax_Sh} {h : am_H} {a kd n w : Nat} {cols : List ax_R} (hI : ax_I sh h) (ha : ax_at sh a = some (.inl (kd, n, w, cols))) : am_get h a = some (.inl (kd, n, rowv h a)) ∧ ∀ i : Nat, i < n → ∃ R, cols[i % cols.length]? = some R ∧ ax_in (am_ag (rowv h a) i) R := by
  obtain ⟨x, hx, h2⟩ := hI.row ha
  have e : rowv h a = x := by unfold rowv; rw [hx]
  rw [e]
  exact ⟨hx, h2⟩
theorem fld_in {sh : ax_Sh} {h : am_H} {a ci k w : Nat} {fs : List ax_F} {R : ax_R} (hI : ax_I sh h) (ha : ax_at sh a = some (.inr (ci, fs))) (hk : fs[k]? = some (0, w, R)) : ax_fv h a k = some (.retAddr (fldv h a k)) ∧ ax_in (fldv h a k) R := by
  obtain ⟨vs, hv, hl, h3⟩ := hI.obj ha
  obtain ⟨n, e, hn⟩ := jm_fld hl h3 hk
  have e1 : ax_fv h a k = some (.retAddr n) := by unfold ax_fv; rw [hv]; exact e
  have e2 : fldv h a k = n := by unfold fldv; rw [e1]
  rw [e2]
  exact ⟨e1, hn⟩
theorem fld_eq {sh : ax_Sh} {h : am_H} {a ci k w c : Nat} {fs : List ax_F} (hI : ax_I sh h) (ha : ax_at sh a = some (.inr (ci, fs))) (hk : fs[k]? = some (0, w, [(c, c)])) : ax_fv h a k = some (.retAddr c) := by
  obtain ⟨e, hn⟩ := fld_in hI ha hk
  have := jm_in1 hn
  rw [e, show fldv h a k = c by omega]
theorem ref_in {sh : ax_Sh} {h : am_H} {a ci k b : Nat} {fs : List ax_F} {R : ax_R} (hI : ax_I sh h) (ha : ax_at sh a = some (.inr (ci, fs))) (hk : fs[k]? = some (1, b, R)) : ax_fv h a k = some (.ref b) := by
  obtain ⟨vs, hv, hl, h3⟩ := hI.obj ha
  unfold ax_fv
  rw [hv]
  exact jm_ref hl h3 hk
theorem val_in {sh : ax_Sh} {h : am_H} {a ci k : Nat} {fs : List ax_F} (hI : ax_I sh h) (ha : ax_at sh a = some (.inr (ci, fs))) (hk : k < fs.length) : ax_fv h a k = some (valv h a k) := by
  obtain ⟨vs, hv, hl, h3⟩ := hI.obj ha
  have e : ax_fv h a k = vs[k]? := by unfold ax_fv; rw [hv]
  unfold valv
  rw [e, List.getElem?_eq_getElem (by omega)]
  rfl
theorem obj_ls {sh : ax_Sh} {h : am_H} {a ci : Nat} {fs : List ax_F} {ws : List Value} (hI : ax_I sh h) (ha : ax_at sh a = some (.inr (ci, fs))) (hl : fs.length = ws.length) (hw : ∀ k, k < ws.length → ax_fv h a k = ws[k]?) : am_get h a = some (.inr (ci, ws)) := by
  obtain ⟨vs, hv, hl2, -⟩ := hI.obj ha
  have : vs = ws := List.ext_getElem? (fun k => by
    by_cases q : k < ws.length
    · have h1 := hw k q
      unfold ax_fv at h1
      rw [hv] at h1
      exact h1
    · rw [List.getElem?_eq_none (by omega), List.getElem?_eq_none (by omega)])
  rw [hv, this]
theorem ok_own {sh : ax_Sh} {h : am_H} {a : Nat} {s : ax_C} {e : am_E} (hI : ax_I sh h) (ha : ax_at sh a = some s) (hg : am_get h a = some e) : ax_ok s e := by
  obtain ⟨e', he, ho⟩ := hI a s ha
  rw [hg] at he
  cases he
  exact ho
theorem ok_set {ci k w n : Nat} {fs : List ax_F} {ws : List Value} {R : ax_R} (ho : ax_ok (.inr (ci, fs)) (.inr (ci, ws))) (hk : fs[k]? = some (0, w, R)) (hn : ax_in n R) : ax_ok (.inr (ci, fs)) (.inr (ci, ws.set k (.retAddr n))) := by
  obtain ⟨-, h2, h3⟩ := ho
  refine ⟨rfl, by rw [List.length_set]; exact h2, fun j f v hf hv => ?_⟩
  by_cases q : j = k
  · subst q
    rw [hk] at hf
    cases hf
    have hlt : j < fs.length := (List.getElem?_eq_some_iff.mp hk).1
    rw [List.getElem?_set_self (by omega)] at hv
    cases hv
    unfold ax_fok
    rw [if_pos rfl]
    exact ⟨n, rfl, hn⟩
  · rw [List.getElem?_set_ne (Ne.symm q)] at hv
    exact h3 j f v hf hv
theorem ok_row1 {kd n w b x : Nat} (hb : b < 4294967296) (h : ∀ i, i < n → am_ag x i ≤ b) : ax_ok (.inl (kd, n, w, [[(0, b)]])) (.inl (kd, n, x)) := by
  refine ⟨rfl, rfl, fun i hi => ⟨[(0, b)], ?_, ?_⟩⟩
  · show [[(0, b)]][i % 1]? = _
    rw [Nat.mod_one]
    rfl
  · have := h i hi
    exact ax_in_1 (by omega) (Nat.zero_le _) this
theorem row1_le {sh : ax_Sh} {h : am_H} {a kd n w b : Nat} (hI : ax_I sh h) (ha : ax_at sh a = some (.inl (kd, n, w, [[(0, b)]]))) : ∀ i, i < n → am_ag (rowv h a) i ≤ b := fun i hi => by
  obtain ⟨R, hR, hin⟩ := (row_in hI ha).2 i hi
  have hR' : [[(0, b)]][i % 1]? = some R := hR
  rw [Nat.mod_one] at hR'
  cases hR'
  exact (jm_in1 hin).2
theorem ok_at {sh : ax_Sh} {a : Nat} {s0 : ax_C} {e : am_E} (h0 : ax_at sh a = some s0) (ho : ax_ok s0 e) : ∀ s, ax_at sh a = some s → ax_ok s e := fun s hs => by
  rw [h0] at hs
  cases hs
  exact ho
theorem ok_none {sh : ax_Sh} {a : Nat} {e : am_E} (h0 : ax_at sh a = none) : ∀ s, ax_at sh a = some s → ax_ok s e := fun s hs => by
  rw [h0] at hs
  cases hs
def ax_oks (sh : ax_Sh) : List (Nat × am_E) → Prop
  | [] => True
  | (a, e) :: l => (∀ s, ax_at sh a = some s → ax_ok s e) ∧ ax_oks sh l
theorem ax_I_ups {sh : ax_Sh} {h : am_H} (hI : ax_I sh h) : ∀ {l : List (Nat × am_E)}, am_ke h (l.map Prod.fst) → ax_oks sh l → ax_I sh (am_ups h l)
  | [], _, _ => hI
  | (a, e) :: l, hk, hok => by
    have ih := ax_I_ups hI (l := l) hk.2 hok.2
    intro b s hs
    show ∃ e', am_get (am_upd (am_ups h l) a e) b = some e' ∧ ax_ok s e'
    obtain ⟨e0, he0⟩ : ∃ e0, am_get (am_ups h l) a = some e0 := by
      rw [am_get_ups hk.2]
      cases am_lk l a with
      | none => exact hk.1
      | some e1 => exact ⟨e1, rfl⟩
    rw [am_get_upd he0]
    by_cases q : b = a
    · subst q
      rw [if_pos rfl]
      exact ⟨e, rfl, hok.1 s hs⟩
    · rw [if_neg q]
      exact ih b s hs
def am_owns (h : am_H) : List (Nat × am_E) → Prop
  | [] => True
  | (a, e) :: l => am_get h a = some e ∧ am_owns h l
theorem am_ups_00 {h : am_H} : ∀ {l : List (Nat × am_E)}, am_owns h l → am_ups h l = h
  | [], _ => rfl
  | (a, e) :: l, ho => by
    show am_upd (am_ups h l) a e = h
    rw [am_ups_00 ho.2]
    exact jm_upd_self ho.1
theorem rowv_get {h h' : am_H} {a : Nat} (hg : am_get h' a = am_get h a) : rowv h' a = rowv h a := by unfold rowv; rw [hg]
theorem fldv_fv {h : am_H} {a k n : Nat} (hf : ax_fv h a k = some (.retAddr n)) : fldv h a k = n := by unfold fldv; rw [hf]
theorem valv_fv {h : am_H} {a k : Nat} {v : Value} (hf : ax_fv h a k = some v) : valv h a k = v := by unfold valv; rw [hf]; rfl
theorem rowc1_le {sh : ax_Sh} {h : am_H} {a w : Nat} (hI : ax_I sh h) (ha : ax_at sh a = some (.inl (0, 45, w, [[(0, 3)], [(0, 59)], [(0, 59)], [(0, 9)], [(0, 8)]]))) : ∀ i, i < 45 → am_ag (rowv h a) i ≤ rd_b 1 (i % rd_w 1) := fun i hi => by
  obtain ⟨R, hR, hin⟩ := (row_in hI ha).2 i hi
  have hR' : ([[(0, 3)], [(0, 59)], [(0, 59)], [(0, 9)], [(0, 8)]] : List ax_R)[i % 5]? = some R := hR
  show am_ag (rowv h a) i ≤ rd_b 1 (i % 5)
  have hj : i % 5 < 5 := Nat.mod_lt _ (by decide)
  generalize i % 5 = j at hj hR' ⊢
  match j, hj, hR' with
  | 0, _, hR => cases hR; exact (jm_in1 hin).2
  | 1, _, hR => cases hR; exact (jm_in1 hin).2
  | 2, _, hR => cases hR; exact (jm_in1 hin).2
  | 3, _, hR => cases hR; exact (jm_in1 hin).2
  | 4, _, hR => cases hR; exact (jm_in1 hin).2
  | j + 5, hj, _ => exact absurd hj (by omega)
theorem ok_rowc1 {x w : Nat} (h : ∀ i, i < 45 → am_ag x i ≤ rd_b 1 (i % rd_w 1)) : ax_ok (.inl (0, 45, w, [[(0, 3)], [(0, 59)], [(0, 59)], [(0, 9)], [(0, 8)]])) (.inl (0, 45, x)) := by
  refine ⟨rfl, rfl, fun i hi => ?_⟩
  have hb : am_ag x i ≤ rd_b 1 (i % 5) := h i hi
  show ∃ R, ([[(0, 3)], [(0, 59)], [(0, 59)], [(0, 9)], [(0, 8)]] : List ax_R)[i % 5]? = some R ∧ ax_in (am_ag x i) R
  have hj : i % 5 < 5 := Nat.mod_lt _ (by decide)
  have hx := am_ag_lt x i
  generalize i % 5 = j at hj hb ⊢
  match j, hj, hb with
  | 0, _, hb => exact ⟨_, rfl, ax_in_1 hx (Nat.zero_le _) hb⟩
  | 1, _, hb => exact ⟨_, rfl, ax_in_1 hx (Nat.zero_le _) hb⟩
  | 2, _, hb => exact ⟨_, rfl, ax_in_1 hx (Nat.zero_le _) hb⟩
  | 3, _, hb => exact ⟨_, rfl, ax_in_1 hx (Nat.zero_le _) hb⟩
  | 4, _, hb => exact ⟨_, rfl, ax_in_1 hx (Nat.zero_le _) hb⟩
  | j + 5, hj, _ => exact absurd hj (by omega)
theorem rowc2_le {sh : ax_Sh} {h : am_H} {a w : Nat} (hI : ax_I sh h) (ha : ax_at sh a = some (.inl (0, 18, w, [[(0, 3)], [(0, 59)], [(0, 59)]]))) : ∀ i, i < 18 → am_ag (rowv h a) i ≤ rd_b 2 (i % rd_w 2) := fun i hi => by
  obtain ⟨R, hR, hin⟩ := (row_in hI ha).2 i hi
  have hR' : ([[(0, 3)], [(0, 59)], [(0, 59)]] : List ax_R)[i % 3]? = some R := hR
  show am_ag (rowv h a) i ≤ rd_b 2 (i % 3)
  have hj : i % 3 < 3 := Nat.mod_lt _ (by decide)
  generalize i % 3 = j at hj hR' ⊢
  match j, hj, hR' with
  | 0, _, hR => cases hR; exact (jm_in1 hin).2
  | 1, _, hR => cases hR; exact (jm_in1 hin).2
  | 2, _, hR => cases hR; exact (jm_in1 hin).2
  | j + 3, hj, _ => exact absurd hj (by omega)
theorem ok_rowc2 {x w : Nat} (h : ∀ i, i < 18 → am_ag x i ≤ rd_b 2 (i % rd_w 2)) : ax_ok (.inl (0, 18, w, [[(0, 3)], [(0, 59)], [(0, 59)]])) (.inl (0, 18, x)) := by
  refine ⟨rfl, rfl, fun i hi => ?_⟩
  have hb : am_ag x i ≤ rd_b 2 (i % 3) := h i hi
  show ∃ R, ([[(0, 3)], [(0, 59)], [(0, 59)]] : List ax_R)[i % 3]? = some R ∧ ax_in (am_ag x i) R
  have hj : i % 3 < 3 := Nat.mod_lt _ (by decide)
  have hx := am_ag_lt x i
  generalize i % 3 = j at hj hb ⊢
  match j, hj, hb with
  | 0, _, hb => exact ⟨_, rfl, ax_in_1 hx (Nat.zero_le _) hb⟩
  | 1, _, hb => exact ⟨_, rfl, ax_in_1 hx (Nat.zero_le _) hb⟩
  | 2, _, hb => exact ⟨_, rfl, ax_in_1 hx (Nat.zero_le _) hb⟩
  | j + 3, hj, _ => exact absurd hj (by omega)
theorem rowc3_le {sh : ax_Sh} {h : am_H} {a w : Nat} (hI : ax_I sh h) (ha : ax_at sh a = some (.inl (0, 16, w, [[(0, 3)], [(0, 59)], [(0, 59)], [(0, 10)]]))) : ∀ i, i < 16 → am_ag (rowv h a) i ≤ rd_b 3 (i % rd_w 3) := fun i hi => by
  obtain ⟨R, hR, hin⟩ := (row_in hI ha).2 i hi
  have hR' : ([[(0, 3)], [(0, 59)], [(0, 59)], [(0, 10)]] : List ax_R)[i % 4]? = some R := hR
  show am_ag (rowv h a) i ≤ rd_b 3 (i % 4)
  have hj : i % 4 < 4 := Nat.mod_lt _ (by decide)
  generalize i % 4 = j at hj hR' ⊢
  match j, hj, hR' with
  | 0, _, hR => cases hR; exact (jm_in1 hin).2
  | 1, _, hR => cases hR; exact (jm_in1 hin).2
  | 2, _, hR => cases hR; exact (jm_in1 hin).2
  | 3, _, hR => cases hR; exact (jm_in1 hin).2
  | j + 4, hj, _ => exact absurd hj (by omega)
theorem ok_rowc3 {x w : Nat} (h : ∀ i, i < 16 → am_ag x i ≤ rd_b 3 (i % rd_w 3)) : ax_ok (.inl (0, 16, w, [[(0, 3)], [(0, 59)], [(0, 59)], [(0, 10)]])) (.inl (0, 16, x)) := by
  refine ⟨rfl, rfl, fun i hi => ?_⟩
  have hb : am_ag x i ≤ rd_b 3 (i % 4) := h i hi
  show ∃ R, ([[(0, 3)], [(0, 59)], [(0, 59)], [(0, 10)]] : List ax_R)[i % 4]? = some R ∧ ax_in (am_ag x i) R
  have hj : i % 4 < 4 := Nat.mod_lt _ (by decide)
  have hx := am_ag_lt x i
  generalize i % 4 = j at hj hb ⊢
  match j, hj, hb with
  | 0, _, hb => exact ⟨_, rfl, ax_in_1 hx (Nat.zero_le _) hb⟩
  | 1, _, hb => exact ⟨_, rfl, ax_in_1 hx (Nat.zero_le _) hb⟩
  | 2, _, hb => exact ⟨_, rfl, ax_in_1 hx (Nat.zero_le _) hb⟩
  | 3, _, hb => exact ⟨_, rfl, ax_in_1 hx (Nat.zero_le _) hb⟩
  | j + 4, hj, _ => exact absurd hj (by omega)
theorem o17_c1 {h : am_H} (hI : ax_I sb0 h) : am_get h 1 = some (.inl (1, 200, rowv h 1)) := (row_in hI rfl).1
theorem o17_c2 {h : am_H} (hI : ax_I sb0 h) : am_get h 2 = some (.inr (6, [.ref 3, .retAddr (fldv h 2 1)])) := by
  refine obj_ls hI rfl rfl (fun k hk => ?_)
  match k, hk with
  | 0, _ => exact ref_in hI rfl rfl
  | 1, _ => exact (fld_in hI rfl rfl).1
  | k + 2, hk => exact absurd hk (Nat.not_lt.mpr (Nat.le_add_left _ _))
theorem o17_c3 {h : am_H} (hI : ax_I sb0 h) : am_get h 3 = some (.inl (0, 5, rowv h 3)) := (row_in hI rfl).1
theorem o17_c17 {h : am_H} (hI : ax_I sb0 h) : am_get h 17 = some (.inr (1, [.ref 18, .ref 20, .ref 22, .ref 24, .ref 26, .ref 28, .retAddr (fldv h 17 6), .retAddr (fldv h 17 7)])) := by
  refine obj_ls hI rfl rfl (fun k hk => ?_)
  match k, hk with
  | 0, _ => exact ref_in hI rfl rfl
  | 1, _ => exact ref_in hI rfl rfl
  | 2, _ => exact ref_in hI rfl rfl
  | 3, _ => exact ref_in hI rfl rfl
  | 4, _ => exact ref_in hI rfl rfl
  | 5, _ => exact ref_in hI rfl rfl
  | 6, _ => exact (fld_in hI rfl rfl).1
  | 7, _ => exact (fld_in hI rfl rfl).1
  | k + 8, hk => exact absurd hk (Nat.not_lt.mpr (Nat.le_add_left _ _))
theorem o17_c18 {h : am_H} (hI : ax_I sb0 h) : am_get h 18 = some (.inr (8, [.ref 19, .retAddr 1, .retAddr 4, .retAddr (fldv h 18 3)])) := by
  refine obj_ls hI rfl rfl (fun k hk => ?_)
  match k, hk with
  | 0, _ => exact ref_in hI rfl rfl
  | 1, _ => exact fld_eq hI rfl rfl
  | 2, _ => exact fld_eq hI rfl rfl
  | 3, _ => exact (fld_in hI rfl rfl).1
  | k + 4, hk => exact absurd hk (Nat.not_lt.mpr (Nat.le_add_left _ _))
theorem o17_c19 {h : am_H} (hI : ax_I sb0 h) : am_get h 19 = some (.inl (0, 45, rowv h 19)) := (row_in hI rfl).1
theorem o17_c20 {h : am_H} (hI : ax_I sb0 h) : am_get h 20 = some (.inr (8, [.ref 21, .retAddr 5, .retAddr 9, .retAddr (fldv h 20 3)])) := by
  refine obj_ls hI rfl rfl (fun k hk => ?_)
  match k, hk with
  | 0, _ => exact ref_in hI rfl rfl
  | 1, _ => exact fld_eq hI rfl rfl
  | 2, _ => exact fld_eq hI rfl rfl
  | 3, _ => exact (fld_in hI rfl rfl).1
  | k + 4, hk => exact absurd hk (Nat.not_lt.mpr (Nat.le_add_left _ _))
theorem o17_c21 {h : am_H} (hI : ax_I sb0 h) : am_get h 21 = some (.inl (0, 45, rowv h 21)) := (row_in hI rfl).1
theorem o17_c22 {h : am_H} (hI : ax_I sb0 h) : am_get h 22 = some (.inr (8, [.ref 23, .retAddr 3, .retAddr 6, .retAddr (fldv h 22 3)])) := by
  refine obj_ls hI rfl rfl (fun k hk => ?_)
  match k, hk with
  | 0, _ => exact ref_in hI rfl rfl
  | 1, _ => exact fld_eq hI rfl rfl
  | 2, _ => exact fld_eq hI rfl rfl
  | 3, _ => exact (fld_in hI rfl rfl).1
  | k + 4, hk => exact absurd hk (Nat.not_lt.mpr (Nat.le_add_left _ _))
theorem o17_c23 {h : am_H} (hI : ax_I sb0 h) : am_get h 23 = some (.inl (0, 45, rowv h 23)) := (row_in hI rfl).1
theorem o17_c24 {h : am_H} (hI : ax_I sb0 h) : am_get h 24 = some (.inr (8, [.ref 25, .retAddr 4, .retAddr 4, .retAddr (fldv h 24 3)])) := by
  refine obj_ls hI rfl rfl (fun k hk => ?_)
  match k, hk with
  | 0, _ => exact ref_in hI rfl rfl
  | 1, _ => exact fld_eq hI rfl rfl
  | 2, _ => exact fld_eq hI rfl rfl
  | 3, _ => exact (fld_in hI rfl rfl).1
  | k + 4, hk => exact absurd hk (Nat.not_lt.mpr (Nat.le_add_left _ _))
theorem o17_c25 {h : am_H} (hI : ax_I sb0 h) : am_get h 25 = some (.inl (0, 45, rowv h 25)) := (row_in hI rfl).1
theorem o17_c26 {h : am_H} (hI : ax_I sb0 h) : am_get h 26 = some (.inr (8, [.ref 27, .retAddr 3, .retAddr 6, .retAddr (fldv h 26 3)])) := by
  refine obj_ls hI rfl rfl (fun k hk => ?_)
  match k, hk with
  | 0, _ => exact ref_in hI rfl rfl
  | 1, _ => exact fld_eq hI rfl rfl
  | 2, _ => exact fld_eq hI rfl rfl
  | 3, _ => exact (fld_in hI rfl rfl).1
  | k + 4, hk => exact absurd hk (Nat.not_lt.mpr (Nat.le_add_left _ _))
theorem o17_c27 {h : am_H} (hI : ax_I sb0 h) : am_get h 27 = some (.inl (0, 45, rowv h 27)) := (row_in hI rfl).1
theorem o17_c28 {h : am_H} (hI : ax_I sb0 h) : am_get h 28 = some (.inr (8, [.ref 29, .retAddr 2, .retAddr 4, .retAddr (fldv h 28 3)])) := by
  refine obj_ls hI rfl rfl (fun k hk => ?_)
  match k, hk with
  | 0, _ => exact ref_in hI rfl rfl
  | 1, _ => exact fld_eq hI rfl rfl
  | 2, _ => exact fld_eq hI rfl rfl
  | 3, _ => exact (fld_in hI rfl rfl).1
  | k + 4, hk => exact absurd hk (Nat.not_lt.mpr (Nat.le_add_left _ _))
theorem o17_c29 {h : am_H} (hI : ax_I sb0 h) : am_get h 29 = some (.inl (0, 45, rowv h 29)) := (row_in hI rfl).1
theorem o17_ok {h : am_H} (hI : ax_I sb0 h) : rx17_ok h := ⟨⟨_, o17_c1 hI⟩, ⟨_, o17_c2 hI⟩, ⟨_, o17_c3 hI⟩, ⟨_, o17_c17 hI⟩, ⟨_, o17_c18 hI⟩, ⟨_, o17_c19 hI⟩, ⟨_, o17_c20 hI⟩, ⟨_, o17_c21 hI⟩, ⟨_, o17_c22 hI⟩, ⟨_, o17_c23 hI⟩, ⟨_, o17_c24 hI⟩, ⟨_, o17_c25 hI⟩, ⟨_, o17_c26 hI⟩, ⟨_, o17_c27 hI⟩, ⟨_, o17_c28 hI⟩, ⟨_, o17_c29 hI⟩, trivial⟩
theorem o17_own {h : am_H} (hI : ax_I sb0 h) : rx17 h (rowv h 1) (fldv h 2 1) (rowv h 3) (fldv h 17 6) (fldv h 17 7) (fldv h 18 3) (rowv h 19) (fldv h 20 3) (rowv h 21) (fldv h 22 3) (rowv h 23) (fldv h 24 3) (rowv h 25) (fldv h 26 3) (rowv h 27) (fldv h 28 3) (rowv h 29) = h := by
  unfold rx17
  exact am_ups_00 ⟨o17_c1 hI, o17_c2 hI, o17_c3 hI, o17_c17 hI, o17_c18 hI, o17_c19 hI, o17_c20 hI, o17_c21 hI, o17_c22 hI, o17_c23 hI, o17_c24 hI, o17_c25 hI, o17_c26 hI, o17_c27 hI, o17_c28 hI, o17_c29 hI, trivial⟩
theorem o17_I {h : am_H} (hI : ax_I sb0 h) {mi go N nr td : Nat} {Z X Y : Nat → Nat} (hV : rd_V mi go N nr td Z X Y) : ax_I sb0 (rx17 h (rowv h 1) N nr mi go (Z 0) (X 0) (Z 1) (X 1) (Z 2) (X 2) (Z 3) (X 3) (Z 4) (X 4) (Z 5) (X 5)) := by
  obtain ⟨⟨v1, v2, v3, v4, v5⟩, hn, -, vZ, vX, -⟩ := hV
  have z0 : Z 0 ≤ 4 := vZ 0 (by decide)
  have z1 : Z 1 ≤ 9 := vZ 1 (by decide)
  have z2 : Z 2 ≤ 6 := vZ 2 (by decide)
  have z3 : Z 3 ≤ 4 := vZ 3 (by decide)
  have z4 : Z 4 ≤ 6 := vZ 4 (by decide)
  have z5 : Z 5 ≤ 4 := vZ 5 (by decide)
  have k0 := o17_ok hI
  unfold rx17
  refine ax_I_ups hI ?_ ⟨ok_at rfl (ok_own hI rfl (o17_c1 hI)),
    ok_at rfl (ok_set (k := 1) (ok_own hI rfl (o17_c2 hI)) rfl (ax_in_1 (by omega) v4 v5)),
    ok_at rfl (ok_row1 (by decide) hn),
    ok_at rfl (ok_set (k := 7) (ok_set (k := 6) (ok_own hI rfl (o17_c17 hI)) rfl (ax_in_1 (by omega) v1 v2)) rfl (ax_in_1 (by omega) (Nat.zero_le _) v3)),
    ok_at rfl (ok_set (k := 3) (ok_own hI rfl (o17_c18 hI)) rfl (ax_in_1 (by omega) (Nat.zero_le _) z0)),
    ok_at rfl (ok_row1 (by decide) (vX 0 (by decide))),
    ok_at rfl (ok_set (k := 3) (ok_own hI rfl (o17_c20 hI)) rfl (ax_in_1 (by omega) (Nat.zero_le _) z1)),
    ok_at rfl (ok_row1 (by decide) (vX 1 (by decide))),
    ok_at rfl (ok_set (k := 3) (ok_own hI rfl (o17_c22 hI)) rfl (ax_in_1 (by omega) (Nat.zero_le _) z2)),
    ok_at rfl (ok_row1 (by decide) (vX 2 (by decide))),
    ok_at rfl (ok_set (k := 3) (ok_own hI rfl (o17_c24 hI)) rfl (ax_in_1 (by omega) (Nat.zero_le _) z3)),
    ok_at rfl (ok_row1 (by decide) (vX 3 (by decide))),
    ok_at rfl (ok_set (k := 3) (ok_own hI rfl (o17_c26 hI)) rfl (ax_in_1 (by omega) (Nat.zero_le _) z4)),
    ok_at rfl (ok_row1 (by decide) (vX 4 (by decide))),
    ok_at rfl (ok_set (k := 3) (ok_own hI rfl (o17_c28 hI)) rfl (ax_in_1 (by omega) (Nat.zero_le _) z5)),
    ok_at rfl (ok_row1 (by decide) (vX 5 (by decide))), trivial⟩
  exact k0
theorem o17_M {h : am_H} (hI : ax_I sb0 h) (hm : ax_I sbm h) {tx N nr mi go z1 c1 z2 c2 z3 c3 z4 c4 z5 c5 z6 c6 : Nat} : ax_I sbm (rx17 h tx N nr mi go z1 c1 z2 c2 z3 c3 z4 c4 z5 c5 z6 c6) := by
  have k0 := o17_ok hI
  unfold rx17
  refine ax_I_ups hm ?_ ⟨ok_none rfl, ok_none rfl, ok_none rfl, ok_none rfl, ok_none rfl, ok_none rfl, ok_none rfl, ok_none rfl, ok_none rfl, ok_none rfl, ok_none rfl, ok_none rfl, ok_none rfl, ok_none rfl, ok_none rfl, ok_none rfl, trivial⟩
  exact k0
theorem o17_V {h : am_H} (hI : ax_I sb0 h) (hm : ax_I sbm h) : rd_V 30 1 (fldv h 2 1) (rowv h 3) (rowv h 74) (fun _ => 0) (fun k => rowv h (19 + 2 * k)) (fun k => rowv h (75 + k)) := by
  have hN := jm_in1 (fld_in (k := 1) hI (a := 2) rfl rfl).2
  refine ⟨⟨by decide, by decide, by decide, hN.1, hN.2⟩, row1_le hI rfl, row1_le hm rfl, fun k _ => Nat.zero_le _, fun k hk => ?_, fun k hk => ?_, fun k hk i hi => absurd hi (by rw [Nat.zero_mul]; exact Nat.not_lt_zero _), fun i hi => absurd hi (Nat.not_lt_zero i)⟩
  · match k, hk with
    | 0, _ => exact row1_le hI rfl
    | 1, _ => exact row1_le hI rfl
    | 2, _ => exact row1_le hI rfl
    | 3, _ => exact row1_le hI rfl
    | 4, _ => exact row1_le hI rfl
    | 5, _ => exact row1_le hI rfl
    | k + 6, hk => exact absurd hk (by omega)
  · match k, hk with
    | 0, _ => exact row1_le hm rfl
    | 1, _ => exact rowc1_le hm rfl
    | 2, _ => exact rowc2_le hm rfl
    | 3, _ => exact rowc3_le hm rfl
    | 4, _ => exact row1_le hm rfl
    | 5, _ => exact row1_le hm rfl
    | k + 6, hk => exact absurd hk (by omega)
theorem o4_c1 {h : am_H} (hI : ax_I sb1 h) : am_get h 1 = some (.inl (1, 200, rowv h 1)) := (row_in hI rfl).1
theorem o4_c2 {h : am_H} (hI : ax_I sb1 h) : am_get h 2 = some (.inr (6, [.ref 3, .retAddr (fldv h 2 1)])) := by
  refine obj_ls hI rfl rfl (fun k hk => ?_)
  match k, hk with
  | 0, _ => exact ref_in hI rfl rfl
  | 1, _ => exact (fld_in hI rfl rfl).1
  | k + 2, hk => exact absurd hk (Nat.not_lt.mpr (Nat.le_add_left _ _))
theorem o4_c3 {h : am_H} (hI : ax_I sb1 h) : am_get h 3 = some (.inl (0, 5, rowv h 3)) := (row_in hI rfl).1
theorem o4_c4 {h : am_H} (hI : ax_I sb1 h) : am_get h 4 = some (.inr (1, [.ref 5, .ref 7, .ref 9, .ref 11, .ref 13, .ref 15, .retAddr (fldv h 4 6), .retAddr (fldv h 4 7)])) := by
  refine obj_ls hI rfl rfl (fun k hk => ?_)
  match k, hk with
  | 0, _ => exact ref_in hI rfl rfl
  | 1, _ => exact ref_in hI rfl rfl
  | 2, _ => exact ref_in hI rfl rfl
  | 3, _ => exact ref_in hI rfl rfl
  | 4, _ => exact ref_in hI rfl rfl
  | 5, _ => exact ref_in hI rfl rfl
  | 6, _ => exact (fld_in hI rfl rfl).1
  | 7, _ => exact (fld_in hI rfl rfl).1
  | k + 8, hk => exact absurd hk (Nat.not_lt.mpr (Nat.le_add_left _ _))
theorem o4_c5 {h : am_H} (hI : ax_I sb1 h) : am_get h 5 = some (.inr (8, [.ref 6, .retAddr 1, .retAddr 4, .retAddr (fldv h 5 3)])) := by
  refine obj_ls hI rfl rfl (fun k hk => ?_)
  match k, hk with
  | 0, _ => exact ref_in hI rfl rfl
  | 1, _ => exact fld_eq hI rfl rfl
  | 2, _ => exact fld_eq hI rfl rfl
  | 3, _ => exact (fld_in hI rfl rfl).1
  | k + 4, hk => exact absurd hk (Nat.not_lt.mpr (Nat.le_add_left _ _))
theorem o4_c6 {h : am_H} (hI : ax_I sb1 h) : am_get h 6 = some (.inl (0, 45, rowv h 6)) := (row_in hI rfl).1
theorem o4_c7 {h : am_H} (hI : ax_I sb1 h) : am_get h 7 = some (.inr (8, [.ref 8, .retAddr 5, .retAddr 9, .retAddr (fldv h 7 3)])) := by
  refine obj_ls hI rfl rfl (fun k hk => ?_)
  match k, hk with
  | 0, _ => exact ref_in hI rfl rfl
  | 1, _ => exact fld_eq hI rfl rfl
  | 2, _ => exact fld_eq hI rfl rfl
  | 3, _ => exact (fld_in hI rfl rfl).1
  | k + 4, hk => exact absurd hk (Nat.not_lt.mpr (Nat.le_add_left _ _))
theorem o4_c8 {h : am_H} (hI : ax_I sb1 h) : am_get h 8 = some (.inl (0, 45, rowv h 8)) := (row_in hI rfl).1
theorem o4_c9 {h : am_H} (hI : ax_I sb1 h) : am_get h 9 = some (.inr (8, [.ref 10, .retAddr 3, .retAddr 6, .retAddr (fldv h 9 3)])) := by
  refine obj_ls hI rfl rfl (fun k hk => ?_)
  match k, hk with
  | 0, _ => exact ref_in hI rfl rfl
  | 1, _ => exact fld_eq hI rfl rfl
  | 2, _ => exact fld_eq hI rfl rfl
  | 3, _ => exact (fld_in hI rfl rfl).1
  | k + 4, hk => exact absurd hk (Nat.not_lt.mpr (Nat.le_add_left _ _))
theorem o4_c10 {h : am_H} (hI : ax_I sb1 h) : am_get h 10 = some (.inl (0, 45, rowv h 10)) := (row_in hI rfl).1
theorem o4_c11 {h : am_H} (hI : ax_I sb1 h) : am_get h 11 = some (.inr (8, [.ref 12, .retAddr 4, .retAddr 4, .retAddr (fldv h 11 3)])) := by
  refine obj_ls hI rfl rfl (fun k hk => ?_)
  match k, hk with
  | 0, _ => exact ref_in hI rfl rfl
  | 1, _ => exact fld_eq hI rfl rfl
  | 2, _ => exact fld_eq hI rfl rfl
  | 3, _ => exact (fld_in hI rfl rfl).1
  | k + 4, hk => exact absurd hk (Nat.not_lt.mpr (Nat.le_add_left _ _))
theorem o4_c12 {h : am_H} (hI : ax_I sb1 h) : am_get h 12 = some (.inl (0, 45, rowv h 12)) := (row_in hI rfl).1
theorem o4_c13 {h : am_H} (hI : ax_I sb1 h) : am_get h 13 = some (.inr (8, [.ref 14, .retAddr 3, .retAddr 6, .retAddr (fldv h 13 3)])) := by
  refine obj_ls hI rfl rfl (fun k hk => ?_)
  match k, hk with
  | 0, _ => exact ref_in hI rfl rfl
  | 1, _ => exact fld_eq hI rfl rfl
  | 2, _ => exact fld_eq hI rfl rfl
  | 3, _ => exact (fld_in hI rfl rfl).1
  | k + 4, hk => exact absurd hk (Nat.not_lt.mpr (Nat.le_add_left _ _))
theorem o4_c14 {h : am_H} (hI : ax_I sb1 h) : am_get h 14 = some (.inl (0, 45, rowv h 14)) := (row_in hI rfl).1
theorem o4_c15 {h : am_H} (hI : ax_I sb1 h) : am_get h 15 = some (.inr (8, [.ref 16, .retAddr 2, .retAddr 4, .retAddr (fldv h 15 3)])) := by
  refine obj_ls hI rfl rfl (fun k hk => ?_)
  match k, hk with
  | 0, _ => exact ref_in hI rfl rfl
  | 1, _ => exact fld_eq hI rfl rfl
  | 2, _ => exact fld_eq hI rfl rfl
  | 3, _ => exact (fld_in hI rfl rfl).1
  | k + 4, hk => exact absurd hk (Nat.not_lt.mpr (Nat.le_add_left _ _))
theorem o4_c16 {h : am_H} (hI : ax_I sb1 h) : am_get h 16 = some (.inl (0, 45, rowv h 16)) := (row_in hI rfl).1
theorem o4_ok {h : am_H} (hI : ax_I sb1 h) : rx4_ok h := ⟨⟨_, o4_c1 hI⟩, ⟨_, o4_c2 hI⟩, ⟨_, o4_c3 hI⟩, ⟨_, o4_c4 hI⟩, ⟨_, o4_c5 hI⟩, ⟨_, o4_c6 hI⟩, ⟨_, o4_c7 hI⟩, ⟨_, o4_c8 hI⟩, ⟨_, o4_c9 hI⟩, ⟨_, o4_c10 hI⟩, ⟨_, o4_c11 hI⟩, ⟨_, o4_c12 hI⟩, ⟨_, o4_c13 hI⟩, ⟨_, o4_c14 hI⟩, ⟨_, o4_c15 hI⟩, ⟨_, o4_c16 hI⟩, trivial⟩
theorem o4_own {h : am_H} (hI : ax_I sb1 h) : rx4 h (rowv h 1) (fldv h 2 1) (rowv h 3) (fldv h 4 6) (fldv h 4 7) (fldv h 5 3) (rowv h 6) (fldv h 7 3) (rowv h 8) (fldv h 9 3) (rowv h 10) (fldv h 11 3) (rowv h 12) (fldv h 13 3) (rowv h 14) (fldv h 15 3) (rowv h 16) = h := by
  unfold rx4
  exact am_ups_00 ⟨o4_c1 hI, o4_c2 hI, o4_c3 hI, o4_c4 hI, o4_c5 hI, o4_c6 hI, o4_c7 hI, o4_c8 hI, o4_c9 hI, o4_c10 hI, o4_c11 hI, o4_c12 hI, o4_c13 hI, o4_c14 hI, o4_c15 hI, o4_c16 hI, trivial⟩
theorem o4_I {h : am_H} (hI : ax_I sb1 h) {mi go N nr td : Nat} {Z X Y : Nat → Nat} (hV : rd_V mi go N nr td Z X Y) : ax_I sb1 (rx4 h (rowv h 1) N nr mi go (Z 0) (X 0) (Z 1) (X 1) (Z 2) (X 2) (Z 3) (X 3) (Z 4) (X 4) (Z 5) (X 5)) := by
  obtain ⟨⟨v1, v2, v3, v4, v5⟩, hn, -, vZ, vX, -⟩ := hV
  have z0 : Z 0 ≤ 4 := vZ 0 (by decide)
  have z1 : Z 1 ≤ 9 := vZ 1 (by decide)
  have z2 : Z 2 ≤ 6 := vZ 2 (by decide)
  have z3 : Z 3 ≤ 4 := vZ 3 (by decide)
  have z4 : Z 4 ≤ 6 := vZ 4 (by decide)
  have z5 : Z 5 ≤ 4 := vZ 5 (by decide)
  have k0 := o4_ok hI
  unfold rx4
  refine ax_I_ups hI ?_ ⟨ok_at rfl (ok_own hI rfl (o4_c1 hI)),
    ok_at rfl (ok_set (k := 1) (ok_own hI rfl (o4_c2 hI)) rfl (ax_in_1 (by omega) v4 v5)),
    ok_at rfl (ok_row1 (by decide) hn),
    ok_at rfl (ok_set (k := 7) (ok_set (k := 6) (ok_own hI rfl (o4_c4 hI)) rfl (ax_in_1 (by omega) v1 v2)) rfl (ax_in_1 (by omega) (Nat.zero_le _) v3)),
    ok_at rfl (ok_set (k := 3) (ok_own hI rfl (o4_c5 hI)) rfl (ax_in_1 (by omega) (Nat.zero_le _) z0)),
    ok_at rfl (ok_row1 (by decide) (vX 0 (by decide))),
    ok_at rfl (ok_set (k := 3) (ok_own hI rfl (o4_c7 hI)) rfl (ax_in_1 (by omega) (Nat.zero_le _) z1)),
    ok_at rfl (ok_row1 (by decide) (vX 1 (by decide))),
    ok_at rfl (ok_set (k := 3) (ok_own hI rfl (o4_c9 hI)) rfl (ax_in_1 (by omega) (Nat.zero_le _) z2)),
    ok_at rfl (ok_row1 (by decide) (vX 2 (by decide))),
    ok_at rfl (ok_set (k := 3) (ok_own hI rfl (o4_c11 hI)) rfl (ax_in_1 (by omega) (Nat.zero_le _) z3)),
    ok_at rfl (ok_row1 (by decide) (vX 3 (by decide))),
    ok_at rfl (ok_set (k := 3) (ok_own hI rfl (o4_c13 hI)) rfl (ax_in_1 (by omega) (Nat.zero_le _) z4)),
    ok_at rfl (ok_row1 (by decide) (vX 4 (by decide))),
    ok_at rfl (ok_set (k := 3) (ok_own hI rfl (o4_c15 hI)) rfl (ax_in_1 (by omega) (Nat.zero_le _) z5)),
    ok_at rfl (ok_row1 (by decide) (vX 5 (by decide))), trivial⟩
  exact k0
theorem o4_M {h : am_H} (hI : ax_I sb1 h) (hm : ax_I sbm h) {tx N nr mi go z1 c1 z2 c2 z3 c3 z4 c4 z5 c5 z6 c6 : Nat} : ax_I sbm (rx4 h tx N nr mi go z1 c1 z2 c2 z3 c3 z4 c4 z5 c5 z6 c6) := by
  have k0 := o4_ok hI
  unfold rx4
  refine ax_I_ups hm ?_ ⟨ok_none rfl, ok_none rfl, ok_none rfl, ok_none rfl, ok_none rfl, ok_none rfl, ok_none rfl, ok_none rfl, ok_none rfl, ok_none rfl, ok_none rfl, ok_none rfl, ok_none rfl, ok_none rfl, ok_none rfl, ok_none rfl, trivial⟩
  exact k0
theorem o4_V {h : am_H} (hI : ax_I sb1 h) (hm : ax_I sbm h) : rd_V 30 1 (fldv h 2 1) (rowv h 3) (rowv h 74) (fun _ => 0) (fun k => rowv h (6 + 2 * k)) (fun k => rowv h (75 + k)) := by
  have hN := jm_in1 (fld_in (k := 1) hI (a := 2) rfl rfl).2
  refine ⟨⟨by decide, by decide, by decide, hN.1, hN.2⟩, row1_le hI rfl, row1_le hm rfl, fun k _ => Nat.zero_le _, fun k hk => ?_, fun k hk => ?_, fun k hk i hi => absurd hi (by rw [Nat.zero_mul]; exact Nat.not_lt_zero _), fun i hi => absurd hi (Nat.not_lt_zero i)⟩
  · match k, hk with
    | 0, _ => exact row1_le hI rfl
    | 1, _ => exact row1_le hI rfl
    | 2, _ => exact row1_le hI rfl
    | 3, _ => exact row1_le hI rfl
    | 4, _ => exact row1_le hI rfl
    | 5, _ => exact row1_le hI rfl
    | k + 6, hk => exact absurd hk (by omega)
  · match k, hk with
    | 0, _ => exact row1_le hm rfl
    | 1, _ => exact rowc1_le hm rfl
    | 2, _ => exact rowc2_le hm rfl
    | 3, _ => exact rowc3_le hm rfl
    | 4, _ => exact row1_le hm rfl
    | 5, _ => exact row1_le hm rfl
    | k + 6, hk => exact absurd hk (by omega)
theorem om_c66 {h : am_H} (hI : ax_I sbm h) : am_get h 66 = some (.inr (12, [valv h 66 0, valv h 66 1, valv h 66 2, .ref 67, valv h 66 4, .ref 68, valv h 66 6, .ref 69, valv h 66 8, .ref 70, valv h 66 10, .ref 71, valv h 66 12, .ref 72, .ref 73, .retAddr (fldv h 66 15), .retAddr (fldv h 66 16), .ref 74, .retAddr (fldv h 66 18), .retAddr (fldv h 66 19), .retAddr (fldv h 66 20), .ref 75, .retAddr (fldv h 66 22), .ref 76, .retAddr (fldv h 66 24), .ref 77, .retAddr (fldv h 66 26), .ref 78, .retAddr (fldv h 66 28), .ref 79, .retAddr (fldv h 66 30), .ref 80, .ref 81, .ref 82, .ref 83, .ref 84, valv h 66 36, valv h 66 37, valv h 66 38, valv h 66 39, valv h 66 40, .ref 85, valv h 66 42, .ref 86, valv h 66 44, .ref 87, .ref 88, .ref 89, valv h 66 48, valv h 66 49, valv h 66 50, .ref 90, .ref 91, valv h 66 53, .ref 92])) := by
  refine obj_ls hI rfl rfl (fun k hk => ?_)
  match k, hk with
  | 0, _ => exact val_in hI rfl (Nat.le_of_ble_eq_true rfl)
  | 1, _ => exact val_in hI rfl (Nat.le_of_ble_eq_true rfl)
  | 2, _ => exact val_in hI rfl (Nat.le_of_ble_eq_true rfl)
  | 3, _ => exact ref_in hI rfl rfl
  | 4, _ => exact val_in hI rfl (Nat.le_of_ble_eq_true rfl)
  | 5, _ => exact ref_in hI rfl rfl
  | 6, _ => exact val_in hI rfl (Nat.le_of_ble_eq_true rfl)
  | 7, _ => exact ref_in hI rfl rfl
  | 8, _ => exact val_in hI rfl (Nat.le_of_ble_eq_true rfl)
  | 9, _ => exact ref_in hI rfl rfl
  | 10, _ => exact val_in hI rfl (Nat.le_of_ble_eq_true rfl)
  | 11, _ => exact ref_in hI rfl rfl
  | 12, _ => exact val_in hI rfl (Nat.le_of_ble_eq_true rfl)
  | 13, _ => exact ref_in hI rfl rfl
  | 14, _ => exact ref_in hI rfl rfl
  | 15, _ => exact (fld_in hI rfl rfl).1
  | 16, _ => exact (fld_in hI rfl rfl).1
  | 17, _ => exact ref_in hI rfl rfl
  | 18, _ => exact (fld_in hI rfl rfl).1
  | 19, _ => exact (fld_in hI rfl rfl).1
  | 20, _ => exact (fld_in hI rfl rfl).1
  | 21, _ => exact ref_in hI rfl rfl
  | 22, _ => exact (fld_in hI rfl rfl).1
  | 23, _ => exact ref_in hI rfl rfl
  | 24, _ => exact (fld_in hI rfl rfl).1
  | 25, _ => exact ref_in hI rfl rfl
  | 26, _ => exact (fld_in hI rfl rfl).1
  | 27, _ => exact ref_in hI rfl rfl
  | 28, _ => exact (fld_in hI rfl rfl).1
  | 29, _ => exact ref_in hI rfl rfl
  | 30, _ => exact (fld_in hI rfl rfl).1
  | 31, _ => exact ref_in hI rfl rfl
  | 32, _ => exact ref_in hI rfl rfl
  | 33, _ => exact ref_in hI rfl rfl
  | 34, _ => exact ref_in hI rfl rfl
  | 35, _ => exact ref_in hI rfl rfl
  | 36, _ => exact val_in hI rfl (Nat.le_of_ble_eq_true rfl)
  | 37, _ => exact val_in hI rfl (Nat.le_of_ble_eq_true rfl)
  | 38, _ => exact val_in hI rfl (Nat.le_of_ble_eq_true rfl)
  | 39, _ => exact val_in hI rfl (Nat.le_of_ble_eq_true rfl)
  | 40, _ => exact val_in hI rfl (Nat.le_of_ble_eq_true rfl)
  | 41, _ => exact ref_in hI rfl rfl
  | 42, _ => exact val_in hI rfl (Nat.le_of_ble_eq_true rfl)
  | 43, _ => exact ref_in hI rfl rfl
  | 44, _ => exact val_in hI rfl (Nat.le_of_ble_eq_true rfl)
  | 45, _ => exact ref_in hI rfl rfl
  | 46, _ => exact ref_in hI rfl rfl
  | 47, _ => exact ref_in hI rfl rfl
  | 48, _ => exact val_in hI rfl (Nat.le_of_ble_eq_true rfl)
  | 49, _ => exact val_in hI rfl (Nat.le_of_ble_eq_true rfl)
  | 50, _ => exact val_in hI rfl (Nat.le_of_ble_eq_true rfl)
  | 51, _ => exact ref_in hI rfl rfl
  | 52, _ => exact ref_in hI rfl rfl
  | 53, _ => exact val_in hI rfl (Nat.le_of_ble_eq_true rfl)
  | 54, _ => exact ref_in hI rfl rfl
  | k + 55, hk => exact absurd hk (Nat.not_lt.mpr (Nat.le_add_left _ _))
theorem om_c73 {h : am_H} (hI : ax_I sbm h) : am_get h 73 = some (.inl (0, 200, rowv h 73)) := (row_in hI rfl).1
theorem om_c74 {h : am_H} (hI : ax_I sbm h) : am_get h 74 = some (.inl (0, 5, rowv h 74)) := (row_in hI rfl).1
theorem om_c75 {h : am_H} (hI : ax_I sbm h) : am_get h 75 = some (.inl (0, 4, rowv h 75)) := (row_in hI rfl).1
theorem om_c76 {h : am_H} (hI : ax_I sbm h) : am_get h 76 = some (.inl (0, 45, rowv h 76)) := (row_in hI rfl).1
theorem om_c77 {h : am_H} (hI : ax_I sbm h) : am_get h 77 = some (.inl (0, 18, rowv h 77)) := (row_in hI rfl).1
theorem om_c78 {h : am_H} (hI : ax_I sbm h) : am_get h 78 = some (.inl (0, 16, rowv h 78)) := (row_in hI rfl).1
theorem om_c79 {h : am_H} (hI : ax_I sbm h) : am_get h 79 = some (.inl (0, 18, rowv h 79)) := (row_in hI rfl).1
theorem om_c80 {h : am_H} (hI : ax_I sbm h) : am_get h 80 = some (.inl (0, 8, rowv h 80)) := (row_in hI rfl).1
theorem om_ok {h : am_H} (hI : ax_I sbm h) : rm_ok h := ⟨⟨_, om_c66 hI⟩, ⟨_, om_c73 hI⟩, ⟨_, om_c74 hI⟩, ⟨_, om_c75 hI⟩, ⟨_, om_c76 hI⟩, ⟨_, om_c77 hI⟩, ⟨_, om_c78 hI⟩, ⟨_, om_c79 hI⟩, ⟨_, om_c80 hI⟩, trivial⟩
theorem om_own {h : am_H} (hI : ax_I sbm h) : rm h (valv h 66) (fldv h 66 15) (fldv h 66 16) (fldv h 66 18) (fldv h 66 19) (fldv h 66 20) (fldv h 66 22) (fldv h 66 24) (fldv h 66 26) (fldv h 66 28) (fldv h 66 30) (rowv h 73) (rowv h 74) (rowv h 75) (rowv h 76) (rowv h 77) (rowv h 78) (rowv h 79) (rowv h 80) = h := by
  unfold rm
  exact am_ups_00 ⟨om_c66 hI, om_c73 hI, om_c74 hI, om_c75 hI, om_c76 hI, om_c77 hI, om_c78 hI, om_c79 hI, om_c80 hI, trivial⟩
theorem om_I {h : am_H} (hI : ax_I sbm h) {mi go N nr td at_ : Nat} {Z X Y : Nat → Nat} (hat : at_ ≤ 200) (hV : rd_V mi go N nr td Z X Y) : ax_I sbm (rm h (valv h 66) (fldv h 66 15) at_ mi go (Z 0) (Z 1) (Z 2) (Z 3) (Z 4) (Z 5) (rowv h 73) td (Y 0) (Y 1) (Y 2) (Y 3) (Y 4) (Y 5)) := by
  obtain ⟨⟨v1, v2, v3, v4, v5⟩, -, ht, vZ, -, vY, -⟩ := hV
  have z0 : Z 0 ≤ 4 := vZ 0 (by decide)
  have z1 : Z 1 ≤ 9 := vZ 1 (by decide)
  have z2 : Z 2 ≤ 6 := vZ 2 (by decide)
  have z3 : Z 3 ≤ 4 := vZ 3 (by decide)
  have z4 : Z 4 ≤ 6 := vZ 4 (by decide)
  have z5 : Z 5 ≤ 4 := vZ 5 (by decide)
  have k0 := om_ok hI
  unfold rm
  refine ax_I_ups hI ?_ ⟨ok_at rfl (ok_set (k := 30) (ok_set (k := 28) (ok_set (k := 26) (ok_set (k := 24) (ok_set (k := 22) (ok_set (k := 20) (ok_set (k := 19) (ok_set (k := 18) (ok_set (k := 16) (ok_own hI rfl (om_c66 hI)) rfl (ax_in_1 (by omega) (Nat.zero_le _) hat)) rfl (ax_in_1 (by omega) (Nat.zero_le _) v2)) rfl (ax_in_1 (by omega) (Nat.zero_le _) v3)) rfl (ax_in_1 (by omega) (Nat.zero_le _) z0)) rfl (ax_in_1 (by omega) (Nat.zero_le _) z1)) rfl (ax_in_1 (by omega) (Nat.zero_le _) z2)) rfl (ax_in_1 (by omega) (Nat.zero_le _) z3)) rfl (ax_in_1 (by omega) (Nat.zero_le _) z4)) rfl (ax_in_1 (by omega) (Nat.zero_le _) z5)), ok_at rfl (ok_own hI rfl (om_c73 hI)), ok_at rfl (ok_row1 (by decide) ht), ok_at rfl (ok_row1 (by decide) (vY 0 (by decide))), ok_at rfl (ok_rowc1 (vY 1 (by decide))), ok_at rfl (ok_rowc2 (vY 2 (by decide))), ok_at rfl (ok_rowc3 (vY 3 (by decide))), ok_at rfl (ok_row1 (by decide) (vY 4 (by decide))), ok_at rfl (ok_row1 (by decide) (vY 5 (by decide))), trivial⟩
  exact k0
theorem om_X0 {h : am_H} {f : Nat → Value} (hI : ax_I sbm h) (hx : ax_I sb0 h) {len at_ rl rg z1 z2 z3 z4 z5 z6 tm td y1 y2 y3 y4 y5 y6 : Nat} : ax_I sb0 (rm h f len at_ rl rg z1 z2 z3 z4 z5 z6 tm td y1 y2 y3 y4 y5 y6) := by
  have k0 := om_ok hI
  unfold rm
  refine ax_I_ups hx ?_ ⟨ok_none rfl, ok_none rfl, ok_none rfl, ok_none rfl, ok_none rfl, ok_none rfl, ok_none rfl, ok_none rfl, ok_none rfl, trivial⟩
  exact k0
theorem om_X1 {h : am_H} {f : Nat → Value} (hI : ax_I sbm h) (hx : ax_I sb1 h) {len at_ rl rg z1 z2 z3 z4 z5 z6 tm td y1 y2 y3 y4 y5 y6 : Nat} : ax_I sb1 (rm h f len at_ rl rg z1 z2 z3 z4 z5 z6 tm td y1 y2 y3 y4 y5 y6) := by
  have k0 := om_ok hI
  unfold rm
  refine ax_I_ups hx ?_ ⟨ok_none rfl, ok_none rfl, ok_none rfl, ok_none rfl, ok_none rfl, ok_none rfl, ok_none rfl, ok_none rfl, ok_none rfl, trivial⟩
  exact k0
/-! kept cells and views -/
def je_cs (E : Nat) : List Nat := (43 :: je_rx E) ++ (je_fx E).map Prod.fst ++ je_rm
theorem am_lk_ct : ∀ {ks : List Nat} {a : Nat}, ks.contains a = false → am_lk (ks.map fun a => (a, am_e0)) a = none
  | [], _, _ => rfl
  | k :: l, a, hc => by
    rw [List.contains_cons, Bool.or_eq_false_iff] at hc
    show (bif Nat.beq a k then some am_e0 else am_lk (l.map fun a => (a, am_e0)) a) = none
    have hb : Nat.beq a k = false := by
      cases hq : Nat.beq a k
      · rfl
      · have e := Nat.eq_of_beq_eq_true hq
        rw [e] at hc
        simp at hc
    rw [hb, cond_false]
    exact am_lk_ct hc.2
theorem kp_ck {h h' : am_H} {E : Nat} (ks : List Nat) (ho : ∀ a, am_lk (ks.map fun a => (a, am_e0)) a = none → am_get h' a = am_get h a) (hc : (je_cs E).all (fun a => !ks.contains a) = true) (hm : ∀ k, k ∈ [0, 1, 2, 4, 6, 8, 10, 12] → ax_fv h' 66 k = ax_fv h 66 k) : kp h h' E := by
  rw [List.all_eq_true] at hc
  have g : ∀ a, a ∈ je_cs E → am_get h' a = am_get h a := fun a ha => ho a (am_lk_ct (by simpa using hc a ha))
  refine kp_get (fun a ha => g a (List.mem_append_left _ ha)) (fun p hp => ?_) (fun a ha => g a (List.mem_append_right _ ha))
  have hp' : p ∈ [(66, 0), (66, 1), (66, 2), (66, 4), (66, 6), (66, 8), (66, 10), (66, 12)] := hp
  simp only [List.mem_cons, List.not_mem_nil, or_false] at hp'
  rcases hp' with rfl | rfl | rfl | rfl | rfl | rfl | rfl | rfl <;> exact hm _ (by simp)
theorem je_x_lo {h h' : am_H} {E mi go : Nat} {Z X : Nat → Nat} (hE : E < 53) (lo : ∀ a, a ≠ 0 → a < 66 → am_get h' a = am_get h a) (h0 : E ≠ 0) (hx : je_x h E mi go Z X) : je_x h' E mi go Z X := by
  refine ⟨?_, ?_, fun k hk => ⟨?_, ?_⟩⟩
  · rw [ax_fv_get (lo E h0 (by omega))]; exact hx.1
  · rw [ax_fv_get (lo E h0 (by omega))]; exact hx.2.1
  · rw [ax_fv_get (lo _ (by omega) (by omega))]; exact (hx.2.2 k hk).1
  · rw [lo _ (by omega) (by omega)]; exact (hx.2.2 k hk).2
theorem om_fm {h : am_H} (hI : ax_I sbm h) {len at_ rl rg z1 z2 z3 z4 z5 z6 tm td y1 y2 y3 y4 y5 y6 : Nat} : ∀ k, k ∈ [0, 1, 2, 4, 6, 8, 10, 12] → ax_fv (rm h (valv h 66) len at_ rl rg z1 z2 z3 z4 z5 z6 tm td y1 y2 y3 y4 y5 y6) 66 k = ax_fv h 66 k := by
  intro k hk
  have hM := om_ok hI
  have key : ∀ k, k < 55 → ax_fv h 66 k = some (valv h 66 k) := fun k hk => val_in hI (a := 66) rfl hk
  simp only [List.mem_cons, List.not_mem_nil, or_false] at hk
  rcases hk with rfl | rfl | rfl | rfl | rfl | rfl | rfl | rfl <;> (rw [key _ (by decide)]; unfold ax_fv; rw [rm_g66 hM]; rfl)
