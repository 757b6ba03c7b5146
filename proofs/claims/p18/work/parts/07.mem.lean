/-! ===== rules: cells ===== -/
theorem am_P1 {D : va_G} {cl : List vw_C} {q : Nat × va_E} {H : Heap} (h : va_at D cl q H) : va_P D cl [q] H := by
  intro k x hx
  have hk : k < 1 := (List.getElem?_eq_some_iff.mp hx).1
  have : k = 0 := by omega
  subst this
  cases hx
  exact h
/-- a class of the table: its fields' words, names apart, types -/
def am_cok (ci : Nat) (C : String) (T : u_T) (N : Nat) (ty : Nat → FieldType) : Prop := am_cls[ci]? = some (C, T, N) ∧ (∀ w ∈ u_ws C T N, w ∈ am_tbl) ∧ (∀ a, a < N → ∀ b, b < N → a ≠ b → (T a).2.1 ≠ (T b).2.1) ∧ (∀ k, k < N → parseFieldDescriptor (T k).2.2.1 = some (ty k))
/-- the field k of class ci, by entry idx of the class own -/
def am_FL (own : String) (idx : Nat) (T : u_T) (k : Nat) : Prop := (Cond.fieldLink own idx (T k).1 (T k).2.1 (T k).2.2.1 ∈ am_tbl) ∨ ∃ host, Cond.fieldLinkNest own idx (T k).1 (T k).2.1 (T k).2.2.1 host ∈ am_nest
theorem g_getfield {M : am_MI} {pc : Nat} {L : am_L} {st : List Value} {h : am_H} {r : am_R} {a ci k idx : Nat} {fs : List Value} {v : Value} {C : String} {T : u_T} {N : Nat} {ty : Nat → FieldType} (hc : am_cok ci C T N ty) (hk : k < N) (hf : am_FL M.1.cls idx T k) (hd : decode M.2.1 pc = .ok (.getfield idx, 3)) (hh : am_get h a = some (.inr (ci, fs))) (hv : fs[k]? = some v) (hg : am_Good M (pc + 3) L (v :: st) h r) : am_Good M pc L (.ref a :: st) h r := by
  refine hg.go fun p l e R s m args below meth c B N0 S0 D dA H locs ls Q X kk => ?_
  obtain ⟨⟨hx, hb, hml, hown, hts, hlk, hr, hnm⟩, ⟨xf, xl, xc, xs⟩, ⟨xn, xt, xB⟩, hK, hw, hS, hL⟩ := X
  have hP := am_P1 (hw.2 a _ hh)
  have hv2 : (fs.map (am_v B))[k]? = some (am_v B v) := by rw [List.getElem?_map, hv]; rfl
  rcases hf with hf | ⟨host, hf⟩
  · exact va_get (Ts := am_tbl) hx hb hts hc.2.1 hown hK.1 hP 0 rfl hc.1 k hk (hts _ hf) (fun _ z => z) hv2 hd (kk ls hL)
  · exact va_getN (Ts := am_tbl) hx hb hts hc.2.1 hown hK.1 hP 0 rfl hc.1 k hk (va_Nw.use rfl (hK.2.1 _ hf)) (fun _ z => z) hv2 hd (kk ls hL)
/-- what a field of a type takes -/
def am_fit (ty : FieldType) (v : Value) : Prop := match ty, v with
  | .int, .retAddr _ => True
  | .boolean, .retAddr n => n < 2
  | .object _, .ref _ => True
  | .object _, .null => True
  | .array _, .ref _ => True
  | .array _, .null => True
  | _, _ => False
theorem am_fit_ok {ty : FieldType} {v : Value} (B : Nat) (h : am_fit ty v) : narrow ty (am_v B v) = am_v B v ∧ fits ty (am_v B v) = true := by
  cases ty <;> cases v <;> first | (exact ⟨rfl, rfl⟩) | (cases h; done) | skip
  rename_i n
  have hn : n = 0 ∨ n = 1 := by have : n < 2 := h; omega
  rcases hn with rfl | rfl
  · exact ⟨by show narrow .boolean (.int (Int32.ofNat 0)) = .int (Int32.ofNat 0); decide, by show fits .boolean (.int (Int32.ofNat 0)) = true; decide⟩
  · exact ⟨by show narrow .boolean (.int (Int32.ofNat 1)) = .int (Int32.ofNat 1); decide, by show fits .boolean (.int (Int32.ofNat 1)) = true; decide⟩
theorem am_map_set (f : Value → Value) (fs : List Value) (k : Nat) (v : Value) : (fs.set k v).map f = (fs.map f).set k (f v) := List.map_set
theorem g_putfield {M : am_MI} {pc : Nat} {L : am_L} {st : List Value} {h : am_H} {r : am_R} {a ci k idx : Nat} {fs : List Value} {v : Value} {C : String} {T : u_T} {N : Nat} {ty : Nat → FieldType} (hc : am_cok ci C T N ty) (hk : k < N) (hf : am_FL M.1.cls idx T k) (hfin : (T k).2.2.2 = false ∨ ((T k).2.2.2 = true ∧ M.1.name = "<init>" ∧ (T k).1 = M.1.cls ∧ Cond.fieldLink M.1.cls idx (T k).1 (T k).2.1 (T k).2.2.1 ∈ am_tbl)) (hd : decode M.2.1 pc = .ok (.putfield idx, 3)) (hh : am_get h a = some (.inr (ci, fs))) (hl : k < fs.length) (hfit : am_fit (ty k) v) (hg : am_Good M (pc + 3) L st (am_upd h a (.inr (ci, fs.set k v))) r) : am_Good M pc L (v :: .ref a :: st) h r := by
  refine am_Good.put hg fun p l e R s m args below meth c B N0 S0 D dA H locs ls Q X kk => ?_
  obtain ⟨⟨hx, hb, hml, hown, hts, hlk, hr, hnm⟩, ⟨xf, xl, xc, xs⟩, ⟨xn, xt, xB⟩, hK, hw, hS, hL⟩ := X
  have hap := va_apart (own := M.1.cls) (Ts := am_tbl) hts hc.2.1 ty hc.2.2.2 hc.2.2.1 hK.1 hc.1
  have hat := hw.2 a _ hh
  obtain ⟨r0, h1, cell, q1, q2, q3, q4⟩ := hat
  have hr0 : r0 = (C, T, N) := Option.some.inj (h1.symm.trans hc.1)
  subst hr0
  obtain ⟨hSl, hfc, kC, hkC, hkind⟩ := hK.1.1 ci _ hc.1
  obtain ⟨cf, kf, fi, f, hi, hsl⟩ := hSl k hk
  have hlay := hts _ (hc.2.1 _ (u_in_lay hk))
  have hst := (u_facts hfc hkC (u_lays hts hc.2.1 hk) hi).1
  obtain ⟨hn1, hn2⟩ := am_fit_ok B hfit
  have hlt : f.slot < cell.slots.size := by rw [hsl]; exact k2_hasslot (q4 k hk)
  have hl2 : k < (fs.map (am_v B)).length := by rw [List.length_map]; exact hl
  have fin : ∀ H' : Heap, H'[B + a]? = some (cell.setSlot f.slot (am_v B v)) → H'.size = H.size → (∀ q, q ≠ B + a → H'[q]? = H[q]?) → W p l e R s m args below meth c H' (locs ++ [⟨B + a, f.slot⟩]) (h.1 - N0) (h.2.1 - S0) Q (F0 m (pc + 3) ls (st.map (am_v B))) := by
    intro H' e1 e2 e3
    rw [hsl] at e1 ⊢
    refine kk H' _ (hw.upd hh ?_ e2 e3) (hS.put e2 e3 (Nat.le_add_right _ _))
    refine ⟨_, hc.1, ?_⟩
    show t_OB (B + a) _ N _ H' (vp_V ((fs.set k v).map (am_v B)))
    rw [am_map_set]
    exact t_OB.to (V := updV (vp_V (fs.map (am_v B))) k (am_v B v)) ⟨_, e1, q2, q3, t_set q4 hap hk (am_v B v)⟩ (fun j _ => vp_updV_set hl2 (am_v B v) j)
  rcases hfin with hfin | ⟨hfin, hin, hdc, hfl⟩
  · unfold u_lay at hlay
    rw [if_neg (by rw [hfin]; decide)] at hlay
    have h6 := u_store hfc hkC hkind hlay hi (hc.2.2.2 k hk) hn1 hn2
    rcases hf with hf | ⟨host, hf⟩
    · exact W.putK hx hb (f := f) ⟨hown, hts _ hf, ⟨_, _, _, hi⟩, hst⟩ (by rw [q2]; exact h6) q1 q3 hlt rfl rfl hd fin
    · exact va_WputK hx hb (f := f) hown (va_Nw.use rfl (hK.2.1 _ hf)) hi hst (by rw [q2]; exact h6) q1 q3 hlt rfl rfl hd fin
  · unfold u_lay at hlay
    rw [if_pos hfin] at hlay
    have hcf : m.cls = cf := by
      obtain ⟨_, _, c', _, _, _, -, -, hf', -, -, -, hown2, -⟩ := Cond.laysFinal_spec hlay
      have e1 : c' = cf := by have := hi.symm.trans hf'; simp at this; exact this.1.symm
      rw [hdc] at hown2
      rw [← e1]
      exact Option.some.inj (hown.symm.trans hown2)
    have h6 := u_fits hfc hkC hkind (Or.inr hlay) hi (hc.2.2.2 k hk) hn1 hn2
    exact W.putFinK hx hb hown (hts _ hfl) hi hst hcf (hnm.trans hin) (by rw [q2]; exact h6) q1 q3 hlt rfl rfl hd fin
theorem an_in {i n : Nat} (h : i < n) (hn : n ≤ 2147483648) : vp_in (Int32.ofNat i) n := by
  have hi : i < 2147483648 := by omega
  rintro (q | q)
  · exact an_nonneg hi q
  · rw [an_clamp hi] at q
    omega
theorem g_iaload {M : am_MI} {pc : Nat} {L : am_L} {st : List Value} {h : am_H} {r : am_R} {a i n x : Nat} (hd : decode M.2.1 pc = .ok (.iaload, 1)) (hh : am_get h a = some (.inl (0, n, x))) (hi : i < n) (hn : n ≤ 2147483648) (hg : am_Good M (pc + 1) L (.retAddr (am_ag x i) :: st) h r) : am_Good M pc L (.retAddr i :: .ref a :: st) h r := by
  refine hg.go fun p l e R s m args below meth c B N0 S0 D dA H locs ls Q X kk => ?_
  obtain ⟨⟨hx, hb, hml, hown, hts, hlk, hr, hnm⟩, ⟨xf, xl, xc, xs⟩, ⟨xn, xt, xB⟩, hK, hw, hS, hL⟩ := X
  exact va_iald hx hb hK.1 (am_P1 (hw.2 a _ hh)) 0 0 rfl rfl (an_in hi hn) hd (W.eq (by rw [an_clamp (by omega)]; rfl) (kk ls hL))
theorem g_caload {M : am_MI} {pc : Nat} {L : am_L} {st : List Value} {h : am_H} {r : am_R} {a i n x : Nat} (hd : decode M.2.1 pc = .ok (.caload, 1)) (hh : am_get h a = some (.inl (1, n, x))) (hi : i < n) (hn : n ≤ 2147483648) (hg : am_Good M (pc + 1) L (.retAddr (am_ag x i) :: st) h r) : am_Good M pc L (.retAddr i :: .ref a :: st) h r := by
  refine hg.go fun p l e R s m args below meth c B N0 S0 D dA H locs ls Q X kk => ?_
  obtain ⟨⟨hx, hb, hml, hown, hts, hlk, hr, hnm⟩, ⟨xf, xl, xc, xs⟩, ⟨xn, xt, xB⟩, hK, hw, hS, hL⟩ := X
  exact va_cald hx hb hK.1 (am_P1 (hw.2 a _ hh)) 0 1 rfl rfl (an_in hi hn) hd (W.eq (by rw [an_clamp (by omega)]; rfl) (kk ls hL))
theorem g_zaload {M : am_MI} {pc : Nat} {L : am_L} {st : List Value} {h : am_H} {r : am_R} {a i n x : Nat} (hd : decode M.2.1 pc = .ok (.baload, 1)) (hh : am_get h a = some (.inl (2, n, x))) (hi : i < n) (hn : n ≤ 2147483648) (hg : am_Good M (pc + 1) L (.retAddr (am_ag x i) :: st) h r) : am_Good M pc L (.retAddr i :: .ref a :: st) h r := by
  refine hg.go fun p l e R s m args below meth c B N0 S0 D dA H locs ls Q X kk => ?_
  obtain ⟨⟨hx, hb, hml, hown, hts, hlk, hr, hnm⟩, ⟨xf, xl, xc, xs⟩, ⟨xn, xt, xB⟩, hK, hw, hS, hL⟩ := X
  exact va_zald hx hb hK.1 (am_P1 (hw.2 a _ hh)) 0 2 rfl rfl (an_in hi hn) hd (W.eq (by rw [an_clamp (by omega)]; rfl) (kk ls hL))
theorem am_arr_as {B : Nat} {D : va_G} {dA : Nat → ClassId} {H' : Heap} {q kd n x i v v2 : Nat} (hv : v2 % 4294967296 = v % 4294967296) (e1 : H'[q]? = some ((arrV (dA kd) n (fun j => .int (Int32.ofNat (am_ag x j)))).setSlot i (.int (Int32.ofNat v)))) : va_at D am_cls (q, am_e B dA (.inl (kd, n, am_as x i v2))) H' := by
  show H'[q]? = some (vp_cell _ _)
  rw [e1, vp_cell_i, arrV_store]
  congr 2
  funext j
  show updV _ _ _ _ = Value.int (Int32.ofNat (am_ag (am_as x i v2) j))
  rw [am_ag_as]
  by_cases hj : j = i
  · subst hj
    rw [if_pos rfl, hv, an_mod]
    simp [updV]
  · rw [if_neg hj]
    simp [updV, hj]
theorem g_iastore {M : am_MI} {pc : Nat} {L : am_L} {st : List Value} {h : am_H} {r : am_R} {a i n x v : Nat} (hd : decode M.2.1 pc = .ok (.iastore, 1)) (hh : am_get h a = some (.inl (0, n, x))) (hi : i < n) (hn : n ≤ 2147483648) (hg : am_Good M (pc + 1) L st (am_upd h a (.inl (0, n, am_as x i v))) r) : am_Good M pc L (.retAddr v :: .retAddr i :: .ref a :: st) h r := by
  refine am_Good.put hg fun p l e R s m args below meth c B N0 S0 D dA H locs ls Q X kk => ?_
  obtain ⟨⟨hx, hb, hml, hown, hts, hlk, hr, hnm⟩, ⟨xf, xl, xc, xs⟩, ⟨xn, xt, xB⟩, hK, hw, hS, hL⟩ := X
  have hat : H[B + a]? = some (arrV (dA 0) n (fun j => .int (Int32.ofNat (am_ag x j)))) := hw.2 a _ hh
  refine W.iast hx hb hat ((hK.1.2 0 _ rfl).1 n _) (fun q => by cases q) (by rw [arrV_size]; exact an_in hi hn) rfl rfl hd fun H' e1 e2 e3 => ?_
  rw [an_clamp (by omega)] at e1 ⊢
  exact kk H' _ (hw.upd hh (am_arr_as rfl e1) e2 e3) (hS.put e2 e3 (Nat.le_add_right _ _))
theorem g_castore {M : am_MI} {pc : Nat} {L : am_L} {st : List Value} {h : am_H} {r : am_R} {a i n x v : Nat} (hd : decode M.2.1 pc = .ok (.castore, 1)) (hh : am_get h a = some (.inl (1, n, x))) (hi : i < n) (hn : n ≤ 2147483648) (hg : am_Good M (pc + 1) L st (am_upd h a (.inl (1, n, am_as x i (v % 65536)))) r) : am_Good M pc L (.retAddr v :: .retAddr i :: .ref a :: st) h r := by
  refine am_Good.put hg fun p l e R s m args below meth c B N0 S0 D dA H locs ls Q X kk => ?_
  obtain ⟨⟨hx, hb, hml, hown, hts, hlk, hr, hnm⟩, ⟨xf, xl, xc, xs⟩, ⟨xn, xt, xB⟩, hK, hw, hS, hL⟩ := X
  have hat : H[B + a]? = some (arrV (dA 1) n (fun j => .int (Int32.ofNat (am_ag x j)))) := hw.2 a _ hh
  refine W.cast hx hb hat ((hK.1.2 1 _ rfl).1 n _) (fun q => by cases q) (by rw [arrV_size]; exact an_in hi hn) rfl rfl hd fun H' e1 e2 e3 => ?_
  rw [an_clamp (by omega)] at e1 ⊢
  rw [an_c16] at e1
  exact kk H' _ (hw.upd hh (am_arr_as rfl e1) e2 e3) (hS.put e2 e3 (Nat.le_add_right _ _))
theorem g_zastore {M : am_MI} {pc : Nat} {L : am_L} {st : List Value} {h : am_H} {r : am_R} {a i n x v : Nat} (hd : decode M.2.1 pc = .ok (.bastore, 1)) (hh : am_get h a = some (.inl (2, n, x))) (hi : i < n) (hn : n ≤ 2147483648) (hg : am_Good M (pc + 1) L st (am_upd h a (.inl (2, n, am_as x i (v % 2)))) r) : am_Good M pc L (.retAddr v :: .retAddr i :: .ref a :: st) h r := by
  refine am_Good.put hg fun p l e R s m args below meth c B N0 S0 D dA H locs ls Q X kk => ?_
  obtain ⟨⟨hx, hb, hml, hown, hts, hlk, hr, hnm⟩, ⟨xf, xl, xc, xs⟩, ⟨xn, xt, xB⟩, hK, hw, hS, hL⟩ := X
  have hat : H[B + a]? = some (arrV (dA 2) n (fun j => .int (Int32.ofNat (am_ag x j)))) := hw.2 a _ hh
  refine W.zast hx hb hat ((hK.1.2 2 _ rfl).1 n _) (fun q => by cases q) (by rw [arrV_size]; exact an_in hi hn) rfl rfl hd fun H' e1 e2 e3 => ?_
  rw [an_clamp (by omega)] at e1 ⊢
  rw [an_b1] at e1
  exact kk H' _ (hw.upd hh (am_arr_as rfl e1) e2 e3) (hS.put e2 e3 (Nat.le_add_right _ _))
theorem g_alen {M : am_MI} {pc : Nat} {L : am_L} {st : List Value} {h : am_H} {r : am_R} {a kd n x : Nat} (hd : decode M.2.1 pc = .ok (.arraylength, 1)) (hh : am_get h a = some (.inl (kd, n, x))) (hk : kd < 3) (hg : am_Good M (pc + 1) L (.retAddr n :: st) h r) : am_Good M pc L (.ref a :: st) h r := by
  refine hg.go fun p l e R s m args below meth c B N0 S0 D dA H locs ls Q X kk => ?_
  obtain ⟨⟨hx, hb, hml, hown, hts, hlk, hr, hnm⟩, ⟨xf, xl, xc, xs⟩, ⟨xn, xt, xB⟩, hK, hw, hS, hL⟩ := X
  have hP := am_P1 (hw.2 a _ hh)
  have h3 : kd = 0 ∨ kd = 1 ∨ kd = 2 := by omega
  rcases h3 with rfl | rfl | rfl
  · exact va_alen (ty := .int) hx hb hK.1 hP 0 0 rfl rfl rfl hd (kk ls hL)
  · exact va_alen (ty := .char) hx hb hK.1 hP 0 1 rfl rfl rfl hd (kk ls hL)
  · exact va_alen (ty := .boolean) hx hb hK.1 hP 0 2 rfl rfl rfl hd (kk ls hL)
theorem g_new {M : am_MI} {pc : Nat} {L : am_L} {st : List Value} {h h' : am_H} {r : am_R} {ci idx : Nat} {fs : List Value} {C : String} {T : u_T} {N : Nat} {ty : Nat → FieldType} (hc : am_cok ci C T N ty) (hl : Cond.classLink M.1.cls idx C ∈ am_tbl) (hin : Cond.instantiable C N ∈ am_tbl) (hini : Cond.initialized C ∈ am_tbl) (hfs : ∀ B j, j < N → defaultValue (ty j) = vp_V (fs.map (am_v B)) j) (hd : decode M.2.1 pc = .ok (.new idx, 3)) (hn : am_New h h' N (.inr (ci, fs))) (hg : am_Good M (pc + 3) L (.ref h.1 :: st) h' r) : am_Good M pc L st h r := by
  refine am_Good.make hn hg fun p l e R s m args below meth c B N0 S0 D dA H locs ls Q X hc1 hs1 kk => ?_
  obtain ⟨⟨hx, hb, hml, hown, hts, hlk, hr, hnm⟩, ⟨xf, xl, xc, xs⟩, ⟨xn, xt, xB⟩, hK, hw, hS, hL⟩ := X
  have hKn := hK.1.1 ci _ hc.1
  refine W.newcK hx hb hown (hts _ hl) (hts _ hin) (hts _ hini) rfl hd hc1 hs1 hKn.2.1 rfl fun H1 kC hkC e1 z1 o1 => ?_
  have hsz := hw.1
  refine W.eq (g2 := F0 m (pc + 3) ls ((Value.ref h.1 :: st).map (am_v B))) (by rw [hsz]; rfl) (kk H1 ⟨_, hc.1, ?_⟩ z1 o1)
  rw [← hsz]
  exact (u_born ty hts hc.2.1 hKn hkC e1 hc.2.2.2).to (hfs B)
theorem g_newarray {M : am_MI} {pc : Nat} {L : am_L} {st : List Value} {h h' : am_H} {r : am_R} {kd n : Nat} {at' : ArrayType} (hty : (newarray.typeOf at' = .int ∧ kd = 0) ∨ (newarray.typeOf at' = .char ∧ kd = 1) ∨ (newarray.typeOf at' = .boolean ∧ kd = 2)) (har : Cond.arrayClass (newarray.typeOf at') ∈ am_tbl) (hd : decode M.2.1 pc = .ok (.newarray at', 2)) (hb0 : n < 100000000) (hn : am_New h h' n (.inl (kd, n, 0))) (hg : am_Good M (pc + 2) L (.ref h.1 :: st) h' r) : am_Good M pc L (.retAddr n :: st) h r := by
  refine am_Good.make hn hg fun p l e R s m args below meth c B N0 S0 D dA H locs ls Q X hc1 hs1 kk => ?_
  obtain ⟨⟨hx, hb, hml, hown, hts, hlk, hr, hnm⟩, ⟨xf, xl, xc, xs⟩, ⟨xn, xt, xB⟩, hK, hw, hS, hL⟩ := X
  have hbytes : n * componentBytes (newarray.typeOf at') ≤ 536870912 := by
    rcases hty with ⟨q, -⟩ | ⟨q, -⟩ | ⟨q, -⟩ <;> rw [q] <;> simp only [componentBytes] <;> omega
  refine va_newaK hx hb (hts _ har) rfl hd rfl (an_nonneg (by omega)) (an_clamp (by omega)) hbytes hc1 hs1 rfl fun H1 cA e1 z1 o1 hAr hNm => ?_
  have hsz := hw.1
  refine W.eq (g2 := F0 m (pc + 2) ls ((Value.ref h.1 :: st).map (am_v B))) (by rw [hsz]; rfl) (kk H1 ?_ z1 o1)
  rw [← hsz]
  show H1[H.size]? = some (vp_cell _ _)
  rw [e1]
  rcases hty with ⟨q, rfl⟩ | ⟨q, rfl⟩ | ⟨q, rfl⟩
  · rw [q] at hNm ⊢
    have h2 : s.vm.findClass ("[" ++ FieldType.int.toString) = some (dA 0) := (hK.1.2 0 _ rfl).2
    cases hNm.symm.trans h2
    rw [vp_cell_i]
    congr 2
    funext j
    show _ = Value.int (Int32.ofNat (am_ag 0 j))
    simp [am_ag, defaultValue]
  · rw [q] at hNm ⊢
    have h2 : s.vm.findClass ("[" ++ FieldType.char.toString) = some (dA 1) := (hK.1.2 1 _ rfl).2
    cases hNm.symm.trans h2
    rw [vp_cell_i]
    congr 2
    funext j
    show _ = Value.int (Int32.ofNat (am_ag 0 j))
    simp [am_ag, defaultValue]
  · rw [q] at hNm ⊢
    have h2 : s.vm.findClass ("[" ++ FieldType.boolean.toString) = some (dA 2) := (hK.1.2 2 _ rfl).2
    cases hNm.symm.trans h2
    rw [vp_cell_i]
    congr 2
    funext j
    show _ = Value.int (Int32.ofNat (am_ag 0 j))
    simp [am_ag, defaultValue]
