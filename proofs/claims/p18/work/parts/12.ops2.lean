/-! ===== instructions on cells ===== -/
noncomputable def am_gf (ci k nx : Nat) : am_Op := fun _ L st h => match st with
  | .ref a :: st' => match am_get h a with
    | some (.inr (c, fs)) => bif Nat.beq c ci then (match am_nth fs k with
      | some v => .inl (nx, L, v :: st', h)
      | none => .inr none) else .inr none
    | _ => .inr none
  | _ => .inr none
theorem ok_gf {M : am_MI} {pc ci k idx nx : Nat} {C : String} {T : u_T} {N : Nat} {ty : Nat → FieldType} (hd : decode M.2.1 pc = .ok (.getfield idx, 3)) (hx : pc + 3 = nx) (hc : am_cok ci C T N ty) (hk : k < N) (hf : am_FL M.1.cls idx T k) : am_OpOk M pc (am_gf ci k nx) := by
  intro ev _ L st h
  subst hx
  simp only [am_gf]
  split
  · rename_i a st'
    split
    · rename_i c fs hh
      cases hb : Nat.beq c ci
      · trivial
      · have e := Nat.eq_of_beq_eq_true hb
        subst e
        rw [cond_true]
        split
        · rename_i v hv
          rw [am_nth_eq] at hv
          exact fun r hg => g_getfield hc hk hf hd hh hv hg
        · trivial
    · trivial
  · trivial
def am_tk (ty : FieldType) : Nat := match ty with
  | .int => 0
  | .boolean => 1
  | .object _ => 2
  | .array _ => 2
  | _ => 9
def am_fitb (tk : Nat) (v : Value) : Bool := match v with
  | .retAddr n => bif Nat.beq tk 0 then true else (bif Nat.beq tk 1 then Nat.blt n 2 else false)
  | .ref _ => Nat.beq tk 2
  | .null => Nat.beq tk 2
  | _ => false
theorem am_fitb_ok {ty : FieldType} {tk : Nat} {v : Value} (h : am_tk ty = tk) (hb : am_fitb tk v = true) : am_fit ty v := by
  subst h
  cases ty <;> cases v <;> first | trivial | (cases hb; done) | skip
  have : Nat.blt _ 2 = true := hb
  show _ < 2
  simpa [Nat.blt_eq] using this
noncomputable def am_pf (ci k tk nx : Nat) : am_Op := fun _ L st h => match st with
  | v :: .ref a :: st' => bif am_fitb tk v then (match am_get h a with
    | some (.inr (c, fs)) => bif Nat.beq c ci then (match am_nth fs k with
      | some _ => am_setc fs v k fun fs' => am_updc h a (.inr (ci, fs')) fun h' => .inl (nx, L, st', h')
      | none => .inr none) else .inr none
    | _ => .inr none) else .inr none
  | _ => .inr none
theorem ok_pf {M : am_MI} {pc ci k idx tk nx : Nat} {C : String} {T : u_T} {N : Nat} {ty : Nat → FieldType} (hd : decode M.2.1 pc = .ok (.putfield idx, 3)) (hx : pc + 3 = nx) (hc : am_cok ci C T N ty) (hk : k < N) (hf : am_FL M.1.cls idx T k) (hfin : (T k).2.2.2 = false ∨ ((T k).2.2.2 = true ∧ M.1.name = "<init>" ∧ (T k).1 = M.1.cls ∧ Cond.fieldLink M.1.cls idx (T k).1 (T k).2.1 (T k).2.2.1 ∈ am_tbl)) (ht : am_tk (ty k) = tk) : am_OpOk M pc (am_pf ci k tk nx) := by
  intro ev _ L st h
  subst hx
  simp only [am_pf]
  split
  · rename_i v a st'
    cases hfb : am_fitb tk v
    · trivial
    · rw [cond_true]
      split
      · rename_i c fs hh
        cases hb : Nat.beq c ci
        · trivial
        · have e := Nat.eq_of_beq_eq_true hb
          subst e
          rw [cond_true]
          split
          · rename_i u hu
            rw [am_nth_eq] at hu
            rw [am_setc_eq, am_updc_eq]
            exact fun r hg => g_putfield hc hk hf hfin hd hh (List.getElem?_eq_some_iff.mp hu).1 (am_fitb_ok ht hfb) hg
          · trivial
      · trivial
  · trivial
noncomputable def am_ald (kd nx : Nat) : am_Op := fun _ L st h => match st with
  | .retAddr i :: .ref a :: st' => match am_get h a with
    | some (.inl (d, n, x)) => bif Nat.beq d kd then (bif Nat.blt i n then (bif Nat.ble n 2147483648 then am_force (am_ag x i) fun v => .inl (nx, L, .retAddr v :: st', h) else .inr none) else .inr none) else .inr none
    | _ => .inr none
  | _ => .inr none
theorem am_ald_ok {M : am_MI} {pc kd nx : Nat} (hr : ∀ {L : am_L} {st : List Value} {h : am_H} {r : am_R} {a i n x : Nat}, am_get h a = some (.inl (kd, n, x)) → i < n → n ≤ 2147483648 → am_Good M nx L (.retAddr (am_ag x i) :: st) h r → am_Good M pc L (.retAddr i :: .ref a :: st) h r) : am_OpOk M pc (am_ald kd nx) := by
  intro ev _ L st h
  simp only [am_ald]
  split
  · rename_i i a st'
    split
    · rename_i d n x hh
      cases hb : Nat.beq d kd
      · trivial
      · have e := Nat.eq_of_beq_eq_true hb
        subst e
        cases h1 : Nat.blt i n
        · trivial
        · cases h2 : Nat.ble n 2147483648
          · trivial
          · rw [cond_true, cond_true, cond_true, am_force_eq]
            exact fun r hg => hr hh (by simpa [Nat.blt_eq] using h1) (Nat.le_of_ble_eq_true h2) hg
    · trivial
  · trivial
theorem ok_iald {M : am_MI} {pc nx : Nat} (hd : decode M.2.1 pc = .ok (.iaload, 1)) (hx : pc + 1 = nx) : am_OpOk M pc (am_ald 0 nx) := by
  subst hx
  exact am_ald_ok (fun hh hi hn hg => g_iaload hd hh hi hn hg)
theorem ok_cald {M : am_MI} {pc nx : Nat} (hd : decode M.2.1 pc = .ok (.caload, 1)) (hx : pc + 1 = nx) : am_OpOk M pc (am_ald 1 nx) := by
  subst hx
  exact am_ald_ok (fun hh hi hn hg => g_caload hd hh hi hn hg)
theorem ok_zald {M : am_MI} {pc nx : Nat} (hd : decode M.2.1 pc = .ok (.baload, 1)) (hx : pc + 1 = nx) : am_OpOk M pc (am_ald 2 nx) := by
  subst hx
  exact am_ald_ok (fun hh hi hn hg => g_zaload hd hh hi hn hg)
noncomputable def am_ast (kd : Nat) (f : Nat → Nat) (nx : Nat) : am_Op := fun _ L st h => match st with
  | .retAddr v :: .retAddr i :: .ref a :: st' => match am_get h a with
    | some (.inl (d, n, x)) => bif Nat.beq d kd then (bif Nat.blt i n then (bif Nat.ble n 2147483648 then am_force (am_as x i (f v)) fun x' => am_updc h a (.inl (kd, n, x')) fun h' => .inl (nx, L, st', h') else .inr none) else .inr none) else .inr none
    | _ => .inr none
  | _ => .inr none
theorem am_ast_ok {M : am_MI} {pc kd nx : Nat} {f : Nat → Nat} (hr : ∀ {L : am_L} {st : List Value} {h : am_H} {r : am_R} {a i n x v : Nat}, am_get h a = some (.inl (kd, n, x)) → i < n → n ≤ 2147483648 → am_Good M nx L st (am_upd h a (.inl (kd, n, am_as x i (f v)))) r → am_Good M pc L (.retAddr v :: .retAddr i :: .ref a :: st) h r) : am_OpOk M pc (am_ast kd f nx) := by
  intro ev _ L st h
  simp only [am_ast]
  split
  · rename_i v i a st'
    split
    · rename_i d n x hh
      cases hb : Nat.beq d kd
      · trivial
      · have e := Nat.eq_of_beq_eq_true hb
        subst e
        cases h1 : Nat.blt i n
        · trivial
        · cases h2 : Nat.ble n 2147483648
          · trivial
          · rw [cond_true, cond_true, cond_true, am_force_eq, am_updc_eq]
            exact fun r hg => hr hh (by simpa [Nat.blt_eq] using h1) (Nat.le_of_ble_eq_true h2) hg
    · trivial
  · trivial
theorem ok_iast {M : am_MI} {pc nx : Nat} (hd : decode M.2.1 pc = .ok (.iastore, 1)) (hx : pc + 1 = nx) : am_OpOk M pc (am_ast 0 (fun v => v) nx) := by
  subst hx
  exact am_ast_ok (fun hh hi hn hg => g_iastore hd hh hi hn hg)
theorem ok_cast {M : am_MI} {pc nx : Nat} (hd : decode M.2.1 pc = .ok (.castore, 1)) (hx : pc + 1 = nx) : am_OpOk M pc (am_ast 1 (fun v => v % 65536) nx) := by
  subst hx
  exact am_ast_ok (fun hh hi hn hg => g_castore hd hh hi hn hg)
theorem ok_zast {M : am_MI} {pc nx : Nat} (hd : decode M.2.1 pc = .ok (.bastore, 1)) (hx : pc + 1 = nx) : am_OpOk M pc (am_ast 2 (fun v => v % 2) nx) := by
  subst hx
  exact am_ast_ok (fun hh hi hn hg => g_zastore hd hh hi hn hg)
noncomputable def am_len (nx : Nat) : am_Op := fun _ L st h => match st with
  | .ref a :: st' => match am_get h a with
    | some (.inl (d, n, _)) => bif Nat.blt d 3 then .inl (nx, L, .retAddr n :: st', h) else .inr none
    | _ => .inr none
  | _ => .inr none
theorem ok_len {M : am_MI} {pc nx : Nat} (hd : decode M.2.1 pc = .ok (.arraylength, 1)) (hx : pc + 1 = nx) : am_OpOk M pc (am_len nx) := by
  intro ev _ L st h
  subst hx
  simp only [am_len]
  split
  · split
    · rename_i d n x hh
      cases hb : Nat.blt d 3
      · trivial
      · exact fun r hg => g_alen hd hh (by simpa [Nat.blt_eq] using hb) hg
    · trivial
  · trivial
noncomputable def am_nwa (kd nx : Nat) : am_Op := fun _ L st h => match st with
  | .retAddr n :: st' => bif Nat.blt n 100000000 then am_pushc h n (.inl (kd, n, 0)) (.inr none) fun c h' => .inl (nx, L, .ref c :: st', h') else .inr none
  | _ => .inr none
theorem ok_nwa {M : am_MI} {pc kd nx : Nat} {at' : ArrayType} (hd : decode M.2.1 pc = .ok (.newarray at', 2)) (hx : pc + 2 = nx) (hty : (newarray.typeOf at' = .int ∧ kd = 0) ∨ (newarray.typeOf at' = .char ∧ kd = 1) ∨ (newarray.typeOf at' = .boolean ∧ kd = 2)) (har : Cond.arrayClass (newarray.typeOf at') ∈ am_tbl) : am_OpOk M pc (am_nwa kd nx) := by
  intro ev _ L st h
  subst hx
  simp only [am_nwa]
  split
  · rename_i n st'
    cases hb : Nat.blt n 100000000
    · trivial
    · rw [cond_true]
      rcases am_pushc_eq h n (.inl (kd, n, 0)) (.inr none) (fun c h' => (.inl (pc + 2, L, .ref c :: st', h') : am_Z)) with e | ⟨h', hn, e⟩
      · rw [e]
        trivial
      · rw [e]
        exact fun r hg => g_newarray hty har hd (by simpa [Nat.blt_eq] using hb) hn hg
  · trivial
noncomputable def am_nw (ci N : Nat) (fs : List Value) (nx : Nat) : am_Op := fun _ L st h => am_pushc h N (.inr (ci, fs)) (.inr none) fun c h' => .inl (nx, L, .ref c :: st, h')
theorem ok_nw {M : am_MI} {pc ci idx nx : Nat} {C : String} {T : u_T} {N : Nat} {ty : Nat → FieldType} {fs : List Value} (hd : decode M.2.1 pc = .ok (.new idx, 3)) (hx : pc + 3 = nx) (hc : am_cok ci C T N ty) (hl : Cond.classLink M.1.cls idx C ∈ am_tbl) (hin : Cond.instantiable C N ∈ am_tbl) (hini : Cond.initialized C ∈ am_tbl) (hfs : ∀ B j, j < N → defaultValue (ty j) = vp_V (fs.map (am_v B)) j) : am_OpOk M pc (am_nw ci N fs nx) := by
  intro ev _ L st h
  subst hx
  simp only [am_nw]
  rcases am_pushc_eq h N (.inr (ci, fs)) (.inr none) (fun c h' => (.inl (pc + 3, L, .ref c :: st, h') : am_Z)) with e | ⟨h', hn, e⟩
  · rw [e]
    trivial
  · rw [e]
    exact fun r hg => g_new hc hl hin hini hfs hd hn hg
/-! ===== calls ===== -/
noncomputable def am_pop {β : Type} (z : β) : Nat → List Value → List Value → (List Value → List Value → β) → β :=
  fun n => Nat.rec (motive := fun _ => List Value → List Value → (List Value → List Value → β) → β) (fun st acc k => k acc st) (fun _ ih st acc k => match st with
    | v :: st' => ih st' (v :: acc) k
    | [] => z) n
theorem am_pop_eq {β : Type} (z : β) (n : Nat) : ∀ (st acc : List Value) (k : List Value → List Value → β), am_pop z n st acc k = z ∨ ∃ as rest, as.length = n ∧ st = as.reverse ++ rest ∧ am_pop z n st acc k = k (as ++ acc) rest := by
  induction n with
  | zero => exact fun st acc k => Or.inr ⟨[], st, rfl, rfl, rfl⟩
  | succ n ih =>
    intro st acc k
    cases st with
    | nil => exact Or.inl rfl
    | cons v st' =>
      rcases ih st' (v :: acc) k with h | ⟨as, rest, h1, h2, h3⟩
      · exact Or.inl h
      · refine Or.inr ⟨as ++ [v], rest, by simp [h1], by simp [h2], ?_⟩
        rw [List.append_assoc]
        exact h3
noncomputable def am_csum (st : List Value) : Nat := List.rec (motive := fun _ => Nat) 0 (fun v _ ih => bif am_c1 v then ih + 1 else ih + 2) st
noncomputable def am_sh (st : List Value) : Bool := Nat.ble (am_csum st) 8
theorem am_csum_eq (st : List Value) : am_csum st = (st.map fun v => v.category).sum := by
  induction st with
  | nil => rfl
  | cons v l ih =>
    show (bif am_c1 v then am_csum l + 1 else am_csum l + 2) = _
    rw [List.map_cons, List.sum_cons, ← ih]
    cases v <;> simp [am_c1, Value.category] <;> omega
theorem am_sh_ok {st : List Value} (h : am_sh st = true) : (st.map fun v => v.category).sum ≤ 8 := by
  rw [← am_csum_eq]
  exact Nat.le_of_ble_eq_true h
def am_back (nx : Nat) (L : am_L) (st : List Value) (x : Option am_R) : am_Z := match x with
  | some (none, h') => .inl (nx, L, st, h')
  | some (some v, h') => .inl (nx, L, v :: st, h')
  | none => .inr none
theorem am_back_ok {M : am_MI} {pc nx : Nat} {L : am_L} {st stk : List Value} {h : am_H} {x : Option am_R} (hr : ∀ r1, x = some r1 → ∀ r, am_Good M nx L (r1.1.toList ++ st) r1.2 r → am_Good M pc L stk h r) : am_St M pc L stk h (am_back nx L st x) := by
  cases x with
  | none => trivial
  | some r1 =>
    obtain ⟨v, h'⟩ := r1
    cases v with
    | none => exact hr _ rfl
    | some v => exact hr _ rfl
noncomputable def am_cs (j n nx : Nat) : am_Op := fun ev L st h => am_pop (.inr none) n st [] fun as rest => bif am_sh rest then am_back nx L rest (ev j as h) else .inr none
theorem ok_cs {M M' : am_MI} {pc j n nx idx : Nat} (hd : decode M.2.1 pc = .ok (.invokestatic idx, 3)) (hx : pc + 3 = nx) (hj : am_mi j = M') (hl : Cond.methodLink M.1.cls idx M'.1 ∈ am_tbl) (hst : Cond.static M'.1 ∈ am_tbl) (hB : am_LkB M M' n) : am_OpOk M pc (am_cs j n nx) := by
  intro ev hev L st h
  subst hx
  subst hj
  simp only [am_cs]
  rcases am_pop_eq (.inr none) n st [] (fun as rest => (bif am_sh rest then am_back (pc + 3) L rest (ev j as h) else .inr none : am_Z)) with e | ⟨as, rest, h1, h2, e⟩
  · rw [e]
    trivial
  · rw [e, List.append_nil]
    cases hs : am_sh rest
    · trivial
    · rw [cond_true, h2]
      exact am_back_ok fun r1 hr1 r hg => g_static hl hst hB h1 (am_sh_ok hs) hd (hev j as h r1 hr1) hg
noncomputable def am_cv (j n ci nx : Nat) : am_Op := fun ev L st h => am_pop (.inr none) n st [] fun as st2 => match st2 with
  | .ref b :: rest => bif am_sh rest then (match am_get h b with
    | some (.inr (c, _)) => bif Nat.beq c ci then am_back nx L rest (ev j (.ref b :: as) h) else .inr none
    | _ => .inr none) else .inr none
  | _ => .inr none
theorem ok_cv {M M' : am_MI} {pc j n ci nx idx : Nat} {T : u_T} {N : Nat} (hd : decode M.2.1 pc = .ok (.invokevirtual idx, 3)) (hx : pc + 3 = nx) (hj : am_mi j = M') (hl : Cond.methodLink M.1.cls idx M'.1 ∈ am_tbl) (hin : Cond.instanceMethod M'.1 ∈ am_tbl) (hse : Cond.selects M'.1.cls M'.1 M'.1 ∈ am_tbl) (hB : am_LkB M M' n) (hc : am_cls[ci]? = some (M'.1.cls, T, N)) : am_OpOk M pc (am_cv j n ci nx) := by
  intro ev hev L st h
  subst hx
  subst hj
  simp only [am_cv]
  rcases am_pop_eq (.inr none) n st [] (fun as st2 => (match st2 with
  | .ref b :: rest => bif am_sh rest then (match am_get h b with
    | some (.inr (c, _)) => bif Nat.beq c ci then am_back (pc + 3) L rest (ev j (.ref b :: as) h) else .inr none
    | _ => .inr none) else .inr none
  | _ => .inr none : am_Z)) with e | ⟨as, rest, h1, h2, e⟩
  · rw [e]
    trivial
  · rw [e, List.append_nil, h2]
    split
    · rename_i b rest'
      cases hs : am_sh rest'
      · trivial
      · rw [cond_true]
        split
        · rename_i c fs hh
          cases hb : Nat.beq c ci
          · trivial
          · have e2 := Nat.eq_of_beq_eq_true hb
            subst e2
            rw [cond_true]
            exact am_back_ok fun r1 hr1 r hg => g_virtual hl hin hse hB hc hh h1 (am_sh_ok hs) hd (hev j _ h r1 hr1) hg
        · trivial
    · trivial
noncomputable def am_cn (j n nx : Nat) : am_Op := fun ev L st h => am_pop (.inr none) n st [] fun as st2 => match st2 with
  | .ref b :: rest => bif am_sh rest then am_back nx L rest (ev j (.ref b :: as) h) else .inr none
  | _ => .inr none
theorem ok_cn {M M' : am_MI} {pc j n nx idx : Nat} (hd : decode M.2.1 pc = .ok (.invokespecial idx, 3)) (hx : pc + 3 = nx) (hj : am_mi j = M') (hl : (Cond.methodLink M.1.cls idx M'.1 ∈ am_tbl) ∨ ∃ host, Cond.methodLinkNest M.1.cls idx M'.1 host ∈ am_nest) (hin : Cond.instanceMethod M'.1 ∈ am_tbl) (hi : M'.1.name = "<init>" ∧ M'.2.2.2.1 = none) (hB : am_LkB M M' n) : am_OpOk M pc (am_cn j n nx) := by
  intro ev hev L st h
  subst hx
  subst hj
  simp only [am_cn]
  rcases am_pop_eq (.inr none) n st [] (fun as st2 => (match st2 with
  | .ref b :: rest => bif am_sh rest then am_back (pc + 3) L rest (ev j (.ref b :: as) h) else .inr none
  | _ => .inr none : am_Z)) with e | ⟨as, rest, h1, h2, e⟩
  · rw [e]
    trivial
  · rw [e, List.append_nil, h2]
    split
    · rename_i b rest'
      cases hs : am_sh rest'
      · trivial
      · rw [cond_true]
        refine am_back_ok fun r1 hr1 r hg => ?_
        rcases hl with hl | ⟨host, hl⟩
        · exact g_init hl hin hi hB h1 (am_sh_ok hs) hd (hev j _ h r1 hr1) hg
        · exact g_initN hl hin hi hB h1 (am_sh_ok hs) hd (hev j _ h r1 hr1) hg
    · trivial
noncomputable def am_co (nx : Nat) : am_Op := fun _ L st h => match st with
  | .ref _ :: rest => bif am_sh rest then .inl (nx, L, rest, h) else .inr none
  | _ => .inr none
theorem ok_co {M : am_MI} {pc nx idx : Nat} (hd : decode M.2.1 pc = .ok (.invokespecial idx, 3)) (hx : pc + 3 = nx) (hl : Cond.methodLink M.1.cls idx Lib.objectInit ∈ am_tbl) (hin : Cond.instanceMethod Lib.objectInit ∈ am_tbl) (hc : Cond.code Lib.objectInit ⟨#[0xb1]⟩ 1 none ∈ am_tbl) (hR : 1 ≤ M.2.2.2.2.1 ∧ 20 ≤ M.2.2.2.2.2) : am_OpOk M pc (am_co nx) := by
  intro ev _ L st h
  subst hx
  simp only [am_co]
  split
  · rename_i a rest
    cases hs : am_sh rest
    · trivial
    · exact fun r hg => g_objInit hl hin hc hR (am_sh_ok hs) hd hg
  · trivial
noncomputable def am_acp (nx : Nat) : am_Op := fun _ L st h => match st with
  | .retAddr n :: .retAddr dp :: .ref a :: .retAddr sp :: .ref a0 :: rest => bif am_sh rest then (match am_get h a0, am_get h a with
    | some (.inl (d0, n0, c0)), some (.inl (d1, n1, c1)) => bif (Nat.beq d0 0 && Nat.beq d1 0) && ((Nat.ble (sp + n) n0 && Nat.ble (dp + n) n1) && (Nat.blt n0 2147483648 && Nat.blt n1 2147483648)) then am_force (am_cp c0 c1 sp dp n) fun x => am_updc h a (.inl (0, n1, x)) fun h' => .inl (nx, L, rest, h') else .inr none
    | _, _ => .inr none) else .inr none
  | _ => .inr none
theorem ok_acp {M : am_MI} {pc nx idx : Nat} (hd : decode M.2.1 pc = .ok (.invokestatic idx, 3)) (hx : pc + 3 = nx) (hl : Cond.methodLink M.1.cls idx arraycopyName ∈ am_tbl) (hnat : Cond.native arraycopyName ∈ am_tbl) (hst : Cond.static arraycopyName ∈ am_tbl) (hini : Cond.initialized "java/lang/System" ∈ am_tbl) (hR : 1 ≤ M.2.2.2.2.1 ∧ 26 ≤ M.2.2.2.2.2) : am_OpOk M pc (am_acp nx) := by
  intro ev _ L st h
  subst hx
  simp only [am_acp]
  split
  · rename_i n dp a sp a0 rest
    cases hs : am_sh rest
    · trivial
    · rw [cond_true]
      split
      · rename_i d0 n0 c0 d1 n1 c1 e0 e1
        cases hb : ((Nat.beq d0 0 && Nat.beq d1 0) && ((Nat.ble (sp + n) n0 && Nat.ble (dp + n) n1) && (Nat.blt n0 2147483648 && Nat.blt n1 2147483648)))
        · trivial
        · rw [cond_true, am_force_eq, am_updc_eq]
          simp only [Bool.and_eq_true, Nat.beq_eq, Nat.ble_eq, Nat.blt_eq] at hb
          obtain ⟨⟨q1, q2⟩, ⟨q3, q4⟩, q5, q6⟩ := hb
          subst q1
          subst q2
          exact fun r hg => g_acopy hl hnat hst hini hR (am_sh_ok hs) hd e0 e1 q3 q4 q5 q6 hg
      · trivial
  · trivial
/-! ===== ends ===== -/
def am_iret : am_Op := fun _ _ st h => match st with
  | [.retAddr n] => .inr (some (some (.retAddr n), h))
  | _ => .inr none
theorem ok_iret {M : am_MI} {pc : Nat} (hd : decode M.2.1 pc = .ok (.ireturn, 1)) (hr : M.2.2.2.1 = some .int) : am_OpOk M pc am_iret := by
  intro ev _ L st h
  simp only [am_iret]
  split
  · exact g_ireturn hr hd
  · trivial
def am_zret : am_Op := fun _ _ st h => match st with
  | [.retAddr n] => bif Nat.blt n 2 then .inr (some (some (.retAddr n), h)) else .inr none
  | _ => .inr none
theorem ok_zret {M : am_MI} {pc : Nat} (hd : decode M.2.1 pc = .ok (.ireturn, 1)) (hr : M.2.2.2.1 = some .boolean) : am_OpOk M pc am_zret := by
  intro ev _ L st h
  simp only [am_zret]
  split
  · rename_i n
    cases hb : Nat.blt n 2
    · trivial
    · exact g_zreturn hr (by simpa [Nat.blt_eq] using hb) hd
  · trivial
def am_vret : am_Op := fun _ _ st h => match st with
  | [] => .inr (some (none, h))
  | _ => .inr none
theorem ok_vret {M : am_MI} {pc : Nat} (hd : decode M.2.1 pc = .ok (.return_, 1)) (hr : M.2.2.2.1 = none) : am_OpOk M pc am_vret := by
  intro ev _ L st h
  simp only [am_vret]
  split
  · exact g_return hr hd
  · trivial
def am_aret : am_Op := fun _ _ st h => match st with
  | [.ref n] => .inr (some (some (.ref n), h))
  | _ => .inr none
theorem ok_aret {M : am_MI} {pc : Nat} {rt : FieldType} (hd : decode M.2.1 pc = .ok (.areturn, 1)) (hr : M.2.2.2.1 = some rt) (hrt : (∃ n, rt = .object n) ∨ ∃ t, rt = .array t) : am_OpOk M pc am_aret := by
  intro ev _ L st h
  simp only [am_aret]
  split
  · exact g_areturn hr hrt hd
  · trivial
/-! ===== switches ===== -/
noncomputable def am_tsw (lo : Nat) (ts : List Nat) (d : Nat) : am_Op := fun _ L st h => match st with
  | .retAddr a :: st' => bif Nat.blt a lo then .inl (d, L, st', h) else (match am_nth ts (a - lo) with
    | some t => .inl (t, L, st', h)
    | none => bif Nat.blt a 4294967296 then .inl (d, L, st', h) else .inr none)
  | _ => .inr none
theorem ok_tsw {M : am_MI} {pc lo d len : Nat} {ts : List Nat} {dflt hi : Int} {offs : Array Int} (hd : decode M.2.1 pc = .ok (.tableswitch dflt (lo : Int) hi offs, len)) (hs : lo + ts.length ≤ 2147483648) (hh : hi = (lo : Int) + ts.length - 1) (ho : offs.toList = ts.map (fun (t : Nat) => (t : Int) - (pc : Int))) (ht : (pc : Int) + dflt = (d : Int)) : am_OpOk M pc (am_tsw lo ts d) := by
  intro ev _ L st h
  simp only [am_tsw]
  split
  · rename_i a st'
    cases hb : Nat.blt a lo
    · have hb' : ¬ a < lo := by
        intro q
        have h9 : Nat.blt a lo = true := by simpa [Nat.blt_eq] using q
        rw [h9] at hb
        cases hb
      rw [cond_false]
      split
      · rename_i t hn
        rw [am_nth_eq] at hn
        have hl := (List.getElem?_eq_some_iff.mp hn).1
        intro r hg
        refine g_tableIn (off := (t : Int) - (pc : Int)) hd (by omega) (by omega) (by rw [hh]; omega) ?_ (by omega) hg
        have e : ((a : Int) - (lo : Int)).toNat = a - lo := by omega
        rw [e, ← Array.getElem?_toList, ho, List.getElem?_map, hn]
        rfl
      · rename_i hn
        rw [am_nth_eq] at hn
        have hl := List.getElem?_eq_none_iff.mp hn
        cases h4 : Nat.blt a 4294967296
        · trivial
        · intro r hg
          exact g_tableOut hd (by simpa [Nat.blt_eq] using h4) (by omega) (Or.inr (by rw [hh]; omega)) ht hg
    · have hb' : a < lo := by simpa [Nat.blt_eq] using hb
      intro r hg
      exact g_tableOut hd (by omega) (by omega) (Or.inl (by omega)) ht hg
  · trivial
noncomputable def am_lsw (t0 t1 d : Nat) : am_Op := fun _ L st h => match st with
  | .retAddr a :: st' => bif Nat.beq a 0 then .inl (t0, L, st', h) else (bif Nat.beq a 1 then .inl (t1, L, st', h) else (bif Nat.blt a 4294967296 then .inl (d, L, st', h) else .inr none))
  | _ => .inr none
theorem ok_lsw {M : am_MI} {pc t0 t1 d len : Nat} {dflt o0 o1 : Int} (hd : decode M.2.1 pc = .ok (.lookupswitch dflt #[(0, o0), (1, o1)], len)) (h0 : (pc : Int) + o0 = (t0 : Int)) (h1 : (pc : Int) + o1 = (t1 : Int)) (ht : (pc : Int) + dflt = (d : Int)) : am_OpOk M pc (am_lsw t0 t1 d) := by
  intro ev _ L st h
  simp only [am_lsw]
  split
  · rename_i a st'
    cases hb : Nat.beq a 0
    · cases hb1 : Nat.beq a 1
      · cases h4 : Nat.blt a 4294967296
        · trivial
        · intro r hg
          have n0 := Nat.ne_of_beq_eq_false hb
          have n1 := Nat.ne_of_beq_eq_false hb1
          have h4' : a < 4294967296 := by simpa [Nat.blt_eq] using h4
          have hq : ¬ (Int32.ofNat a).toInt = 0 ∧ ¬ (Int32.ofNat a).toInt = 1 := by
            by_cases hs : a < 2147483648
            · rw [an_toIntS hs]
              omega
            · rw [an_toIntN (Nat.not_lt.mp hs) h4']
              omega
          refine g_lookup (off := dflt) hd (by simp) ?_ ht hg
          have e0 : ¬ (0 : Int) = (Int32.ofNat a).toInt := fun q => hq.1 q.symm
          have e1 : ¬ (1 : Int) = (Int32.ofNat a).toInt := fun q => hq.2 q.symm
          generalize (Int32.ofNat a).toInt = z at e0 e1 ⊢
          simp [Op.lookupswitch.offset, e0, e1]
      · have e := Nat.eq_of_beq_eq_true hb1
        subst e
        intro r hg
        exact g_lookup (off := o1) hd (by simp) (by rw [an_toIntS (by omega)]; simp [Op.lookupswitch.offset]) h1 hg
    · have e := Nat.eq_of_beq_eq_true hb
      subst e
      intro r hg
      exact g_lookup (off := o0) hd (by simp) (by rw [an_toIntS (by omega)]; simp [Op.lookupswitch.offset]) h0 hg
  · trivial
/-! ===== Math.max, Math.min ===== -/
theorem g_mmax {M : am_MI} {pc idx x y : Nat} {L : am_L} {st : List Value} {h : am_H} {r : am_R} (hl : Cond.methodLink M.1.cls idx Lib.Math.max.name ∈ am_tbl) (hst : Cond.static Lib.Math.max.name ∈ am_tbl) (hini : Cond.initialized "java/lang/Math" ∈ am_tbl) (hc : Cond.code Lib.Math.max.name Lib.Math.max.code 2 (some .int) ∈ am_tbl) (hR : 1 ≤ M.2.2.2.2.1 ∧ 21 ≤ M.2.2.2.2.2) (hcat : (st.map fun v => v.category).sum ≤ 8) (hd : decode M.2.1 pc = .ok (.invokestatic idx, 3)) (hg : am_Good M (pc + 3) L (.retAddr (bif am_tlt x y then y else x) :: st) h r) : am_Good M pc L (.retAddr y :: .retAddr x :: st) h r := by
  have g1 := hg.1
  refine hg.go fun p l e R s m args below meth c B N0 S0 D dA H locs ls Q X kk => ?_
  obtain ⟨⟨hx, hb, hml, hown, hts, hlk, hr, hnm⟩, ⟨xf, xl, xc, xs⟩, ⟨xn, xt, xB⟩, hK, hw, hS, hL⟩ := X
  have hcat2 : ((st.map (am_v B)).map fun v => v.category).sum ≤ 8 := by rw [List.map_map]; simp only [Function.comp_def, am_v_cat]; exact hcat
  have hR2 := hR.2
  refine va_mmax hx hb (by rw [hml, hL.1]) hown (hts _ hl) (hts _ hst) (hts _ hini) (hts _ hc) (by rw [xf]; exact hR.1) (by rw [xl]; omega) (by rw [xc]; omega) (by rw [xs]; omega) hd (W.eq ?_ (kk ls hL))
  simp only [List.map_cons, am_v]
  cases hb : am_tlt x y
  · rw [if_neg (fun q => by rw [(am_tlt_iff x y).mpr q] at hb; cases hb)]
    rfl
  · rw [if_pos ((am_tlt_iff x y).mp hb)]
    rfl
theorem g_mmin {M : am_MI} {pc idx x y : Nat} {L : am_L} {st : List Value} {h : am_H} {r : am_R} (hl : Cond.methodLink M.1.cls idx Lib.Math.min.name ∈ am_tbl) (hst : Cond.static Lib.Math.min.name ∈ am_tbl) (hini : Cond.initialized "java/lang/Math" ∈ am_tbl) (hc : Cond.code Lib.Math.min.name Lib.Math.min.code 2 (some .int) ∈ am_tbl) (hR : 1 ≤ M.2.2.2.2.1 ∧ 21 ≤ M.2.2.2.2.2) (hcat : (st.map fun v => v.category).sum ≤ 8) (hd : decode M.2.1 pc = .ok (.invokestatic idx, 3)) (hg : am_Good M (pc + 3) L (.retAddr (bif am_tlt y x then y else x) :: st) h r) : am_Good M pc L (.retAddr y :: .retAddr x :: st) h r := by
  have g1 := hg.1
  refine hg.go fun p l e R s m args below meth c B N0 S0 D dA H locs ls Q X kk => ?_
  obtain ⟨⟨hx, hb, hml, hown, hts, hlk, hr, hnm⟩, ⟨xf, xl, xc, xs⟩, ⟨xn, xt, xB⟩, hK, hw, hS, hL⟩ := X
  have hcat2 : ((st.map (am_v B)).map fun v => v.category).sum ≤ 8 := by rw [List.map_map]; simp only [Function.comp_def, am_v_cat]; exact hcat
  have hR2 := hR.2
  refine va_mmin hx hb (by rw [hml, hL.1]) hown (hts _ hl) (hts _ hst) (hts _ hini) (hts _ hc) (by rw [xf]; exact hR.1) (by rw [xl]; omega) (by rw [xc]; omega) (by rw [xs]; omega) hd (W.eq ?_ (kk ls hL))
  simp only [List.map_cons, am_v]
  cases hb : am_tlt y x
  · rw [if_neg (fun q => by rw [(am_tlt_iff y x).mpr q] at hb; cases hb)]
    rfl
  · rw [if_pos ((am_tlt_iff y x).mp hb)]
    rfl
noncomputable def am_mmax (nx : Nat) : am_Op := fun _ L st h => match st with
  | .retAddr y :: .retAddr x :: rest => bif am_sh rest then .inl (nx, L, .retAddr (bif am_tlt x y then y else x) :: rest, h) else .inr none
  | _ => .inr none
theorem ok_mmax {M : am_MI} {pc nx idx : Nat} (hd : decode M.2.1 pc = .ok (.invokestatic idx, 3)) (hx : pc + 3 = nx) (hl : Cond.methodLink M.1.cls idx Lib.Math.max.name ∈ am_tbl) (hst : Cond.static Lib.Math.max.name ∈ am_tbl) (hini : Cond.initialized "java/lang/Math" ∈ am_tbl) (hc : Cond.code Lib.Math.max.name Lib.Math.max.code 2 (some .int) ∈ am_tbl) (hR : 1 ≤ M.2.2.2.2.1 ∧ 21 ≤ M.2.2.2.2.2) : am_OpOk M pc (am_mmax nx) := by
  intro ev _ L st h
  subst hx
  simp only [am_mmax]
  split
  · rename_i y x rest
    cases hs : am_sh rest
    · trivial
    · exact fun r hg => g_mmax hl hst hini hc hR (am_sh_ok hs) hd hg
  · trivial
noncomputable def am_mmin (nx : Nat) : am_Op := fun _ L st h => match st with
  | .retAddr y :: .retAddr x :: rest => bif am_sh rest then .inl (nx, L, .retAddr (bif am_tlt y x then y else x) :: rest, h) else .inr none
  | _ => .inr none
theorem ok_mmin {M : am_MI} {pc nx idx : Nat} (hd : decode M.2.1 pc = .ok (.invokestatic idx, 3)) (hx : pc + 3 = nx) (hl : Cond.methodLink M.1.cls idx Lib.Math.min.name ∈ am_tbl) (hst : Cond.static Lib.Math.min.name ∈ am_tbl) (hini : Cond.initialized "java/lang/Math" ∈ am_tbl) (hc : Cond.code Lib.Math.min.name Lib.Math.min.code 2 (some .int) ∈ am_tbl) (hR : 1 ≤ M.2.2.2.2.1 ∧ 21 ≤ M.2.2.2.2.2) : am_OpOk M pc (am_mmin nx) := by
  intro ev _ L st h
  subst hx
  simp only [am_mmin]
  split
  · rename_i y x rest
    cases hs : am_sh rest
    · trivial
    · exact fun r hg => g_mmin hl hst hini hc hR (am_sh_ok hs) hd hg
  · trivial
