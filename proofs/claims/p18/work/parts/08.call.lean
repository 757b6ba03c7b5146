/-! ===== rules: calls, ends, switches ===== -/
theorem am_Good.call {M : am_MI} {pc : Nat} {L : am_L} {st stk : List Value} {h : am_H} {r r1 : am_R} (he : h.1 ≤ r1.2.1 ∧ h.2.1 ≤ r1.2.2.1) (hg : am_Good M (pc + 3) L (r1.1.toList ++ st) r1.2 r)
    (hs : ∀ (p : Program) (l : Launch) (e : Env) (R : Room) (s : State) (m : MethodId) (args : Array Value) (below : List Frame) (meth : Method) (c : Code) (B N0 S0 : Nat) (D : va_G) (dA : Nat → ClassId) (H : Heap) (locs : List Loc) (ls : Array Slot),
      am_X M L h r p R s m args meth c B N0 S0 D dA H locs ls → (h.1 - N0) + (r1.2.1 - h.1) ≤ R.cells ∧ (h.2.1 - S0) + (r1.2.2.1 - h.2.1) ≤ R.slots → va_Run p l e R s m args below meth c H locs (h.1 - N0) (h.2.1 - S0) (r1.2.1 - h.1) (r1.2.2.1 - h.2.1) (F0 m pc ls (stk.map (am_v B))) (st.map (am_v B)) (fun st0 o t => am_Q B D dA r1 #[] st0 o t) (fun q => B ≤ q)) : am_Good M pc L stk h r := by
  have g1 := hg.1.1
  have g2 := hg.1.2
  have e1 := he.1
  have e2 := he.2
  refine ⟨⟨by omega, by omega⟩, fun p l e R s m args below meth c B N0 S0 D dA H locs ls X => ?_⟩
  have X0 := X
  obtain ⟨x1, ⟨xf, xl, xc, xs⟩, ⟨xn, xt, xB⟩, hK, hw, hS, hL⟩ := X0
  have hrun := hs p l e R s m args below meth c B N0 S0 D dA H locs ls X ⟨by omega, by omega⟩
  intro T hT ST
  obtain ⟨v, st₀, t, T', L', h0, X', hL', e3, e4, ⟨hv, hw1, hF⟩, go⟩ := hrun T hT ST
  have hv' : v = r1.1.map (am_v B) := Outcome.returned.inj hv
  subst hv'
  have hS1 : va_S (fun q => B ≤ q) s.heap t.heap (locs ++ L') := by
    refine ⟨Nat.le_trans hS.1 (by have := hF.1; rw [h0] at this; exact this), fun q h1 h2 => ?_, fun q hq => ?_⟩
    · have := hF.2 q (by rw [h0]; exact Nat.lt_of_lt_of_le h1 hS.1) h2
      rw [this, h0]
      exact hS.2.1 q h1 h2
    · rcases List.mem_append.mp hq with z | z
      · exact hS.2.2 q z
      · exact hL' q z
  have hk := hg.2 p l e R s m args below meth c B N0 S0 D dA t.heap (locs ++ L') ls ⟨x1, ⟨xf, xl, xc, xs⟩, ⟨by omega, by omega, xB⟩, hK, hw1, hS1, hL⟩
  rw [show r1.2.1 - N0 = h.1 - N0 + (r1.2.1 - h.1) by omega, show r1.2.2.1 - S0 = h.2.1 - S0 + (r1.2.2.1 - h.2.1) by omega] at hk
  obtain ⟨t2, a1, b1⟩ := hk T' e3 X'
  refine ⟨t2, go t2 ?_, b1⟩
  have e5 : ((r1.1.map (am_v B)).toList ++ st.map (am_v B)) = (r1.1.toList ++ st).map (am_v B) := by cases r1.1 <;> simp
  show Steps p.tables e below (T'.setTop (F0 m (pc + 3) ls ((r1.1.map (am_v B)).toList ++ st.map (am_v B)))) t2
  rw [e5]
  exact a1
def am_LkB (M M' : am_MI) (n : Nat) : Prop := Cond.code M'.1 M'.2.1 M'.2.2.1 M'.2.2.2.1 ∈ am_tbl ∧ Cond.initialized M'.1.cls ∈ am_tbl ∧ (M'.1.cls ≠ "java/lang/invoke/MethodHandle" ∧ M'.1.cls ≠ "java/lang/invoke/VarHandle" ∧ (parseMethodDescriptor M'.1.desc).map (fun d => d.parameters.length) = some n) ∧ M'.2.2.2.2.1 + 1 ≤ M.2.2.2.2.1 ∧ 8 + (M'.2.2.1 + 11) + M'.2.2.2.2.2 ≤ M.2.2.2.2.2
theorem am_goodIn {M' : am_MI} (h : Cond.code M'.1 M'.2.1 M'.2.2.1 M'.2.2.2.1 ∈ am_tbl) : GoodIn am_tbl (Cond.code M'.1 M'.2.1 M'.2.2.1 M'.2.2.2.1 :: am_tbl) := by
  intro w hw
  rcases List.mem_cons.mp hw with rfl | h1
  · exact ⟨h, am_tbl_good h⟩
  · exact ⟨h1, am_tbl_good h1⟩
theorem am_Kn.calling {B : Nat} {D : va_G} {dA : Nat → ClassId} {U : State} (g : JFrame) (mk : MethodId) (a : Array Value) (h : am_Kn B D dA U) : am_Kn B D dA (U.calling g mk a) := by
  refine ⟨va_K.moved (u := U) (U := U.calling g mk a) (Vm.Alike.refl U.vm) h.1, fun w hw => ?_, h.2.2.calling g mk a⟩
  have hn := (List.mem_filter.mp hw).2
  have h1 := h.2.1 w hw
  cases w <;> first | (exact va_Nw.same rfl rfl h1) | (cases hn)
theorem am_blind (B : Nat) (D : va_G) (dA : Nat → ClassId) (h : am_H) (as : List Value) : FrameBlind (va_Pc (as.map (am_v B)) (fun U => B ≤ U.heap.size ∧ am_Wd B D dA h U.heap ∧ am_Kn B D dA U)) :=
  fun a _ g mk q => ⟨q.1, q.2.1, q.2.2.1, q.2.2.2.calling g mk a⟩
theorem g_static {M M' : am_MI} {pc idx n : Nat} {L : am_L} {st as : List Value} {h : am_H} {r r1 : am_R} (hl : Cond.methodLink M.1.cls idx M'.1 ∈ am_tbl) (hst : Cond.static M'.1 ∈ am_tbl) (hB : am_LkB M M' n) (hn : as.length = n) (hcat : (st.map fun v => v.category).sum ≤ 8) (hd : decode M.2.1 pc = .ok (.invokestatic idx, 3)) (he : am_EG M' as h r1) (hg : am_Good M (pc + 3) L (r1.1.toList ++ st) r1.2 r) : am_Good M pc L (as.reverse ++ st) h r := by
  refine am_Good.call he.1 hg fun p l e R s m args below meth c B N0 S0 D dA H locs ls X hf => ?_
  obtain ⟨⟨hx, hb, hml, hown, hts, hlk, hr, hnm⟩, ⟨xf, xl, xc, xs⟩, ⟨xn, xt, xB⟩, hK, hw, hS, hL⟩ := X
  refine va_runS (y := M'.1) (bytes := M'.2.1) (maxL := M'.2.2.1) (ret := M'.2.2.2.1) (Ts := am_tbl) (own := M.1.cls) (As := as.map (am_v B)) ⟨hx, hb, hml, hown, hts⟩ (he.2 l B D dA) ⟨callB_of n hts (am_goodIn hB.1) rfl rfl rfl (hts _ hB.2.1) (hts _ hl) hB.2.2.1 ⟨by rw [xf]; exact hB.2.2.2.1, by rw [xl]; exact hB.2.2.2.2⟩, hts _ hst⟩ ⟨am_blind B D dA h as, fun U hU hW => ⟨rfl, by rw [hU]; exact Nat.le_trans xB hS.1, by rw [hU]; exact hw, hK.warm hW hU hS⟩⟩ rfl (by rw [List.length_map]; exact hn) hL.1 (by show List.map _ _ = _; rw [List.map_append, List.map_reverse]) (lv_room (by rw [List.map_map]; simp only [Function.comp_def, am_v_cat]; exact hcat)) hd hf
theorem g_virtual {M M' : am_MI} {pc idx n ci b : Nat} {L : am_L} {st as fs : List Value} {h : am_H} {r r1 : am_R} {T : u_T} {N : Nat} (hl : Cond.methodLink M.1.cls idx M'.1 ∈ am_tbl) (hin : Cond.instanceMethod M'.1 ∈ am_tbl) (hse : Cond.selects M'.1.cls M'.1 M'.1 ∈ am_tbl) (hB : am_LkB M M' n) (hc : am_cls[ci]? = some (M'.1.cls, T, N)) (hh : am_get h b = some (.inr (ci, fs))) (hn : as.length = n) (hcat : (st.map fun v => v.category).sum ≤ 8) (hd : decode M.2.1 pc = .ok (.invokevirtual idx, 3)) (he : am_EG M' (.ref b :: as) h r1) (hg : am_Good M (pc + 3) L (r1.1.toList ++ st) r1.2 r) : am_Good M pc L (as.reverse ++ .ref b :: st) h r := by
  refine am_Good.call he.1 hg fun p l e R s m args below meth c B N0 S0 D dA H locs ls X hf => ?_
  obtain ⟨⟨hx, hb, hml, hown, hts, hlk, hr, hnm⟩, ⟨xf, xl, xc, xs⟩, ⟨xn, xt, xB⟩, hK, hw, hS, hL⟩ := X
  refine va_runV (y := M'.1) (bytes := M'.2.1) (maxL := M'.2.2.1) (ret := M'.2.2.2.1) (Ts := am_tbl) (own := M.1.cls) (C := M'.1.cls) (b := B + b) (As := as.map (am_v B)) ⟨hx, hb, hml, hown, hts⟩ (he.2 l B D dA) ⟨callB_of n hts (am_goodIn hB.1) rfl rfl rfl (hts _ hB.2.1) (hts _ hl) hB.2.2.1 ⟨by rw [xf]; exact hB.2.2.2.1, by rw [xl]; exact hB.2.2.2.2⟩, hts _ hin, hts _ hse⟩ ⟨am_blind B D dA h (.ref b :: as), va_recv hK.1 (am_P1 (hw.2 b _ hh)) hc rfl (q0 := 0), fun U hU hW => ⟨rfl, by rw [hU]; exact Nat.le_trans xB hS.1, by rw [hU]; exact hw, hK.warm hW hU hS⟩⟩ rfl (by rw [List.length_map]; exact hn) hL.1 (by show List.map _ _ = _; rw [List.map_append, List.map_reverse]; rfl) (lv_room (by rw [List.map_map]; simp only [Function.comp_def, am_v_cat]; exact hcat)) hd hf
theorem g_init {M M' : am_MI} {pc idx n b : Nat} {L : am_L} {st as : List Value} {h : am_H} {r r1 : am_R} (hl : Cond.methodLink M.1.cls idx M'.1 ∈ am_tbl) (hin : Cond.instanceMethod M'.1 ∈ am_tbl) (hi : M'.1.name = "<init>" ∧ M'.2.2.2.1 = none) (hB : am_LkB M M' n) (hn : as.length = n) (hcat : (st.map fun v => v.category).sum ≤ 8) (hd : decode M.2.1 pc = .ok (.invokespecial idx, 3)) (he : am_EG M' (.ref b :: as) h r1) (hg : am_Good M (pc + 3) L (r1.1.toList ++ st) r1.2 r) : am_Good M pc L (as.reverse ++ .ref b :: st) h r := by
  refine am_Good.call he.1 hg fun p l e R s m args below meth c B N0 S0 D dA H locs ls X hf => ?_
  obtain ⟨⟨hx, hb, hml, hown, hts, hlk, hr, hnm⟩, ⟨xf, xl, xc, xs⟩, ⟨xn, xt, xB⟩, hK, hw, hS, hL⟩ := X
  obtain ⟨y', cc', nl', rt', f', l'⟩ := M'
  obtain ⟨hi1, hi2⟩ := hi
  dsimp only at hi2
  subst hi2
  refine va_runI (y := y') (bytes := cc') (maxL := nl') (Ts := am_tbl) (own := M.1.cls) (b := B + b) (As := as.map (am_v B)) ⟨hx, hb, hml, hown, hts⟩ (he.2 l B D dA) ⟨callB_of n hts (am_goodIn hB.1) rfl rfl rfl (hts _ hB.2.1) (hts _ hl) hB.2.2.1 ⟨by rw [xf]; exact hB.2.2.2.1, by rw [xl]; exact hB.2.2.2.2⟩, hi1, hts _ hin⟩ ⟨am_blind B D dA h (.ref b :: as), fun U hU hW => ⟨rfl, by rw [hU]; exact Nat.le_trans xB hS.1, by rw [hU]; exact hw, hK.warm hW hU hS⟩⟩ rfl (by rw [List.length_map]; exact hn) hL.1 (by show List.map _ _ = _; rw [List.map_append, List.map_reverse]; rfl) (lv_room (by rw [List.map_map]; simp only [Function.comp_def, am_v_cat]; exact hcat)) hd hf
theorem g_initN {M M' : am_MI} {pc idx n b : Nat} {L : am_L} {st as : List Value} {h : am_H} {r r1 : am_R} {host : String} (hl : Cond.methodLinkNest M.1.cls idx M'.1 host ∈ am_nest) (hin : Cond.instanceMethod M'.1 ∈ am_tbl) (hi : M'.1.name = "<init>" ∧ M'.2.2.2.1 = none) (hB : am_LkB M M' n) (hn : as.length = n) (hcat : (st.map fun v => v.category).sum ≤ 8) (hd : decode M.2.1 pc = .ok (.invokespecial idx, 3)) (he : am_EG M' (.ref b :: as) h r1) (hg : am_Good M (pc + 3) L (r1.1.toList ++ st) r1.2 r) : am_Good M pc L (as.reverse ++ .ref b :: st) h r := by
  refine am_Good.call he.1 hg fun p l e R s m args below meth c B N0 S0 D dA H locs ls X hf => ?_
  obtain ⟨⟨hx, hb, hml, hown, hts, hlk, hr, hnm⟩, ⟨xf, xl, xc, xs⟩, ⟨xn, xt, xB⟩, hK, hw, hS, hL⟩ := X
  obtain ⟨y', cc', nl', rt', f', l'⟩ := M'
  obtain ⟨hi1, hi2⟩ := hi
  dsimp only at hi2
  subst hi2
  refine va_runIN (y := y') (bytes := cc') (maxL := nl') (Ts := am_tbl) (own := M.1.cls) (b := B + b) (As := as.map (am_v B)) ⟨hx, hb, hml, hown, hts⟩ (he.2 l B D dA) ⟨va_cnB n hts (am_goodIn hB.1) rfl rfl rfl (hK.2.1 _ hl) (hts _ hB.2.1) hB.2.2.1 ⟨by rw [xf]; exact hB.2.2.2.1, by rw [xl]; exact hB.2.2.2.2⟩, hi1, hts _ hin⟩ ⟨am_blind B D dA h (.ref b :: as), fun U hU hW => ⟨rfl, by rw [hU]; exact Nat.le_trans xB hS.1, by rw [hU]; exact hw, hK.warm hW hU hS⟩⟩ rfl (by rw [List.length_map]; exact hn) hL.1 (by show List.map _ _ = _; rw [List.map_append, List.map_reverse]; rfl) (lv_room (by rw [List.map_map]; simp only [Function.comp_def, am_v_cat]; exact hcat)) hd hf
theorem g_objInit {M : am_MI} {pc idx a : Nat} {L : am_L} {st : List Value} {h : am_H} {r : am_R} (hl : Cond.methodLink M.1.cls idx Lib.objectInit ∈ am_tbl) (hin : Cond.instanceMethod Lib.objectInit ∈ am_tbl) (hc : Cond.code Lib.objectInit ⟨#[0xb1]⟩ 1 none ∈ am_tbl) (hR : 1 ≤ M.2.2.2.2.1 ∧ 20 ≤ M.2.2.2.2.2) (hcat : (st.map fun v => v.category).sum ≤ 8) (hd : decode M.2.1 pc = .ok (.invokespecial idx, 3)) (hg : am_Good M (pc + 3) L st h r) : am_Good M pc L (.ref a :: st) h r := by
  refine hg.go fun p l e R s m args below meth c B N0 S0 D dA H locs ls Q X kk => ?_
  obtain ⟨⟨hx, hb, hml, hown, hts, hlk, hr, hnm⟩, ⟨xf, xl, xc, xs⟩, ⟨xn, xt, xB⟩, hK, hw, hS, hL⟩ := X
  have hcat2 : ((st.map (am_v B)).map fun v => v.category).sum ≤ 8 := by rw [List.map_map]; simp only [Function.comp_def, am_v_cat]; exact hcat
  refine W.objInit hx hb hown (hts _ hl) (hts _ hin) (hts _ hc) rfl (by rw [hml]; exact hL.1) rfl hd (by rw [xf]; exact hR.1) ?_ (kk ls hL)
  show 2 * 0 + _ + 12 ≤ _
  rw [xl]
  have := hR.2
  omega
/-! ends -/
theorem g_ireturn {M : am_MI} {pc n : Nat} {L : am_L} {h : am_H} (hr0 : M.2.2.2.1 = some .int) (hd : decode M.2.1 pc = .ok (.ireturn, 1)) : am_Good M pc L [.retAddr n] h (some (.retAddr n), h) := by
  refine ⟨⟨Nat.le_refl _, Nat.le_refl _⟩, fun p l e R s m args below meth c B N0 S0 D dA H locs ls X => ?_⟩
  obtain ⟨⟨hx, hb, hml, hown, hts, hlk, hr, hnm⟩, ⟨xf, xl, xc, xs⟩, ⟨xn, xt, xB⟩, hK, hw, hS, hL⟩ := X
  exact W.iret hx hb (hr.trans hr0) (fun t ht _ => ⟨rfl, by rw [ht]; exact hw, hS.F ht⟩) hS.2.2 hd
theorem g_zreturn {M : am_MI} {pc n : Nat} {L : am_L} {h : am_H} (hr0 : M.2.2.2.1 = some .boolean) (hn : n < 2) (hd : decode M.2.1 pc = .ok (.ireturn, 1)) : am_Good M pc L [.retAddr n] h (some (.retAddr n), h) := by
  refine ⟨⟨Nat.le_refl _, Nat.le_refl _⟩, fun p l e R s m args below meth c B N0 S0 D dA H locs ls X => ?_⟩
  obtain ⟨⟨hx, hb, hml, hown, hts, hlk, hr, hnm⟩, ⟨xf, xl, xc, xs⟩, ⟨xn, xt, xB⟩, hK, hw, hS, hL⟩ := X
  exact W.zret hx hb (hr.trans hr0) (am_fit_ok (ty := .boolean) (v := .retAddr n) B hn).1 (fun t ht _ => ⟨rfl, by rw [ht]; exact hw, hS.F ht⟩) hS.2.2 hd
theorem g_return {M : am_MI} {pc : Nat} {L : am_L} {h : am_H} (hr0 : M.2.2.2.1 = none) (hd : decode M.2.1 pc = .ok (.return_, 1)) : am_Good M pc L [] h (none, h) := by
  refine ⟨⟨Nat.le_refl _, Nat.le_refl _⟩, fun p l e R s m args below meth c B N0 S0 D dA H locs ls X => ?_⟩
  obtain ⟨⟨hx, hb, hml, hown, hts, hlk, hr, hnm⟩, ⟨xf, xl, xc, xs⟩, ⟨xn, xt, xB⟩, hK, hw, hS, hL⟩ := X
  exact W.vret hx hb (hr.trans hr0) (fun t ht _ => ⟨rfl, by rw [ht]; exact hw, hS.F ht⟩) hS.2.2 hd
theorem g_areturn {M : am_MI} {pc a : Nat} {L : am_L} {h : am_H} {rt : FieldType} (hr0 : M.2.2.2.1 = some rt) (hrt : (∃ n, rt = .object n) ∨ ∃ t, rt = .array t) (hd : decode M.2.1 pc = .ok (.areturn, 1)) : am_Good M pc L [.ref a] h (some (.ref a), h) := by
  refine ⟨⟨Nat.le_refl _, Nat.le_refl _⟩, fun p l e R s m args below meth c B N0 S0 D dA H locs ls X => ?_⟩
  obtain ⟨⟨hx, hb, hml, hown, hts, hlk, hr, hnm⟩, ⟨xf, xl, xc, xs⟩, ⟨xn, xt, xB⟩, hK, hw, hS, hL⟩ := X
  exact W.aret hx hb (hr.trans hr0) hrt (Or.inr ⟨B + a, rfl⟩) (fun t ht _ => ⟨rfl, by rw [ht]; exact hw, hS.F ht⟩) hS.2.2 hd
/-! switches -/
theorem g_tableIn {M : am_MI} {pc a t len : Nat} {L : am_L} {st : List Value} {h : am_H} {r : am_R} {dflt lo hi off : Int} {offs : Array Int} (hd : decode M.2.1 pc = .ok (.tableswitch dflt lo hi offs, len)) (ha : a < 2147483648) (h1 : lo ≤ (a : Int)) (h2 : (a : Int) ≤ hi) (ho : offs[((a : Int) - lo).toNat]? = some off) (ht : (pc : Int) + off = (t : Int)) (hg : am_Good M t L st h r) : am_Good M pc L (.retAddr a :: st) h r := by
  refine hg.go fun p l e R s m args below meth c B N0 S0 D dA H locs ls Q X kk => ?_
  obtain ⟨⟨hx, hb, hml, hown, hts, hlk, hr, hnm⟩, ⟨xf, xl, xc, xs⟩, ⟨xn, xt, xB⟩, hK, hw, hS, hL⟩ := X
  exact lv_tableIn hx hb hd (by rw [an_toIntS ha]; omega) (by rw [an_toIntS ha]; omega) (by rw [an_toIntS ha]; exact ho) ht (kk ls hL)
theorem g_tableOut {M : am_MI} {pc a t len : Nat} {L : am_L} {st : List Value} {h : am_H} {r : am_R} {dflt lo hi : Int} {offs : Array Int} (hd : decode M.2.1 pc = .ok (.tableswitch dflt lo hi offs, len)) (ha : a < 4294967296) (h0 : 0 ≤ lo) (h1 : (a : Int) < lo ∨ hi < (a : Int)) (ht : (pc : Int) + dflt = (t : Int)) (hg : am_Good M t L st h r) : am_Good M pc L (.retAddr a :: st) h r := by
  refine hg.go fun p l e R s m args below meth c B N0 S0 D dA H locs ls Q X kk => ?_
  obtain ⟨⟨hx, hb, hml, hown, hts, hlk, hr, hnm⟩, ⟨xf, xl, xc, xs⟩, ⟨xn, xt, xB⟩, hK, hw, hS, hL⟩ := X
  exact lv_tableOut hx hb hd (an_out ha h0 h1) ht (kk ls hL)
theorem g_lookup {M : am_MI} {pc a t len : Nat} {L : am_L} {st : List Value} {h : am_H} {r : am_R} {dflt off : Int} {ps : Array (Int × Int)} (hd : decode M.2.1 pc = .ok (.lookupswitch dflt ps, len)) (hp : (ps.toList.zip (ps.toList.drop 1)).all (fun (a, next) => a.1 < next.1) = true) (ho : Op.lookupswitch.offset ps.toList dflt (Int32.ofNat a).toInt = off) (ht : (pc : Int) + off = (t : Int)) (hg : am_Good M t L st h r) : am_Good M pc L (.retAddr a :: st) h r := by
  refine hg.go fun p l e R s m args below meth c B N0 S0 D dA H locs ls Q X kk => ?_
  obtain ⟨⟨hx, hb, hml, hown, hts, hlk, hr, hnm⟩, ⟨xf, xl, xc, xs⟩, ⟨xn, xt, xB⟩, hK, hw, hS, hL⟩ := X
  exact lv_lookup hx hb hd hp ho ht (kk ls hL)
theorem g_forget {M : am_MI} {pc : Nat} {L L' : am_L} {st : List Value} {h : am_H} {r : am_R} (hL : ∀ (i : Nat) (v : Value), L'[i]? = some (some v) → L[i]? = some (some v)) (hg : am_Good M pc L' st h r) : am_Good M pc L st h r :=
  hg.go fun p l e R s m args below meth c B N0 S0 D dA H locs ls Q X kk => kk ls (X.2.2.2.2.2.2.forget hL)
