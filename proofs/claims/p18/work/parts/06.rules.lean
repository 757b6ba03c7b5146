/-! ===== rules: an instruction, a step of the abstract state ===== -/
theorem g_iload {M : am_MI} {pc : Nat} {L : am_L} {st : List Value} {h : am_H} {r : am_R} {i : Nat} {n : Nat} (hd : decode M.2.1 pc = .ok (.iload i, 2)) (hl : L[i]? = some (some (.retAddr n))) (hg : am_Good M (pc + 2) L (.retAddr n :: st) h r) : am_Good M pc L st h r := by
  refine hg.go fun p l e R s m args below meth c B N0 S0 D dA H locs ls Q X k => ?_
  obtain ⟨⟨hx, hb, hml, hown, hts, hlk, hr, hnm⟩, ⟨xf, xl, xc, xs⟩, ⟨xn, xt, xB⟩, hK, hw, hS, hL⟩ := X
  exact lv_iload hx hb hd (hL.2.2 _ _ hl) (k ls hL)
theorem g_iload_n {M : am_MI} {pc : Nat} {L : am_L} {st : List Value} {h : am_H} {r : am_R} {i : Fin 4} {n : Nat} (hd : decode M.2.1 pc = .ok (.iload_n i, 1)) (hl : L[(i : Nat)]? = some (some (.retAddr n))) (hg : am_Good M (pc + 1) L (.retAddr n :: st) h r) : am_Good M pc L st h r := by
  refine hg.go fun p l e R s m args below meth c B N0 S0 D dA H locs ls Q X k => ?_
  obtain ⟨⟨hx, hb, hml, hown, hts, hlk, hr, hnm⟩, ⟨xf, xl, xc, xs⟩, ⟨xn, xt, xB⟩, hK, hw, hS, hL⟩ := X
  exact lv_iload_n hx hb hd rfl (hL.2.2 _ _ hl) (k ls hL)
theorem g_aload {M : am_MI} {pc : Nat} {L : am_L} {st : List Value} {h : am_H} {r : am_R} {i : Nat} {n : Nat} (hd : decode M.2.1 pc = .ok (.aload i, 2)) (hl : L[i]? = some (some (.ref n))) (hg : am_Good M (pc + 2) L (.ref n :: st) h r) : am_Good M pc L st h r := by
  refine hg.go fun p l e R s m args below meth c B N0 S0 D dA H locs ls Q X k => ?_
  obtain ⟨⟨hx, hb, hml, hown, hts, hlk, hr, hnm⟩, ⟨xf, xl, xc, xs⟩, ⟨xn, xt, xB⟩, hK, hw, hS, hL⟩ := X
  exact lv_aload hx hb hd (hL.2.2 _ _ hl) (k ls hL)
theorem g_aload_n {M : am_MI} {pc : Nat} {L : am_L} {st : List Value} {h : am_H} {r : am_R} {i : Fin 4} {n : Nat} (hd : decode M.2.1 pc = .ok (.aload_n i, 1)) (hl : L[(i : Nat)]? = some (some (.ref n))) (hg : am_Good M (pc + 1) L (.ref n :: st) h r) : am_Good M pc L st h r := by
  refine hg.go fun p l e R s m args below meth c B N0 S0 D dA H locs ls Q X k => ?_
  obtain ⟨⟨hx, hb, hml, hown, hts, hlk, hr, hnm⟩, ⟨xf, xl, xc, xs⟩, ⟨xn, xt, xB⟩, hK, hw, hS, hL⟩ := X
  exact lv_aload_n hx hb hd rfl (hL.2.2 _ _ hl) (k ls hL)
theorem g_lload {M : am_MI} {pc : Nat} {L : am_L} {st : List Value} {h : am_H} {r : am_R} {i : Nat} {n : Int64} (hd : decode M.2.1 pc = .ok (.lload i, 2)) (hl : L[i]? = some (some (.long n))) (hg : am_Good M (pc + 2) L (.long n :: st) h r) : am_Good M pc L st h r := by
  refine hg.go fun p l e R s m args below meth c B N0 S0 D dA H locs ls Q X k => ?_
  obtain ⟨⟨hx, hb, hml, hown, hts, hlk, hr, hnm⟩, ⟨xf, xl, xc, xs⟩, ⟨xn, xt, xB⟩, hK, hw, hS, hL⟩ := X
  exact lv_lload hx hb hd (hL.2.2 _ _ hl) (k ls hL)
theorem g_lload_n {M : am_MI} {pc : Nat} {L : am_L} {st : List Value} {h : am_H} {r : am_R} {i : Fin 4} {n : Int64} (hd : decode M.2.1 pc = .ok (.lload_n i, 1)) (hl : L[(i : Nat)]? = some (some (.long n))) (hg : am_Good M (pc + 1) L (.long n :: st) h r) : am_Good M pc L st h r := by
  refine hg.go fun p l e R s m args below meth c B N0 S0 D dA H locs ls Q X k => ?_
  obtain ⟨⟨hx, hb, hml, hown, hts, hlk, hr, hnm⟩, ⟨xf, xl, xc, xs⟩, ⟨xn, xt, xB⟩, hK, hw, hS, hL⟩ := X
  exact lv_lload_n hx hb hd rfl (hL.2.2 _ _ hl) (k ls hL)
theorem g_istore {M : am_MI} {pc : Nat} {L : am_L} {st : List Value} {h : am_H} {r : am_R} {i : Nat} {n : Nat} (hd : decode M.2.1 pc = .ok (.istore i, 2)) (hl : am_nl L i) (hn : i < M.2.2.1) (hg : am_Good M (pc + 2) (L.set i (some (.retAddr n))) st h r) : am_Good M pc L (.retAddr n :: st) h r := by
  refine hg.go fun p l e R s m args below meth c B N0 S0 D dA H locs ls Q X k => ?_
  obtain ⟨⟨hx, hb, hml, hown, hts, hlk, hr, hnm⟩, ⟨xf, xl, xc, xs⟩, ⟨xn, xt, xB⟩, hK, hw, hS, hL⟩ := X
  exact lv_istore hx hb hd hL.has hn rfl (fun ls1 h1 => k ls1 (am_Lv.store1 hl h1))
theorem g_istore_n {M : am_MI} {pc : Nat} {L : am_L} {st : List Value} {h : am_H} {r : am_R} {i : Fin 4} {n : Nat} (hd : decode M.2.1 pc = .ok (.istore_n i, 1)) (hl : am_nl L (i : Nat)) (hn : (i : Nat) < M.2.2.1) (hg : am_Good M (pc + 1) (L.set (i : Nat) (some (.retAddr n))) st h r) : am_Good M pc L (.retAddr n :: st) h r := by
  refine hg.go fun p l e R s m args below meth c B N0 S0 D dA H locs ls Q X k => ?_
  obtain ⟨⟨hx, hb, hml, hown, hts, hlk, hr, hnm⟩, ⟨xf, xl, xc, xs⟩, ⟨xn, xt, xB⟩, hK, hw, hS, hL⟩ := X
  exact lv_istore_n hx hb hd rfl hL.has hn rfl (fun ls1 h1 => k ls1 (am_Lv.store1 hl h1))
theorem g_astore {M : am_MI} {pc : Nat} {L : am_L} {st : List Value} {h : am_H} {r : am_R} {i : Nat} {n : Nat} (hd : decode M.2.1 pc = .ok (.astore i, 2)) (hl : am_nl L i) (hn : i < M.2.2.1) (hg : am_Good M (pc + 2) (L.set i (some (.ref n))) st h r) : am_Good M pc L (.ref n :: st) h r := by
  refine hg.go fun p l e R s m args below meth c B N0 S0 D dA H locs ls Q X k => ?_
  obtain ⟨⟨hx, hb, hml, hown, hts, hlk, hr, hnm⟩, ⟨xf, xl, xc, xs⟩, ⟨xn, xt, xB⟩, hK, hw, hS, hL⟩ := X
  exact lv_astore hx hb hd hL.has hn rfl (fun ls1 h1 => k ls1 (am_Lv.store1 hl h1))
theorem g_astore_n {M : am_MI} {pc : Nat} {L : am_L} {st : List Value} {h : am_H} {r : am_R} {i : Fin 4} {n : Nat} (hd : decode M.2.1 pc = .ok (.astore_n i, 1)) (hl : am_nl L (i : Nat)) (hn : (i : Nat) < M.2.2.1) (hg : am_Good M (pc + 1) (L.set (i : Nat) (some (.ref n))) st h r) : am_Good M pc L (.ref n :: st) h r := by
  refine hg.go fun p l e R s m args below meth c B N0 S0 D dA H locs ls Q X k => ?_
  obtain ⟨⟨hx, hb, hml, hown, hts, hlk, hr, hnm⟩, ⟨xf, xl, xc, xs⟩, ⟨xn, xt, xB⟩, hK, hw, hS, hL⟩ := X
  exact lv_astore_n hx hb hd rfl hL.has hn rfl (fun ls1 h1 => k ls1 (am_Lv.store1 hl h1))
theorem g_lstore {M : am_MI} {pc : Nat} {L : am_L} {st : List Value} {h : am_H} {r : am_R} {i : Nat} {n : Int64} (hd : decode M.2.1 pc = .ok (.lstore i, 2)) (hl : am_nl L i) (hn : i + 1 < M.2.2.1) (hg : am_Good M (pc + 2) ((L.set i (some (.long n))).set (i + 1) none) st h r) : am_Good M pc L (.long n :: st) h r := by
  refine hg.go fun p l e R s m args below meth c B N0 S0 D dA H locs ls Q X k => ?_
  obtain ⟨⟨hx, hb, hml, hown, hts, hlk, hr, hnm⟩, ⟨xf, xl, xc, xs⟩, ⟨xn, xt, xB⟩, hK, hw, hS, hL⟩ := X
  exact lv_lstore hx hb hd hL.has hn rfl (fun ls1 h1 => k ls1 (am_Lv.store2 hl h1))
theorem g_lstore_n {M : am_MI} {pc : Nat} {L : am_L} {st : List Value} {h : am_H} {r : am_R} {i : Fin 4} {n : Int64} (hd : decode M.2.1 pc = .ok (.lstore_n i, 1)) (hl : am_nl L (i : Nat)) (hn : (i : Nat) + 1 < M.2.2.1) (hg : am_Good M (pc + 1) ((L.set (i : Nat) (some (.long n))).set ((i : Nat) + 1) none) st h r) : am_Good M pc L (.long n :: st) h r := by
  refine hg.go fun p l e R s m args below meth c B N0 S0 D dA H locs ls Q X k => ?_
  obtain ⟨⟨hx, hb, hml, hown, hts, hlk, hr, hnm⟩, ⟨xf, xl, xc, xs⟩, ⟨xn, xt, xB⟩, hK, hw, hS, hL⟩ := X
  exact lv_lstore_n hx hb hd rfl hL.has hn rfl (fun ls1 h1 => k ls1 (am_Lv.store2 hl h1))
theorem am_ll_at {B : Nat} {L : am_L} {i : Nat} {v : Value} (h : L[i]? = some (some v)) : ∃ k : Nat, (am_ll B L)[k]? = some (i, am_v B v) := List.getElem?_of_mem (am_ll_mem h)
theorem g_iinc {M : am_MI} {pc : Nat} {L : am_L} {st : List Value} {h : am_H} {r : am_R} {i n v : Nat} {d : Int} (hd : decode M.2.1 pc = .ok (.iinc i d, 3)) (hi : L[i]? = some (some (.retAddr n))) (hv : Int32.ofInt d = Int32.ofNat v) (hl : am_nl L i) (hn : i < M.2.2.1) (hg : am_Good M (pc + 3) (L.set i (some (.retAddr ((n + v) % 4294967296)))) st h r) : am_Good M pc L st h r := by
  refine hg.go fun p l e R s m args below meth c B N0 S0 D dA H locs ls Q X k => ?_
  obtain ⟨⟨hx, hb, hml, hown, hts, hlk, hr, hnm⟩, ⟨xf, xl, xc, xs⟩, ⟨xn, xt, xB⟩, hK, hw, hS, hL⟩ := X
  obtain ⟨q, hq⟩ := am_ll_at (B := B) hi
  exact lv_iinc hx hb hd hL.has hq (by rw [an_add, hv]) hn rfl (fun ls1 h1 => k ls1 (am_Lv.store1 hl h1))
theorem g_iconst {M : am_MI} {pc : Nat} {L : am_L} {st : List Value} {h : am_H} {r : am_R} {d : Int} {v : Nat} (hd : decode M.2.1 pc = .ok (.iconst d, 1)) (hv : Int32.ofInt d = Int32.ofNat v) (hg : am_Good M (pc + 1) L (.retAddr v :: st) h r) : am_Good M pc L st h r := by
  refine hg.go fun p l e R s m args below meth c B N0 S0 D dA H locs ls Q X k => ?_
  obtain ⟨⟨hx, hb, hml, hown, hts, hlk, hr, hnm⟩, ⟨xf, xl, xc, xs⟩, ⟨xn, xt, xB⟩, hK, hw, hS, hL⟩ := X
  exact lv_iconst hx hb hd hv (k ls hL)
theorem g_bipush {M : am_MI} {pc : Nat} {L : am_L} {st : List Value} {h : am_H} {r : am_R} {d : Int} {v : Nat} (hd : decode M.2.1 pc = .ok (.bipush d, 2)) (hv : (Int8.ofInt d).toInt32 = Int32.ofNat v) (hg : am_Good M (pc + 2) L (.retAddr v :: st) h r) : am_Good M pc L st h r := by
  refine hg.go fun p l e R s m args below meth c B N0 S0 D dA H locs ls Q X k => ?_
  obtain ⟨⟨hx, hb, hml, hown, hts, hlk, hr, hnm⟩, ⟨xf, xl, xc, xs⟩, ⟨xn, xt, xB⟩, hK, hw, hS, hL⟩ := X
  exact lv_bipush hx hb hd hv (k ls hL)
theorem g_sipush {M : am_MI} {pc : Nat} {L : am_L} {st : List Value} {h : am_H} {r : am_R} {d : Int} {v : Nat} (hd : decode M.2.1 pc = .ok (.sipush d, 3)) (hv : (Int16.ofInt d).toInt32 = Int32.ofNat v) (hg : am_Good M (pc + 3) L (.retAddr v :: st) h r) : am_Good M pc L st h r := by
  refine hg.go fun p l e R s m args below meth c B N0 S0 D dA H locs ls Q X k => ?_
  obtain ⟨⟨hx, hb, hml, hown, hts, hlk, hr, hnm⟩, ⟨xf, xl, xc, xs⟩, ⟨xn, xt, xB⟩, hK, hw, hS, hL⟩ := X
  exact lv_sipush hx hb hd hv (k ls hL)
theorem g_lconst {M : am_MI} {pc : Nat} {L : am_L} {st : List Value} {h : am_H} {r : am_R} {d : Fin 2} (hd : decode M.2.1 pc = .ok (.lconst d, 1)) (hg : am_Good M (pc + 1) L (.long (Int64.ofNat (d : Nat)) :: st) h r) : am_Good M pc L st h r := by
  refine hg.go fun p l e R s m args below meth c B N0 S0 D dA H locs ls Q X k => ?_
  obtain ⟨⟨hx, hb, hml, hown, hts, hlk, hr, hnm⟩, ⟨xf, xl, xc, xs⟩, ⟨xn, xt, xB⟩, hK, hw, hS, hL⟩ := X
  exact lv_lconst hx hb hd rfl (k ls hL)
theorem g_ldc {M : am_MI} {pc : Nat} {L : am_L} {st : List Value} {h : am_H} {r : am_R} {i v : Nat} (hd : decode M.2.1 pc = .ok (.ldc i, 2)) (hv : Cond.constant M.1.cls i (Int32.ofNat v) ∈ am_tbl) (hg : am_Good M (pc + 2) L (.retAddr v :: st) h r) : am_Good M pc L st h r := by
  refine hg.go fun p l e R s m args below meth c B N0 S0 D dA H locs ls Q X k => ?_
  obtain ⟨⟨hx, hb, hml, hown, hts, hlk, hr, hnm⟩, ⟨xf, xl, xc, xs⟩, ⟨xn, xt, xB⟩, hK, hw, hS, hL⟩ := X
  exact lv_ldc hx hb hown (hts _ hv) hd (k ls hL)
theorem g_ldcw {M : am_MI} {pc : Nat} {L : am_L} {st : List Value} {h : am_H} {r : am_R} {i v : Nat} (hd : decode M.2.1 pc = .ok (.ldc_w i, 3)) (hv : Cond.constant M.1.cls i (Int32.ofNat v) ∈ am_tbl) (hg : am_Good M (pc + 3) L (.retAddr v :: st) h r) : am_Good M pc L st h r := by
  refine hg.go fun p l e R s m args below meth c B N0 S0 D dA H locs ls Q X k => ?_
  obtain ⟨⟨hx, hb, hml, hown, hts, hlk, hr, hnm⟩, ⟨xf, xl, xc, xs⟩, ⟨xn, xt, xB⟩, hK, hw, hS, hL⟩ := X
  exact lv_ldcw hx hb hown (hts _ hv) hd (k ls hL)
theorem g_ldc2 {M : am_MI} {pc : Nat} {L : am_L} {st : List Value} {h : am_H} {r : am_R} {i : Nat} {v : Int64} (hd : decode M.2.1 pc = .ok (.ldc2_w i, 3)) (hv : Cond.constantLong M.1.cls i v ∈ am_tbl) (hg : am_Good M (pc + 3) L (.long v :: st) h r) : am_Good M pc L st h r := by
  refine hg.go fun p l e R s m args below meth c B N0 S0 D dA H locs ls Q X k => ?_
  obtain ⟨⟨hx, hb, hml, hown, hts, hlk, hr, hnm⟩, ⟨xf, xl, xc, xs⟩, ⟨xn, xt, xB⟩, hK, hw, hS, hL⟩ := X
  exact lv_ldc2 hx hb hown (hts _ hv) hd (k ls hL)
theorem g_iadd {M : am_MI} {pc : Nat} {L : am_L} {st : List Value} {h : am_H} {r : am_R} {a b : Nat} (hd : decode M.2.1 pc = .ok (.iadd, 1)) (hg : am_Good M (pc + 1) L (.retAddr ((a + b) % 4294967296) :: st) h r) : am_Good M pc L (.retAddr b :: .retAddr a :: st) h r := by
  refine hg.go fun p l e R s m args below meth c B N0 S0 D dA H locs ls Q X k => ?_
  obtain ⟨⟨hx, hb, hml, hown, hts, hlk, hr, hnm⟩, ⟨xf, xl, xc, xs⟩, ⟨xn, xt, xB⟩, hK, hw, hS, hL⟩ := X
  exact lv_iadd hx hb hd (W.eq (by simp only [List.map_cons, am_v]; rw [an_add]) (k ls hL))
theorem g_isub {M : am_MI} {pc : Nat} {L : am_L} {st : List Value} {h : am_H} {r : am_R} {a b : Nat} (hd : decode M.2.1 pc = .ok (.isub, 1)) (hg : am_Good M (pc + 1) L (.retAddr ((a + (4294967296 - b % 4294967296)) % 4294967296) :: st) h r) : am_Good M pc L (.retAddr b :: .retAddr a :: st) h r := by
  refine hg.go fun p l e R s m args below meth c B N0 S0 D dA H locs ls Q X k => ?_
  obtain ⟨⟨hx, hb, hml, hown, hts, hlk, hr, hnm⟩, ⟨xf, xl, xc, xs⟩, ⟨xn, xt, xB⟩, hK, hw, hS, hL⟩ := X
  exact lv_isub hx hb hd (W.eq (by simp only [List.map_cons, am_v]; rw [an_sub]) (k ls hL))
theorem g_imul {M : am_MI} {pc : Nat} {L : am_L} {st : List Value} {h : am_H} {r : am_R} {a b : Nat} (hd : decode M.2.1 pc = .ok (.imul, 1)) (hg : am_Good M (pc + 1) L (.retAddr ((a * b) % 4294967296) :: st) h r) : am_Good M pc L (.retAddr b :: .retAddr a :: st) h r := by
  refine hg.go fun p l e R s m args below meth c B N0 S0 D dA H locs ls Q X k => ?_
  obtain ⟨⟨hx, hb, hml, hown, hts, hlk, hr, hnm⟩, ⟨xf, xl, xc, xs⟩, ⟨xn, xt, xB⟩, hK, hw, hS, hL⟩ := X
  exact lv_imul hx hb hd (W.eq (by simp only [List.map_cons, am_v]; rw [an_mul]) (k ls hL))
theorem g_iand {M : am_MI} {pc : Nat} {L : am_L} {st : List Value} {h : am_H} {r : am_R} {a b : Nat} (hd : decode M.2.1 pc = .ok (.iand, 1)) (hg : am_Good M (pc + 1) L (.retAddr (a &&& b) :: st) h r) : am_Good M pc L (.retAddr b :: .retAddr a :: st) h r := by
  refine hg.go fun p l e R s m args below meth c B N0 S0 D dA H locs ls Q X k => ?_
  obtain ⟨⟨hx, hb, hml, hown, hts, hlk, hr, hnm⟩, ⟨xf, xl, xc, xs⟩, ⟨xn, xt, xB⟩, hK, hw, hS, hL⟩ := X
  exact lv_iand hx hb hd (W.eq (by simp only [List.map_cons, am_v]; rw [an_and]) (k ls hL))
theorem g_ior {M : am_MI} {pc : Nat} {L : am_L} {st : List Value} {h : am_H} {r : am_R} {a b : Nat} (hd : decode M.2.1 pc = .ok (.ior, 1)) (hg : am_Good M (pc + 1) L (.retAddr (a ||| b) :: st) h r) : am_Good M pc L (.retAddr b :: .retAddr a :: st) h r := by
  refine hg.go fun p l e R s m args below meth c B N0 S0 D dA H locs ls Q X k => ?_
  obtain ⟨⟨hx, hb, hml, hown, hts, hlk, hr, hnm⟩, ⟨xf, xl, xc, xs⟩, ⟨xn, xt, xB⟩, hK, hw, hS, hL⟩ := X
  exact lv_ior hx hb hd (W.eq (by simp only [List.map_cons, am_v]; rw [an_or]) (k ls hL))
theorem g_ixor {M : am_MI} {pc : Nat} {L : am_L} {st : List Value} {h : am_H} {r : am_R} {a b : Nat} (hd : decode M.2.1 pc = .ok (.ixor, 1)) (hg : am_Good M (pc + 1) L (.retAddr (a ^^^ b) :: st) h r) : am_Good M pc L (.retAddr b :: .retAddr a :: st) h r := by
  refine hg.go fun p l e R s m args below meth c B N0 S0 D dA H locs ls Q X k => ?_
  obtain ⟨⟨hx, hb, hml, hown, hts, hlk, hr, hnm⟩, ⟨xf, xl, xc, xs⟩, ⟨xn, xt, xB⟩, hK, hw, hS, hL⟩ := X
  exact lv_ixor hx hb hd (W.eq (by simp only [List.map_cons, am_v]; rw [an_xor]) (k ls hL))
theorem g_ishl {M : am_MI} {pc : Nat} {L : am_L} {st : List Value} {h : am_H} {r : am_R} {a b : Nat} (hd : decode M.2.1 pc = .ok (.ishl, 1)) (hg : am_Good M (pc + 1) L (.retAddr ((a <<< (b % 32)) % 4294967296) :: st) h r) : am_Good M pc L (.retAddr b :: .retAddr a :: st) h r := by
  refine hg.go fun p l e R s m args below meth c B N0 S0 D dA H locs ls Q X k => ?_
  obtain ⟨⟨hx, hb, hml, hown, hts, hlk, hr, hnm⟩, ⟨xf, xl, xc, xs⟩, ⟨xn, xt, xB⟩, hK, hw, hS, hL⟩ := X
  exact lv_ishl hx hb hd (W.eq (by simp only [List.map_cons, am_v]; rw [an_shl]) (k ls hL))
theorem g_ishr {M : am_MI} {pc : Nat} {L : am_L} {st : List Value} {h : am_H} {r : am_R} {a b : Nat} (hd : decode M.2.1 pc = .ok (.ishr, 1)) (ha : a < 2147483648) (hg : am_Good M (pc + 1) L (.retAddr (a >>> (b % 32)) :: st) h r) : am_Good M pc L (.retAddr b :: .retAddr a :: st) h r := by
  refine hg.go fun p l e R s m args below meth c B N0 S0 D dA H locs ls Q X k => ?_
  obtain ⟨⟨hx, hb, hml, hown, hts, hlk, hr, hnm⟩, ⟨xf, xl, xc, xs⟩, ⟨xn, xt, xB⟩, hK, hw, hS, hL⟩ := X
  exact lv_ishr hx hb hd (W.eq (by simp only [List.map_cons, am_v]; rw [an_shr b ha]) (k ls hL))
theorem g_idiv {M : am_MI} {pc : Nat} {L : am_L} {st : List Value} {h : am_H} {r : am_R} {a b : Nat} (hd : decode M.2.1 pc = .ok (.idiv, 1)) (ha : a < 2147483648) (hb0 : b < 2147483648) (h0 : 0 < b) (hg : am_Good M (pc + 1) L (.retAddr (a / b) :: st) h r) : am_Good M pc L (.retAddr b :: .retAddr a :: st) h r := by
  refine hg.go fun p l e R s m args below meth c B N0 S0 D dA H locs ls Q X k => ?_
  obtain ⟨⟨hx, hb, hml, hown, hts, hlk, hr, hnm⟩, ⟨xf, xl, xc, xs⟩, ⟨xn, xt, xB⟩, hK, hw, hS, hL⟩ := X
  exact lv_idiv hx hb hd (an_ne0 h0 hb0) (W.eq (by simp only [List.map_cons, am_v]; rw [an_div ha hb0]) (k ls hL))
theorem g_irem {M : am_MI} {pc : Nat} {L : am_L} {st : List Value} {h : am_H} {r : am_R} {a b : Nat} (hd : decode M.2.1 pc = .ok (.irem, 1)) (ha : a < 2147483648) (hb0 : b < 2147483648) (h0 : 0 < b) (hg : am_Good M (pc + 1) L (.retAddr (a % b) :: st) h r) : am_Good M pc L (.retAddr b :: .retAddr a :: st) h r := by
  refine hg.go fun p l e R s m args below meth c B N0 S0 D dA H locs ls Q X k => ?_
  obtain ⟨⟨hx, hb, hml, hown, hts, hlk, hr, hnm⟩, ⟨xf, xl, xc, xs⟩, ⟨xn, xt, xB⟩, hK, hw, hS, hL⟩ := X
  exact lv_irem hx hb hd (an_ne0 h0 hb0) (W.eq (by simp only [List.map_cons, am_v]; rw [an_rem ha hb0]) (k ls hL))
theorem g_iushr {M : am_MI} {pc : Nat} {L : am_L} {st : List Value} {h : am_H} {r : am_R} {a b : Nat} (hd : decode M.2.1 pc = .ok (.iushr, 1)) (hg : am_Good M (pc + 1) L (.retAddr ((a % 4294967296) >>> (b % 32)) :: st) h r) : am_Good M pc L (.retAddr b :: .retAddr a :: st) h r := by
  refine hg.go fun p l e R s m args below meth c B N0 S0 D dA H locs ls Q X k => ?_
  obtain ⟨⟨hx, hb, hml, hown, hts, hlk, hr, hnm⟩, ⟨xf, xl, xc, xs⟩, ⟨xn, xt, xB⟩, hK, hw, hS, hL⟩ := X
  exact lv_iushr hx hb hd (an_ushr a b).symm (k ls hL)
theorem g_i2c {M : am_MI} {pc : Nat} {L : am_L} {st : List Value} {h : am_H} {r : am_R} {a : Nat} (hd : decode M.2.1 pc = .ok (.i2c, 1)) (hg : am_Good M (pc + 1) L (.retAddr (a % 65536) :: st) h r) : am_Good M pc L (.retAddr a :: st) h r := by
  refine hg.go fun p l e R s m args below meth c B N0 S0 D dA H locs ls Q X k => ?_
  obtain ⟨⟨hx, hb, hml, hown, hts, hlk, hr, hnm⟩, ⟨xf, xl, xc, xs⟩, ⟨xn, xt, xB⟩, hK, hw, hS, hL⟩ := X
  exact lv_i2c hx hb hd (an_i2c a) (k ls hL)
theorem g_i2l {M : am_MI} {pc : Nat} {L : am_L} {st : List Value} {h : am_H} {r : am_R} {a : Nat} (hd : decode M.2.1 pc = .ok (.i2l, 1)) (hg : am_Good M (pc + 1) L (.long (Int32.ofNat a).toInt64 :: st) h r) : am_Good M pc L (.retAddr a :: st) h r := by
  refine hg.go fun p l e R s m args below meth c B N0 S0 D dA H locs ls Q X k => ?_
  obtain ⟨⟨hx, hb, hml, hown, hts, hlk, hr, hnm⟩, ⟨xf, xl, xc, xs⟩, ⟨xn, xt, xB⟩, hK, hw, hS, hL⟩ := X
  exact lv_i2l hx hb hd rfl (k ls hL)
theorem g_ladd {M : am_MI} {pc : Nat} {L : am_L} {st : List Value} {h : am_H} {r : am_R} {a b : Int64} (hd : decode M.2.1 pc = .ok (.ladd, 1)) (hg : am_Good M (pc + 1) L (.long (a + b) :: st) h r) : am_Good M pc L (.long b :: .long a :: st) h r := by
  refine hg.go fun p l e R s m args below meth c B N0 S0 D dA H locs ls Q X k => ?_
  obtain ⟨⟨hx, hb, hml, hown, hts, hlk, hr, hnm⟩, ⟨xf, xl, xc, xs⟩, ⟨xn, xt, xB⟩, hK, hw, hS, hL⟩ := X
  exact lv_ladd hx hb hd (k ls hL)
theorem g_lmul {M : am_MI} {pc : Nat} {L : am_L} {st : List Value} {h : am_H} {r : am_R} {a b : Int64} (hd : decode M.2.1 pc = .ok (.lmul, 1)) (hg : am_Good M (pc + 1) L (.long (a * b) :: st) h r) : am_Good M pc L (.long b :: .long a :: st) h r := by
  refine hg.go fun p l e R s m args below meth c B N0 S0 D dA H locs ls Q X k => ?_
  obtain ⟨⟨hx, hb, hml, hown, hts, hlk, hr, hnm⟩, ⟨xf, xl, xc, xs⟩, ⟨xn, xt, xB⟩, hK, hw, hS, hL⟩ := X
  exact lv_lmul hx hb hd (k ls hL)
theorem g_lrem {M : am_MI} {pc : Nat} {L : am_L} {st : List Value} {h : am_H} {r : am_R} {a b : Int64} (hd : decode M.2.1 pc = .ok (.lrem, 1)) (h0 : ¬ b = 0) (hg : am_Good M (pc + 1) L (.long (a - a / b * b) :: st) h r) : am_Good M pc L (.long b :: .long a :: st) h r := by
  refine hg.go fun p l e R s m args below meth c B N0 S0 D dA H locs ls Q X k => ?_
  obtain ⟨⟨hx, hb, hml, hown, hts, hlk, hr, hnm⟩, ⟨xf, xl, xc, xs⟩, ⟨xn, xt, xB⟩, hK, hw, hS, hL⟩ := X
  exact lv_lrem hx hb hd h0 (k ls hL)
theorem g_lcmp {M : am_MI} {pc : Nat} {L : am_L} {st : List Value} {h : am_H} {r : am_R} {a b : Int64} {v : Nat} (hd : decode M.2.1 pc = .ok (.lcmp, 1)) (hv : lg_cmp a b = Int32.ofNat v) (hg : am_Good M (pc + 1) L (.retAddr v :: st) h r) : am_Good M pc L (.long b :: .long a :: st) h r := by
  refine hg.go fun p l e R s m args below meth c B N0 S0 D dA H locs ls Q X k => ?_
  obtain ⟨⟨hx, hb, hml, hown, hts, hlk, hr, hnm⟩, ⟨xf, xl, xc, xs⟩, ⟨xn, xt, xB⟩, hK, hw, hS, hL⟩ := X
  exact W.lcmp hx hb hd (W.eq (by simp only [List.map_cons, am_v]; rw [hv]) (k ls hL))
theorem g_dup {M : am_MI} {pc : Nat} {L : am_L} {st : List Value} {h : am_H} {r : am_R} {v : Value} (hd : decode M.2.1 pc = .ok (.dup, 1)) (hv : v.category = 1) (hg : am_Good M (pc + 1) L (v :: v :: st) h r) : am_Good M pc L (v :: st) h r := by
  refine hg.go fun p l e R s m args below meth c B N0 S0 D dA H locs ls Q X k => ?_
  obtain ⟨⟨hx, hb, hml, hown, hts, hlk, hr, hnm⟩, ⟨xf, xl, xc, xs⟩, ⟨xn, xt, xB⟩, hK, hw, hS, hL⟩ := X
  exact lv_dup hx hb hd (by rw [am_v_cat]; exact hv) (k ls hL)
theorem g_dup2 {M : am_MI} {pc : Nat} {L : am_L} {st : List Value} {h : am_H} {r : am_R} {u v : Value} (hd : decode M.2.1 pc = .ok (.dup2, 1)) (hu : u.category = 1) (hv : v.category = 1) (hg : am_Good M (pc + 1) L (u :: v :: u :: v :: st) h r) : am_Good M pc L (u :: v :: st) h r := by
  refine hg.go fun p l e R s m args below meth c B N0 S0 D dA H locs ls Q X k => ?_
  obtain ⟨⟨hx, hb, hml, hown, hts, hlk, hr, hnm⟩, ⟨xf, xl, xc, xs⟩, ⟨xn, xt, xB⟩, hK, hw, hS, hL⟩ := X
  exact lv_dup2_11 hx hb hd (by rw [am_v_cat]; exact hu) (by rw [am_v_cat]; exact hv) (k ls hL)
theorem g_pop {M : am_MI} {pc : Nat} {L : am_L} {st : List Value} {h : am_H} {r : am_R} {v : Value} (hd : decode M.2.1 pc = .ok (.pop, 1)) (hv : v.category = 1) (hg : am_Good M (pc + 1) L st h r) : am_Good M pc L (v :: st) h r := by
  refine hg.go fun p l e R s m args below meth c B N0 S0 D dA H locs ls Q X k => ?_
  obtain ⟨⟨hx, hb, hml, hown, hts, hlk, hr, hnm⟩, ⟨xf, xl, xc, xs⟩, ⟨xn, xt, xB⟩, hK, hw, hS, hL⟩ := X
  exact lv_pop hx hb hd (by rw [am_v_cat]; exact hv) (k ls hL)
theorem g_goto {M : am_MI} {pc : Nat} {L : am_L} {st : List Value} {h : am_H} {r : am_R} {d : Int} {t : Nat} (hd : decode M.2.1 pc = .ok (.goto d, 3)) (ht : (pc : Int) + d = (t : Int)) (hg : am_Good M t L st h r) : am_Good M pc L st h r := by
  refine hg.go fun p l e R s m args below meth c B N0 S0 D dA H locs ls Q X k => ?_
  obtain ⟨⟨hx, hb, hml, hown, hts, hlk, hr, hnm⟩, ⟨xf, xl, xc, xs⟩, ⟨xn, xt, xB⟩, hK, hw, hS, hL⟩ := X
  exact lv_goto hx hb hd ht (k ls hL)
def am_teq (a b : Nat) : Bool := Nat.beq (a % 4294967296) (b % 4294967296)
def am_tlt (a b : Nat) : Bool := Nat.blt ((a + 2147483648) % 4294967296) ((b + 2147483648) % 4294967296)
theorem am_teq_iff (a b : Nat) : am_teq a b = true ↔ Int32.ofNat a = Int32.ofNat b := by
  rw [an_eq]
  unfold am_teq
  rw [Nat.beq_eq]
theorem am_tlt_iff (a b : Nat) : am_tlt a b = true ↔ Int32.ofNat a < Int32.ofNat b := by
  rw [an_lt]
  unfold am_tlt
  simp [Nat.blt_eq]
theorem am_tle_iff (a b : Nat) : am_tlt b a = false ↔ Int32.ofNat a ≤ Int32.ofNat b := by
  rw [an_le, ← Bool.not_eq_true, am_tlt_iff, an_lt]
  omega
def am_tc (c : Jvm.ClassFile.Cond) (a b : Nat) : Bool := match c with
  | .eq => am_teq a b
  | .ne => !am_teq a b
  | .lt => am_tlt a b
  | .ge => !am_tlt a b
  | .gt => am_tlt b a
  | .le => !am_tlt b a
theorem am_no_eq_t {x y : Int32} {t : Bool} (q : (t = true ↔ x = y)) (hh : t = true) (z : ¬ (x = y)) : False := by
  subst hh
  simp only [Int32.lt_iff_toInt_lt, Int32.le_iff_toInt_le, ← Int32.toInt_inj, iff_true, iff_false, true_iff, false_iff, Bool.true_eq_false, Bool.false_eq_true, reduceCtorEq] at q z
  omega
theorem am_no_eq_f {x y : Int32} {t : Bool} (q : (t = true ↔ x = y)) (hh : t = false) (z : x = y) : False := by
  subst hh
  simp only [Int32.lt_iff_toInt_lt, Int32.le_iff_toInt_le, ← Int32.toInt_inj, iff_true, iff_false, true_iff, false_iff, Bool.true_eq_false, Bool.false_eq_true, reduceCtorEq] at q z
  omega
theorem am_no_ne_t {x y : Int32} {t : Bool} (q : (t = true ↔ x = y)) (hh : t = false) (z : ¬ (¬ x = y)) : False := by
  subst hh
  simp only [Int32.lt_iff_toInt_lt, Int32.le_iff_toInt_le, ← Int32.toInt_inj, iff_true, iff_false, true_iff, false_iff, Bool.true_eq_false, Bool.false_eq_true, reduceCtorEq] at q z
  omega
theorem am_no_ne_f {x y : Int32} {t : Bool} (q : (t = true ↔ x = y)) (hh : t = true) (z : ¬ x = y) : False := by
  subst hh
  simp only [Int32.lt_iff_toInt_lt, Int32.le_iff_toInt_le, ← Int32.toInt_inj, iff_true, iff_false, true_iff, false_iff, Bool.true_eq_false, Bool.false_eq_true, reduceCtorEq] at q z
  omega
theorem am_no_lt_t {x y : Int32} {t : Bool} (q : (t = true ↔ x < y)) (hh : t = true) (z : ¬ (x < y)) : False := by
  subst hh
  simp only [Int32.lt_iff_toInt_lt, Int32.le_iff_toInt_le, ← Int32.toInt_inj, iff_true, iff_false, true_iff, false_iff, Bool.true_eq_false, Bool.false_eq_true, reduceCtorEq] at q z
  omega
theorem am_no_lt_f {x y : Int32} {t : Bool} (q : (t = true ↔ x < y)) (hh : t = false) (z : x < y) : False := by
  subst hh
  simp only [Int32.lt_iff_toInt_lt, Int32.le_iff_toInt_le, ← Int32.toInt_inj, iff_true, iff_false, true_iff, false_iff, Bool.true_eq_false, Bool.false_eq_true, reduceCtorEq] at q z
  omega
theorem am_no_ge_t {x y : Int32} {t : Bool} (q : (t = true ↔ x < y)) (hh : t = false) (z : ¬ (y ≤ x)) : False := by
  subst hh
  simp only [Int32.lt_iff_toInt_lt, Int32.le_iff_toInt_le, ← Int32.toInt_inj, iff_true, iff_false, true_iff, false_iff, Bool.true_eq_false, Bool.false_eq_true, reduceCtorEq] at q z
  omega
theorem am_no_ge_f {x y : Int32} {t : Bool} (q : (t = true ↔ x < y)) (hh : t = true) (z : y ≤ x) : False := by
  subst hh
  simp only [Int32.lt_iff_toInt_lt, Int32.le_iff_toInt_le, ← Int32.toInt_inj, iff_true, iff_false, true_iff, false_iff, Bool.true_eq_false, Bool.false_eq_true, reduceCtorEq] at q z
  omega
theorem am_no_gt_t {x y : Int32} {t : Bool} (q : (t = true ↔ y < x)) (hh : t = true) (z : ¬ (y < x)) : False := by
  subst hh
  simp only [Int32.lt_iff_toInt_lt, Int32.le_iff_toInt_le, ← Int32.toInt_inj, iff_true, iff_false, true_iff, false_iff, Bool.true_eq_false, Bool.false_eq_true, reduceCtorEq] at q z
  omega
theorem am_no_gt_f {x y : Int32} {t : Bool} (q : (t = true ↔ y < x)) (hh : t = false) (z : y < x) : False := by
  subst hh
  simp only [Int32.lt_iff_toInt_lt, Int32.le_iff_toInt_le, ← Int32.toInt_inj, iff_true, iff_false, true_iff, false_iff, Bool.true_eq_false, Bool.false_eq_true, reduceCtorEq] at q z
  omega
theorem am_no_le_t {x y : Int32} {t : Bool} (q : (t = true ↔ y < x)) (hh : t = false) (z : ¬ (x ≤ y)) : False := by
  subst hh
  simp only [Int32.lt_iff_toInt_lt, Int32.le_iff_toInt_le, ← Int32.toInt_inj, iff_true, iff_false, true_iff, false_iff, Bool.true_eq_false, Bool.false_eq_true, reduceCtorEq] at q z
  omega
theorem am_no_le_f {x y : Int32} {t : Bool} (q : (t = true ↔ y < x)) (hh : t = true) (z : x ≤ y) : False := by
  subst hh
  simp only [Int32.lt_iff_toInt_lt, Int32.le_iff_toInt_le, ← Int32.toInt_inj, iff_true, iff_false, true_iff, false_iff, Bool.true_eq_false, Bool.false_eq_true, reduceCtorEq] at q z
  omega
theorem g_icmp_eq_t {M : am_MI} {pc : Nat} {L : am_L} {st : List Value} {h : am_H} {r : am_R} {a b t : Nat} {d : Int} (hd : decode M.2.1 pc = .ok (.if_icmp .eq d, 3)) (ht : (pc : Int) + d = (t : Int)) (hh : am_tc .eq a b = true) (hg : am_Good M t L st h r) : am_Good M pc L (.retAddr b :: .retAddr a :: st) h r := by
  refine hg.go fun p l e R s m args below meth c B N0 S0 D dA H locs ls Q X k => ?_
  obtain ⟨⟨hx, hb, hml, hown, hts, hlk, hr, hnm⟩, ⟨xf, xl, xc, xs⟩, ⟨xn, xt, xB⟩, hK, hw, hS, hL⟩ := X
  have q := am_teq_iff a b
  simp only [am_tc, Bool.not_eq_true', Bool.not_eq_false'] at hh
  refine lv_icmp_eq hx hb hd ht (fun z => k ls hL) (fun z => ?_)
  exfalso
  exact am_no_eq_t q hh z
theorem g_icmp_eq_f {M : am_MI} {pc : Nat} {L : am_L} {st : List Value} {h : am_H} {r : am_R} {a b t : Nat} {d : Int} (hd : decode M.2.1 pc = .ok (.if_icmp .eq d, 3)) (ht : (pc : Int) + d = (t : Int)) (hh : am_tc .eq a b = false) (hg : am_Good M (pc + 3) L st h r) : am_Good M pc L (.retAddr b :: .retAddr a :: st) h r := by
  refine hg.go fun p l e R s m args below meth c B N0 S0 D dA H locs ls Q X k => ?_
  obtain ⟨⟨hx, hb, hml, hown, hts, hlk, hr, hnm⟩, ⟨xf, xl, xc, xs⟩, ⟨xn, xt, xB⟩, hK, hw, hS, hL⟩ := X
  have q := am_teq_iff a b
  simp only [am_tc, Bool.not_eq_true', Bool.not_eq_false'] at hh
  refine lv_icmp_eq hx hb hd ht (fun z => ?_) (fun z => k ls hL)
  exfalso
  exact am_no_eq_f q hh z
theorem g_icmp_ne_t {M : am_MI} {pc : Nat} {L : am_L} {st : List Value} {h : am_H} {r : am_R} {a b t : Nat} {d : Int} (hd : decode M.2.1 pc = .ok (.if_icmp .ne d, 3)) (ht : (pc : Int) + d = (t : Int)) (hh : am_tc .ne a b = true) (hg : am_Good M t L st h r) : am_Good M pc L (.retAddr b :: .retAddr a :: st) h r := by
  refine hg.go fun p l e R s m args below meth c B N0 S0 D dA H locs ls Q X k => ?_
  obtain ⟨⟨hx, hb, hml, hown, hts, hlk, hr, hnm⟩, ⟨xf, xl, xc, xs⟩, ⟨xn, xt, xB⟩, hK, hw, hS, hL⟩ := X
  have q := am_teq_iff a b
  simp only [am_tc, Bool.not_eq_true', Bool.not_eq_false'] at hh
  refine lv_icmp_ne hx hb hd ht (fun z => k ls hL) (fun z => ?_)
  exfalso
  exact am_no_ne_t q hh (fun w => w z)
theorem g_icmp_ne_f {M : am_MI} {pc : Nat} {L : am_L} {st : List Value} {h : am_H} {r : am_R} {a b t : Nat} {d : Int} (hd : decode M.2.1 pc = .ok (.if_icmp .ne d, 3)) (ht : (pc : Int) + d = (t : Int)) (hh : am_tc .ne a b = false) (hg : am_Good M (pc + 3) L st h r) : am_Good M pc L (.retAddr b :: .retAddr a :: st) h r := by
  refine hg.go fun p l e R s m args below meth c B N0 S0 D dA H locs ls Q X k => ?_
  obtain ⟨⟨hx, hb, hml, hown, hts, hlk, hr, hnm⟩, ⟨xf, xl, xc, xs⟩, ⟨xn, xt, xB⟩, hK, hw, hS, hL⟩ := X
  have q := am_teq_iff a b
  simp only [am_tc, Bool.not_eq_true', Bool.not_eq_false'] at hh
  refine lv_icmp_ne hx hb hd ht (fun z => ?_) (fun z => k ls hL)
  exfalso
  exact am_no_ne_f q hh z
theorem g_icmp_lt_t {M : am_MI} {pc : Nat} {L : am_L} {st : List Value} {h : am_H} {r : am_R} {a b t : Nat} {d : Int} (hd : decode M.2.1 pc = .ok (.if_icmp .lt d, 3)) (ht : (pc : Int) + d = (t : Int)) (hh : am_tc .lt a b = true) (hg : am_Good M t L st h r) : am_Good M pc L (.retAddr b :: .retAddr a :: st) h r := by
  refine hg.go fun p l e R s m args below meth c B N0 S0 D dA H locs ls Q X k => ?_
  obtain ⟨⟨hx, hb, hml, hown, hts, hlk, hr, hnm⟩, ⟨xf, xl, xc, xs⟩, ⟨xn, xt, xB⟩, hK, hw, hS, hL⟩ := X
  have q := am_tlt_iff a b
  simp only [am_tc, Bool.not_eq_true', Bool.not_eq_false'] at hh
  refine lv_icmp_lt hx hb hd ht (fun z => k ls hL) (fun z => ?_)
  exfalso
  exact am_no_lt_t q hh z
theorem g_icmp_lt_f {M : am_MI} {pc : Nat} {L : am_L} {st : List Value} {h : am_H} {r : am_R} {a b t : Nat} {d : Int} (hd : decode M.2.1 pc = .ok (.if_icmp .lt d, 3)) (ht : (pc : Int) + d = (t : Int)) (hh : am_tc .lt a b = false) (hg : am_Good M (pc + 3) L st h r) : am_Good M pc L (.retAddr b :: .retAddr a :: st) h r := by
  refine hg.go fun p l e R s m args below meth c B N0 S0 D dA H locs ls Q X k => ?_
  obtain ⟨⟨hx, hb, hml, hown, hts, hlk, hr, hnm⟩, ⟨xf, xl, xc, xs⟩, ⟨xn, xt, xB⟩, hK, hw, hS, hL⟩ := X
  have q := am_tlt_iff a b
  simp only [am_tc, Bool.not_eq_true', Bool.not_eq_false'] at hh
  refine lv_icmp_lt hx hb hd ht (fun z => ?_) (fun z => k ls hL)
  exfalso
  exact am_no_lt_f q hh z
theorem g_icmp_ge_t {M : am_MI} {pc : Nat} {L : am_L} {st : List Value} {h : am_H} {r : am_R} {a b t : Nat} {d : Int} (hd : decode M.2.1 pc = .ok (.if_icmp .ge d, 3)) (ht : (pc : Int) + d = (t : Int)) (hh : am_tc .ge a b = true) (hg : am_Good M t L st h r) : am_Good M pc L (.retAddr b :: .retAddr a :: st) h r := by
  refine hg.go fun p l e R s m args below meth c B N0 S0 D dA H locs ls Q X k => ?_
  obtain ⟨⟨hx, hb, hml, hown, hts, hlk, hr, hnm⟩, ⟨xf, xl, xc, xs⟩, ⟨xn, xt, xB⟩, hK, hw, hS, hL⟩ := X
  have q := am_tlt_iff a b
  simp only [am_tc, Bool.not_eq_true', Bool.not_eq_false'] at hh
  refine lv_icmp_ge hx hb hd ht (fun z => k ls hL) (fun z => ?_)
  exfalso
  exact am_no_ge_t q hh z
theorem g_icmp_ge_f {M : am_MI} {pc : Nat} {L : am_L} {st : List Value} {h : am_H} {r : am_R} {a b t : Nat} {d : Int} (hd : decode M.2.1 pc = .ok (.if_icmp .ge d, 3)) (ht : (pc : Int) + d = (t : Int)) (hh : am_tc .ge a b = false) (hg : am_Good M (pc + 3) L st h r) : am_Good M pc L (.retAddr b :: .retAddr a :: st) h r := by
  refine hg.go fun p l e R s m args below meth c B N0 S0 D dA H locs ls Q X k => ?_
  obtain ⟨⟨hx, hb, hml, hown, hts, hlk, hr, hnm⟩, ⟨xf, xl, xc, xs⟩, ⟨xn, xt, xB⟩, hK, hw, hS, hL⟩ := X
  have q := am_tlt_iff a b
  simp only [am_tc, Bool.not_eq_true', Bool.not_eq_false'] at hh
  refine lv_icmp_ge hx hb hd ht (fun z => ?_) (fun z => k ls hL)
  exfalso
  exact am_no_ge_f q hh z
theorem g_icmp_gt_t {M : am_MI} {pc : Nat} {L : am_L} {st : List Value} {h : am_H} {r : am_R} {a b t : Nat} {d : Int} (hd : decode M.2.1 pc = .ok (.if_icmp .gt d, 3)) (ht : (pc : Int) + d = (t : Int)) (hh : am_tc .gt a b = true) (hg : am_Good M t L st h r) : am_Good M pc L (.retAddr b :: .retAddr a :: st) h r := by
  refine hg.go fun p l e R s m args below meth c B N0 S0 D dA H locs ls Q X k => ?_
  obtain ⟨⟨hx, hb, hml, hown, hts, hlk, hr, hnm⟩, ⟨xf, xl, xc, xs⟩, ⟨xn, xt, xB⟩, hK, hw, hS, hL⟩ := X
  have q := am_tlt_iff b a
  simp only [am_tc, Bool.not_eq_true', Bool.not_eq_false'] at hh
  refine lv_icmp_gt hx hb hd ht (fun z => k ls hL) (fun z => ?_)
  exfalso
  exact am_no_gt_t q hh z
theorem g_icmp_gt_f {M : am_MI} {pc : Nat} {L : am_L} {st : List Value} {h : am_H} {r : am_R} {a b t : Nat} {d : Int} (hd : decode M.2.1 pc = .ok (.if_icmp .gt d, 3)) (ht : (pc : Int) + d = (t : Int)) (hh : am_tc .gt a b = false) (hg : am_Good M (pc + 3) L st h r) : am_Good M pc L (.retAddr b :: .retAddr a :: st) h r := by
  refine hg.go fun p l e R s m args below meth c B N0 S0 D dA H locs ls Q X k => ?_
  obtain ⟨⟨hx, hb, hml, hown, hts, hlk, hr, hnm⟩, ⟨xf, xl, xc, xs⟩, ⟨xn, xt, xB⟩, hK, hw, hS, hL⟩ := X
  have q := am_tlt_iff b a
  simp only [am_tc, Bool.not_eq_true', Bool.not_eq_false'] at hh
  refine lv_icmp_gt hx hb hd ht (fun z => ?_) (fun z => k ls hL)
  exfalso
  exact am_no_gt_f q hh z
theorem g_icmp_le_t {M : am_MI} {pc : Nat} {L : am_L} {st : List Value} {h : am_H} {r : am_R} {a b t : Nat} {d : Int} (hd : decode M.2.1 pc = .ok (.if_icmp .le d, 3)) (ht : (pc : Int) + d = (t : Int)) (hh : am_tc .le a b = true) (hg : am_Good M t L st h r) : am_Good M pc L (.retAddr b :: .retAddr a :: st) h r := by
  refine hg.go fun p l e R s m args below meth c B N0 S0 D dA H locs ls Q X k => ?_
  obtain ⟨⟨hx, hb, hml, hown, hts, hlk, hr, hnm⟩, ⟨xf, xl, xc, xs⟩, ⟨xn, xt, xB⟩, hK, hw, hS, hL⟩ := X
  have q := am_tlt_iff b a
  simp only [am_tc, Bool.not_eq_true', Bool.not_eq_false'] at hh
  refine lv_icmp_le hx hb hd ht (fun z => k ls hL) (fun z => ?_)
  exfalso
  exact am_no_le_t q hh z
theorem g_icmp_le_f {M : am_MI} {pc : Nat} {L : am_L} {st : List Value} {h : am_H} {r : am_R} {a b t : Nat} {d : Int} (hd : decode M.2.1 pc = .ok (.if_icmp .le d, 3)) (ht : (pc : Int) + d = (t : Int)) (hh : am_tc .le a b = false) (hg : am_Good M (pc + 3) L st h r) : am_Good M pc L (.retAddr b :: .retAddr a :: st) h r := by
  refine hg.go fun p l e R s m args below meth c B N0 S0 D dA H locs ls Q X k => ?_
  obtain ⟨⟨hx, hb, hml, hown, hts, hlk, hr, hnm⟩, ⟨xf, xl, xc, xs⟩, ⟨xn, xt, xB⟩, hK, hw, hS, hL⟩ := X
  have q := am_tlt_iff b a
  simp only [am_tc, Bool.not_eq_true', Bool.not_eq_false'] at hh
  refine lv_icmp_le hx hb hd ht (fun z => ?_) (fun z => k ls hL)
  exfalso
  exact am_no_le_f q hh z
theorem g_if_eq_t {M : am_MI} {pc : Nat} {L : am_L} {st : List Value} {h : am_H} {r : am_R} {a t : Nat} {d : Int} (hd : decode M.2.1 pc = .ok (.ifCond .eq d, 3)) (ht : (pc : Int) + d = (t : Int)) (hh : am_tc .eq a 0 = true) (hg : am_Good M t L st h r) : am_Good M pc L (.retAddr a :: st) h r := by
  refine hg.go fun p l e R s m args below meth c B N0 S0 D dA H locs ls Q X k => ?_
  obtain ⟨⟨hx, hb, hml, hown, hts, hlk, hr, hnm⟩, ⟨xf, xl, xc, xs⟩, ⟨xn, xt, xB⟩, hK, hw, hS, hL⟩ := X
  have q := am_teq_iff a 0
  simp only [am_tc, Bool.not_eq_true', Bool.not_eq_false'] at hh
  refine lv_if_eq hx hb hd ht (fun z => k ls hL) (fun z => ?_)
  exfalso
  exact am_no_eq_t q hh z
theorem g_if_eq_f {M : am_MI} {pc : Nat} {L : am_L} {st : List Value} {h : am_H} {r : am_R} {a t : Nat} {d : Int} (hd : decode M.2.1 pc = .ok (.ifCond .eq d, 3)) (ht : (pc : Int) + d = (t : Int)) (hh : am_tc .eq a 0 = false) (hg : am_Good M (pc + 3) L st h r) : am_Good M pc L (.retAddr a :: st) h r := by
  refine hg.go fun p l e R s m args below meth c B N0 S0 D dA H locs ls Q X k => ?_
  obtain ⟨⟨hx, hb, hml, hown, hts, hlk, hr, hnm⟩, ⟨xf, xl, xc, xs⟩, ⟨xn, xt, xB⟩, hK, hw, hS, hL⟩ := X
  have q := am_teq_iff a 0
  simp only [am_tc, Bool.not_eq_true', Bool.not_eq_false'] at hh
  refine lv_if_eq hx hb hd ht (fun z => ?_) (fun z => k ls hL)
  exfalso
  exact am_no_eq_f q hh z
theorem g_if_ne_t {M : am_MI} {pc : Nat} {L : am_L} {st : List Value} {h : am_H} {r : am_R} {a t : Nat} {d : Int} (hd : decode M.2.1 pc = .ok (.ifCond .ne d, 3)) (ht : (pc : Int) + d = (t : Int)) (hh : am_tc .ne a 0 = true) (hg : am_Good M t L st h r) : am_Good M pc L (.retAddr a :: st) h r := by
  refine hg.go fun p l e R s m args below meth c B N0 S0 D dA H locs ls Q X k => ?_
  obtain ⟨⟨hx, hb, hml, hown, hts, hlk, hr, hnm⟩, ⟨xf, xl, xc, xs⟩, ⟨xn, xt, xB⟩, hK, hw, hS, hL⟩ := X
  have q := am_teq_iff a 0
  simp only [am_tc, Bool.not_eq_true', Bool.not_eq_false'] at hh
  refine lv_if_ne hx hb hd ht (fun z => k ls hL) (fun z => ?_)
  exfalso
  exact am_no_ne_t q hh (fun w => w z)
theorem g_if_ne_f {M : am_MI} {pc : Nat} {L : am_L} {st : List Value} {h : am_H} {r : am_R} {a t : Nat} {d : Int} (hd : decode M.2.1 pc = .ok (.ifCond .ne d, 3)) (ht : (pc : Int) + d = (t : Int)) (hh : am_tc .ne a 0 = false) (hg : am_Good M (pc + 3) L st h r) : am_Good M pc L (.retAddr a :: st) h r := by
  refine hg.go fun p l e R s m args below meth c B N0 S0 D dA H locs ls Q X k => ?_
  obtain ⟨⟨hx, hb, hml, hown, hts, hlk, hr, hnm⟩, ⟨xf, xl, xc, xs⟩, ⟨xn, xt, xB⟩, hK, hw, hS, hL⟩ := X
  have q := am_teq_iff a 0
  simp only [am_tc, Bool.not_eq_true', Bool.not_eq_false'] at hh
  refine lv_if_ne hx hb hd ht (fun z => ?_) (fun z => k ls hL)
  exfalso
  exact am_no_ne_f q hh z
theorem g_if_lt_t {M : am_MI} {pc : Nat} {L : am_L} {st : List Value} {h : am_H} {r : am_R} {a t : Nat} {d : Int} (hd : decode M.2.1 pc = .ok (.ifCond .lt d, 3)) (ht : (pc : Int) + d = (t : Int)) (hh : am_tc .lt a 0 = true) (hg : am_Good M t L st h r) : am_Good M pc L (.retAddr a :: st) h r := by
  refine hg.go fun p l e R s m args below meth c B N0 S0 D dA H locs ls Q X k => ?_
  obtain ⟨⟨hx, hb, hml, hown, hts, hlk, hr, hnm⟩, ⟨xf, xl, xc, xs⟩, ⟨xn, xt, xB⟩, hK, hw, hS, hL⟩ := X
  have q := am_tlt_iff a 0
  simp only [am_tc, Bool.not_eq_true', Bool.not_eq_false'] at hh
  refine lv_if_lt hx hb hd ht (fun z => k ls hL) (fun z => ?_)
  exfalso
  exact am_no_lt_t q hh z
theorem g_if_lt_f {M : am_MI} {pc : Nat} {L : am_L} {st : List Value} {h : am_H} {r : am_R} {a t : Nat} {d : Int} (hd : decode M.2.1 pc = .ok (.ifCond .lt d, 3)) (ht : (pc : Int) + d = (t : Int)) (hh : am_tc .lt a 0 = false) (hg : am_Good M (pc + 3) L st h r) : am_Good M pc L (.retAddr a :: st) h r := by
  refine hg.go fun p l e R s m args below meth c B N0 S0 D dA H locs ls Q X k => ?_
  obtain ⟨⟨hx, hb, hml, hown, hts, hlk, hr, hnm⟩, ⟨xf, xl, xc, xs⟩, ⟨xn, xt, xB⟩, hK, hw, hS, hL⟩ := X
  have q := am_tlt_iff a 0
  simp only [am_tc, Bool.not_eq_true', Bool.not_eq_false'] at hh
  refine lv_if_lt hx hb hd ht (fun z => ?_) (fun z => k ls hL)
  exfalso
  exact am_no_lt_f q hh z
theorem g_if_ge_t {M : am_MI} {pc : Nat} {L : am_L} {st : List Value} {h : am_H} {r : am_R} {a t : Nat} {d : Int} (hd : decode M.2.1 pc = .ok (.ifCond .ge d, 3)) (ht : (pc : Int) + d = (t : Int)) (hh : am_tc .ge a 0 = true) (hg : am_Good M t L st h r) : am_Good M pc L (.retAddr a :: st) h r := by
  refine hg.go fun p l e R s m args below meth c B N0 S0 D dA H locs ls Q X k => ?_
  obtain ⟨⟨hx, hb, hml, hown, hts, hlk, hr, hnm⟩, ⟨xf, xl, xc, xs⟩, ⟨xn, xt, xB⟩, hK, hw, hS, hL⟩ := X
  have q := am_tlt_iff a 0
  simp only [am_tc, Bool.not_eq_true', Bool.not_eq_false'] at hh
  refine lv_if_ge hx hb hd ht (fun z => k ls hL) (fun z => ?_)
  exfalso
  exact am_no_ge_t q hh z
theorem g_if_ge_f {M : am_MI} {pc : Nat} {L : am_L} {st : List Value} {h : am_H} {r : am_R} {a t : Nat} {d : Int} (hd : decode M.2.1 pc = .ok (.ifCond .ge d, 3)) (ht : (pc : Int) + d = (t : Int)) (hh : am_tc .ge a 0 = false) (hg : am_Good M (pc + 3) L st h r) : am_Good M pc L (.retAddr a :: st) h r := by
  refine hg.go fun p l e R s m args below meth c B N0 S0 D dA H locs ls Q X k => ?_
  obtain ⟨⟨hx, hb, hml, hown, hts, hlk, hr, hnm⟩, ⟨xf, xl, xc, xs⟩, ⟨xn, xt, xB⟩, hK, hw, hS, hL⟩ := X
  have q := am_tlt_iff a 0
  simp only [am_tc, Bool.not_eq_true', Bool.not_eq_false'] at hh
  refine lv_if_ge hx hb hd ht (fun z => ?_) (fun z => k ls hL)
  exfalso
  exact am_no_ge_f q hh z
theorem g_if_gt_t {M : am_MI} {pc : Nat} {L : am_L} {st : List Value} {h : am_H} {r : am_R} {a t : Nat} {d : Int} (hd : decode M.2.1 pc = .ok (.ifCond .gt d, 3)) (ht : (pc : Int) + d = (t : Int)) (hh : am_tc .gt a 0 = true) (hg : am_Good M t L st h r) : am_Good M pc L (.retAddr a :: st) h r := by
  refine hg.go fun p l e R s m args below meth c B N0 S0 D dA H locs ls Q X k => ?_
  obtain ⟨⟨hx, hb, hml, hown, hts, hlk, hr, hnm⟩, ⟨xf, xl, xc, xs⟩, ⟨xn, xt, xB⟩, hK, hw, hS, hL⟩ := X
  have q := am_tlt_iff 0 a
  simp only [am_tc, Bool.not_eq_true', Bool.not_eq_false'] at hh
  refine lv_if_gt hx hb hd ht (fun z => k ls hL) (fun z => ?_)
  exfalso
  exact am_no_gt_t q hh z
theorem g_if_gt_f {M : am_MI} {pc : Nat} {L : am_L} {st : List Value} {h : am_H} {r : am_R} {a t : Nat} {d : Int} (hd : decode M.2.1 pc = .ok (.ifCond .gt d, 3)) (ht : (pc : Int) + d = (t : Int)) (hh : am_tc .gt a 0 = false) (hg : am_Good M (pc + 3) L st h r) : am_Good M pc L (.retAddr a :: st) h r := by
  refine hg.go fun p l e R s m args below meth c B N0 S0 D dA H locs ls Q X k => ?_
  obtain ⟨⟨hx, hb, hml, hown, hts, hlk, hr, hnm⟩, ⟨xf, xl, xc, xs⟩, ⟨xn, xt, xB⟩, hK, hw, hS, hL⟩ := X
  have q := am_tlt_iff 0 a
  simp only [am_tc, Bool.not_eq_true', Bool.not_eq_false'] at hh
  refine lv_if_gt hx hb hd ht (fun z => ?_) (fun z => k ls hL)
  exfalso
  exact am_no_gt_f q hh z
theorem g_if_le_t {M : am_MI} {pc : Nat} {L : am_L} {st : List Value} {h : am_H} {r : am_R} {a t : Nat} {d : Int} (hd : decode M.2.1 pc = .ok (.ifCond .le d, 3)) (ht : (pc : Int) + d = (t : Int)) (hh : am_tc .le a 0 = true) (hg : am_Good M t L st h r) : am_Good M pc L (.retAddr a :: st) h r := by
  refine hg.go fun p l e R s m args below meth c B N0 S0 D dA H locs ls Q X k => ?_
  obtain ⟨⟨hx, hb, hml, hown, hts, hlk, hr, hnm⟩, ⟨xf, xl, xc, xs⟩, ⟨xn, xt, xB⟩, hK, hw, hS, hL⟩ := X
  have q := am_tlt_iff 0 a
  simp only [am_tc, Bool.not_eq_true', Bool.not_eq_false'] at hh
  refine lv_if_le hx hb hd ht (fun z => k ls hL) (fun z => ?_)
  exfalso
  exact am_no_le_t q hh z
theorem g_if_le_f {M : am_MI} {pc : Nat} {L : am_L} {st : List Value} {h : am_H} {r : am_R} {a t : Nat} {d : Int} (hd : decode M.2.1 pc = .ok (.ifCond .le d, 3)) (ht : (pc : Int) + d = (t : Int)) (hh : am_tc .le a 0 = false) (hg : am_Good M (pc + 3) L st h r) : am_Good M pc L (.retAddr a :: st) h r := by
  refine hg.go fun p l e R s m args below meth c B N0 S0 D dA H locs ls Q X k => ?_
  obtain ⟨⟨hx, hb, hml, hown, hts, hlk, hr, hnm⟩, ⟨xf, xl, xc, xs⟩, ⟨xn, xt, xB⟩, hK, hw, hS, hL⟩ := X
  have q := am_tlt_iff 0 a
  simp only [am_tc, Bool.not_eq_true', Bool.not_eq_false'] at hh
  refine lv_if_le hx hb hd ht (fun z => ?_) (fun z => k ls hL)
  exfalso
  exact am_no_le_f q hh z
