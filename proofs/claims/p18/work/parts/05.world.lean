/-! ===== what the abstract machine's state says of the machine's ===== -/
def am_v (B : Nat) : Value → Value
  | .retAddr n => .int (Int32.ofNat n)
  | .ref a => .ref (B + a)
  | v => v
theorem am_v_cat (B : Nat) (v : Value) : (am_v B v).category = v.category := by cases v <;> rfl
def am_e (B : Nat) (dA : Nat → ClassId) (e : am_E) : va_E := match e with
  | .inl x => .inl (dA x.1, x.2.1, .inl (fun j => Int32.ofNat (am_ag x.2.2 j)))
  | .inr x => .inr (x.1, x.2.map (am_v B))
def am_Wd (B : Nat) (D : va_G) (dA : Nat → ClassId) (h : am_H) (H : Heap) : Prop := H.size = B + h.1 ∧ ∀ k e, am_get h k = some e → va_at D am_cls (B + k, am_e B dA e) H
theorem am_Wd.upd {B : Nat} {D : va_G} {dA : Nat → ClassId} {h : am_H} {H H1 : Heap} (hw : am_Wd B D dA h H) {a : Nat} {e0 e : am_E} (h0 : am_get h a = some e0) (he : va_at D am_cls (B + a, am_e B dA e) H1) (hz : H1.size = H.size) (hq : ∀ q : Nat, q ≠ B + a → H1[q]? = H[q]?) : am_Wd B D dA (am_upd h a e) H1 := by
  refine ⟨by rw [hz]; exact hw.1, fun k x hx => ?_⟩
  rw [am_get_upd h0] at hx
  by_cases hk : k = a
  · rw [if_pos hk] at hx
    cases hx
    rw [hk]
    exact he
  · rw [if_neg hk] at hx
    exact (hw.2 k x hx).kept (hq (B + k) (by omega))
theorem am_Wd.new {B : Nat} {D : va_G} {dA : Nat → ClassId} {h h' : am_H} {H H1 : Heap} (hw : am_Wd B D dA h H) {n : Nat} {e : am_E} (hn : am_New h h' n e) (he : va_at D am_cls (B + h.1, am_e B dA e) H1) (hz : H1.size = H.size + 1) (hq : ∀ q : Nat, q < H.size → H1[q]? = H[q]?) : am_Wd B D dA h' H1 := by
  refine ⟨by rw [hz, hw.1, hn.1]; omega, fun k x hx => ?_⟩
  rcases hn.2.2 k x hx with ⟨rfl, rfl⟩ | h1
  · exact he
  · exact (hw.2 k x h1).kept (hq (B + k) (hw.2 k x h1).lt)
def am_tys (dA : Nat → ClassId) : List (ClassId × FieldType) := [(dA 0, .int), (dA 1, .char), (dA 2, .boolean)]
/-- the first text, as the class's constant, and its bytes: cells that no one writes -/
def am_ftx : String := "n12;s2;s3;m0,2,4,7,0;b0,5,6;m1,5,5,9,1;b1,8,9;f0,1,2;w0,0;w1,0;w2,0;w3,1;"
def am_fby : List Int32 := [110, 49, 50, 59, 115, 50, 59, 115, 51, 59, 109, 48, 44, 50, 44, 52, 44, 55, 44, 48, 59, 98, 48, 44, 53, 44, 54, 59, 109, 49, 44, 53, 44, 53, 44, 57, 44, 49, 59, 98, 49, 44, 56, 44, 57, 59, 102, 48, 44, 49, 44, 50, 59, 119, 48, 44, 48, 59, 119, 49, 44, 48, 59, 119, 50, 44, 48, 59, 119, 51, 44, 49, 59]
def am_Sx (B : Nat) (U : State) : Prop := ∃ (adK adV : Nat → Nat), vk_R "OverAndBack" 104 am_ftx (adK 0) U ∧ vk_S 1 [73] [am_fby] adK adV (fun q => B ≤ q) U U.heap ∧ va_Z "java/lang/String" "COMPACT_STRINGS" "Z" (.int 1) (fun q => B ≤ q) U U.heap
theorem am_Sx.warm {B : Nat} {s U : State} {H : Heap} {locs : List Loc} (hW : s.WarmedH U.vm) (hU : U.heap = H) (hS : va_S (fun q => B ≤ q) s.heap H locs) (h : am_Sx B s) : am_Sx B U := by
  obtain ⟨adK, adV, h1, h2, h3⟩ := h
  have hq : ∀ a : Nat, a < s.heap.size → ¬ (fun q => B ≤ q) a → U.heap[a]? = s.heap[a]? := fun a g1 g2 => by rw [hU]; exact hS.2.1 a g1 g2
  exact ⟨adK, adV, h1.warm hW, (h2.moved hW.alike).kept hq, (h3.moved hW.alike).kept hq⟩
theorem am_Sx.calling {B : Nat} {U : State} (g : JFrame) (mk : MethodId) (a : Array Value) (h : am_Sx B U) : am_Sx B (U.calling g mk a) := by
  obtain ⟨adK, adV, h1, h2, h3⟩ := h
  exact ⟨adK, adV, vk_R.same (u := U) rfl h1, vk_S.moved (u := U) (U := U.calling g mk a) (Vm.Alike.refl U.vm) h2, va_Z.moved (u := U) (U := U.calling g mk a) (Vm.Alike.refl U.vm) h3⟩
def am_Kn (B : Nat) (D : va_G) (dA : Nat → ClassId) (U : State) : Prop := va_K D am_cls (am_tys dA) U ∧ (∀ w ∈ am_nest, va_Nw w U) ∧ am_Sx B U
theorem am_Kn.warm {B : Nat} {D : va_G} {dA : Nat → ClassId} {s U : State} {H : Heap} {locs : List Loc} (hW : s.WarmedH U.vm) (hU : U.heap = H) (hS : va_S (fun q => B ≤ q) s.heap H locs) (h : am_Kn B D dA s) : am_Kn B D dA U := by
  refine ⟨va_K.moved hW.alike h.1, fun w hw => ?_, h.2.2.warm hW hU hS⟩
  have hn := (List.mem_filter.mp hw).2
  have h1 := h.2.1 w hw
  cases w <;> first | (exact va_Nw.warmF hW h1) | (exact va_Nw.warmM hW h1) | (cases hn)
def am_Lv (B : Nat) (ls : Array Slot) (nL : Nat) (L : am_L) : Prop := ls.size = nL ∧ lv_wf ls ∧ ∀ (i : Nat) (v : Value), L[i]? = some (some v) → ls[i]? = some (Slot.val (am_v B v))
def am_ll (B : Nat) (L : am_L) : List (Nat × Value) := (List.range L.length).filterMap fun i => match L[i]? with
  | some (some v) => some (i, am_v B v)
  | _ => none
theorem am_ll_mem {B : Nat} {L : am_L} {i : Nat} {v : Value} (h : L[i]? = some (some v)) : (i, am_v B v) ∈ am_ll B L := by
  refine List.mem_filterMap.mpr ⟨i, List.mem_range.mpr (List.getElem?_eq_some_iff.mp h).1, ?_⟩
  rw [h]
theorem am_Lv.has {B nL : Nat} {ls : Array Slot} {L : am_L} (h : am_Lv B ls nL L) : lv_has ls nL (am_ll B L) := by
  refine ⟨h.1, h.2.1, fun q hq => ?_⟩
  obtain ⟨i, -, hi⟩ := List.mem_filterMap.mp hq
  cases hL : L[i]? with
  | none => rw [hL] at hi; cases hi
  | some x =>
    cases x with
    | none => rw [hL] at hi; cases hi
    | some v =>
      rw [hL] at hi
      cases hi
      exact h.2.2 i v hL
/-- no long ends at the place i -/
def am_nl (L : am_L) (i : Nat) : Prop := ∀ (j : Nat) (v : Value), j + 1 = i → L[j]? = some (some v) → v.category ≠ 2
theorem am_Lv.store1 {B nL : Nat} {ls' : Array Slot} {L : am_L} {i : Nat} {v : Value} (hn : am_nl L i) (h : lv_has ls' nL ((i, am_v B v) :: (am_ll B L).filter (fun q => !(q.1 == i) && !(q.1 + 1 == i && q.2.category == 2)))) : am_Lv B ls' nL (L.set i (some v)) := by
  refine ⟨h.1, h.2.1, fun j w hj => ?_⟩
  by_cases hji : j = i
  · subst hji
    have hl : j < L.length := by have := (List.getElem?_eq_some_iff.mp hj).1; simpa using this
    rw [List.getElem?_set_self hl] at hj
    cases hj
    exact h.2.2 _ List.mem_cons_self
  · rw [List.getElem?_set_ne (fun q => hji q.symm)] at hj
    refine h.2.2 (j, am_v B w) (List.mem_cons_of_mem _ (List.mem_filter.mpr ⟨am_ll_mem hj, ?_⟩))
    by_cases h1 : j + 1 = i
    · have h2 := hn j w h1 hj
      rw [← am_v_cat B] at h2
      simp [hji, h2]
    · simp [hji, h1]
theorem am_Lv.store2 {B nL : Nat} {ls' : Array Slot} {L : am_L} {i : Nat} {v : Value} (hn : am_nl L i) (h : lv_has ls' nL ((i, am_v B v) :: (am_ll B L).filter (fun q => !(q.1 == i) && (!(q.1 == i + 1) && !(q.1 + 1 == i && q.2.category == 2))))) : am_Lv B ls' nL ((L.set i (some v)).set (i + 1) none) := by
  refine ⟨h.1, h.2.1, fun j w hj => ?_⟩
  by_cases hj1 : j = i + 1
  · subst hj1
    have hl : i + 1 < (L.set i (some v)).length := by have := (List.getElem?_eq_some_iff.mp hj).1; simpa using this
    rw [List.getElem?_set_self hl] at hj
    cases hj
  · rw [List.getElem?_set_ne (fun q => hj1 q.symm)] at hj
    by_cases hji : j = i
    · subst hji
      have hl : j < L.length := by have := (List.getElem?_eq_some_iff.mp hj).1; simpa using this
      rw [List.getElem?_set_self hl] at hj
      cases hj
      exact h.2.2 _ List.mem_cons_self
    · rw [List.getElem?_set_ne (fun q => hji q.symm)] at hj
      refine h.2.2 (j, am_v B w) (List.mem_cons_of_mem _ (List.mem_filter.mpr ⟨am_ll_mem hj, ?_⟩))
      by_cases h1 : j + 1 = i
      · have h2 := hn j w h1 hj
        rw [← am_v_cat B] at h2
        simp [hji, hj1, h2]
      · simp [hji, h1, hj1]
theorem am_Lv.forget {B nL : Nat} {ls : Array Slot} {L L' : am_L} (h : am_Lv B ls nL L) (hL : ∀ (i : Nat) (v : Value), L'[i]? = some (some v) → L[i]? = some (some v)) : am_Lv B ls nL L' := ⟨h.1, h.2.1, fun i v hi => h.2.2 i v (hL i v hi)⟩
/-! ===== a method, and what is known in its frame ===== -/
/-- name, code, locals, result, frames below, locals' words below -/
abbrev am_MI : Type := MethodName × ByteArray × Nat × Option FieldType × Nat × Nat
def am_C (M : am_MI) (p : Program) (s : State) (m : MethodId) (args : Array Value) (meth : Method) (c : Code) : Prop :=
  p.tables.exec = Jvm.exec ∧ c.code = M.2.1 ∧ c.maxLocals = M.2.2.1 ∧ s.vm.findClass M.1.cls = some m.cls ∧ (∀ w ∈ am_tbl, w.before args s = true) ∧ meth.locks = false ∧ meth.sig.returnType = M.2.2.2.1 ∧ meth.name = M.1.name
def am_Q (B : Nat) (D : va_G) (dA : Nat → ClassId) (r : am_R) : Array Value → State → Outcome → State → Prop := fun _ st o t => o = .returned (r.1.map (am_v B)) ∧ am_Wd B D dA r.2 t.heap ∧ va_F (fun q => B ≤ q) st t
/-- a frame's whole surroundings -/
def am_X (M : am_MI) (L : am_L) (h : am_H) (r : am_R) (p : Program) (R : Room) (s : State) (m : MethodId) (args : Array Value) (meth : Method) (c : Code) (B N0 S0 : Nat) (D : va_G) (dA : Nat → ClassId) (H : Heap) (locs : List Loc) (ls : Array Slot) : Prop :=
  am_C M p s m args meth c ∧ (R.frames = M.2.2.2.2.1 ∧ R.locals = M.2.2.2.2.2 ∧ R.cells = r.2.1 - N0 ∧ R.slots = r.2.2.1 - S0) ∧ (N0 ≤ h.1 ∧ S0 ≤ h.2.1 ∧ B ≤ s.heap.size) ∧ am_Kn B D dA s ∧ am_Wd B D dA h H ∧ va_S (fun q => B ≤ q) s.heap H locs ∧ am_Lv B ls M.2.2.1 L
def am_Good (M : am_MI) (pc : Nat) (L : am_L) (st : List Value) (h : am_H) (r : am_R) : Prop :=
  (h.1 ≤ r.2.1 ∧ h.2.1 ≤ r.2.2.1) ∧
  ∀ (p : Program) (l : Launch) (e : Env) (R : Room) (s : State) (m : MethodId) (args : Array Value) (below : List Frame) (meth : Method) (c : Code) (B N0 S0 : Nat) (D : va_G) (dA : Nat → ClassId) (H : Heap) (locs : List Loc) (ls : Array Slot),
    am_X M L h r p R s m args meth c B N0 S0 D dA H locs ls →
    W p l e R s m args below meth c H locs (h.1 - N0) (h.2.1 - S0) (MQ below (am_Q B D dA r) args s (r.2.1 - N0) (r.2.2.1 - S0) (fun q => B ≤ q)) (F0 m pc ls (st.map (am_v B)))
/-- the contract of a method at these arguments and this heap -/
def am_EG (M : am_MI) (as : List Value) (h : am_H) (r : am_R) : Prop :=
  (h.1 ≤ r.2.1 ∧ h.2.1 ≤ r.2.2.1) ∧ ∀ (l : Launch) (B : Nat) (D : va_G) (dA : Nat → ClassId), Met l M.1 (Cond.code M.1 M.2.1 M.2.2.1 M.2.2.2.1 :: am_tbl) { frames := M.2.2.2.2.1, cells := r.2.1 - h.1, slots := r.2.2.1 - h.2.1, locals := M.2.2.2.2.2 } (va_Pc (as.map (am_v B)) (fun U => B ≤ U.heap.size ∧ am_Wd B D dA h U.heap ∧ am_Kn B D dA U)) (am_Q B D dA r) (r.2.1 - h.1) (r.2.2.1 - h.2.1) (fun q => B ≤ q)
/-- one step that changes locals and stack alone -/
theorem am_Good.go {M : am_MI} {pc pc' : Nat} {L L' : am_L} {st st' : List Value} {h : am_H} {r : am_R} (hg : am_Good M pc' L' st' h r)
    (hs : ∀ (p : Program) (l : Launch) (e : Env) (R : Room) (s : State) (m : MethodId) (args : Array Value) (below : List Frame) (meth : Method) (c : Code) (B N0 S0 : Nat) (D : va_G) (dA : Nat → ClassId) (H : Heap) (locs : List Loc) (ls : Array Slot) (Q : State → Prop),
      am_X M L h r p R s m args meth c B N0 S0 D dA H locs ls → (∀ ls' : Array Slot, am_Lv B ls' M.2.2.1 L' → W p l e R s m args below meth c H locs (h.1 - N0) (h.2.1 - S0) Q (F0 m pc' ls' (st'.map (am_v B)))) → W p l e R s m args below meth c H locs (h.1 - N0) (h.2.1 - S0) Q (F0 m pc ls (st.map (am_v B)))) : am_Good M pc L st h r := by
  refine ⟨hg.1, fun p l e R s m args below meth c B N0 S0 D dA H locs ls X => ?_⟩
  refine hs p l e R s m args below meth c B N0 S0 D dA H locs ls _ X fun ls' hL => ?_
  obtain ⟨x1, x2, x3, x4, x5, x6, x7⟩ := X
  exact hg.2 p l e R s m args below meth c B N0 S0 D dA H locs ls' ⟨x1, x2, x3, x4, x5, x6, hL⟩
/-- one step that changes a cell -/
theorem am_Good.put {M : am_MI} {pc pc' : Nat} {L : am_L} {st st' : List Value} {h : am_H} {r : am_R} {a : Nat} {x : am_E} (hg : am_Good M pc' L st' (am_upd h a x) r)
    (hs : ∀ (p : Program) (l : Launch) (e : Env) (R : Room) (s : State) (m : MethodId) (args : Array Value) (below : List Frame) (meth : Method) (c : Code) (B N0 S0 : Nat) (D : va_G) (dA : Nat → ClassId) (H : Heap) (locs : List Loc) (ls : Array Slot) (Q : State → Prop),
      am_X M L h r p R s m args meth c B N0 S0 D dA H locs ls → (∀ (H1 : Heap) (locs1 : List Loc), am_Wd B D dA (am_upd h a x) H1 → va_S (fun q => B ≤ q) s.heap H1 locs1 → W p l e R s m args below meth c H1 locs1 (h.1 - N0) (h.2.1 - S0) Q (F0 m pc' ls (st'.map (am_v B)))) → W p l e R s m args below meth c H locs (h.1 - N0) (h.2.1 - S0) Q (F0 m pc ls (st.map (am_v B)))) : am_Good M pc L st h r := by
  refine ⟨hg.1, fun p l e R s m args below meth c B N0 S0 D dA H locs ls X => ?_⟩
  refine hs p l e R s m args below meth c B N0 S0 D dA H locs ls _ X fun H1 locs1 hw hS => ?_
  obtain ⟨x1, x2, x3, x4, x5, x6, x7⟩ := X
  exact hg.2 p l e R s m args below meth c B N0 S0 D dA H1 locs1 ls ⟨x1, x2, x3, x4, hw, hS, x7⟩
/-- one step that makes a cell -/
theorem am_Good.make {M : am_MI} {pc pc' : Nat} {L : am_L} {st st' : List Value} {h h' : am_H} {r : am_R} {n : Nat} {x : am_E} (hn : am_New h h' n x) (hg : am_Good M pc' L st' h' r)
    (hs : ∀ (p : Program) (l : Launch) (e : Env) (R : Room) (s : State) (m : MethodId) (args : Array Value) (below : List Frame) (meth : Method) (c : Code) (B N0 S0 : Nat) (D : va_G) (dA : Nat → ClassId) (H : Heap) (locs : List Loc) (ls : Array Slot) (Q : State → Prop),
      am_X M L h r p R s m args meth c B N0 S0 D dA H locs ls → (h.1 - N0) + 1 ≤ R.cells → (h.2.1 - S0) + n ≤ R.slots → (∀ (H1 : Heap), va_at D am_cls (B + h.1, am_e B dA x) H1 → H1.size = H.size + 1 → (∀ q : Nat, q < H.size → H1[q]? = H[q]?) → W p l e R s m args below meth c H1 locs ((h.1 - N0) + 1) ((h.2.1 - S0) + n) Q (F0 m pc' ls (st'.map (am_v B)))) → W p l e R s m args below meth c H locs (h.1 - N0) (h.2.1 - S0) Q (F0 m pc ls (st.map (am_v B)))) : am_Good M pc L st h r := by
  have e1 := hn.1
  have e2 := hn.2.1
  have g1 := hg.1.1
  have g2 := hg.1.2
  refine ⟨⟨by omega, by omega⟩, fun p l e R s m args below meth c B N0 S0 D dA H locs ls X => ?_⟩
  obtain ⟨x1, x2, x3, x4, x5, x6, x7⟩ := X
  have c1 := x2.2.2.1
  have c2 := x2.2.2.2
  have d1 := x3.1
  have d2 := x3.2.1
  refine hs p l e R s m args below meth c B N0 S0 D dA H locs ls _ ⟨x1, x2, x3, x4, x5, x6, x7⟩ (by omega) (by omega) fun H1 hw hz hq => ?_
  have hS : va_S (fun q => B ≤ q) s.heap H1 locs := ⟨Nat.le_trans x6.1 (by omega), fun q h1 h2 => (hq q (Nat.lt_of_lt_of_le h1 x6.1)).trans (x6.2.1 q h1 h2), x6.2.2⟩
  have hk := hg.2 p l e R s m args below meth c B N0 S0 D dA H1 locs ls ⟨x1, x2, ⟨by omega, by omega, x3.2.2⟩, x4, x5.new hn hw hz hq, hS, x7⟩
  rw [show h'.1 - N0 = h.1 - N0 + 1 by omega, show h'.2.1 - S0 = h.2.1 - S0 + n by omega] at hk
  exact hk
/-- into a method -/
theorem am_args1 (B : Nat) : ∀ (as : List Value) (i : Nat), (∀ v ∈ as, v.category = 1) → ∀ (j : Nat) (v : Value), as[j]? = some v → (i + j, am_v B v) ∈ lv_args i (as.map (am_v B))
  | [], i, _, j, v, h => by cases h
  | a :: as, i, hc, 0, v, h => by
    cases h
    exact List.mem_cons_self
  | a :: as, i, hc, j + 1, v, h => by
    have h1 : (am_v B a).category = 1 := by rw [am_v_cat]; exact hc a List.mem_cons_self
    have h2 := am_args1 B as (i + 1) (fun v hv => hc v (List.mem_cons_of_mem _ hv)) j v h
    refine List.mem_cons_of_mem _ ?_
    rw [if_neg (by rw [h1]; decide)]
    rw [show i + (j + 1) = i + 1 + j by omega]
    exact h2
theorem am_sl1 : ∀ (as : List Value), (∀ v ∈ as, v.category = 1) → (lg_sl as).length = as.length
  | [], _ => rfl
  | a :: as, h => by
    have h1 := h a List.mem_cons_self
    have h2 := am_sl1 as (fun v hv => h v (List.mem_cons_of_mem _ hv))
    unfold lg_sl at h2 ⊢
    rw [List.flatMap_cons, if_neg (by rw [h1]; decide), List.length_append, h2]
    simp
    omega
theorem am_enter {M : am_MI} {as : List Value} {n : Nat} {h : am_H} {r : am_R} (hy : plainName M.1.cls = true) (hc : ∀ v ∈ as, v.category = 1) (hl : as.length ≤ M.2.2.1) (hg : am_Good M 0 (as.map some ++ List.replicate n none) [] h r) : am_EG M as h r := by
  refine ⟨hg.1, fun l B D dA => ?_⟩
  refine Met.ofW (cc := M.2.1) (maxL := M.2.2.1) (ret := M.2.2.2.1) hy rfl ?_
  intro p e s m args below meth c s₁ BL hml hv
  obtain ⟨rfl, hB, hw, hK⟩ := hv
  have hc2 : ∀ v ∈ as.map (am_v B), v.category = 1 := fun v hv => by
    obtain ⟨u, hu, rfl⟩ := List.mem_map.mp hv
    rw [am_v_cat]
    exact hc u hu
  have hsl := am_sl1 _ hc2
  have hts := atoms_spec (ws := Cond.code M.1 M.2.1 M.2.2.1 M.2.2.2.1 :: am_tbl) BL.pre
  have hE := lv_entry (as.map (am_v B)) (n := M.2.2.1) (by rw [hsl, List.length_map]; exact hl)
  rw [lg_entry_eq]
  generalize (lg_sl (as.map (am_v B)) ++ List.replicate (M.2.2.1 - (lg_sl (as.map (am_v B))).length) Slot.unset).toArray = ls at hE ⊢
  have hLv : am_Lv B ls M.2.2.1 (as.map some ++ List.replicate n none) := by
    refine ⟨hE.1, hE.2.1, fun i v hi => ?_⟩
    by_cases hil : i < (as.map some).length
    · rw [List.getElem?_append_left hil, List.getElem?_map] at hi
      cases ha : as[i]? with
      | none => rw [ha] at hi; cases hi
      | some u =>
        rw [ha] at hi
        cases hi
        have h1 := hE.2.2 _ (am_args1 B as 0 hc i v ha)
        simpa using h1
    · rw [List.getElem?_append_right (by omega)] at hi
      have := List.eq_of_mem_replicate (List.mem_of_getElem? hi)
      cases this
  have hk := hg.2 p l e (headSpec (Cond.code M.1 M.2.1 M.2.2.1 M.2.2.2.1 :: am_tbl) { frames := M.2.2.2.2.1, cells := r.2.1 - h.1, slots := r.2.2.1 - h.2.1, locals := M.2.2.2.2.2 }).room s m (as.map (am_v B)).toArray below meth c B h.1 h.2.1 D dA s.heap [] ls ⟨⟨BL.exec, BL.bytes, hml, findClass_of_methodNamed BL.named, fun w hw => hts w (List.mem_cons_of_mem _ hw), BL.notSynchronized, BL.returns, (name_of_methodNamed BL.named BL.method).1⟩, ⟨rfl, rfl, rfl, rfl⟩, ⟨Nat.le_refl _, Nat.le_refl _, hB⟩, hK, hw, va_S.rf, hLv⟩
  rw [Nat.sub_self, Nat.sub_self] at hk
  exact hk
