theorem wf_14 : (Jvm.Cond.initialized "java/lang/String") ∈ am_tbl := am_tbl_t (List.mem_append_left _ (List.mem_of_getElem? (l := tables_1_1) (i := 14) rfl)) rfl
theorem wf_15 : (Jvm.Cond.initialized "java/lang/StringLatin1") ∈ am_tbl := am_tbl_t (List.mem_append_left _ (List.mem_of_getElem? (l := tables_1_1) (i := 15) rfl)) rfl
theorem wf_336 : (Jvm.Cond.instanceMethod ({ cls := "java/lang/String", name := "toCharArray", desc := "()[C" } : Jvm.MethodName)) ∈ am_tbl := am_tbl_t (List.mem_append_right _ (List.mem_append_left _ (List.mem_of_getElem? (l := tables_1_2) (i := 96) rfl))) rfl
theorem wf_337 : (Jvm.Cond.selects "java/lang/String" ({ cls := "java/lang/String", name := "toCharArray", desc := "()[C" } : Jvm.MethodName) ({ cls := "java/lang/String", name := "toCharArray", desc := "()[C" } : Jvm.MethodName)) ∈ am_tbl := am_tbl_t (List.mem_append_right _ (List.mem_append_left _ (List.mem_of_getElem? (l := tables_1_2) (i := 97) rfl))) rfl
theorem wf_338 : (Jvm.Cond.code ({ cls := "java/lang/String", name := "toCharArray", desc := "()[C" } : Jvm.MethodName) prog_17_method_129_code (1 : Nat) (Option.some (Jvm.ClassFile.FieldType.array Jvm.ClassFile.FieldType.char))) ∈ am_tbl := am_tbl_t (List.mem_append_right _ (List.mem_append_left _ (List.mem_of_getElem? (l := tables_1_2) (i := 98) rfl))) rfl
theorem wf_339 : (Jvm.Cond.methodLink "java/lang/String" (492 : Nat) ({ cls := "java/lang/String", name := "isLatin1", desc := "()Z" } : Jvm.MethodName)) ∈ am_tbl := am_tbl_t (List.mem_append_right _ (List.mem_append_left _ (List.mem_of_getElem? (l := tables_1_2) (i := 99) rfl))) rfl
theorem wf_340 : (Jvm.Cond.instanceMethod ({ cls := "java/lang/String", name := "isLatin1", desc := "()Z" } : Jvm.MethodName)) ∈ am_tbl := am_tbl_t (List.mem_append_right _ (List.mem_append_left _ (List.mem_of_getElem? (l := tables_1_2) (i := 100) rfl))) rfl
theorem wf_341 : (Jvm.Cond.selects "java/lang/String" ({ cls := "java/lang/String", name := "isLatin1", desc := "()Z" } : Jvm.MethodName) ({ cls := "java/lang/String", name := "isLatin1", desc := "()Z" } : Jvm.MethodName)) ∈ am_tbl := am_tbl_t (List.mem_append_right _ (List.mem_append_left _ (List.mem_of_getElem? (l := tables_1_2) (i := 101) rfl))) rfl
theorem wf_342 : (Jvm.Cond.code ({ cls := "java/lang/String", name := "isLatin1", desc := "()Z" } : Jvm.MethodName) prog_17_method_154_code (1 : Nat) (Option.some Jvm.ClassFile.FieldType.boolean)) ∈ am_tbl := am_tbl_t (List.mem_append_right _ (List.mem_append_left _ (List.mem_of_getElem? (l := tables_1_2) (i := 102) rfl))) rfl
theorem wf_343 : (Jvm.Cond.fieldLink "java/lang/String" (38 : Nat) "java/lang/String" "COMPACT_STRINGS" "Z") ∈ am_tbl := am_tbl_t (List.mem_append_right _ (List.mem_append_left _ (List.mem_of_getElem? (l := tables_1_2) (i := 103) rfl))) rfl
theorem wf_345 : (Jvm.Cond.methodLink "java/lang/String" (299 : Nat) ({ cls := "java/lang/StringLatin1", name := "toChars", desc := "([B)[C" } : Jvm.MethodName)) ∈ am_tbl := am_tbl_t (List.mem_append_right _ (List.mem_append_left _ (List.mem_of_getElem? (l := tables_1_2) (i := 105) rfl))) rfl
theorem wf_346 : (Jvm.Cond.static ({ cls := "java/lang/StringLatin1", name := "toChars", desc := "([B)[C" } : Jvm.MethodName)) ∈ am_tbl := am_tbl_t (List.mem_append_right _ (List.mem_append_left _ (List.mem_of_getElem? (l := tables_1_2) (i := 106) rfl))) rfl
theorem wf_347 : (Jvm.Cond.code ({ cls := "java/lang/StringLatin1", name := "toChars", desc := "([B)[C" } : Jvm.MethodName) prog_18_method_9_code (2 : Nat) (Option.some (Jvm.ClassFile.FieldType.array Jvm.ClassFile.FieldType.char))) ∈ am_tbl := am_tbl_t (List.mem_append_right _ (List.mem_append_left _ (List.mem_of_getElem? (l := tables_1_2) (i := 107) rfl))) rfl
theorem wf_348 : (Jvm.Cond.methodLink "java/lang/StringLatin1" (13 : Nat) ({ cls := "java/lang/StringLatin1", name := "inflate", desc := "([BI[CII)V" } : Jvm.MethodName)) ∈ am_tbl := am_tbl_t (List.mem_append_right _ (List.mem_append_left _ (List.mem_of_getElem? (l := tables_1_2) (i := 108) rfl))) rfl
theorem wf_349 : (Jvm.Cond.static ({ cls := "java/lang/StringLatin1", name := "inflate", desc := "([BI[CII)V" } : Jvm.MethodName)) ∈ am_tbl := am_tbl_t (List.mem_append_right _ (List.mem_append_left _ (List.mem_of_getElem? (l := tables_1_2) (i := 109) rfl))) rfl
theorem wf_350 : (Jvm.Cond.code ({ cls := "java/lang/StringLatin1", name := "inflate", desc := "([BI[CII)V" } : Jvm.MethodName) prog_18_method_49_code (6 : Nat) (Option.none : Option Jvm.ClassFile.FieldType)) ∈ am_tbl := am_tbl_t (List.mem_append_right _ (List.mem_append_left _ (List.mem_of_getElem? (l := tables_1_2) (i := 110) rfl))) rfl
theorem wf_1413 : (Jvm.Cond.fieldLink "java/lang/String" (15 : Nat) "java/lang/String" "coder" "B") ∈ am_tbl := am_tbl_t (List.mem_append_right _ (List.mem_append_right _ (List.mem_append_right _ (List.mem_append_right _ (List.mem_append_right _ (List.mem_of_getElem? (l := tables_1_6) (i := 213) rfl)))))) rfl
theorem wf_1414 : (Jvm.Cond.fieldLink "java/lang/String" (9 : Nat) "java/lang/String" "value" "[B") ∈ am_tbl := am_tbl_t (List.mem_append_right _ (List.mem_append_right _ (List.mem_append_right _ (List.mem_append_right _ (List.mem_append_right _ (List.mem_of_getElem? (l := tables_1_6) (i := 214) rfl)))))) rfl
/-! ===== the first text as an array of chars: ldc, String.toCharArray ===== -/
def am_SxA (B : Nat) (adK adV : Nat → Nat) (U : State) : Prop := vk_S 1 [73] [am_fby] adK adV (fun q => B ≤ q) U U.heap ∧ va_Z "java/lang/String" "COMPACT_STRINGS" "Z" (.int 1) (fun q => B ≤ q) U U.heap
theorem am_SxA.warm {B : Nat} {adK adV : Nat → Nat} {s U : State} {H : Heap} {locs : List Loc} (hW : s.WarmedH U.vm) (hU : U.heap = H) (hS : va_S (fun q => B ≤ q) s.heap H locs) (h : am_SxA B adK adV s) : am_SxA B adK adV U := by
  have hq : ∀ a : Nat, a < s.heap.size → ¬ (fun q => B ≤ q) a → U.heap[a]? = s.heap[a]? := fun a g1 g2 => by rw [hU]; exact hS.2.1 a g1 g2
  exact ⟨(h.1.moved hW.alike).kept hq, (h.2.moved hW.alike).kept hq⟩
theorem am_SxA.calling {B : Nat} {adK adV : Nat → Nat} {U : State} (g : JFrame) (mk : MethodId) (a : Array Value) (h : am_SxA B adK adV U) : am_SxA B adK adV (U.calling g mk a) :=
  ⟨vk_S.moved (u := U) (U := U.calling g mk a) (Vm.Alike.refl U.vm) h.1, va_Z.moved (u := U) (U := U.calling g mk a) (Vm.Alike.refl U.vm) h.2⟩
def y_inf : MethodName := ⟨"java/lang/StringLatin1", "inflate", "([BI[CII)V"⟩
def y_tcs : MethodName := ⟨"java/lang/StringLatin1", "toChars", "([B)[C"⟩
def y_isl : MethodName := ⟨"java/lang/String", "isLatin1", "()Z"⟩
def y_tca : MethodName := ⟨"java/lang/String", "toCharArray", "()[C"⟩
def am_tx : Nat → Nat
  | 0 => 0
  | k + 1 => am_as (am_tx k) k (am_ag am_txt k)
theorem am_tx_ag : ∀ (k j : Nat), am_ag (am_tx k) j = if j < k then am_ag am_txt j else 0
  | 0, j => by simp [am_tx, am_ag]
  | k + 1, j => by
    show am_ag (am_as (am_tx k) k (am_ag am_txt k)) j = _
    rw [am_ag_as, am_tx_ag k j]
    by_cases h1 : j = k
    · subst h1
      rw [if_pos rfl, if_pos (by omega), Nat.mod_eq_of_lt (am_ag_lt _ _)]
    · rw [if_neg h1]
      by_cases h2 : j < k
      · rw [if_pos h2, if_pos (by omega)]
      · rw [if_neg h2, if_neg (by omega)]
theorem am_txt_lt : am_txt < 2 ^ (32 * 73) := by decide +kernel
theorem am_tx_73 : am_tx 73 = am_txt := by
  apply am_ag_ext
  intro j
  rw [am_tx_ag]
  by_cases h : j < 73
  · rw [if_pos h]
  · rw [if_neg h, am_ag_big am_txt_lt (by omega)]
theorem am_by_all : ∀ k, k < 73 → ((am_fby.getD k 0 &&& 255).toUInt32 % 65536).toInt32 = Int32.ofNat (am_ag am_txt k) ∧ am_ag am_txt k < 65536 := by decide +kernel
/-- behind a call, raw -/
theorem am_callG {p : Program} {l : Launch} {e : Env} {R : Room} {s : State} {m : MethodId} {args : Array Value} {below : List Frame} {meth : Method} {c : Code} {H : Heap} {locs : List Loc} {cells slots : Nat} {Q : State → Prop} {pc mc ms B : Nat} {ls : Array Slot} {st rest : List Value} {Qa : State → Outcome → State → Prop}
    (hrun : va_Run p l e R s m args below meth c H locs cells slots mc ms (F0 m pc ls st) rest Qa (fun q => B ≤ q)) (hS : va_S (fun q => B ≤ q) s.heap H locs)
    (hkeep : ∀ (st0 : State) (v : Option Value) (t : State), st0.heap = H → Qa st0 (.returned v) t → H.size ≤ t.heap.size ∧ ∀ q : Nat, q < H.size → ¬ B ≤ q → t.heap[q]? = H[q]?)
    (kk : ∀ (st0 : State) (v : Option Value) (t : State) (locs1 : List Loc), st0.heap = H → Qa st0 (.returned v) t → va_S (fun q => B ≤ q) s.heap t.heap locs1 → W p l e R s m args below meth c t.heap locs1 (cells + mc) (slots + ms) Q (F0 m (pc + 3) ls (v.toList ++ rest))) : W p l e R s m args below meth c H locs cells slots Q (F0 m pc ls st) := by
  intro T hT ST
  obtain ⟨v, st₀, t, T', L', h0, X', hL', e3, e4, hq, go⟩ := hrun T hT ST
  obtain ⟨k1, k2⟩ := hkeep st₀ v t h0 hq
  have hS1 : va_S (fun q => B ≤ q) s.heap t.heap (locs ++ L') := by
    refine ⟨Nat.le_trans hS.1 k1, fun q h1 h2 => ?_, fun q hq => ?_⟩
    · rw [k2 q (Nat.lt_of_lt_of_le h1 hS.1) h2]
      exact hS.2.1 q h1 h2
    · rcases List.mem_append.mp hq with z | z
      · exact hS.2.2 q z
      · exact hL' q z
  obtain ⟨t2, a1, b1⟩ := kk st₀ v t (locs ++ L') h0 hq hS1 T' e3 X'
  exact ⟨t2, go t2 a1, b1⟩
theorem di_0 : decode prog_18_method_49_code 0 = .ok (.iconst 0, 1) := by decide +kernel
theorem di_1 : decode prog_18_method_49_code 1 = .ok (.istore 5, 2) := by decide +kernel
theorem di_3 : decode prog_18_method_49_code 3 = .ok (.iload 5, 2) := by decide +kernel
theorem di_5 : decode prog_18_method_49_code 5 = .ok (.iload 4, 2) := by decide +kernel
theorem di_7 : decode prog_18_method_49_code 7 = .ok (.if_icmp .ge 26, 3) := by decide +kernel
theorem di_10 : decode prog_18_method_49_code 10 = .ok (.aload_n 2, 1) := by decide +kernel
theorem di_11 : decode prog_18_method_49_code 11 = .ok (.iload_n 3, 1) := by decide +kernel
theorem di_12 : decode prog_18_method_49_code 12 = .ok (.iinc 3 1, 3) := by decide +kernel
theorem di_15 : decode prog_18_method_49_code 15 = .ok (.aload_n 0, 1) := by decide +kernel
theorem di_16 : decode prog_18_method_49_code 16 = .ok (.iload_n 1, 1) := by decide +kernel
theorem di_17 : decode prog_18_method_49_code 17 = .ok (.iinc 1 1, 3) := by decide +kernel
theorem di_20 : decode prog_18_method_49_code 20 = .ok (.baload, 1) := by decide +kernel
theorem di_21 : decode prog_18_method_49_code 21 = .ok (.sipush 255, 3) := by decide +kernel
theorem di_24 : decode prog_18_method_49_code 24 = .ok (.iand, 1) := by decide +kernel
theorem di_25 : decode prog_18_method_49_code 25 = .ok (.i2c, 1) := by decide +kernel
theorem di_26 : decode prog_18_method_49_code 26 = .ok (.castore, 1) := by decide +kernel
theorem di_27 : decode prog_18_method_49_code 27 = .ok (.iinc 5 1, 3) := by decide +kernel
theorem di_30 : decode prog_18_method_49_code 30 = .ok (.goto (-27), 3) := by decide +kernel
theorem di_33 : decode prog_18_method_49_code 33 = .ok (.return_, 1) := by decide +kernel
theorem dt_0 : decode prog_18_method_9_code 0 = .ok (.aload_n 0, 1) := by decide +kernel
theorem dt_1 : decode prog_18_method_9_code 1 = .ok (.arraylength, 1) := by decide +kernel
theorem dt_2 : decode prog_18_method_9_code 2 = .ok (.newarray .char, 2) := by decide +kernel
theorem dt_4 : decode prog_18_method_9_code 4 = .ok (.astore_n 1, 1) := by decide +kernel
theorem dt_5 : decode prog_18_method_9_code 5 = .ok (.aload_n 0, 1) := by decide +kernel
theorem dt_6 : decode prog_18_method_9_code 6 = .ok (.iconst 0, 1) := by decide +kernel
theorem dt_7 : decode prog_18_method_9_code 7 = .ok (.aload_n 1, 1) := by decide +kernel
theorem dt_8 : decode prog_18_method_9_code 8 = .ok (.iconst 0, 1) := by decide +kernel
theorem dt_9 : decode prog_18_method_9_code 9 = .ok (.aload_n 0, 1) := by decide +kernel
theorem dt_10 : decode prog_18_method_9_code 10 = .ok (.arraylength, 1) := by decide +kernel
theorem dt_11 : decode prog_18_method_9_code 11 = .ok (.invokestatic 13, 3) := by decide +kernel
theorem dt_14 : decode prog_18_method_9_code 14 = .ok (.aload_n 1, 1) := by decide +kernel
theorem dt_15 : decode prog_18_method_9_code 15 = .ok (.areturn, 1) := by decide +kernel
theorem ds_0 : decode prog_17_method_154_code 0 = .ok (.getstatic 38, 3) := by decide +kernel
theorem ds_3 : decode prog_17_method_154_code 3 = .ok (.ifCond .eq 14, 3) := by decide +kernel
theorem ds_6 : decode prog_17_method_154_code 6 = .ok (.aload_n 0, 1) := by decide +kernel
theorem ds_7 : decode prog_17_method_154_code 7 = .ok (.getfield 15, 3) := by decide +kernel
theorem ds_10 : decode prog_17_method_154_code 10 = .ok (.ifCond .ne 7, 3) := by decide +kernel
theorem ds_13 : decode prog_17_method_154_code 13 = .ok (.iconst 1, 1) := by decide +kernel
theorem ds_14 : decode prog_17_method_154_code 14 = .ok (.goto 4, 3) := by decide +kernel
theorem ds_17 : decode prog_17_method_154_code 17 = .ok (.iconst 0, 1) := by decide +kernel
theorem ds_18 : decode prog_17_method_154_code 18 = .ok (.ireturn, 1) := by decide +kernel
theorem dc_0 : decode prog_17_method_129_code 0 = .ok (.aload_n 0, 1) := by decide +kernel
theorem dc_1 : decode prog_17_method_129_code 1 = .ok (.invokevirtual 492, 3) := by decide +kernel
theorem dc_4 : decode prog_17_method_129_code 4 = .ok (.ifCond .eq 13, 3) := by decide +kernel
theorem dc_7 : decode prog_17_method_129_code 7 = .ok (.aload_n 0, 1) := by decide +kernel
theorem dc_8 : decode prog_17_method_129_code 8 = .ok (.getfield 9, 3) := by decide +kernel
theorem dc_11 : decode prog_17_method_129_code 11 = .ok (.invokestatic 299, 3) := by decide +kernel
theorem dc_14 : decode prog_17_method_129_code 14 = .ok (.goto 10, 3) := by decide +kernel
theorem dc_17 : decode prog_17_method_129_code 17 = .ok (.aload_n 0, 1) := by decide +kernel
theorem dc_18 : decode prog_17_method_129_code 18 = .ok (.getfield 9, 3) := by decide +kernel
theorem dc_21 : decode prog_17_method_129_code 21 = .ok (.invokestatic 303, 3) := by decide +kernel
theorem dc_24 : decode prog_17_method_129_code 24 = .ok (.areturn, 1) := by decide +kernel
theorem dd_ft0 : decode prog_1_method_1_code 185 = .ok (.ldc 104, 2) := by decide +kernel
theorem dd_ft1 : decode prog_1_method_1_code 187 = .ok (.invokevirtual 106, 3) := by decide +kernel
set_option maxHeartbeats 4000000 in
theorem mt_inf (l : Launch) (B : Nat) (adK adV : Nat → Nat) (cA : ClassId) (qd : Nat) (hq : B ≤ qd) : Met l y_inf (Cond.code y_inf prog_18_method_49_code 6 none :: am_tbl) { frames := 0, cells := 0, slots := 0, locals := 0 } (va_Pc [.ref (adV 0), .int 0, .ref qd, .int 0, .int 73] (fun U => am_SxA B adK adV U ∧ ArrOfT U cA .char ∧ U.heap[qd]? = some (arrV cA 73 (fun j => .int (Int32.ofNat (am_ag 0 j)))))) (fun _ st o t => o = .returned none ∧ t.heap[qd]? = some (arrV cA 73 (fun j => .int (Int32.ofNat (am_ag am_txt j)))) ∧ t.heap.size = st.heap.size ∧ ∀ q : Nat, q ≠ qd → t.heap[q]? = st.heap[q]?) 0 0 (fun q => B ≤ q) := by
  refine Met.ofW (cc := prog_18_method_49_code) (maxL := 6) (ret := none) (by decide) rfl ?_
  intro p e s m args below meth c s₁ BL hml hv
  obtain ⟨rfl, hSx, hAr, hcell⟩ := hv
  have hx := BL.exec
  have hb := BL.bytes
  have hr := BL.returns
  have hlocks := BL.notSynchronized
  have hl := lv_entry ([.ref (adV 0), .int 0, .ref qd, .int 0, .int 73]) (n := 6) (Nat.le_of_ble_eq_true rfl)
  rw [lg_entry_eq]
  generalize (lg_sl ([.ref (adV 0), .int 0, .ref qd, .int 0, .int 73]) ++ List.replicate (6 - (lg_sl ([.ref (adV 0), .int 0, .ref qd, .int 0, .int 73])).length) Slot.unset).toArray = ls at hl ⊢
  have hl : lv_has ls 6 [(0, .ref (adV 0)), (1, .int 0), (2, .ref qd), (3, .int 0), (4, .int 73)] := hl
  have hT := (hSx.1.1 0 (by decide)).2.2.2
  have loop : ∀ (n k : Nat), k + n = 73 → ∀ (H : Heap) (locs : List Loc) (ls : Array Slot), H[qd]? = some (arrV cA 73 (fun j => .int (Int32.ofNat (am_ag (am_tx k) j)))) → H.size = s.heap.size → (∀ q : Nat, q ≠ qd → H[q]? = s.heap[q]?) → va_S (fun q => B ≤ q) s.heap H locs → lv_has ls 6 [(0, .ref (adV 0)), (1, .int (Int32.ofNat k)), (2, .ref qd), (3, .int (Int32.ofNat k)), (4, .int 73), (5, .int (Int32.ofNat k))] → W p l e (headSpec (Cond.code y_inf prog_18_method_49_code 6 none :: am_tbl) { frames := 0, cells := 0, slots := 0, locals := 0 }).room s m ([.ref (adV 0), .int 0, .ref qd, .int 0, .int 73] : List Value).toArray below meth c H locs 0 0 (MQ below (fun _ st o t => o = .returned none ∧ t.heap[qd]? = some (arrV cA 73 (fun j => .int (Int32.ofNat (am_ag am_txt j)))) ∧ t.heap.size = st.heap.size ∧ ∀ q : Nat, q ≠ qd → t.heap[q]? = st.heap[q]?) ([.ref (adV 0), .int 0, .ref qd, .int 0, .int 73] : List Value).toArray s 0 0 (fun q => B ≤ q)) (F0 m 3 ls []) := by
    intro n
    induction n with
    | zero =>
      intro k hk H locs ls hc hz hq2 hS hl
      have hk73 : k = 73 := by omega
      subst hk73
      refine lv_iload hx hb di_3 (lv_at hl 5 rfl) ?_
      refine lv_iload hx hb di_5 (lv_at hl 4 rfl) ?_
      refine lv_icmp_ge (tgt := 33) hx hb di_7 (by decide) (fun _ => ?_) (fun z => absurd (by decide) z)
      rw [am_tx_73] at hc
      exact W.vret hx hb hr (fun t ht _ => ⟨rfl, by rw [ht]; exact hc, by rw [ht]; exact hz, fun q h => by rw [ht]; exact hq2 q h⟩) hS.2.2 di_33
    | succ n ih =>
      intro k hk H locs ls hc hz hq2 hS hl
      have hkl : k < 73 := by omega
      have hin : vp_in (Int32.ofNat k) 73 := an_in hkl (by decide)
      have hcl : (Int32.ofNat k).toNatClampNeg = k := an_clamp (by omega)
      obtain ⟨hby, hbl⟩ := am_by_all k hkl
      refine lv_iload hx hb di_3 (lv_at hl 5 rfl) ?_
      refine lv_iload hx hb di_5 (lv_at hl 4 rfl) ?_
      refine lv_icmp_ge (tgt := 33) hx hb di_7 (by decide) (fun z => ?_) (fun _ => ?_)
      · exfalso
        have z2 := (an_le 73 k).mp z
        omega
      refine lv_aload_n hx hb di_10 rfl (lv_at hl 2 rfl) ?_
      refine lv_iload_n hx hb di_11 rfl (lv_at hl 3 rfl) ?_
      refine lv_iinc (v := Int32.ofNat (k + 1)) (lv' := [(3, .int (Int32.ofNat (k + 1))), (0, .ref (adV 0)), (1, .int (Int32.ofNat k)), (2, .ref qd), (4, .int 73), (5, .int (Int32.ofNat k))]) hx hb di_12 hl (k := 3) rfl (by rw [Int32.ofNat_add]; rfl) (by decide) rfl (fun ls hl => ?_)
      refine lv_aload_n hx hb di_15 rfl (lv_at hl 1 rfl) ?_
      refine lv_iload_n hx hb di_16 rfl (lv_at hl 2 rfl) ?_
      refine lv_iinc (v := Int32.ofNat (k + 1)) (lv' := [(1, .int (Int32.ofNat (k + 1))), (3, .int (Int32.ofNat (k + 1))), (0, .ref (adV 0)), (2, .ref qd), (4, .int 73), (5, .int (Int32.ofNat k))]) hx hb di_17 hl (k := 2) rfl (by rw [Int32.ofNat_add]; rfl) (by decide) rfl (fun ls hl => ?_)
      refine va_tb hx hb hT hS hin (v := .int (am_fby.getD k 0)) (by rw [hcl]; rfl) di_20 ?_
      refine lv_sipush (v := 255) hx hb di_21 (by decide) ?_
      refine lv_iand hx hb di_24 ?_
      refine lv_i2c hx hb di_25 hby ?_
      refine W.cast hx hb hc (hAr 73 _) (fun q => by cases q) (by rw [arrV_size]; exact hin) rfl rfl di_26 fun H' e1 e2 e3 => ?_
      rw [hcl] at e1 ⊢
      rw [an_c16, Nat.mod_eq_of_lt hbl] at e1
      have e4 : H'[qd]? = some (arrV cA 73 (fun j => .int (Int32.ofNat (am_ag (am_tx (k + 1)) j)))) := am_arr_as (B := 0) (D := (fun _ => 0, fun _ _ => 0)) (dA := fun _ => cA) (kd := 1) (n := 73) (x := am_tx k) (i := k) (v := am_ag am_txt k) (v2 := am_ag am_txt k) rfl e1
      have hS1 := hS.put (k := k) e2 e3 hq
      refine W.eq (g2 := F0 m 27 ls []) rfl ?_
      refine lv_iinc (v := Int32.ofNat (k + 1)) (lv' := [(5, .int (Int32.ofNat (k + 1))), (1, .int (Int32.ofNat (k + 1))), (3, .int (Int32.ofNat (k + 1))), (0, .ref (adV 0)), (2, .ref qd), (4, .int 73)]) hx hb di_27 hl (k := 5) rfl (by rw [Int32.ofNat_add]; rfl) (by decide) rfl (fun ls hl => ?_)
      refine lv_goto (tgt := 3) hx hb di_30 (by decide) ?_
      exact ih (k + 1) (by omega) H' _ ls e4 (e2.trans hz) (fun q h => (e3 q h).trans (hq2 q h)) hS1 (lv_sub hl [3, 1, 4, 2, 5, 0] rfl)
  refine lv_iconst (v := 0) hx hb di_0 (by decide) ?_
  refine lv_istore (lv' := [(5, .int 0), (0, .ref (adV 0)), (1, .int 0), (2, .ref qd), (3, .int 0), (4, .int 73)]) hx hb di_1 hl (by decide) rfl (fun ls hl => ?_)
  exact loop 73 0 rfl s.heap [] ls hcell rfl (fun _ _ => rfl) va_S.rf (lv_sub hl [1, 2, 3, 4, 5, 0] rfl)
def am_PcT (B : Nat) (adK adV : Nat → Nat) (dA : Nat → ClassId) (U : State) : Prop := B ≤ U.heap.size ∧ am_SxA B adK adV U ∧ ArrOfT U (dA 1) .char ∧ U.vm.findClass ("[" ++ FieldType.char.toString) = some (dA 1)
/-- one array more, of the text's chars; nothing else -/
def am_QT (dA : Nat → ClassId) (st : State) (o : Outcome) (t : State) : Prop := o = .returned (some (.ref st.heap.size)) ∧ t.heap[st.heap.size]? = some (arrV (dA 1) 73 (fun j => .int (Int32.ofNat (am_ag am_txt j)))) ∧ t.heap.size = st.heap.size + 1 ∧ ∀ q : Nat, q < st.heap.size → t.heap[q]? = st.heap[q]?
theorem am_PcT.calling {B : Nat} {adK adV : Nat → Nat} {dA : Nat → ClassId} {U : State} (g : JFrame) (mk : MethodId) (a : Array Value) (h : am_PcT B adK adV dA U) : am_PcT B adK adV dA (U.calling g mk a) := ⟨h.1, h.2.1.calling g mk a, arrOfT_moved (u := U) (E := U.calling g mk a) (Vm.Alike.refl U.vm) h.2.2.1, h.2.2.2⟩
theorem am_PcT.warm {B : Nat} {adK adV : Nat → Nat} {dA : Nat → ClassId} {s U : State} {H : Heap} {locs : List Loc} (hW : s.WarmedH U.vm) (hU : U.heap = H) (hS : va_S (fun q => B ≤ q) s.heap H locs) (h : am_PcT B adK adV dA s) : am_PcT B adK adV dA U := ⟨by rw [hU]; exact Nat.le_trans h.1 hS.1, h.2.1.warm hW hU hS, arrOfT_moved hW.alike h.2.2.1, by rw [hW.alike.findClass]; exact h.2.2.2⟩
set_option maxHeartbeats 4000000 in
theorem mt_tcs (l : Launch) (B : Nat) (adK adV : Nat → Nat) (dA : Nat → ClassId) : Met l y_tcs (Cond.code y_tcs prog_18_method_9_code 2 (some (.array .char)) :: am_tbl) { frames := 1, cells := 1, slots := 73, locals := 25 } (va_Pc [.ref (adV 0)] (am_PcT B adK adV dA)) (fun _ st o t => am_QT dA st o t) 1 73 (fun q => B ≤ q) := by
  refine Met.ofW (cc := prog_18_method_9_code) (maxL := 2) (ret := some (.array .char)) (by decide) rfl ?_
  intro p e s m args below meth c s₁ BL hml hv
  obtain ⟨rfl, hB, hSx, hAr, hfc⟩ := hv
  have hx := BL.exec
  have hb := BL.bytes
  have hr := BL.returns
  have hlocks := BL.notSynchronized
  have hts0 := atoms_spec (ws := Cond.code y_tcs prog_18_method_9_code 2 (some (.array .char)) :: am_tbl) BL.pre
  have hts : ∀ w ∈ am_tbl, w.before ([.ref (adV 0)] : List Value).toArray s = true := fun w hw => hts0 w (List.mem_cons_of_mem _ hw)
  have hown : s.vm.findClass "java/lang/StringLatin1" = some m.cls := findClass_of_methodNamed BL.named
  have hl := lv_entry ([.ref (adV 0)]) (n := 2) (Nat.le_of_ble_eq_true rfl)
  rw [lg_entry_eq]
  generalize (lg_sl ([.ref (adV 0)]) ++ List.replicate (2 - (lg_sl ([.ref (adV 0)])).length) Slot.unset).toArray = ls at hl ⊢
  have hl : lv_has ls 2 [(0, .ref (adV 0))] := hl
  have hT := (hSx.1.1 0 (by decide)).2.2.2
  refine lv_aload_n hx hb dt_0 rfl (lv_at hl 0 rfl) ?_
  refine va_tlen hx hb hT va_S.rf (v := 73) (by decide) dt_1 ?_
  refine va_newaK (atype := .char) (n := 73) (N := 73) hx hb (hts _ w_43) rfl dt_2 rfl (by decide) (by decide) (by decide) (by decide) (by decide) rfl fun H1 cA e1 z1 o1 hAr2 hNm => ?_
  have ecA : cA = dA 1 := Option.some.inj (hNm.symm.trans hfc)
  subst ecA
  have hS1 : va_S (fun q => B ≤ q) s.heap H1 [] := ⟨by omega, fun q h1 _ => o1 q h1, fun q h => by cases h⟩
  refine lv_astore_n (lv' := [(1, .ref s.heap.size), (0, .ref (adV 0))]) hx hb dt_4 rfl hl (by decide) rfl (fun ls hl => ?_)
  refine lv_aload_n hx hb dt_5 rfl (lv_at hl 1 rfl) ?_
  refine lv_iconst (v := 0) hx hb dt_6 (by decide) ?_
  refine lv_aload_n hx hb dt_7 rfl (lv_at hl 0 rfl) ?_
  refine lv_iconst (v := 0) hx hb dt_8 (by decide) ?_
  refine lv_aload_n hx hb dt_9 rfl (lv_at hl 1 rfl) ?_
  refine va_tlen hx hb hT hS1 (v := 73) (by decide) dt_10 ?_
  have hc0 : H1[s.heap.size]? = some (arrV (dA 1) 73 (fun j => .int (Int32.ofNat (am_ag 0 j)))) := by
    rw [e1]
    congr 2
    funext j
    simp [am_ag, defaultValue, newarray.typeOf]
  refine am_callG (B := B) (va_runS (y := y_inf) (bytes := prog_18_method_49_code) (maxL := 6) (ret := none) (Ts := am_tbl) (own := "java/lang/StringLatin1") (As := [.ref (adV 0), .int 0, .ref s.heap.size, .int 0, .int 73]) (rest := []) ⟨hx, hb, hml, hown, hts⟩ (mt_inf l B adK adV (dA 1) s.heap.size hB) ⟨callB_of 5 hts (am_goodIn (M' := (y_inf, prog_18_method_49_code, 6, none, 0, 0)) wf_350) rfl rfl rfl (hts _ wf_15) (hts _ wf_348) (by decide +kernel) ⟨by decide, by decide⟩, hts _ wf_349⟩ ⟨fun a U g mk q => ⟨q.1, q.2.1.calling g mk a, arrOfT_moved (u := U) (E := U.calling g mk a) (Vm.Alike.refl U.vm) q.2.2.1, q.2.2.2⟩, fun U hU hW => ⟨rfl, hSx.warm hW hU hS1, arrOfT_moved hW.alike hAr, by rw [hU]; exact hc0⟩⟩ rfl rfl hl.1 rfl (lv_room (by simp)) dt_11 ⟨by decide, by decide⟩) hS1 (fun st0 v t h0 hq => ⟨by rw [hq.2.2.1, h0]; exact Nat.le_refl _, fun q g1 g2 => by rw [hq.2.2.2 q (fun e => g2 (by rw [e]; exact hB)), h0]⟩) (fun st0 v t locs1 h0 hq hS2 => ?_)
  obtain ⟨q1, q2, q3, q4⟩ := hq
  cases q1
  refine lv_aload_n hx hb dt_14 rfl (lv_at hl 0 rfl) ?_
  refine W.aret hx hb hr (Or.inr ⟨_, rfl⟩) (Or.inr ⟨_, rfl⟩) (fun u hu _ => ⟨rfl, by rw [hu]; exact q2, by rw [hu, q3, h0]; exact z1, fun q g => by rw [hu, q4 q (by omega), h0]; exact o1 q g⟩) hS2.2.2 dt_15
set_option maxHeartbeats 4000000 in
theorem mt_isl (l : Launch) (B : Nat) (adK adV : Nat → Nat) (dA : Nat → ClassId) : Met l y_isl (Cond.code y_isl prog_17_method_154_code 1 (some .boolean) :: am_tbl) { frames := 0, cells := 0, slots := 0, locals := 0 } (va_Pc [.ref (adK 0)] (am_PcT B adK adV dA)) (fun _ st o t => o = .returned (some (.int 1)) ∧ t.heap = st.heap) 0 0 (fun q => B ≤ q) := by
  refine Met.ofW (cc := prog_17_method_154_code) (maxL := 1) (ret := some .boolean) (by decide) rfl ?_
  intro p e s m args below meth c s₁ BL hml hv
  obtain ⟨rfl, hB, hSx, hAr, hfc⟩ := hv
  have hx := BL.exec
  have hb := BL.bytes
  have hr := BL.returns
  have hlocks := BL.notSynchronized
  have hts0 := atoms_spec (ws := Cond.code y_isl prog_17_method_154_code 1 (some .boolean) :: am_tbl) BL.pre
  have hts : ∀ w ∈ am_tbl, w.before ([.ref (adK 0)] : List Value).toArray s = true := fun w hw => hts0 w (List.mem_cons_of_mem _ hw)
  have hown : s.vm.findClass "java/lang/String" = some m.cls := findClass_of_methodNamed BL.named
  have hl := lv_entry ([.ref (adK 0)]) (n := 1) (Nat.le_of_ble_eq_true rfl)
  rw [lg_entry_eq]
  generalize (lg_sl ([.ref (adK 0)]) ++ List.replicate (1 - (lg_sl ([.ref (adK 0)])).length) Slot.unset).toArray = ls at hl ⊢
  have hl : lv_has ls 1 [(0, .ref (adK 0))] := hl
  refine va_gets hx hb hSx.2 va_S.rf hown (hts _ wf_343) (fun _ z => z) ds_0 ?_
  refine lv_if_eq (tgt := 17) hx hb ds_3 (by decide) (fun z => absurd z (by decide)) (fun _ => ?_)
  refine lv_aload_n hx hb ds_6 rfl (lv_at hl 0 rfl) ?_
  refine vk_getf hx hb (hSx.1.1 0 (by decide)).2.1 va_S.rf hown (hts _ wf_1413) (fun _ z => z) ds_7 ?_
  refine lv_if_ne (tgt := 17) hx hb ds_10 (by decide) (fun z => absurd rfl z) (fun _ => ?_)
  refine lv_iconst (v := 1) hx hb ds_13 (by decide) ?_
  refine lv_goto (tgt := 18) hx hb ds_14 (by decide) ?_
  exact W.zret hx hb hr (by decide) (fun t ht _ => ⟨rfl, ht⟩) (fun q h => by cases h) ds_18
set_option maxHeartbeats 4000000 in
theorem mt_tca (l : Launch) (B : Nat) (adK adV : Nat → Nat) (dA : Nat → ClassId) : Met l y_tca (Cond.code y_tca prog_17_method_129_code 1 (some (.array .char)) :: am_tbl) { frames := 2, cells := 1, slots := 73, locals := 46 } (va_Pc [.ref (adK 0)] (am_PcT B adK adV dA)) (fun _ st o t => am_QT dA st o t) 1 73 (fun q => B ≤ q) := by
  refine Met.ofW (cc := prog_17_method_129_code) (maxL := 1) (ret := some (.array .char)) (by decide) rfl ?_
  intro p e s m args below meth c s₁ BL hml hv
  obtain ⟨rfl, hPT⟩ := hv
  obtain ⟨hB, hSx, hAr, hfc⟩ := id hPT
  have hx := BL.exec
  have hb := BL.bytes
  have hr := BL.returns
  have hlocks := BL.notSynchronized
  have hts0 := atoms_spec (ws := Cond.code y_tca prog_17_method_129_code 1 (some (.array .char)) :: am_tbl) BL.pre
  have hts : ∀ w ∈ am_tbl, w.before ([.ref (adK 0)] : List Value).toArray s = true := fun w hw => hts0 w (List.mem_cons_of_mem _ hw)
  have hown : s.vm.findClass "java/lang/String" = some m.cls := findClass_of_methodNamed BL.named
  have hl := lv_entry ([.ref (adK 0)]) (n := 1) (Nat.le_of_ble_eq_true rfl)
  rw [lg_entry_eq]
  generalize (lg_sl ([.ref (adK 0)]) ++ List.replicate (1 - (lg_sl ([.ref (adK 0)])).length) Slot.unset).toArray = ls at hl ⊢
  have hl : lv_has ls 1 [(0, .ref (adK 0))] := hl
  refine lv_aload_n hx hb dc_0 rfl (lv_at hl 0 rfl) ?_
  refine am_callG (B := B) (va_runV (y := y_isl) (bytes := prog_17_method_154_code) (maxL := 1) (ret := some .boolean) (Ts := am_tbl) (own := "java/lang/String") (C := "java/lang/String") (b := adK 0) (As := []) (rest := []) ⟨hx, hb, hml, hown, hts⟩ (mt_isl l B adK adV dA) ⟨callB_of 0 hts (am_goodIn (M' := (y_isl, prog_17_method_154_code, 1, some .boolean, 0, 0)) wf_342) rfl rfl rfl (hts _ wf_14) (hts _ wf_339) (by decide +kernel) ⟨by decide, by decide⟩, hts _ wf_340, hts _ wf_341⟩ ⟨fun a U g mk q => ⟨q.1, q.2.calling g mk a⟩, vk_recv hSx.1 (by decide) va_S.rf, fun U hU hW => ⟨rfl, hPT.warm hW hU va_S.rf⟩⟩ rfl rfl hl.1 rfl (lv_room (by simp)) dc_1 ⟨by decide, by decide⟩) va_S.rf (fun st0 v t h0 hq => ⟨by rw [hq.2, h0]; exact Nat.le_refl _, fun q _ _ => by rw [hq.2, h0]⟩) (fun st0 v t locs1 h0 hq hS2 => ?_)
  obtain ⟨q1, q2⟩ := hq
  cases q1
  rw [q2, h0] at hS2 ⊢
  refine lv_if_eq (tgt := 17) hx hb dc_4 (by decide) (fun z => absurd z (by decide)) (fun _ => ?_)
  refine lv_aload_n hx hb dc_7 rfl (lv_at hl 0 rfl) ?_
  refine vk_getf hx hb (hSx.1.1 0 (by decide)).2.2.1 hS2 hown (hts _ wf_1414) (fun _ z => z) dc_8 ?_
  refine am_callG (B := B) (va_runS (y := y_tcs) (bytes := prog_18_method_9_code) (maxL := 2) (ret := some (.array .char)) (Ts := am_tbl) (own := "java/lang/String") (As := [.ref (adV 0)]) (rest := []) ⟨hx, hb, hml, hown, hts⟩ (mt_tcs l B adK adV dA) ⟨callB_of 1 hts (am_goodIn (M' := (y_tcs, prog_18_method_9_code, 2, some (.array .char), 0, 0)) wf_347) rfl rfl rfl (hts _ wf_15) (hts _ wf_345) (by decide +kernel) ⟨by decide, by decide⟩, hts _ wf_346⟩ ⟨fun a U g mk q => ⟨q.1, q.2.calling g mk a⟩, fun U hU hW => ⟨rfl, hPT.warm hW hU hS2⟩⟩ rfl rfl hl.1 rfl (lv_room (by simp)) dc_11 ⟨by decide, by decide⟩) hS2 (fun st0 v t h0 hq => ⟨by rw [hq.2.2.1, h0]; exact Nat.le_succ _, fun q g1 g2 => by rw [hq.2.2.2 q (by rw [h0]; exact g1), h0]⟩) (fun st0 v t locs1 h0 hq hS3 => ?_)
  obtain ⟨q1, q3, q4, q5⟩ := hq
  cases q1
  rw [h0] at q3 q4 q5
  refine lv_goto (tgt := 24) hx hb dc_14 (by decide) ?_
  refine W.eq (g2 := F0 m 24 ls [.ref s.heap.size]) (by rw [h0]; rfl) ?_
  exact W.aret hx hb hr (Or.inr ⟨_, rfl⟩) (Or.inr ⟨_, rfl⟩) (fun u hu _ => ⟨rfl, by rw [hu]; exact q3, by rw [hu]; exact q4, fun q g => by rw [hu]; exact q5 q g⟩) hS3.2.2 dc_24
theorem ok_ft : am_OpOk mi_0 185 (am_ft 190) := by
  intro ev _ L st h
  simp only [am_ft]
  split
  · rcases am_pushc_eq h 73 (.inl (1, 73, am_txt)) (.inr none) (fun c h' => (.inl (190, L, [.ref c], h') : am_Z)) with e | ⟨h', hn, e⟩
    · rw [e]
      trivial
    · rw [e]
      intro r hg
      have g1 := hg.1.1
      have g2 := hg.1.2
      have e1 := hn.1
      have e2 := hn.2.1
      refine ⟨⟨by omega, by omega⟩, fun p l e R s m args below meth c B N0 S0 D dA H locs ls X => ?_⟩
      obtain ⟨x1, ⟨xf, xl, xc, xs⟩, ⟨xn, xt, xB⟩, hK, hw, hS, hL⟩ := X
      obtain ⟨hx, hb, hml, hown, hts, hlk, hr, hnm⟩ := id x1
      obtain ⟨adK, adV, z1, z2, z3⟩ := hK.2.2
      have hPT : am_PcT B adK adV dA s := ⟨xB, ⟨z2, z3⟩, (hK.1.2 1 _ rfl).1, (hK.1.2 1 _ rfl).2⟩
      refine va_ldcS hx hb hown z1 dd_ft0 ?_
      refine am_callG (B := B) (va_runV (y := y_tca) (bytes := prog_17_method_129_code) (maxL := 1) (ret := some (.array .char)) (Ts := am_tbl) (own := "OverAndBack") (C := "java/lang/String") (b := adK 0) (As := []) (rest := []) ⟨hx, hb, hml, hown, hts⟩ (mt_tca l B adK adV dA) ⟨callB_of 0 hts (am_goodIn (M' := (y_tca, prog_17_method_129_code, 1, some (.array .char), 0, 0)) wf_338) rfl rfl rfl (hts _ wf_14) (hts _ w_335) (by decide +kernel) ⟨by rw [xf]; decide, by rw [xl]; decide⟩, hts _ wf_336, hts _ wf_337⟩ ⟨fun a U g mk q => ⟨q.1, q.2.calling g mk a⟩, vk_recv z2 (by decide) hS, fun U hU hW => ⟨rfl, hPT.warm hW hU hS⟩⟩ rfl rfl hL.1 rfl (lv_room (by simp)) dd_ft1 ⟨by rw [xc]; omega, by rw [xs]; omega⟩) hS (fun st0 v t h0 hq => ⟨by rw [hq.2.2.1, h0]; exact Nat.le_succ _, fun q g1 g2 => by rw [hq.2.2.2 q (by rw [h0]; exact g1), h0]⟩) (fun st0 v t locs1 h0 hq hS3 => ?_)
      obtain ⟨q1, q3, q4, q5⟩ := hq
      cases q1
      rw [h0] at q3 q4 q5
      have hsz := hw.1
      have hw' : am_Wd B D dA h' t.heap := hw.new hn (by rw [← hsz]; exact q3) q4 q5
      have hk := hg.2 p l e R s m args below meth c B N0 S0 D dA t.heap locs1 ls ⟨x1, ⟨xf, xl, xc, xs⟩, ⟨by omega, by omega, xB⟩, hK, hw', hS3, hL⟩
      rw [show h'.1 - N0 = h.1 - N0 + 1 by omega, show h'.2.1 - S0 = h.2.1 - S0 + 73 by omega] at hk
      exact W.eq (g2 := F0 m 190 ls (([.ref h.1] : List Value).map (am_v B))) (by rw [h0, hsz]; rfl) hk
  · trivial
