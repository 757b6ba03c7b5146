/-! ===== the law ===== -/
theorem lw_fin {p : Program} {l : Launch} {e : Env} {s : State} {m : MethodId} {below : List Frame} {meth : Method} {c : Code} {b L : Nat} {xs : Nat → Int32} {H : Heap} {locs : List Loc} {ls : Array Slot} {cells slots : Nat} (C0 : lw_At p s m meth c b L xs) (hS : va_S (fun q => s.heap.size ≤ q) s.heap H locs) (hc : cells ≤ 600000) (hs : slots ≤ 7302250) : W p l e room_1 s m #[Value.ref b] below meth c H locs cells slots (lw_Z below #[Value.ref b] s) (F0 m 863 ls []) := by
  obtain ⟨hx, hb, hr, hml, hown, hts, hX, hbl, hlocks, hgv⟩ := C0
  refine lv_iconst (v := 1) hx hb dl_863 (by decide) ?_
  refine va_forget (fun q hq => hS.2.2 q hq) ?_
  refine W.widen (k := 600000) (n := 7302250) hc hs ?_
  exact lw_ret hx hb hr hlocks dl_864
theorem lx_lt {L a : Nat} (hL : L ≤ 256) (ha : a ≤ 256) : (Int32.ofNat L - 4 < Int32.ofNat a) ↔ L < a + 4 := by
  have e1 : (Int32.ofNat L - 4).toInt = (L : Int) - 4 := by
    rw [Int32.toInt_sub, an_toIntS (by omega), show (4 : Int32).toInt = 4 from rfl, show ((2 : Nat) ^ 32) = 4294967296 from rfl]
    simp only [Int.bmod]
    omega
  rw [Int32.lt_iff_toInt_lt, e1, an_toIntS (by omega)]
  omega
theorem lx_add {a : Nat} (k : Nat) : Int32.ofNat a + Int32.ofNat k = Int32.ofNat (a + k) := (Int32.ofNat_add a k).symm
/-- a call of the law that makes nothing new -/
theorem lx_cv {p : Program} {l : Launch} {e : Env} {R : Room} {s : State} {m : MethodId} {args : Array Value} {below : List Frame} {meth : Method} {c : Code} {H : Heap} {locs : List Loc} {cells slots : Nat} {Q : State → Prop} {pc : Nat} {ls : Array Slot} {st : List Value} {M' : am_MI} {idx n ci b0 : Nat} {as fs : List Value} {rest : List Value} {h : am_H} {r1 : am_R} {T : u_T} {N : Nat} {D : va_G} {dA : Nat → ClassId} (hx : p.tables.exec = Jvm.exec) (hb : c.code = code) (hml : c.maxLocals = 4) (hsz : ls.size = 4) (hown : s.vm.findClass R_law = some m.cls) (hts : ∀ w ∈ am_tbl, w.before args s = true) (hK : am_Kn s.heap.size D dA s) (hw : am_Wd s.heap.size D dA h H) (hS : va_S (fun q => s.heap.size ≤ q) s.heap H locs)
    (hl : Cond.methodLink R_law idx M'.1 ∈ am_tbl) (hin : Cond.instanceMethod M'.1 ∈ am_tbl) (hse : Cond.selects M'.1.cls M'.1 M'.1 ∈ am_tbl) (hB : Cond.code M'.1 M'.2.1 M'.2.2.1 M'.2.2.2.1 ∈ am_tbl ∧ Cond.initialized M'.1.cls ∈ am_tbl ∧ (M'.1.cls ≠ "java/lang/invoke/MethodHandle" ∧ M'.1.cls ≠ "java/lang/invoke/VarHandle" ∧ (parseMethodDescriptor M'.1.desc).map (fun d => d.parameters.length) = some n)) (hR : M'.2.2.2.2.1 + 1 ≤ R.frames ∧ 8 + (M'.2.2.1 + 11) + M'.2.2.2.2.2 ≤ R.locals) (hc : am_cls[ci]? = some (M'.1.cls, T, N)) (hh : am_get h b0 = some (.inr (ci, fs))) (hn : as.length = n) (hcat : (rest.map fun v => v.category).sum ≤ 8) (hd : decode code pc = .ok (.invokevirtual idx, 3)) (he : am_EG M' (.ref b0 :: as) h r1) (z1 : r1.2.1 = h.1) (z2 : r1.2.2.1 = h.2.1) (hf : cells ≤ R.cells ∧ slots ≤ R.slots) (hst : st = (as.map (am_v s.heap.size)).reverse ++ .ref (s.heap.size + b0) :: rest)
    (kk : ∀ (H1 : Heap) (locs1 : List Loc), am_Wd s.heap.size D dA r1.2 H1 → va_S (fun q => s.heap.size ≤ q) s.heap H1 locs1 → W p l e R s m args below meth c H1 locs1 cells slots Q (F0 m (pc + 3) ls ((r1.1.map (am_v s.heap.size)).toList ++ rest))) : W p l e R s m args below meth c H locs cells slots Q (F0 m pc ls st) := by
  refine lw_cv hx hb hml hsz hown hts hK hw hS hl hin hse hB hR hc hh hn hcat hd he ?_ hst fun H1 locs1 a1 a2 => ?_
  · rw [z1, z2, Nat.sub_self, Nat.sub_self]
    exact hf
  · rw [z1, z2, Nat.sub_self, Nat.sub_self]
    exact kk H1 locs1 a1 a2
theorem lcx_0 {p : Program} {l : Launch} {e : Env} {s : State} {m : MethodId} {below : List Frame} {meth : Method} {c : Code} {b L : Nat} {xs : Nat → Int32} {D : va_G} {dA : Nat → ClassId} {H : Heap} {locs : List Loc} {ls : Array Slot} {k : Nat} {h : am_H} (C0 : lw_At p s m meth c b L xs) (hL : L ≤ 256) (hk : 4 * k + 4 ≤ L) (hK : am_Kn s.heap.size D dA s) (hJ : Jv h) (hw : am_Wd s.heap.size D dA h H) (hS : va_S (fun q => s.heap.size ≤ q) s.heap H locs) (hl : lv_has ls 4 [(3, .int (Int32.ofNat (4 * k))), (2, .ref (s.heap.size + 66)), (1, .ref (s.heap.size + 0)), (0, .ref b)]) (next : ∀ (h2 : am_H) (H2 : Heap) (locs2 : List Loc), Jv h2 → h2.1 = h.1 → h2.2.1 = h.2.1 → am_Wd s.heap.size D dA h2 H2 → va_S (fun q => s.heap.size ≤ q) s.heap H2 locs2 → W p l e room_1 s m #[Value.ref b] below meth c H2 locs2 93 71397 (lw_Z below #[Value.ref b] s) (F0 m 857 ls [])) : W p l e room_1 s m #[Value.ref b] below meth c H locs 93 71397 (lw_Z below #[Value.ref b] s) (F0 m 156 ls []) := by
  have C1 := C0
  obtain ⟨hx, hb, hr, hml, hown, hts, hX, hbl, hlocks, hgv⟩ := C0
  have htb : ∀ w ∈ am_tbl, w.before #[Value.ref b] s = true := fun w hw => hts w (am_tbl_in hw)
  obtain ⟨v, h1, w, h2, e1, e2, ec, j2, ⟨fs0, gg0⟩, ⟨fs6, gg6⟩, ⟨z1, z2⟩, z3, z4⟩ := jb_write (xs (4 * k + 1)).toUInt32.toNat (an_lt32 _) h hJ
  refine lv_aload_n hx hb dl_156 rfl (lv_at hl 2 rfl) ?_
  refine lw_ld (lv := []) (k := 1) (kv := Int32.ofNat 1) (v := Int32.ofNat (xs (4 * k + 1)).toUInt32.toNat) hx hb hX hbl hS (lv_at hl 3 rfl) (lv_at hl 0 rfl) (by decide) dl_157 dl_158 dl_159 dl_160 dl_161 (by rw [lx_add]; exact an_in (by omega) (by omega)) (by rw [lx_add, an_clamp (by omega), an_of]) ?_
  refine lx_cv (M' := mi_46) (idx := 13) (n := 1) (ci := 11) (b0 := 0) (fs := fs0) (as := [.retAddr (xs (4 * k + 1)).toUInt32.toNat]) (rest := []) (h := h) hx hb hml hl.1 hown htb hK hw hS w_564 w_565 w_566 lk_46 ⟨by decide, by decide⟩ rfl gg0 rfl (by simp [Value.category]) dl_162 e1 z1 z2 ⟨by decide, by decide⟩ rfl (fun H locs hw hS => ?_)
  refine lv_pop hx hb dl_165 rfl ?_
  refine lv_aload_n hx hb dl_166 rfl (lv_at hl 1 rfl) ?_
  refine lw_ld (lv := []) (k := 1) (kv := Int32.ofNat 1) (v := Int32.ofNat (xs (4 * k + 1)).toUInt32.toNat) hx hb hX hbl hS (lv_at hl 3 rfl) (lv_at hl 0 rfl) (by decide) dl_167 dl_168 dl_169 dl_170 dl_171 (by rw [lx_add]; exact an_in (by omega) (by omega)) (by rw [lx_add, an_clamp (by omega), an_of]) ?_
  refine lx_cv (M' := mi_132) (idx := 17) (n := 1) (ci := 12) (b0 := 66) (fs := fs6) (as := [.retAddr (xs (4 * k + 1)).toUInt32.toNat]) (rest := []) (h := h1) hx hb hml hl.1 hown htb hK hw hS w_1102 w_1103 w_1104 lk_132 ⟨by decide, by decide⟩ rfl gg6 rfl (by simp [Value.category]) dl_172 e2 z3 z4 ⟨by decide, by decide⟩ rfl (fun H locs hw hS => ?_)
  refine lv_pop hx hb dl_175 rfl ?_
  refine lv_goto (tgt := 857) hx hb dl_176 (by decide) ?_
  exact next h2 H locs j2 (z3.trans z1) (z4.trans z2) hw hS
theorem lcx_1 {p : Program} {l : Launch} {e : Env} {s : State} {m : MethodId} {below : List Frame} {meth : Method} {c : Code} {b L : Nat} {xs : Nat → Int32} {D : va_G} {dA : Nat → ClassId} {H : Heap} {locs : List Loc} {ls : Array Slot} {k : Nat} {h : am_H} (C0 : lw_At p s m meth c b L xs) (hL : L ≤ 256) (hk : 4 * k + 4 ≤ L) (hK : am_Kn s.heap.size D dA s) (hJ : Jv h) (hw : am_Wd s.heap.size D dA h H) (hS : va_S (fun q => s.heap.size ≤ q) s.heap H locs) (hl : lv_has ls 4 [(3, .int (Int32.ofNat (4 * k))), (2, .ref (s.heap.size + 66)), (1, .ref (s.heap.size + 0)), (0, .ref b)]) (next : ∀ (h2 : am_H) (H2 : Heap) (locs2 : List Loc), Jv h2 → h2.1 = h.1 → h2.2.1 = h.2.1 → am_Wd s.heap.size D dA h2 H2 → va_S (fun q => s.heap.size ≤ q) s.heap H2 locs2 → W p l e room_1 s m #[Value.ref b] below meth c H2 locs2 93 71397 (lw_Z below #[Value.ref b] s) (F0 m 857 ls [])) : W p l e room_1 s m #[Value.ref b] below meth c H locs 93 71397 (lw_Z below #[Value.ref b] s) (F0 m 179 ls []) := by
  have C1 := C0
  obtain ⟨hx, hb, hr, hml, hown, hts, hX, hbl, hlocks, hgv⟩ := C0
  have htb : ∀ w ∈ am_tbl, w.before #[Value.ref b] s = true := fun w hw => hts w (am_tbl_in hw)
  obtain ⟨v, h1, w, h2, e1, e2, ec, j2, ⟨fs0, gg0⟩, ⟨fs6, gg6⟩, ⟨z1, z2⟩, z3, z4⟩ := jb_wipe   h hJ
  refine lv_aload_n hx hb dl_179 rfl (lv_at hl 2 rfl) ?_
  refine lx_cv (M' := mi_47) (idx := 18) (n := 0) (ci := 11) (b0 := 0) (fs := fs0) (as := []) (rest := []) (h := h) hx hb hml hl.1 hown htb hK hw hS w_568 w_569 w_570 lk_47 ⟨by decide, by decide⟩ rfl gg0 rfl (by simp [Value.category]) dl_180 e1 z1 z2 ⟨by decide, by decide⟩ rfl (fun H locs hw hS => ?_)
  refine lv_pop hx hb dl_183 rfl ?_
  refine lv_aload_n hx hb dl_184 rfl (lv_at hl 1 rfl) ?_
  refine lx_cv (M' := mi_134) (idx := 22) (n := 0) (ci := 12) (b0 := 66) (fs := fs6) (as := []) (rest := []) (h := h1) hx hb hml hl.1 hown htb hK hw hS w_1109 w_1110 w_1111 lk_134 ⟨by decide, by decide⟩ rfl gg6 rfl (by simp [Value.category]) dl_185 e2 z3 z4 ⟨by decide, by decide⟩ rfl (fun H locs hw hS => ?_)
  refine lv_pop hx hb dl_188 rfl ?_
  refine lv_goto (tgt := 857) hx hb dl_189 (by decide) ?_
  exact next h2 H locs j2 (z3.trans z1) (z4.trans z2) hw hS
theorem lcx_2 {p : Program} {l : Launch} {e : Env} {s : State} {m : MethodId} {below : List Frame} {meth : Method} {c : Code} {b L : Nat} {xs : Nat → Int32} {D : va_G} {dA : Nat → ClassId} {H : Heap} {locs : List Loc} {ls : Array Slot} {k : Nat} {h : am_H} (C0 : lw_At p s m meth c b L xs) (hL : L ≤ 256) (hk : 4 * k + 4 ≤ L) (hK : am_Kn s.heap.size D dA s) (hJ : Jv h) (hw : am_Wd s.heap.size D dA h H) (hS : va_S (fun q => s.heap.size ≤ q) s.heap H locs) (hl : lv_has ls 4 [(3, .int (Int32.ofNat (4 * k))), (2, .ref (s.heap.size + 66)), (1, .ref (s.heap.size + 0)), (0, .ref b)]) (next : ∀ (h2 : am_H) (H2 : Heap) (locs2 : List Loc), Jv h2 → h2.1 = h.1 → h2.2.1 = h.2.1 → am_Wd s.heap.size D dA h2 H2 → va_S (fun q => s.heap.size ≤ q) s.heap H2 locs2 → W p l e room_1 s m #[Value.ref b] below meth c H2 locs2 93 71397 (lw_Z below #[Value.ref b] s) (F0 m 857 ls [])) : W p l e room_1 s m #[Value.ref b] below meth c H locs 93 71397 (lw_Z below #[Value.ref b] s) (F0 m 192 ls []) := by
  have C1 := C0
  obtain ⟨hx, hb, hr, hml, hown, hts, hX, hbl, hlocks, hgv⟩ := C0
  have htb : ∀ w ∈ am_tbl, w.before #[Value.ref b] s = true := fun w hw => hts w (am_tbl_in hw)
  obtain ⟨v, h1, w, h2, e1, e2, ec, j2, ⟨fs0, gg0⟩, ⟨fs6, gg6⟩, ⟨z1, z2⟩, z3, z4⟩ := jb_fault   h hJ
  refine lv_aload_n hx hb dl_192 rfl (lv_at hl 2 rfl) ?_
  refine lx_cv (M' := mi_48) (idx := 23) (n := 0) (ci := 11) (b0 := 0) (fs := fs0) (as := []) (rest := []) (h := h) hx hb hml hl.1 hown htb hK hw hS w_572 w_573 w_574 lk_48 ⟨by decide, by decide⟩ rfl gg0 rfl (by simp [Value.category]) dl_193 e1 z1 z2 ⟨by decide, by decide⟩ rfl (fun H locs hw hS => ?_)
  refine lv_pop hx hb dl_196 rfl ?_
  refine lv_aload_n hx hb dl_197 rfl (lv_at hl 1 rfl) ?_
  refine lx_cv (M' := mi_135) (idx := 26) (n := 0) (ci := 12) (b0 := 66) (fs := fs6) (as := []) (rest := []) (h := h1) hx hb hml hl.1 hown htb hK hw hS w_1113 w_1114 w_1115 lk_135 ⟨by decide, by decide⟩ rfl gg6 rfl (by simp [Value.category]) dl_198 e2 z3 z4 ⟨by decide, by decide⟩ rfl (fun H locs hw hS => ?_)
  refine lv_pop hx hb dl_201 rfl ?_
  refine lv_goto (tgt := 857) hx hb dl_202 (by decide) ?_
  exact next h2 H locs j2 (z3.trans z1) (z4.trans z2) hw hS
theorem lcx_3 {p : Program} {l : Launch} {e : Env} {s : State} {m : MethodId} {below : List Frame} {meth : Method} {c : Code} {b L : Nat} {xs : Nat → Int32} {D : va_G} {dA : Nat → ClassId} {H : Heap} {locs : List Loc} {ls : Array Slot} {k : Nat} {h : am_H} (C0 : lw_At p s m meth c b L xs) (hL : L ≤ 256) (hk : 4 * k + 4 ≤ L) (hK : am_Kn s.heap.size D dA s) (hJ : Jv h) (hw : am_Wd s.heap.size D dA h H) (hS : va_S (fun q => s.heap.size ≤ q) s.heap H locs) (hl : lv_has ls 4 [(3, .int (Int32.ofNat (4 * k))), (2, .ref (s.heap.size + 66)), (1, .ref (s.heap.size + 0)), (0, .ref b)]) (next : ∀ (h2 : am_H) (H2 : Heap) (locs2 : List Loc), Jv h2 → h2.1 = h.1 → h2.2.1 = h.2.1 → am_Wd s.heap.size D dA h2 H2 → va_S (fun q => s.heap.size ≤ q) s.heap H2 locs2 → W p l e room_1 s m #[Value.ref b] below meth c H2 locs2 93 71397 (lw_Z below #[Value.ref b] s) (F0 m 857 ls [])) : W p l e room_1 s m #[Value.ref b] below meth c H locs 93 71397 (lw_Z below #[Value.ref b] s) (F0 m 205 ls []) := by
  have C1 := C0
  obtain ⟨hx, hb, hr, hml, hown, hts, hX, hbl, hlocks, hgv⟩ := C0
  have htb : ∀ w ∈ am_tbl, w.before #[Value.ref b] s = true := fun w hw => hts w (am_tbl_in hw)
  obtain ⟨v, h1, w, h2, e1, e2, ec, j2, ⟨fs0, gg0⟩, ⟨fs6, gg6⟩, ⟨z1, z2⟩, z3, z4⟩ := jb_lay   h hJ
  refine lv_aload_n hx hb dl_205 rfl (lv_at hl 2 rfl) ?_
  refine lx_cv (M' := mi_49) (idx := 27) (n := 0) (ci := 11) (b0 := 0) (fs := fs0) (as := []) (rest := []) (h := h) hx hb hml hl.1 hown htb hK hw hS w_576 w_577 w_578 lk_49 ⟨by decide, by decide⟩ rfl gg0 rfl (by simp [Value.category]) dl_206 e1 z1 z2 ⟨by decide, by decide⟩ rfl (fun H locs hw hS => ?_)
  refine lv_pop hx hb dl_209 rfl ?_
  refine lv_aload_n hx hb dl_210 rfl (lv_at hl 1 rfl) ?_
  refine lx_cv (M' := mi_151) (idx := 30) (n := 0) (ci := 12) (b0 := 66) (fs := fs6) (as := []) (rest := []) (h := h1) hx hb hml hl.1 hown htb hK hw hS w_1175 w_1176 w_1177 lk_151 ⟨by decide, by decide⟩ rfl gg6 rfl (by simp [Value.category]) dl_211 e2 z3 z4 ⟨by decide, by decide⟩ rfl (fun H locs hw hS => ?_)
  refine lv_pop hx hb dl_214 rfl ?_
  refine lv_goto (tgt := 857) hx hb dl_215 (by decide) ?_
  exact next h2 H locs j2 (z3.trans z1) (z4.trans z2) hw hS
theorem lcx_4 {p : Program} {l : Launch} {e : Env} {s : State} {m : MethodId} {below : List Frame} {meth : Method} {c : Code} {b L : Nat} {xs : Nat → Int32} {D : va_G} {dA : Nat → ClassId} {H : Heap} {locs : List Loc} {ls : Array Slot} {k : Nat} {h : am_H} (C0 : lw_At p s m meth c b L xs) (hL : L ≤ 256) (hk : 4 * k + 4 ≤ L) (hK : am_Kn s.heap.size D dA s) (hJ : Jv h) (hw : am_Wd s.heap.size D dA h H) (hS : va_S (fun q => s.heap.size ≤ q) s.heap H locs) (hl : lv_has ls 4 [(3, .int (Int32.ofNat (4 * k))), (2, .ref (s.heap.size + 66)), (1, .ref (s.heap.size + 0)), (0, .ref b)]) (next : ∀ (h2 : am_H) (H2 : Heap) (locs2 : List Loc), Jv h2 → h2.1 = h.1 → h2.2.1 = h.2.1 → am_Wd s.heap.size D dA h2 H2 → va_S (fun q => s.heap.size ≤ q) s.heap H2 locs2 → W p l e room_1 s m #[Value.ref b] below meth c H2 locs2 93 71397 (lw_Z below #[Value.ref b] s) (F0 m 857 ls [])) : W p l e room_1 s m #[Value.ref b] below meth c H locs 93 71397 (lw_Z below #[Value.ref b] s) (F0 m 218 ls []) := by
  have C1 := C0
  obtain ⟨hx, hb, hr, hml, hown, hts, hX, hbl, hlocks, hgv⟩ := C0
  have htb : ∀ w ∈ am_tbl, w.before #[Value.ref b] s = true := fun w hw => hts w (am_tbl_in hw)
  obtain ⟨v, h1, w, h2, e1, e2, ec, j2, ⟨fs0, gg0⟩, ⟨fs6, gg6⟩, ⟨z1, z2⟩, z3, z4⟩ := jb_minute (xs (4 * k + 1)).toUInt32.toNat (xs (4 * k + 2)).toUInt32.toNat (xs (4 * k + 3)).toUInt32.toNat (an_lt32 _) (an_lt32 _) (an_lt32 _) h hJ
  refine lv_aload_n hx hb dl_218 rfl (lv_at hl 2 rfl) ?_
  refine lw_ld (lv := []) (k := 1) (kv := Int32.ofNat 1) (v := Int32.ofNat (xs (4 * k + 1)).toUInt32.toNat) hx hb hX hbl hS (lv_at hl 3 rfl) (lv_at hl 0 rfl) (by decide) dl_219 dl_220 dl_221 dl_222 dl_223 (by rw [lx_add]; exact an_in (by omega) (by omega)) (by rw [lx_add, an_clamp (by omega), an_of]) ?_
  refine lw_ld (lv := []) (k := 2) (kv := Int32.ofNat 2) (v := Int32.ofNat (xs (4 * k + 2)).toUInt32.toNat) hx hb hX hbl hS (lv_at hl 3 rfl) (lv_at hl 0 rfl) (by decide) dl_224 dl_225 dl_226 dl_227 dl_228 (by rw [lx_add]; exact an_in (by omega) (by omega)) (by rw [lx_add, an_clamp (by omega), an_of]) ?_
  refine lw_ld (lv := []) (k := 3) (kv := Int32.ofNat 3) (v := Int32.ofNat (xs (4 * k + 3)).toUInt32.toNat) hx hb hX hbl hS (lv_at hl 3 rfl) (lv_at hl 0 rfl) (by decide) dl_229 dl_230 dl_231 dl_232 dl_233 (by rw [lx_add]; exact an_in (by omega) (by omega)) (by rw [lx_add, an_clamp (by omega), an_of]) ?_
  refine lx_cv (M' := mi_50) (idx := 31) (n := 3) (ci := 11) (b0 := 0) (fs := fs0) (as := [.retAddr (xs (4 * k + 1)).toUInt32.toNat, .retAddr (xs (4 * k + 2)).toUInt32.toNat, .retAddr (xs (4 * k + 3)).toUInt32.toNat]) (rest := []) (h := h) hx hb hml hl.1 hown htb hK hw hS w_580 w_581 w_582 lk_50 ⟨by decide, by decide⟩ rfl gg0 rfl (by simp [Value.category]) dl_234 e1 z1 z2 ⟨by decide, by decide⟩ rfl (fun H locs hw hS => ?_)
  refine lv_pop hx hb dl_237 rfl ?_
  refine lv_aload_n hx hb dl_238 rfl (lv_at hl 1 rfl) ?_
  refine lw_ld (lv := []) (k := 1) (kv := Int32.ofNat 1) (v := Int32.ofNat (xs (4 * k + 1)).toUInt32.toNat) hx hb hX hbl hS (lv_at hl 3 rfl) (lv_at hl 0 rfl) (by decide) dl_239 dl_240 dl_241 dl_242 dl_243 (by rw [lx_add]; exact an_in (by omega) (by omega)) (by rw [lx_add, an_clamp (by omega), an_of]) ?_
  refine lw_ld (lv := []) (k := 2) (kv := Int32.ofNat 2) (v := Int32.ofNat (xs (4 * k + 2)).toUInt32.toNat) hx hb hX hbl hS (lv_at hl 3 rfl) (lv_at hl 0 rfl) (by decide) dl_244 dl_245 dl_246 dl_247 dl_248 (by rw [lx_add]; exact an_in (by omega) (by omega)) (by rw [lx_add, an_clamp (by omega), an_of]) ?_
  refine lw_ld (lv := []) (k := 3) (kv := Int32.ofNat 3) (v := Int32.ofNat (xs (4 * k + 3)).toUInt32.toNat) hx hb hX hbl hS (lv_at hl 3 rfl) (lv_at hl 0 rfl) (by decide) dl_249 dl_250 dl_251 dl_252 dl_253 (by rw [lx_add]; exact an_in (by omega) (by omega)) (by rw [lx_add, an_clamp (by omega), an_of]) ?_
  refine lx_cv (M' := mi_152) (idx := 35) (n := 3) (ci := 12) (b0 := 66) (fs := fs6) (as := [.retAddr (xs (4 * k + 1)).toUInt32.toNat, .retAddr (xs (4 * k + 2)).toUInt32.toNat, .retAddr (xs (4 * k + 3)).toUInt32.toNat]) (rest := []) (h := h1) hx hb hml hl.1 hown htb hK hw hS w_1180 w_1181 w_1182 lk_152 ⟨by decide, by decide⟩ rfl gg6 rfl (by simp [Value.category]) dl_254 e2 z3 z4 ⟨by decide, by decide⟩ rfl (fun H locs hw hS => ?_)
  refine lv_pop hx hb dl_257 rfl ?_
  refine lv_goto (tgt := 857) hx hb dl_258 (by decide) ?_
  exact next h2 H locs j2 (z3.trans z1) (z4.trans z2) hw hS
theorem lcx_5 {p : Program} {l : Launch} {e : Env} {s : State} {m : MethodId} {below : List Frame} {meth : Method} {c : Code} {b L : Nat} {xs : Nat → Int32} {D : va_G} {dA : Nat → ClassId} {H : Heap} {locs : List Loc} {ls : Array Slot} {k : Nat} {h : am_H} (C0 : lw_At p s m meth c b L xs) (hL : L ≤ 256) (hk : 4 * k + 4 ≤ L) (hK : am_Kn s.heap.size D dA s) (hJ : Jv h) (hw : am_Wd s.heap.size D dA h H) (hS : va_S (fun q => s.heap.size ≤ q) s.heap H locs) (hl : lv_has ls 4 [(3, .int (Int32.ofNat (4 * k))), (2, .ref (s.heap.size + 66)), (1, .ref (s.heap.size + 0)), (0, .ref b)]) (next : ∀ (h2 : am_H) (H2 : Heap) (locs2 : List Loc), Jv h2 → h2.1 = h.1 → h2.2.1 = h.2.1 → am_Wd s.heap.size D dA h2 H2 → va_S (fun q => s.heap.size ≤ q) s.heap H2 locs2 → W p l e room_1 s m #[Value.ref b] below meth c H2 locs2 93 71397 (lw_Z below #[Value.ref b] s) (F0 m 857 ls [])) : W p l e room_1 s m #[Value.ref b] below meth c H locs 93 71397 (lw_Z below #[Value.ref b] s) (F0 m 261 ls []) := by
  have C1 := C0
  obtain ⟨hx, hb, hr, hml, hown, hts, hX, hbl, hlocks, hgv⟩ := C0
  have htb : ∀ w ∈ am_tbl, w.before #[Value.ref b] s = true := fun w hw => hts w (am_tbl_in hw)
  obtain ⟨v, h1, w, h2, e1, e2, ec, j2, ⟨fs0, gg0⟩, ⟨fs6, gg6⟩, ⟨z1, z2⟩, z3, z4⟩ := jb_known (xs (4 * k + 1)).toUInt32.toNat (an_lt32 _) h hJ
  refine lv_aload_n hx hb dl_261 rfl (lv_at hl 2 rfl) ?_
  refine lw_ld (lv := []) (k := 1) (kv := Int32.ofNat 1) (v := Int32.ofNat (xs (4 * k + 1)).toUInt32.toNat) hx hb hX hbl hS (lv_at hl 3 rfl) (lv_at hl 0 rfl) (by decide) dl_262 dl_263 dl_264 dl_265 dl_266 (by rw [lx_add]; exact an_in (by omega) (by omega)) (by rw [lx_add, an_clamp (by omega), an_of]) ?_
  refine lx_cv (M' := mi_55) (idx := 36) (n := 1) (ci := 11) (b0 := 0) (fs := fs0) (as := [.retAddr (xs (4 * k + 1)).toUInt32.toNat]) (rest := []) (h := h) hx hb hml hl.1 hown htb hK hw hS w_601 w_602 w_603 lk_55 ⟨by decide, by decide⟩ rfl gg0 rfl (by simp [Value.category]) dl_267 e1 z1 z2 ⟨by decide, by decide⟩ rfl (fun H locs hw hS => ?_)
  refine lv_pop hx hb dl_270 rfl ?_
  refine lv_aload_n hx hb dl_271 rfl (lv_at hl 1 rfl) ?_
  refine lw_ld (lv := []) (k := 1) (kv := Int32.ofNat 1) (v := Int32.ofNat (xs (4 * k + 1)).toUInt32.toNat) hx hb hX hbl hS (lv_at hl 3 rfl) (lv_at hl 0 rfl) (by decide) dl_272 dl_273 dl_274 dl_275 dl_276 (by rw [lx_add]; exact an_in (by omega) (by omega)) (by rw [lx_add, an_clamp (by omega), an_of]) ?_
  refine lx_cv (M' := mi_160) (idx := 39) (n := 1) (ci := 12) (b0 := 66) (fs := fs6) (as := [.retAddr (xs (4 * k + 1)).toUInt32.toNat]) (rest := []) (h := h1) hx hb hml hl.1 hown htb hK hw hS w_1211 w_1212 w_1213 lk_160 ⟨by decide, by decide⟩ rfl gg6 rfl (by simp [Value.category]) dl_277 e2 z3 z4 ⟨by decide, by decide⟩ rfl (fun H locs hw hS => ?_)
  refine lv_pop hx hb dl_280 rfl ?_
  refine lv_goto (tgt := 857) hx hb dl_281 (by decide) ?_
  exact next h2 H locs j2 (z3.trans z1) (z4.trans z2) hw hS
theorem lcx_6 {p : Program} {l : Launch} {e : Env} {s : State} {m : MethodId} {below : List Frame} {meth : Method} {c : Code} {b L : Nat} {xs : Nat → Int32} {D : va_G} {dA : Nat → ClassId} {H : Heap} {locs : List Loc} {ls : Array Slot} {k : Nat} {h : am_H} (C0 : lw_At p s m meth c b L xs) (hL : L ≤ 256) (hk : 4 * k + 4 ≤ L) (hK : am_Kn s.heap.size D dA s) (hJ : Jv h) (hw : am_Wd s.heap.size D dA h H) (hS : va_S (fun q => s.heap.size ≤ q) s.heap H locs) (hl : lv_has ls 4 [(3, .int (Int32.ofNat (4 * k))), (2, .ref (s.heap.size + 66)), (1, .ref (s.heap.size + 0)), (0, .ref b)]) (next : ∀ (h2 : am_H) (H2 : Heap) (locs2 : List Loc), Jv h2 → h2.1 = h.1 → h2.2.1 = h.2.1 → am_Wd s.heap.size D dA h2 H2 → va_S (fun q => s.heap.size ≤ q) s.heap H2 locs2 → W p l e room_1 s m #[Value.ref b] below meth c H2 locs2 93 71397 (lw_Z below #[Value.ref b] s) (F0 m 857 ls [])) : W p l e room_1 s m #[Value.ref b] below meth c H locs 93 71397 (lw_Z below #[Value.ref b] s) (F0 m 284 ls []) := by
  have C1 := C0
  obtain ⟨hx, hb, hr, hml, hown, hts, hX, hbl, hlocks, hgv⟩ := C0
  have htb : ∀ w ∈ am_tbl, w.before #[Value.ref b] s = true := fun w hw => hts w (am_tbl_in hw)
  obtain ⟨v, h1, w, h2, e1, e2, ec, j2, ⟨fs0, gg0⟩, ⟨fs6, gg6⟩, ⟨z1, z2⟩, z3, z4⟩ := jb_watcher (xs (4 * k + 1)).toUInt32.toNat (xs (4 * k + 2)).toUInt32.toNat (an_lt32 _) (an_lt32 _) h hJ
  refine lv_aload_n hx hb dl_284 rfl (lv_at hl 2 rfl) ?_
  refine lw_ld (lv := []) (k := 1) (kv := Int32.ofNat 1) (v := Int32.ofNat (xs (4 * k + 1)).toUInt32.toNat) hx hb hX hbl hS (lv_at hl 3 rfl) (lv_at hl 0 rfl) (by decide) dl_285 dl_286 dl_287 dl_288 dl_289 (by rw [lx_add]; exact an_in (by omega) (by omega)) (by rw [lx_add, an_clamp (by omega), an_of]) ?_
  refine lw_ld (lv := []) (k := 2) (kv := Int32.ofNat 2) (v := Int32.ofNat (xs (4 * k + 2)).toUInt32.toNat) hx hb hX hbl hS (lv_at hl 3 rfl) (lv_at hl 0 rfl) (by decide) dl_290 dl_291 dl_292 dl_293 dl_294 (by rw [lx_add]; exact an_in (by omega) (by omega)) (by rw [lx_add, an_clamp (by omega), an_of]) ?_
  refine lx_cv (M' := mi_58) (idx := 40) (n := 2) (ci := 11) (b0 := 0) (fs := fs0) (as := [.retAddr (xs (4 * k + 1)).toUInt32.toNat, .retAddr (xs (4 * k + 2)).toUInt32.toNat]) (rest := []) (h := h) hx hb hml hl.1 hown htb hK hw hS w_612 w_613 w_614 lk_58 ⟨by decide, by decide⟩ rfl gg0 rfl (by simp [Value.category]) dl_295 e1 z1 z2 ⟨by decide, by decide⟩ rfl (fun H locs hw hS => ?_)
  refine lv_pop hx hb dl_298 rfl ?_
  refine lv_aload_n hx hb dl_299 rfl (lv_at hl 1 rfl) ?_
  refine lw_ld (lv := []) (k := 1) (kv := Int32.ofNat 1) (v := Int32.ofNat (xs (4 * k + 1)).toUInt32.toNat) hx hb hX hbl hS (lv_at hl 3 rfl) (lv_at hl 0 rfl) (by decide) dl_300 dl_301 dl_302 dl_303 dl_304 (by rw [lx_add]; exact an_in (by omega) (by omega)) (by rw [lx_add, an_clamp (by omega), an_of]) ?_
  refine lw_ld (lv := []) (k := 2) (kv := Int32.ofNat 2) (v := Int32.ofNat (xs (4 * k + 2)).toUInt32.toNat) hx hb hX hbl hS (lv_at hl 3 rfl) (lv_at hl 0 rfl) (by decide) dl_305 dl_306 dl_307 dl_308 dl_309 (by rw [lx_add]; exact an_in (by omega) (by omega)) (by rw [lx_add, an_clamp (by omega), an_of]) ?_
  refine lx_cv (M' := mi_163) (idx := 44) (n := 2) (ci := 12) (b0 := 66) (fs := fs6) (as := [.retAddr (xs (4 * k + 1)).toUInt32.toNat, .retAddr (xs (4 * k + 2)).toUInt32.toNat]) (rest := []) (h := h1) hx hb hml hl.1 hown htb hK hw hS w_1222 w_1223 w_1224 lk_163 ⟨by decide, by decide⟩ rfl gg6 rfl (by simp [Value.category]) dl_310 e2 z3 z4 ⟨by decide, by decide⟩ rfl (fun H locs hw hS => ?_)
  refine lv_pop hx hb dl_313 rfl ?_
  refine lv_goto (tgt := 857) hx hb dl_314 (by decide) ?_
  exact next h2 H locs j2 (z3.trans z1) (z4.trans z2) hw hS
theorem lcx_7 {p : Program} {l : Launch} {e : Env} {s : State} {m : MethodId} {below : List Frame} {meth : Method} {c : Code} {b L : Nat} {xs : Nat → Int32} {D : va_G} {dA : Nat → ClassId} {H : Heap} {locs : List Loc} {ls : Array Slot} {k : Nat} {h : am_H} (C0 : lw_At p s m meth c b L xs) (hL : L ≤ 256) (hk : 4 * k + 4 ≤ L) (hK : am_Kn s.heap.size D dA s) (hJ : Jv h) (hw : am_Wd s.heap.size D dA h H) (hS : va_S (fun q => s.heap.size ≤ q) s.heap H locs) (hl : lv_has ls 4 [(3, .int (Int32.ofNat (4 * k))), (2, .ref (s.heap.size + 66)), (1, .ref (s.heap.size + 0)), (0, .ref b)]) (next : ∀ (h2 : am_H) (H2 : Heap) (locs2 : List Loc), Jv h2 → h2.1 = h.1 → h2.2.1 = h.2.1 → am_Wd s.heap.size D dA h2 H2 → va_S (fun q => s.heap.size ≤ q) s.heap H2 locs2 → W p l e room_1 s m #[Value.ref b] below meth c H2 locs2 93 71397 (lw_Z below #[Value.ref b] s) (F0 m 857 ls [])) : W p l e room_1 s m #[Value.ref b] below meth c H locs 93 71397 (lw_Z below #[Value.ref b] s) (F0 m 317 ls []) := by
  have C1 := C0
  obtain ⟨hx, hb, hr, hml, hown, hts, hX, hbl, hlocks, hgv⟩ := C0
  have htb : ∀ w ∈ am_tbl, w.before #[Value.ref b] s = true := fun w hw => hts w (am_tbl_in hw)
  obtain ⟨v, h1, w, h2, e1, e2, ec, j2, ⟨fs0, gg0⟩, ⟨fs6, gg6⟩, ⟨z1, z2⟩, z3, z4⟩ := jb_where (xs (4 * k + 1)).toUInt32.toNat (xs (4 * k + 2)).toUInt32.toNat (an_lt32 _) (an_lt32 _) h hJ
  refine lv_aload_n hx hb dl_317 rfl (lv_at hl 2 rfl) ?_
  refine lw_ld (lv := []) (k := 1) (kv := Int32.ofNat 1) (v := Int32.ofNat (xs (4 * k + 1)).toUInt32.toNat) hx hb hX hbl hS (lv_at hl 3 rfl) (lv_at hl 0 rfl) (by decide) dl_318 dl_319 dl_320 dl_321 dl_322 (by rw [lx_add]; exact an_in (by omega) (by omega)) (by rw [lx_add, an_clamp (by omega), an_of]) ?_
  refine lw_ld (lv := []) (k := 2) (kv := Int32.ofNat 2) (v := Int32.ofNat (xs (4 * k + 2)).toUInt32.toNat) hx hb hX hbl hS (lv_at hl 3 rfl) (lv_at hl 0 rfl) (by decide) dl_323 dl_324 dl_325 dl_326 dl_327 (by rw [lx_add]; exact an_in (by omega) (by omega)) (by rw [lx_add, an_clamp (by omega), an_of]) ?_
  refine lx_cv (M' := mi_75) (idx := 45) (n := 2) (ci := 11) (b0 := 0) (fs := fs0) (as := [.retAddr (xs (4 * k + 1)).toUInt32.toNat, .retAddr (xs (4 * k + 2)).toUInt32.toNat]) (rest := []) (h := h) hx hb hml hl.1 hown htb hK hw hS w_685 w_686 w_687 lk_75 ⟨by decide, by decide⟩ rfl gg0 rfl (by simp [Value.category]) dl_328 e1 z1 z2 ⟨by decide, by decide⟩ rfl (fun H locs hw hS => ?_)
  refine lv_pop hx hb dl_331 rfl ?_
  refine lv_aload_n hx hb dl_332 rfl (lv_at hl 1 rfl) ?_
  refine lw_ld (lv := []) (k := 1) (kv := Int32.ofNat 1) (v := Int32.ofNat (xs (4 * k + 1)).toUInt32.toNat) hx hb hX hbl hS (lv_at hl 3 rfl) (lv_at hl 0 rfl) (by decide) dl_333 dl_334 dl_335 dl_336 dl_337 (by rw [lx_add]; exact an_in (by omega) (by omega)) (by rw [lx_add, an_clamp (by omega), an_of]) ?_
  refine lw_ld (lv := []) (k := 2) (kv := Int32.ofNat 2) (v := Int32.ofNat (xs (4 * k + 2)).toUInt32.toNat) hx hb hX hbl hS (lv_at hl 3 rfl) (lv_at hl 0 rfl) (by decide) dl_338 dl_339 dl_340 dl_341 dl_342 (by rw [lx_add]; exact an_in (by omega) (by omega)) (by rw [lx_add, an_clamp (by omega), an_of]) ?_
  refine lx_cv (M' := mi_175) (idx := 48) (n := 2) (ci := 12) (b0 := 66) (fs := fs6) (as := [.retAddr (xs (4 * k + 1)).toUInt32.toNat, .retAddr (xs (4 * k + 2)).toUInt32.toNat]) (rest := []) (h := h1) hx hb hml hl.1 hown htb hK hw hS w_1270 w_1271 w_1272 lk_175 ⟨by decide, by decide⟩ rfl gg6 rfl (by simp [Value.category]) dl_343 e2 z3 z4 ⟨by decide, by decide⟩ rfl (fun H locs hw hS => ?_)
  refine lv_pop hx hb dl_346 rfl ?_
  refine lv_goto (tgt := 857) hx hb dl_347 (by decide) ?_
  exact next h2 H locs j2 (z3.trans z1) (z4.trans z2) hw hS
theorem lcx_8 {p : Program} {l : Launch} {e : Env} {s : State} {m : MethodId} {below : List Frame} {meth : Method} {c : Code} {b L : Nat} {xs : Nat → Int32} {D : va_G} {dA : Nat → ClassId} {H : Heap} {locs : List Loc} {ls : Array Slot} {k : Nat} {h : am_H} (C0 : lw_At p s m meth c b L xs) (hL : L ≤ 256) (hk : 4 * k + 4 ≤ L) (hK : am_Kn s.heap.size D dA s) (hJ : Jv h) (hw : am_Wd s.heap.size D dA h H) (hS : va_S (fun q => s.heap.size ≤ q) s.heap H locs) (hl : lv_has ls 4 [(3, .int (Int32.ofNat (4 * k))), (2, .ref (s.heap.size + 66)), (1, .ref (s.heap.size + 0)), (0, .ref b)]) (next : ∀ (h2 : am_H) (H2 : Heap) (locs2 : List Loc), Jv h2 → h2.1 = h.1 → h2.2.1 = h.2.1 → am_Wd s.heap.size D dA h2 H2 → va_S (fun q => s.heap.size ≤ q) s.heap H2 locs2 → W p l e room_1 s m #[Value.ref b] below meth c H2 locs2 93 71397 (lw_Z below #[Value.ref b] s) (F0 m 857 ls [])) : W p l e room_1 s m #[Value.ref b] below meth c H locs 93 71397 (lw_Z below #[Value.ref b] s) (F0 m 350 ls []) := by
  have C1 := C0
  obtain ⟨hx, hb, hr, hml, hown, hts, hX, hbl, hlocks, hgv⟩ := C0
  have htb : ∀ w ∈ am_tbl, w.before #[Value.ref b] s = true := fun w hw => hts w (am_tbl_in hw)
  obtain ⟨v, h1, w, h2, e1, e2, ec, j2, ⟨fs0, gg0⟩, ⟨fs6, gg6⟩, ⟨z1, z2⟩, z3, z4⟩ := jb_begin (xs (4 * k + 1)).toUInt32.toNat (an_lt32 _) h hJ
  refine lv_aload_n hx hb dl_350 rfl (lv_at hl 2 rfl) ?_
  refine lw_ld (lv := []) (k := 1) (kv := Int32.ofNat 1) (v := Int32.ofNat (xs (4 * k + 1)).toUInt32.toNat) hx hb hX hbl hS (lv_at hl 3 rfl) (lv_at hl 0 rfl) (by decide) dl_351 dl_352 dl_353 dl_354 dl_355 (by rw [lx_add]; exact an_in (by omega) (by omega)) (by rw [lx_add, an_clamp (by omega), an_of]) ?_
  refine lx_cv (M' := mi_77) (idx := 49) (n := 1) (ci := 11) (b0 := 0) (fs := fs0) (as := [.retAddr (xs (4 * k + 1)).toUInt32.toNat]) (rest := []) (h := h) hx hb hml hl.1 hown htb hK hw hS w_693 w_694 w_695 lk_77 ⟨by decide, by decide⟩ rfl gg0 rfl (by simp [Value.category]) dl_356 e1 z1 z2 ⟨by decide, by decide⟩ rfl (fun H locs hw hS => ?_)
  refine lv_pop hx hb dl_359 rfl ?_
  refine lv_aload_n hx hb dl_360 rfl (lv_at hl 1 rfl) ?_
  refine lw_ld (lv := []) (k := 1) (kv := Int32.ofNat 1) (v := Int32.ofNat (xs (4 * k + 1)).toUInt32.toNat) hx hb hX hbl hS (lv_at hl 3 rfl) (lv_at hl 0 rfl) (by decide) dl_361 dl_362 dl_363 dl_364 dl_365 (by rw [lx_add]; exact an_in (by omega) (by omega)) (by rw [lx_add, an_clamp (by omega), an_of]) ?_
  refine lx_cv (M' := mi_176) (idx := 52) (n := 1) (ci := 12) (b0 := 66) (fs := fs6) (as := [.retAddr (xs (4 * k + 1)).toUInt32.toNat]) (rest := []) (h := h1) hx hb hml hl.1 hown htb hK hw hS w_1274 w_1275 w_1276 lk_176 ⟨by decide, by decide⟩ rfl gg6 rfl (by simp [Value.category]) dl_366 e2 z3 z4 ⟨by decide, by decide⟩ rfl (fun H locs hw hS => ?_)
  refine lv_pop hx hb dl_369 rfl ?_
  refine lv_goto (tgt := 857) hx hb dl_370 (by decide) ?_
  exact next h2 H locs j2 (z3.trans z1) (z4.trans z2) hw hS
theorem lcx_9 {p : Program} {l : Launch} {e : Env} {s : State} {m : MethodId} {below : List Frame} {meth : Method} {c : Code} {b L : Nat} {xs : Nat → Int32} {D : va_G} {dA : Nat → ClassId} {H : Heap} {locs : List Loc} {ls : Array Slot} {k : Nat} {h : am_H} (C0 : lw_At p s m meth c b L xs) (hL : L ≤ 256) (hk : 4 * k + 4 ≤ L) (hK : am_Kn s.heap.size D dA s) (hJ : Jv h) (hw : am_Wd s.heap.size D dA h H) (hS : va_S (fun q => s.heap.size ≤ q) s.heap H locs) (hl : lv_has ls 4 [(3, .int (Int32.ofNat (4 * k))), (2, .ref (s.heap.size + 66)), (1, .ref (s.heap.size + 0)), (0, .ref b)]) (next : ∀ (h2 : am_H) (H2 : Heap) (locs2 : List Loc), Jv h2 → h2.1 = h.1 → h2.2.1 = h.2.1 → am_Wd s.heap.size D dA h2 H2 → va_S (fun q => s.heap.size ≤ q) s.heap H2 locs2 → W p l e room_1 s m #[Value.ref b] below meth c H2 locs2 93 71397 (lw_Z below #[Value.ref b] s) (F0 m 857 ls [])) : W p l e room_1 s m #[Value.ref b] below meth c H locs 93 71397 (lw_Z below #[Value.ref b] s) (F0 m 373 ls []) := by
  have C1 := C0
  obtain ⟨hx, hb, hr, hml, hown, hts, hX, hbl, hlocks, hgv⟩ := C0
  have htb : ∀ w ∈ am_tbl, w.before #[Value.ref b] s = true := fun w hw => hts w (am_tbl_in hw)
  obtain ⟨v, h1, w, h2, e1, e2, ec, j2, ⟨fs0, gg0⟩, ⟨fs6, gg6⟩, ⟨z1, z2⟩, z3, z4⟩ := jb_over (xs (4 * k + 1)).toUInt32.toNat (xs (4 * k + 2)).toUInt32.toNat (an_lt32 _) (an_lt32 _) h hJ
  refine lv_aload_n hx hb dl_373 rfl (lv_at hl 2 rfl) ?_
  refine lw_ld (lv := []) (k := 1) (kv := Int32.ofNat 1) (v := Int32.ofNat (xs (4 * k + 1)).toUInt32.toNat) hx hb hX hbl hS (lv_at hl 3 rfl) (lv_at hl 0 rfl) (by decide) dl_374 dl_375 dl_376 dl_377 dl_378 (by rw [lx_add]; exact an_in (by omega) (by omega)) (by rw [lx_add, an_clamp (by omega), an_of]) ?_
  refine lw_ld (lv := []) (k := 2) (kv := Int32.ofNat 2) (v := Int32.ofNat (xs (4 * k + 2)).toUInt32.toNat) hx hb hX hbl hS (lv_at hl 3 rfl) (lv_at hl 0 rfl) (by decide) dl_379 dl_380 dl_381 dl_382 dl_383 (by rw [lx_add]; exact an_in (by omega) (by omega)) (by rw [lx_add, an_clamp (by omega), an_of]) ?_
  refine lx_cv (M' := mi_79) (idx := 53) (n := 2) (ci := 11) (b0 := 0) (fs := fs0) (as := [.retAddr (xs (4 * k + 1)).toUInt32.toNat, .retAddr (xs (4 * k + 2)).toUInt32.toNat]) (rest := []) (h := h) hx hb hml hl.1 hown htb hK hw hS w_702 w_703 w_704 lk_79 ⟨by decide, by decide⟩ rfl gg0 rfl (by simp [Value.category]) dl_384 e1 z1 z2 ⟨by decide, by decide⟩ rfl (fun H locs hw hS => ?_)
  refine lv_pop hx hb dl_387 rfl ?_
  refine lv_aload_n hx hb dl_388 rfl (lv_at hl 1 rfl) ?_
  refine lw_ld (lv := []) (k := 1) (kv := Int32.ofNat 1) (v := Int32.ofNat (xs (4 * k + 1)).toUInt32.toNat) hx hb hX hbl hS (lv_at hl 3 rfl) (lv_at hl 0 rfl) (by decide) dl_389 dl_390 dl_391 dl_392 dl_393 (by rw [lx_add]; exact an_in (by omega) (by omega)) (by rw [lx_add, an_clamp (by omega), an_of]) ?_
  refine lw_ld (lv := []) (k := 2) (kv := Int32.ofNat 2) (v := Int32.ofNat (xs (4 * k + 2)).toUInt32.toNat) hx hb hX hbl hS (lv_at hl 3 rfl) (lv_at hl 0 rfl) (by decide) dl_394 dl_395 dl_396 dl_397 dl_398 (by rw [lx_add]; exact an_in (by omega) (by omega)) (by rw [lx_add, an_clamp (by omega), an_of]) ?_
  refine lx_cv (M' := mi_178) (idx := 56) (n := 2) (ci := 12) (b0 := 66) (fs := fs6) (as := [.retAddr (xs (4 * k + 1)).toUInt32.toNat, .retAddr (xs (4 * k + 2)).toUInt32.toNat]) (rest := []) (h := h1) hx hb hml hl.1 hown htb hK hw hS w_1282 w_1283 w_1284 lk_178 ⟨by decide, by decide⟩ rfl gg6 rfl (by simp [Value.category]) dl_399 e2 z3 z4 ⟨by decide, by decide⟩ rfl (fun H locs hw hS => ?_)
  refine lv_pop hx hb dl_402 rfl ?_
  refine lv_goto (tgt := 857) hx hb dl_403 (by decide) ?_
  exact next h2 H locs j2 (z3.trans z1) (z4.trans z2) hw hS
theorem lcx_10 {p : Program} {l : Launch} {e : Env} {s : State} {m : MethodId} {below : List Frame} {meth : Method} {c : Code} {b L : Nat} {xs : Nat → Int32} {D : va_G} {dA : Nat → ClassId} {H : Heap} {locs : List Loc} {ls : Array Slot} {k : Nat} {h : am_H} (C0 : lw_At p s m meth c b L xs) (hL : L ≤ 256) (hk : 4 * k + 4 ≤ L) (hK : am_Kn s.heap.size D dA s) (hJ : Jv h) (hw : am_Wd s.heap.size D dA h H) (hS : va_S (fun q => s.heap.size ≤ q) s.heap H locs) (hl : lv_has ls 4 [(3, .int (Int32.ofNat (4 * k))), (2, .ref (s.heap.size + 66)), (1, .ref (s.heap.size + 0)), (0, .ref b)]) (next : ∀ (h2 : am_H) (H2 : Heap) (locs2 : List Loc), Jv h2 → h2.1 = h.1 → h2.2.1 = h.2.1 → am_Wd s.heap.size D dA h2 H2 → va_S (fun q => s.heap.size ≤ q) s.heap H2 locs2 → W p l e room_1 s m #[Value.ref b] below meth c H2 locs2 93 71397 (lw_Z below #[Value.ref b] s) (F0 m 857 ls [])) : W p l e room_1 s m #[Value.ref b] below meth c H locs 93 71397 (lw_Z below #[Value.ref b] s) (F0 m 406 ls []) := by
  have C1 := C0
  obtain ⟨hx, hb, hr, hml, hown, hts, hX, hbl, hlocks, hgv⟩ := C0
  have htb : ∀ w ∈ am_tbl, w.before #[Value.ref b] s = true := fun w hw => hts w (am_tbl_in hw)
  obtain ⟨v, h1, w, h2, e1, e2, ec, j2, ⟨fs0, gg0⟩, ⟨fs6, gg6⟩, ⟨z1, z2⟩, z3, z4⟩ := jb_undo   h hJ
  refine lv_aload_n hx hb dl_406 rfl (lv_at hl 2 rfl) ?_
  refine lx_cv (M' := mi_81) (idx := 57) (n := 0) (ci := 11) (b0 := 0) (fs := fs0) (as := []) (rest := []) (h := h) hx hb hml hl.1 hown htb hK hw hS w_710 w_711 w_712 lk_81 ⟨by decide, by decide⟩ rfl gg0 rfl (by simp [Value.category]) dl_407 e1 z1 z2 ⟨by decide, by decide⟩ rfl (fun H locs hw hS => ?_)
  refine lv_pop hx hb dl_410 rfl ?_
  refine lv_aload_n hx hb dl_411 rfl (lv_at hl 1 rfl) ?_
  refine lx_cv (M' := mi_179) (idx := 60) (n := 0) (ci := 12) (b0 := 66) (fs := fs6) (as := []) (rest := []) (h := h1) hx hb hml hl.1 hown htb hK hw hS w_1286 w_1287 w_1288 lk_179 ⟨by decide, by decide⟩ rfl gg6 rfl (by simp [Value.category]) dl_412 e2 z3 z4 ⟨by decide, by decide⟩ rfl (fun H locs hw hS => ?_)
  refine lv_pop hx hb dl_415 rfl ?_
  refine lv_goto (tgt := 857) hx hb dl_416 (by decide) ?_
  exact next h2 H locs j2 (z3.trans z1) (z4.trans z2) hw hS
theorem lcx_11 {p : Program} {l : Launch} {e : Env} {s : State} {m : MethodId} {below : List Frame} {meth : Method} {c : Code} {b L : Nat} {xs : Nat → Int32} {D : va_G} {dA : Nat → ClassId} {H : Heap} {locs : List Loc} {ls : Array Slot} {k : Nat} {h : am_H} (C0 : lw_At p s m meth c b L xs) (hL : L ≤ 256) (hk : 4 * k + 4 ≤ L) (hK : am_Kn s.heap.size D dA s) (hJ : Jv h) (hw : am_Wd s.heap.size D dA h H) (hS : va_S (fun q => s.heap.size ≤ q) s.heap H locs) (hl : lv_has ls 4 [(3, .int (Int32.ofNat (4 * k))), (2, .ref (s.heap.size + 66)), (1, .ref (s.heap.size + 0)), (0, .ref b)]) (next : ∀ (h2 : am_H) (H2 : Heap) (locs2 : List Loc), Jv h2 → h2.1 = h.1 → h2.2.1 = h.2.1 → am_Wd s.heap.size D dA h2 H2 → va_S (fun q => s.heap.size ≤ q) s.heap H2 locs2 → W p l e room_1 s m #[Value.ref b] below meth c H2 locs2 93 71397 (lw_Z below #[Value.ref b] s) (F0 m 857 ls [])) : W p l e room_1 s m #[Value.ref b] below meth c H locs 93 71397 (lw_Z below #[Value.ref b] s) (F0 m 419 ls []) := by
  have C1 := C0
  obtain ⟨hx, hb, hr, hml, hown, hts, hX, hbl, hlocks, hgv⟩ := C0
  have htb : ∀ w ∈ am_tbl, w.before #[Value.ref b] s = true := fun w hw => hts w (am_tbl_in hw)
  obtain ⟨v, h1, w, h2, e1, e2, ec, j2, ⟨fs0, gg0⟩, ⟨fs6, gg6⟩, ⟨z1, z2⟩, z3, z4⟩ := jb_judge   h hJ
  refine lv_aload_n hx hb dl_419 rfl (lv_at hl 2 rfl) ?_
  refine lx_cv (M' := mi_84) (idx := 61) (n := 0) (ci := 11) (b0 := 0) (fs := fs0) (as := []) (rest := []) (h := h) hx hb hml hl.1 hown htb hK hw hS w_723 w_724 w_725 lk_84 ⟨by decide, by decide⟩ rfl gg0 rfl (by simp [Value.category]) dl_420 e1 z1 z2 ⟨by decide, by decide⟩ rfl (fun H locs hw hS => ?_)
  refine lv_pop hx hb dl_423 rfl ?_
  refine lv_aload_n hx hb dl_424 rfl (lv_at hl 1 rfl) ?_
  refine lx_cv (M' := mi_180) (idx := 64) (n := 0) (ci := 12) (b0 := 66) (fs := fs6) (as := []) (rest := []) (h := h1) hx hb hml hl.1 hown htb hK hw hS w_1290 w_1291 w_1292 lk_180 ⟨by decide, by decide⟩ rfl gg6 rfl (by simp [Value.category]) dl_425 e2 z3 z4 ⟨by decide, by decide⟩ rfl (fun H locs hw hS => ?_)
  refine lv_pop hx hb dl_428 rfl ?_
  refine lv_goto (tgt := 857) hx hb dl_429 (by decide) ?_
  exact next h2 H locs j2 (z3.trans z1) (z4.trans z2) hw hS
theorem lcx_12 {p : Program} {l : Launch} {e : Env} {s : State} {m : MethodId} {below : List Frame} {meth : Method} {c : Code} {b L : Nat} {xs : Nat → Int32} {D : va_G} {dA : Nat → ClassId} {H : Heap} {locs : List Loc} {ls : Array Slot} {k : Nat} {h : am_H} (C0 : lw_At p s m meth c b L xs) (hL : L ≤ 256) (hk : 4 * k + 4 ≤ L) (hK : am_Kn s.heap.size D dA s) (hJ : Jv h) (hw : am_Wd s.heap.size D dA h H) (hS : va_S (fun q => s.heap.size ≤ q) s.heap H locs) (hl : lv_has ls 4 [(3, .int (Int32.ofNat (4 * k))), (2, .ref (s.heap.size + 66)), (1, .ref (s.heap.size + 0)), (0, .ref b)]) (next : ∀ (h2 : am_H) (H2 : Heap) (locs2 : List Loc), Jv h2 → h2.1 = h.1 → h2.2.1 = h.2.1 → am_Wd s.heap.size D dA h2 H2 → va_S (fun q => s.heap.size ≤ q) s.heap H2 locs2 → W p l e room_1 s m #[Value.ref b] below meth c H2 locs2 93 71397 (lw_Z below #[Value.ref b] s) (F0 m 857 ls [])) : W p l e room_1 s m #[Value.ref b] below meth c H locs 93 71397 (lw_Z below #[Value.ref b] s) (F0 m 432 ls []) := by
  have C1 := C0
  obtain ⟨hx, hb, hr, hml, hown, hts, hX, hbl, hlocks, hgv⟩ := C0
  have htb : ∀ w ∈ am_tbl, w.before #[Value.ref b] s = true := fun w hw => hts w (am_tbl_in hw)
  obtain ⟨v, h1, w, h2, e1, e2, ec, j2, ⟨fs0, gg0⟩, ⟨fs6, gg6⟩, ⟨z1, z2⟩, z3, z4⟩ := jb_plan (xs (4 * k + 1)).toUInt32.toNat (an_lt32 _) h hJ
  refine lv_aload_n hx hb dl_432 rfl (lv_at hl 2 rfl) ?_
  refine lw_ld (lv := []) (k := 1) (kv := Int32.ofNat 1) (v := Int32.ofNat (xs (4 * k + 1)).toUInt32.toNat) hx hb hX hbl hS (lv_at hl 3 rfl) (lv_at hl 0 rfl) (by decide) dl_433 dl_434 dl_435 dl_436 dl_437 (by rw [lx_add]; exact an_in (by omega) (by omega)) (by rw [lx_add, an_clamp (by omega), an_of]) ?_
  refine lx_cv (M' := mi_85) (idx := 65) (n := 1) (ci := 11) (b0 := 0) (fs := fs0) (as := [.retAddr (xs (4 * k + 1)).toUInt32.toNat]) (rest := []) (h := h) hx hb hml hl.1 hown htb hK hw hS w_728 w_729 w_730 lk_85 ⟨by decide, by decide⟩ rfl gg0 rfl (by simp [Value.category]) dl_438 e1 z1 z2 ⟨by decide, by decide⟩ rfl (fun H locs hw hS => ?_)
  refine lv_pop hx hb dl_441 rfl ?_
  refine lv_aload_n hx hb dl_442 rfl (lv_at hl 1 rfl) ?_
  refine lw_ld (lv := []) (k := 1) (kv := Int32.ofNat 1) (v := Int32.ofNat (xs (4 * k + 1)).toUInt32.toNat) hx hb hX hbl hS (lv_at hl 3 rfl) (lv_at hl 0 rfl) (by decide) dl_443 dl_444 dl_445 dl_446 dl_447 (by rw [lx_add]; exact an_in (by omega) (by omega)) (by rw [lx_add, an_clamp (by omega), an_of]) ?_
  refine lx_cv (M' := mi_182) (idx := 68) (n := 1) (ci := 12) (b0 := 66) (fs := fs6) (as := [.retAddr (xs (4 * k + 1)).toUInt32.toNat]) (rest := []) (h := h1) hx hb hml hl.1 hown htb hK hw hS w_1298 w_1299 w_1300 lk_182 ⟨by decide, by decide⟩ rfl gg6 rfl (by simp [Value.category]) dl_448 e2 z3 z4 ⟨by decide, by decide⟩ rfl (fun H locs hw hS => ?_)
  refine lv_pop hx hb dl_451 rfl ?_
  refine lv_goto (tgt := 857) hx hb dl_452 (by decide) ?_
  exact next h2 H locs j2 (z3.trans z1) (z4.trans z2) hw hS
theorem lcx_13 {p : Program} {l : Launch} {e : Env} {s : State} {m : MethodId} {below : List Frame} {meth : Method} {c : Code} {b L : Nat} {xs : Nat → Int32} {D : va_G} {dA : Nat → ClassId} {H : Heap} {locs : List Loc} {ls : Array Slot} {k : Nat} {h : am_H} (C0 : lw_At p s m meth c b L xs) (hL : L ≤ 256) (hk : 4 * k + 4 ≤ L) (hK : am_Kn s.heap.size D dA s) (hJ : Jv h) (hw : am_Wd s.heap.size D dA h H) (hS : va_S (fun q => s.heap.size ≤ q) s.heap H locs) (hl : lv_has ls 4 [(3, .int (Int32.ofNat (4 * k))), (2, .ref (s.heap.size + 66)), (1, .ref (s.heap.size + 0)), (0, .ref b)]) (next : ∀ (h2 : am_H) (H2 : Heap) (locs2 : List Loc), Jv h2 → h2.1 = h.1 → h2.2.1 = h.2.1 → am_Wd s.heap.size D dA h2 H2 → va_S (fun q => s.heap.size ≤ q) s.heap H2 locs2 → W p l e room_1 s m #[Value.ref b] below meth c H2 locs2 93 71397 (lw_Z below #[Value.ref b] s) (F0 m 857 ls [])) : W p l e room_1 s m #[Value.ref b] below meth c H locs 93 71397 (lw_Z below #[Value.ref b] s) (F0 m 455 ls []) := by
  have C1 := C0
  obtain ⟨hx, hb, hr, hml, hown, hts, hX, hbl, hlocks, hgv⟩ := C0
  have htb : ∀ w ∈ am_tbl, w.before #[Value.ref b] s = true := fun w hw => hts w (am_tbl_in hw)
  obtain ⟨v, h1, w, h2, e1, e2, ec, j2, ⟨fs0, gg0⟩, ⟨fs6, gg6⟩, ⟨z1, z2⟩, z3, z4⟩ := jb_at (xs (4 * k + 1)).toUInt32.toNat (an_lt32 _) h hJ
  refine lv_aload_n hx hb dl_455 rfl (lv_at hl 2 rfl) ?_
  refine lw_ld (lv := []) (k := 1) (kv := Int32.ofNat 1) (v := Int32.ofNat (xs (4 * k + 1)).toUInt32.toNat) hx hb hX hbl hS (lv_at hl 3 rfl) (lv_at hl 0 rfl) (by decide) dl_456 dl_457 dl_458 dl_459 dl_460 (by rw [lx_add]; exact an_in (by omega) (by omega)) (by rw [lx_add, an_clamp (by omega), an_of]) ?_
  refine lx_cv (M' := mi_86) (idx := 69) (n := 1) (ci := 11) (b0 := 0) (fs := fs0) (as := [.retAddr (xs (4 * k + 1)).toUInt32.toNat]) (rest := []) (h := h) hx hb hml hl.1 hown htb hK hw hS w_732 w_733 w_734 lk_86 ⟨by decide, by decide⟩ rfl gg0 rfl (by simp [Value.category]) dl_461 e1 z1 z2 ⟨by decide, by decide⟩ rfl (fun H locs hw hS => ?_)
  refine lv_pop hx hb dl_464 rfl ?_
  refine lv_aload_n hx hb dl_465 rfl (lv_at hl 1 rfl) ?_
  refine lw_ld (lv := []) (k := 1) (kv := Int32.ofNat 1) (v := Int32.ofNat (xs (4 * k + 1)).toUInt32.toNat) hx hb hX hbl hS (lv_at hl 3 rfl) (lv_at hl 0 rfl) (by decide) dl_466 dl_467 dl_468 dl_469 dl_470 (by rw [lx_add]; exact an_in (by omega) (by omega)) (by rw [lx_add, an_clamp (by omega), an_of]) ?_
  refine lx_cv (M' := mi_184) (idx := 72) (n := 1) (ci := 12) (b0 := 66) (fs := fs6) (as := [.retAddr (xs (4 * k + 1)).toUInt32.toNat]) (rest := []) (h := h1) hx hb hml hl.1 hown htb hK hw hS w_1306 w_1307 w_1308 lk_184 ⟨by decide, by decide⟩ rfl gg6 rfl (by simp [Value.category]) dl_471 e2 z3 z4 ⟨by decide, by decide⟩ rfl (fun H locs hw hS => ?_)
  refine lv_pop hx hb dl_474 rfl ?_
  refine lv_goto (tgt := 857) hx hb dl_475 (by decide) ?_
  exact next h2 H locs j2 (z3.trans z1) (z4.trans z2) hw hS
theorem lcx_14 {p : Program} {l : Launch} {e : Env} {s : State} {m : MethodId} {below : List Frame} {meth : Method} {c : Code} {b L : Nat} {xs : Nat → Int32} {D : va_G} {dA : Nat → ClassId} {H : Heap} {locs : List Loc} {ls : Array Slot} {k : Nat} {h : am_H} (C0 : lw_At p s m meth c b L xs) (hL : L ≤ 256) (hk : 4 * k + 4 ≤ L) (hK : am_Kn s.heap.size D dA s) (hJ : Jv h) (hw : am_Wd s.heap.size D dA h H) (hS : va_S (fun q => s.heap.size ≤ q) s.heap H locs) (hl : lv_has ls 4 [(3, .int (Int32.ofNat (4 * k))), (2, .ref (s.heap.size + 66)), (1, .ref (s.heap.size + 0)), (0, .ref b)]) (next : ∀ (h2 : am_H) (H2 : Heap) (locs2 : List Loc), Jv h2 → h2.1 = h.1 → h2.2.1 = h.2.1 → am_Wd s.heap.size D dA h2 H2 → va_S (fun q => s.heap.size ≤ q) s.heap H2 locs2 → W p l e room_1 s m #[Value.ref b] below meth c H2 locs2 93 71397 (lw_Z below #[Value.ref b] s) (F0 m 857 ls [])) : W p l e room_1 s m #[Value.ref b] below meth c H locs 93 71397 (lw_Z below #[Value.ref b] s) (F0 m 478 ls []) := by
  have C1 := C0
  obtain ⟨hx, hb, hr, hml, hown, hts, hX, hbl, hlocks, hgv⟩ := C0
  have htb : ∀ w ∈ am_tbl, w.before #[Value.ref b] s = true := fun w hw => hts w (am_tbl_in hw)
  obtain ⟨v, h1, w, h2, e1, e2, ec, j2, ⟨fs0, gg0⟩, ⟨fs6, gg6⟩, ⟨z1, z2⟩, z3, z4⟩ := jb_most (xs (4 * k + 1)).toUInt32.toNat (xs (4 * k + 2)).toUInt32.toNat (xs (4 * k + 3)).toUInt32.toNat (an_lt32 _) (an_lt32 _) (an_lt32 _) h hJ
  refine lv_aload_n hx hb dl_478 rfl (lv_at hl 2 rfl) ?_
  refine lw_ld (lv := []) (k := 1) (kv := Int32.ofNat 1) (v := Int32.ofNat (xs (4 * k + 1)).toUInt32.toNat) hx hb hX hbl hS (lv_at hl 3 rfl) (lv_at hl 0 rfl) (by decide) dl_479 dl_480 dl_481 dl_482 dl_483 (by rw [lx_add]; exact an_in (by omega) (by omega)) (by rw [lx_add, an_clamp (by omega), an_of]) ?_
  refine lw_ld (lv := []) (k := 2) (kv := Int32.ofNat 2) (v := Int32.ofNat (xs (4 * k + 2)).toUInt32.toNat) hx hb hX hbl hS (lv_at hl 3 rfl) (lv_at hl 0 rfl) (by decide) dl_484 dl_485 dl_486 dl_487 dl_488 (by rw [lx_add]; exact an_in (by omega) (by omega)) (by rw [lx_add, an_clamp (by omega), an_of]) ?_
  refine lw_ld (lv := []) (k := 3) (kv := Int32.ofNat 3) (v := Int32.ofNat (xs (4 * k + 3)).toUInt32.toNat) hx hb hX hbl hS (lv_at hl 3 rfl) (lv_at hl 0 rfl) (by decide) dl_489 dl_490 dl_491 dl_492 dl_493 (by rw [lx_add]; exact an_in (by omega) (by omega)) (by rw [lx_add, an_clamp (by omega), an_of]) ?_
  refine lx_cv (M' := mi_87) (idx := 73) (n := 3) (ci := 11) (b0 := 0) (fs := fs0) (as := [.retAddr (xs (4 * k + 1)).toUInt32.toNat, .retAddr (xs (4 * k + 2)).toUInt32.toNat, .retAddr (xs (4 * k + 3)).toUInt32.toNat]) (rest := []) (h := h) hx hb hml hl.1 hown htb hK hw hS w_736 w_737 w_738 lk_87 ⟨by decide, by decide⟩ rfl gg0 rfl (by simp [Value.category]) dl_494 e1 z1 z2 ⟨by decide, by decide⟩ rfl (fun H locs hw hS => ?_)
  refine lv_pop hx hb dl_497 rfl ?_
  refine lv_aload_n hx hb dl_498 rfl (lv_at hl 1 rfl) ?_
  refine lw_ld (lv := []) (k := 1) (kv := Int32.ofNat 1) (v := Int32.ofNat (xs (4 * k + 1)).toUInt32.toNat) hx hb hX hbl hS (lv_at hl 3 rfl) (lv_at hl 0 rfl) (by decide) dl_499 dl_500 dl_501 dl_502 dl_503 (by rw [lx_add]; exact an_in (by omega) (by omega)) (by rw [lx_add, an_clamp (by omega), an_of]) ?_
  refine lw_ld (lv := []) (k := 2) (kv := Int32.ofNat 2) (v := Int32.ofNat (xs (4 * k + 2)).toUInt32.toNat) hx hb hX hbl hS (lv_at hl 3 rfl) (lv_at hl 0 rfl) (by decide) dl_504 dl_505 dl_506 dl_507 dl_508 (by rw [lx_add]; exact an_in (by omega) (by omega)) (by rw [lx_add, an_clamp (by omega), an_of]) ?_
  refine lw_ld (lv := []) (k := 3) (kv := Int32.ofNat 3) (v := Int32.ofNat (xs (4 * k + 3)).toUInt32.toNat) hx hb hX hbl hS (lv_at hl 3 rfl) (lv_at hl 0 rfl) (by decide) dl_509 dl_510 dl_511 dl_512 dl_513 (by rw [lx_add]; exact an_in (by omega) (by omega)) (by rw [lx_add, an_clamp (by omega), an_of]) ?_
  refine lx_cv (M' := mi_185) (idx := 76) (n := 3) (ci := 12) (b0 := 66) (fs := fs6) (as := [.retAddr (xs (4 * k + 1)).toUInt32.toNat, .retAddr (xs (4 * k + 2)).toUInt32.toNat, .retAddr (xs (4 * k + 3)).toUInt32.toNat]) (rest := []) (h := h1) hx hb hml hl.1 hown htb hK hw hS w_1310 w_1311 w_1312 lk_185 ⟨by decide, by decide⟩ rfl gg6 rfl (by simp [Value.category]) dl_514 e2 z3 z4 ⟨by decide, by decide⟩ rfl (fun H locs hw hS => ?_)
  refine lv_pop hx hb dl_517 rfl ?_
  refine lv_goto (tgt := 857) hx hb dl_518 (by decide) ?_
  exact next h2 H locs j2 (z3.trans z1) (z4.trans z2) hw hS
theorem lcx_15 {p : Program} {l : Launch} {e : Env} {s : State} {m : MethodId} {below : List Frame} {meth : Method} {c : Code} {b L : Nat} {xs : Nat → Int32} {D : va_G} {dA : Nat → ClassId} {H : Heap} {locs : List Loc} {ls : Array Slot} {k : Nat} {h : am_H} (C0 : lw_At p s m meth c b L xs) (hL : L ≤ 256) (hk : 4 * k + 4 ≤ L) (hK : am_Kn s.heap.size D dA s) (hJ : Jv h) (hw : am_Wd s.heap.size D dA h H) (hS : va_S (fun q => s.heap.size ≤ q) s.heap H locs) (hl : lv_has ls 4 [(3, .int (Int32.ofNat (4 * k))), (2, .ref (s.heap.size + 66)), (1, .ref (s.heap.size + 0)), (0, .ref b)]) (next : ∀ (h2 : am_H) (H2 : Heap) (locs2 : List Loc), Jv h2 → h2.1 = h.1 → h2.2.1 = h.2.1 → am_Wd s.heap.size D dA h2 H2 → va_S (fun q => s.heap.size ≤ q) s.heap H2 locs2 → W p l e room_1 s m #[Value.ref b] below meth c H2 locs2 93 71397 (lw_Z below #[Value.ref b] s) (F0 m 857 ls [])) : W p l e room_1 s m #[Value.ref b] below meth c H locs 93 71397 (lw_Z below #[Value.ref b] s) (F0 m 521 ls []) := by
  have C1 := C0
  obtain ⟨hx, hb, hr, hml, hown, hts, hX, hbl, hlocks, hgv⟩ := C0
  have htb : ∀ w ∈ am_tbl, w.before #[Value.ref b] s = true := fun w hw => hts w (am_tbl_in hw)
  obtain ⟨v, h1, w, h2, e1, e2, ec, j2, ⟨fs0, gg0⟩, ⟨fs6, gg6⟩, ⟨z1, z2⟩, z3, z4⟩ := jb_understand (xs (4 * k + 1)).toUInt32.toNat (xs (4 * k + 2)).toUInt32.toNat (xs (4 * k + 3)).toUInt32.toNat (an_lt32 _) (an_lt32 _) (an_lt32 _) h hJ
  refine lv_aload_n hx hb dl_521 rfl (lv_at hl 2 rfl) ?_
  refine lw_ld (lv := []) (k := 1) (kv := Int32.ofNat 1) (v := Int32.ofNat (xs (4 * k + 1)).toUInt32.toNat) hx hb hX hbl hS (lv_at hl 3 rfl) (lv_at hl 0 rfl) (by decide) dl_522 dl_523 dl_524 dl_525 dl_526 (by rw [lx_add]; exact an_in (by omega) (by omega)) (by rw [lx_add, an_clamp (by omega), an_of]) ?_
  refine lw_ld (lv := []) (k := 2) (kv := Int32.ofNat 2) (v := Int32.ofNat (xs (4 * k + 2)).toUInt32.toNat) hx hb hX hbl hS (lv_at hl 3 rfl) (lv_at hl 0 rfl) (by decide) dl_527 dl_528 dl_529 dl_530 dl_531 (by rw [lx_add]; exact an_in (by omega) (by omega)) (by rw [lx_add, an_clamp (by omega), an_of]) ?_
  refine lw_ld (lv := []) (k := 3) (kv := Int32.ofNat 3) (v := Int32.ofNat (xs (4 * k + 3)).toUInt32.toNat) hx hb hX hbl hS (lv_at hl 3 rfl) (lv_at hl 0 rfl) (by decide) dl_532 dl_533 dl_534 dl_535 dl_536 (by rw [lx_add]; exact an_in (by omega) (by omega)) (by rw [lx_add, an_clamp (by omega), an_of]) ?_
  refine lx_cv (M' := mi_90) (idx := 77) (n := 3) (ci := 11) (b0 := 0) (fs := fs0) (as := [.retAddr (xs (4 * k + 1)).toUInt32.toNat, .retAddr (xs (4 * k + 2)).toUInt32.toNat, .retAddr (xs (4 * k + 3)).toUInt32.toNat]) (rest := []) (h := h) hx hb hml hl.1 hown htb hK hw hS w_748 w_749 w_750 lk_90 ⟨by decide, by decide⟩ rfl gg0 rfl (by simp [Value.category]) dl_537 e1 z1 z2 ⟨by decide, by decide⟩ rfl (fun H locs hw hS => ?_)
  refine lv_pop hx hb dl_540 rfl ?_
  refine lv_aload_n hx hb dl_541 rfl (lv_at hl 1 rfl) ?_
  refine lw_ld (lv := []) (k := 1) (kv := Int32.ofNat 1) (v := Int32.ofNat (xs (4 * k + 1)).toUInt32.toNat) hx hb hX hbl hS (lv_at hl 3 rfl) (lv_at hl 0 rfl) (by decide) dl_542 dl_543 dl_544 dl_545 dl_546 (by rw [lx_add]; exact an_in (by omega) (by omega)) (by rw [lx_add, an_clamp (by omega), an_of]) ?_
  refine lw_ld (lv := []) (k := 2) (kv := Int32.ofNat 2) (v := Int32.ofNat (xs (4 * k + 2)).toUInt32.toNat) hx hb hX hbl hS (lv_at hl 3 rfl) (lv_at hl 0 rfl) (by decide) dl_547 dl_548 dl_549 dl_550 dl_551 (by rw [lx_add]; exact an_in (by omega) (by omega)) (by rw [lx_add, an_clamp (by omega), an_of]) ?_
  refine lw_ld (lv := []) (k := 3) (kv := Int32.ofNat 3) (v := Int32.ofNat (xs (4 * k + 3)).toUInt32.toNat) hx hb hX hbl hS (lv_at hl 3 rfl) (lv_at hl 0 rfl) (by decide) dl_552 dl_553 dl_554 dl_555 dl_556 (by rw [lx_add]; exact an_in (by omega) (by omega)) (by rw [lx_add, an_clamp (by omega), an_of]) ?_
  refine lx_cv (M' := mi_186) (idx := 80) (n := 3) (ci := 12) (b0 := 66) (fs := fs6) (as := [.retAddr (xs (4 * k + 1)).toUInt32.toNat, .retAddr (xs (4 * k + 2)).toUInt32.toNat, .retAddr (xs (4 * k + 3)).toUInt32.toNat]) (rest := []) (h := h1) hx hb hml hl.1 hown htb hK hw hS w_1314 w_1315 w_1316 lk_186 ⟨by decide, by decide⟩ rfl gg6 rfl (by simp [Value.category]) dl_557 e2 z3 z4 ⟨by decide, by decide⟩ rfl (fun H locs hw hS => ?_)
  refine lv_pop hx hb dl_560 rfl ?_
  refine lv_goto (tgt := 857) hx hb dl_561 (by decide) ?_
  exact next h2 H locs j2 (z3.trans z1) (z4.trans z2) hw hS
theorem lcx_16 {p : Program} {l : Launch} {e : Env} {s : State} {m : MethodId} {below : List Frame} {meth : Method} {c : Code} {b L : Nat} {xs : Nat → Int32} {D : va_G} {dA : Nat → ClassId} {H : Heap} {locs : List Loc} {ls : Array Slot} {k : Nat} {h : am_H} (C0 : lw_At p s m meth c b L xs) (hL : L ≤ 256) (hk : 4 * k + 4 ≤ L) (hK : am_Kn s.heap.size D dA s) (hJ : Jv h) (hw : am_Wd s.heap.size D dA h H) (hS : va_S (fun q => s.heap.size ≤ q) s.heap H locs) (hl : lv_has ls 4 [(3, .int (Int32.ofNat (4 * k))), (2, .ref (s.heap.size + 66)), (1, .ref (s.heap.size + 0)), (0, .ref b)]) (next : ∀ (h2 : am_H) (H2 : Heap) (locs2 : List Loc), Jv h2 → h2.1 = h.1 → h2.2.1 = h.2.1 → am_Wd s.heap.size D dA h2 H2 → va_S (fun q => s.heap.size ≤ q) s.heap H2 locs2 → W p l e room_1 s m #[Value.ref b] below meth c H2 locs2 93 71397 (lw_Z below #[Value.ref b] s) (F0 m 857 ls [])) : W p l e room_1 s m #[Value.ref b] below meth c H locs 93 71397 (lw_Z below #[Value.ref b] s) (F0 m 564 ls []) := by
  have C1 := C0
  obtain ⟨hx, hb, hr, hml, hown, hts, hX, hbl, hlocks, hgv⟩ := C0
  have htb : ∀ w ∈ am_tbl, w.before #[Value.ref b] s = true := fun w hw => hts w (am_tbl_in hw)
  obtain ⟨v, h1, w, h2, e1, e2, ec, j2, ⟨fs0, gg0⟩, ⟨fs6, gg6⟩, ⟨z1, z2⟩, z3, z4⟩ := jb_soonest (xs (4 * k + 1)).toUInt32.toNat (xs (4 * k + 2)).toUInt32.toNat (an_lt32 _) (an_lt32 _) h hJ
  refine lv_aload_n hx hb dl_564 rfl (lv_at hl 2 rfl) ?_
  refine lw_ld (lv := []) (k := 1) (kv := Int32.ofNat 1) (v := Int32.ofNat (xs (4 * k + 1)).toUInt32.toNat) hx hb hX hbl hS (lv_at hl 3 rfl) (lv_at hl 0 rfl) (by decide) dl_565 dl_566 dl_567 dl_568 dl_569 (by rw [lx_add]; exact an_in (by omega) (by omega)) (by rw [lx_add, an_clamp (by omega), an_of]) ?_
  refine lw_ld (lv := []) (k := 2) (kv := Int32.ofNat 2) (v := Int32.ofNat (xs (4 * k + 2)).toUInt32.toNat) hx hb hX hbl hS (lv_at hl 3 rfl) (lv_at hl 0 rfl) (by decide) dl_570 dl_571 dl_572 dl_573 dl_574 (by rw [lx_add]; exact an_in (by omega) (by omega)) (by rw [lx_add, an_clamp (by omega), an_of]) ?_
  refine lx_cv (M' := mi_100) (idx := 81) (n := 2) (ci := 11) (b0 := 0) (fs := fs0) (as := [.retAddr (xs (4 * k + 1)).toUInt32.toNat, .retAddr (xs (4 * k + 2)).toUInt32.toNat]) (rest := []) (h := h) hx hb hml hl.1 hown htb hK hw hS w_789 w_790 w_791 lk_100 ⟨by decide, by decide⟩ rfl gg0 rfl (by simp [Value.category]) dl_575 e1 z1 z2 ⟨by decide, by decide⟩ rfl (fun H locs hw hS => ?_)
  refine lv_aload_n hx hb dl_578 rfl (lv_at hl 1 rfl) ?_
  refine lw_ld (lv := []) (k := 1) (kv := Int32.ofNat 1) (v := Int32.ofNat (xs (4 * k + 1)).toUInt32.toNat) hx hb hX hbl hS (lv_at hl 3 rfl) (lv_at hl 0 rfl) (by decide) dl_579 dl_580 dl_581 dl_582 dl_583 (by rw [lx_add]; exact an_in (by omega) (by omega)) (by rw [lx_add, an_clamp (by omega), an_of]) ?_
  refine lw_ld (lv := []) (k := 2) (kv := Int32.ofNat 2) (v := Int32.ofNat (xs (4 * k + 2)).toUInt32.toNat) hx hb hX hbl hS (lv_at hl 3 rfl) (lv_at hl 0 rfl) (by decide) dl_584 dl_585 dl_586 dl_587 dl_588 (by rw [lx_add]; exact an_in (by omega) (by omega)) (by rw [lx_add, an_clamp (by omega), an_of]) ?_
  refine lx_cv (M' := mi_191) (idx := 84) (n := 2) (ci := 12) (b0 := 66) (fs := fs6) (as := [.retAddr (xs (4 * k + 1)).toUInt32.toNat, .retAddr (xs (4 * k + 2)).toUInt32.toNat]) (rest := [.int (Int32.ofNat v)]) (h := h1) hx hb hml hl.1 hown htb hK hw hS w_1333 w_1334 w_1335 lk_191 ⟨by decide, by decide⟩ rfl gg6 rfl (by simp [Value.category]) dl_589 e2 z3 z4 ⟨by decide, by decide⟩ rfl (fun H locs hw hS => ?_)
  rw [ec rfl]
  refine lv_icmp_eq (tgt := 857) hx hb dl_592 (by decide) (fun _ => ?_) (fun z => absurd rfl z)
  exact next h2 H locs j2 (z3.trans z1) (z4.trans z2) hw hS
theorem lcx_17 {p : Program} {l : Launch} {e : Env} {s : State} {m : MethodId} {below : List Frame} {meth : Method} {c : Code} {b L : Nat} {xs : Nat → Int32} {D : va_G} {dA : Nat → ClassId} {H : Heap} {locs : List Loc} {ls : Array Slot} {k : Nat} {h : am_H} (C0 : lw_At p s m meth c b L xs) (hL : L ≤ 256) (hk : 4 * k + 4 ≤ L) (hK : am_Kn s.heap.size D dA s) (hJ : Jv h) (hw : am_Wd s.heap.size D dA h H) (hS : va_S (fun q => s.heap.size ≤ q) s.heap H locs) (hl : lv_has ls 4 [(3, .int (Int32.ofNat (4 * k))), (2, .ref (s.heap.size + 66)), (1, .ref (s.heap.size + 0)), (0, .ref b)]) (next : ∀ (h2 : am_H) (H2 : Heap) (locs2 : List Loc), Jv h2 → h2.1 = h.1 → h2.2.1 = h.2.1 → am_Wd s.heap.size D dA h2 H2 → va_S (fun q => s.heap.size ≤ q) s.heap H2 locs2 → W p l e room_1 s m #[Value.ref b] below meth c H2 locs2 93 71397 (lw_Z below #[Value.ref b] s) (F0 m 857 ls [])) : W p l e room_1 s m #[Value.ref b] below meth c H locs 93 71397 (lw_Z below #[Value.ref b] s) (F0 m 597 ls []) := by
  have C1 := C0
  obtain ⟨hx, hb, hr, hml, hown, hts, hX, hbl, hlocks, hgv⟩ := C0
  have htb : ∀ w ∈ am_tbl, w.before #[Value.ref b] s = true := fun w hw => hts w (am_tbl_in hw)
  obtain ⟨v, h1, w, h2, e1, e2, ec, j2, ⟨fs0, gg0⟩, ⟨fs6, gg6⟩, ⟨z1, z2⟩, z3, z4⟩ := jb_ask (xs (4 * k + 1)).toUInt32.toNat (xs (4 * k + 2)).toUInt32.toNat (an_lt32 _) (an_lt32 _) h hJ
  refine lv_aload_n hx hb dl_597 rfl (lv_at hl 2 rfl) ?_
  refine lw_ld (lv := []) (k := 1) (kv := Int32.ofNat 1) (v := Int32.ofNat (xs (4 * k + 1)).toUInt32.toNat) hx hb hX hbl hS (lv_at hl 3 rfl) (lv_at hl 0 rfl) (by decide) dl_598 dl_599 dl_600 dl_601 dl_602 (by rw [lx_add]; exact an_in (by omega) (by omega)) (by rw [lx_add, an_clamp (by omega), an_of]) ?_
  refine lw_ld (lv := []) (k := 2) (kv := Int32.ofNat 2) (v := Int32.ofNat (xs (4 * k + 2)).toUInt32.toNat) hx hb hX hbl hS (lv_at hl 3 rfl) (lv_at hl 0 rfl) (by decide) dl_603 dl_604 dl_605 dl_606 dl_607 (by rw [lx_add]; exact an_in (by omega) (by omega)) (by rw [lx_add, an_clamp (by omega), an_of]) ?_
  refine lx_cv (M' := mi_101) (idx := 85) (n := 2) (ci := 11) (b0 := 0) (fs := fs0) (as := [.retAddr (xs (4 * k + 1)).toUInt32.toNat, .retAddr (xs (4 * k + 2)).toUInt32.toNat]) (rest := []) (h := h) hx hb hml hl.1 hown htb hK hw hS w_793 w_794 w_795 lk_101 ⟨by decide, by decide⟩ rfl gg0 rfl (by simp [Value.category]) dl_608 e1 z1 z2 ⟨by decide, by decide⟩ rfl (fun H locs hw hS => ?_)
  refine lv_pop hx hb dl_611 rfl ?_
  refine lv_aload_n hx hb dl_612 rfl (lv_at hl 1 rfl) ?_
  refine lw_ld (lv := []) (k := 1) (kv := Int32.ofNat 1) (v := Int32.ofNat (xs (4 * k + 1)).toUInt32.toNat) hx hb hX hbl hS (lv_at hl 3 rfl) (lv_at hl 0 rfl) (by decide) dl_613 dl_614 dl_615 dl_616 dl_617 (by rw [lx_add]; exact an_in (by omega) (by omega)) (by rw [lx_add, an_clamp (by omega), an_of]) ?_
  refine lw_ld (lv := []) (k := 2) (kv := Int32.ofNat 2) (v := Int32.ofNat (xs (4 * k + 2)).toUInt32.toNat) hx hb hX hbl hS (lv_at hl 3 rfl) (lv_at hl 0 rfl) (by decide) dl_618 dl_619 dl_620 dl_621 dl_622 (by rw [lx_add]; exact an_in (by omega) (by omega)) (by rw [lx_add, an_clamp (by omega), an_of]) ?_
  refine lx_cv (M' := mi_192) (idx := 88) (n := 2) (ci := 12) (b0 := 66) (fs := fs6) (as := [.retAddr (xs (4 * k + 1)).toUInt32.toNat, .retAddr (xs (4 * k + 2)).toUInt32.toNat]) (rest := []) (h := h1) hx hb hml hl.1 hown htb hK hw hS w_1337 w_1338 w_1339 lk_192 ⟨by decide, by decide⟩ rfl gg6 rfl (by simp [Value.category]) dl_623 e2 z3 z4 ⟨by decide, by decide⟩ rfl (fun H locs hw hS => ?_)
  refine lv_pop hx hb dl_626 rfl ?_
  refine lv_goto (tgt := 857) hx hb dl_627 (by decide) ?_
  exact next h2 H locs j2 (z3.trans z1) (z4.trans z2) hw hS
theorem lcx_18 {p : Program} {l : Launch} {e : Env} {s : State} {m : MethodId} {below : List Frame} {meth : Method} {c : Code} {b L : Nat} {xs : Nat → Int32} {D : va_G} {dA : Nat → ClassId} {H : Heap} {locs : List Loc} {ls : Array Slot} {k : Nat} {h : am_H} (C0 : lw_At p s m meth c b L xs) (hL : L ≤ 256) (hk : 4 * k + 4 ≤ L) (hK : am_Kn s.heap.size D dA s) (hJ : Jv h) (hw : am_Wd s.heap.size D dA h H) (hS : va_S (fun q => s.heap.size ≤ q) s.heap H locs) (hl : lv_has ls 4 [(3, .int (Int32.ofNat (4 * k))), (2, .ref (s.heap.size + 66)), (1, .ref (s.heap.size + 0)), (0, .ref b)]) (next : ∀ (h2 : am_H) (H2 : Heap) (locs2 : List Loc), Jv h2 → h2.1 = h.1 → h2.2.1 = h.2.1 → am_Wd s.heap.size D dA h2 H2 → va_S (fun q => s.heap.size ≤ q) s.heap H2 locs2 → W p l e room_1 s m #[Value.ref b] below meth c H2 locs2 93 71397 (lw_Z below #[Value.ref b] s) (F0 m 857 ls [])) : W p l e room_1 s m #[Value.ref b] below meth c H locs 93 71397 (lw_Z below #[Value.ref b] s) (F0 m 630 ls []) := by
  have C1 := C0
  obtain ⟨hx, hb, hr, hml, hown, hts, hX, hbl, hlocks, hgv⟩ := C0
  have htb : ∀ w ∈ am_tbl, w.before #[Value.ref b] s = true := fun w hw => hts w (am_tbl_in hw)
  obtain ⟨v, h1, w, h2, e1, e2, ec, j2, ⟨fs0, gg0⟩, ⟨fs6, gg6⟩, ⟨z1, z2⟩, z3, z4⟩ := jb_fair (xs (4 * k + 1)).toUInt32.toNat (xs (4 * k + 2)).toUInt32.toNat (an_lt32 _) (an_lt32 _) h hJ
  refine lv_aload_n hx hb dl_630 rfl (lv_at hl 2 rfl) ?_
  refine lw_ld (lv := []) (k := 1) (kv := Int32.ofNat 1) (v := Int32.ofNat (xs (4 * k + 1)).toUInt32.toNat) hx hb hX hbl hS (lv_at hl 3 rfl) (lv_at hl 0 rfl) (by decide) dl_631 dl_632 dl_633 dl_634 dl_635 (by rw [lx_add]; exact an_in (by omega) (by omega)) (by rw [lx_add, an_clamp (by omega), an_of]) ?_
  refine lw_ld (lv := []) (k := 2) (kv := Int32.ofNat 2) (v := Int32.ofNat (xs (4 * k + 2)).toUInt32.toNat) hx hb hX hbl hS (lv_at hl 3 rfl) (lv_at hl 0 rfl) (by decide) dl_636 dl_637 dl_638 dl_639 dl_640 (by rw [lx_add]; exact an_in (by omega) (by omega)) (by rw [lx_add, an_clamp (by omega), an_of]) ?_
  refine lx_cv (M' := mi_104) (idx := 89) (n := 2) (ci := 11) (b0 := 0) (fs := fs0) (as := [.retAddr (xs (4 * k + 1)).toUInt32.toNat, .retAddr (xs (4 * k + 2)).toUInt32.toNat]) (rest := []) (h := h) hx hb hml hl.1 hown htb hK hw hS w_808 w_809 w_810 lk_104 ⟨by decide, by decide⟩ rfl gg0 rfl (by simp [Value.category]) dl_641 e1 z1 z2 ⟨by decide, by decide⟩ rfl (fun H locs hw hS => ?_)
  refine lv_pop hx hb dl_644 rfl ?_
  refine lv_aload_n hx hb dl_645 rfl (lv_at hl 1 rfl) ?_
  refine lw_ld (lv := []) (k := 1) (kv := Int32.ofNat 1) (v := Int32.ofNat (xs (4 * k + 1)).toUInt32.toNat) hx hb hX hbl hS (lv_at hl 3 rfl) (lv_at hl 0 rfl) (by decide) dl_646 dl_647 dl_648 dl_649 dl_650 (by rw [lx_add]; exact an_in (by omega) (by omega)) (by rw [lx_add, an_clamp (by omega), an_of]) ?_
  refine lw_ld (lv := []) (k := 2) (kv := Int32.ofNat 2) (v := Int32.ofNat (xs (4 * k + 2)).toUInt32.toNat) hx hb hX hbl hS (lv_at hl 3 rfl) (lv_at hl 0 rfl) (by decide) dl_651 dl_652 dl_653 dl_654 dl_655 (by rw [lx_add]; exact an_in (by omega) (by omega)) (by rw [lx_add, an_clamp (by omega), an_of]) ?_
  refine lx_cv (M' := mi_194) (idx := 92) (n := 2) (ci := 12) (b0 := 66) (fs := fs6) (as := [.retAddr (xs (4 * k + 1)).toUInt32.toNat, .retAddr (xs (4 * k + 2)).toUInt32.toNat]) (rest := []) (h := h1) hx hb hml hl.1 hown htb hK hw hS w_1344 w_1345 w_1346 lk_194 ⟨by decide, by decide⟩ rfl gg6 rfl (by simp [Value.category]) dl_656 e2 z3 z4 ⟨by decide, by decide⟩ rfl (fun H locs hw hS => ?_)
  refine lv_pop hx hb dl_659 rfl ?_
  refine lv_goto (tgt := 857) hx hb dl_660 (by decide) ?_
  exact next h2 H locs j2 (z3.trans z1) (z4.trans z2) hw hS
theorem lcx_19 {p : Program} {l : Launch} {e : Env} {s : State} {m : MethodId} {below : List Frame} {meth : Method} {c : Code} {b L : Nat} {xs : Nat → Int32} {D : va_G} {dA : Nat → ClassId} {H : Heap} {locs : List Loc} {ls : Array Slot} {k : Nat} {h : am_H} (C0 : lw_At p s m meth c b L xs) (hL : L ≤ 256) (hk : 4 * k + 4 ≤ L) (hK : am_Kn s.heap.size D dA s) (hJ : Jv h) (hw : am_Wd s.heap.size D dA h H) (hS : va_S (fun q => s.heap.size ≤ q) s.heap H locs) (hl : lv_has ls 4 [(3, .int (Int32.ofNat (4 * k))), (2, .ref (s.heap.size + 66)), (1, .ref (s.heap.size + 0)), (0, .ref b)]) (next : ∀ (h2 : am_H) (H2 : Heap) (locs2 : List Loc), Jv h2 → h2.1 = h.1 → h2.2.1 = h.2.1 → am_Wd s.heap.size D dA h2 H2 → va_S (fun q => s.heap.size ≤ q) s.heap H2 locs2 → W p l e room_1 s m #[Value.ref b] below meth c H2 locs2 93 71397 (lw_Z below #[Value.ref b] s) (F0 m 857 ls [])) : W p l e room_1 s m #[Value.ref b] below meth c H locs 93 71397 (lw_Z below #[Value.ref b] s) (F0 m 663 ls []) := by
  have C1 := C0
  obtain ⟨hx, hb, hr, hml, hown, hts, hX, hbl, hlocks, hgv⟩ := C0
  have htb : ∀ w ∈ am_tbl, w.before #[Value.ref b] s = true := fun w hw => hts w (am_tbl_in hw)
  obtain ⟨v, h1, w, h2, e1, e2, ec, j2, ⟨fs0, gg0⟩, ⟨fs6, gg6⟩, ⟨z1, z2⟩, z3, z4⟩ := jb_mean (xs (4 * k + 1)).toUInt32.toNat (xs (4 * k + 2)).toUInt32.toNat (an_lt32 _) (an_lt32 _) h hJ
  refine lv_aload_n hx hb dl_663 rfl (lv_at hl 2 rfl) ?_
  refine lw_ld (lv := []) (k := 1) (kv := Int32.ofNat 1) (v := Int32.ofNat (xs (4 * k + 1)).toUInt32.toNat) hx hb hX hbl hS (lv_at hl 3 rfl) (lv_at hl 0 rfl) (by decide) dl_664 dl_665 dl_666 dl_667 dl_668 (by rw [lx_add]; exact an_in (by omega) (by omega)) (by rw [lx_add, an_clamp (by omega), an_of]) ?_
  refine lw_ld (lv := []) (k := 2) (kv := Int32.ofNat 2) (v := Int32.ofNat (xs (4 * k + 2)).toUInt32.toNat) hx hb hX hbl hS (lv_at hl 3 rfl) (lv_at hl 0 rfl) (by decide) dl_669 dl_670 dl_671 dl_672 dl_673 (by rw [lx_add]; exact an_in (by omega) (by omega)) (by rw [lx_add, an_clamp (by omega), an_of]) ?_
  refine lx_cv (M' := mi_115) (idx := 93) (n := 2) (ci := 11) (b0 := 0) (fs := fs0) (as := [.retAddr (xs (4 * k + 1)).toUInt32.toNat, .retAddr (xs (4 * k + 2)).toUInt32.toNat]) (rest := []) (h := h) hx hb hml hl.1 hown htb hK hw hS w_858 w_859 w_860 lk_115 ⟨by decide, by decide⟩ rfl gg0 rfl (by simp [Value.category]) dl_674 e1 z1 z2 ⟨by decide, by decide⟩ rfl (fun H locs hw hS => ?_)
  refine lv_pop hx hb dl_677 rfl ?_
  refine lv_aload_n hx hb dl_678 rfl (lv_at hl 1 rfl) ?_
  refine lw_ld (lv := []) (k := 1) (kv := Int32.ofNat 1) (v := Int32.ofNat (xs (4 * k + 1)).toUInt32.toNat) hx hb hX hbl hS (lv_at hl 3 rfl) (lv_at hl 0 rfl) (by decide) dl_679 dl_680 dl_681 dl_682 dl_683 (by rw [lx_add]; exact an_in (by omega) (by omega)) (by rw [lx_add, an_clamp (by omega), an_of]) ?_
  refine lw_ld (lv := []) (k := 2) (kv := Int32.ofNat 2) (v := Int32.ofNat (xs (4 * k + 2)).toUInt32.toNat) hx hb hX hbl hS (lv_at hl 3 rfl) (lv_at hl 0 rfl) (by decide) dl_684 dl_685 dl_686 dl_687 dl_688 (by rw [lx_add]; exact an_in (by omega) (by omega)) (by rw [lx_add, an_clamp (by omega), an_of]) ?_
  refine lx_cv (M' := mi_199) (idx := 96) (n := 2) (ci := 12) (b0 := 66) (fs := fs6) (as := [.retAddr (xs (4 * k + 1)).toUInt32.toNat, .retAddr (xs (4 * k + 2)).toUInt32.toNat]) (rest := []) (h := h1) hx hb hml hl.1 hown htb hK hw hS w_1364 w_1365 w_1366 lk_199 ⟨by decide, by decide⟩ rfl gg6 rfl (by simp [Value.category]) dl_689 e2 z3 z4 ⟨by decide, by decide⟩ rfl (fun H locs hw hS => ?_)
  refine lv_pop hx hb dl_692 rfl ?_
  refine lv_goto (tgt := 857) hx hb dl_693 (by decide) ?_
  exact next h2 H locs j2 (z3.trans z1) (z4.trans z2) hw hS
theorem lcx_20 {p : Program} {l : Launch} {e : Env} {s : State} {m : MethodId} {below : List Frame} {meth : Method} {c : Code} {b L : Nat} {xs : Nat → Int32} {D : va_G} {dA : Nat → ClassId} {H : Heap} {locs : List Loc} {ls : Array Slot} {k : Nat} {h : am_H} (C0 : lw_At p s m meth c b L xs) (hL : L ≤ 256) (hk : 4 * k + 4 ≤ L) (hK : am_Kn s.heap.size D dA s) (hJ : Jv h) (hw : am_Wd s.heap.size D dA h H) (hS : va_S (fun q => s.heap.size ≤ q) s.heap H locs) (hl : lv_has ls 4 [(3, .int (Int32.ofNat (4 * k))), (2, .ref (s.heap.size + 66)), (1, .ref (s.heap.size + 0)), (0, .ref b)]) (next : ∀ (h2 : am_H) (H2 : Heap) (locs2 : List Loc), Jv h2 → h2.1 = h.1 → h2.2.1 = h.2.1 → am_Wd s.heap.size D dA h2 H2 → va_S (fun q => s.heap.size ≤ q) s.heap H2 locs2 → W p l e room_1 s m #[Value.ref b] below meth c H2 locs2 93 71397 (lw_Z below #[Value.ref b] s) (F0 m 857 ls [])) : W p l e room_1 s m #[Value.ref b] below meth c H locs 93 71397 (lw_Z below #[Value.ref b] s) (F0 m 696 ls []) := by
  have C1 := C0
  obtain ⟨hx, hb, hr, hml, hown, hts, hX, hbl, hlocks, hgv⟩ := C0
  have htb : ∀ w ∈ am_tbl, w.before #[Value.ref b] s = true := fun w hw => hts w (am_tbl_in hw)
  obtain ⟨v, h1, w, h2, e1, e2, ec, j2, ⟨fs0, gg0⟩, ⟨fs6, gg6⟩, ⟨z1, z2⟩, z3, z4⟩ := jb_sure (xs (4 * k + 1)).toUInt32.toNat (an_lt32 _) h hJ
  refine lv_aload_n hx hb dl_696 rfl (lv_at hl 2 rfl) ?_
  refine lw_ld (lv := []) (k := 1) (kv := Int32.ofNat 1) (v := Int32.ofNat (xs (4 * k + 1)).toUInt32.toNat) hx hb hX hbl hS (lv_at hl 3 rfl) (lv_at hl 0 rfl) (by decide) dl_697 dl_698 dl_699 dl_700 dl_701 (by rw [lx_add]; exact an_in (by omega) (by omega)) (by rw [lx_add, an_clamp (by omega), an_of]) ?_
  refine lx_cv (M' := mi_119) (idx := 97) (n := 1) (ci := 11) (b0 := 0) (fs := fs0) (as := [.retAddr (xs (4 * k + 1)).toUInt32.toNat]) (rest := []) (h := h) hx hb hml hl.1 hown htb hK hw hS w_873 w_874 w_875 lk_119 ⟨by decide, by decide⟩ rfl gg0 rfl (by simp [Value.category]) dl_702 e1 z1 z2 ⟨by decide, by decide⟩ rfl (fun H locs hw hS => ?_)
  refine lv_pop hx hb dl_705 rfl ?_
  refine lv_aload_n hx hb dl_706 rfl (lv_at hl 1 rfl) ?_
  refine lw_ld (lv := []) (k := 1) (kv := Int32.ofNat 1) (v := Int32.ofNat (xs (4 * k + 1)).toUInt32.toNat) hx hb hX hbl hS (lv_at hl 3 rfl) (lv_at hl 0 rfl) (by decide) dl_707 dl_708 dl_709 dl_710 dl_711 (by rw [lx_add]; exact an_in (by omega) (by omega)) (by rw [lx_add, an_clamp (by omega), an_of]) ?_
  refine lx_cv (M' := mi_202) (idx := 100) (n := 1) (ci := 12) (b0 := 66) (fs := fs6) (as := [.retAddr (xs (4 * k + 1)).toUInt32.toNat]) (rest := []) (h := h1) hx hb hml hl.1 hown htb hK hw hS w_1376 w_1377 w_1378 lk_202 ⟨by decide, by decide⟩ rfl gg6 rfl (by simp [Value.category]) dl_712 e2 z3 z4 ⟨by decide, by decide⟩ rfl (fun H locs hw hS => ?_)
  refine lv_pop hx hb dl_715 rfl ?_
  refine lv_goto (tgt := 857) hx hb dl_716 (by decide) ?_
  exact next h2 H locs j2 (z3.trans z1) (z4.trans z2) hw hS
theorem lcx_21 {p : Program} {l : Launch} {e : Env} {s : State} {m : MethodId} {below : List Frame} {meth : Method} {c : Code} {b L : Nat} {xs : Nat → Int32} {D : va_G} {dA : Nat → ClassId} {H : Heap} {locs : List Loc} {ls : Array Slot} {k : Nat} {h : am_H} (C0 : lw_At p s m meth c b L xs) (hL : L ≤ 256) (hk : 4 * k + 4 ≤ L) (hK : am_Kn s.heap.size D dA s) (hJ : Jv h) (hw : am_Wd s.heap.size D dA h H) (hS : va_S (fun q => s.heap.size ≤ q) s.heap H locs) (hl : lv_has ls 4 [(3, .int (Int32.ofNat (4 * k))), (2, .ref (s.heap.size + 66)), (1, .ref (s.heap.size + 0)), (0, .ref b)]) (next : ∀ (h2 : am_H) (H2 : Heap) (locs2 : List Loc), Jv h2 → h2.1 = h.1 → h2.2.1 = h.2.1 → am_Wd s.heap.size D dA h2 H2 → va_S (fun q => s.heap.size ≤ q) s.heap H2 locs2 → W p l e room_1 s m #[Value.ref b] below meth c H2 locs2 93 71397 (lw_Z below #[Value.ref b] s) (F0 m 857 ls [])) : W p l e room_1 s m #[Value.ref b] below meth c H locs 93 71397 (lw_Z below #[Value.ref b] s) (F0 m 719 ls []) := by
  have C1 := C0
  obtain ⟨hx, hb, hr, hml, hown, hts, hX, hbl, hlocks, hgv⟩ := C0
  have htb : ∀ w ∈ am_tbl, w.before #[Value.ref b] s = true := fun w hw => hts w (am_tbl_in hw)
  obtain ⟨v, h1, w, h2, e1, e2, ec, j2, ⟨fs0, gg0⟩, ⟨fs6, gg6⟩, ⟨z1, z2⟩, z3, z4⟩ := jb_fits (xs (4 * k + 1)).toUInt32.toNat (an_lt32 _) h hJ
  refine lv_aload_n hx hb dl_719 rfl (lv_at hl 2 rfl) ?_
  refine lw_ld (lv := []) (k := 1) (kv := Int32.ofNat 1) (v := Int32.ofNat (xs (4 * k + 1)).toUInt32.toNat) hx hb hX hbl hS (lv_at hl 3 rfl) (lv_at hl 0 rfl) (by decide) dl_720 dl_721 dl_722 dl_723 dl_724 (by rw [lx_add]; exact an_in (by omega) (by omega)) (by rw [lx_add, an_clamp (by omega), an_of]) ?_
  refine lx_cv (M' := mi_120) (idx := 101) (n := 1) (ci := 11) (b0 := 0) (fs := fs0) (as := [.retAddr (xs (4 * k + 1)).toUInt32.toNat]) (rest := []) (h := h) hx hb hml hl.1 hown htb hK hw hS w_877 w_878 w_879 lk_120 ⟨by decide, by decide⟩ rfl gg0 rfl (by simp [Value.category]) dl_725 e1 z1 z2 ⟨by decide, by decide⟩ rfl (fun H locs hw hS => ?_)
  refine lv_pop hx hb dl_728 rfl ?_
  refine lv_aload_n hx hb dl_729 rfl (lv_at hl 1 rfl) ?_
  refine lw_ld (lv := []) (k := 1) (kv := Int32.ofNat 1) (v := Int32.ofNat (xs (4 * k + 1)).toUInt32.toNat) hx hb hX hbl hS (lv_at hl 3 rfl) (lv_at hl 0 rfl) (by decide) dl_730 dl_731 dl_732 dl_733 dl_734 (by rw [lx_add]; exact an_in (by omega) (by omega)) (by rw [lx_add, an_clamp (by omega), an_of]) ?_
  refine lx_cv (M' := mi_203) (idx := 104) (n := 1) (ci := 12) (b0 := 66) (fs := fs6) (as := [.retAddr (xs (4 * k + 1)).toUInt32.toNat]) (rest := []) (h := h1) hx hb hml hl.1 hown htb hK hw hS w_1380 w_1381 w_1382 lk_203 ⟨by decide, by decide⟩ rfl gg6 rfl (by simp [Value.category]) dl_735 e2 z3 z4 ⟨by decide, by decide⟩ rfl (fun H locs hw hS => ?_)
  refine lv_pop hx hb dl_738 rfl ?_
  refine lv_goto (tgt := 857) hx hb dl_739 (by decide) ?_
  exact next h2 H locs j2 (z3.trans z1) (z4.trans z2) hw hS
theorem lcx_22 {p : Program} {l : Launch} {e : Env} {s : State} {m : MethodId} {below : List Frame} {meth : Method} {c : Code} {b L : Nat} {xs : Nat → Int32} {D : va_G} {dA : Nat → ClassId} {H : Heap} {locs : List Loc} {ls : Array Slot} {k : Nat} {h : am_H} (C0 : lw_At p s m meth c b L xs) (hL : L ≤ 256) (hk : 4 * k + 4 ≤ L) (hK : am_Kn s.heap.size D dA s) (hJ : Jv h) (hw : am_Wd s.heap.size D dA h H) (hS : va_S (fun q => s.heap.size ≤ q) s.heap H locs) (hl : lv_has ls 4 [(3, .int (Int32.ofNat (4 * k))), (2, .ref (s.heap.size + 66)), (1, .ref (s.heap.size + 0)), (0, .ref b)]) (next : ∀ (h2 : am_H) (H2 : Heap) (locs2 : List Loc), Jv h2 → h2.1 = h.1 → h2.2.1 = h.2.1 → am_Wd s.heap.size D dA h2 H2 → va_S (fun q => s.heap.size ≤ q) s.heap H2 locs2 → W p l e room_1 s m #[Value.ref b] below meth c H2 locs2 93 71397 (lw_Z below #[Value.ref b] s) (F0 m 857 ls [])) : W p l e room_1 s m #[Value.ref b] below meth c H locs 93 71397 (lw_Z below #[Value.ref b] s) (F0 m 742 ls []) := by
  have C1 := C0
  obtain ⟨hx, hb, hr, hml, hown, hts, hX, hbl, hlocks, hgv⟩ := C0
  have htb : ∀ w ∈ am_tbl, w.before #[Value.ref b] s = true := fun w hw => hts w (am_tbl_in hw)
  obtain ⟨v, h1, w, h2, e1, e2, ec, j2, ⟨fs0, gg0⟩, ⟨fs6, gg6⟩, ⟨z1, z2⟩, z3, z4⟩ := jb_matters (xs (4 * k + 1)).toUInt32.toNat (an_lt32 _) h hJ
  refine lv_aload_n hx hb dl_742 rfl (lv_at hl 2 rfl) ?_
  refine lw_ld (lv := []) (k := 1) (kv := Int32.ofNat 1) (v := Int32.ofNat (xs (4 * k + 1)).toUInt32.toNat) hx hb hX hbl hS (lv_at hl 3 rfl) (lv_at hl 0 rfl) (by decide) dl_743 dl_744 dl_745 dl_746 dl_747 (by rw [lx_add]; exact an_in (by omega) (by omega)) (by rw [lx_add, an_clamp (by omega), an_of]) ?_
  refine lx_cv (M' := mi_121) (idx := 105) (n := 1) (ci := 11) (b0 := 0) (fs := fs0) (as := [.retAddr (xs (4 * k + 1)).toUInt32.toNat]) (rest := []) (h := h) hx hb hml hl.1 hown htb hK hw hS w_881 w_882 w_883 lk_121 ⟨by decide, by decide⟩ rfl gg0 rfl (by simp [Value.category]) dl_748 e1 z1 z2 ⟨by decide, by decide⟩ rfl (fun H locs hw hS => ?_)
  refine lv_pop hx hb dl_751 rfl ?_
  refine lv_aload_n hx hb dl_752 rfl (lv_at hl 1 rfl) ?_
  refine lw_ld (lv := []) (k := 1) (kv := Int32.ofNat 1) (v := Int32.ofNat (xs (4 * k + 1)).toUInt32.toNat) hx hb hX hbl hS (lv_at hl 3 rfl) (lv_at hl 0 rfl) (by decide) dl_753 dl_754 dl_755 dl_756 dl_757 (by rw [lx_add]; exact an_in (by omega) (by omega)) (by rw [lx_add, an_clamp (by omega), an_of]) ?_
  refine lx_cv (M' := mi_204) (idx := 108) (n := 1) (ci := 12) (b0 := 66) (fs := fs6) (as := [.retAddr (xs (4 * k + 1)).toUInt32.toNat]) (rest := []) (h := h1) hx hb hml hl.1 hown htb hK hw hS w_1384 w_1385 w_1386 lk_204 ⟨by decide, by decide⟩ rfl gg6 rfl (by simp [Value.category]) dl_758 e2 z3 z4 ⟨by decide, by decide⟩ rfl (fun H locs hw hS => ?_)
  refine lv_pop hx hb dl_761 rfl ?_
  refine lv_goto (tgt := 857) hx hb dl_762 (by decide) ?_
  exact next h2 H locs j2 (z3.trans z1) (z4.trans z2) hw hS
theorem lcx_23 {p : Program} {l : Launch} {e : Env} {s : State} {m : MethodId} {below : List Frame} {meth : Method} {c : Code} {b L : Nat} {xs : Nat → Int32} {D : va_G} {dA : Nat → ClassId} {H : Heap} {locs : List Loc} {ls : Array Slot} {k : Nat} {h : am_H} (C0 : lw_At p s m meth c b L xs) (hL : L ≤ 256) (hk : 4 * k + 4 ≤ L) (hK : am_Kn s.heap.size D dA s) (hJ : Jv h) (hw : am_Wd s.heap.size D dA h H) (hS : va_S (fun q => s.heap.size ≤ q) s.heap H locs) (hl : lv_has ls 4 [(3, .int (Int32.ofNat (4 * k))), (2, .ref (s.heap.size + 66)), (1, .ref (s.heap.size + 0)), (0, .ref b)]) (next : ∀ (h2 : am_H) (H2 : Heap) (locs2 : List Loc), Jv h2 → h2.1 = h.1 → h2.2.1 = h.2.1 → am_Wd s.heap.size D dA h2 H2 → va_S (fun q => s.heap.size ≤ q) s.heap H2 locs2 → W p l e room_1 s m #[Value.ref b] below meth c H2 locs2 93 71397 (lw_Z below #[Value.ref b] s) (F0 m 857 ls [])) : W p l e room_1 s m #[Value.ref b] below meth c H locs 93 71397 (lw_Z below #[Value.ref b] s) (F0 m 765 ls []) := by
  have C1 := C0
  obtain ⟨hx, hb, hr, hml, hown, hts, hX, hbl, hlocks, hgv⟩ := C0
  have htb : ∀ w ∈ am_tbl, w.before #[Value.ref b] s = true := fun w hw => hts w (am_tbl_in hw)
  obtain ⟨v, h1, w, h2, e1, e2, ec, j2, ⟨fs0, gg0⟩, ⟨fs6, gg6⟩, ⟨z1, z2⟩, z3, z4⟩ := jb_night (xs (4 * k + 1)).toUInt32.toNat (xs (4 * k + 2)).toUInt32.toNat (xs (4 * k + 3)).toUInt32.toNat (an_lt32 _) (an_lt32 _) (an_lt32 _) h hJ
  refine lv_aload_n hx hb dl_765 rfl (lv_at hl 2 rfl) ?_
  refine lw_ld (lv := []) (k := 1) (kv := Int32.ofNat 1) (v := Int32.ofNat (xs (4 * k + 1)).toUInt32.toNat) hx hb hX hbl hS (lv_at hl 3 rfl) (lv_at hl 0 rfl) (by decide) dl_766 dl_767 dl_768 dl_769 dl_770 (by rw [lx_add]; exact an_in (by omega) (by omega)) (by rw [lx_add, an_clamp (by omega), an_of]) ?_
  refine lw_ld (lv := []) (k := 2) (kv := Int32.ofNat 2) (v := Int32.ofNat (xs (4 * k + 2)).toUInt32.toNat) hx hb hX hbl hS (lv_at hl 3 rfl) (lv_at hl 0 rfl) (by decide) dl_771 dl_772 dl_773 dl_774 dl_775 (by rw [lx_add]; exact an_in (by omega) (by omega)) (by rw [lx_add, an_clamp (by omega), an_of]) ?_
  refine lw_ld (lv := []) (k := 3) (kv := Int32.ofNat 3) (v := Int32.ofNat (xs (4 * k + 3)).toUInt32.toNat) hx hb hX hbl hS (lv_at hl 3 rfl) (lv_at hl 0 rfl) (by decide) dl_776 dl_777 dl_778 dl_779 dl_780 (by rw [lx_add]; exact an_in (by omega) (by omega)) (by rw [lx_add, an_clamp (by omega), an_of]) ?_
  refine lx_cv (M' := mi_122) (idx := 109) (n := 3) (ci := 11) (b0 := 0) (fs := fs0) (as := [.retAddr (xs (4 * k + 1)).toUInt32.toNat, .retAddr (xs (4 * k + 2)).toUInt32.toNat, .retAddr (xs (4 * k + 3)).toUInt32.toNat]) (rest := []) (h := h) hx hb hml hl.1 hown htb hK hw hS w_885 w_886 w_887 lk_122 ⟨by decide, by decide⟩ rfl gg0 rfl (by simp [Value.category]) dl_781 e1 z1 z2 ⟨by decide, by decide⟩ rfl (fun H locs hw hS => ?_)
  refine lv_pop hx hb dl_784 rfl ?_
  refine lv_aload_n hx hb dl_785 rfl (lv_at hl 1 rfl) ?_
  refine lw_ld (lv := []) (k := 1) (kv := Int32.ofNat 1) (v := Int32.ofNat (xs (4 * k + 1)).toUInt32.toNat) hx hb hX hbl hS (lv_at hl 3 rfl) (lv_at hl 0 rfl) (by decide) dl_786 dl_787 dl_788 dl_789 dl_790 (by rw [lx_add]; exact an_in (by omega) (by omega)) (by rw [lx_add, an_clamp (by omega), an_of]) ?_
  refine lw_ld (lv := []) (k := 2) (kv := Int32.ofNat 2) (v := Int32.ofNat (xs (4 * k + 2)).toUInt32.toNat) hx hb hX hbl hS (lv_at hl 3 rfl) (lv_at hl 0 rfl) (by decide) dl_791 dl_792 dl_793 dl_794 dl_795 (by rw [lx_add]; exact an_in (by omega) (by omega)) (by rw [lx_add, an_clamp (by omega), an_of]) ?_
  refine lw_ld (lv := []) (k := 3) (kv := Int32.ofNat 3) (v := Int32.ofNat (xs (4 * k + 3)).toUInt32.toNat) hx hb hX hbl hS (lv_at hl 3 rfl) (lv_at hl 0 rfl) (by decide) dl_796 dl_797 dl_798 dl_799 dl_800 (by rw [lx_add]; exact an_in (by omega) (by omega)) (by rw [lx_add, an_clamp (by omega), an_of]) ?_
  refine lx_cv (M' := mi_205) (idx := 112) (n := 3) (ci := 12) (b0 := 66) (fs := fs6) (as := [.retAddr (xs (4 * k + 1)).toUInt32.toNat, .retAddr (xs (4 * k + 2)).toUInt32.toNat, .retAddr (xs (4 * k + 3)).toUInt32.toNat]) (rest := []) (h := h1) hx hb hml hl.1 hown htb hK hw hS w_1388 w_1389 w_1390 lk_205 ⟨by decide, by decide⟩ rfl gg6 rfl (by simp [Value.category]) dl_801 e2 z3 z4 ⟨by decide, by decide⟩ rfl (fun H locs hw hS => ?_)
  refine lv_pop hx hb dl_804 rfl ?_
  refine lv_goto (tgt := 857) hx hb dl_805 (by decide) ?_
  exact next h2 H locs j2 (z3.trans z1) (z4.trans z2) hw hS
theorem lcx_24 {p : Program} {l : Launch} {e : Env} {s : State} {m : MethodId} {below : List Frame} {meth : Method} {c : Code} {b L : Nat} {xs : Nat → Int32} {D : va_G} {dA : Nat → ClassId} {H : Heap} {locs : List Loc} {ls : Array Slot} {k : Nat} {h : am_H} (C0 : lw_At p s m meth c b L xs) (hL : L ≤ 256) (hk : 4 * k + 4 ≤ L) (hK : am_Kn s.heap.size D dA s) (hJ : Jv h) (hw : am_Wd s.heap.size D dA h H) (hS : va_S (fun q => s.heap.size ≤ q) s.heap H locs) (hl : lv_has ls 4 [(3, .int (Int32.ofNat (4 * k))), (2, .ref (s.heap.size + 66)), (1, .ref (s.heap.size + 0)), (0, .ref b)]) (next : ∀ (h2 : am_H) (H2 : Heap) (locs2 : List Loc), Jv h2 → h2.1 = h.1 → h2.2.1 = h.2.1 → am_Wd s.heap.size D dA h2 H2 → va_S (fun q => s.heap.size ≤ q) s.heap H2 locs2 → W p l e room_1 s m #[Value.ref b] below meth c H2 locs2 93 71397 (lw_Z below #[Value.ref b] s) (F0 m 857 ls [])) : W p l e room_1 s m #[Value.ref b] below meth c H locs 93 71397 (lw_Z below #[Value.ref b] s) (F0 m 808 ls []) := by
  have C1 := C0
  obtain ⟨hx, hb, hr, hml, hown, hts, hX, hbl, hlocks, hgv⟩ := C0
  have htb : ∀ w ∈ am_tbl, w.before #[Value.ref b] s = true := fun w hw => hts w (am_tbl_in hw)
  obtain ⟨v, h1, w, h2, e1, e2, ec, j2, ⟨fs0, gg0⟩, ⟨fs6, gg6⟩, ⟨z1, z2⟩, z3, z4⟩ := jb_keep   h hJ
  refine lv_aload_n hx hb dl_808 rfl (lv_at hl 2 rfl) ?_
  refine lx_cv (M' := mi_125) (idx := 113) (n := 0) (ci := 11) (b0 := 0) (fs := fs0) (as := []) (rest := []) (h := h) hx hb hml hl.1 hown htb hK hw hS w_901 w_902 w_903 lk_125 ⟨by decide, by decide⟩ rfl gg0 rfl (by simp [Value.category]) dl_809 e1 z1 z2 ⟨by decide, by decide⟩ rfl (fun H locs hw hS => ?_)
  refine lv_pop hx hb dl_812 rfl ?_
  refine lv_aload_n hx hb dl_813 rfl (lv_at hl 1 rfl) ?_
  refine lx_cv (M' := mi_207) (idx := 116) (n := 0) (ci := 12) (b0 := 66) (fs := fs6) (as := []) (rest := []) (h := h1) hx hb hml hl.1 hown htb hK hw hS w_1401 w_1402 w_1403 lk_207 ⟨by decide, by decide⟩ rfl gg6 rfl (by simp [Value.category]) dl_814 e2 z3 z4 ⟨by decide, by decide⟩ rfl (fun H locs hw hS => ?_)
  refine lv_pop hx hb dl_817 rfl ?_
  refine lv_goto (tgt := 857) hx hb dl_818 (by decide) ?_
  exact next h2 H locs j2 (z3.trans z1) (z4.trans z2) hw hS
theorem lcx_25 {p : Program} {l : Launch} {e : Env} {s : State} {m : MethodId} {below : List Frame} {meth : Method} {c : Code} {b L : Nat} {xs : Nat → Int32} {D : va_G} {dA : Nat → ClassId} {H : Heap} {locs : List Loc} {ls : Array Slot} {k : Nat} {h : am_H} (C0 : lw_At p s m meth c b L xs) (hL : L ≤ 256) (hk : 4 * k + 4 ≤ L) (hK : am_Kn s.heap.size D dA s) (hJ : Jv h) (hw : am_Wd s.heap.size D dA h H) (hS : va_S (fun q => s.heap.size ≤ q) s.heap H locs) (hl : lv_has ls 4 [(3, .int (Int32.ofNat (4 * k))), (2, .ref (s.heap.size + 66)), (1, .ref (s.heap.size + 0)), (0, .ref b)]) (next : ∀ (h2 : am_H) (H2 : Heap) (locs2 : List Loc), Jv h2 → h2.1 = h.1 → h2.2.1 = h.2.1 → am_Wd s.heap.size D dA h2 H2 → va_S (fun q => s.heap.size ≤ q) s.heap H2 locs2 → W p l e room_1 s m #[Value.ref b] below meth c H2 locs2 93 71397 (lw_Z below #[Value.ref b] s) (F0 m 857 ls [])) : W p l e room_1 s m #[Value.ref b] below meth c H locs 93 71397 (lw_Z below #[Value.ref b] s) (F0 m 821 ls []) := by
  have C1 := C0
  obtain ⟨hx, hb, hr, hml, hown, hts, hX, hbl, hlocks, hgv⟩ := C0
  have htb : ∀ w ∈ am_tbl, w.before #[Value.ref b] s = true := fun w hw => hts w (am_tbl_in hw)
  obtain ⟨v, h1, w, h2, e1, e2, ec, j2, ⟨fs0, gg0⟩, ⟨fs6, gg6⟩, ⟨z1, z2⟩, z3, z4⟩ := jb_back   h hJ
  refine lv_aload_n hx hb dl_821 rfl (lv_at hl 2 rfl) ?_
  refine lx_cv (M' := mi_128) (idx := 117) (n := 0) (ci := 11) (b0 := 0) (fs := fs0) (as := []) (rest := []) (h := h) hx hb hml hl.1 hown htb hK hw hS w_917 w_918 w_919 lk_128 ⟨by decide, by decide⟩ rfl gg0 rfl (by simp [Value.category]) dl_822 e1 z1 z2 ⟨by decide, by decide⟩ rfl (fun H locs hw hS => ?_)
  refine lv_pop hx hb dl_825 rfl ?_
  refine lv_aload_n hx hb dl_826 rfl (lv_at hl 1 rfl) ?_
  refine lx_cv (M' := mi_208) (idx := 120) (n := 0) (ci := 12) (b0 := 66) (fs := fs6) (as := []) (rest := []) (h := h1) hx hb hml hl.1 hown htb hK hw hS w_1405 w_1406 w_1407 lk_208 ⟨by decide, by decide⟩ rfl gg6 rfl (by simp [Value.category]) dl_827 e2 z3 z4 ⟨by decide, by decide⟩ rfl (fun H locs hw hS => ?_)
  refine lv_pop hx hb dl_830 rfl ?_
  refine lv_goto (tgt := 857) hx hb dl_831 (by decide) ?_
  exact next h2 H locs j2 (z3.trans z1) (z4.trans z2) hw hS
theorem lcx_26 {p : Program} {l : Launch} {e : Env} {s : State} {m : MethodId} {below : List Frame} {meth : Method} {c : Code} {b L : Nat} {xs : Nat → Int32} {D : va_G} {dA : Nat → ClassId} {H : Heap} {locs : List Loc} {ls : Array Slot} {k : Nat} {h : am_H} (C0 : lw_At p s m meth c b L xs) (hL : L ≤ 256) (hk : 4 * k + 4 ≤ L) (hK : am_Kn s.heap.size D dA s) (hJ : Jv h) (hw : am_Wd s.heap.size D dA h H) (hS : va_S (fun q => s.heap.size ≤ q) s.heap H locs) (hl : lv_has ls 4 [(3, .int (Int32.ofNat (4 * k))), (2, .ref (s.heap.size + 66)), (1, .ref (s.heap.size + 0)), (0, .ref b)]) (next : ∀ (h2 : am_H) (H2 : Heap) (locs2 : List Loc), Jv h2 → h2.1 = h.1 → h2.2.1 = h.2.1 → am_Wd s.heap.size D dA h2 H2 → va_S (fun q => s.heap.size ≤ q) s.heap H2 locs2 → W p l e room_1 s m #[Value.ref b] below meth c H2 locs2 93 71397 (lw_Z below #[Value.ref b] s) (F0 m 857 ls [])) : W p l e room_1 s m #[Value.ref b] below meth c H locs 93 71397 (lw_Z below #[Value.ref b] s) (F0 m 834 ls []) := by
  have C1 := C0
  obtain ⟨hx, hb, hr, hml, hown, hts, hX, hbl, hlocks, hgv⟩ := C0
  have htb : ∀ w ∈ am_tbl, w.before #[Value.ref b] s = true := fun w hw => hts w (am_tbl_in hw)
  obtain ⟨v, h1, w, h2, e1, e2, ec, j2, ⟨fs0, gg0⟩, ⟨fs6, gg6⟩, ⟨z1, z2⟩, z3, z4⟩ := jb_count (xs (4 * k + 1)).toUInt32.toNat (an_lt32 _) h hJ
  refine lv_aload_n hx hb dl_834 rfl (lv_at hl 2 rfl) ?_
  refine lw_ld (lv := []) (k := 1) (kv := Int32.ofNat 1) (v := Int32.ofNat (xs (4 * k + 1)).toUInt32.toNat) hx hb hX hbl hS (lv_at hl 3 rfl) (lv_at hl 0 rfl) (by decide) dl_835 dl_836 dl_837 dl_838 dl_839 (by rw [lx_add]; exact an_in (by omega) (by omega)) (by rw [lx_add, an_clamp (by omega), an_of]) ?_
  refine lx_cv (M' := mi_129) (idx := 121) (n := 1) (ci := 11) (b0 := 0) (fs := fs0) (as := [.retAddr (xs (4 * k + 1)).toUInt32.toNat]) (rest := []) (h := h) hx hb hml hl.1 hown htb hK hw hS w_921 w_922 w_923 lk_129 ⟨by decide, by decide⟩ rfl gg0 rfl (by simp [Value.category]) dl_840 e1 z1 z2 ⟨by decide, by decide⟩ rfl (fun H locs hw hS => ?_)
  refine lv_pop hx hb dl_843 rfl ?_
  refine lv_aload_n hx hb dl_844 rfl (lv_at hl 1 rfl) ?_
  refine lw_ld (lv := []) (k := 1) (kv := Int32.ofNat 1) (v := Int32.ofNat (xs (4 * k + 1)).toUInt32.toNat) hx hb hX hbl hS (lv_at hl 3 rfl) (lv_at hl 0 rfl) (by decide) dl_845 dl_846 dl_847 dl_848 dl_849 (by rw [lx_add]; exact an_in (by omega) (by omega)) (by rw [lx_add, an_clamp (by omega), an_of]) ?_
  refine lx_cv (M' := mi_209) (idx := 124) (n := 1) (ci := 12) (b0 := 66) (fs := fs6) (as := [.retAddr (xs (4 * k + 1)).toUInt32.toNat]) (rest := []) (h := h1) hx hb hml hl.1 hown htb hK hw hS w_1409 w_1410 w_1411 lk_209 ⟨by decide, by decide⟩ rfl gg6 rfl (by simp [Value.category]) dl_850 e2 z3 z4 ⟨by decide, by decide⟩ rfl (fun H locs hw hS => ?_)
  refine lv_pop hx hb dl_853 rfl ?_
  refine lv_goto (tgt := 857) hx hb dl_854 (by decide) ?_
  exact next h2 H locs j2 (z3.trans z1) (z4.trans z2) hw hS
/-- round after round -/
theorem lw_loop {p : Program} {l : Launch} {e : Env} {s : State} {m : MethodId} {below : List Frame} {meth : Method} {c : Code} {b L : Nat} {xs : Nat → Int32} {D : va_G} {dA : Nat → ClassId} (C0 : lw_At p s m meth c b L xs) (hL : L ≤ 256) (hK : am_Kn s.heap.size D dA s) : ∀ (r k : Nat) (h : am_H) (H : Heap) (locs : List Loc) (ls : Array Slot), L ≤ 4 * k + r → 4 * k ≤ 256 → Jv h → am_Wd s.heap.size D dA h H → va_S (fun q => s.heap.size ≤ q) s.heap H locs → lv_has ls 4 [(3, .int (Int32.ofNat (4 * k))), (2, .ref (s.heap.size + 66)), (1, .ref (s.heap.size + 0)), (0, .ref b)] → W p l e room_1 s m #[Value.ref b] below meth c H locs 93 71397 (lw_Z below #[Value.ref b] s) (F0 m 18 ls []) := by
  intro r
  induction r with
  | zero =>
    intro k h H locs ls hr hk hJ hw hS hl
    have C1 := C0
    obtain ⟨hx, hb, hr', hml, hown, hts, hX, hbl, hlocks, hgv⟩ := C0
    refine lv_iload_n hx hb dl_18 rfl (lv_at hl 0 rfl) ?_
    refine lv_aload_n hx hb dl_19 rfl (lv_at hl 3 rfl) ?_
    refine va_slen (A := fun q => s.heap.size ≤ q) hx hb hX hbl (Nat.not_le.mpr hbl) hS dl_20 ?_
    refine lv_iconst (v := 4) hx hb dl_21 (by decide) ?_
    refine lv_isub hx hb dl_22 ?_
    exact lv_icmp_gt (tgt := 863) hx hb dl_23 (by decide) (fun _ => lw_fin C1 hS (by decide) (by decide)) (fun z => absurd ((lx_lt hL hk).mpr (by omega)) z)
  | succ r ih =>
    intro k h H locs ls hr hk hJ hw hS hl
    have C1 := C0
    obtain ⟨hx, hb, hr', hml, hown, hts, hX, hbl, hlocks, hgv⟩ := C0
    refine lv_iload_n hx hb dl_18 rfl (lv_at hl 0 rfl) ?_
    refine lv_aload_n hx hb dl_19 rfl (lv_at hl 3 rfl) ?_
    refine va_slen (A := fun q => s.heap.size ≤ q) hx hb hX hbl (Nat.not_le.mpr hbl) hS dl_20 ?_
    refine lv_iconst (v := 4) hx hb dl_21 (by decide) ?_
    refine lv_isub hx hb dl_22 ?_
    refine lv_icmp_gt (tgt := 863) hx hb dl_23 (by decide) (fun _ => lw_fin C1 hS (by decide) (by decide)) (fun z => ?_)
    have hk4 : 4 * k + 4 ≤ L := by
      have : ¬ (L < 4 * k + 4) := fun q => z ((lx_lt hL hk).mpr q)
      omega
    have next : ∀ (h2 : am_H) (H2 : Heap) (locs2 : List Loc), Jv h2 → am_Wd s.heap.size D dA h2 H2 → va_S (fun q => s.heap.size ≤ q) s.heap H2 locs2 → W p l e room_1 s m #[Value.ref b] below meth c H2 locs2 93 71397 (lw_Z below #[Value.ref b] s) (F0 m 857 ls []) := fun h2 H2 locs2 j2 w2 s2 => by
      refine lv_iinc (v := Int32.ofNat (4 * (k + 1))) (lv' := [(3, .int (Int32.ofNat (4 * (k + 1)))), (2, .ref (s.heap.size + 66)), (1, .ref (s.heap.size + 0)), (0, .ref b)]) hx hb dl_857 hl (k := 0) rfl (by first | decide | (rw [show Int32.ofInt 4 = Int32.ofNat 4 from rfl, lx_add, show 4 * k + 4 = 4 * (k + 1) by omega])) (by first | decide | (rw [show Int32.ofInt 4 = Int32.ofNat 4 from rfl, lx_add, show 4 * k + 4 = 4 * (k + 1) by omega])) rfl (fun ls hl => ?_)
      refine lv_goto (tgt := 18) hx hb dl_860 (by decide) ?_
      exact ih (k + 1) h2 H2 locs2 ls (by omega) (by omega) j2 w2 s2 hl
    have nx : ∀ (h2 : am_H) (H2 : Heap) (locs2 : List Loc), Jv h2 → h2.1 = h.1 → h2.2.1 = h.2.1 → am_Wd s.heap.size D dA h2 H2 → va_S (fun q => s.heap.size ≤ q) s.heap H2 locs2 → W p l e room_1 s m #[Value.ref b] below meth c H2 locs2 93 71397 (lw_Z below #[Value.ref b] s) (F0 m 857 ls []) := fun h2 H2 locs2 j2 _ _ w2 s2 => next h2 H2 locs2 j2 w2 s2
    refine lv_aload_n hx hb dl_26 rfl (lv_at hl 3 rfl) ?_
    refine lv_iload_n hx hb dl_27 rfl (lv_at hl 0 rfl) ?_
    refine va_sld (A := fun q => s.heap.size ≤ q) hx hb hX hbl (Nat.not_le.mpr hbl) hS (an_in (by omega) (by omega)) dl_28 ?_
    refine lv_bipush (v := 31) hx hb dl_29 (by decide) ?_
    refine lv_iand hx hb dl_31 ?_
    have e0 : xs (Int32.ofNat (4 * k)).toNatClampNeg &&& 31 = Int32.ofNat ((xs (4 * k)).toUInt32.toNat % 32) := by
      rw [← an_and31, an_of, an_clamp (by omega)]
    rw [e0]
    have ht := Nat.mod_lt (xs (4 * k)).toUInt32.toNat (show 0 < 32 by decide)
    generalize (xs (4 * k)).toUInt32.toNat % 32 = t at ht ⊢
    match t, ht with
    | 0, _ => exact lv_tableIn (off := 124) (tgt := 156) hx hb dl_32 (by decide) (by decide) rfl (by decide) (lcx_0 C1 hL hk4 hK hJ hw hS hl nx)
    | 1, _ => exact lv_tableIn (off := 147) (tgt := 179) hx hb dl_32 (by decide) (by decide) rfl (by decide) (lcx_1 C1 hL hk4 hK hJ hw hS hl nx)
    | 2, _ => exact lv_tableIn (off := 160) (tgt := 192) hx hb dl_32 (by decide) (by decide) rfl (by decide) (lcx_2 C1 hL hk4 hK hJ hw hS hl nx)
    | 3, _ => exact lv_tableIn (off := 173) (tgt := 205) hx hb dl_32 (by decide) (by decide) rfl (by decide) (lcx_3 C1 hL hk4 hK hJ hw hS hl nx)
    | 4, _ => exact lv_tableIn (off := 186) (tgt := 218) hx hb dl_32 (by decide) (by decide) rfl (by decide) (lcx_4 C1 hL hk4 hK hJ hw hS hl nx)
    | 5, _ => exact lv_tableIn (off := 229) (tgt := 261) hx hb dl_32 (by decide) (by decide) rfl (by decide) (lcx_5 C1 hL hk4 hK hJ hw hS hl nx)
    | 6, _ => exact lv_tableIn (off := 252) (tgt := 284) hx hb dl_32 (by decide) (by decide) rfl (by decide) (lcx_6 C1 hL hk4 hK hJ hw hS hl nx)
    | 7, _ => exact lv_tableIn (off := 285) (tgt := 317) hx hb dl_32 (by decide) (by decide) rfl (by decide) (lcx_7 C1 hL hk4 hK hJ hw hS hl nx)
    | 8, _ => exact lv_tableIn (off := 318) (tgt := 350) hx hb dl_32 (by decide) (by decide) rfl (by decide) (lcx_8 C1 hL hk4 hK hJ hw hS hl nx)
    | 9, _ => exact lv_tableIn (off := 341) (tgt := 373) hx hb dl_32 (by decide) (by decide) rfl (by decide) (lcx_9 C1 hL hk4 hK hJ hw hS hl nx)
    | 10, _ => exact lv_tableIn (off := 374) (tgt := 406) hx hb dl_32 (by decide) (by decide) rfl (by decide) (lcx_10 C1 hL hk4 hK hJ hw hS hl nx)
    | 11, _ => exact lv_tableIn (off := 387) (tgt := 419) hx hb dl_32 (by decide) (by decide) rfl (by decide) (lcx_11 C1 hL hk4 hK hJ hw hS hl nx)
    | 12, _ => exact lv_tableIn (off := 400) (tgt := 432) hx hb dl_32 (by decide) (by decide) rfl (by decide) (lcx_12 C1 hL hk4 hK hJ hw hS hl nx)
    | 13, _ => exact lv_tableIn (off := 423) (tgt := 455) hx hb dl_32 (by decide) (by decide) rfl (by decide) (lcx_13 C1 hL hk4 hK hJ hw hS hl nx)
    | 14, _ => exact lv_tableIn (off := 446) (tgt := 478) hx hb dl_32 (by decide) (by decide) rfl (by decide) (lcx_14 C1 hL hk4 hK hJ hw hS hl nx)
    | 15, _ => exact lv_tableIn (off := 489) (tgt := 521) hx hb dl_32 (by decide) (by decide) rfl (by decide) (lcx_15 C1 hL hk4 hK hJ hw hS hl nx)
    | 16, _ => exact lv_tableIn (off := 532) (tgt := 564) hx hb dl_32 (by decide) (by decide) rfl (by decide) (lcx_16 C1 hL hk4 hK hJ hw hS hl nx)
    | 17, _ => exact lv_tableIn (off := 565) (tgt := 597) hx hb dl_32 (by decide) (by decide) rfl (by decide) (lcx_17 C1 hL hk4 hK hJ hw hS hl nx)
    | 18, _ => exact lv_tableIn (off := 598) (tgt := 630) hx hb dl_32 (by decide) (by decide) rfl (by decide) (lcx_18 C1 hL hk4 hK hJ hw hS hl nx)
    | 19, _ => exact lv_tableIn (off := 631) (tgt := 663) hx hb dl_32 (by decide) (by decide) rfl (by decide) (lcx_19 C1 hL hk4 hK hJ hw hS hl nx)
    | 20, _ => exact lv_tableIn (off := 664) (tgt := 696) hx hb dl_32 (by decide) (by decide) rfl (by decide) (lcx_20 C1 hL hk4 hK hJ hw hS hl nx)
    | 21, _ => exact lv_tableIn (off := 687) (tgt := 719) hx hb dl_32 (by decide) (by decide) rfl (by decide) (lcx_21 C1 hL hk4 hK hJ hw hS hl nx)
    | 22, _ => exact lv_tableIn (off := 710) (tgt := 742) hx hb dl_32 (by decide) (by decide) rfl (by decide) (lcx_22 C1 hL hk4 hK hJ hw hS hl nx)
    | 23, _ => exact lv_tableIn (off := 733) (tgt := 765) hx hb dl_32 (by decide) (by decide) rfl (by decide) (lcx_23 C1 hL hk4 hK hJ hw hS hl nx)
    | 24, _ => exact lv_tableIn (off := 776) (tgt := 808) hx hb dl_32 (by decide) (by decide) rfl (by decide) (lcx_24 C1 hL hk4 hK hJ hw hS hl nx)
    | 25, _ => exact lv_tableIn (off := 789) (tgt := 821) hx hb dl_32 (by decide) (by decide) rfl (by decide) (lcx_25 C1 hL hk4 hK hJ hw hS hl nx)
    | 26, _ => exact lv_tableIn (off := 802) (tgt := 834) hx hb dl_32 (by decide) (by decide) rfl (by decide) (lcx_26 C1 hL hk4 hK hJ hw hS hl nx)
    | 27, _ => exact lv_tableOut (tgt := 857) hx hb dl_32 (by decide) (by decide) (next h H locs hJ hw hS)
    | 28, _ => exact lv_tableOut (tgt := 857) hx hb dl_32 (by decide) (by decide) (next h H locs hJ hw hS)
    | 29, _ => exact lv_tableOut (tgt := 857) hx hb dl_32 (by decide) (by decide) (next h H locs hJ hw hS)
    | 30, _ => exact lv_tableOut (tgt := 857) hx hb dl_32 (by decide) (by decide) (next h H locs hJ hw hS)
    | 31, _ => exact lv_tableOut (tgt := 857) hx hb dl_32 (by decide) (by decide) (next h H locs hJ hw hS)
    | t + 32, h9 => exact absurd h9 (by omega)
theorem whole_start {p : Program} {e : Env} {s : State} {m : MethodId} {below : List Frame} {meth : Method} {c : Code} (l : Launch) {b L : Nat} {xs : Nat → Int32} (hL : L ≤ 256) (C0 : lw_At p s m meth c b L xs) : W p l e room_1 s m #[Value.ref b] below meth c s.heap [] 0 0 (lw_Z below #[Value.ref b] s) (entryFrame m ([Value.ref b] : List Value).toArray 4) := by
  have C1 := C0
  obtain ⟨hx, hb, hr, hml, hown, hts, hX, hbl, hlocks, hgv⟩ := C0
  have htb : ∀ w ∈ am_tbl, w.before #[Value.ref b] s = true := fun w hw => hts w (am_tbl_in hw)
  obtain ⟨D, dA, hK⟩ := lw_kn hts (lw_sx hts hgv)
  have hl := lv_entry ([.ref b]) (n := 4) (Nat.le_of_ble_eq_true rfl)
  rw [lg_entry_eq]
  generalize (lg_sl ([.ref b]) ++ List.replicate (4 - (lg_sl ([.ref b])).length) Slot.unset).toArray = ls at hl ⊢
  have hl : lv_has ls 4 [(0, .ref b)] := hl
  have hw0 : am_Wd s.heap.size D dA (0, 0, []) s.heap := ⟨rfl, fun k e h => by rw [am_get_eq] at h; cases h⟩
  have hn1 : am_New (0, 0, []) hp_a 17 (.inr (11, dfs_11)) := by
    rcases am_pushc_eq (0, 0, []) 17 (.inr (11, dfs_11)) none (fun _ h' => some h') with q | ⟨h', q1, q2⟩
    · cases q
    · cases q2
      exact q1
  refine lw_new (ci := 11) (idx := 7) hx hb hown htb hK hw0 va_S.rf am_ck11 w_22 w_23 w_1 df_11 dl_0 hn1 (by decide) (by decide) fun H hw hS => ?_
  refine lv_dup hx hb dl_3 rfl ?_
  refine lw_ci (M' := mi_0) (idx := 9) (n := 0) (b0 := 0) (as := []) (rest := [.ref (s.heap.size + 0)]) (h := hp_a) hx hb hml hl.1 hown htb hK hw hS w_24 w_25 ⟨rfl, rfl⟩ lk_0 ⟨by decide, by decide⟩ rfl (by simp [Value.category]) dl_4 (eg_ctorX ok_ft) ⟨by decide, by decide⟩ rfl fun H locs hw hS => ?_
  refine lv_astore_n (lv' := [(1, .ref (s.heap.size + 0)), (0, .ref b)]) hx hb dl_7 rfl hl (by decide) rfl (fun ls hl => ?_)
  have hn2 : am_New hp_b hp_c 55 (.inr (12, dfs_12)) := by
    rcases am_pushc_eq hp_b 55 (.inr (12, dfs_12)) none (fun _ h' => some h') with q | ⟨h', q1, q2⟩
    · cases q
    · cases q2
      exact q1
  refine lw_new (ci := 12) (idx := 10) hx hb hown htb hK hw hS am_ck12 w_925 w_926 w_20 df_12 dl_8 hn2 (by decide) (by decide) fun H hw hS => ?_
  refine lv_dup hx hb dl_11 rfl ?_
  refine lw_ci (M' := mi_130) (idx := 12) (n := 0) (b0 := 66) (as := []) (rest := [.ref (s.heap.size + 66)]) (h := hp_c) hx hb hml hl.1 hown htb hK hw hS w_927 w_928 ⟨rfl, rfl⟩ lk_130 ⟨by decide, by decide⟩ rfl (by simp [Value.category]) dl_12 eg_ctorM ⟨by decide, by decide⟩ rfl fun H locs hw hS => ?_
  refine lv_astore_n (lv' := [(2, .ref (s.heap.size + 66)), (1, .ref (s.heap.size + 0)), (0, .ref b)]) hx hb dl_15 rfl hl (by decide) rfl (fun ls hl => ?_)
  refine lv_iconst (v := 0) hx hb dl_16 (by decide) ?_
  refine lv_istore_n (lv' := [(3, .int (Int32.ofNat (4 * 0))), (2, .ref (s.heap.size + 66)), (1, .ref (s.heap.size + 0)), (0, .ref b)]) hx hb dl_17 rfl hl (by decide) rfl (fun ls hl => ?_)
  exact lw_loop C1 hL hK L 0 hp_0 H locs ls (by omega) (by decide) jv_0 hw hS hl
