/-! ===== the law ===== -/
theorem lw_fin {p : Program} {l : Launch} {e : Env} {s : State} {m : MethodId} {below : List Frame} {meth : Method} {c : Code} {b L : Nat} {xs : Nat → Int32} {H : Heap} {locs : List Loc} {ls : Array Slot} {cells slots : Nat} (C0 : lw_At p s m meth c b L xs) (hS : va_S (fun q => s.heap.size ≤ q) s.heap H locs) (hc : cells ≤ 600000) (hs : slots ≤ 7302250) : W p l e room_1 s m #[Value.ref b] below meth c H locs cells slots (lw_Z below #[Value.ref b] s) (F0 m 863 ls []) := by
  obtain ⟨hx, hb, hr, hml, hown, hts, hX, hbl, hlocks, hgv⟩ := C0
  refine lv_iconst (v := 1) hx hb dl_863 (by decide) ?_
  refine va_forget (fun q hq => hS.2.2 q hq) ?_
  refine W.widen (k := 600000) (n := 7302250) hc hs ?_
  exact lw_ret hx hb hr hlocks dl_864
/-- the loop's head: out of it -/
theorem lw_out {p : Program} {l : Launch} {e : Env} {s : State} {m : MethodId} {below : List Frame} {meth : Method} {c : Code} {b L : Nat} {xs : Nat → Int32} {H : Heap} {locs : List Loc} {ls : Array Slot} {cells slots : Nat} {i : Int32} (C0 : lw_At p s m meth c b L xs) (hS : va_S (fun q => s.heap.size ≤ q) s.heap H locs) (hc : cells ≤ 600000) (hs : slots ≤ 7302250) (h0 : ls[0]? = some (.val (.ref b))) (h3 : ls[3]? = some (.val (.int i))) (hi : Int32.ofNat L - 4 < i) : W p l e room_1 s m #[Value.ref b] below meth c H locs cells slots (lw_Z below #[Value.ref b] s) (F0 m 18 ls []) := by
  have C1 := C0
  obtain ⟨hx, hb, hr, hml, hown, hts, hX, hbl, hlocks, hgv⟩ := C0
  refine lv_iload_n hx hb dl_18 rfl h3 ?_
  refine lv_aload_n hx hb dl_19 rfl h0 ?_
  refine va_slen (A := fun q => s.heap.size ≤ q) hx hb hX hbl (Nat.not_le.mpr hbl) hS dl_20 ?_
  refine lv_iconst (v := 4) hx hb dl_21 (by decide) ?_
  refine lv_isub hx hb dl_22 ?_
  refine lv_icmp_gt (tgt := 863) hx hb dl_23 (by decide) (fun _ => lw_fin C1 hS hc hs) (fun z => absurd hi z)
/-- behind a case: on to the end -/
theorem lw_tail {p : Program} {l : Launch} {e : Env} {s : State} {m : MethodId} {below : List Frame} {meth : Method} {c : Code} {b : Nat} {xs : Nat → Int32} {H : Heap} {locs : List Loc} {ls : Array Slot} {cells slots : Nat} (C0 : lw_At p s m meth c b 4 xs) (hS : va_S (fun q => s.heap.size ≤ q) s.heap H locs) (hc : cells ≤ 600000) (hs : slots ≤ 7302250) (hl : lv_has ls 4 [(3, .int 0), (2, .ref (s.heap.size + 66)), (1, .ref (s.heap.size + 0)), (0, .ref b)]) : W p l e room_1 s m #[Value.ref b] below meth c H locs cells slots (lw_Z below #[Value.ref b] s) (F0 m 857 ls []) := by
  have C1 := C0
  obtain ⟨hx, hb, hr, hml, hown, hts, hX, hbl, hlocks, hgv⟩ := C0
  refine lv_iinc (v := 4) (lv' := [(3, .int 4), (2, .ref (s.heap.size + 66)), (1, .ref (s.heap.size + 0)), (0, .ref b)]) hx hb dl_857 hl (k := 0) rfl (by decide) (by decide) rfl (fun ls hl => ?_)
  refine lv_goto (tgt := 18) hx hb dl_860 (by decide) ?_
  exact lw_out C1 hS hc hs (lv_at hl 3 rfl) (lv_at hl 0 rfl) (by decide)
theorem am_tl_get {h1 : am_H} (h : h1.2.2.drop 8 = am_tl) (k : Nat) (e : am_E) (hk : am_get hp_m k = some e) : am_get h1 k = some e := by
  rw [am_get_eq] at hk ⊢
  by_cases h8 : k / 8 < 8
  · exfalso
    have hz : hp_m.2.2[k / 8]? = some [] := by
      have hh : k / 8 = 0 ∨ k / 8 = 1 ∨ k / 8 = 2 ∨ k / 8 = 3 ∨ k / 8 = 4 ∨ k / 8 = 5 ∨ k / 8 = 6 ∨ k / 8 = 7 := by omega
      rcases hh with q | q | q | q | q | q | q | q <;> rw [q] <;> rfl
    rw [hz] at hk
    simp at hk
  · have e1 : hp_m.2.2[k / 8]? = (hp_m.2.2.drop 8)[k / 8 - 8]? := by rw [List.getElem?_drop, show 8 + (k / 8 - 8) = k / 8 by omega]
    have e2 : h1.2.2[k / 8]? = (h1.2.2.drop 8)[k / 8 - 8]? := by rw [List.getElem?_drop, show 8 + (k / 8 - 8) = k / 8 by omega]
    rw [e1] at hk
    rw [e2, h]
    exact hk

def fs_x : List Value := [.ref 1, .retAddr 0, .ref 2, .ref 4, .ref 17, .ref 30, .ref 32, .ref 36, .ref 40, .ref 43, .ref 45, .ref 47, .ref 54, .ref 57, .ref 59, .ref 62, .retAddr 0]
def fs_m : List Value := [.retAddr 12, .retAddr 1, .retAddr 2, .ref 67, .retAddr 2, .ref 68, .retAddr 2, .ref 69, .retAddr 0, .ref 70, .retAddr 1, .ref 71, .retAddr 4, .ref 72, .ref 73, .retAddr 0, .retAddr 0, .ref 74, .retAddr 0, .retAddr 0, .retAddr 0, .ref 75, .retAddr 0, .ref 76, .retAddr 0, .ref 77, .retAddr 0, .ref 78, .retAddr 0, .ref 79, .retAddr 0, .ref 80, .ref 81, .ref 82, .ref 83, .ref 84, .retAddr 0, .retAddr 0, .retAddr 0, .retAddr 0, .retAddr 0, .ref 85, .retAddr 0, .ref 86, .retAddr 0, .ref 87, .ref 88, .ref 89, .retAddr 0, .retAddr 0, .retAddr 0, .ref 90, .ref 91, .retAddr 0, .ref 92]
theorem lw_get0 : am_get hp_0 0 = some (.inr (11, fs_x)) := rfl
theorem lw_get66 : am_get hp_m 66 = some (.inr (12, fs_m)) := rfl
theorem lc_0 {p : Program} {l : Launch} {e : Env} {s : State} {m : MethodId} {below : List Frame} {meth : Method} {c : Code} {b : Nat} {xs : Nat → Int32} {D : va_G} {dA : Nat → ClassId} {H : Heap} {locs : List Loc} {ls : Array Slot} (C0 : lw_At p s m meth c b 4 xs) (hK : am_Kn s.heap.size D dA s) (hw : am_Wd s.heap.size D dA hp_0 H) (hS : va_S (fun q => s.heap.size ≤ q) s.heap H locs) (hl : lv_has ls 4 [(3, .int 0), (2, .ref (s.heap.size + 66)), (1, .ref (s.heap.size + 0)), (0, .ref b)]) : W p l e room_1 s m #[Value.ref b] below meth c H locs 93 71397 (lw_Z below #[Value.ref b] s) (F0 m 156 ls []) := by
  have C1 := C0
  obtain ⟨hx, hb, hr, hml, hown, hts, hX, hbl, hlocks, hgv⟩ := C0
  have htb : ∀ w ∈ am_tbl, w.before #[Value.ref b] s = true := fun w hw => hts w (am_tbl_in hw)
  obtain ⟨v, h1, h2, e1, e2, ⟨k1, k2, k3⟩, k4, k5⟩ := bo_write (xs 1).toUInt32.toNat (an_lt32 _)
  refine lv_aload_n hx hb dl_156 rfl (lv_at hl 2 rfl) ?_
  refine lw_ld (lv := []) (k := 1) (kv := 1) (v := Int32.ofNat (xs 1).toUInt32.toNat) hx hb hX hbl hS (lv_at hl 3 rfl) (lv_at hl 0 rfl) (by decide) dl_157 dl_158 dl_159 dl_160 dl_161 (by unfold vp_in; decide) (by rw [an_of]; rfl) ?_
  refine lw_cv (M' := mi_46) (idx := 13) (n := 1) (ci := 11) (b0 := 0) (fs := fs_x) (as := [.retAddr (xs 1).toUInt32.toNat]) (rest := []) (h := hp_0) hx hb hml hl.1 hown htb hK hw hS w_564 w_565 w_566 lk_46 ⟨by decide, by decide⟩ rfl lw_get0 rfl (by simp [Value.category]) dl_162 e1 ⟨by rw [k1]; decide, by rw [k2]; decide⟩ rfl (fun H locs hw hS => ?_)
  have hw2 := hw.less (h' := hp_m) (by rw [k1]; rfl) (am_tl_get k3)
  refine lv_aload_n hx hb dl_165 rfl (lv_at hl 1 rfl) ?_
  refine lw_ld (lv := []) (k := 1) (kv := 1) (v := Int32.ofNat (xs 1).toUInt32.toNat) hx hb hX hbl hS (lv_at hl 3 rfl) (lv_at hl 0 rfl) (by decide) dl_166 dl_167 dl_168 dl_169 dl_170 (by unfold vp_in; decide) (by rw [an_of]; rfl) ?_
  refine lw_cv (M' := mi_132) (idx := 17) (n := 1) (ci := 12) (b0 := 66) (fs := fs_m) (as := [.retAddr (xs 1).toUInt32.toNat]) (rest := [.int (Int32.ofNat v)]) (h := hp_m) hx hb hml hl.1 hown htb hK hw2 hS w_1102 w_1103 w_1104 lk_132 ⟨by decide, by decide⟩ rfl lw_get66 rfl (by simp [Value.category]) dl_171 e2 ⟨by rw [k1, k4]; decide, by rw [k2, k5]; decide⟩ rfl (fun H locs hw hS => ?_)
  refine lv_icmp_eq (tgt := 857) hx hb dl_174 (by decide) (fun _ => ?_) (fun z => absurd rfl z)
  exact lw_tail C1 hS (by rw [k1, k4]; decide) (by rw [k2, k5]; decide) hl
theorem lc_1 {p : Program} {l : Launch} {e : Env} {s : State} {m : MethodId} {below : List Frame} {meth : Method} {c : Code} {b : Nat} {xs : Nat → Int32} {D : va_G} {dA : Nat → ClassId} {H : Heap} {locs : List Loc} {ls : Array Slot} (C0 : lw_At p s m meth c b 4 xs) (hK : am_Kn s.heap.size D dA s) (hw : am_Wd s.heap.size D dA hp_0 H) (hS : va_S (fun q => s.heap.size ≤ q) s.heap H locs) (hl : lv_has ls 4 [(3, .int 0), (2, .ref (s.heap.size + 66)), (1, .ref (s.heap.size + 0)), (0, .ref b)]) : W p l e room_1 s m #[Value.ref b] below meth c H locs 93 71397 (lw_Z below #[Value.ref b] s) (F0 m 179 ls []) := by
  have C1 := C0
  obtain ⟨hx, hb, hr, hml, hown, hts, hX, hbl, hlocks, hgv⟩ := C0
  have htb : ∀ w ∈ am_tbl, w.before #[Value.ref b] s = true := fun w hw => hts w (am_tbl_in hw)
  obtain ⟨v, h1, h2, e1, e2, ⟨k1, k2, k3⟩, k4, k5⟩ := bo_wipe 
  refine lv_aload_n hx hb dl_179 rfl (lv_at hl 2 rfl) ?_
  refine lw_cv (M' := mi_47) (idx := 18) (n := 0) (ci := 11) (b0 := 0) (fs := fs_x) (as := []) (rest := []) (h := hp_0) hx hb hml hl.1 hown htb hK hw hS w_568 w_569 w_570 lk_47 ⟨by decide, by decide⟩ rfl lw_get0 rfl (by simp [Value.category]) dl_180 e1 ⟨by rw [k1]; decide, by rw [k2]; decide⟩ rfl (fun H locs hw hS => ?_)
  have hw2 := hw.less (h' := hp_m) (by rw [k1]; rfl) (am_tl_get k3)
  refine lv_aload_n hx hb dl_183 rfl (lv_at hl 1 rfl) ?_
  refine lw_cv (M' := mi_134) (idx := 22) (n := 0) (ci := 12) (b0 := 66) (fs := fs_m) (as := []) (rest := [.int (Int32.ofNat v)]) (h := hp_m) hx hb hml hl.1 hown htb hK hw2 hS w_1109 w_1110 w_1111 lk_134 ⟨by decide, by decide⟩ rfl lw_get66 rfl (by simp [Value.category]) dl_184 e2 ⟨by rw [k1, k4]; decide, by rw [k2, k5]; decide⟩ rfl (fun H locs hw hS => ?_)
  refine lv_icmp_eq (tgt := 857) hx hb dl_187 (by decide) (fun _ => ?_) (fun z => absurd rfl z)
  exact lw_tail C1 hS (by rw [k1, k4]; decide) (by rw [k2, k5]; decide) hl
theorem lc_2 {p : Program} {l : Launch} {e : Env} {s : State} {m : MethodId} {below : List Frame} {meth : Method} {c : Code} {b : Nat} {xs : Nat → Int32} {D : va_G} {dA : Nat → ClassId} {H : Heap} {locs : List Loc} {ls : Array Slot} (C0 : lw_At p s m meth c b 4 xs) (hK : am_Kn s.heap.size D dA s) (hw : am_Wd s.heap.size D dA hp_0 H) (hS : va_S (fun q => s.heap.size ≤ q) s.heap H locs) (hl : lv_has ls 4 [(3, .int 0), (2, .ref (s.heap.size + 66)), (1, .ref (s.heap.size + 0)), (0, .ref b)]) : W p l e room_1 s m #[Value.ref b] below meth c H locs 93 71397 (lw_Z below #[Value.ref b] s) (F0 m 192 ls []) := by
  have C1 := C0
  obtain ⟨hx, hb, hr, hml, hown, hts, hX, hbl, hlocks, hgv⟩ := C0
  have htb : ∀ w ∈ am_tbl, w.before #[Value.ref b] s = true := fun w hw => hts w (am_tbl_in hw)
  obtain ⟨v, h1, h2, e1, e2, ⟨k1, k2, k3⟩, k4, k5⟩ := bo_fault 
  refine lv_aload_n hx hb dl_192 rfl (lv_at hl 2 rfl) ?_
  refine lw_cv (M' := mi_48) (idx := 23) (n := 0) (ci := 11) (b0 := 0) (fs := fs_x) (as := []) (rest := []) (h := hp_0) hx hb hml hl.1 hown htb hK hw hS w_572 w_573 w_574 lk_48 ⟨by decide, by decide⟩ rfl lw_get0 rfl (by simp [Value.category]) dl_193 e1 ⟨by rw [k1]; decide, by rw [k2]; decide⟩ rfl (fun H locs hw hS => ?_)
  have hw2 := hw.less (h' := hp_m) (by rw [k1]; rfl) (am_tl_get k3)
  refine lv_aload_n hx hb dl_196 rfl (lv_at hl 1 rfl) ?_
  refine lw_cv (M' := mi_135) (idx := 26) (n := 0) (ci := 12) (b0 := 66) (fs := fs_m) (as := []) (rest := [.int (Int32.ofNat v)]) (h := hp_m) hx hb hml hl.1 hown htb hK hw2 hS w_1113 w_1114 w_1115 lk_135 ⟨by decide, by decide⟩ rfl lw_get66 rfl (by simp [Value.category]) dl_197 e2 ⟨by rw [k1, k4]; decide, by rw [k2, k5]; decide⟩ rfl (fun H locs hw hS => ?_)
  refine lv_icmp_eq (tgt := 857) hx hb dl_200 (by decide) (fun _ => ?_) (fun z => absurd rfl z)
  exact lw_tail C1 hS (by rw [k1, k4]; decide) (by rw [k2, k5]; decide) hl
theorem lc_3 {p : Program} {l : Launch} {e : Env} {s : State} {m : MethodId} {below : List Frame} {meth : Method} {c : Code} {b : Nat} {xs : Nat → Int32} {D : va_G} {dA : Nat → ClassId} {H : Heap} {locs : List Loc} {ls : Array Slot} (C0 : lw_At p s m meth c b 4 xs) (hK : am_Kn s.heap.size D dA s) (hw : am_Wd s.heap.size D dA hp_0 H) (hS : va_S (fun q => s.heap.size ≤ q) s.heap H locs) (hl : lv_has ls 4 [(3, .int 0), (2, .ref (s.heap.size + 66)), (1, .ref (s.heap.size + 0)), (0, .ref b)]) : W p l e room_1 s m #[Value.ref b] below meth c H locs 93 71397 (lw_Z below #[Value.ref b] s) (F0 m 205 ls []) := by
  have C1 := C0
  obtain ⟨hx, hb, hr, hml, hown, hts, hX, hbl, hlocks, hgv⟩ := C0
  have htb : ∀ w ∈ am_tbl, w.before #[Value.ref b] s = true := fun w hw => hts w (am_tbl_in hw)
  obtain ⟨v, h1, h2, e1, e2, ⟨k1, k2, k3⟩, k4, k5⟩ := bo_lay 
  refine lv_aload_n hx hb dl_205 rfl (lv_at hl 2 rfl) ?_
  refine lw_cv (M' := mi_49) (idx := 27) (n := 0) (ci := 11) (b0 := 0) (fs := fs_x) (as := []) (rest := []) (h := hp_0) hx hb hml hl.1 hown htb hK hw hS w_576 w_577 w_578 lk_49 ⟨by decide, by decide⟩ rfl lw_get0 rfl (by simp [Value.category]) dl_206 e1 ⟨by rw [k1]; decide, by rw [k2]; decide⟩ rfl (fun H locs hw hS => ?_)
  have hw2 := hw.less (h' := hp_m) (by rw [k1]; rfl) (am_tl_get k3)
  refine lv_aload_n hx hb dl_209 rfl (lv_at hl 1 rfl) ?_
  refine lw_cv (M' := mi_151) (idx := 30) (n := 0) (ci := 12) (b0 := 66) (fs := fs_m) (as := []) (rest := [.int (Int32.ofNat v)]) (h := hp_m) hx hb hml hl.1 hown htb hK hw2 hS w_1175 w_1176 w_1177 lk_151 ⟨by decide, by decide⟩ rfl lw_get66 rfl (by simp [Value.category]) dl_210 e2 ⟨by rw [k1, k4]; decide, by rw [k2, k5]; decide⟩ rfl (fun H locs hw hS => ?_)
  refine lv_icmp_eq (tgt := 857) hx hb dl_213 (by decide) (fun _ => ?_) (fun z => absurd rfl z)
  exact lw_tail C1 hS (by rw [k1, k4]; decide) (by rw [k2, k5]; decide) hl
theorem lc_4 {p : Program} {l : Launch} {e : Env} {s : State} {m : MethodId} {below : List Frame} {meth : Method} {c : Code} {b : Nat} {xs : Nat → Int32} {D : va_G} {dA : Nat → ClassId} {H : Heap} {locs : List Loc} {ls : Array Slot} (C0 : lw_At p s m meth c b 4 xs) (hK : am_Kn s.heap.size D dA s) (hw : am_Wd s.heap.size D dA hp_0 H) (hS : va_S (fun q => s.heap.size ≤ q) s.heap H locs) (hl : lv_has ls 4 [(3, .int 0), (2, .ref (s.heap.size + 66)), (1, .ref (s.heap.size + 0)), (0, .ref b)]) : W p l e room_1 s m #[Value.ref b] below meth c H locs 93 71397 (lw_Z below #[Value.ref b] s) (F0 m 218 ls []) := by
  have C1 := C0
  obtain ⟨hx, hb, hr, hml, hown, hts, hX, hbl, hlocks, hgv⟩ := C0
  have htb : ∀ w ∈ am_tbl, w.before #[Value.ref b] s = true := fun w hw => hts w (am_tbl_in hw)
  obtain ⟨v, h1, h2, e1, e2, ⟨k1, k2, k3⟩, k4, k5⟩ := bo_minute (xs 1).toUInt32.toNat (an_lt32 _) (xs 2).toUInt32.toNat (an_lt32 _) (xs 3).toUInt32.toNat (an_lt32 _)
  refine lv_aload_n hx hb dl_218 rfl (lv_at hl 2 rfl) ?_
  refine lw_ld (lv := []) (k := 1) (kv := 1) (v := Int32.ofNat (xs 1).toUInt32.toNat) hx hb hX hbl hS (lv_at hl 3 rfl) (lv_at hl 0 rfl) (by decide) dl_219 dl_220 dl_221 dl_222 dl_223 (by unfold vp_in; decide) (by rw [an_of]; rfl) ?_
  refine lw_ld (lv := []) (k := 2) (kv := 2) (v := Int32.ofNat (xs 2).toUInt32.toNat) hx hb hX hbl hS (lv_at hl 3 rfl) (lv_at hl 0 rfl) (by decide) dl_224 dl_225 dl_226 dl_227 dl_228 (by unfold vp_in; decide) (by rw [an_of]; rfl) ?_
  refine lw_ld (lv := []) (k := 3) (kv := 3) (v := Int32.ofNat (xs 3).toUInt32.toNat) hx hb hX hbl hS (lv_at hl 3 rfl) (lv_at hl 0 rfl) (by decide) dl_229 dl_230 dl_231 dl_232 dl_233 (by unfold vp_in; decide) (by rw [an_of]; rfl) ?_
  refine lw_cv (M' := mi_50) (idx := 31) (n := 3) (ci := 11) (b0 := 0) (fs := fs_x) (as := [.retAddr (xs 1).toUInt32.toNat, .retAddr (xs 2).toUInt32.toNat, .retAddr (xs 3).toUInt32.toNat]) (rest := []) (h := hp_0) hx hb hml hl.1 hown htb hK hw hS w_580 w_581 w_582 lk_50 ⟨by decide, by decide⟩ rfl lw_get0 rfl (by simp [Value.category]) dl_234 e1 ⟨by rw [k1]; decide, by rw [k2]; decide⟩ rfl (fun H locs hw hS => ?_)
  have hw2 := hw.less (h' := hp_m) (by rw [k1]; rfl) (am_tl_get k3)
  refine lv_aload_n hx hb dl_237 rfl (lv_at hl 1 rfl) ?_
  refine lw_ld (lv := []) (k := 1) (kv := 1) (v := Int32.ofNat (xs 1).toUInt32.toNat) hx hb hX hbl hS (lv_at hl 3 rfl) (lv_at hl 0 rfl) (by decide) dl_238 dl_239 dl_240 dl_241 dl_242 (by unfold vp_in; decide) (by rw [an_of]; rfl) ?_
  refine lw_ld (lv := []) (k := 2) (kv := 2) (v := Int32.ofNat (xs 2).toUInt32.toNat) hx hb hX hbl hS (lv_at hl 3 rfl) (lv_at hl 0 rfl) (by decide) dl_243 dl_244 dl_245 dl_246 dl_247 (by unfold vp_in; decide) (by rw [an_of]; rfl) ?_
  refine lw_ld (lv := []) (k := 3) (kv := 3) (v := Int32.ofNat (xs 3).toUInt32.toNat) hx hb hX hbl hS (lv_at hl 3 rfl) (lv_at hl 0 rfl) (by decide) dl_248 dl_249 dl_250 dl_251 dl_252 (by unfold vp_in; decide) (by rw [an_of]; rfl) ?_
  refine lw_cv (M' := mi_152) (idx := 35) (n := 3) (ci := 12) (b0 := 66) (fs := fs_m) (as := [.retAddr (xs 1).toUInt32.toNat, .retAddr (xs 2).toUInt32.toNat, .retAddr (xs 3).toUInt32.toNat]) (rest := [.int (Int32.ofNat v)]) (h := hp_m) hx hb hml hl.1 hown htb hK hw2 hS w_1180 w_1181 w_1182 lk_152 ⟨by decide, by decide⟩ rfl lw_get66 rfl (by simp [Value.category]) dl_253 e2 ⟨by rw [k1, k4]; decide, by rw [k2, k5]; decide⟩ rfl (fun H locs hw hS => ?_)
  refine lv_icmp_eq (tgt := 857) hx hb dl_256 (by decide) (fun _ => ?_) (fun z => absurd rfl z)
  exact lw_tail C1 hS (by rw [k1, k4]; decide) (by rw [k2, k5]; decide) hl
theorem lc_5 {p : Program} {l : Launch} {e : Env} {s : State} {m : MethodId} {below : List Frame} {meth : Method} {c : Code} {b : Nat} {xs : Nat → Int32} {D : va_G} {dA : Nat → ClassId} {H : Heap} {locs : List Loc} {ls : Array Slot} (C0 : lw_At p s m meth c b 4 xs) (hK : am_Kn s.heap.size D dA s) (hw : am_Wd s.heap.size D dA hp_0 H) (hS : va_S (fun q => s.heap.size ≤ q) s.heap H locs) (hl : lv_has ls 4 [(3, .int 0), (2, .ref (s.heap.size + 66)), (1, .ref (s.heap.size + 0)), (0, .ref b)]) : W p l e room_1 s m #[Value.ref b] below meth c H locs 93 71397 (lw_Z below #[Value.ref b] s) (F0 m 261 ls []) := by
  have C1 := C0
  obtain ⟨hx, hb, hr, hml, hown, hts, hX, hbl, hlocks, hgv⟩ := C0
  have htb : ∀ w ∈ am_tbl, w.before #[Value.ref b] s = true := fun w hw => hts w (am_tbl_in hw)
  obtain ⟨v, h1, h2, e1, e2, ⟨k1, k2, k3⟩, k4, k5⟩ := bo_known (xs 1).toUInt32.toNat (an_lt32 _)
  refine lv_aload_n hx hb dl_261 rfl (lv_at hl 2 rfl) ?_
  refine lw_ld (lv := []) (k := 1) (kv := 1) (v := Int32.ofNat (xs 1).toUInt32.toNat) hx hb hX hbl hS (lv_at hl 3 rfl) (lv_at hl 0 rfl) (by decide) dl_262 dl_263 dl_264 dl_265 dl_266 (by unfold vp_in; decide) (by rw [an_of]; rfl) ?_
  refine lw_cv (M' := mi_55) (idx := 36) (n := 1) (ci := 11) (b0 := 0) (fs := fs_x) (as := [.retAddr (xs 1).toUInt32.toNat]) (rest := []) (h := hp_0) hx hb hml hl.1 hown htb hK hw hS w_601 w_602 w_603 lk_55 ⟨by decide, by decide⟩ rfl lw_get0 rfl (by simp [Value.category]) dl_267 e1 ⟨by rw [k1]; decide, by rw [k2]; decide⟩ rfl (fun H locs hw hS => ?_)
  have hw2 := hw.less (h' := hp_m) (by rw [k1]; rfl) (am_tl_get k3)
  refine lv_aload_n hx hb dl_270 rfl (lv_at hl 1 rfl) ?_
  refine lw_ld (lv := []) (k := 1) (kv := 1) (v := Int32.ofNat (xs 1).toUInt32.toNat) hx hb hX hbl hS (lv_at hl 3 rfl) (lv_at hl 0 rfl) (by decide) dl_271 dl_272 dl_273 dl_274 dl_275 (by unfold vp_in; decide) (by rw [an_of]; rfl) ?_
  refine lw_cv (M' := mi_160) (idx := 39) (n := 1) (ci := 12) (b0 := 66) (fs := fs_m) (as := [.retAddr (xs 1).toUInt32.toNat]) (rest := [.int (Int32.ofNat v)]) (h := hp_m) hx hb hml hl.1 hown htb hK hw2 hS w_1211 w_1212 w_1213 lk_160 ⟨by decide, by decide⟩ rfl lw_get66 rfl (by simp [Value.category]) dl_276 e2 ⟨by rw [k1, k4]; decide, by rw [k2, k5]; decide⟩ rfl (fun H locs hw hS => ?_)
  refine lv_icmp_eq (tgt := 857) hx hb dl_279 (by decide) (fun _ => ?_) (fun z => absurd rfl z)
  exact lw_tail C1 hS (by rw [k1, k4]; decide) (by rw [k2, k5]; decide) hl
theorem lc_6 {p : Program} {l : Launch} {e : Env} {s : State} {m : MethodId} {below : List Frame} {meth : Method} {c : Code} {b : Nat} {xs : Nat → Int32} {D : va_G} {dA : Nat → ClassId} {H : Heap} {locs : List Loc} {ls : Array Slot} (C0 : lw_At p s m meth c b 4 xs) (hK : am_Kn s.heap.size D dA s) (hw : am_Wd s.heap.size D dA hp_0 H) (hS : va_S (fun q => s.heap.size ≤ q) s.heap H locs) (hl : lv_has ls 4 [(3, .int 0), (2, .ref (s.heap.size + 66)), (1, .ref (s.heap.size + 0)), (0, .ref b)]) : W p l e room_1 s m #[Value.ref b] below meth c H locs 93 71397 (lw_Z below #[Value.ref b] s) (F0 m 284 ls []) := by
  have C1 := C0
  obtain ⟨hx, hb, hr, hml, hown, hts, hX, hbl, hlocks, hgv⟩ := C0
  have htb : ∀ w ∈ am_tbl, w.before #[Value.ref b] s = true := fun w hw => hts w (am_tbl_in hw)
  obtain ⟨v, h1, h2, e1, e2, ⟨k1, k2, k3⟩, k4, k5⟩ := bo_watcher (xs 1).toUInt32.toNat (an_lt32 _) (xs 2).toUInt32.toNat (an_lt32 _)
  refine lv_aload_n hx hb dl_284 rfl (lv_at hl 2 rfl) ?_
  refine lw_ld (lv := []) (k := 1) (kv := 1) (v := Int32.ofNat (xs 1).toUInt32.toNat) hx hb hX hbl hS (lv_at hl 3 rfl) (lv_at hl 0 rfl) (by decide) dl_285 dl_286 dl_287 dl_288 dl_289 (by unfold vp_in; decide) (by rw [an_of]; rfl) ?_
  refine lw_ld (lv := []) (k := 2) (kv := 2) (v := Int32.ofNat (xs 2).toUInt32.toNat) hx hb hX hbl hS (lv_at hl 3 rfl) (lv_at hl 0 rfl) (by decide) dl_290 dl_291 dl_292 dl_293 dl_294 (by unfold vp_in; decide) (by rw [an_of]; rfl) ?_
  refine lw_cv (M' := mi_58) (idx := 40) (n := 2) (ci := 11) (b0 := 0) (fs := fs_x) (as := [.retAddr (xs 1).toUInt32.toNat, .retAddr (xs 2).toUInt32.toNat]) (rest := []) (h := hp_0) hx hb hml hl.1 hown htb hK hw hS w_612 w_613 w_614 lk_58 ⟨by decide, by decide⟩ rfl lw_get0 rfl (by simp [Value.category]) dl_295 e1 ⟨by rw [k1]; decide, by rw [k2]; decide⟩ rfl (fun H locs hw hS => ?_)
  have hw2 := hw.less (h' := hp_m) (by rw [k1]; rfl) (am_tl_get k3)
  refine lv_aload_n hx hb dl_298 rfl (lv_at hl 1 rfl) ?_
  refine lw_ld (lv := []) (k := 1) (kv := 1) (v := Int32.ofNat (xs 1).toUInt32.toNat) hx hb hX hbl hS (lv_at hl 3 rfl) (lv_at hl 0 rfl) (by decide) dl_299 dl_300 dl_301 dl_302 dl_303 (by unfold vp_in; decide) (by rw [an_of]; rfl) ?_
  refine lw_ld (lv := []) (k := 2) (kv := 2) (v := Int32.ofNat (xs 2).toUInt32.toNat) hx hb hX hbl hS (lv_at hl 3 rfl) (lv_at hl 0 rfl) (by decide) dl_304 dl_305 dl_306 dl_307 dl_308 (by unfold vp_in; decide) (by rw [an_of]; rfl) ?_
  refine lw_cv (M' := mi_163) (idx := 44) (n := 2) (ci := 12) (b0 := 66) (fs := fs_m) (as := [.retAddr (xs 1).toUInt32.toNat, .retAddr (xs 2).toUInt32.toNat]) (rest := [.int (Int32.ofNat v)]) (h := hp_m) hx hb hml hl.1 hown htb hK hw2 hS w_1222 w_1223 w_1224 lk_163 ⟨by decide, by decide⟩ rfl lw_get66 rfl (by simp [Value.category]) dl_309 e2 ⟨by rw [k1, k4]; decide, by rw [k2, k5]; decide⟩ rfl (fun H locs hw hS => ?_)
  refine lv_icmp_eq (tgt := 857) hx hb dl_312 (by decide) (fun _ => ?_) (fun z => absurd rfl z)
  exact lw_tail C1 hS (by rw [k1, k4]; decide) (by rw [k2, k5]; decide) hl
theorem lc_7 {p : Program} {l : Launch} {e : Env} {s : State} {m : MethodId} {below : List Frame} {meth : Method} {c : Code} {b : Nat} {xs : Nat → Int32} {D : va_G} {dA : Nat → ClassId} {H : Heap} {locs : List Loc} {ls : Array Slot} (C0 : lw_At p s m meth c b 4 xs) (hK : am_Kn s.heap.size D dA s) (hw : am_Wd s.heap.size D dA hp_0 H) (hS : va_S (fun q => s.heap.size ≤ q) s.heap H locs) (hl : lv_has ls 4 [(3, .int 0), (2, .ref (s.heap.size + 66)), (1, .ref (s.heap.size + 0)), (0, .ref b)]) : W p l e room_1 s m #[Value.ref b] below meth c H locs 93 71397 (lw_Z below #[Value.ref b] s) (F0 m 317 ls []) := by
  have C1 := C0
  obtain ⟨hx, hb, hr, hml, hown, hts, hX, hbl, hlocks, hgv⟩ := C0
  have htb : ∀ w ∈ am_tbl, w.before #[Value.ref b] s = true := fun w hw => hts w (am_tbl_in hw)
  obtain ⟨v, h1, h2, e1, e2, ⟨k1, k2, k3⟩, k4, k5⟩ := bo_where (xs 1).toUInt32.toNat (an_lt32 _) (xs 2).toUInt32.toNat (an_lt32 _)
  refine lv_aload_n hx hb dl_317 rfl (lv_at hl 2 rfl) ?_
  refine lw_ld (lv := []) (k := 1) (kv := 1) (v := Int32.ofNat (xs 1).toUInt32.toNat) hx hb hX hbl hS (lv_at hl 3 rfl) (lv_at hl 0 rfl) (by decide) dl_318 dl_319 dl_320 dl_321 dl_322 (by unfold vp_in; decide) (by rw [an_of]; rfl) ?_
  refine lw_ld (lv := []) (k := 2) (kv := 2) (v := Int32.ofNat (xs 2).toUInt32.toNat) hx hb hX hbl hS (lv_at hl 3 rfl) (lv_at hl 0 rfl) (by decide) dl_323 dl_324 dl_325 dl_326 dl_327 (by unfold vp_in; decide) (by rw [an_of]; rfl) ?_
  refine lw_cv (M' := mi_75) (idx := 45) (n := 2) (ci := 11) (b0 := 0) (fs := fs_x) (as := [.retAddr (xs 1).toUInt32.toNat, .retAddr (xs 2).toUInt32.toNat]) (rest := []) (h := hp_0) hx hb hml hl.1 hown htb hK hw hS w_685 w_686 w_687 lk_75 ⟨by decide, by decide⟩ rfl lw_get0 rfl (by simp [Value.category]) dl_328 e1 ⟨by rw [k1]; decide, by rw [k2]; decide⟩ rfl (fun H locs hw hS => ?_)
  have hw2 := hw.less (h' := hp_m) (by rw [k1]; rfl) (am_tl_get k3)
  refine lv_aload_n hx hb dl_331 rfl (lv_at hl 1 rfl) ?_
  refine lw_ld (lv := []) (k := 1) (kv := 1) (v := Int32.ofNat (xs 1).toUInt32.toNat) hx hb hX hbl hS (lv_at hl 3 rfl) (lv_at hl 0 rfl) (by decide) dl_332 dl_333 dl_334 dl_335 dl_336 (by unfold vp_in; decide) (by rw [an_of]; rfl) ?_
  refine lw_ld (lv := []) (k := 2) (kv := 2) (v := Int32.ofNat (xs 2).toUInt32.toNat) hx hb hX hbl hS (lv_at hl 3 rfl) (lv_at hl 0 rfl) (by decide) dl_337 dl_338 dl_339 dl_340 dl_341 (by unfold vp_in; decide) (by rw [an_of]; rfl) ?_
  refine lw_cv (M' := mi_175) (idx := 48) (n := 2) (ci := 12) (b0 := 66) (fs := fs_m) (as := [.retAddr (xs 1).toUInt32.toNat, .retAddr (xs 2).toUInt32.toNat]) (rest := [.int (Int32.ofNat v)]) (h := hp_m) hx hb hml hl.1 hown htb hK hw2 hS w_1270 w_1271 w_1272 lk_175 ⟨by decide, by decide⟩ rfl lw_get66 rfl (by simp [Value.category]) dl_342 e2 ⟨by rw [k1, k4]; decide, by rw [k2, k5]; decide⟩ rfl (fun H locs hw hS => ?_)
  refine lv_icmp_eq (tgt := 857) hx hb dl_345 (by decide) (fun _ => ?_) (fun z => absurd rfl z)
  exact lw_tail C1 hS (by rw [k1, k4]; decide) (by rw [k2, k5]; decide) hl
theorem lc_8 {p : Program} {l : Launch} {e : Env} {s : State} {m : MethodId} {below : List Frame} {meth : Method} {c : Code} {b : Nat} {xs : Nat → Int32} {D : va_G} {dA : Nat → ClassId} {H : Heap} {locs : List Loc} {ls : Array Slot} (C0 : lw_At p s m meth c b 4 xs) (hK : am_Kn s.heap.size D dA s) (hw : am_Wd s.heap.size D dA hp_0 H) (hS : va_S (fun q => s.heap.size ≤ q) s.heap H locs) (hl : lv_has ls 4 [(3, .int 0), (2, .ref (s.heap.size + 66)), (1, .ref (s.heap.size + 0)), (0, .ref b)]) : W p l e room_1 s m #[Value.ref b] below meth c H locs 93 71397 (lw_Z below #[Value.ref b] s) (F0 m 350 ls []) := by
  have C1 := C0
  obtain ⟨hx, hb, hr, hml, hown, hts, hX, hbl, hlocks, hgv⟩ := C0
  have htb : ∀ w ∈ am_tbl, w.before #[Value.ref b] s = true := fun w hw => hts w (am_tbl_in hw)
  obtain ⟨v, h1, h2, e1, e2, ⟨k1, k2, k3⟩, k4, k5⟩ := bo_begin (xs 1).toUInt32.toNat (an_lt32 _)
  refine lv_aload_n hx hb dl_350 rfl (lv_at hl 2 rfl) ?_
  refine lw_ld (lv := []) (k := 1) (kv := 1) (v := Int32.ofNat (xs 1).toUInt32.toNat) hx hb hX hbl hS (lv_at hl 3 rfl) (lv_at hl 0 rfl) (by decide) dl_351 dl_352 dl_353 dl_354 dl_355 (by unfold vp_in; decide) (by rw [an_of]; rfl) ?_
  refine lw_cv (M' := mi_77) (idx := 49) (n := 1) (ci := 11) (b0 := 0) (fs := fs_x) (as := [.retAddr (xs 1).toUInt32.toNat]) (rest := []) (h := hp_0) hx hb hml hl.1 hown htb hK hw hS w_693 w_694 w_695 lk_77 ⟨by decide, by decide⟩ rfl lw_get0 rfl (by simp [Value.category]) dl_356 e1 ⟨by rw [k1]; decide, by rw [k2]; decide⟩ rfl (fun H locs hw hS => ?_)
  have hw2 := hw.less (h' := hp_m) (by rw [k1]; rfl) (am_tl_get k3)
  refine lv_aload_n hx hb dl_359 rfl (lv_at hl 1 rfl) ?_
  refine lw_ld (lv := []) (k := 1) (kv := 1) (v := Int32.ofNat (xs 1).toUInt32.toNat) hx hb hX hbl hS (lv_at hl 3 rfl) (lv_at hl 0 rfl) (by decide) dl_360 dl_361 dl_362 dl_363 dl_364 (by unfold vp_in; decide) (by rw [an_of]; rfl) ?_
  refine lw_cv (M' := mi_176) (idx := 52) (n := 1) (ci := 12) (b0 := 66) (fs := fs_m) (as := [.retAddr (xs 1).toUInt32.toNat]) (rest := [.int (Int32.ofNat v)]) (h := hp_m) hx hb hml hl.1 hown htb hK hw2 hS w_1274 w_1275 w_1276 lk_176 ⟨by decide, by decide⟩ rfl lw_get66 rfl (by simp [Value.category]) dl_365 e2 ⟨by rw [k1, k4]; decide, by rw [k2, k5]; decide⟩ rfl (fun H locs hw hS => ?_)
  refine lv_icmp_eq (tgt := 857) hx hb dl_368 (by decide) (fun _ => ?_) (fun z => absurd rfl z)
  exact lw_tail C1 hS (by rw [k1, k4]; decide) (by rw [k2, k5]; decide) hl
theorem lc_9 {p : Program} {l : Launch} {e : Env} {s : State} {m : MethodId} {below : List Frame} {meth : Method} {c : Code} {b : Nat} {xs : Nat → Int32} {D : va_G} {dA : Nat → ClassId} {H : Heap} {locs : List Loc} {ls : Array Slot} (C0 : lw_At p s m meth c b 4 xs) (hK : am_Kn s.heap.size D dA s) (hw : am_Wd s.heap.size D dA hp_0 H) (hS : va_S (fun q => s.heap.size ≤ q) s.heap H locs) (hl : lv_has ls 4 [(3, .int 0), (2, .ref (s.heap.size + 66)), (1, .ref (s.heap.size + 0)), (0, .ref b)]) : W p l e room_1 s m #[Value.ref b] below meth c H locs 93 71397 (lw_Z below #[Value.ref b] s) (F0 m 373 ls []) := by
  have C1 := C0
  obtain ⟨hx, hb, hr, hml, hown, hts, hX, hbl, hlocks, hgv⟩ := C0
  have htb : ∀ w ∈ am_tbl, w.before #[Value.ref b] s = true := fun w hw => hts w (am_tbl_in hw)
  obtain ⟨v, h1, h2, e1, e2, ⟨k1, k2, k3⟩, k4, k5⟩ := bo_over (xs 1).toUInt32.toNat (an_lt32 _) (xs 2).toUInt32.toNat (an_lt32 _)
  refine lv_aload_n hx hb dl_373 rfl (lv_at hl 2 rfl) ?_
  refine lw_ld (lv := []) (k := 1) (kv := 1) (v := Int32.ofNat (xs 1).toUInt32.toNat) hx hb hX hbl hS (lv_at hl 3 rfl) (lv_at hl 0 rfl) (by decide) dl_374 dl_375 dl_376 dl_377 dl_378 (by unfold vp_in; decide) (by rw [an_of]; rfl) ?_
  refine lw_ld (lv := []) (k := 2) (kv := 2) (v := Int32.ofNat (xs 2).toUInt32.toNat) hx hb hX hbl hS (lv_at hl 3 rfl) (lv_at hl 0 rfl) (by decide) dl_379 dl_380 dl_381 dl_382 dl_383 (by unfold vp_in; decide) (by rw [an_of]; rfl) ?_
  refine lw_cv (M' := mi_79) (idx := 53) (n := 2) (ci := 11) (b0 := 0) (fs := fs_x) (as := [.retAddr (xs 1).toUInt32.toNat, .retAddr (xs 2).toUInt32.toNat]) (rest := []) (h := hp_0) hx hb hml hl.1 hown htb hK hw hS w_702 w_703 w_704 lk_79 ⟨by decide, by decide⟩ rfl lw_get0 rfl (by simp [Value.category]) dl_384 e1 ⟨by rw [k1]; decide, by rw [k2]; decide⟩ rfl (fun H locs hw hS => ?_)
  have hw2 := hw.less (h' := hp_m) (by rw [k1]; rfl) (am_tl_get k3)
  refine lv_aload_n hx hb dl_387 rfl (lv_at hl 1 rfl) ?_
  refine lw_ld (lv := []) (k := 1) (kv := 1) (v := Int32.ofNat (xs 1).toUInt32.toNat) hx hb hX hbl hS (lv_at hl 3 rfl) (lv_at hl 0 rfl) (by decide) dl_388 dl_389 dl_390 dl_391 dl_392 (by unfold vp_in; decide) (by rw [an_of]; rfl) ?_
  refine lw_ld (lv := []) (k := 2) (kv := 2) (v := Int32.ofNat (xs 2).toUInt32.toNat) hx hb hX hbl hS (lv_at hl 3 rfl) (lv_at hl 0 rfl) (by decide) dl_393 dl_394 dl_395 dl_396 dl_397 (by unfold vp_in; decide) (by rw [an_of]; rfl) ?_
  refine lw_cv (M' := mi_178) (idx := 56) (n := 2) (ci := 12) (b0 := 66) (fs := fs_m) (as := [.retAddr (xs 1).toUInt32.toNat, .retAddr (xs 2).toUInt32.toNat]) (rest := [.int (Int32.ofNat v)]) (h := hp_m) hx hb hml hl.1 hown htb hK hw2 hS w_1282 w_1283 w_1284 lk_178 ⟨by decide, by decide⟩ rfl lw_get66 rfl (by simp [Value.category]) dl_398 e2 ⟨by rw [k1, k4]; decide, by rw [k2, k5]; decide⟩ rfl (fun H locs hw hS => ?_)
  refine lv_icmp_eq (tgt := 857) hx hb dl_401 (by decide) (fun _ => ?_) (fun z => absurd rfl z)
  exact lw_tail C1 hS (by rw [k1, k4]; decide) (by rw [k2, k5]; decide) hl
theorem lc_10 {p : Program} {l : Launch} {e : Env} {s : State} {m : MethodId} {below : List Frame} {meth : Method} {c : Code} {b : Nat} {xs : Nat → Int32} {D : va_G} {dA : Nat → ClassId} {H : Heap} {locs : List Loc} {ls : Array Slot} (C0 : lw_At p s m meth c b 4 xs) (hK : am_Kn s.heap.size D dA s) (hw : am_Wd s.heap.size D dA hp_0 H) (hS : va_S (fun q => s.heap.size ≤ q) s.heap H locs) (hl : lv_has ls 4 [(3, .int 0), (2, .ref (s.heap.size + 66)), (1, .ref (s.heap.size + 0)), (0, .ref b)]) : W p l e room_1 s m #[Value.ref b] below meth c H locs 93 71397 (lw_Z below #[Value.ref b] s) (F0 m 406 ls []) := by
  have C1 := C0
  obtain ⟨hx, hb, hr, hml, hown, hts, hX, hbl, hlocks, hgv⟩ := C0
  have htb : ∀ w ∈ am_tbl, w.before #[Value.ref b] s = true := fun w hw => hts w (am_tbl_in hw)
  obtain ⟨v, h1, h2, e1, e2, ⟨k1, k2, k3⟩, k4, k5⟩ := bo_undo 
  refine lv_aload_n hx hb dl_406 rfl (lv_at hl 2 rfl) ?_
  refine lw_cv (M' := mi_81) (idx := 57) (n := 0) (ci := 11) (b0 := 0) (fs := fs_x) (as := []) (rest := []) (h := hp_0) hx hb hml hl.1 hown htb hK hw hS w_710 w_711 w_712 lk_81 ⟨by decide, by decide⟩ rfl lw_get0 rfl (by simp [Value.category]) dl_407 e1 ⟨by rw [k1]; decide, by rw [k2]; decide⟩ rfl (fun H locs hw hS => ?_)
  have hw2 := hw.less (h' := hp_m) (by rw [k1]; rfl) (am_tl_get k3)
  refine lv_aload_n hx hb dl_410 rfl (lv_at hl 1 rfl) ?_
  refine lw_cv (M' := mi_179) (idx := 60) (n := 0) (ci := 12) (b0 := 66) (fs := fs_m) (as := []) (rest := [.int (Int32.ofNat v)]) (h := hp_m) hx hb hml hl.1 hown htb hK hw2 hS w_1286 w_1287 w_1288 lk_179 ⟨by decide, by decide⟩ rfl lw_get66 rfl (by simp [Value.category]) dl_411 e2 ⟨by rw [k1, k4]; decide, by rw [k2, k5]; decide⟩ rfl (fun H locs hw hS => ?_)
  refine lv_icmp_eq (tgt := 857) hx hb dl_414 (by decide) (fun _ => ?_) (fun z => absurd rfl z)
  exact lw_tail C1 hS (by rw [k1, k4]; decide) (by rw [k2, k5]; decide) hl
theorem lc_11 {p : Program} {l : Launch} {e : Env} {s : State} {m : MethodId} {below : List Frame} {meth : Method} {c : Code} {b : Nat} {xs : Nat → Int32} {D : va_G} {dA : Nat → ClassId} {H : Heap} {locs : List Loc} {ls : Array Slot} (C0 : lw_At p s m meth c b 4 xs) (hK : am_Kn s.heap.size D dA s) (hw : am_Wd s.heap.size D dA hp_0 H) (hS : va_S (fun q => s.heap.size ≤ q) s.heap H locs) (hl : lv_has ls 4 [(3, .int 0), (2, .ref (s.heap.size + 66)), (1, .ref (s.heap.size + 0)), (0, .ref b)]) : W p l e room_1 s m #[Value.ref b] below meth c H locs 93 71397 (lw_Z below #[Value.ref b] s) (F0 m 419 ls []) := by
  have C1 := C0
  obtain ⟨hx, hb, hr, hml, hown, hts, hX, hbl, hlocks, hgv⟩ := C0
  have htb : ∀ w ∈ am_tbl, w.before #[Value.ref b] s = true := fun w hw => hts w (am_tbl_in hw)
  obtain ⟨v, h1, h2, e1, e2, ⟨k1, k2, k3⟩, k4, k5⟩ := bo_judge 
  refine lv_aload_n hx hb dl_419 rfl (lv_at hl 2 rfl) ?_
  refine lw_cv (M' := mi_84) (idx := 61) (n := 0) (ci := 11) (b0 := 0) (fs := fs_x) (as := []) (rest := []) (h := hp_0) hx hb hml hl.1 hown htb hK hw hS w_723 w_724 w_725 lk_84 ⟨by decide, by decide⟩ rfl lw_get0 rfl (by simp [Value.category]) dl_420 e1 ⟨by rw [k1]; decide, by rw [k2]; decide⟩ rfl (fun H locs hw hS => ?_)
  have hw2 := hw.less (h' := hp_m) (by rw [k1]; rfl) (am_tl_get k3)
  refine lv_aload_n hx hb dl_423 rfl (lv_at hl 1 rfl) ?_
  refine lw_cv (M' := mi_180) (idx := 64) (n := 0) (ci := 12) (b0 := 66) (fs := fs_m) (as := []) (rest := [.int (Int32.ofNat v)]) (h := hp_m) hx hb hml hl.1 hown htb hK hw2 hS w_1290 w_1291 w_1292 lk_180 ⟨by decide, by decide⟩ rfl lw_get66 rfl (by simp [Value.category]) dl_424 e2 ⟨by rw [k1, k4]; decide, by rw [k2, k5]; decide⟩ rfl (fun H locs hw hS => ?_)
  refine lv_icmp_eq (tgt := 857) hx hb dl_427 (by decide) (fun _ => ?_) (fun z => absurd rfl z)
  exact lw_tail C1 hS (by rw [k1, k4]; decide) (by rw [k2, k5]; decide) hl
theorem lc_12 {p : Program} {l : Launch} {e : Env} {s : State} {m : MethodId} {below : List Frame} {meth : Method} {c : Code} {b : Nat} {xs : Nat → Int32} {D : va_G} {dA : Nat → ClassId} {H : Heap} {locs : List Loc} {ls : Array Slot} (C0 : lw_At p s m meth c b 4 xs) (hK : am_Kn s.heap.size D dA s) (hw : am_Wd s.heap.size D dA hp_0 H) (hS : va_S (fun q => s.heap.size ≤ q) s.heap H locs) (hl : lv_has ls 4 [(3, .int 0), (2, .ref (s.heap.size + 66)), (1, .ref (s.heap.size + 0)), (0, .ref b)]) : W p l e room_1 s m #[Value.ref b] below meth c H locs 93 71397 (lw_Z below #[Value.ref b] s) (F0 m 432 ls []) := by
  have C1 := C0
  obtain ⟨hx, hb, hr, hml, hown, hts, hX, hbl, hlocks, hgv⟩ := C0
  have htb : ∀ w ∈ am_tbl, w.before #[Value.ref b] s = true := fun w hw => hts w (am_tbl_in hw)
  obtain ⟨v, h1, h2, e1, e2, ⟨k1, k2, k3⟩, k4, k5⟩ := bo_plan (xs 1).toUInt32.toNat (an_lt32 _)
  refine lv_aload_n hx hb dl_432 rfl (lv_at hl 2 rfl) ?_
  refine lw_ld (lv := []) (k := 1) (kv := 1) (v := Int32.ofNat (xs 1).toUInt32.toNat) hx hb hX hbl hS (lv_at hl 3 rfl) (lv_at hl 0 rfl) (by decide) dl_433 dl_434 dl_435 dl_436 dl_437 (by unfold vp_in; decide) (by rw [an_of]; rfl) ?_
  refine lw_cv (M' := mi_85) (idx := 65) (n := 1) (ci := 11) (b0 := 0) (fs := fs_x) (as := [.retAddr (xs 1).toUInt32.toNat]) (rest := []) (h := hp_0) hx hb hml hl.1 hown htb hK hw hS w_728 w_729 w_730 lk_85 ⟨by decide, by decide⟩ rfl lw_get0 rfl (by simp [Value.category]) dl_438 e1 ⟨by rw [k1]; decide, by rw [k2]; decide⟩ rfl (fun H locs hw hS => ?_)
  have hw2 := hw.less (h' := hp_m) (by rw [k1]; rfl) (am_tl_get k3)
  refine lv_aload_n hx hb dl_441 rfl (lv_at hl 1 rfl) ?_
  refine lw_ld (lv := []) (k := 1) (kv := 1) (v := Int32.ofNat (xs 1).toUInt32.toNat) hx hb hX hbl hS (lv_at hl 3 rfl) (lv_at hl 0 rfl) (by decide) dl_442 dl_443 dl_444 dl_445 dl_446 (by unfold vp_in; decide) (by rw [an_of]; rfl) ?_
  refine lw_cv (M' := mi_182) (idx := 68) (n := 1) (ci := 12) (b0 := 66) (fs := fs_m) (as := [.retAddr (xs 1).toUInt32.toNat]) (rest := [.int (Int32.ofNat v)]) (h := hp_m) hx hb hml hl.1 hown htb hK hw2 hS w_1298 w_1299 w_1300 lk_182 ⟨by decide, by decide⟩ rfl lw_get66 rfl (by simp [Value.category]) dl_447 e2 ⟨by rw [k1, k4]; decide, by rw [k2, k5]; decide⟩ rfl (fun H locs hw hS => ?_)
  refine lv_icmp_eq (tgt := 857) hx hb dl_450 (by decide) (fun _ => ?_) (fun z => absurd rfl z)
  exact lw_tail C1 hS (by rw [k1, k4]; decide) (by rw [k2, k5]; decide) hl
theorem lc_13 {p : Program} {l : Launch} {e : Env} {s : State} {m : MethodId} {below : List Frame} {meth : Method} {c : Code} {b : Nat} {xs : Nat → Int32} {D : va_G} {dA : Nat → ClassId} {H : Heap} {locs : List Loc} {ls : Array Slot} (C0 : lw_At p s m meth c b 4 xs) (hK : am_Kn s.heap.size D dA s) (hw : am_Wd s.heap.size D dA hp_0 H) (hS : va_S (fun q => s.heap.size ≤ q) s.heap H locs) (hl : lv_has ls 4 [(3, .int 0), (2, .ref (s.heap.size + 66)), (1, .ref (s.heap.size + 0)), (0, .ref b)]) : W p l e room_1 s m #[Value.ref b] below meth c H locs 93 71397 (lw_Z below #[Value.ref b] s) (F0 m 455 ls []) := by
  have C1 := C0
  obtain ⟨hx, hb, hr, hml, hown, hts, hX, hbl, hlocks, hgv⟩ := C0
  have htb : ∀ w ∈ am_tbl, w.before #[Value.ref b] s = true := fun w hw => hts w (am_tbl_in hw)
  obtain ⟨v, h1, h2, e1, e2, ⟨k1, k2, k3⟩, k4, k5⟩ := bo_at (xs 1).toUInt32.toNat (an_lt32 _)
  refine lv_aload_n hx hb dl_455 rfl (lv_at hl 2 rfl) ?_
  refine lw_ld (lv := []) (k := 1) (kv := 1) (v := Int32.ofNat (xs 1).toUInt32.toNat) hx hb hX hbl hS (lv_at hl 3 rfl) (lv_at hl 0 rfl) (by decide) dl_456 dl_457 dl_458 dl_459 dl_460 (by unfold vp_in; decide) (by rw [an_of]; rfl) ?_
  refine lw_cv (M' := mi_86) (idx := 69) (n := 1) (ci := 11) (b0 := 0) (fs := fs_x) (as := [.retAddr (xs 1).toUInt32.toNat]) (rest := []) (h := hp_0) hx hb hml hl.1 hown htb hK hw hS w_732 w_733 w_734 lk_86 ⟨by decide, by decide⟩ rfl lw_get0 rfl (by simp [Value.category]) dl_461 e1 ⟨by rw [k1]; decide, by rw [k2]; decide⟩ rfl (fun H locs hw hS => ?_)
  have hw2 := hw.less (h' := hp_m) (by rw [k1]; rfl) (am_tl_get k3)
  refine lv_aload_n hx hb dl_464 rfl (lv_at hl 1 rfl) ?_
  refine lw_ld (lv := []) (k := 1) (kv := 1) (v := Int32.ofNat (xs 1).toUInt32.toNat) hx hb hX hbl hS (lv_at hl 3 rfl) (lv_at hl 0 rfl) (by decide) dl_465 dl_466 dl_467 dl_468 dl_469 (by unfold vp_in; decide) (by rw [an_of]; rfl) ?_
  refine lw_cv (M' := mi_184) (idx := 72) (n := 1) (ci := 12) (b0 := 66) (fs := fs_m) (as := [.retAddr (xs 1).toUInt32.toNat]) (rest := [.int (Int32.ofNat v)]) (h := hp_m) hx hb hml hl.1 hown htb hK hw2 hS w_1306 w_1307 w_1308 lk_184 ⟨by decide, by decide⟩ rfl lw_get66 rfl (by simp [Value.category]) dl_470 e2 ⟨by rw [k1, k4]; decide, by rw [k2, k5]; decide⟩ rfl (fun H locs hw hS => ?_)
  refine lv_icmp_eq (tgt := 857) hx hb dl_473 (by decide) (fun _ => ?_) (fun z => absurd rfl z)
  exact lw_tail C1 hS (by rw [k1, k4]; decide) (by rw [k2, k5]; decide) hl
theorem lc_14 {p : Program} {l : Launch} {e : Env} {s : State} {m : MethodId} {below : List Frame} {meth : Method} {c : Code} {b : Nat} {xs : Nat → Int32} {D : va_G} {dA : Nat → ClassId} {H : Heap} {locs : List Loc} {ls : Array Slot} (C0 : lw_At p s m meth c b 4 xs) (hK : am_Kn s.heap.size D dA s) (hw : am_Wd s.heap.size D dA hp_0 H) (hS : va_S (fun q => s.heap.size ≤ q) s.heap H locs) (hl : lv_has ls 4 [(3, .int 0), (2, .ref (s.heap.size + 66)), (1, .ref (s.heap.size + 0)), (0, .ref b)]) : W p l e room_1 s m #[Value.ref b] below meth c H locs 93 71397 (lw_Z below #[Value.ref b] s) (F0 m 478 ls []) := by
  have C1 := C0
  obtain ⟨hx, hb, hr, hml, hown, hts, hX, hbl, hlocks, hgv⟩ := C0
  have htb : ∀ w ∈ am_tbl, w.before #[Value.ref b] s = true := fun w hw => hts w (am_tbl_in hw)
  obtain ⟨v, h1, h2, e1, e2, ⟨k1, k2, k3⟩, k4, k5⟩ := bo_most (xs 1).toUInt32.toNat (an_lt32 _) (xs 2).toUInt32.toNat (an_lt32 _) (xs 3).toUInt32.toNat (an_lt32 _)
  refine lv_aload_n hx hb dl_478 rfl (lv_at hl 2 rfl) ?_
  refine lw_ld (lv := []) (k := 1) (kv := 1) (v := Int32.ofNat (xs 1).toUInt32.toNat) hx hb hX hbl hS (lv_at hl 3 rfl) (lv_at hl 0 rfl) (by decide) dl_479 dl_480 dl_481 dl_482 dl_483 (by unfold vp_in; decide) (by rw [an_of]; rfl) ?_
  refine lw_ld (lv := []) (k := 2) (kv := 2) (v := Int32.ofNat (xs 2).toUInt32.toNat) hx hb hX hbl hS (lv_at hl 3 rfl) (lv_at hl 0 rfl) (by decide) dl_484 dl_485 dl_486 dl_487 dl_488 (by unfold vp_in; decide) (by rw [an_of]; rfl) ?_
  refine lw_ld (lv := []) (k := 3) (kv := 3) (v := Int32.ofNat (xs 3).toUInt32.toNat) hx hb hX hbl hS (lv_at hl 3 rfl) (lv_at hl 0 rfl) (by decide) dl_489 dl_490 dl_491 dl_492 dl_493 (by unfold vp_in; decide) (by rw [an_of]; rfl) ?_
  refine lw_cv (M' := mi_87) (idx := 73) (n := 3) (ci := 11) (b0 := 0) (fs := fs_x) (as := [.retAddr (xs 1).toUInt32.toNat, .retAddr (xs 2).toUInt32.toNat, .retAddr (xs 3).toUInt32.toNat]) (rest := []) (h := hp_0) hx hb hml hl.1 hown htb hK hw hS w_736 w_737 w_738 lk_87 ⟨by decide, by decide⟩ rfl lw_get0 rfl (by simp [Value.category]) dl_494 e1 ⟨by rw [k1]; decide, by rw [k2]; decide⟩ rfl (fun H locs hw hS => ?_)
  have hw2 := hw.less (h' := hp_m) (by rw [k1]; rfl) (am_tl_get k3)
  refine lv_aload_n hx hb dl_497 rfl (lv_at hl 1 rfl) ?_
  refine lw_ld (lv := []) (k := 1) (kv := 1) (v := Int32.ofNat (xs 1).toUInt32.toNat) hx hb hX hbl hS (lv_at hl 3 rfl) (lv_at hl 0 rfl) (by decide) dl_498 dl_499 dl_500 dl_501 dl_502 (by unfold vp_in; decide) (by rw [an_of]; rfl) ?_
  refine lw_ld (lv := []) (k := 2) (kv := 2) (v := Int32.ofNat (xs 2).toUInt32.toNat) hx hb hX hbl hS (lv_at hl 3 rfl) (lv_at hl 0 rfl) (by decide) dl_503 dl_504 dl_505 dl_506 dl_507 (by unfold vp_in; decide) (by rw [an_of]; rfl) ?_
  refine lw_ld (lv := []) (k := 3) (kv := 3) (v := Int32.ofNat (xs 3).toUInt32.toNat) hx hb hX hbl hS (lv_at hl 3 rfl) (lv_at hl 0 rfl) (by decide) dl_508 dl_509 dl_510 dl_511 dl_512 (by unfold vp_in; decide) (by rw [an_of]; rfl) ?_
  refine lw_cv (M' := mi_185) (idx := 76) (n := 3) (ci := 12) (b0 := 66) (fs := fs_m) (as := [.retAddr (xs 1).toUInt32.toNat, .retAddr (xs 2).toUInt32.toNat, .retAddr (xs 3).toUInt32.toNat]) (rest := [.int (Int32.ofNat v)]) (h := hp_m) hx hb hml hl.1 hown htb hK hw2 hS w_1310 w_1311 w_1312 lk_185 ⟨by decide, by decide⟩ rfl lw_get66 rfl (by simp [Value.category]) dl_513 e2 ⟨by rw [k1, k4]; decide, by rw [k2, k5]; decide⟩ rfl (fun H locs hw hS => ?_)
  refine lv_icmp_eq (tgt := 857) hx hb dl_516 (by decide) (fun _ => ?_) (fun z => absurd rfl z)
  exact lw_tail C1 hS (by rw [k1, k4]; decide) (by rw [k2, k5]; decide) hl
theorem lc_15 {p : Program} {l : Launch} {e : Env} {s : State} {m : MethodId} {below : List Frame} {meth : Method} {c : Code} {b : Nat} {xs : Nat → Int32} {D : va_G} {dA : Nat → ClassId} {H : Heap} {locs : List Loc} {ls : Array Slot} (C0 : lw_At p s m meth c b 4 xs) (hK : am_Kn s.heap.size D dA s) (hw : am_Wd s.heap.size D dA hp_0 H) (hS : va_S (fun q => s.heap.size ≤ q) s.heap H locs) (hl : lv_has ls 4 [(3, .int 0), (2, .ref (s.heap.size + 66)), (1, .ref (s.heap.size + 0)), (0, .ref b)]) : W p l e room_1 s m #[Value.ref b] below meth c H locs 93 71397 (lw_Z below #[Value.ref b] s) (F0 m 521 ls []) := by
  have C1 := C0
  obtain ⟨hx, hb, hr, hml, hown, hts, hX, hbl, hlocks, hgv⟩ := C0
  have htb : ∀ w ∈ am_tbl, w.before #[Value.ref b] s = true := fun w hw => hts w (am_tbl_in hw)
  obtain ⟨v, h1, h2, e1, e2, ⟨k1, k2, k3⟩, k4, k5⟩ := bo_understand (xs 1).toUInt32.toNat (an_lt32 _) (xs 2).toUInt32.toNat (an_lt32 _) (xs 3).toUInt32.toNat (an_lt32 _)
  refine lv_aload_n hx hb dl_521 rfl (lv_at hl 2 rfl) ?_
  refine lw_ld (lv := []) (k := 1) (kv := 1) (v := Int32.ofNat (xs 1).toUInt32.toNat) hx hb hX hbl hS (lv_at hl 3 rfl) (lv_at hl 0 rfl) (by decide) dl_522 dl_523 dl_524 dl_525 dl_526 (by unfold vp_in; decide) (by rw [an_of]; rfl) ?_
  refine lw_ld (lv := []) (k := 2) (kv := 2) (v := Int32.ofNat (xs 2).toUInt32.toNat) hx hb hX hbl hS (lv_at hl 3 rfl) (lv_at hl 0 rfl) (by decide) dl_527 dl_528 dl_529 dl_530 dl_531 (by unfold vp_in; decide) (by rw [an_of]; rfl) ?_
  refine lw_ld (lv := []) (k := 3) (kv := 3) (v := Int32.ofNat (xs 3).toUInt32.toNat) hx hb hX hbl hS (lv_at hl 3 rfl) (lv_at hl 0 rfl) (by decide) dl_532 dl_533 dl_534 dl_535 dl_536 (by unfold vp_in; decide) (by rw [an_of]; rfl) ?_
  refine lw_cv (M' := mi_90) (idx := 77) (n := 3) (ci := 11) (b0 := 0) (fs := fs_x) (as := [.retAddr (xs 1).toUInt32.toNat, .retAddr (xs 2).toUInt32.toNat, .retAddr (xs 3).toUInt32.toNat]) (rest := []) (h := hp_0) hx hb hml hl.1 hown htb hK hw hS w_748 w_749 w_750 lk_90 ⟨by decide, by decide⟩ rfl lw_get0 rfl (by simp [Value.category]) dl_537 e1 ⟨by rw [k1]; decide, by rw [k2]; decide⟩ rfl (fun H locs hw hS => ?_)
  have hw2 := hw.less (h' := hp_m) (by rw [k1]; rfl) (am_tl_get k3)
  refine lv_aload_n hx hb dl_540 rfl (lv_at hl 1 rfl) ?_
  refine lw_ld (lv := []) (k := 1) (kv := 1) (v := Int32.ofNat (xs 1).toUInt32.toNat) hx hb hX hbl hS (lv_at hl 3 rfl) (lv_at hl 0 rfl) (by decide) dl_541 dl_542 dl_543 dl_544 dl_545 (by unfold vp_in; decide) (by rw [an_of]; rfl) ?_
  refine lw_ld (lv := []) (k := 2) (kv := 2) (v := Int32.ofNat (xs 2).toUInt32.toNat) hx hb hX hbl hS (lv_at hl 3 rfl) (lv_at hl 0 rfl) (by decide) dl_546 dl_547 dl_548 dl_549 dl_550 (by unfold vp_in; decide) (by rw [an_of]; rfl) ?_
  refine lw_ld (lv := []) (k := 3) (kv := 3) (v := Int32.ofNat (xs 3).toUInt32.toNat) hx hb hX hbl hS (lv_at hl 3 rfl) (lv_at hl 0 rfl) (by decide) dl_551 dl_552 dl_553 dl_554 dl_555 (by unfold vp_in; decide) (by rw [an_of]; rfl) ?_
  refine lw_cv (M' := mi_186) (idx := 80) (n := 3) (ci := 12) (b0 := 66) (fs := fs_m) (as := [.retAddr (xs 1).toUInt32.toNat, .retAddr (xs 2).toUInt32.toNat, .retAddr (xs 3).toUInt32.toNat]) (rest := [.int (Int32.ofNat v)]) (h := hp_m) hx hb hml hl.1 hown htb hK hw2 hS w_1314 w_1315 w_1316 lk_186 ⟨by decide, by decide⟩ rfl lw_get66 rfl (by simp [Value.category]) dl_556 e2 ⟨by rw [k1, k4]; decide, by rw [k2, k5]; decide⟩ rfl (fun H locs hw hS => ?_)
  refine lv_icmp_eq (tgt := 857) hx hb dl_559 (by decide) (fun _ => ?_) (fun z => absurd rfl z)
  exact lw_tail C1 hS (by rw [k1, k4]; decide) (by rw [k2, k5]; decide) hl
theorem lc_16 {p : Program} {l : Launch} {e : Env} {s : State} {m : MethodId} {below : List Frame} {meth : Method} {c : Code} {b : Nat} {xs : Nat → Int32} {D : va_G} {dA : Nat → ClassId} {H : Heap} {locs : List Loc} {ls : Array Slot} (C0 : lw_At p s m meth c b 4 xs) (hK : am_Kn s.heap.size D dA s) (hw : am_Wd s.heap.size D dA hp_0 H) (hS : va_S (fun q => s.heap.size ≤ q) s.heap H locs) (hl : lv_has ls 4 [(3, .int 0), (2, .ref (s.heap.size + 66)), (1, .ref (s.heap.size + 0)), (0, .ref b)]) : W p l e room_1 s m #[Value.ref b] below meth c H locs 93 71397 (lw_Z below #[Value.ref b] s) (F0 m 564 ls []) := by
  have C1 := C0
  obtain ⟨hx, hb, hr, hml, hown, hts, hX, hbl, hlocks, hgv⟩ := C0
  have htb : ∀ w ∈ am_tbl, w.before #[Value.ref b] s = true := fun w hw => hts w (am_tbl_in hw)
  obtain ⟨v, h1, h2, e1, e2, ⟨k1, k2, k3⟩, k4, k5⟩ := bo_soonest (xs 1).toUInt32.toNat (an_lt32 _) (xs 2).toUInt32.toNat (an_lt32 _)
  refine lv_aload_n hx hb dl_564 rfl (lv_at hl 2 rfl) ?_
  refine lw_ld (lv := []) (k := 1) (kv := 1) (v := Int32.ofNat (xs 1).toUInt32.toNat) hx hb hX hbl hS (lv_at hl 3 rfl) (lv_at hl 0 rfl) (by decide) dl_565 dl_566 dl_567 dl_568 dl_569 (by unfold vp_in; decide) (by rw [an_of]; rfl) ?_
  refine lw_ld (lv := []) (k := 2) (kv := 2) (v := Int32.ofNat (xs 2).toUInt32.toNat) hx hb hX hbl hS (lv_at hl 3 rfl) (lv_at hl 0 rfl) (by decide) dl_570 dl_571 dl_572 dl_573 dl_574 (by unfold vp_in; decide) (by rw [an_of]; rfl) ?_
  refine lw_cv (M' := mi_100) (idx := 81) (n := 2) (ci := 11) (b0 := 0) (fs := fs_x) (as := [.retAddr (xs 1).toUInt32.toNat, .retAddr (xs 2).toUInt32.toNat]) (rest := []) (h := hp_0) hx hb hml hl.1 hown htb hK hw hS w_789 w_790 w_791 lk_100 ⟨by decide, by decide⟩ rfl lw_get0 rfl (by simp [Value.category]) dl_575 e1 ⟨by rw [k1]; decide, by rw [k2]; decide⟩ rfl (fun H locs hw hS => ?_)
  have hw2 := hw.less (h' := hp_m) (by rw [k1]; rfl) (am_tl_get k3)
  refine lv_aload_n hx hb dl_578 rfl (lv_at hl 1 rfl) ?_
  refine lw_ld (lv := []) (k := 1) (kv := 1) (v := Int32.ofNat (xs 1).toUInt32.toNat) hx hb hX hbl hS (lv_at hl 3 rfl) (lv_at hl 0 rfl) (by decide) dl_579 dl_580 dl_581 dl_582 dl_583 (by unfold vp_in; decide) (by rw [an_of]; rfl) ?_
  refine lw_ld (lv := []) (k := 2) (kv := 2) (v := Int32.ofNat (xs 2).toUInt32.toNat) hx hb hX hbl hS (lv_at hl 3 rfl) (lv_at hl 0 rfl) (by decide) dl_584 dl_585 dl_586 dl_587 dl_588 (by unfold vp_in; decide) (by rw [an_of]; rfl) ?_
  refine lw_cv (M' := mi_191) (idx := 84) (n := 2) (ci := 12) (b0 := 66) (fs := fs_m) (as := [.retAddr (xs 1).toUInt32.toNat, .retAddr (xs 2).toUInt32.toNat]) (rest := [.int (Int32.ofNat v)]) (h := hp_m) hx hb hml hl.1 hown htb hK hw2 hS w_1333 w_1334 w_1335 lk_191 ⟨by decide, by decide⟩ rfl lw_get66 rfl (by simp [Value.category]) dl_589 e2 ⟨by rw [k1, k4]; decide, by rw [k2, k5]; decide⟩ rfl (fun H locs hw hS => ?_)
  refine lv_icmp_eq (tgt := 857) hx hb dl_592 (by decide) (fun _ => ?_) (fun z => absurd rfl z)
  exact lw_tail C1 hS (by rw [k1, k4]; decide) (by rw [k2, k5]; decide) hl
theorem lc_17 {p : Program} {l : Launch} {e : Env} {s : State} {m : MethodId} {below : List Frame} {meth : Method} {c : Code} {b : Nat} {xs : Nat → Int32} {D : va_G} {dA : Nat → ClassId} {H : Heap} {locs : List Loc} {ls : Array Slot} (C0 : lw_At p s m meth c b 4 xs) (hK : am_Kn s.heap.size D dA s) (hw : am_Wd s.heap.size D dA hp_0 H) (hS : va_S (fun q => s.heap.size ≤ q) s.heap H locs) (hl : lv_has ls 4 [(3, .int 0), (2, .ref (s.heap.size + 66)), (1, .ref (s.heap.size + 0)), (0, .ref b)]) : W p l e room_1 s m #[Value.ref b] below meth c H locs 93 71397 (lw_Z below #[Value.ref b] s) (F0 m 597 ls []) := by
  have C1 := C0
  obtain ⟨hx, hb, hr, hml, hown, hts, hX, hbl, hlocks, hgv⟩ := C0
  have htb : ∀ w ∈ am_tbl, w.before #[Value.ref b] s = true := fun w hw => hts w (am_tbl_in hw)
  obtain ⟨v, h1, h2, e1, e2, ⟨k1, k2, k3⟩, k4, k5⟩ := bo_ask (xs 1).toUInt32.toNat (an_lt32 _) (xs 2).toUInt32.toNat (an_lt32 _)
  refine lv_aload_n hx hb dl_597 rfl (lv_at hl 2 rfl) ?_
  refine lw_ld (lv := []) (k := 1) (kv := 1) (v := Int32.ofNat (xs 1).toUInt32.toNat) hx hb hX hbl hS (lv_at hl 3 rfl) (lv_at hl 0 rfl) (by decide) dl_598 dl_599 dl_600 dl_601 dl_602 (by unfold vp_in; decide) (by rw [an_of]; rfl) ?_
  refine lw_ld (lv := []) (k := 2) (kv := 2) (v := Int32.ofNat (xs 2).toUInt32.toNat) hx hb hX hbl hS (lv_at hl 3 rfl) (lv_at hl 0 rfl) (by decide) dl_603 dl_604 dl_605 dl_606 dl_607 (by unfold vp_in; decide) (by rw [an_of]; rfl) ?_
  refine lw_cv (M' := mi_101) (idx := 85) (n := 2) (ci := 11) (b0 := 0) (fs := fs_x) (as := [.retAddr (xs 1).toUInt32.toNat, .retAddr (xs 2).toUInt32.toNat]) (rest := []) (h := hp_0) hx hb hml hl.1 hown htb hK hw hS w_793 w_794 w_795 lk_101 ⟨by decide, by decide⟩ rfl lw_get0 rfl (by simp [Value.category]) dl_608 e1 ⟨by rw [k1]; decide, by rw [k2]; decide⟩ rfl (fun H locs hw hS => ?_)
  have hw2 := hw.less (h' := hp_m) (by rw [k1]; rfl) (am_tl_get k3)
  refine lv_aload_n hx hb dl_611 rfl (lv_at hl 1 rfl) ?_
  refine lw_ld (lv := []) (k := 1) (kv := 1) (v := Int32.ofNat (xs 1).toUInt32.toNat) hx hb hX hbl hS (lv_at hl 3 rfl) (lv_at hl 0 rfl) (by decide) dl_612 dl_613 dl_614 dl_615 dl_616 (by unfold vp_in; decide) (by rw [an_of]; rfl) ?_
  refine lw_ld (lv := []) (k := 2) (kv := 2) (v := Int32.ofNat (xs 2).toUInt32.toNat) hx hb hX hbl hS (lv_at hl 3 rfl) (lv_at hl 0 rfl) (by decide) dl_617 dl_618 dl_619 dl_620 dl_621 (by unfold vp_in; decide) (by rw [an_of]; rfl) ?_
  refine lw_cv (M' := mi_192) (idx := 88) (n := 2) (ci := 12) (b0 := 66) (fs := fs_m) (as := [.retAddr (xs 1).toUInt32.toNat, .retAddr (xs 2).toUInt32.toNat]) (rest := [.int (Int32.ofNat v)]) (h := hp_m) hx hb hml hl.1 hown htb hK hw2 hS w_1337 w_1338 w_1339 lk_192 ⟨by decide, by decide⟩ rfl lw_get66 rfl (by simp [Value.category]) dl_622 e2 ⟨by rw [k1, k4]; decide, by rw [k2, k5]; decide⟩ rfl (fun H locs hw hS => ?_)
  refine lv_icmp_eq (tgt := 857) hx hb dl_625 (by decide) (fun _ => ?_) (fun z => absurd rfl z)
  exact lw_tail C1 hS (by rw [k1, k4]; decide) (by rw [k2, k5]; decide) hl
theorem lc_18 {p : Program} {l : Launch} {e : Env} {s : State} {m : MethodId} {below : List Frame} {meth : Method} {c : Code} {b : Nat} {xs : Nat → Int32} {D : va_G} {dA : Nat → ClassId} {H : Heap} {locs : List Loc} {ls : Array Slot} (C0 : lw_At p s m meth c b 4 xs) (hK : am_Kn s.heap.size D dA s) (hw : am_Wd s.heap.size D dA hp_0 H) (hS : va_S (fun q => s.heap.size ≤ q) s.heap H locs) (hl : lv_has ls 4 [(3, .int 0), (2, .ref (s.heap.size + 66)), (1, .ref (s.heap.size + 0)), (0, .ref b)]) : W p l e room_1 s m #[Value.ref b] below meth c H locs 93 71397 (lw_Z below #[Value.ref b] s) (F0 m 630 ls []) := by
  have C1 := C0
  obtain ⟨hx, hb, hr, hml, hown, hts, hX, hbl, hlocks, hgv⟩ := C0
  have htb : ∀ w ∈ am_tbl, w.before #[Value.ref b] s = true := fun w hw => hts w (am_tbl_in hw)
  obtain ⟨v, h1, h2, e1, e2, ⟨k1, k2, k3⟩, k4, k5⟩ := bo_fair (xs 1).toUInt32.toNat (an_lt32 _) (xs 2).toUInt32.toNat (an_lt32 _)
  refine lv_aload_n hx hb dl_630 rfl (lv_at hl 2 rfl) ?_
  refine lw_ld (lv := []) (k := 1) (kv := 1) (v := Int32.ofNat (xs 1).toUInt32.toNat) hx hb hX hbl hS (lv_at hl 3 rfl) (lv_at hl 0 rfl) (by decide) dl_631 dl_632 dl_633 dl_634 dl_635 (by unfold vp_in; decide) (by rw [an_of]; rfl) ?_
  refine lw_ld (lv := []) (k := 2) (kv := 2) (v := Int32.ofNat (xs 2).toUInt32.toNat) hx hb hX hbl hS (lv_at hl 3 rfl) (lv_at hl 0 rfl) (by decide) dl_636 dl_637 dl_638 dl_639 dl_640 (by unfold vp_in; decide) (by rw [an_of]; rfl) ?_
  refine lw_cv (M' := mi_104) (idx := 89) (n := 2) (ci := 11) (b0 := 0) (fs := fs_x) (as := [.retAddr (xs 1).toUInt32.toNat, .retAddr (xs 2).toUInt32.toNat]) (rest := []) (h := hp_0) hx hb hml hl.1 hown htb hK hw hS w_808 w_809 w_810 lk_104 ⟨by decide, by decide⟩ rfl lw_get0 rfl (by simp [Value.category]) dl_641 e1 ⟨by rw [k1]; decide, by rw [k2]; decide⟩ rfl (fun H locs hw hS => ?_)
  have hw2 := hw.less (h' := hp_m) (by rw [k1]; rfl) (am_tl_get k3)
  refine lv_aload_n hx hb dl_644 rfl (lv_at hl 1 rfl) ?_
  refine lw_ld (lv := []) (k := 1) (kv := 1) (v := Int32.ofNat (xs 1).toUInt32.toNat) hx hb hX hbl hS (lv_at hl 3 rfl) (lv_at hl 0 rfl) (by decide) dl_645 dl_646 dl_647 dl_648 dl_649 (by unfold vp_in; decide) (by rw [an_of]; rfl) ?_
  refine lw_ld (lv := []) (k := 2) (kv := 2) (v := Int32.ofNat (xs 2).toUInt32.toNat) hx hb hX hbl hS (lv_at hl 3 rfl) (lv_at hl 0 rfl) (by decide) dl_650 dl_651 dl_652 dl_653 dl_654 (by unfold vp_in; decide) (by rw [an_of]; rfl) ?_
  refine lw_cv (M' := mi_194) (idx := 92) (n := 2) (ci := 12) (b0 := 66) (fs := fs_m) (as := [.retAddr (xs 1).toUInt32.toNat, .retAddr (xs 2).toUInt32.toNat]) (rest := [.int (Int32.ofNat v)]) (h := hp_m) hx hb hml hl.1 hown htb hK hw2 hS w_1344 w_1345 w_1346 lk_194 ⟨by decide, by decide⟩ rfl lw_get66 rfl (by simp [Value.category]) dl_655 e2 ⟨by rw [k1, k4]; decide, by rw [k2, k5]; decide⟩ rfl (fun H locs hw hS => ?_)
  refine lv_icmp_eq (tgt := 857) hx hb dl_658 (by decide) (fun _ => ?_) (fun z => absurd rfl z)
  exact lw_tail C1 hS (by rw [k1, k4]; decide) (by rw [k2, k5]; decide) hl
theorem lc_19 {p : Program} {l : Launch} {e : Env} {s : State} {m : MethodId} {below : List Frame} {meth : Method} {c : Code} {b : Nat} {xs : Nat → Int32} {D : va_G} {dA : Nat → ClassId} {H : Heap} {locs : List Loc} {ls : Array Slot} (C0 : lw_At p s m meth c b 4 xs) (hK : am_Kn s.heap.size D dA s) (hw : am_Wd s.heap.size D dA hp_0 H) (hS : va_S (fun q => s.heap.size ≤ q) s.heap H locs) (hl : lv_has ls 4 [(3, .int 0), (2, .ref (s.heap.size + 66)), (1, .ref (s.heap.size + 0)), (0, .ref b)]) : W p l e room_1 s m #[Value.ref b] below meth c H locs 93 71397 (lw_Z below #[Value.ref b] s) (F0 m 663 ls []) := by
  have C1 := C0
  obtain ⟨hx, hb, hr, hml, hown, hts, hX, hbl, hlocks, hgv⟩ := C0
  have htb : ∀ w ∈ am_tbl, w.before #[Value.ref b] s = true := fun w hw => hts w (am_tbl_in hw)
  obtain ⟨v, h1, h2, e1, e2, ⟨k1, k2, k3⟩, k4, k5⟩ := bo_mean (xs 1).toUInt32.toNat (an_lt32 _) (xs 2).toUInt32.toNat (an_lt32 _)
  refine lv_aload_n hx hb dl_663 rfl (lv_at hl 2 rfl) ?_
  refine lw_ld (lv := []) (k := 1) (kv := 1) (v := Int32.ofNat (xs 1).toUInt32.toNat) hx hb hX hbl hS (lv_at hl 3 rfl) (lv_at hl 0 rfl) (by decide) dl_664 dl_665 dl_666 dl_667 dl_668 (by unfold vp_in; decide) (by rw [an_of]; rfl) ?_
  refine lw_ld (lv := []) (k := 2) (kv := 2) (v := Int32.ofNat (xs 2).toUInt32.toNat) hx hb hX hbl hS (lv_at hl 3 rfl) (lv_at hl 0 rfl) (by decide) dl_669 dl_670 dl_671 dl_672 dl_673 (by unfold vp_in; decide) (by rw [an_of]; rfl) ?_
  refine lw_cv (M' := mi_115) (idx := 93) (n := 2) (ci := 11) (b0 := 0) (fs := fs_x) (as := [.retAddr (xs 1).toUInt32.toNat, .retAddr (xs 2).toUInt32.toNat]) (rest := []) (h := hp_0) hx hb hml hl.1 hown htb hK hw hS w_858 w_859 w_860 lk_115 ⟨by decide, by decide⟩ rfl lw_get0 rfl (by simp [Value.category]) dl_674 e1 ⟨by rw [k1]; decide, by rw [k2]; decide⟩ rfl (fun H locs hw hS => ?_)
  have hw2 := hw.less (h' := hp_m) (by rw [k1]; rfl) (am_tl_get k3)
  refine lv_aload_n hx hb dl_677 rfl (lv_at hl 1 rfl) ?_
  refine lw_ld (lv := []) (k := 1) (kv := 1) (v := Int32.ofNat (xs 1).toUInt32.toNat) hx hb hX hbl hS (lv_at hl 3 rfl) (lv_at hl 0 rfl) (by decide) dl_678 dl_679 dl_680 dl_681 dl_682 (by unfold vp_in; decide) (by rw [an_of]; rfl) ?_
  refine lw_ld (lv := []) (k := 2) (kv := 2) (v := Int32.ofNat (xs 2).toUInt32.toNat) hx hb hX hbl hS (lv_at hl 3 rfl) (lv_at hl 0 rfl) (by decide) dl_683 dl_684 dl_685 dl_686 dl_687 (by unfold vp_in; decide) (by rw [an_of]; rfl) ?_
  refine lw_cv (M' := mi_199) (idx := 96) (n := 2) (ci := 12) (b0 := 66) (fs := fs_m) (as := [.retAddr (xs 1).toUInt32.toNat, .retAddr (xs 2).toUInt32.toNat]) (rest := [.int (Int32.ofNat v)]) (h := hp_m) hx hb hml hl.1 hown htb hK hw2 hS w_1364 w_1365 w_1366 lk_199 ⟨by decide, by decide⟩ rfl lw_get66 rfl (by simp [Value.category]) dl_688 e2 ⟨by rw [k1, k4]; decide, by rw [k2, k5]; decide⟩ rfl (fun H locs hw hS => ?_)
  refine lv_icmp_eq (tgt := 857) hx hb dl_691 (by decide) (fun _ => ?_) (fun z => absurd rfl z)
  exact lw_tail C1 hS (by rw [k1, k4]; decide) (by rw [k2, k5]; decide) hl
theorem lc_20 {p : Program} {l : Launch} {e : Env} {s : State} {m : MethodId} {below : List Frame} {meth : Method} {c : Code} {b : Nat} {xs : Nat → Int32} {D : va_G} {dA : Nat → ClassId} {H : Heap} {locs : List Loc} {ls : Array Slot} (C0 : lw_At p s m meth c b 4 xs) (hK : am_Kn s.heap.size D dA s) (hw : am_Wd s.heap.size D dA hp_0 H) (hS : va_S (fun q => s.heap.size ≤ q) s.heap H locs) (hl : lv_has ls 4 [(3, .int 0), (2, .ref (s.heap.size + 66)), (1, .ref (s.heap.size + 0)), (0, .ref b)]) : W p l e room_1 s m #[Value.ref b] below meth c H locs 93 71397 (lw_Z below #[Value.ref b] s) (F0 m 696 ls []) := by
  have C1 := C0
  obtain ⟨hx, hb, hr, hml, hown, hts, hX, hbl, hlocks, hgv⟩ := C0
  have htb : ∀ w ∈ am_tbl, w.before #[Value.ref b] s = true := fun w hw => hts w (am_tbl_in hw)
  obtain ⟨v, h1, h2, e1, e2, ⟨k1, k2, k3⟩, k4, k5⟩ := bo_sure (xs 1).toUInt32.toNat (an_lt32 _)
  refine lv_aload_n hx hb dl_696 rfl (lv_at hl 2 rfl) ?_
  refine lw_ld (lv := []) (k := 1) (kv := 1) (v := Int32.ofNat (xs 1).toUInt32.toNat) hx hb hX hbl hS (lv_at hl 3 rfl) (lv_at hl 0 rfl) (by decide) dl_697 dl_698 dl_699 dl_700 dl_701 (by unfold vp_in; decide) (by rw [an_of]; rfl) ?_
  refine lw_cv (M' := mi_119) (idx := 97) (n := 1) (ci := 11) (b0 := 0) (fs := fs_x) (as := [.retAddr (xs 1).toUInt32.toNat]) (rest := []) (h := hp_0) hx hb hml hl.1 hown htb hK hw hS w_873 w_874 w_875 lk_119 ⟨by decide, by decide⟩ rfl lw_get0 rfl (by simp [Value.category]) dl_702 e1 ⟨by rw [k1]; decide, by rw [k2]; decide⟩ rfl (fun H locs hw hS => ?_)
  have hw2 := hw.less (h' := hp_m) (by rw [k1]; rfl) (am_tl_get k3)
  refine lv_aload_n hx hb dl_705 rfl (lv_at hl 1 rfl) ?_
  refine lw_ld (lv := []) (k := 1) (kv := 1) (v := Int32.ofNat (xs 1).toUInt32.toNat) hx hb hX hbl hS (lv_at hl 3 rfl) (lv_at hl 0 rfl) (by decide) dl_706 dl_707 dl_708 dl_709 dl_710 (by unfold vp_in; decide) (by rw [an_of]; rfl) ?_
  refine lw_cv (M' := mi_202) (idx := 100) (n := 1) (ci := 12) (b0 := 66) (fs := fs_m) (as := [.retAddr (xs 1).toUInt32.toNat]) (rest := [.int (Int32.ofNat v)]) (h := hp_m) hx hb hml hl.1 hown htb hK hw2 hS w_1376 w_1377 w_1378 lk_202 ⟨by decide, by decide⟩ rfl lw_get66 rfl (by simp [Value.category]) dl_711 e2 ⟨by rw [k1, k4]; decide, by rw [k2, k5]; decide⟩ rfl (fun H locs hw hS => ?_)
  refine lv_icmp_eq (tgt := 857) hx hb dl_714 (by decide) (fun _ => ?_) (fun z => absurd rfl z)
  exact lw_tail C1 hS (by rw [k1, k4]; decide) (by rw [k2, k5]; decide) hl
theorem lc_21 {p : Program} {l : Launch} {e : Env} {s : State} {m : MethodId} {below : List Frame} {meth : Method} {c : Code} {b : Nat} {xs : Nat → Int32} {D : va_G} {dA : Nat → ClassId} {H : Heap} {locs : List Loc} {ls : Array Slot} (C0 : lw_At p s m meth c b 4 xs) (hK : am_Kn s.heap.size D dA s) (hw : am_Wd s.heap.size D dA hp_0 H) (hS : va_S (fun q => s.heap.size ≤ q) s.heap H locs) (hl : lv_has ls 4 [(3, .int 0), (2, .ref (s.heap.size + 66)), (1, .ref (s.heap.size + 0)), (0, .ref b)]) : W p l e room_1 s m #[Value.ref b] below meth c H locs 93 71397 (lw_Z below #[Value.ref b] s) (F0 m 719 ls []) := by
  have C1 := C0
  obtain ⟨hx, hb, hr, hml, hown, hts, hX, hbl, hlocks, hgv⟩ := C0
  have htb : ∀ w ∈ am_tbl, w.before #[Value.ref b] s = true := fun w hw => hts w (am_tbl_in hw)
  obtain ⟨v, h1, h2, e1, e2, ⟨k1, k2, k3⟩, k4, k5⟩ := bo_fits (xs 1).toUInt32.toNat (an_lt32 _)
  refine lv_aload_n hx hb dl_719 rfl (lv_at hl 2 rfl) ?_
  refine lw_ld (lv := []) (k := 1) (kv := 1) (v := Int32.ofNat (xs 1).toUInt32.toNat) hx hb hX hbl hS (lv_at hl 3 rfl) (lv_at hl 0 rfl) (by decide) dl_720 dl_721 dl_722 dl_723 dl_724 (by unfold vp_in; decide) (by rw [an_of]; rfl) ?_
  refine lw_cv (M' := mi_120) (idx := 101) (n := 1) (ci := 11) (b0 := 0) (fs := fs_x) (as := [.retAddr (xs 1).toUInt32.toNat]) (rest := []) (h := hp_0) hx hb hml hl.1 hown htb hK hw hS w_877 w_878 w_879 lk_120 ⟨by decide, by decide⟩ rfl lw_get0 rfl (by simp [Value.category]) dl_725 e1 ⟨by rw [k1]; decide, by rw [k2]; decide⟩ rfl (fun H locs hw hS => ?_)
  have hw2 := hw.less (h' := hp_m) (by rw [k1]; rfl) (am_tl_get k3)
  refine lv_aload_n hx hb dl_728 rfl (lv_at hl 1 rfl) ?_
  refine lw_ld (lv := []) (k := 1) (kv := 1) (v := Int32.ofNat (xs 1).toUInt32.toNat) hx hb hX hbl hS (lv_at hl 3 rfl) (lv_at hl 0 rfl) (by decide) dl_729 dl_730 dl_731 dl_732 dl_733 (by unfold vp_in; decide) (by rw [an_of]; rfl) ?_
  refine lw_cv (M' := mi_203) (idx := 104) (n := 1) (ci := 12) (b0 := 66) (fs := fs_m) (as := [.retAddr (xs 1).toUInt32.toNat]) (rest := [.int (Int32.ofNat v)]) (h := hp_m) hx hb hml hl.1 hown htb hK hw2 hS w_1380 w_1381 w_1382 lk_203 ⟨by decide, by decide⟩ rfl lw_get66 rfl (by simp [Value.category]) dl_734 e2 ⟨by rw [k1, k4]; decide, by rw [k2, k5]; decide⟩ rfl (fun H locs hw hS => ?_)
  refine lv_icmp_eq (tgt := 857) hx hb dl_737 (by decide) (fun _ => ?_) (fun z => absurd rfl z)
  exact lw_tail C1 hS (by rw [k1, k4]; decide) (by rw [k2, k5]; decide) hl
theorem lc_22 {p : Program} {l : Launch} {e : Env} {s : State} {m : MethodId} {below : List Frame} {meth : Method} {c : Code} {b : Nat} {xs : Nat → Int32} {D : va_G} {dA : Nat → ClassId} {H : Heap} {locs : List Loc} {ls : Array Slot} (C0 : lw_At p s m meth c b 4 xs) (hK : am_Kn s.heap.size D dA s) (hw : am_Wd s.heap.size D dA hp_0 H) (hS : va_S (fun q => s.heap.size ≤ q) s.heap H locs) (hl : lv_has ls 4 [(3, .int 0), (2, .ref (s.heap.size + 66)), (1, .ref (s.heap.size + 0)), (0, .ref b)]) : W p l e room_1 s m #[Value.ref b] below meth c H locs 93 71397 (lw_Z below #[Value.ref b] s) (F0 m 742 ls []) := by
  have C1 := C0
  obtain ⟨hx, hb, hr, hml, hown, hts, hX, hbl, hlocks, hgv⟩ := C0
  have htb : ∀ w ∈ am_tbl, w.before #[Value.ref b] s = true := fun w hw => hts w (am_tbl_in hw)
  obtain ⟨v, h1, h2, e1, e2, ⟨k1, k2, k3⟩, k4, k5⟩ := bo_matters (xs 1).toUInt32.toNat (an_lt32 _)
  refine lv_aload_n hx hb dl_742 rfl (lv_at hl 2 rfl) ?_
  refine lw_ld (lv := []) (k := 1) (kv := 1) (v := Int32.ofNat (xs 1).toUInt32.toNat) hx hb hX hbl hS (lv_at hl 3 rfl) (lv_at hl 0 rfl) (by decide) dl_743 dl_744 dl_745 dl_746 dl_747 (by unfold vp_in; decide) (by rw [an_of]; rfl) ?_
  refine lw_cv (M' := mi_121) (idx := 105) (n := 1) (ci := 11) (b0 := 0) (fs := fs_x) (as := [.retAddr (xs 1).toUInt32.toNat]) (rest := []) (h := hp_0) hx hb hml hl.1 hown htb hK hw hS w_881 w_882 w_883 lk_121 ⟨by decide, by decide⟩ rfl lw_get0 rfl (by simp [Value.category]) dl_748 e1 ⟨by rw [k1]; decide, by rw [k2]; decide⟩ rfl (fun H locs hw hS => ?_)
  have hw2 := hw.less (h' := hp_m) (by rw [k1]; rfl) (am_tl_get k3)
  refine lv_aload_n hx hb dl_751 rfl (lv_at hl 1 rfl) ?_
  refine lw_ld (lv := []) (k := 1) (kv := 1) (v := Int32.ofNat (xs 1).toUInt32.toNat) hx hb hX hbl hS (lv_at hl 3 rfl) (lv_at hl 0 rfl) (by decide) dl_752 dl_753 dl_754 dl_755 dl_756 (by unfold vp_in; decide) (by rw [an_of]; rfl) ?_
  refine lw_cv (M' := mi_204) (idx := 108) (n := 1) (ci := 12) (b0 := 66) (fs := fs_m) (as := [.retAddr (xs 1).toUInt32.toNat]) (rest := [.int (Int32.ofNat v)]) (h := hp_m) hx hb hml hl.1 hown htb hK hw2 hS w_1384 w_1385 w_1386 lk_204 ⟨by decide, by decide⟩ rfl lw_get66 rfl (by simp [Value.category]) dl_757 e2 ⟨by rw [k1, k4]; decide, by rw [k2, k5]; decide⟩ rfl (fun H locs hw hS => ?_)
  refine lv_icmp_eq (tgt := 857) hx hb dl_760 (by decide) (fun _ => ?_) (fun z => absurd rfl z)
  exact lw_tail C1 hS (by rw [k1, k4]; decide) (by rw [k2, k5]; decide) hl
theorem lc_23 {p : Program} {l : Launch} {e : Env} {s : State} {m : MethodId} {below : List Frame} {meth : Method} {c : Code} {b : Nat} {xs : Nat → Int32} {D : va_G} {dA : Nat → ClassId} {H : Heap} {locs : List Loc} {ls : Array Slot} (C0 : lw_At p s m meth c b 4 xs) (hK : am_Kn s.heap.size D dA s) (hw : am_Wd s.heap.size D dA hp_0 H) (hS : va_S (fun q => s.heap.size ≤ q) s.heap H locs) (hl : lv_has ls 4 [(3, .int 0), (2, .ref (s.heap.size + 66)), (1, .ref (s.heap.size + 0)), (0, .ref b)]) : W p l e room_1 s m #[Value.ref b] below meth c H locs 93 71397 (lw_Z below #[Value.ref b] s) (F0 m 765 ls []) := by
  have C1 := C0
  obtain ⟨hx, hb, hr, hml, hown, hts, hX, hbl, hlocks, hgv⟩ := C0
  have htb : ∀ w ∈ am_tbl, w.before #[Value.ref b] s = true := fun w hw => hts w (am_tbl_in hw)
  obtain ⟨v, h1, h2, e1, e2, ⟨k1, k2, k3⟩, k4, k5⟩ := bo_night (xs 1).toUInt32.toNat (an_lt32 _) (xs 2).toUInt32.toNat (an_lt32 _) (xs 3).toUInt32.toNat (an_lt32 _)
  refine lv_aload_n hx hb dl_765 rfl (lv_at hl 2 rfl) ?_
  refine lw_ld (lv := []) (k := 1) (kv := 1) (v := Int32.ofNat (xs 1).toUInt32.toNat) hx hb hX hbl hS (lv_at hl 3 rfl) (lv_at hl 0 rfl) (by decide) dl_766 dl_767 dl_768 dl_769 dl_770 (by unfold vp_in; decide) (by rw [an_of]; rfl) ?_
  refine lw_ld (lv := []) (k := 2) (kv := 2) (v := Int32.ofNat (xs 2).toUInt32.toNat) hx hb hX hbl hS (lv_at hl 3 rfl) (lv_at hl 0 rfl) (by decide) dl_771 dl_772 dl_773 dl_774 dl_775 (by unfold vp_in; decide) (by rw [an_of]; rfl) ?_
  refine lw_ld (lv := []) (k := 3) (kv := 3) (v := Int32.ofNat (xs 3).toUInt32.toNat) hx hb hX hbl hS (lv_at hl 3 rfl) (lv_at hl 0 rfl) (by decide) dl_776 dl_777 dl_778 dl_779 dl_780 (by unfold vp_in; decide) (by rw [an_of]; rfl) ?_
  refine lw_cv (M' := mi_122) (idx := 109) (n := 3) (ci := 11) (b0 := 0) (fs := fs_x) (as := [.retAddr (xs 1).toUInt32.toNat, .retAddr (xs 2).toUInt32.toNat, .retAddr (xs 3).toUInt32.toNat]) (rest := []) (h := hp_0) hx hb hml hl.1 hown htb hK hw hS w_885 w_886 w_887 lk_122 ⟨by decide, by decide⟩ rfl lw_get0 rfl (by simp [Value.category]) dl_781 e1 ⟨by rw [k1]; decide, by rw [k2]; decide⟩ rfl (fun H locs hw hS => ?_)
  have hw2 := hw.less (h' := hp_m) (by rw [k1]; rfl) (am_tl_get k3)
  refine lv_aload_n hx hb dl_784 rfl (lv_at hl 1 rfl) ?_
  refine lw_ld (lv := []) (k := 1) (kv := 1) (v := Int32.ofNat (xs 1).toUInt32.toNat) hx hb hX hbl hS (lv_at hl 3 rfl) (lv_at hl 0 rfl) (by decide) dl_785 dl_786 dl_787 dl_788 dl_789 (by unfold vp_in; decide) (by rw [an_of]; rfl) ?_
  refine lw_ld (lv := []) (k := 2) (kv := 2) (v := Int32.ofNat (xs 2).toUInt32.toNat) hx hb hX hbl hS (lv_at hl 3 rfl) (lv_at hl 0 rfl) (by decide) dl_790 dl_791 dl_792 dl_793 dl_794 (by unfold vp_in; decide) (by rw [an_of]; rfl) ?_
  refine lw_ld (lv := []) (k := 3) (kv := 3) (v := Int32.ofNat (xs 3).toUInt32.toNat) hx hb hX hbl hS (lv_at hl 3 rfl) (lv_at hl 0 rfl) (by decide) dl_795 dl_796 dl_797 dl_798 dl_799 (by unfold vp_in; decide) (by rw [an_of]; rfl) ?_
  refine lw_cv (M' := mi_205) (idx := 112) (n := 3) (ci := 12) (b0 := 66) (fs := fs_m) (as := [.retAddr (xs 1).toUInt32.toNat, .retAddr (xs 2).toUInt32.toNat, .retAddr (xs 3).toUInt32.toNat]) (rest := [.int (Int32.ofNat v)]) (h := hp_m) hx hb hml hl.1 hown htb hK hw2 hS w_1388 w_1389 w_1390 lk_205 ⟨by decide, by decide⟩ rfl lw_get66 rfl (by simp [Value.category]) dl_800 e2 ⟨by rw [k1, k4]; decide, by rw [k2, k5]; decide⟩ rfl (fun H locs hw hS => ?_)
  refine lv_icmp_eq (tgt := 857) hx hb dl_803 (by decide) (fun _ => ?_) (fun z => absurd rfl z)
  exact lw_tail C1 hS (by rw [k1, k4]; decide) (by rw [k2, k5]; decide) hl
theorem lc_24 {p : Program} {l : Launch} {e : Env} {s : State} {m : MethodId} {below : List Frame} {meth : Method} {c : Code} {b : Nat} {xs : Nat → Int32} {D : va_G} {dA : Nat → ClassId} {H : Heap} {locs : List Loc} {ls : Array Slot} (C0 : lw_At p s m meth c b 4 xs) (hK : am_Kn s.heap.size D dA s) (hw : am_Wd s.heap.size D dA hp_0 H) (hS : va_S (fun q => s.heap.size ≤ q) s.heap H locs) (hl : lv_has ls 4 [(3, .int 0), (2, .ref (s.heap.size + 66)), (1, .ref (s.heap.size + 0)), (0, .ref b)]) : W p l e room_1 s m #[Value.ref b] below meth c H locs 93 71397 (lw_Z below #[Value.ref b] s) (F0 m 808 ls []) := by
  have C1 := C0
  obtain ⟨hx, hb, hr, hml, hown, hts, hX, hbl, hlocks, hgv⟩ := C0
  have htb : ∀ w ∈ am_tbl, w.before #[Value.ref b] s = true := fun w hw => hts w (am_tbl_in hw)
  obtain ⟨v, h1, h2, e1, e2, ⟨k1, k2, k3⟩, k4, k5⟩ := bo_keep 
  refine lv_aload_n hx hb dl_808 rfl (lv_at hl 2 rfl) ?_
  refine lw_cv (M' := mi_125) (idx := 113) (n := 0) (ci := 11) (b0 := 0) (fs := fs_x) (as := []) (rest := []) (h := hp_0) hx hb hml hl.1 hown htb hK hw hS w_901 w_902 w_903 lk_125 ⟨by decide, by decide⟩ rfl lw_get0 rfl (by simp [Value.category]) dl_809 e1 ⟨by rw [k1]; decide, by rw [k2]; decide⟩ rfl (fun H locs hw hS => ?_)
  have hw2 := hw.less (h' := hp_m) (by rw [k1]; rfl) (am_tl_get k3)
  refine lv_aload_n hx hb dl_812 rfl (lv_at hl 1 rfl) ?_
  refine lw_cv (M' := mi_207) (idx := 116) (n := 0) (ci := 12) (b0 := 66) (fs := fs_m) (as := []) (rest := [.int (Int32.ofNat v)]) (h := hp_m) hx hb hml hl.1 hown htb hK hw2 hS w_1401 w_1402 w_1403 lk_207 ⟨by decide, by decide⟩ rfl lw_get66 rfl (by simp [Value.category]) dl_813 e2 ⟨by rw [k1, k4]; decide, by rw [k2, k5]; decide⟩ rfl (fun H locs hw hS => ?_)
  refine lv_icmp_eq (tgt := 857) hx hb dl_816 (by decide) (fun _ => ?_) (fun z => absurd rfl z)
  exact lw_tail C1 hS (by rw [k1, k4]; decide) (by rw [k2, k5]; decide) hl
theorem lc_25 {p : Program} {l : Launch} {e : Env} {s : State} {m : MethodId} {below : List Frame} {meth : Method} {c : Code} {b : Nat} {xs : Nat → Int32} {D : va_G} {dA : Nat → ClassId} {H : Heap} {locs : List Loc} {ls : Array Slot} (C0 : lw_At p s m meth c b 4 xs) (hK : am_Kn s.heap.size D dA s) (hw : am_Wd s.heap.size D dA hp_0 H) (hS : va_S (fun q => s.heap.size ≤ q) s.heap H locs) (hl : lv_has ls 4 [(3, .int 0), (2, .ref (s.heap.size + 66)), (1, .ref (s.heap.size + 0)), (0, .ref b)]) : W p l e room_1 s m #[Value.ref b] below meth c H locs 93 71397 (lw_Z below #[Value.ref b] s) (F0 m 821 ls []) := by
  have C1 := C0
  obtain ⟨hx, hb, hr, hml, hown, hts, hX, hbl, hlocks, hgv⟩ := C0
  have htb : ∀ w ∈ am_tbl, w.before #[Value.ref b] s = true := fun w hw => hts w (am_tbl_in hw)
  obtain ⟨v, h1, h2, e1, e2, ⟨k1, k2, k3⟩, k4, k5⟩ := bo_back 
  refine lv_aload_n hx hb dl_821 rfl (lv_at hl 2 rfl) ?_
  refine lw_cv (M' := mi_128) (idx := 117) (n := 0) (ci := 11) (b0 := 0) (fs := fs_x) (as := []) (rest := []) (h := hp_0) hx hb hml hl.1 hown htb hK hw hS w_917 w_918 w_919 lk_128 ⟨by decide, by decide⟩ rfl lw_get0 rfl (by simp [Value.category]) dl_822 e1 ⟨by rw [k1]; decide, by rw [k2]; decide⟩ rfl (fun H locs hw hS => ?_)
  have hw2 := hw.less (h' := hp_m) (by rw [k1]; rfl) (am_tl_get k3)
  refine lv_aload_n hx hb dl_825 rfl (lv_at hl 1 rfl) ?_
  refine lw_cv (M' := mi_208) (idx := 120) (n := 0) (ci := 12) (b0 := 66) (fs := fs_m) (as := []) (rest := [.int (Int32.ofNat v)]) (h := hp_m) hx hb hml hl.1 hown htb hK hw2 hS w_1405 w_1406 w_1407 lk_208 ⟨by decide, by decide⟩ rfl lw_get66 rfl (by simp [Value.category]) dl_826 e2 ⟨by rw [k1, k4]; decide, by rw [k2, k5]; decide⟩ rfl (fun H locs hw hS => ?_)
  refine lv_icmp_eq (tgt := 857) hx hb dl_829 (by decide) (fun _ => ?_) (fun z => absurd rfl z)
  exact lw_tail C1 hS (by rw [k1, k4]; decide) (by rw [k2, k5]; decide) hl
theorem lc_26 {p : Program} {l : Launch} {e : Env} {s : State} {m : MethodId} {below : List Frame} {meth : Method} {c : Code} {b : Nat} {xs : Nat → Int32} {D : va_G} {dA : Nat → ClassId} {H : Heap} {locs : List Loc} {ls : Array Slot} (C0 : lw_At p s m meth c b 4 xs) (hK : am_Kn s.heap.size D dA s) (hw : am_Wd s.heap.size D dA hp_0 H) (hS : va_S (fun q => s.heap.size ≤ q) s.heap H locs) (hl : lv_has ls 4 [(3, .int 0), (2, .ref (s.heap.size + 66)), (1, .ref (s.heap.size + 0)), (0, .ref b)]) : W p l e room_1 s m #[Value.ref b] below meth c H locs 93 71397 (lw_Z below #[Value.ref b] s) (F0 m 834 ls []) := by
  have C1 := C0
  obtain ⟨hx, hb, hr, hml, hown, hts, hX, hbl, hlocks, hgv⟩ := C0
  have htb : ∀ w ∈ am_tbl, w.before #[Value.ref b] s = true := fun w hw => hts w (am_tbl_in hw)
  obtain ⟨v, h1, h2, e1, e2, ⟨k1, k2, k3⟩, k4, k5⟩ := bo_count (xs 1).toUInt32.toNat (an_lt32 _)
  refine lv_aload_n hx hb dl_834 rfl (lv_at hl 2 rfl) ?_
  refine lw_ld (lv := []) (k := 1) (kv := 1) (v := Int32.ofNat (xs 1).toUInt32.toNat) hx hb hX hbl hS (lv_at hl 3 rfl) (lv_at hl 0 rfl) (by decide) dl_835 dl_836 dl_837 dl_838 dl_839 (by unfold vp_in; decide) (by rw [an_of]; rfl) ?_
  refine lw_cv (M' := mi_129) (idx := 121) (n := 1) (ci := 11) (b0 := 0) (fs := fs_x) (as := [.retAddr (xs 1).toUInt32.toNat]) (rest := []) (h := hp_0) hx hb hml hl.1 hown htb hK hw hS w_921 w_922 w_923 lk_129 ⟨by decide, by decide⟩ rfl lw_get0 rfl (by simp [Value.category]) dl_840 e1 ⟨by rw [k1]; decide, by rw [k2]; decide⟩ rfl (fun H locs hw hS => ?_)
  have hw2 := hw.less (h' := hp_m) (by rw [k1]; rfl) (am_tl_get k3)
  refine lv_aload_n hx hb dl_843 rfl (lv_at hl 1 rfl) ?_
  refine lw_ld (lv := []) (k := 1) (kv := 1) (v := Int32.ofNat (xs 1).toUInt32.toNat) hx hb hX hbl hS (lv_at hl 3 rfl) (lv_at hl 0 rfl) (by decide) dl_844 dl_845 dl_846 dl_847 dl_848 (by unfold vp_in; decide) (by rw [an_of]; rfl) ?_
  refine lw_cv (M' := mi_209) (idx := 124) (n := 1) (ci := 12) (b0 := 66) (fs := fs_m) (as := [.retAddr (xs 1).toUInt32.toNat]) (rest := [.int (Int32.ofNat v)]) (h := hp_m) hx hb hml hl.1 hown htb hK hw2 hS w_1409 w_1410 w_1411 lk_209 ⟨by decide, by decide⟩ rfl lw_get66 rfl (by simp [Value.category]) dl_849 e2 ⟨by rw [k1, k4]; decide, by rw [k2, k5]; decide⟩ rfl (fun H locs hw hS => ?_)
  refine lv_icmp_eq (tgt := 857) hx hb dl_852 (by decide) (fun _ => ?_) (fun z => absurd rfl z)
  exact lw_tail C1 hS (by rw [k1, k4]; decide) (by rw [k2, k5]; decide) hl
/-- all that a script of four ints asks for -/
theorem lw_four {p : Program} {l : Launch} {e : Env} {s : State} {m : MethodId} {below : List Frame} {meth : Method} {c : Code} {b : Nat} {xs : Nat → Int32} {D : va_G} {dA : Nat → ClassId} {H : Heap} {locs : List Loc} {ls : Array Slot} (C0 : lw_At p s m meth c b 4 xs) (hK : am_Kn s.heap.size D dA s) (hw : am_Wd s.heap.size D dA hp_0 H) (hS : va_S (fun q => s.heap.size ≤ q) s.heap H locs) (hl : lv_has ls 4 [(3, .int 0), (2, .ref (s.heap.size + 66)), (1, .ref (s.heap.size + 0)), (0, .ref b)]) : W p l e room_1 s m #[Value.ref b] below meth c H locs 93 71397 (lw_Z below #[Value.ref b] s) (F0 m 18 ls []) := by
  have C1 := C0
  obtain ⟨hx, hb, hr, hml, hown, hts, hX, hbl, hlocks, hgv⟩ := C0
  refine lv_iload_n hx hb dl_18 rfl (lv_at hl 0 rfl) ?_
  refine lv_aload_n hx hb dl_19 rfl (lv_at hl 3 rfl) ?_
  refine va_slen (A := fun q => s.heap.size ≤ q) hx hb hX hbl (Nat.not_le.mpr hbl) hS dl_20 ?_
  refine lv_iconst (v := 4) hx hb dl_21 (by decide) ?_
  refine lv_isub hx hb dl_22 ?_
  refine lv_icmp_gt (tgt := 863) hx hb dl_23 (by decide) (fun z => absurd z (by decide)) (fun _ => ?_)
  refine lv_aload_n hx hb dl_26 rfl (lv_at hl 3 rfl) ?_
  refine lv_iload_n hx hb dl_27 rfl (lv_at hl 0 rfl) ?_
  refine va_sld (A := fun q => s.heap.size ≤ q) hx hb hX hbl (Nat.not_le.mpr hbl) hS (by unfold vp_in; decide) dl_28 ?_
  refine lv_bipush (v := 31) hx hb dl_29 (by decide) ?_
  refine lv_iand hx hb dl_31 ?_
  have e0 : xs (0 : Int32).toNatClampNeg &&& 31 = Int32.ofNat ((xs 0).toUInt32.toNat % 32) := by
    rw [← an_and31, an_of]
    rfl
  rw [e0]
  have ht := Nat.mod_lt (xs 0).toUInt32.toNat (show 0 < 32 by decide)
  generalize (xs 0).toUInt32.toNat % 32 = t at ht ⊢
  match t, ht with
  | 0, _ => exact lv_tableIn (off := 124) (tgt := 156) hx hb dl_32 (by decide) (by decide) rfl (by decide) (lc_0 C1 hK hw hS hl)
  | 1, _ => exact lv_tableIn (off := 147) (tgt := 179) hx hb dl_32 (by decide) (by decide) rfl (by decide) (lc_1 C1 hK hw hS hl)
  | 2, _ => exact lv_tableIn (off := 160) (tgt := 192) hx hb dl_32 (by decide) (by decide) rfl (by decide) (lc_2 C1 hK hw hS hl)
  | 3, _ => exact lv_tableIn (off := 173) (tgt := 205) hx hb dl_32 (by decide) (by decide) rfl (by decide) (lc_3 C1 hK hw hS hl)
  | 4, _ => exact lv_tableIn (off := 186) (tgt := 218) hx hb dl_32 (by decide) (by decide) rfl (by decide) (lc_4 C1 hK hw hS hl)
  | 5, _ => exact lv_tableIn (off := 229) (tgt := 261) hx hb dl_32 (by decide) (by decide) rfl (by decide) (lc_5 C1 hK hw hS hl)
  | 6, _ => exact lv_tableIn (off := 252) (tgt := 284) hx hb dl_32 (by decide) (by decide) rfl (by decide) (lc_6 C1 hK hw hS hl)
  | 7, _ => exact lv_tableIn (off := 285) (tgt := 317) hx hb dl_32 (by decide) (by decide) rfl (by decide) (lc_7 C1 hK hw hS hl)
  | 8, _ => exact lv_tableIn (off := 318) (tgt := 350) hx hb dl_32 (by decide) (by decide) rfl (by decide) (lc_8 C1 hK hw hS hl)
  | 9, _ => exact lv_tableIn (off := 341) (tgt := 373) hx hb dl_32 (by decide) (by decide) rfl (by decide) (lc_9 C1 hK hw hS hl)
  | 10, _ => exact lv_tableIn (off := 374) (tgt := 406) hx hb dl_32 (by decide) (by decide) rfl (by decide) (lc_10 C1 hK hw hS hl)
  | 11, _ => exact lv_tableIn (off := 387) (tgt := 419) hx hb dl_32 (by decide) (by decide) rfl (by decide) (lc_11 C1 hK hw hS hl)
  | 12, _ => exact lv_tableIn (off := 400) (tgt := 432) hx hb dl_32 (by decide) (by decide) rfl (by decide) (lc_12 C1 hK hw hS hl)
  | 13, _ => exact lv_tableIn (off := 423) (tgt := 455) hx hb dl_32 (by decide) (by decide) rfl (by decide) (lc_13 C1 hK hw hS hl)
  | 14, _ => exact lv_tableIn (off := 446) (tgt := 478) hx hb dl_32 (by decide) (by decide) rfl (by decide) (lc_14 C1 hK hw hS hl)
  | 15, _ => exact lv_tableIn (off := 489) (tgt := 521) hx hb dl_32 (by decide) (by decide) rfl (by decide) (lc_15 C1 hK hw hS hl)
  | 16, _ => exact lv_tableIn (off := 532) (tgt := 564) hx hb dl_32 (by decide) (by decide) rfl (by decide) (lc_16 C1 hK hw hS hl)
  | 17, _ => exact lv_tableIn (off := 565) (tgt := 597) hx hb dl_32 (by decide) (by decide) rfl (by decide) (lc_17 C1 hK hw hS hl)
  | 18, _ => exact lv_tableIn (off := 598) (tgt := 630) hx hb dl_32 (by decide) (by decide) rfl (by decide) (lc_18 C1 hK hw hS hl)
  | 19, _ => exact lv_tableIn (off := 631) (tgt := 663) hx hb dl_32 (by decide) (by decide) rfl (by decide) (lc_19 C1 hK hw hS hl)
  | 20, _ => exact lv_tableIn (off := 664) (tgt := 696) hx hb dl_32 (by decide) (by decide) rfl (by decide) (lc_20 C1 hK hw hS hl)
  | 21, _ => exact lv_tableIn (off := 687) (tgt := 719) hx hb dl_32 (by decide) (by decide) rfl (by decide) (lc_21 C1 hK hw hS hl)
  | 22, _ => exact lv_tableIn (off := 710) (tgt := 742) hx hb dl_32 (by decide) (by decide) rfl (by decide) (lc_22 C1 hK hw hS hl)
  | 23, _ => exact lv_tableIn (off := 733) (tgt := 765) hx hb dl_32 (by decide) (by decide) rfl (by decide) (lc_23 C1 hK hw hS hl)
  | 24, _ => exact lv_tableIn (off := 776) (tgt := 808) hx hb dl_32 (by decide) (by decide) rfl (by decide) (lc_24 C1 hK hw hS hl)
  | 25, _ => exact lv_tableIn (off := 789) (tgt := 821) hx hb dl_32 (by decide) (by decide) rfl (by decide) (lc_25 C1 hK hw hS hl)
  | 26, _ => exact lv_tableIn (off := 802) (tgt := 834) hx hb dl_32 (by decide) (by decide) rfl (by decide) (lc_26 C1 hK hw hS hl)
  | 27, _ => exact lv_tableOut (tgt := 857) hx hb dl_32 (by decide) (by decide) (lw_tail C1 hS (by decide) (by decide) hl)
  | 28, _ => exact lv_tableOut (tgt := 857) hx hb dl_32 (by decide) (by decide) (lw_tail C1 hS (by decide) (by decide) hl)
  | 29, _ => exact lv_tableOut (tgt := 857) hx hb dl_32 (by decide) (by decide) (lw_tail C1 hS (by decide) (by decide) hl)
  | 30, _ => exact lv_tableOut (tgt := 857) hx hb dl_32 (by decide) (by decide) (lw_tail C1 hS (by decide) (by decide) hl)
  | 31, _ => exact lv_tableOut (tgt := 857) hx hb dl_32 (by decide) (by decide) (lw_tail C1 hS (by decide) (by decide) hl)
  | t + 32, h => exact absurd h (by omega)
theorem whole_start {p : Program} {e : Env} {s : State} {m : MethodId} {below : List Frame} {meth : Method} {c : Code} (l : Launch) {b L : Nat} {xs : Nat → Int32} (hL : L ≤ 4) (C0 : lw_At p s m meth c b L xs) : W p l e room_1 s m #[Value.ref b] below meth c s.heap [] 0 0 (lw_Z below #[Value.ref b] s) (entryFrame m ([Value.ref b] : List Value).toArray 4) := by
  have C1 := C0
  obtain ⟨hx, hb, hr, hml, hown, hts, hX, hbl, hlocks, hgv⟩ := C0
  have htb : ∀ w ∈ am_tbl, w.before #[Value.ref b] s = true := fun w hw => hts w (am_tbl_in hw)
  obtain ⟨D, dA, hK⟩ := lw_kn hts (lw_sx hts hgv)
  have hl := lv_entry ([.ref b]) (n := 4) (Nat.le_of_ble_eq_true rfl)
  rw [lg_entry_eq]
  generalize (lg_sl ([.ref b]) ++ List.replicate (4 - (lg_sl ([.ref b])).length) Slot.unset).toArray = ls at hl ⊢
  have hl : lv_has ls 4 [(0, .ref b)] := hl
  have hw0 : am_Wd s.heap.size D dA (0, 0, []) s.heap := ⟨rfl, fun k e h => by rw [am_get_eq] at h; cases h⟩
  have hn1 : am_New (0, 0, []) hp_a 17 (.inr (11, dfs_11)) := by
    rcases am_pushc_eq (0, 0, []) 17 (.inr (11, dfs_11)) none (fun _ h' => some h') with q | ⟨h', q1, q2⟩
    · cases q
    · cases q2
      exact q1
  refine lw_new (ci := 11) (idx := 7) hx hb hown htb hK hw0 va_S.rf am_ck11 w_22 w_23 w_1 df_11 dl_0 hn1 (by decide) (by decide) fun H hw hS => ?_
  refine lv_dup hx hb dl_3 rfl ?_
  refine lw_ci (M' := mi_0) (idx := 9) (n := 0) (b0 := 0) (as := []) (rest := [.ref (s.heap.size + 0)]) (h := hp_a) hx hb hml hl.1 hown htb hK hw hS w_24 w_25 ⟨rfl, rfl⟩ lk_0 ⟨by decide, by decide⟩ rfl (by simp [Value.category]) dl_4 (eg_ctorX ok_ft) ⟨by decide, by decide⟩ rfl fun H locs hw hS => ?_
  refine lv_astore_n (lv' := [(1, .ref (s.heap.size + 0)), (0, .ref b)]) hx hb dl_7 rfl hl (by decide) rfl (fun ls hl => ?_)
  have hn2 : am_New hp_b hp_c 55 (.inr (12, dfs_12)) := by
    rcases am_pushc_eq hp_b 55 (.inr (12, dfs_12)) none (fun _ h' => some h') with q | ⟨h', q1, q2⟩
    · cases q
    · cases q2
      exact q1
  refine lw_new (ci := 12) (idx := 10) hx hb hown htb hK hw hS am_ck12 w_925 w_926 w_20 df_12 dl_8 hn2 (by decide) (by decide) fun H hw hS => ?_
  refine lv_dup hx hb dl_11 rfl ?_
  refine lw_ci (M' := mi_130) (idx := 12) (n := 0) (b0 := 66) (as := []) (rest := [.ref (s.heap.size + 66)]) (h := hp_c) hx hb hml hl.1 hown htb hK hw hS w_927 w_928 ⟨rfl, rfl⟩ lk_130 ⟨by decide, by decide⟩ rfl (by simp [Value.category]) dl_12 eg_ctorM ⟨by decide, by decide⟩ rfl fun H locs hw hS => ?_
  refine lv_astore_n (lv' := [(2, .ref (s.heap.size + 66)), (1, .ref (s.heap.size + 0)), (0, .ref b)]) hx hb dl_15 rfl hl (by decide) rfl (fun ls hl => ?_)
  refine lv_iconst (v := 0) hx hb dl_16 (by decide) ?_
  refine lv_istore_n (lv' := [(3, .int 0), (2, .ref (s.heap.size + 66)), (1, .ref (s.heap.size + 0)), (0, .ref b)]) hx hb dl_17 rfl hl (by decide) rfl (fun ls hl => ?_)
  by_cases h4 : L = 4
  · subst h4
    exact lw_four C1 hK hw hS hl
  · refine lw_out C1 hS (by decide) (by decide) (lv_at hl 3 rfl) (lv_at hl 0 rfl) ?_
    have h5 : L = 0 ∨ L = 1 ∨ L = 2 ∨ L = 3 := by omega
    rcases h5 with rfl | rfl | rfl | rfl <;> decide
