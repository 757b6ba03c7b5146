/-! ===== most of the reference: how much by going ===== -/
theorem jm_upd_upd {h : am_H} {a : Nat} {e0 e1 e2 : am_E} (h0 : am_get h a = some e0) : am_upd (am_upd h a e1) a e2 = am_upd h a e2 := by
  obtain ⟨n, s, bs⟩ := h
  rw [am_get_eq] at h0
  dsimp only at h0
  cases hb : bs[a / 8]? with
  | none => rw [hb] at h0; cases h0
  | some b =>
    have hb1 : a / 8 < bs.length := (List.getElem?_eq_some_iff.mp hb).1
    unfold am_upd
    dsimp only
    rw [hb]
    dsimp only
    rw [List.getElem?_set_self hb1]
    dsimp only
    rw [List.set_set, List.set_set]
theorem jm_upd_self {h : am_H} {a : Nat} {e : am_E} (h0 : am_get h a = some e) : am_upd h a e = h := by
  obtain ⟨n, s, bs⟩ := h
  rw [am_get_eq] at h0
  dsimp only at h0
  cases hb : bs[a / 8]? with
  | none => rw [hb] at h0; cases h0
  | some b =>
    rw [hb] at h0
    have h1 : b[a % 8]? = some e := h0
    obtain ⟨l1, e1⟩ := List.getElem?_eq_some_iff.mp h1
    obtain ⟨l2, e2⟩ := List.getElem?_eq_some_iff.mp hb
    unfold am_upd
    dsimp only
    rw [hb]
    dsimp only
    have x1 : b.set (a % 8) e = b := by rw [← e1]; exact List.set_getElem_self l1
    rw [x1, ← e2, List.set_getElem_self l2]
def jm_H (h : am_H) (c1 cm Len g n : Nat) : Prop := ∃ vs, am_get h 66 = some (.inr (12, vs)) ∧ vs[0]? = some (.retAddr Len) ∧ vs[1]? = some (.retAddr g) ∧ vs[2]? = some (.retAddr n) ∧ vs[32]? = some (.ref 81) ∧ vs[46]? = some (.ref 88) ∧ am_get h 81 = some (.inl (0, 256, c1)) ∧ am_get h 88 = some (.inl (0, 256, cm))
def jm_M (h : am_H) (cm : Nat) : am_H := am_upd h 88 (.inl (0, 256, cm))
theorem jm_M_H {h : am_H} {c1 cm Len g n : Nat} (hH : jm_H h c1 cm Len g n) (cm' : Nat) : jm_H (jm_M h cm') c1 cm' Len g n := by
  obtain ⟨vs, q66, f0, f1, f2, f32, f46, a81, a88⟩ := hH
  have gt := am_get_upd (e := .inl (0, 256, cm')) a88
  exact ⟨vs, by unfold jm_M; rw [gt, if_neg (by decide)]; exact q66, f0, f1, f2, f32, f46, by unfold jm_M; rw [gt, if_neg (by decide)]; exact a81, by unfold jm_M; rw [gt, if_pos rfl]⟩
theorem jm_M_M {h : am_H} {c1 cm Len g n : Nat} (hH : jm_H h c1 cm Len g n) (x y : Nat) : am_upd (jm_M h x) 88 (.inl (0, 256, y)) = jm_M h y := by
  obtain ⟨vs, q66, f0, f1, f2, f32, f46, a81, a88⟩ := hH
  exact jm_upd_upd a88
theorem jm_M_self {h : am_H} {c1 cm Len g n : Nat} (hH : jm_H h c1 cm Len g n) : jm_M h cm = h := by
  obtain ⟨vs, q66, f0, f1, f2, f32, f46, a81, a88⟩ := hH
  exact jm_upd_self a88
/-- how much by going to s at t -/
def jm_by (c1 cm g t s : Nat) : Nat := if g = 0 then (am_ag c1 (64 * s + t) + am_ag cm (4 * (t + 1) + s)) % 4294967296 else am_ag cm (4 * (t + g) + s)
theorem jm_by0 {h : am_H} {c1 cm Len g n : Nat} (hH : jm_H h c1 cm Len g n) {t s : Nat} (ht : t < 60) (hs : s < 4) (hl : g < 4) (hg : g = 0) : am_EG mi_174 [.ref 66, .retAddr t, .retAddr s] h (some (.retAddr (jm_by c1 cm g t s)), h) := by
  refine am_enter (n := 0) tk_174.2.1 (by simp [Value.category]) (Nat.le_of_ble_eq_true rfl) ?_
  show am_Good mi_174 0 [some (.ref 66), some (.retAddr t), some (.retAddr s)] [] h _
  obtain ⟨vs, q66, f0, f1, f2, f32, f46, a81, a88⟩ := hH
  refine g_aload_n (i := 0) dd_174_0 rfl ?_
  refine g_getfield (k := 1) am_ck12 (by decide) (Or.inl w_936) dd_174_1 q66 f1 ?_
  refine g_if_ne_f (t := 34) dd_174_4 (by decide) (tk_ne_f (by omega)) ?_
  refine g_aload_n (i := 0) dd_174_7 rfl ?_
  refine g_getfield (k := 32) am_ck12 (by decide) (Or.inl w_967) dd_174_8 q66 f32 ?_
  refine g_bipush dd_174_11 bi_64 ?_
  refine g_iload_n (i := 2) dd_174_13 rfl ?_
  refine e_imul (v := 64 * s) dd_174_14 (by omega) ?_
  refine g_iload_n (i := 1) dd_174_15 rfl ?_
  refine e_iadd (v := (64 * s) + t) dd_174_16 (by omega) ?_
  refine g_iaload dd_174_17 a81 (by omega) (by decide) ?_
  have hl_1 := am_ag_lt c1 ((64 * s) + t)
  refine g_aload_n (i := 0) dd_174_18 rfl ?_
  refine g_getfield (k := 46) am_ck12 (by decide) (Or.inl w_981) dd_174_19 q66 f46 ?_
  refine g_iconst dd_174_22 ic_4 ?_
  refine g_iload_n (i := 1) dd_174_23 rfl ?_
  refine g_iconst dd_174_24 ic_1 ?_
  refine e_iadd (v := t + 1) dd_174_25 (by omega) ?_
  refine e_imul (v := 4 * (t + 1)) dd_174_26 (by omega) ?_
  refine g_iload_n (i := 2) dd_174_27 rfl ?_
  refine e_iadd (v := (4 * (t + 1)) + s) dd_174_28 (by omega) ?_
  refine g_iaload dd_174_29 a88 (by omega) (by decide) ?_
  have hl_2 := am_ag_lt cm ((4 * (t + 1)) + s)
  refine e_iadd (v := (am_ag c1 ((64 * s) + t) + am_ag cm ((4 * (t + 1)) + s)) % 4294967296) dd_174_30 rfl ?_
  refine g_goto (t := 49) dd_174_31 (by decide) ?_
  rw [show jm_by c1 cm g t s = (am_ag c1 ((64 * s) + t) + am_ag cm ((4 * (t + 1)) + s)) % 4294967296 from by unfold jm_by; rw [if_pos hg]]
  exact g_ireturn rfl dd_174_49
theorem jm_by1 {h : am_H} {c1 cm Len g n : Nat} (hH : jm_H h c1 cm Len g n) {t s : Nat} (ht : t < 60) (hs : s < 4) (hl : g < 4) (hg : ¬ g = 0) : am_EG mi_174 [.ref 66, .retAddr t, .retAddr s] h (some (.retAddr (jm_by c1 cm g t s)), h) := by
  refine am_enter (n := 0) tk_174.2.1 (by simp [Value.category]) (Nat.le_of_ble_eq_true rfl) ?_
  show am_Good mi_174 0 [some (.ref 66), some (.retAddr t), some (.retAddr s)] [] h _
  obtain ⟨vs, q66, f0, f1, f2, f32, f46, a81, a88⟩ := hH
  refine g_aload_n (i := 0) dd_174_0 rfl ?_
  refine g_getfield (k := 1) am_ck12 (by decide) (Or.inl w_936) dd_174_1 q66 f1 ?_
  refine g_if_ne_t (t := 34) dd_174_4 (by decide) (tk_ne_t (by omega)) ?_
  refine g_aload_n (i := 0) dd_174_34 rfl ?_
  refine g_getfield (k := 46) am_ck12 (by decide) (Or.inl w_981) dd_174_35 q66 f46 ?_
  refine g_iconst dd_174_38 ic_4 ?_
  refine g_iload_n (i := 1) dd_174_39 rfl ?_
  refine g_aload_n (i := 0) dd_174_40 rfl ?_
  refine g_getfield (k := 1) am_ck12 (by decide) (Or.inl w_936) dd_174_41 q66 f1 ?_
  refine e_iadd (v := t + g) dd_174_44 (by omega) ?_
  refine e_imul (v := 4 * (t + g)) dd_174_45 (by omega) ?_
  refine g_iload_n (i := 2) dd_174_46 rfl ?_
  refine e_iadd (v := (4 * (t + g)) + s) dd_174_47 (by omega) ?_
  refine g_iaload dd_174_48 a88 (by omega) (by decide) ?_
  have hl_1 := am_ag_lt cm ((4 * (t + g)) + s)
  rw [show jm_by c1 cm g t s = am_ag cm ((4 * (t + g)) + s) from by unfold jm_by; rw [if_neg hg]]
  exact g_ireturn rfl dd_174_49
theorem jm_byGoing {h : am_H} {c1 cm Len g n : Nat} (hH : jm_H h c1 cm Len g n) {t s : Nat} (ht : t < 60) (hs : s < 4) (hl : g < 4) : am_EG mi_174 [.ref 66, .retAddr t, .retAddr s] h (some (.retAddr (jm_by c1 cm g t s)), h) := by
  by_cases hg : g = 0
  · exact jm_by0 hH ht hs hl hg
  · exact jm_by1 hH ht hs hl hg
/-- the best of the first k stations but s -/
def jm_bf (f : Nat → Nat) (s : Nat) : Nat → Nat
  | 0 => 4294967292
  | k + 1 => if k = s then jm_bf f s k else if jm_bf f s k = 4294967292 then k else if am_tlt (f (jm_bf f s k)) (f k) = true then k else jm_bf f s k
theorem jm_bf_lt (f : Nat → Nat) (s : Nat) : ∀ k, jm_bf f s k = 4294967292 ∨ jm_bf f s k < k
  | 0 => Or.inl rfl
  | k + 1 => by
    have ih := jm_bf_lt f s k
    show (if k = s then jm_bf f s k else if jm_bf f s k = 4294967292 then k else if am_tlt (f (jm_bf f s k)) (f k) = true then k else jm_bf f s k) = 4294967292 ∨ (if k = s then jm_bf f s k else if jm_bf f s k = 4294967292 then k else if am_tlt (f (jm_bf f s k)) (f k) = true then k else jm_bf f s k) < k + 1
    split
    · omega
    · split
      · omega
      · split
        · omega
        · omega
theorem jm_bs_s {r : am_R} {h : am_H} {c1 cm Len g n : Nat} (hH : jm_H h c1 cm Len g n) {t s be to : Nat} (ht : t < 60) (hs : s < 4) (hl : g < 4) (hn : n ≤ 4) (hto : to < n) (hb : to = s) (hbe : be < 4294967296) (hg : am_Good mi_173 6 [some (.ref 66), some (.retAddr t), some (.retAddr s), some (.retAddr be), some (.retAddr (to + 1))] [] h r) : am_Good mi_173 6 [some (.ref 66), some (.retAddr t), some (.retAddr s), some (.retAddr be), some (.retAddr to)] [] h r := by
  have hH0 := hH
  obtain ⟨vs, q66, f0, f1, f2, f32, f46, a81, a88⟩ := hH0
  refine g_iload dd_173_6 rfl ?_
  refine g_aload_n (i := 0) dd_173_8 rfl ?_
  refine g_getfield (k := 2) am_ck12 (by decide) (Or.inl w_937) dd_173_9 q66 f2 ?_
  refine g_icmp_ge_f (t := 56) dd_173_12 (by decide) (tk_ge_f (by omega)) ?_
  refine g_iload dd_173_15 rfl ?_
  refine g_iload_n (i := 2) dd_173_17 rfl ?_
  refine g_icmp_eq_t (t := 48) dd_173_18 (by decide) (tk_eq_t (by omega)) ?_
  refine g_iload_n (i := 3) dd_173_48 rfl ?_
  refine g_istore_n (i := 3) dd_173_49 (am_nlb_ok rfl) (by decide) ?_
  refine e_iinc (v := 1) (w := to + 1) dd_173_50 rfl ic_1 (am_nlb_ok rfl) (by decide) (by omega) ?_
  refine g_goto (t := 6) dd_173_53 (by decide) ?_
  exact hg
theorem jm_bs_n {r : am_R} {h : am_H} {c1 cm Len g n : Nat} (hH : jm_H h c1 cm Len g n) {t s be to : Nat} (ht : t < 60) (hs : s < 4) (hl : g < 4) (hn : n ≤ 4) (hto : to < n) (hb : ¬ to = s) (hbe : be = 4294967292) (hg : am_Good mi_173 6 [some (.ref 66), some (.retAddr t), some (.retAddr s), some (.retAddr to), some (.retAddr (to + 1))] [] h r) : am_Good mi_173 6 [some (.ref 66), some (.retAddr t), some (.retAddr s), some (.retAddr be), some (.retAddr to)] [] h r := by
  have hH0 := hH
  obtain ⟨vs, q66, f0, f1, f2, f32, f46, a81, a88⟩ := hH0
  refine g_iload dd_173_6 rfl ?_
  refine g_aload_n (i := 0) dd_173_8 rfl ?_
  refine g_getfield (k := 2) am_ck12 (by decide) (Or.inl w_937) dd_173_9 q66 f2 ?_
  refine g_icmp_ge_f (t := 56) dd_173_12 (by decide) (tk_ge_f (by omega)) ?_
  refine g_iload dd_173_15 rfl ?_
  refine g_iload_n (i := 2) dd_173_17 rfl ?_
  refine g_icmp_eq_f (t := 48) dd_173_18 (by decide) (tk_eq_f (by omega)) ?_
  refine g_iload_n (i := 3) dd_173_21 rfl ?_
  refine g_bipush dd_173_22 bi_m4 ?_
  refine g_icmp_eq_t (t := 43) dd_173_24 (by decide) (tk_eq_t (by omega)) ?_
  refine g_iload dd_173_43 rfl ?_
  refine g_goto (t := 49) dd_173_45 (by decide) ?_
  refine g_istore_n (i := 3) dd_173_49 (am_nlb_ok rfl) (by decide) ?_
  refine e_iinc (v := 1) (w := to + 1) dd_173_50 rfl ic_1 (am_nlb_ok rfl) (by decide) (by omega) ?_
  refine g_goto (t := 6) dd_173_53 (by decide) ?_
  exact hg
theorem jm_bs_t {r : am_R} {h : am_H} {c1 cm Len g n : Nat} (hH : jm_H h c1 cm Len g n) {t s be to : Nat} (ht : t < 60) (hs : s < 4) (hl : g < 4) (hn : n ≤ 4) (hto : to < n) (hb : ¬ to = s) (hbe : be < 4) (hlt : am_tlt (jm_by c1 cm g t be) (jm_by c1 cm g t to) = true) (hg : am_Good mi_173 6 [some (.ref 66), some (.retAddr t), some (.retAddr s), some (.retAddr to), some (.retAddr (to + 1))] [] h r) : am_Good mi_173 6 [some (.ref 66), some (.retAddr t), some (.retAddr s), some (.retAddr be), some (.retAddr to)] [] h r := by
  have hH0 := hH
  obtain ⟨vs, q66, f0, f1, f2, f32, f46, a81, a88⟩ := hH0
  refine g_iload dd_173_6 rfl ?_
  refine g_aload_n (i := 0) dd_173_8 rfl ?_
  refine g_getfield (k := 2) am_ck12 (by decide) (Or.inl w_937) dd_173_9 q66 f2 ?_
  refine g_icmp_ge_f (t := 56) dd_173_12 (by decide) (tk_ge_f (by omega)) ?_
  refine g_iload dd_173_15 rfl ?_
  refine g_iload_n (i := 2) dd_173_17 rfl ?_
  refine g_icmp_eq_f (t := 48) dd_173_18 (by decide) (tk_eq_f (by omega)) ?_
  refine g_iload_n (i := 3) dd_173_21 rfl ?_
  refine g_bipush dd_173_22 bi_m4 ?_
  refine g_icmp_eq_f (t := 43) dd_173_24 (by decide) (tk_eq_f (by omega)) ?_
  refine g_aload_n (i := 0) dd_173_27 rfl ?_
  refine g_iload_n (i := 1) dd_173_28 rfl ?_
  refine g_iload dd_173_29 rfl ?_
  refine g_virtual (M' := mi_174) (n := 2) (ci := 12) (b := 66) (as := [.retAddr t, .retAddr to]) (st := []) (r1 := (some (.retAddr (jm_by c1 cm g t to)), h)) w_1266 w_1268 ps_174 ⟨lk_174.1, lk_174.2.1, lk_174.2.2, by decide, by decide⟩ rfl q66 rfl (by simp [Value.category]) dd_173_31 (jm_byGoing hH ht (by omega) hl) ?_
  show am_Good mi_173 34 [some (.ref 66), some (.retAddr t), some (.retAddr s), some (.retAddr be), some (.retAddr to)] [.retAddr (jm_by c1 cm g t to)] h _
  refine g_aload_n (i := 0) dd_173_34 rfl ?_
  refine g_iload_n (i := 1) dd_173_35 rfl ?_
  refine g_iload_n (i := 3) dd_173_36 rfl ?_
  refine g_virtual (M' := mi_174) (n := 2) (ci := 12) (b := 66) (as := [.retAddr t, .retAddr be]) (st := [.retAddr (jm_by c1 cm g t to)]) (r1 := (some (.retAddr (jm_by c1 cm g t be)), h)) w_1266 w_1268 ps_174 ⟨lk_174.1, lk_174.2.1, lk_174.2.2, by decide, by decide⟩ rfl q66 rfl (by simp [Value.category]) dd_173_37 (jm_byGoing hH ht (by omega) hl) ?_
  show am_Good mi_173 40 [some (.ref 66), some (.retAddr t), some (.retAddr s), some (.retAddr be), some (.retAddr to)] [.retAddr (jm_by c1 cm g t be), .retAddr (jm_by c1 cm g t to)] h _
  refine g_icmp_le_f (t := 48) dd_173_40 (by decide) (by rw [ax_tle, hlt]; rfl) ?_
  refine g_iload dd_173_43 rfl ?_
  refine g_goto (t := 49) dd_173_45 (by decide) ?_
  refine g_istore_n (i := 3) dd_173_49 (am_nlb_ok rfl) (by decide) ?_
  refine e_iinc (v := 1) (w := to + 1) dd_173_50 rfl ic_1 (am_nlb_ok rfl) (by decide) (by omega) ?_
  refine g_goto (t := 6) dd_173_53 (by decide) ?_
  exact hg
theorem jm_bs_f {r : am_R} {h : am_H} {c1 cm Len g n : Nat} (hH : jm_H h c1 cm Len g n) {t s be to : Nat} (ht : t < 60) (hs : s < 4) (hl : g < 4) (hn : n ≤ 4) (hto : to < n) (hb : ¬ to = s) (hbe : be < 4) (hlt : am_tlt (jm_by c1 cm g t be) (jm_by c1 cm g t to) = false) (hg : am_Good mi_173 6 [some (.ref 66), some (.retAddr t), some (.retAddr s), some (.retAddr be), some (.retAddr (to + 1))] [] h r) : am_Good mi_173 6 [some (.ref 66), some (.retAddr t), some (.retAddr s), some (.retAddr be), some (.retAddr to)] [] h r := by
  have hH0 := hH
  obtain ⟨vs, q66, f0, f1, f2, f32, f46, a81, a88⟩ := hH0
  refine g_iload dd_173_6 rfl ?_
  refine g_aload_n (i := 0) dd_173_8 rfl ?_
  refine g_getfield (k := 2) am_ck12 (by decide) (Or.inl w_937) dd_173_9 q66 f2 ?_
  refine g_icmp_ge_f (t := 56) dd_173_12 (by decide) (tk_ge_f (by omega)) ?_
  refine g_iload dd_173_15 rfl ?_
  refine g_iload_n (i := 2) dd_173_17 rfl ?_
  refine g_icmp_eq_f (t := 48) dd_173_18 (by decide) (tk_eq_f (by omega)) ?_
  refine g_iload_n (i := 3) dd_173_21 rfl ?_
  refine g_bipush dd_173_22 bi_m4 ?_
  refine g_icmp_eq_f (t := 43) dd_173_24 (by decide) (tk_eq_f (by omega)) ?_
  refine g_aload_n (i := 0) dd_173_27 rfl ?_
  refine g_iload_n (i := 1) dd_173_28 rfl ?_
  refine g_iload dd_173_29 rfl ?_
  refine g_virtual (M' := mi_174) (n := 2) (ci := 12) (b := 66) (as := [.retAddr t, .retAddr to]) (st := []) (r1 := (some (.retAddr (jm_by c1 cm g t to)), h)) w_1266 w_1268 ps_174 ⟨lk_174.1, lk_174.2.1, lk_174.2.2, by decide, by decide⟩ rfl q66 rfl (by simp [Value.category]) dd_173_31 (jm_byGoing hH ht (by omega) hl) ?_
  show am_Good mi_173 34 [some (.ref 66), some (.retAddr t), some (.retAddr s), some (.retAddr be), some (.retAddr to)] [.retAddr (jm_by c1 cm g t to)] h _
  refine g_aload_n (i := 0) dd_173_34 rfl ?_
  refine g_iload_n (i := 1) dd_173_35 rfl ?_
  refine g_iload_n (i := 3) dd_173_36 rfl ?_
  refine g_virtual (M' := mi_174) (n := 2) (ci := 12) (b := 66) (as := [.retAddr t, .retAddr be]) (st := [.retAddr (jm_by c1 cm g t to)]) (r1 := (some (.retAddr (jm_by c1 cm g t be)), h)) w_1266 w_1268 ps_174 ⟨lk_174.1, lk_174.2.1, lk_174.2.2, by decide, by decide⟩ rfl q66 rfl (by simp [Value.category]) dd_173_37 (jm_byGoing hH ht (by omega) hl) ?_
  show am_Good mi_173 40 [some (.ref 66), some (.retAddr t), some (.retAddr s), some (.retAddr be), some (.retAddr to)] [.retAddr (jm_by c1 cm g t be), .retAddr (jm_by c1 cm g t to)] h _
  refine g_icmp_le_t (t := 48) dd_173_40 (by decide) (by rw [ax_tle, hlt]; rfl) ?_
  refine g_iload_n (i := 3) dd_173_48 rfl ?_
  refine g_istore_n (i := 3) dd_173_49 (am_nlb_ok rfl) (by decide) ?_
  refine e_iinc (v := 1) (w := to + 1) dd_173_50 rfl ic_1 (am_nlb_ok rfl) (by decide) (by omega) ?_
  refine g_goto (t := 6) dd_173_53 (by decide) ?_
  exact hg
theorem jm_bl {h : am_H} {c1 cm Len g n : Nat} (hH : jm_H h c1 cm Len g n) {t s : Nat} (ht : t < 60) (hs : s < 4) (hl : g < 4) (hn : n ≤ 4) : ∀ (k to : Nat), to + k = n → am_Good mi_173 6 [some (.ref 66), some (.retAddr t), some (.retAddr s), some (.retAddr (jm_bf (jm_by c1 cm g t) s to)), some (.retAddr to)] [] h (some (.retAddr (jm_bf (jm_by c1 cm g t) s n)), h)
  | 0, to, e => by
    have e' : to = n := by omega
    subst e'
    obtain ⟨vs, q66, f0, f1, f2, f32, f46, a81, a88⟩ := hH
    refine g_iload dd_173_6 rfl ?_
    refine g_aload_n (i := 0) dd_173_8 rfl ?_
    refine g_getfield (k := 2) am_ck12 (by decide) (Or.inl w_937) dd_173_9 q66 f2 ?_
    refine g_icmp_ge_t (t := 56) dd_173_12 (by decide) (tk_ge_t (by omega)) ?_
    refine g_iload_n (i := 3) dd_173_56 rfl ?_
    exact g_ireturn rfl dd_173_57
  | k + 1, to, e => by
    have ih := jm_bl hH ht hs hl hn k (to + 1) (by omega)
    have hb := jm_bf_lt (jm_by c1 cm g t) s to
    have st : jm_bf (jm_by c1 cm g t) s (to + 1) = if to = s then jm_bf (jm_by c1 cm g t) s to else if jm_bf (jm_by c1 cm g t) s to = 4294967292 then to else if am_tlt (jm_by c1 cm g t (jm_bf (jm_by c1 cm g t) s to)) (jm_by c1 cm g t to) = true then to else jm_bf (jm_by c1 cm g t) s to := rfl
    rw [st] at ih
    by_cases h1 : to = s
    · rw [if_pos h1] at ih
      exact jm_bs_s hH ht hs hl hn (by omega) h1 (by omega) ih
    · rw [if_neg h1] at ih
      by_cases h2 : jm_bf (jm_by c1 cm g t) s to = 4294967292
      · rw [if_pos h2] at ih
        exact jm_bs_n hH ht hs hl hn (by omega) h1 h2 ih
      · rw [if_neg h2] at ih
        cases h3 : am_tlt (jm_by c1 cm g t (jm_bf (jm_by c1 cm g t) s to)) (jm_by c1 cm g t to)
        · rw [h3, if_neg (by decide)] at ih
          exact jm_bs_f hH ht hs hl hn (by omega) h1 (by omega) h3 ih
        · rw [h3, if_pos rfl] at ih
          exact jm_bs_t hH ht hs hl hn (by omega) h1 (by omega) h3 ih
theorem jm_bestGoing {h : am_H} {c1 cm Len g n : Nat} (hH : jm_H h c1 cm Len g n) {t s : Nat} (ht : t < 60) (hs : s < 4) (hl : g < 4) (hn : n ≤ 4) : am_EG mi_173 [.ref 66, .retAddr t, .retAddr s] h (some (.retAddr (jm_bf (jm_by c1 cm g t) s n)), h) := by
  refine am_enter (n := 2) tk_173.2.1 (by simp [Value.category]) (Nat.le_of_ble_eq_true rfl) ?_
  show am_Good mi_173 0 [some (.ref 66), some (.retAddr t), some (.retAddr s), none, none] [] h _
  refine g_bipush dd_173_0 bi_m4 ?_
  refine g_istore_n (i := 3) dd_173_2 (am_nlb_ok rfl) (by decide) ?_
  refine g_iconst dd_173_3 ic_0 ?_
  refine g_istore dd_173_4 (am_nlb_ok rfl) (by decide) ?_
  exact jm_bl hH ht hs hl hn n 0 (by omega)
