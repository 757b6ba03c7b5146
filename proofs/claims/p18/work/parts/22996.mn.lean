/-! ===== what a call of one side alone keeps ===== -/
theorem sb_lo {sb : ax_Sh} (hl : sb.length = 9) (h2 : (sb[8]?).map List.length = some 2) {h h' : am_H} (lo : ∀ a, a < 66 → am_get h' a = am_get h a) (hI : ax_I sb h) : ax_I sb h' := fun a s hs => by
  by_cases q : a < 66
  · rw [lo a q]
    exact hI a s hs
  · rw [jv_nonx hl h2 a (by omega)] at hs
    cases hs
/-- the reference's cells alone have changed, but for those that Jv speaks of -/
theorem Jv_m {h h' : am_H} (hJ : Jv h) (lo : ∀ a, a < 66 → am_get h' a = am_get h a) (hm : ax_I sbm h') (g : ∀ a, a ∈ [67, 68, 69, 70, 71, 72, 73, 86] → am_get h' a = am_get h a) (f : ∀ k, k ∈ [0, 1, 2, 4, 6, 8, 10, 12, 15, 40, 42, 53] → ax_fv h' 66 k = ax_fv h 66 k) : Jv h' := by
  obtain ⟨⟨hI, -⟩, ⟨n, t1, t2, t3⟩, a, gg, x, q1, q2, q3, q4⟩ := hJ
  have i0 : ax_I sb0 h → ax_I sb0 h' := sb_lo rfl rfl lo
  have i1 : ax_I sb1 h → ax_I sb1 h' := sb_lo rfl rfl lo
  have kk : ∀ E, E < 53 → kp h h' E := fun E hE => kp_lo hE lo (fun p hp => by
    have hp' : p ∈ [(66, 0), (66, 1), (66, 2), (66, 4), (66, 6), (66, 8), (66, 10), (66, 12)] := hp
    simp only [List.mem_cons, List.not_mem_nil, or_false] at hp'
    rcases hp' with rfl | rfl | rfl | rfl | rfl | rfl | rfl | rfl <;> exact f _ (by simp)) (fun a ha => by
    have ha' : a ∈ [67, 68, 69, 70, 71, 72] := ha
    simp only [List.mem_cons, List.not_mem_nil, or_false] at ha'
    rcases ha' with rfl | rfl | rfl | rfl | rfl | rfl <;> exact g _ (by simp))
  have g0 := lo 0 (by decide)
  refine ⟨⟨?_, hm⟩, ⟨n, by rw [ax_fv_get g0]; exact t1, by rw [f 15 (by simp)]; exact t2, jv_X_get (lo 1 (by decide)) (g 73 (by simp)) (ax_fv_get g0 16) (f 53 (by simp)) (jv_E_b i0 i1 (kk 4 (by decide)) (kk 17 (by decide))) t3⟩, a, gg, x, by rw [f 42 (by simp)]; exact q1, by rw [f 40 (by simp)]; exact q2, by rw [g 86 (by simp)]; exact q3, q4⟩
  rcases hI with q | q
  · exact Or.inl (i0 q)
  · exact Or.inr (i1 q)
/-- the class's cells alone -/
theorem Jv_x {h h' : am_H} (hJ : Jv h) (hi : ∀ a, 66 ≤ a → am_get h' a = am_get h a) (i0 : ax_I sb0 h → ax_I sb0 h' ∧ kp h h' 4) (i1 : ax_I sb1 h → ax_I sb1 h' ∧ kp h h' 17) (g1 : am_get h' 1 = am_get h 1) (f1 : ax_fv h' 0 1 = ax_fv h 0 1) (f16 : ax_fv h' 0 16 = ax_fv h 0 16) : Jv h' := by
  obtain ⟨⟨hI, hm⟩, ⟨n, t1, t2, t3⟩, hQ⟩ := hJ
  have hI' : ax_I sb0 h' ∨ ax_I sb1 h' := by
    rcases hI with q | q
    · exact Or.inl (i0 q).1
    · exact Or.inr (i1 q).1
  have g66 := hi 66 (by decide)
  refine ⟨⟨hI', jl_sbm hm hi hI'⟩, ⟨n, by rw [f1]; exact t1, by rw [ax_fv_get g66]; exact t2, jv_X_get g1 (hi 73 (by decide)) f16 (ax_fv_get g66 53) (fun hE => ?_) t3⟩, jq_get hQ g66 (hi 86 (by decide))⟩
  rcases hI with q | q
  · exact jv_E_0 q (i0 q).1 (i0 q).2 hE
  · exact jv_E_1 q (i1 q).1 (i1 q).2 hE
/-- all that is known of the evening between calls -/
def je_A (h : am_H) (E mi go : Nat) (Z X Y : Nat → Nat) : Prop := ((E = 4 ∧ ax_I sb0 h) ∨ (E = 17 ∧ ax_I sb1 h)) ∧ je_x h E mi go Z X ∧ je_m h mi go Z Y ∧ je_P mi go Z X Y ∧ je_T h mi go Z Y
theorem je_ex {h : am_H} (hJ : Jv h) : ∃ E mi go Z X Y, je_A h E mi go Z X Y := by
  obtain ⟨-, ⟨n, -, -, tx, tm, -, -, -, -, hE⟩, -⟩ := hJ
  rcases hE with ⟨i, mi, go, Z, X, Y, d1, d2, d3, d4⟩ | ⟨i, mi, go, Z, X, Y, d1, d2, d3, d4⟩
  · exact ⟨4, mi, go, Z, X, Y, Or.inl ⟨rfl, i⟩, d1, d2, d3, d4⟩
  · exact ⟨17, mi, go, Z, X, Y, Or.inr ⟨rfl, i⟩, d1, d2, d3, d4⟩
/-- the class's object and evening -/
theorem je_xo {h : am_H} {E mi go : Nat} {Z X Y : Nat → Nat} (hA : je_A h E mi go Z X Y) : ∃ v0, am_get h 0 = some (.inr (11, v0)) ∧ v0[3]? = some (.ref E) ∧ v0[5]? = some (.ref 30) ∧ v0[6]? = some (.ref 32) ∧ v0[7]? = some (.ref 36) ∧ v0[8]? = some (.ref 40) ∧ v0[9]? = some (.ref 43) ∧ v0[11]? = some (.ref 47) ∧ am_get h E = some (.inr (1, [.ref (E + 1), .ref (E + 3), .ref (E + 5), .ref (E + 7), .ref (E + 9), .ref (E + 11), .retAddr mi, .retAddr go])) ∧ am_get h (E + 1) = some (.inr (8, [.ref (E + 2), .retAddr 1, .retAddr 4, .retAddr (Z 0)])) ∧ am_get h (E + 3) = some (.inr (8, [.ref (E + 4), .retAddr 5, .retAddr 9, .retAddr (Z 1)])) ∧ am_get h (E + 11) = some (.inr (8, [.ref (E + 12), .retAddr 2, .retAddr 4, .retAddr (Z 5)])) ∧ am_get h (E + 12) = some (.inl (0, 45, X 5)) ∧ am_get h 32 = some (.inr (9, [.ref 33, .ref 34, .ref 35])) ∧ am_get h 36 = some (.inr (9, [.ref 37, .ref 38, .ref 39])) ∧ am_get h 30 = some (.inr (2, [.ref 31])) := by
  obtain ⟨hI, d1, -⟩ := hA
  rcases hI with ⟨rfl, i⟩ | ⟨rfl, i⟩
  · obtain ⟨v0, g0, -, f, -⟩ := jy_obj i (a := 0) rfl
    obtain ⟨qE, ⟨r0, -⟩, ⟨r1, -⟩, -, -, -, ⟨r5, x5⟩⟩ := sh1_rows i d1
    exact ⟨v0, g0, f 3 _ _ rfl, f 5 _ _ rfl, f 6 _ _ rfl, f 7 _ _ rfl, f 8 _ _ rfl, f 9 _ _ rfl, f 11 _ _ rfl, qE, r0, r1, r5, x5, oz1_c32 i, oz1_c36 i, oz1_c30 i⟩
  · obtain ⟨v0, g0, -, f, -⟩ := jy_obj i (a := 0) rfl
    obtain ⟨qE, ⟨r0, -⟩, ⟨r1, -⟩, -, -, -, ⟨r5, x5⟩⟩ := sh0_rows i d1
    exact ⟨v0, g0, f 3 _ _ rfl, f 5 _ _ rfl, f 6 _ _ rfl, f 7 _ _ rfl, f 8 _ _ rfl, f 9 _ _ rfl, f 11 _ _ rfl, qE, r0, r1, r5, x5, oz0_c32 i, oz0_c36 i, oz0_c30 i⟩
theorem gw_w {h : am_H} {q q1 q2 q3 : Nat} (qS : am_get h q = some (.inr (9, [.ref q1, .ref q2, .ref q3]))) {W : Nat} (g1 : am_get h q1 = some (.inl (0, 240, W))) {s t : Nat} (hs : s < 4) (ht : t < 60) : am_EG mi_41 [.ref q, .retAddr s, .retAddr t] h (some (.retAddr (am_ag W (60 * s + t))), h) := by
  refine am_enter (n := 0) tk_41.2.1 (by simp [Value.category]) (Nat.le_of_ble_eq_true rfl) ?_
  show am_Good mi_41 0 [some (.ref q), some (.retAddr s), some (.retAddr t)] [] h _
  refine g_iload_n (i := 1) dd_41_0 rfl ?_
  refine g_iload_n (i := 2) dd_41_1 rfl ?_
  refine g_static (M' := mi_35) (n := 2) (as := [.retAddr s, .retAddr t]) (st := []) (r1 := (some (.retAddr 1), h)) w_466 w_467 ⟨lk_35.1, lk_35.2.1, lk_35.2.2, by decide, by decide⟩ rfl (by simp [Value.category]) dd_41_2 (th_1 hs ht) ?_
  show am_Good mi_41 5 [some (.ref q), some (.retAddr s), some (.retAddr t)] [.retAddr 1] h _
  refine g_if_eq_f (t := 22) dd_41_5 (by decide) (by decide) ?_
  refine g_aload_n (i := 0) dd_41_8 rfl ?_
  refine g_getfield (k := 0) am_ck9 (by decide) (Or.inl w_153) dd_41_9 qS rfl ?_
  refine g_iload_n (i := 1) dd_41_12 rfl ?_
  refine g_bipush dd_41_13 bi_60 ?_
  refine e_imul (v := 60 * s) dd_41_15 (by omega) ?_
  refine g_iload_n (i := 2) dd_41_16 rfl ?_
  refine e_iadd (v := 60 * s + t) dd_41_17 (by omega) ?_
  refine g_iaload dd_41_18 g1 (by omega) (by decide) ?_
  have hl_1 := am_ag_lt W (60 * s + t)
  refine g_goto (t := 23) dd_41_19 (by decide) ?_
  exact g_ireturn rfl dd_41_23
theorem gw_f {h : am_H} {q q1 q2 q3 : Nat} (qS : am_get h q = some (.inr (9, [.ref q1, .ref q2, .ref q3]))) {F : Nat} (g2 : am_get h q2 = some (.inl (0, 240, F))) {s t : Nat} (hs : s < 4) (ht : t < 60) : am_EG mi_54 [.ref q, .retAddr s, .retAddr t] h (some (.retAddr (am_ag F (60 * s + t))), h) := by
  refine am_enter (n := 0) tk_54.2.1 (by simp [Value.category]) (Nat.le_of_ble_eq_true rfl) ?_
  show am_Good mi_54 0 [some (.ref q), some (.retAddr s), some (.retAddr t)] [] h _
  refine g_iload_n (i := 1) dd_54_0 rfl ?_
  refine g_iload_n (i := 2) dd_54_1 rfl ?_
  refine g_static (M' := mi_35) (n := 2) (as := [.retAddr s, .retAddr t]) (st := []) (r1 := (some (.retAddr 1), h)) w_466 w_467 ⟨lk_35.1, lk_35.2.1, lk_35.2.2, by decide, by decide⟩ rfl (by simp [Value.category]) dd_54_2 (th_1 hs ht) ?_
  show am_Good mi_54 5 [some (.ref q), some (.retAddr s), some (.retAddr t)] [.retAddr 1] h _
  refine g_if_eq_f (t := 22) dd_54_5 (by decide) (by decide) ?_
  refine g_aload_n (i := 0) dd_54_8 rfl ?_
  refine g_getfield (k := 1) am_ck9 (by decide) (Or.inl w_154) dd_54_9 qS rfl ?_
  refine g_iload_n (i := 1) dd_54_12 rfl ?_
  refine g_bipush dd_54_13 bi_60 ?_
  refine e_imul (v := 60 * s) dd_54_15 (by omega) ?_
  refine g_iload_n (i := 2) dd_54_16 rfl ?_
  refine e_iadd (v := 60 * s + t) dd_54_17 (by omega) ?_
  refine g_iaload dd_54_18 g2 (by omega) (by decide) ?_
  have hl_1 := am_ag_lt F (60 * s + t)
  refine g_goto (t := 24) dd_54_19 (by decide) ?_
  exact g_ireturn rfl dd_54_24
theorem gw_b1 {h : am_H} {q q1 q2 q3 : Nat} (qS : am_get h q = some (.inr (9, [.ref q1, .ref q2, .ref q3]))) {B : Nat} (g3 : am_get h q3 = some (.inl (0, 240, B))) {s t : Nat} (hs : s < 4) (ht : t < 60) (hb : am_ag B (60 * s + t) ≠ 0) : am_EG mi_53 [.ref q, .retAddr s, .retAddr t] h (some (.retAddr 1), h) := by
  refine am_enter (n := 0) tk_53.2.1 (by simp [Value.category]) (Nat.le_of_ble_eq_true rfl) ?_
  show am_Good mi_53 0 [some (.ref q), some (.retAddr s), some (.retAddr t)] [] h _
  refine g_iload_n (i := 1) dd_53_0 rfl ?_
  refine g_iload_n (i := 2) dd_53_1 rfl ?_
  refine g_static (M' := mi_35) (n := 2) (as := [.retAddr s, .retAddr t]) (st := []) (r1 := (some (.retAddr 1), h)) w_466 w_467 ⟨lk_35.1, lk_35.2.1, lk_35.2.2, by decide, by decide⟩ rfl (by simp [Value.category]) dd_53_2 (th_1 hs ht) ?_
  show am_Good mi_53 5 [some (.ref q), some (.retAddr s), some (.retAddr t)] [.retAddr 1] h _
  refine g_if_eq_f (t := 26) dd_53_5 (by decide) (by decide) ?_
  refine g_aload_n (i := 0) dd_53_8 rfl ?_
  refine g_getfield (k := 2) am_ck9 (by decide) (Or.inl w_155) dd_53_9 qS rfl ?_
  refine g_iload_n (i := 1) dd_53_12 rfl ?_
  refine g_bipush dd_53_13 bi_60 ?_
  refine e_imul (v := 60 * s) dd_53_15 (by omega) ?_
  refine g_iload_n (i := 2) dd_53_16 rfl ?_
  refine e_iadd (v := 60 * s + t) dd_53_17 (by omega) ?_
  refine g_iaload dd_53_18 g3 (by omega) (by decide) ?_
  have hl_1 := am_ag_lt B (60 * s + t)
  refine g_if_eq_f (t := 26) dd_53_19 (by decide) (tk_eq_f (by omega)) ?_
  refine g_iconst dd_53_22 ic_1 ?_
  refine g_goto (t := 27) dd_53_23 (by decide) ?_
  exact g_zreturn rfl (by first | decide | omega) dd_53_27
theorem gw_b0 {h : am_H} {q q1 q2 q3 : Nat} (qS : am_get h q = some (.inr (9, [.ref q1, .ref q2, .ref q3]))) {B : Nat} (g3 : am_get h q3 = some (.inl (0, 240, B))) {s t : Nat} (hs : s < 4) (ht : t < 60) (hb : am_ag B (60 * s + t) = 0) : am_EG mi_53 [.ref q, .retAddr s, .retAddr t] h (some (.retAddr 0), h) := by
  refine am_enter (n := 0) tk_53.2.1 (by simp [Value.category]) (Nat.le_of_ble_eq_true rfl) ?_
  show am_Good mi_53 0 [some (.ref q), some (.retAddr s), some (.retAddr t)] [] h _
  refine g_iload_n (i := 1) dd_53_0 rfl ?_
  refine g_iload_n (i := 2) dd_53_1 rfl ?_
  refine g_static (M' := mi_35) (n := 2) (as := [.retAddr s, .retAddr t]) (st := []) (r1 := (some (.retAddr 1), h)) w_466 w_467 ⟨lk_35.1, lk_35.2.1, lk_35.2.2, by decide, by decide⟩ rfl (by simp [Value.category]) dd_53_2 (th_1 hs ht) ?_
  show am_Good mi_53 5 [some (.ref q), some (.retAddr s), some (.retAddr t)] [.retAddr 1] h _
  refine g_if_eq_f (t := 26) dd_53_5 (by decide) (by decide) ?_
  refine g_aload_n (i := 0) dd_53_8 rfl ?_
  refine g_getfield (k := 2) am_ck9 (by decide) (Or.inl w_155) dd_53_9 qS rfl ?_
  refine g_iload_n (i := 1) dd_53_12 rfl ?_
  refine g_bipush dd_53_13 bi_60 ?_
  refine e_imul (v := 60 * s) dd_53_15 (by omega) ?_
  refine g_iload_n (i := 2) dd_53_16 rfl ?_
  refine e_iadd (v := 60 * s + t) dd_53_17 (by omega) ?_
  refine g_iaload dd_53_18 g3 (by omega) (by decide) ?_
  have hl_1 := am_ag_lt B (60 * s + t)
  refine g_if_eq_t (t := 26) dd_53_19 (by decide) (tk_eq_t (by omega)) ?_
  refine g_iconst dd_53_26 ic_0 ?_
  exact g_zreturn rfl (by first | decide | omega) dd_53_27
theorem gw_k {h : am_H} {q q1 q2 q3 : Nat} (qS : am_get h q = some (.inr (9, [.ref q1, .ref q2, .ref q3]))) {F : Nat} (g2 : am_get h q2 = some (.inl (0, 240, F))) {s t : Nat} (hs : s < 4) (ht : t < 60) (hf : am_ag F (60 * s + t) ≤ 8) : am_EG mi_68 [.ref q, .retAddr s, .retAddr t] h (some (.retAddr (fbt (am_ag F (60 * s + t)))), h) := by
  refine am_enter (n := 0) tk_68.2.1 (by simp [Value.category]) (Nat.le_of_ble_eq_true rfl) ?_
  show am_Good mi_68 0 [some (.ref q), some (.retAddr s), some (.retAddr t)] [] h _
  refine g_iload_n (i := 1) dd_68_0 rfl ?_
  refine g_iload_n (i := 2) dd_68_1 rfl ?_
  refine g_static (M' := mi_35) (n := 2) (as := [.retAddr s, .retAddr t]) (st := []) (r1 := (some (.retAddr 1), h)) w_466 w_467 ⟨lk_35.1, lk_35.2.1, lk_35.2.2, by decide, by decide⟩ rfl (by simp [Value.category]) dd_68_2 (th_1 hs ht) ?_
  show am_Good mi_68 5 [some (.ref q), some (.retAddr s), some (.retAddr t)] [.retAddr 1] h _
  refine g_if_eq_f (t := 28) dd_68_5 (by decide) (by decide) ?_
  refine g_iconst dd_68_8 ic_1 ?_
  refine g_aload_n (i := 0) dd_68_9 rfl ?_
  refine g_getfield (k := 1) am_ck9 (by decide) (Or.inl w_154) dd_68_10 qS rfl ?_
  refine g_iload_n (i := 1) dd_68_13 rfl ?_
  refine g_bipush dd_68_14 bi_60 ?_
  refine e_imul (v := 60 * s) dd_68_16 (by omega) ?_
  refine g_iload_n (i := 2) dd_68_17 rfl ?_
  refine e_iadd (v := 60 * s + t) dd_68_18 (by omega) ?_
  refine g_iaload dd_68_19 g2 (by omega) (by decide) ?_
  have hl_1 := am_ag_lt F (60 * s + t)
  refine e_ishl (v := (1 <<< (am_ag F (60 * s + t) % 32)) % 4294967296) dd_68_20 rfl ?_
  refine g_sipush dd_68_21 si_255 ?_
  refine e_iand (v := fbt (am_ag F (60 * s + t))) dd_68_24 (fbt_eq hf) ?_
  refine g_goto (t := 29) dd_68_25 (by decide) ?_
  exact g_ireturn rfl dd_68_29
theorem ist_1 {h : am_H} {E a0 a5 mi go z0 z5 : Nat} {v0 vE w0 w5 : List Value} (q0 : am_get h 0 = some (.inr (11, v0))) (x3 : v0[3]? = some (.ref E)) (qE : am_get h E = some (.inr (1, vE))) (e0 : vE[0]? = some (.ref a0)) (e5 : vE[5]? = some (.ref a5)) (e6 : vE[6]? = some (.retAddr mi)) (e7 : vE[7]? = some (.retAddr go)) (r0 : am_get h a0 = some (.inr (8, w0))) (s0 : w0[3]? = some (.retAddr z0)) (r5 : am_get h a5 = some (.inr (8, w5))) (s5 : w5[3]? = some (.retAddr z5)) (zm : mi ≤ 60) (zz0 : z0 ≤ 4) (zz5 : z5 ≤ 4) {s : Nat} (hs : s < z0) : am_EG mi_51 [.ref 0, .retAddr s] h (some (.retAddr 1), h) := by
  refine am_enter (n := 0) tk_51.2.1 (by simp [Value.category]) (Nat.le_of_ble_eq_true rfl) ?_
  show am_Good mi_51 0 [some (.ref 0), some (.retAddr s)] [] h _
  refine g_iload_n (i := 1) dd_51_0 rfl ?_
  refine g_if_lt_f (t := 22) dd_51_1 (by decide) (by first | exact sk_lt_f (by omega) (by omega) | exact tk_lt_f (by omega)) ?_
  refine g_iload_n (i := 1) dd_51_4 rfl ?_
  refine g_aload_n (i := 0) dd_51_5 rfl ?_
  refine g_getfield (k := 3) am_ck11 (by decide) (Or.inl w_514) dd_51_6 q0 x3 ?_
  refine g_getfield (k := 0) am_ck1 (by decide) (Or.inr ⟨_, w_84⟩) dd_51_9 qE e0 ?_
  refine g_getfield (k := 3) am_ck8 (by decide) (Or.inr ⟨_, w_67⟩) dd_51_12 r0 s0 ?_
  refine g_icmp_ge_f (t := 22) dd_51_15 (by decide) (by first | exact sk_ge_f (by omega) (by omega) | exact tk_ge_f (by omega)) ?_
  refine g_iconst dd_51_18 ic_1 ?_
  refine g_goto (t := 23) dd_51_19 (by decide) ?_
  exact g_zreturn rfl (by first | decide | omega) dd_51_23
theorem ist_0 {h : am_H} {E a0 a5 mi go z0 z5 : Nat} {v0 vE w0 w5 : List Value} (q0 : am_get h 0 = some (.inr (11, v0))) (x3 : v0[3]? = some (.ref E)) (qE : am_get h E = some (.inr (1, vE))) (e0 : vE[0]? = some (.ref a0)) (e5 : vE[5]? = some (.ref a5)) (e6 : vE[6]? = some (.retAddr mi)) (e7 : vE[7]? = some (.retAddr go)) (r0 : am_get h a0 = some (.inr (8, w0))) (s0 : w0[3]? = some (.retAddr z0)) (r5 : am_get h a5 = some (.inr (8, w5))) (s5 : w5[3]? = some (.retAddr z5)) (zm : mi ≤ 60) (zz0 : z0 ≤ 4) (zz5 : z5 ≤ 4) {s : Nat} (hs : ¬ s < z0) (hs2 : s < 4294967296) : am_EG mi_51 [.ref 0, .retAddr s] h (some (.retAddr 0), h) := by
  refine am_enter (n := 0) tk_51.2.1 (by simp [Value.category]) (Nat.le_of_ble_eq_true rfl) ?_
  show am_Good mi_51 0 [some (.ref 0), some (.retAddr s)] [] h _
  refine g_iload_n (i := 1) dd_51_0 rfl ?_
  by_cases hq : 2147483648 ≤ s
  · refine g_if_lt_t (t := 22) dd_51_1 (by decide) (by first | exact sk_lt_t (by omega) (by omega) | exact tk_lt_t (by omega)) ?_
    refine g_iconst dd_51_22 ic_0 ?_
    exact g_zreturn rfl (by first | decide | omega) dd_51_23
  · refine g_if_lt_f (t := 22) dd_51_1 (by decide) (by first | exact sk_lt_f (by omega) (by omega) | exact tk_lt_f (by omega)) ?_
    refine g_iload_n (i := 1) dd_51_4 rfl ?_
    refine g_aload_n (i := 0) dd_51_5 rfl ?_
    refine g_getfield (k := 3) am_ck11 (by decide) (Or.inl w_514) dd_51_6 q0 x3 ?_
    refine g_getfield (k := 0) am_ck1 (by decide) (Or.inr ⟨_, w_84⟩) dd_51_9 qE e0 ?_
    refine g_getfield (k := 3) am_ck8 (by decide) (Or.inr ⟨_, w_67⟩) dd_51_12 r0 s0 ?_
    refine g_icmp_ge_t (t := 22) dd_51_15 (by decide) (by first | exact sk_ge_t (by omega) (by omega) | exact tk_ge_t (by omega)) ?_
    refine g_iconst dd_51_22 ic_0 ?_
    exact g_zreturn rfl (by first | decide | omega) dd_51_23
theorem imn_1 {h : am_H} {E a0 a5 mi go z0 z5 : Nat} {v0 vE w0 w5 : List Value} (q0 : am_get h 0 = some (.inr (11, v0))) (x3 : v0[3]? = some (.ref E)) (qE : am_get h E = some (.inr (1, vE))) (e0 : vE[0]? = some (.ref a0)) (e5 : vE[5]? = some (.ref a5)) (e6 : vE[6]? = some (.retAddr mi)) (e7 : vE[7]? = some (.retAddr go)) (r0 : am_get h a0 = some (.inr (8, w0))) (s0 : w0[3]? = some (.retAddr z0)) (r5 : am_get h a5 = some (.inr (8, w5))) (s5 : w5[3]? = some (.retAddr z5)) (zm : mi ≤ 60) (zz0 : z0 ≤ 4) (zz5 : z5 ≤ 4) {s : Nat} (hs : s < mi) : am_EG mi_52 [.ref 0, .retAddr s] h (some (.retAddr 1), h) := by
  refine am_enter (n := 0) tk_52.2.1 (by simp [Value.category]) (Nat.le_of_ble_eq_true rfl) ?_
  show am_Good mi_52 0 [some (.ref 0), some (.retAddr s)] [] h _
  refine g_iload_n (i := 1) dd_52_0 rfl ?_
  refine g_if_lt_f (t := 19) dd_52_1 (by decide) (by first | exact sk_lt_f (by omega) (by omega) | exact tk_lt_f (by omega)) ?_
  refine g_iload_n (i := 1) dd_52_4 rfl ?_
  refine g_aload_n (i := 0) dd_52_5 rfl ?_
  refine g_getfield (k := 3) am_ck11 (by decide) (Or.inl w_514) dd_52_6 q0 x3 ?_
  refine g_getfield (k := 6) am_ck1 (by decide) (Or.inr ⟨_, w_112⟩) dd_52_9 qE e6 ?_
  refine g_icmp_ge_f (t := 19) dd_52_12 (by decide) (by first | exact sk_ge_f (by omega) (by omega) | exact tk_ge_f (by omega)) ?_
  refine g_iconst dd_52_15 ic_1 ?_
  refine g_goto (t := 20) dd_52_16 (by decide) ?_
  exact g_zreturn rfl (by first | decide | omega) dd_52_20
theorem imn_0 {h : am_H} {E a0 a5 mi go z0 z5 : Nat} {v0 vE w0 w5 : List Value} (q0 : am_get h 0 = some (.inr (11, v0))) (x3 : v0[3]? = some (.ref E)) (qE : am_get h E = some (.inr (1, vE))) (e0 : vE[0]? = some (.ref a0)) (e5 : vE[5]? = some (.ref a5)) (e6 : vE[6]? = some (.retAddr mi)) (e7 : vE[7]? = some (.retAddr go)) (r0 : am_get h a0 = some (.inr (8, w0))) (s0 : w0[3]? = some (.retAddr z0)) (r5 : am_get h a5 = some (.inr (8, w5))) (s5 : w5[3]? = some (.retAddr z5)) (zm : mi ≤ 60) (zz0 : z0 ≤ 4) (zz5 : z5 ≤ 4) {s : Nat} (hs : ¬ s < mi) (hs2 : s < 4294967296) : am_EG mi_52 [.ref 0, .retAddr s] h (some (.retAddr 0), h) := by
  refine am_enter (n := 0) tk_52.2.1 (by simp [Value.category]) (Nat.le_of_ble_eq_true rfl) ?_
  show am_Good mi_52 0 [some (.ref 0), some (.retAddr s)] [] h _
  refine g_iload_n (i := 1) dd_52_0 rfl ?_
  by_cases hq : 2147483648 ≤ s
  · refine g_if_lt_t (t := 19) dd_52_1 (by decide) (by first | exact sk_lt_t (by omega) (by omega) | exact tk_lt_t (by omega)) ?_
    refine g_iconst dd_52_19 ic_0 ?_
    exact g_zreturn rfl (by first | decide | omega) dd_52_20
  · refine g_if_lt_f (t := 19) dd_52_1 (by decide) (by first | exact sk_lt_f (by omega) (by omega) | exact tk_lt_f (by omega)) ?_
    refine g_iload_n (i := 1) dd_52_4 rfl ?_
    refine g_aload_n (i := 0) dd_52_5 rfl ?_
    refine g_getfield (k := 3) am_ck11 (by decide) (Or.inl w_514) dd_52_6 q0 x3 ?_
    refine g_getfield (k := 6) am_ck1 (by decide) (Or.inr ⟨_, w_112⟩) dd_52_9 qE e6 ?_
    refine g_icmp_ge_t (t := 19) dd_52_12 (by decide) (by first | exact sk_ge_t (by omega) (by omega) | exact tk_ge_t (by omega)) ?_
    refine g_iconst dd_52_19 ic_0 ?_
    exact g_zreturn rfl (by first | decide | omega) dd_52_20
theorem iwa_1 {h : am_H} {E a0 a5 mi go z0 z5 : Nat} {v0 vE w0 w5 : List Value} (q0 : am_get h 0 = some (.inr (11, v0))) (x3 : v0[3]? = some (.ref E)) (qE : am_get h E = some (.inr (1, vE))) (e0 : vE[0]? = some (.ref a0)) (e5 : vE[5]? = some (.ref a5)) (e6 : vE[6]? = some (.retAddr mi)) (e7 : vE[7]? = some (.retAddr go)) (r0 : am_get h a0 = some (.inr (8, w0))) (s0 : w0[3]? = some (.retAddr z0)) (r5 : am_get h a5 = some (.inr (8, w5))) (s5 : w5[3]? = some (.retAddr z5)) (zm : mi ≤ 60) (zz0 : z0 ≤ 4) (zz5 : z5 ≤ 4) {s : Nat} (hs : s < z5) : am_EG mi_59 [.ref 0, .retAddr s] h (some (.retAddr 1), h) := by
  refine am_enter (n := 0) tk_59.2.1 (by simp [Value.category]) (Nat.le_of_ble_eq_true rfl) ?_
  show am_Good mi_59 0 [some (.ref 0), some (.retAddr s)] [] h _
  refine g_iload_n (i := 1) dd_59_0 rfl ?_
  refine g_if_lt_f (t := 22) dd_59_1 (by decide) (by first | exact sk_lt_f (by omega) (by omega) | exact tk_lt_f (by omega)) ?_
  refine g_iload_n (i := 1) dd_59_4 rfl ?_
  refine g_aload_n (i := 0) dd_59_5 rfl ?_
  refine g_getfield (k := 3) am_ck11 (by decide) (Or.inl w_514) dd_59_6 q0 x3 ?_
  refine g_getfield (k := 5) am_ck1 (by decide) (Or.inr ⟨_, w_104⟩) dd_59_9 qE e5 ?_
  refine g_getfield (k := 3) am_ck8 (by decide) (Or.inr ⟨_, w_67⟩) dd_59_12 r5 s5 ?_
  refine g_icmp_ge_f (t := 22) dd_59_15 (by decide) (by first | exact sk_ge_f (by omega) (by omega) | exact tk_ge_f (by omega)) ?_
  refine g_iconst dd_59_18 ic_1 ?_
  refine g_goto (t := 23) dd_59_19 (by decide) ?_
  exact g_zreturn rfl (by first | decide | omega) dd_59_23
theorem iwa_0 {h : am_H} {E a0 a5 mi go z0 z5 : Nat} {v0 vE w0 w5 : List Value} (q0 : am_get h 0 = some (.inr (11, v0))) (x3 : v0[3]? = some (.ref E)) (qE : am_get h E = some (.inr (1, vE))) (e0 : vE[0]? = some (.ref a0)) (e5 : vE[5]? = some (.ref a5)) (e6 : vE[6]? = some (.retAddr mi)) (e7 : vE[7]? = some (.retAddr go)) (r0 : am_get h a0 = some (.inr (8, w0))) (s0 : w0[3]? = some (.retAddr z0)) (r5 : am_get h a5 = some (.inr (8, w5))) (s5 : w5[3]? = some (.retAddr z5)) (zm : mi ≤ 60) (zz0 : z0 ≤ 4) (zz5 : z5 ≤ 4) {s : Nat} (hs : ¬ s < z5) (hs2 : s < 4294967296) : am_EG mi_59 [.ref 0, .retAddr s] h (some (.retAddr 0), h) := by
  refine am_enter (n := 0) tk_59.2.1 (by simp [Value.category]) (Nat.le_of_ble_eq_true rfl) ?_
  show am_Good mi_59 0 [some (.ref 0), some (.retAddr s)] [] h _
  refine g_iload_n (i := 1) dd_59_0 rfl ?_
  by_cases hq : 2147483648 ≤ s
  · refine g_if_lt_t (t := 22) dd_59_1 (by decide) (by first | exact sk_lt_t (by omega) (by omega) | exact tk_lt_t (by omega)) ?_
    refine g_iconst dd_59_22 ic_0 ?_
    exact g_zreturn rfl (by first | decide | omega) dd_59_23
  · refine g_if_lt_f (t := 22) dd_59_1 (by decide) (by first | exact sk_lt_f (by omega) (by omega) | exact tk_lt_f (by omega)) ?_
    refine g_iload_n (i := 1) dd_59_4 rfl ?_
    refine g_aload_n (i := 0) dd_59_5 rfl ?_
    refine g_getfield (k := 3) am_ck11 (by decide) (Or.inl w_514) dd_59_6 q0 x3 ?_
    refine g_getfield (k := 5) am_ck1 (by decide) (Or.inr ⟨_, w_104⟩) dd_59_9 qE e5 ?_
    refine g_getfield (k := 3) am_ck8 (by decide) (Or.inr ⟨_, w_67⟩) dd_59_12 r5 s5 ?_
    refine g_icmp_ge_t (t := 22) dd_59_15 (by decide) (by first | exact sk_ge_t (by omega) (by omega) | exact tk_ge_t (by omega)) ?_
    refine g_iconst dd_59_22 ic_0 ?_
    exact g_zreturn rfl (by first | decide | omega) dd_59_23
theorem ri_1 {h : am_H} {x z : Nat} (hz : 1 ≤ z) (hz2 : z ≤ 60) (hx : x < z) : am_EG mi_133 [.retAddr x, .retAddr 0, .retAddr (z - 1)] h (some (.retAddr 1), h) := rin1 (by decide) ⟨Nat.zero_le _, by omega⟩ (by omega)
theorem ri_0 {h : am_H} {x z : Nat} (hz : 1 ≤ z) (hz2 : z ≤ 60) (hx : ¬ x < z) (hx2 : x < 4294967296) : am_EG mi_133 [.retAddr x, .retAddr 0, .retAddr (z - 1)] h (some (.retAddr 0), h) := by
  by_cases q : x < 2147483648
  · exact rin0 (by decide) (by omega) q
  · exact rinn (by decide) (by omega) hx2
theorem msm_1 {h : am_H} {vs : List Value} {z : Nat} (q66 : am_get h 66 = some (.inr (12, vs))) (fz : vs[2]? = some (.retAddr z)) {x : Nat} (hz : 1 ≤ z) (hz2 : z ≤ 60) (hx : x < z) : am_EG mi_153 [.ref 66, .retAddr x] h (some (.retAddr 1), h) := by
  refine am_enter (n := 0) tk_153.2.1 (by simp [Value.category]) (Nat.le_of_ble_eq_true rfl) ?_
  show am_Good mi_153 0 [some (.ref 66), some (.retAddr x)] [] h _
  refine g_iload_n (i := 1) dd_153_0 rfl ?_
  refine g_iconst dd_153_1 ic_0 ?_
  refine g_aload_n (i := 0) dd_153_2 rfl ?_
  refine g_getfield (k := 2) am_ck12 (by decide) (Or.inl w_937) dd_153_3 q66 fz ?_
  refine g_iconst dd_153_6 ic_1 ?_
  refine e_isub (v := z - 1) dd_153_7 (by omega) ?_
  refine g_static (M' := mi_133) (n := 3) (as := [.retAddr x, .retAddr 0, .retAddr (z - 1)]) (st := []) (r1 := (some (.retAddr 1), h)) w_1106 w_1107 ⟨lk_133.1, lk_133.2.1, lk_133.2.2, by decide, by decide⟩ rfl (by simp [Value.category]) dd_153_8 (ri_1 hz hz2 hx) ?_
  show am_Good mi_153 11 [some (.ref 66), some (.retAddr x)] [.retAddr 1] h _
  exact g_zreturn rfl (by first | decide | omega) dd_153_11
theorem msm_0 {h : am_H} {vs : List Value} {z : Nat} (q66 : am_get h 66 = some (.inr (12, vs))) (fz : vs[2]? = some (.retAddr z)) {x : Nat} (hz : 1 ≤ z) (hz2 : z ≤ 60) (hx : ¬ x < z) (hx2 : x < 4294967296) : am_EG mi_153 [.ref 66, .retAddr x] h (some (.retAddr 0), h) := by
  refine am_enter (n := 0) tk_153.2.1 (by simp [Value.category]) (Nat.le_of_ble_eq_true rfl) ?_
  show am_Good mi_153 0 [some (.ref 66), some (.retAddr x)] [] h _
  refine g_iload_n (i := 1) dd_153_0 rfl ?_
  refine g_iconst dd_153_1 ic_0 ?_
  refine g_aload_n (i := 0) dd_153_2 rfl ?_
  refine g_getfield (k := 2) am_ck12 (by decide) (Or.inl w_937) dd_153_3 q66 fz ?_
  refine g_iconst dd_153_6 ic_1 ?_
  refine e_isub (v := z - 1) dd_153_7 (by omega) ?_
  refine g_static (M' := mi_133) (n := 3) (as := [.retAddr x, .retAddr 0, .retAddr (z - 1)]) (st := []) (r1 := (some (.retAddr 0), h)) w_1106 w_1107 ⟨lk_133.1, lk_133.2.1, lk_133.2.2, by decide, by decide⟩ rfl (by simp [Value.category]) dd_153_8 (ri_0 hz hz2 hx hx2) ?_
  show am_Good mi_153 11 [some (.ref 66), some (.retAddr x)] [.retAddr 0] h _
  exact g_zreturn rfl (by first | decide | omega) dd_153_11
theorem mmm_1 {h : am_H} {vs : List Value} {z : Nat} (q66 : am_get h 66 = some (.inr (12, vs))) (fz : vs[0]? = some (.retAddr z)) {x : Nat} (hz : 1 ≤ z) (hz2 : z ≤ 60) (hx : x < z) : am_EG mi_154 [.ref 66, .retAddr x] h (some (.retAddr 1), h) := by
  refine am_enter (n := 0) tk_154.2.1 (by simp [Value.category]) (Nat.le_of_ble_eq_true rfl) ?_
  show am_Good mi_154 0 [some (.ref 66), some (.retAddr x)] [] h _
  refine g_iload_n (i := 1) dd_154_0 rfl ?_
  refine g_iconst dd_154_1 ic_0 ?_
  refine g_aload_n (i := 0) dd_154_2 rfl ?_
  refine g_getfield (k := 0) am_ck12 (by decide) (Or.inl w_935) dd_154_3 q66 fz ?_
  refine g_iconst dd_154_6 ic_1 ?_
  refine e_isub (v := z - 1) dd_154_7 (by omega) ?_
  refine g_static (M' := mi_133) (n := 3) (as := [.retAddr x, .retAddr 0, .retAddr (z - 1)]) (st := []) (r1 := (some (.retAddr 1), h)) w_1106 w_1107 ⟨lk_133.1, lk_133.2.1, lk_133.2.2, by decide, by decide⟩ rfl (by simp [Value.category]) dd_154_8 (ri_1 hz hz2 hx) ?_
  show am_Good mi_154 11 [some (.ref 66), some (.retAddr x)] [.retAddr 1] h _
  exact g_zreturn rfl (by first | decide | omega) dd_154_11
theorem mmm_0 {h : am_H} {vs : List Value} {z : Nat} (q66 : am_get h 66 = some (.inr (12, vs))) (fz : vs[0]? = some (.retAddr z)) {x : Nat} (hz : 1 ≤ z) (hz2 : z ≤ 60) (hx : ¬ x < z) (hx2 : x < 4294967296) : am_EG mi_154 [.ref 66, .retAddr x] h (some (.retAddr 0), h) := by
  refine am_enter (n := 0) tk_154.2.1 (by simp [Value.category]) (Nat.le_of_ble_eq_true rfl) ?_
  show am_Good mi_154 0 [some (.ref 66), some (.retAddr x)] [] h _
  refine g_iload_n (i := 1) dd_154_0 rfl ?_
  refine g_iconst dd_154_1 ic_0 ?_
  refine g_aload_n (i := 0) dd_154_2 rfl ?_
  refine g_getfield (k := 0) am_ck12 (by decide) (Or.inl w_935) dd_154_3 q66 fz ?_
  refine g_iconst dd_154_6 ic_1 ?_
  refine e_isub (v := z - 1) dd_154_7 (by omega) ?_
  refine g_static (M' := mi_133) (n := 3) (as := [.retAddr x, .retAddr 0, .retAddr (z - 1)]) (st := []) (r1 := (some (.retAddr 0), h)) w_1106 w_1107 ⟨lk_133.1, lk_133.2.1, lk_133.2.2, by decide, by decide⟩ rfl (by simp [Value.category]) dd_154_8 (ri_0 hz hz2 hx hx2) ?_
  show am_Good mi_154 11 [some (.ref 66), some (.retAddr x)] [.retAddr 0] h _
  exact g_zreturn rfl (by first | decide | omega) dd_154_11
theorem mx_0 {h : am_H} {E a0 a5 mi go z0 z5 : Nat} {v0 vE w0 w5 : List Value} (q0 : am_get h 0 = some (.inr (11, v0))) (x3 : v0[3]? = some (.ref E)) (qE : am_get h E = some (.inr (1, vE))) (e0 : vE[0]? = some (.ref a0)) (e5 : vE[5]? = some (.ref a5)) (e6 : vE[6]? = some (.retAddr mi)) (e7 : vE[7]? = some (.retAddr go)) (r0 : am_get h a0 = some (.inr (8, w0))) (s0 : w0[3]? = some (.retAddr z0)) (r5 : am_get h a5 = some (.inr (8, w5))) (s5 : w5[3]? = some (.retAddr z5)) (zm : mi ≤ 60) (zz0 : z0 ≤ 4) (zz5 : z5 ≤ 4) (x6 : v0[6]? = some (.ref 32)) {W F B : Nat} (qS : am_get h 32 = some (.inr (9, [.ref 33, .ref 34, .ref 35]))) (g1 : am_get h 33 = some (.inl (0, 240, W))) (g2 : am_get h 34 = some (.inl (0, 240, F))) (g3 : am_get h 35 = some (.inl (0, 240, B))) {s t wh : Nat} (g_s : s < 4294967296) (g_t : t < 4294967296) (g_w : wh < 4294967296) (h1 : ¬ s < z0) : am_EG mi_50 [.ref 0, .retAddr s, .retAddr t, .retAddr wh] h (some (.retAddr 4294967295), h) := by
  refine am_enter (n := 1) tk_50.2.1 (by simp [Value.category]) (Nat.le_of_ble_eq_true rfl) ?_
  show am_Good mi_50 0 [some (.ref 0), some (.retAddr s), some (.retAddr t), some (.retAddr wh), none] [] h _
  refine g_aload_n (i := 0) dd_50_0 rfl ?_
  refine g_iload_n (i := 1) dd_50_1 rfl ?_
  refine g_virtual (M' := mi_51) (n := 1) (ci := 11) (b := 0) (as := [.retAddr s]) (st := []) (r1 := (some (.retAddr 0), h)) w_584 w_586 ps_51 ⟨lk_51.1, lk_51.2.1, lk_51.2.2, by decide, by decide⟩ rfl q0 rfl (by simp [Value.category]) dd_50_2 (ist_0 q0 x3 qE e0 e5 e6 e7 r0 s0 r5 s5 zm zz0 zz5 h1 g_s) ?_
  show am_Good mi_50 5 [some (.ref 0), some (.retAddr s), some (.retAddr t), some (.retAddr wh), none] [.retAddr 0] h _
  refine g_if_eq_t (t := 25) dd_50_5 (by decide) (by decide) ?_
  refine g_iconst dd_50_25 ic_m1 ?_
  exact g_ireturn rfl dd_50_26
theorem mx_1 {h : am_H} {E a0 a5 mi go z0 z5 : Nat} {v0 vE w0 w5 : List Value} (q0 : am_get h 0 = some (.inr (11, v0))) (x3 : v0[3]? = some (.ref E)) (qE : am_get h E = some (.inr (1, vE))) (e0 : vE[0]? = some (.ref a0)) (e5 : vE[5]? = some (.ref a5)) (e6 : vE[6]? = some (.retAddr mi)) (e7 : vE[7]? = some (.retAddr go)) (r0 : am_get h a0 = some (.inr (8, w0))) (s0 : w0[3]? = some (.retAddr z0)) (r5 : am_get h a5 = some (.inr (8, w5))) (s5 : w5[3]? = some (.retAddr z5)) (zm : mi ≤ 60) (zz0 : z0 ≤ 4) (zz5 : z5 ≤ 4) (x6 : v0[6]? = some (.ref 32)) {W F B : Nat} (qS : am_get h 32 = some (.inr (9, [.ref 33, .ref 34, .ref 35]))) (g1 : am_get h 33 = some (.inl (0, 240, W))) (g2 : am_get h 34 = some (.inl (0, 240, F))) (g3 : am_get h 35 = some (.inl (0, 240, B))) {s t wh : Nat} (g_s : s < 4294967296) (g_t : t < 4294967296) (g_w : wh < 4294967296) (h1 : s < z0) (h2 : ¬ t < mi) : am_EG mi_50 [.ref 0, .retAddr s, .retAddr t, .retAddr wh] h (some (.retAddr 4294967295), h) := by
  refine am_enter (n := 1) tk_50.2.1 (by simp [Value.category]) (Nat.le_of_ble_eq_true rfl) ?_
  show am_Good mi_50 0 [some (.ref 0), some (.retAddr s), some (.retAddr t), some (.retAddr wh), none] [] h _
  refine g_aload_n (i := 0) dd_50_0 rfl ?_
  refine g_iload_n (i := 1) dd_50_1 rfl ?_
  refine g_virtual (M' := mi_51) (n := 1) (ci := 11) (b := 0) (as := [.retAddr s]) (st := []) (r1 := (some (.retAddr 1), h)) w_584 w_586 ps_51 ⟨lk_51.1, lk_51.2.1, lk_51.2.2, by decide, by decide⟩ rfl q0 rfl (by simp [Value.category]) dd_50_2 (ist_1 q0 x3 qE e0 e5 e6 e7 r0 s0 r5 s5 zm zz0 zz5 h1) ?_
  show am_Good mi_50 5 [some (.ref 0), some (.retAddr s), some (.retAddr t), some (.retAddr wh), none] [.retAddr 1] h _
  refine g_if_eq_f (t := 25) dd_50_5 (by decide) (by decide) ?_
  refine g_aload_n (i := 0) dd_50_8 rfl ?_
  refine g_iload_n (i := 2) dd_50_9 rfl ?_
  refine g_virtual (M' := mi_52) (n := 1) (ci := 11) (b := 0) (as := [.retAddr t]) (st := []) (r1 := (some (.retAddr 0), h)) w_588 w_590 ps_52 ⟨lk_52.1, lk_52.2.1, lk_52.2.2, by decide, by decide⟩ rfl q0 rfl (by simp [Value.category]) dd_50_10 (imn_0 q0 x3 qE e0 e5 e6 e7 r0 s0 r5 s5 zm zz0 zz5 h2 g_t) ?_
  show am_Good mi_50 13 [some (.ref 0), some (.retAddr s), some (.retAddr t), some (.retAddr wh), none] [.retAddr 0] h _
  refine g_if_eq_t (t := 25) dd_50_13 (by decide) (by decide) ?_
  refine g_iconst dd_50_25 ic_m1 ?_
  exact g_ireturn rfl dd_50_26
theorem mx_2 {h : am_H} {E a0 a5 mi go z0 z5 : Nat} {v0 vE w0 w5 : List Value} (q0 : am_get h 0 = some (.inr (11, v0))) (x3 : v0[3]? = some (.ref E)) (qE : am_get h E = some (.inr (1, vE))) (e0 : vE[0]? = some (.ref a0)) (e5 : vE[5]? = some (.ref a5)) (e6 : vE[6]? = some (.retAddr mi)) (e7 : vE[7]? = some (.retAddr go)) (r0 : am_get h a0 = some (.inr (8, w0))) (s0 : w0[3]? = some (.retAddr z0)) (r5 : am_get h a5 = some (.inr (8, w5))) (s5 : w5[3]? = some (.retAddr z5)) (zm : mi ≤ 60) (zz0 : z0 ≤ 4) (zz5 : z5 ≤ 4) (x6 : v0[6]? = some (.ref 32)) {W F B : Nat} (qS : am_get h 32 = some (.inr (9, [.ref 33, .ref 34, .ref 35]))) (g1 : am_get h 33 = some (.inl (0, 240, W))) (g2 : am_get h 34 = some (.inl (0, 240, F))) (g3 : am_get h 35 = some (.inl (0, 240, B))) {s t wh : Nat} (g_s : s < 4294967296) (g_t : t < 4294967296) (g_w : wh < 4294967296) (h1 : s < z0) (h2 : t < mi) (h3 : ¬ wh ≤ 2) : am_EG mi_50 [.ref 0, .retAddr s, .retAddr t, .retAddr wh] h (some (.retAddr 4294967295), h) := by
  refine am_enter (n := 1) tk_50.2.1 (by simp [Value.category]) (Nat.le_of_ble_eq_true rfl) ?_
  show am_Good mi_50 0 [some (.ref 0), some (.retAddr s), some (.retAddr t), some (.retAddr wh), none] [] h _
  refine g_aload_n (i := 0) dd_50_0 rfl ?_
  refine g_iload_n (i := 1) dd_50_1 rfl ?_
  refine g_virtual (M' := mi_51) (n := 1) (ci := 11) (b := 0) (as := [.retAddr s]) (st := []) (r1 := (some (.retAddr 1), h)) w_584 w_586 ps_51 ⟨lk_51.1, lk_51.2.1, lk_51.2.2, by decide, by decide⟩ rfl q0 rfl (by simp [Value.category]) dd_50_2 (ist_1 q0 x3 qE e0 e5 e6 e7 r0 s0 r5 s5 zm zz0 zz5 h1) ?_
  show am_Good mi_50 5 [some (.ref 0), some (.retAddr s), some (.retAddr t), some (.retAddr wh), none] [.retAddr 1] h _
  refine g_if_eq_f (t := 25) dd_50_5 (by decide) (by decide) ?_
  refine g_aload_n (i := 0) dd_50_8 rfl ?_
  refine g_iload_n (i := 2) dd_50_9 rfl ?_
  refine g_virtual (M' := mi_52) (n := 1) (ci := 11) (b := 0) (as := [.retAddr t]) (st := []) (r1 := (some (.retAddr 1), h)) w_588 w_590 ps_52 ⟨lk_52.1, lk_52.2.1, lk_52.2.2, by decide, by decide⟩ rfl q0 rfl (by simp [Value.category]) dd_50_10 (imn_1 q0 x3 qE e0 e5 e6 e7 r0 s0 r5 s5 zm zz0 zz5 h2) ?_
  show am_Good mi_50 13 [some (.ref 0), some (.retAddr s), some (.retAddr t), some (.retAddr wh), none] [.retAddr 1] h _
  refine g_if_eq_f (t := 25) dd_50_13 (by decide) (by decide) ?_
  refine g_iload_n (i := 3) dd_50_16 rfl ?_
  by_cases hq : 2147483648 ≤ wh
  · refine g_if_lt_t (t := 25) dd_50_17 (by decide) (by first | exact sk_lt_t (by omega) (by omega) | exact tk_lt_t (by omega)) ?_
    refine g_iconst dd_50_25 ic_m1 ?_
    exact g_ireturn rfl dd_50_26
  · refine g_if_lt_f (t := 25) dd_50_17 (by decide) (by first | exact sk_lt_f (by omega) (by omega) | exact tk_lt_f (by omega)) ?_
    refine g_iload_n (i := 3) dd_50_20 rfl ?_
    refine g_iconst dd_50_21 ic_2 ?_
    refine g_icmp_le_f (t := 27) dd_50_22 (by decide) (by first | exact sk_le_f (by omega) (by omega) | exact tk_le_f (by omega)) ?_
    refine g_iconst dd_50_25 ic_m1 ?_
    exact g_ireturn rfl dd_50_26
theorem mx_w {h : am_H} {E a0 a5 mi go z0 z5 : Nat} {v0 vE w0 w5 : List Value} (q0 : am_get h 0 = some (.inr (11, v0))) (x3 : v0[3]? = some (.ref E)) (qE : am_get h E = some (.inr (1, vE))) (e0 : vE[0]? = some (.ref a0)) (e5 : vE[5]? = some (.ref a5)) (e6 : vE[6]? = some (.retAddr mi)) (e7 : vE[7]? = some (.retAddr go)) (r0 : am_get h a0 = some (.inr (8, w0))) (s0 : w0[3]? = some (.retAddr z0)) (r5 : am_get h a5 = some (.inr (8, w5))) (s5 : w5[3]? = some (.retAddr z5)) (zm : mi ≤ 60) (zz0 : z0 ≤ 4) (zz5 : z5 ≤ 4) (x6 : v0[6]? = some (.ref 32)) {W F B : Nat} (qS : am_get h 32 = some (.inr (9, [.ref 33, .ref 34, .ref 35]))) (g1 : am_get h 33 = some (.inl (0, 240, W))) (g2 : am_get h 34 = some (.inl (0, 240, F))) (g3 : am_get h 35 = some (.inl (0, 240, B))) {s t wh : Nat} (g_s : s < 4294967296) (g_t : t < 4294967296) (g_w : wh < 4294967296) (h1 : s < z0) (h2 : t < mi) (h3 : wh = 0) : am_EG mi_50 [.ref 0, .retAddr s, .retAddr t, .retAddr wh] h (some (.retAddr (am_ag W (60 * s + t))), h) := by
  refine am_enter (n := 1) tk_50.2.1 (by simp [Value.category]) (Nat.le_of_ble_eq_true rfl) ?_
  show am_Good mi_50 0 [some (.ref 0), some (.retAddr s), some (.retAddr t), some (.retAddr wh), none] [] h _
  refine g_aload_n (i := 0) dd_50_0 rfl ?_
  refine g_iload_n (i := 1) dd_50_1 rfl ?_
  refine g_virtual (M' := mi_51) (n := 1) (ci := 11) (b := 0) (as := [.retAddr s]) (st := []) (r1 := (some (.retAddr 1), h)) w_584 w_586 ps_51 ⟨lk_51.1, lk_51.2.1, lk_51.2.2, by decide, by decide⟩ rfl q0 rfl (by simp [Value.category]) dd_50_2 (ist_1 q0 x3 qE e0 e5 e6 e7 r0 s0 r5 s5 zm zz0 zz5 h1) ?_
  show am_Good mi_50 5 [some (.ref 0), some (.retAddr s), some (.retAddr t), some (.retAddr wh), none] [.retAddr 1] h _
  refine g_if_eq_f (t := 25) dd_50_5 (by decide) (by decide) ?_
  refine g_aload_n (i := 0) dd_50_8 rfl ?_
  refine g_iload_n (i := 2) dd_50_9 rfl ?_
  refine g_virtual (M' := mi_52) (n := 1) (ci := 11) (b := 0) (as := [.retAddr t]) (st := []) (r1 := (some (.retAddr 1), h)) w_588 w_590 ps_52 ⟨lk_52.1, lk_52.2.1, lk_52.2.2, by decide, by decide⟩ rfl q0 rfl (by simp [Value.category]) dd_50_10 (imn_1 q0 x3 qE e0 e5 e6 e7 r0 s0 r5 s5 zm zz0 zz5 h2) ?_
  show am_Good mi_50 13 [some (.ref 0), some (.retAddr s), some (.retAddr t), some (.retAddr wh), none] [.retAddr 1] h _
  refine g_if_eq_f (t := 25) dd_50_13 (by decide) (by decide) ?_
  refine g_iload_n (i := 3) dd_50_16 rfl ?_
  refine g_if_lt_f (t := 25) dd_50_17 (by decide) (by first | exact sk_lt_f (by omega) (by omega) | exact tk_lt_f (by omega)) ?_
  refine g_iload_n (i := 3) dd_50_20 rfl ?_
  refine g_iconst dd_50_21 ic_2 ?_
  refine g_icmp_le_t (t := 27) dd_50_22 (by decide) (by first | exact sk_le_t (by omega) (by omega) | exact tk_le_t (by omega)) ?_
  refine g_iload_n (i := 3) dd_50_27 rfl ?_
  refine g_if_ne_f (t := 41) dd_50_28 (by decide) (tk_ne_f (by omega)) ?_
  refine g_aload_n (i := 0) dd_50_31 rfl ?_
  refine g_getfield (k := 6) am_ck11 (by decide) (Or.inl w_517) dd_50_32 q0 x6 ?_
  refine g_iload_n (i := 1) dd_50_35 rfl ?_
  refine g_iload_n (i := 2) dd_50_36 rfl ?_
  refine g_virtual (M' := mi_41) (n := 2) (ci := 9) (b := 32) (as := [.retAddr s, .retAddr t]) (st := []) (r1 := (some (.retAddr (am_ag W (60 * s + t))), h)) w_592 w_491 w_492 ⟨lk_41.1, lk_41.2.1, lk_41.2.2, by decide, by decide⟩ rfl qS rfl (by simp [Value.category]) dd_50_37 (gw_w qS g1 (by omega) (by omega)) ?_
  show am_Good mi_50 40 [some (.ref 0), some (.retAddr s), some (.retAddr t), some (.retAddr wh), none] [.retAddr (am_ag W (60 * s + t))] h _
  exact g_ireturn rfl dd_50_40
theorem mx_f8 {h : am_H} {E a0 a5 mi go z0 z5 : Nat} {v0 vE w0 w5 : List Value} (q0 : am_get h 0 = some (.inr (11, v0))) (x3 : v0[3]? = some (.ref E)) (qE : am_get h E = some (.inr (1, vE))) (e0 : vE[0]? = some (.ref a0)) (e5 : vE[5]? = some (.ref a5)) (e6 : vE[6]? = some (.retAddr mi)) (e7 : vE[7]? = some (.retAddr go)) (r0 : am_get h a0 = some (.inr (8, w0))) (s0 : w0[3]? = some (.retAddr z0)) (r5 : am_get h a5 = some (.inr (8, w5))) (s5 : w5[3]? = some (.retAddr z5)) (zm : mi ≤ 60) (zz0 : z0 ≤ 4) (zz5 : z5 ≤ 4) (x6 : v0[6]? = some (.ref 32)) {W F B : Nat} (qS : am_get h 32 = some (.inr (9, [.ref 33, .ref 34, .ref 35]))) (g1 : am_get h 33 = some (.inl (0, 240, W))) (g2 : am_get h 34 = some (.inl (0, 240, F))) (g3 : am_get h 35 = some (.inl (0, 240, B))) {s t wh : Nat} (g_s : s < 4294967296) (g_t : t < 4294967296) (g_w : wh < 4294967296) (h1 : s < z0) (h2 : t < mi) (h3 : wh = 1) (h4 : am_ag F (60 * s + t) = 8) : am_EG mi_50 [.ref 0, .retAddr s, .retAddr t, .retAddr wh] h (some (.retAddr 4294967292), h) := by
  refine am_enter (n := 1) tk_50.2.1 (by simp [Value.category]) (Nat.le_of_ble_eq_true rfl) ?_
  show am_Good mi_50 0 [some (.ref 0), some (.retAddr s), some (.retAddr t), some (.retAddr wh), none] [] h _
  have hfl := am_ag_lt F (60 * s + t)
  refine g_aload_n (i := 0) dd_50_0 rfl ?_
  refine g_iload_n (i := 1) dd_50_1 rfl ?_
  refine g_virtual (M' := mi_51) (n := 1) (ci := 11) (b := 0) (as := [.retAddr s]) (st := []) (r1 := (some (.retAddr 1), h)) w_584 w_586 ps_51 ⟨lk_51.1, lk_51.2.1, lk_51.2.2, by decide, by decide⟩ rfl q0 rfl (by simp [Value.category]) dd_50_2 (ist_1 q0 x3 qE e0 e5 e6 e7 r0 s0 r5 s5 zm zz0 zz5 h1) ?_
  show am_Good mi_50 5 [some (.ref 0), some (.retAddr s), some (.retAddr t), some (.retAddr wh), none] [.retAddr 1] h _
  refine g_if_eq_f (t := 25) dd_50_5 (by decide) (by decide) ?_
  refine g_aload_n (i := 0) dd_50_8 rfl ?_
  refine g_iload_n (i := 2) dd_50_9 rfl ?_
  refine g_virtual (M' := mi_52) (n := 1) (ci := 11) (b := 0) (as := [.retAddr t]) (st := []) (r1 := (some (.retAddr 1), h)) w_588 w_590 ps_52 ⟨lk_52.1, lk_52.2.1, lk_52.2.2, by decide, by decide⟩ rfl q0 rfl (by simp [Value.category]) dd_50_10 (imn_1 q0 x3 qE e0 e5 e6 e7 r0 s0 r5 s5 zm zz0 zz5 h2) ?_
  show am_Good mi_50 13 [some (.ref 0), some (.retAddr s), some (.retAddr t), some (.retAddr wh), none] [.retAddr 1] h _
  refine g_if_eq_f (t := 25) dd_50_13 (by decide) (by decide) ?_
  refine g_iload_n (i := 3) dd_50_16 rfl ?_
  refine g_if_lt_f (t := 25) dd_50_17 (by decide) (by first | exact sk_lt_f (by omega) (by omega) | exact tk_lt_f (by omega)) ?_
  refine g_iload_n (i := 3) dd_50_20 rfl ?_
  refine g_iconst dd_50_21 ic_2 ?_
  refine g_icmp_le_t (t := 27) dd_50_22 (by decide) (by first | exact sk_le_t (by omega) (by omega) | exact tk_le_t (by omega)) ?_
  refine g_iload_n (i := 3) dd_50_27 rfl ?_
  refine g_if_ne_t (t := 41) dd_50_28 (by decide) (tk_ne_t (by omega)) ?_
  refine g_iload_n (i := 3) dd_50_41 rfl ?_
  refine g_iconst dd_50_42 ic_2 ?_
  refine g_icmp_ne_t (t := 64) dd_50_43 (by decide) (tk_ne_t (by omega)) ?_
  refine g_aload_n (i := 0) dd_50_64 rfl ?_
  refine g_getfield (k := 6) am_ck11 (by decide) (Or.inl w_517) dd_50_65 q0 x6 ?_
  refine g_iload_n (i := 1) dd_50_68 rfl ?_
  refine g_iload_n (i := 2) dd_50_69 rfl ?_
  refine g_virtual (M' := mi_54) (n := 2) (ci := 9) (b := 32) (as := [.retAddr s, .retAddr t]) (st := []) (r1 := (some (.retAddr (am_ag F (60 * s + t))), h)) w_597 w_598 w_599 ⟨lk_54.1, lk_54.2.1, lk_54.2.2, by decide, by decide⟩ rfl qS rfl (by simp [Value.category]) dd_50_70 (gw_f qS g2 (by omega) (by omega)) ?_
  show am_Good mi_50 73 [some (.ref 0), some (.retAddr s), some (.retAddr t), some (.retAddr wh), none] [.retAddr (am_ag F (60 * s + t))] h _
  refine g_istore dd_50_73 (am_nlb_ok rfl) (by decide) ?_
  refine g_iload dd_50_75 rfl ?_
  refine g_bipush dd_50_77 bi_8 ?_
  refine g_icmp_ne_f (t := 87) dd_50_79 (by decide) (tk_ne_f (by omega)) ?_
  refine g_bipush dd_50_82 bi_m4 ?_
  refine g_goto (t := 89) dd_50_84 (by decide) ?_
  exact g_ireturn rfl dd_50_89
theorem mx_f7 {h : am_H} {E a0 a5 mi go z0 z5 : Nat} {v0 vE w0 w5 : List Value} (q0 : am_get h 0 = some (.inr (11, v0))) (x3 : v0[3]? = some (.ref E)) (qE : am_get h E = some (.inr (1, vE))) (e0 : vE[0]? = some (.ref a0)) (e5 : vE[5]? = some (.ref a5)) (e6 : vE[6]? = some (.retAddr mi)) (e7 : vE[7]? = some (.retAddr go)) (r0 : am_get h a0 = some (.inr (8, w0))) (s0 : w0[3]? = some (.retAddr z0)) (r5 : am_get h a5 = some (.inr (8, w5))) (s5 : w5[3]? = some (.retAddr z5)) (zm : mi ≤ 60) (zz0 : z0 ≤ 4) (zz5 : z5 ≤ 4) (x6 : v0[6]? = some (.ref 32)) {W F B : Nat} (qS : am_get h 32 = some (.inr (9, [.ref 33, .ref 34, .ref 35]))) (g1 : am_get h 33 = some (.inl (0, 240, W))) (g2 : am_get h 34 = some (.inl (0, 240, F))) (g3 : am_get h 35 = some (.inl (0, 240, B))) {s t wh : Nat} (g_s : s < 4294967296) (g_t : t < 4294967296) (g_w : wh < 4294967296) (h1 : s < z0) (h2 : t < mi) (h3 : wh = 1) (h4 : am_ag F (60 * s + t) ≠ 8) : am_EG mi_50 [.ref 0, .retAddr s, .retAddr t, .retAddr wh] h (some (.retAddr (am_ag F (60 * s + t))), h) := by
  refine am_enter (n := 1) tk_50.2.1 (by simp [Value.category]) (Nat.le_of_ble_eq_true rfl) ?_
  show am_Good mi_50 0 [some (.ref 0), some (.retAddr s), some (.retAddr t), some (.retAddr wh), none] [] h _
  have hfl := am_ag_lt F (60 * s + t)
  refine g_aload_n (i := 0) dd_50_0 rfl ?_
  refine g_iload_n (i := 1) dd_50_1 rfl ?_
  refine g_virtual (M' := mi_51) (n := 1) (ci := 11) (b := 0) (as := [.retAddr s]) (st := []) (r1 := (some (.retAddr 1), h)) w_584 w_586 ps_51 ⟨lk_51.1, lk_51.2.1, lk_51.2.2, by decide, by decide⟩ rfl q0 rfl (by simp [Value.category]) dd_50_2 (ist_1 q0 x3 qE e0 e5 e6 e7 r0 s0 r5 s5 zm zz0 zz5 h1) ?_
  show am_Good mi_50 5 [some (.ref 0), some (.retAddr s), some (.retAddr t), some (.retAddr wh), none] [.retAddr 1] h _
  refine g_if_eq_f (t := 25) dd_50_5 (by decide) (by decide) ?_
  refine g_aload_n (i := 0) dd_50_8 rfl ?_
  refine g_iload_n (i := 2) dd_50_9 rfl ?_
  refine g_virtual (M' := mi_52) (n := 1) (ci := 11) (b := 0) (as := [.retAddr t]) (st := []) (r1 := (some (.retAddr 1), h)) w_588 w_590 ps_52 ⟨lk_52.1, lk_52.2.1, lk_52.2.2, by decide, by decide⟩ rfl q0 rfl (by simp [Value.category]) dd_50_10 (imn_1 q0 x3 qE e0 e5 e6 e7 r0 s0 r5 s5 zm zz0 zz5 h2) ?_
  show am_Good mi_50 13 [some (.ref 0), some (.retAddr s), some (.retAddr t), some (.retAddr wh), none] [.retAddr 1] h _
  refine g_if_eq_f (t := 25) dd_50_13 (by decide) (by decide) ?_
  refine g_iload_n (i := 3) dd_50_16 rfl ?_
  refine g_if_lt_f (t := 25) dd_50_17 (by decide) (by first | exact sk_lt_f (by omega) (by omega) | exact tk_lt_f (by omega)) ?_
  refine g_iload_n (i := 3) dd_50_20 rfl ?_
  refine g_iconst dd_50_21 ic_2 ?_
  refine g_icmp_le_t (t := 27) dd_50_22 (by decide) (by first | exact sk_le_t (by omega) (by omega) | exact tk_le_t (by omega)) ?_
  refine g_iload_n (i := 3) dd_50_27 rfl ?_
  refine g_if_ne_t (t := 41) dd_50_28 (by decide) (tk_ne_t (by omega)) ?_
  refine g_iload_n (i := 3) dd_50_41 rfl ?_
  refine g_iconst dd_50_42 ic_2 ?_
  refine g_icmp_ne_t (t := 64) dd_50_43 (by decide) (tk_ne_t (by omega)) ?_
  refine g_aload_n (i := 0) dd_50_64 rfl ?_
  refine g_getfield (k := 6) am_ck11 (by decide) (Or.inl w_517) dd_50_65 q0 x6 ?_
  refine g_iload_n (i := 1) dd_50_68 rfl ?_
  refine g_iload_n (i := 2) dd_50_69 rfl ?_
  refine g_virtual (M' := mi_54) (n := 2) (ci := 9) (b := 32) (as := [.retAddr s, .retAddr t]) (st := []) (r1 := (some (.retAddr (am_ag F (60 * s + t))), h)) w_597 w_598 w_599 ⟨lk_54.1, lk_54.2.1, lk_54.2.2, by decide, by decide⟩ rfl qS rfl (by simp [Value.category]) dd_50_70 (gw_f qS g2 (by omega) (by omega)) ?_
  show am_Good mi_50 73 [some (.ref 0), some (.retAddr s), some (.retAddr t), some (.retAddr wh), none] [.retAddr (am_ag F (60 * s + t))] h _
  refine g_istore dd_50_73 (am_nlb_ok rfl) (by decide) ?_
  refine g_iload dd_50_75 rfl ?_
  refine g_bipush dd_50_77 bi_8 ?_
  refine g_icmp_ne_t (t := 87) dd_50_79 (by decide) (tk_ne_t (by omega)) ?_
  refine g_iload dd_50_87 rfl ?_
  exact g_ireturn rfl dd_50_89
theorem mx_b1 {h : am_H} {E a0 a5 mi go z0 z5 : Nat} {v0 vE w0 w5 : List Value} (q0 : am_get h 0 = some (.inr (11, v0))) (x3 : v0[3]? = some (.ref E)) (qE : am_get h E = some (.inr (1, vE))) (e0 : vE[0]? = some (.ref a0)) (e5 : vE[5]? = some (.ref a5)) (e6 : vE[6]? = some (.retAddr mi)) (e7 : vE[7]? = some (.retAddr go)) (r0 : am_get h a0 = some (.inr (8, w0))) (s0 : w0[3]? = some (.retAddr z0)) (r5 : am_get h a5 = some (.inr (8, w5))) (s5 : w5[3]? = some (.retAddr z5)) (zm : mi ≤ 60) (zz0 : z0 ≤ 4) (zz5 : z5 ≤ 4) (x6 : v0[6]? = some (.ref 32)) {W F B : Nat} (qS : am_get h 32 = some (.inr (9, [.ref 33, .ref 34, .ref 35]))) (g1 : am_get h 33 = some (.inl (0, 240, W))) (g2 : am_get h 34 = some (.inl (0, 240, F))) (g3 : am_get h 35 = some (.inl (0, 240, B))) {s t wh : Nat} (g_s : s < 4294967296) (g_t : t < 4294967296) (g_w : wh < 4294967296) (h1 : s < z0) (h2 : t < mi) (h3 : wh = 2) (h4 : am_ag B (60 * s + t) ≠ 0) : am_EG mi_50 [.ref 0, .retAddr s, .retAddr t, .retAddr wh] h (some (.retAddr 1), h) := by
  refine am_enter (n := 1) tk_50.2.1 (by simp [Value.category]) (Nat.le_of_ble_eq_true rfl) ?_
  show am_Good mi_50 0 [some (.ref 0), some (.retAddr s), some (.retAddr t), some (.retAddr wh), none] [] h _
  refine g_aload_n (i := 0) dd_50_0 rfl ?_
  refine g_iload_n (i := 1) dd_50_1 rfl ?_
  refine g_virtual (M' := mi_51) (n := 1) (ci := 11) (b := 0) (as := [.retAddr s]) (st := []) (r1 := (some (.retAddr 1), h)) w_584 w_586 ps_51 ⟨lk_51.1, lk_51.2.1, lk_51.2.2, by decide, by decide⟩ rfl q0 rfl (by simp [Value.category]) dd_50_2 (ist_1 q0 x3 qE e0 e5 e6 e7 r0 s0 r5 s5 zm zz0 zz5 h1) ?_
  show am_Good mi_50 5 [some (.ref 0), some (.retAddr s), some (.retAddr t), some (.retAddr wh), none] [.retAddr 1] h _
  refine g_if_eq_f (t := 25) dd_50_5 (by decide) (by decide) ?_
  refine g_aload_n (i := 0) dd_50_8 rfl ?_
  refine g_iload_n (i := 2) dd_50_9 rfl ?_
  refine g_virtual (M' := mi_52) (n := 1) (ci := 11) (b := 0) (as := [.retAddr t]) (st := []) (r1 := (some (.retAddr 1), h)) w_588 w_590 ps_52 ⟨lk_52.1, lk_52.2.1, lk_52.2.2, by decide, by decide⟩ rfl q0 rfl (by simp [Value.category]) dd_50_10 (imn_1 q0 x3 qE e0 e5 e6 e7 r0 s0 r5 s5 zm zz0 zz5 h2) ?_
  show am_Good mi_50 13 [some (.ref 0), some (.retAddr s), some (.retAddr t), some (.retAddr wh), none] [.retAddr 1] h _
  refine g_if_eq_f (t := 25) dd_50_13 (by decide) (by decide) ?_
  refine g_iload_n (i := 3) dd_50_16 rfl ?_
  refine g_if_lt_f (t := 25) dd_50_17 (by decide) (by first | exact sk_lt_f (by omega) (by omega) | exact tk_lt_f (by omega)) ?_
  refine g_iload_n (i := 3) dd_50_20 rfl ?_
  refine g_iconst dd_50_21 ic_2 ?_
  refine g_icmp_le_t (t := 27) dd_50_22 (by decide) (by first | exact sk_le_t (by omega) (by omega) | exact tk_le_t (by omega)) ?_
  refine g_iload_n (i := 3) dd_50_27 rfl ?_
  refine g_if_ne_t (t := 41) dd_50_28 (by decide) (tk_ne_t (by omega)) ?_
  refine g_iload_n (i := 3) dd_50_41 rfl ?_
  refine g_iconst dd_50_42 ic_2 ?_
  refine g_icmp_ne_f (t := 64) dd_50_43 (by decide) (tk_ne_f (by omega)) ?_
  refine g_aload_n (i := 0) dd_50_46 rfl ?_
  refine g_getfield (k := 6) am_ck11 (by decide) (Or.inl w_517) dd_50_47 q0 x6 ?_
  refine g_iload_n (i := 1) dd_50_50 rfl ?_
  refine g_iload_n (i := 2) dd_50_51 rfl ?_
  refine g_virtual (M' := mi_53) (n := 2) (ci := 9) (b := 32) (as := [.retAddr s, .retAddr t]) (st := []) (r1 := (some (.retAddr 1), h)) w_593 w_594 w_595 ⟨lk_53.1, lk_53.2.1, lk_53.2.2, by decide, by decide⟩ rfl qS rfl (by simp [Value.category]) dd_50_52 (gw_b1 qS g3 (by omega) (by omega) h4) ?_
  show am_Good mi_50 55 [some (.ref 0), some (.retAddr s), some (.retAddr t), some (.retAddr wh), none] [.retAddr 1] h _
  refine g_if_eq_f (t := 62) dd_50_55 (by decide) (by decide) ?_
  refine g_iconst dd_50_58 ic_1 ?_
  refine g_goto (t := 63) dd_50_59 (by decide) ?_
  exact g_ireturn rfl dd_50_63
theorem mx_b0 {h : am_H} {E a0 a5 mi go z0 z5 : Nat} {v0 vE w0 w5 : List Value} (q0 : am_get h 0 = some (.inr (11, v0))) (x3 : v0[3]? = some (.ref E)) (qE : am_get h E = some (.inr (1, vE))) (e0 : vE[0]? = some (.ref a0)) (e5 : vE[5]? = some (.ref a5)) (e6 : vE[6]? = some (.retAddr mi)) (e7 : vE[7]? = some (.retAddr go)) (r0 : am_get h a0 = some (.inr (8, w0))) (s0 : w0[3]? = some (.retAddr z0)) (r5 : am_get h a5 = some (.inr (8, w5))) (s5 : w5[3]? = some (.retAddr z5)) (zm : mi ≤ 60) (zz0 : z0 ≤ 4) (zz5 : z5 ≤ 4) (x6 : v0[6]? = some (.ref 32)) {W F B : Nat} (qS : am_get h 32 = some (.inr (9, [.ref 33, .ref 34, .ref 35]))) (g1 : am_get h 33 = some (.inl (0, 240, W))) (g2 : am_get h 34 = some (.inl (0, 240, F))) (g3 : am_get h 35 = some (.inl (0, 240, B))) {s t wh : Nat} (g_s : s < 4294967296) (g_t : t < 4294967296) (g_w : wh < 4294967296) (h1 : s < z0) (h2 : t < mi) (h3 : wh = 2) (h4 : am_ag B (60 * s + t) = 0) : am_EG mi_50 [.ref 0, .retAddr s, .retAddr t, .retAddr wh] h (some (.retAddr 0), h) := by
  refine am_enter (n := 1) tk_50.2.1 (by simp [Value.category]) (Nat.le_of_ble_eq_true rfl) ?_
  show am_Good mi_50 0 [some (.ref 0), some (.retAddr s), some (.retAddr t), some (.retAddr wh), none] [] h _
  refine g_aload_n (i := 0) dd_50_0 rfl ?_
  refine g_iload_n (i := 1) dd_50_1 rfl ?_
  refine g_virtual (M' := mi_51) (n := 1) (ci := 11) (b := 0) (as := [.retAddr s]) (st := []) (r1 := (some (.retAddr 1), h)) w_584 w_586 ps_51 ⟨lk_51.1, lk_51.2.1, lk_51.2.2, by decide, by decide⟩ rfl q0 rfl (by simp [Value.category]) dd_50_2 (ist_1 q0 x3 qE e0 e5 e6 e7 r0 s0 r5 s5 zm zz0 zz5 h1) ?_
  show am_Good mi_50 5 [some (.ref 0), some (.retAddr s), some (.retAddr t), some (.retAddr wh), none] [.retAddr 1] h _
  refine g_if_eq_f (t := 25) dd_50_5 (by decide) (by decide) ?_
  refine g_aload_n (i := 0) dd_50_8 rfl ?_
  refine g_iload_n (i := 2) dd_50_9 rfl ?_
  refine g_virtual (M' := mi_52) (n := 1) (ci := 11) (b := 0) (as := [.retAddr t]) (st := []) (r1 := (some (.retAddr 1), h)) w_588 w_590 ps_52 ⟨lk_52.1, lk_52.2.1, lk_52.2.2, by decide, by decide⟩ rfl q0 rfl (by simp [Value.category]) dd_50_10 (imn_1 q0 x3 qE e0 e5 e6 e7 r0 s0 r5 s5 zm zz0 zz5 h2) ?_
  show am_Good mi_50 13 [some (.ref 0), some (.retAddr s), some (.retAddr t), some (.retAddr wh), none] [.retAddr 1] h _
  refine g_if_eq_f (t := 25) dd_50_13 (by decide) (by decide) ?_
  refine g_iload_n (i := 3) dd_50_16 rfl ?_
  refine g_if_lt_f (t := 25) dd_50_17 (by decide) (by first | exact sk_lt_f (by omega) (by omega) | exact tk_lt_f (by omega)) ?_
  refine g_iload_n (i := 3) dd_50_20 rfl ?_
  refine g_iconst dd_50_21 ic_2 ?_
  refine g_icmp_le_t (t := 27) dd_50_22 (by decide) (by first | exact sk_le_t (by omega) (by omega) | exact tk_le_t (by omega)) ?_
  refine g_iload_n (i := 3) dd_50_27 rfl ?_
  refine g_if_ne_t (t := 41) dd_50_28 (by decide) (tk_ne_t (by omega)) ?_
  refine g_iload_n (i := 3) dd_50_41 rfl ?_
  refine g_iconst dd_50_42 ic_2 ?_
  refine g_icmp_ne_f (t := 64) dd_50_43 (by decide) (tk_ne_f (by omega)) ?_
  refine g_aload_n (i := 0) dd_50_46 rfl ?_
  refine g_getfield (k := 6) am_ck11 (by decide) (Or.inl w_517) dd_50_47 q0 x6 ?_
  refine g_iload_n (i := 1) dd_50_50 rfl ?_
  refine g_iload_n (i := 2) dd_50_51 rfl ?_
  refine g_virtual (M' := mi_53) (n := 2) (ci := 9) (b := 32) (as := [.retAddr s, .retAddr t]) (st := []) (r1 := (some (.retAddr 0), h)) w_593 w_594 w_595 ⟨lk_53.1, lk_53.2.1, lk_53.2.2, by decide, by decide⟩ rfl qS rfl (by simp [Value.category]) dd_50_52 (gw_b0 qS g3 (by omega) (by omega) h4) ?_
  show am_Good mi_50 55 [some (.ref 0), some (.retAddr s), some (.retAddr t), some (.retAddr wh), none] [.retAddr 0] h _
  refine g_if_eq_t (t := 62) dd_50_55 (by decide) (by decide) ?_
  refine g_iconst dd_50_62 ic_0 ?_
  exact g_ireturn rfl dd_50_63
theorem rin_w {h : am_H} {wh m : Nat} (g : wh < 4294967296) (h3 : ¬ wh ≤ m) : am_EG mi_133 [.retAddr wh, .retAddr 0, .retAddr m] h (some (.retAddr 0), h) := by
  by_cases q : wh < 2147483648
  · exact rin0 (by decide) (by omega) q
  · exact rinn (by decide) (by omega) g
theorem mm_0 {h : am_H} {vs : List Value} {Z R : Nat → Nat} {w f b mi : Nat} (hH : ms_ok h) (q66 : am_get h 66 = some (.inr (12, vs))) (f2 : vs[2]? = some (.retAddr (Z 0))) (f3 : vs[3]? = some (.ref 67)) (f4 : vs[4]? = some (.retAddr (Z 1))) (f5 : vs[5]? = some (.ref 68)) (f6 : vs[6]? = some (.retAddr (Z 2))) (f7 : vs[7]? = some (.ref 69)) (f8 : vs[8]? = some (.retAddr (Z 3))) (f9 : vs[9]? = some (.ref 70)) (f0 : vs[0]? = some (.retAddr mi)) (f32 : vs[32]? = some (.ref 81)) (f33 : vs[33]? = some (.ref 82)) (f34 : vs[34]? = some (.ref 83)) (a67 : am_get h 67 = some (.inl (0, 4, R 0))) (a68 : am_get h 68 = some (.inl (0, 45, R 1))) (a69 : am_get h 69 = some (.inl (0, 18, R 2))) (a70 : am_get h 70 = some (.inl (0, 16, R 3))) (vZ : ∀ k, k < 6 → Z k ≤ je_z k) (hB : je_B Z R) {s t wh : Nat} (g_s : s < 4294967296) (g_t : t < 4294967296) (g_w : wh < 4294967296) (hz0 : 1 ≤ Z 0) (hm0 : 1 ≤ mi) (hm1 : mi ≤ 60) (h1 : ¬ s < Z 0) : am_EG mi_152 [.ref 66, .retAddr s, .retAddr t, .retAddr wh] (ms h w f b) (some (.retAddr 4294967295), (ms h w f b)) := by
  refine am_enter (n := 1) tk_152.2.1 (by simp [Value.category]) (Nat.le_of_ble_eq_true rfl) ?_
  show am_Good mi_152 0 [some (.ref 66), some (.retAddr s), some (.retAddr t), some (.retAddr wh), none] [] (ms h w f b) _
  have z0 : Z 0 ≤ 4 := vZ 0 (by decide)
  have z1 : Z 1 ≤ 9 := vZ 1 (by decide)
  have z2 : Z 2 ≤ 6 := vZ 2 (by decide)
  have z3 : Z 3 ≤ 4 := vZ 3 (by decide)
  refine g_aload_n (i := 0) dd_152_0 rfl ?_
  refine g_iload_n (i := 1) dd_152_1 rfl ?_
  refine g_virtual (M' := mi_153) (n := 1) (ci := 12) (b := 66) (as := [.retAddr s]) (st := []) (r1 := (some (.retAddr 0), (ms h w f b))) w_1184 w_1186 ps_153 ⟨lk_153.1, lk_153.2.1, lk_153.2.2, by decide, by decide⟩ rfl ((ms_o hH rfl).trans q66) rfl (by simp [Value.category]) dd_152_2 (msm_0 ((ms_o hH rfl).trans q66) f2 hz0 (by omega) h1 g_s) ?_
  show am_Good mi_152 5 [some (.ref 66), some (.retAddr s), some (.retAddr t), some (.retAddr wh), none] [.retAddr 0] (ms h w f b) _
  refine g_if_eq_t (t := 25) dd_152_5 (by decide) (by decide) ?_
  refine g_iconst dd_152_25 ic_m1 ?_
  exact g_ireturn rfl dd_152_26
theorem mm_1 {h : am_H} {vs : List Value} {Z R : Nat → Nat} {w f b mi : Nat} (hH : ms_ok h) (q66 : am_get h 66 = some (.inr (12, vs))) (f2 : vs[2]? = some (.retAddr (Z 0))) (f3 : vs[3]? = some (.ref 67)) (f4 : vs[4]? = some (.retAddr (Z 1))) (f5 : vs[5]? = some (.ref 68)) (f6 : vs[6]? = some (.retAddr (Z 2))) (f7 : vs[7]? = some (.ref 69)) (f8 : vs[8]? = some (.retAddr (Z 3))) (f9 : vs[9]? = some (.ref 70)) (f0 : vs[0]? = some (.retAddr mi)) (f32 : vs[32]? = some (.ref 81)) (f33 : vs[33]? = some (.ref 82)) (f34 : vs[34]? = some (.ref 83)) (a67 : am_get h 67 = some (.inl (0, 4, R 0))) (a68 : am_get h 68 = some (.inl (0, 45, R 1))) (a69 : am_get h 69 = some (.inl (0, 18, R 2))) (a70 : am_get h 70 = some (.inl (0, 16, R 3))) (vZ : ∀ k, k < 6 → Z k ≤ je_z k) (hB : je_B Z R) {s t wh : Nat} (g_s : s < 4294967296) (g_t : t < 4294967296) (g_w : wh < 4294967296) (hz0 : 1 ≤ Z 0) (hm0 : 1 ≤ mi) (hm1 : mi ≤ 60) (h1 : s < Z 0) (h2 : ¬ t < mi) : am_EG mi_152 [.ref 66, .retAddr s, .retAddr t, .retAddr wh] (ms h w f b) (some (.retAddr 4294967295), (ms h w f b)) := by
  refine am_enter (n := 1) tk_152.2.1 (by simp [Value.category]) (Nat.le_of_ble_eq_true rfl) ?_
  show am_Good mi_152 0 [some (.ref 66), some (.retAddr s), some (.retAddr t), some (.retAddr wh), none] [] (ms h w f b) _
  have z0 : Z 0 ≤ 4 := vZ 0 (by decide)
  have z1 : Z 1 ≤ 9 := vZ 1 (by decide)
  have z2 : Z 2 ≤ 6 := vZ 2 (by decide)
  have z3 : Z 3 ≤ 4 := vZ 3 (by decide)
  refine g_aload_n (i := 0) dd_152_0 rfl ?_
  refine g_iload_n (i := 1) dd_152_1 rfl ?_
  refine g_virtual (M' := mi_153) (n := 1) (ci := 12) (b := 66) (as := [.retAddr s]) (st := []) (r1 := (some (.retAddr 1), (ms h w f b))) w_1184 w_1186 ps_153 ⟨lk_153.1, lk_153.2.1, lk_153.2.2, by decide, by decide⟩ rfl ((ms_o hH rfl).trans q66) rfl (by simp [Value.category]) dd_152_2 (msm_1 ((ms_o hH rfl).trans q66) f2 hz0 (by omega) h1) ?_
  show am_Good mi_152 5 [some (.ref 66), some (.retAddr s), some (.retAddr t), some (.retAddr wh), none] [.retAddr 1] (ms h w f b) _
  refine g_if_eq_f (t := 25) dd_152_5 (by decide) (by decide) ?_
  refine g_aload_n (i := 0) dd_152_8 rfl ?_
  refine g_iload_n (i := 2) dd_152_9 rfl ?_
  refine g_virtual (M' := mi_154) (n := 1) (ci := 12) (b := 66) (as := [.retAddr t]) (st := []) (r1 := (some (.retAddr 0), (ms h w f b))) w_1188 w_1190 ps_154 ⟨lk_154.1, lk_154.2.1, lk_154.2.2, by decide, by decide⟩ rfl ((ms_o hH rfl).trans q66) rfl (by simp [Value.category]) dd_152_10 (mmm_0 ((ms_o hH rfl).trans q66) f0 hm0 hm1 h2 g_t) ?_
  show am_Good mi_152 13 [some (.ref 66), some (.retAddr s), some (.retAddr t), some (.retAddr wh), none] [.retAddr 0] (ms h w f b) _
  refine g_if_eq_t (t := 25) dd_152_13 (by decide) (by decide) ?_
  refine g_iconst dd_152_25 ic_m1 ?_
  exact g_ireturn rfl dd_152_26
theorem mm_2 {h : am_H} {vs : List Value} {Z R : Nat → Nat} {w f b mi : Nat} (hH : ms_ok h) (q66 : am_get h 66 = some (.inr (12, vs))) (f2 : vs[2]? = some (.retAddr (Z 0))) (f3 : vs[3]? = some (.ref 67)) (f4 : vs[4]? = some (.retAddr (Z 1))) (f5 : vs[5]? = some (.ref 68)) (f6 : vs[6]? = some (.retAddr (Z 2))) (f7 : vs[7]? = some (.ref 69)) (f8 : vs[8]? = some (.retAddr (Z 3))) (f9 : vs[9]? = some (.ref 70)) (f0 : vs[0]? = some (.retAddr mi)) (f32 : vs[32]? = some (.ref 81)) (f33 : vs[33]? = some (.ref 82)) (f34 : vs[34]? = some (.ref 83)) (a67 : am_get h 67 = some (.inl (0, 4, R 0))) (a68 : am_get h 68 = some (.inl (0, 45, R 1))) (a69 : am_get h 69 = some (.inl (0, 18, R 2))) (a70 : am_get h 70 = some (.inl (0, 16, R 3))) (vZ : ∀ k, k < 6 → Z k ≤ je_z k) (hB : je_B Z R) {s t wh : Nat} (g_s : s < 4294967296) (g_t : t < 4294967296) (g_w : wh < 4294967296) (hz0 : 1 ≤ Z 0) (hm0 : 1 ≤ mi) (hm1 : mi ≤ 60) (h1 : s < Z 0) (h2 : t < mi) (h3 : ¬ wh ≤ 2) : am_EG mi_152 [.ref 66, .retAddr s, .retAddr t, .retAddr wh] (ms h w f b) (some (.retAddr 4294967295), (ms h w f b)) := by
  refine am_enter (n := 1) tk_152.2.1 (by simp [Value.category]) (Nat.le_of_ble_eq_true rfl) ?_
  show am_Good mi_152 0 [some (.ref 66), some (.retAddr s), some (.retAddr t), some (.retAddr wh), none] [] (ms h w f b) _
  have z0 : Z 0 ≤ 4 := vZ 0 (by decide)
  have z1 : Z 1 ≤ 9 := vZ 1 (by decide)
  have z2 : Z 2 ≤ 6 := vZ 2 (by decide)
  have z3 : Z 3 ≤ 4 := vZ 3 (by decide)
  refine g_aload_n (i := 0) dd_152_0 rfl ?_
  refine g_iload_n (i := 1) dd_152_1 rfl ?_
  refine g_virtual (M' := mi_153) (n := 1) (ci := 12) (b := 66) (as := [.retAddr s]) (st := []) (r1 := (some (.retAddr 1), (ms h w f b))) w_1184 w_1186 ps_153 ⟨lk_153.1, lk_153.2.1, lk_153.2.2, by decide, by decide⟩ rfl ((ms_o hH rfl).trans q66) rfl (by simp [Value.category]) dd_152_2 (msm_1 ((ms_o hH rfl).trans q66) f2 hz0 (by omega) h1) ?_
  show am_Good mi_152 5 [some (.ref 66), some (.retAddr s), some (.retAddr t), some (.retAddr wh), none] [.retAddr 1] (ms h w f b) _
  refine g_if_eq_f (t := 25) dd_152_5 (by decide) (by decide) ?_
  refine g_aload_n (i := 0) dd_152_8 rfl ?_
  refine g_iload_n (i := 2) dd_152_9 rfl ?_
  refine g_virtual (M' := mi_154) (n := 1) (ci := 12) (b := 66) (as := [.retAddr t]) (st := []) (r1 := (some (.retAddr 1), (ms h w f b))) w_1188 w_1190 ps_154 ⟨lk_154.1, lk_154.2.1, lk_154.2.2, by decide, by decide⟩ rfl ((ms_o hH rfl).trans q66) rfl (by simp [Value.category]) dd_152_10 (mmm_1 ((ms_o hH rfl).trans q66) f0 hm0 hm1 h2) ?_
  show am_Good mi_152 13 [some (.ref 66), some (.retAddr s), some (.retAddr t), some (.retAddr wh), none] [.retAddr 1] (ms h w f b) _
  refine g_if_eq_f (t := 25) dd_152_13 (by decide) (by decide) ?_
  refine g_iload_n (i := 3) dd_152_16 rfl ?_
  refine g_iconst dd_152_17 ic_0 ?_
  refine g_iconst dd_152_18 ic_2 ?_
  refine g_static (M' := mi_133) (n := 3) (as := [.retAddr wh, .retAddr 0, .retAddr 2]) (st := []) (r1 := (some (.retAddr 0), (ms h w f b))) w_1106 w_1107 ⟨lk_133.1, lk_133.2.1, lk_133.2.2, by decide, by decide⟩ rfl (by simp [Value.category]) dd_152_19 (rin_w g_w h3) ?_
  show am_Good mi_152 22 [some (.ref 66), some (.retAddr s), some (.retAddr t), some (.retAddr wh), none] [.retAddr 0] (ms h w f b) _
  refine g_if_ne_f (t := 27) dd_152_22 (by decide) (by decide) ?_
  refine g_iconst dd_152_25 ic_m1 ?_
  exact g_ireturn rfl dd_152_26
theorem mm_w {h : am_H} {vs : List Value} {Z R : Nat → Nat} {w f b mi : Nat} (hH : ms_ok h) (q66 : am_get h 66 = some (.inr (12, vs))) (f2 : vs[2]? = some (.retAddr (Z 0))) (f3 : vs[3]? = some (.ref 67)) (f4 : vs[4]? = some (.retAddr (Z 1))) (f5 : vs[5]? = some (.ref 68)) (f6 : vs[6]? = some (.retAddr (Z 2))) (f7 : vs[7]? = some (.ref 69)) (f8 : vs[8]? = some (.retAddr (Z 3))) (f9 : vs[9]? = some (.ref 70)) (f0 : vs[0]? = some (.retAddr mi)) (f32 : vs[32]? = some (.ref 81)) (f33 : vs[33]? = some (.ref 82)) (f34 : vs[34]? = some (.ref 83)) (a67 : am_get h 67 = some (.inl (0, 4, R 0))) (a68 : am_get h 68 = some (.inl (0, 45, R 1))) (a69 : am_get h 69 = some (.inl (0, 18, R 2))) (a70 : am_get h 70 = some (.inl (0, 16, R 3))) (vZ : ∀ k, k < 6 → Z k ≤ je_z k) (hB : je_B Z R) {s t wh : Nat} (g_s : s < 4294967296) (g_t : t < 4294967296) (g_w : wh < 4294967296) (hz0 : 1 ≤ Z 0) (hm0 : 1 ≤ mi) (hm1 : mi ≤ 60) (h1 : s < Z 0) (h2 : t < mi) (h3 : wh ≤ 2) (h4 : wh = 0) : am_EG mi_152 [.ref 66, .retAddr s, .retAddr t, .retAddr wh] (ms h w f b) (some (.retAddr (am_ag (lcW Z R 0 4294967292 w b) (64 * s + t))), (ms h (lcW Z R 0 4294967292 w b) (lcF Z R 0 4294967292 f b) (lcB Z R 0 b))) := by
  refine am_enter (n := 1) tk_152.2.1 (by simp [Value.category]) (Nat.le_of_ble_eq_true rfl) ?_
  show am_Good mi_152 0 [some (.ref 66), some (.retAddr s), some (.retAddr t), some (.retAddr wh), none] [] (ms h w f b) _
  have z0 : Z 0 ≤ 4 := vZ 0 (by decide)
  have z1 : Z 1 ≤ 9 := vZ 1 (by decide)
  have z2 : Z 2 ≤ 6 := vZ 2 (by decide)
  have z3 : Z 3 ≤ 4 := vZ 3 (by decide)
  refine g_aload_n (i := 0) dd_152_0 rfl ?_
  refine g_iload_n (i := 1) dd_152_1 rfl ?_
  refine g_virtual (M' := mi_153) (n := 1) (ci := 12) (b := 66) (as := [.retAddr s]) (st := []) (r1 := (some (.retAddr 1), (ms h w f b))) w_1184 w_1186 ps_153 ⟨lk_153.1, lk_153.2.1, lk_153.2.2, by decide, by decide⟩ rfl ((ms_o hH rfl).trans q66) rfl (by simp [Value.category]) dd_152_2 (msm_1 ((ms_o hH rfl).trans q66) f2 hz0 (by omega) h1) ?_
  show am_Good mi_152 5 [some (.ref 66), some (.retAddr s), some (.retAddr t), some (.retAddr wh), none] [.retAddr 1] (ms h w f b) _
  refine g_if_eq_f (t := 25) dd_152_5 (by decide) (by decide) ?_
  refine g_aload_n (i := 0) dd_152_8 rfl ?_
  refine g_iload_n (i := 2) dd_152_9 rfl ?_
  refine g_virtual (M' := mi_154) (n := 1) (ci := 12) (b := 66) (as := [.retAddr t]) (st := []) (r1 := (some (.retAddr 1), (ms h w f b))) w_1188 w_1190 ps_154 ⟨lk_154.1, lk_154.2.1, lk_154.2.2, by decide, by decide⟩ rfl ((ms_o hH rfl).trans q66) rfl (by simp [Value.category]) dd_152_10 (mmm_1 ((ms_o hH rfl).trans q66) f0 hm0 hm1 h2) ?_
  show am_Good mi_152 13 [some (.ref 66), some (.retAddr s), some (.retAddr t), some (.retAddr wh), none] [.retAddr 1] (ms h w f b) _
  refine g_if_eq_f (t := 25) dd_152_13 (by decide) (by decide) ?_
  refine g_iload_n (i := 3) dd_152_16 rfl ?_
  refine g_iconst dd_152_17 ic_0 ?_
  refine g_iconst dd_152_18 ic_2 ?_
  refine g_static (M' := mi_133) (n := 3) (as := [.retAddr wh, .retAddr 0, .retAddr 2]) (st := []) (r1 := (some (.retAddr 1), (ms h w f b))) w_1106 w_1107 ⟨lk_133.1, lk_133.2.1, lk_133.2.2, by decide, by decide⟩ rfl (by simp [Value.category]) dd_152_19 (rin1 (by decide) ⟨Nat.zero_le _, h3⟩ (by decide)) ?_
  show am_Good mi_152 22 [some (.ref 66), some (.retAddr s), some (.retAddr t), some (.retAddr wh), none] [.retAddr 1] (ms h w f b) _
  refine g_if_ne_t (t := 27) dd_152_22 (by decide) (by decide) ?_
  refine g_aload_n (i := 0) dd_152_27 rfl ?_
  refine g_iconst dd_152_28 ic_0 ?_
  refine g_bipush dd_152_29 bi_m4 ?_
  refine g_virtual (M' := mi_155) (n := 2) (ci := 12) (b := 66) (as := [.retAddr 0, .retAddr 4294967292]) (st := []) (r1 := (none, (ms h (lcW Z R 0 4294967292 w b) (lcF Z R 0 4294967292 f b) (lcB Z R 0 b)))) w_1192 w_1194 ps_155 ⟨lk_155.1, lk_155.2.1, lk_155.2.2, by decide, by decide⟩ rfl ((ms_o hH rfl).trans q66) rfl (by simp [Value.category]) dd_152_31 (lc_m hH q66 f2 f3 f4 f5 f6 f7 f8 f9 f32 f33 f34 a67 a68 a69 a70 vZ hB (by decide) (by decide)) ?_
  show am_Good mi_152 34 [some (.ref 66), some (.retAddr s), some (.retAddr t), some (.retAddr wh), none] [] (ms h (lcW Z R 0 4294967292 w b) (lcF Z R 0 4294967292 f b) (lcB Z R 0 b)) _
  refine g_bipush dd_152_34 bi_64 ?_
  refine g_iload_n (i := 1) dd_152_36 rfl ?_
  refine e_imul (v := 64 * s) dd_152_37 (by omega) ?_
  refine g_iload_n (i := 2) dd_152_38 rfl ?_
  refine e_iadd (v := (64 * s) + t) dd_152_39 (by omega) ?_
  refine g_istore dd_152_40 (am_nlb_ok rfl) (by decide) ?_
  refine g_iload_n (i := 3) dd_152_42 rfl ?_
  refine g_if_ne_f (t := 56) dd_152_43 (by decide) (tk_ne_f (by omega)) ?_
  refine g_aload_n (i := 0) dd_152_46 rfl ?_
  refine g_getfield (k := 32) am_ck12 (by decide) (Or.inl w_967) dd_152_47 ((ms_o hH rfl).trans q66) f32 ?_
  refine g_iload dd_152_50 rfl ?_
  refine g_iaload dd_152_52 (ms_g81 hH) (by omega) (by decide) ?_
  have hl_1 := am_ag_lt (lcW Z R 0 4294967292 w b) ((64 * s) + t)
  refine g_goto (t := 86) dd_152_53 (by decide) ?_
  exact g_ireturn rfl dd_152_86
theorem mm_f {h : am_H} {vs : List Value} {Z R : Nat → Nat} {w f b mi : Nat} (hH : ms_ok h) (q66 : am_get h 66 = some (.inr (12, vs))) (f2 : vs[2]? = some (.retAddr (Z 0))) (f3 : vs[3]? = some (.ref 67)) (f4 : vs[4]? = some (.retAddr (Z 1))) (f5 : vs[5]? = some (.ref 68)) (f6 : vs[6]? = some (.retAddr (Z 2))) (f7 : vs[7]? = some (.ref 69)) (f8 : vs[8]? = some (.retAddr (Z 3))) (f9 : vs[9]? = some (.ref 70)) (f0 : vs[0]? = some (.retAddr mi)) (f32 : vs[32]? = some (.ref 81)) (f33 : vs[33]? = some (.ref 82)) (f34 : vs[34]? = some (.ref 83)) (a67 : am_get h 67 = some (.inl (0, 4, R 0))) (a68 : am_get h 68 = some (.inl (0, 45, R 1))) (a69 : am_get h 69 = some (.inl (0, 18, R 2))) (a70 : am_get h 70 = some (.inl (0, 16, R 3))) (vZ : ∀ k, k < 6 → Z k ≤ je_z k) (hB : je_B Z R) {s t wh : Nat} (g_s : s < 4294967296) (g_t : t < 4294967296) (g_w : wh < 4294967296) (hz0 : 1 ≤ Z 0) (hm0 : 1 ≤ mi) (hm1 : mi ≤ 60) (h1 : s < Z 0) (h2 : t < mi) (h3 : wh ≤ 2) (h4 : wh = 1) : am_EG mi_152 [.ref 66, .retAddr s, .retAddr t, .retAddr wh] (ms h w f b) (some (.retAddr (am_ag (lcF Z R 0 4294967292 f b) (64 * s + t))), (ms h (lcW Z R 0 4294967292 w b) (lcF Z R 0 4294967292 f b) (lcB Z R 0 b))) := by
  refine am_enter (n := 1) tk_152.2.1 (by simp [Value.category]) (Nat.le_of_ble_eq_true rfl) ?_
  show am_Good mi_152 0 [some (.ref 66), some (.retAddr s), some (.retAddr t), some (.retAddr wh), none] [] (ms h w f b) _
  have z0 : Z 0 ≤ 4 := vZ 0 (by decide)
  have z1 : Z 1 ≤ 9 := vZ 1 (by decide)
  have z2 : Z 2 ≤ 6 := vZ 2 (by decide)
  have z3 : Z 3 ≤ 4 := vZ 3 (by decide)
  refine g_aload_n (i := 0) dd_152_0 rfl ?_
  refine g_iload_n (i := 1) dd_152_1 rfl ?_
  refine g_virtual (M' := mi_153) (n := 1) (ci := 12) (b := 66) (as := [.retAddr s]) (st := []) (r1 := (some (.retAddr 1), (ms h w f b))) w_1184 w_1186 ps_153 ⟨lk_153.1, lk_153.2.1, lk_153.2.2, by decide, by decide⟩ rfl ((ms_o hH rfl).trans q66) rfl (by simp [Value.category]) dd_152_2 (msm_1 ((ms_o hH rfl).trans q66) f2 hz0 (by omega) h1) ?_
  show am_Good mi_152 5 [some (.ref 66), some (.retAddr s), some (.retAddr t), some (.retAddr wh), none] [.retAddr 1] (ms h w f b) _
  refine g_if_eq_f (t := 25) dd_152_5 (by decide) (by decide) ?_
  refine g_aload_n (i := 0) dd_152_8 rfl ?_
  refine g_iload_n (i := 2) dd_152_9 rfl ?_
  refine g_virtual (M' := mi_154) (n := 1) (ci := 12) (b := 66) (as := [.retAddr t]) (st := []) (r1 := (some (.retAddr 1), (ms h w f b))) w_1188 w_1190 ps_154 ⟨lk_154.1, lk_154.2.1, lk_154.2.2, by decide, by decide⟩ rfl ((ms_o hH rfl).trans q66) rfl (by simp [Value.category]) dd_152_10 (mmm_1 ((ms_o hH rfl).trans q66) f0 hm0 hm1 h2) ?_
  show am_Good mi_152 13 [some (.ref 66), some (.retAddr s), some (.retAddr t), some (.retAddr wh), none] [.retAddr 1] (ms h w f b) _
  refine g_if_eq_f (t := 25) dd_152_13 (by decide) (by decide) ?_
  refine g_iload_n (i := 3) dd_152_16 rfl ?_
  refine g_iconst dd_152_17 ic_0 ?_
  refine g_iconst dd_152_18 ic_2 ?_
  refine g_static (M' := mi_133) (n := 3) (as := [.retAddr wh, .retAddr 0, .retAddr 2]) (st := []) (r1 := (some (.retAddr 1), (ms h w f b))) w_1106 w_1107 ⟨lk_133.1, lk_133.2.1, lk_133.2.2, by decide, by decide⟩ rfl (by simp [Value.category]) dd_152_19 (rin1 (by decide) ⟨Nat.zero_le _, h3⟩ (by decide)) ?_
  show am_Good mi_152 22 [some (.ref 66), some (.retAddr s), some (.retAddr t), some (.retAddr wh), none] [.retAddr 1] (ms h w f b) _
  refine g_if_ne_t (t := 27) dd_152_22 (by decide) (by decide) ?_
  refine g_aload_n (i := 0) dd_152_27 rfl ?_
  refine g_iconst dd_152_28 ic_0 ?_
  refine g_bipush dd_152_29 bi_m4 ?_
  refine g_virtual (M' := mi_155) (n := 2) (ci := 12) (b := 66) (as := [.retAddr 0, .retAddr 4294967292]) (st := []) (r1 := (none, (ms h (lcW Z R 0 4294967292 w b) (lcF Z R 0 4294967292 f b) (lcB Z R 0 b)))) w_1192 w_1194 ps_155 ⟨lk_155.1, lk_155.2.1, lk_155.2.2, by decide, by decide⟩ rfl ((ms_o hH rfl).trans q66) rfl (by simp [Value.category]) dd_152_31 (lc_m hH q66 f2 f3 f4 f5 f6 f7 f8 f9 f32 f33 f34 a67 a68 a69 a70 vZ hB (by decide) (by decide)) ?_
  show am_Good mi_152 34 [some (.ref 66), some (.retAddr s), some (.retAddr t), some (.retAddr wh), none] [] (ms h (lcW Z R 0 4294967292 w b) (lcF Z R 0 4294967292 f b) (lcB Z R 0 b)) _
  refine g_bipush dd_152_34 bi_64 ?_
  refine g_iload_n (i := 1) dd_152_36 rfl ?_
  refine e_imul (v := 64 * s) dd_152_37 (by omega) ?_
  refine g_iload_n (i := 2) dd_152_38 rfl ?_
  refine e_iadd (v := (64 * s) + t) dd_152_39 (by omega) ?_
  refine g_istore dd_152_40 (am_nlb_ok rfl) (by decide) ?_
  refine g_iload_n (i := 3) dd_152_42 rfl ?_
  refine g_if_ne_t (t := 56) dd_152_43 (by decide) (tk_ne_t (by omega)) ?_
  refine g_iload_n (i := 3) dd_152_56 rfl ?_
  refine g_iconst dd_152_57 ic_1 ?_
  refine g_icmp_ne_f (t := 71) dd_152_58 (by decide) (tk_ne_f (by omega)) ?_
  refine g_aload_n (i := 0) dd_152_61 rfl ?_
  refine g_getfield (k := 33) am_ck12 (by decide) (Or.inl w_968) dd_152_62 ((ms_o hH rfl).trans q66) f33 ?_
  refine g_iload dd_152_65 rfl ?_
  refine g_iaload dd_152_67 (ms_g82 hH) (by omega) (by decide) ?_
  have hl_1 := am_ag_lt (lcF Z R 0 4294967292 f b) ((64 * s) + t)
  refine g_goto (t := 86) dd_152_68 (by decide) ?_
  exact g_ireturn rfl dd_152_86
theorem mm_b1 {h : am_H} {vs : List Value} {Z R : Nat → Nat} {w f b mi : Nat} (hH : ms_ok h) (q66 : am_get h 66 = some (.inr (12, vs))) (f2 : vs[2]? = some (.retAddr (Z 0))) (f3 : vs[3]? = some (.ref 67)) (f4 : vs[4]? = some (.retAddr (Z 1))) (f5 : vs[5]? = some (.ref 68)) (f6 : vs[6]? = some (.retAddr (Z 2))) (f7 : vs[7]? = some (.ref 69)) (f8 : vs[8]? = some (.retAddr (Z 3))) (f9 : vs[9]? = some (.ref 70)) (f0 : vs[0]? = some (.retAddr mi)) (f32 : vs[32]? = some (.ref 81)) (f33 : vs[33]? = some (.ref 82)) (f34 : vs[34]? = some (.ref 83)) (a67 : am_get h 67 = some (.inl (0, 4, R 0))) (a68 : am_get h 68 = some (.inl (0, 45, R 1))) (a69 : am_get h 69 = some (.inl (0, 18, R 2))) (a70 : am_get h 70 = some (.inl (0, 16, R 3))) (vZ : ∀ k, k < 6 → Z k ≤ je_z k) (hB : je_B Z R) {s t wh : Nat} (g_s : s < 4294967296) (g_t : t < 4294967296) (g_w : wh < 4294967296) (hz0 : 1 ≤ Z 0) (hm0 : 1 ≤ mi) (hm1 : mi ≤ 60) (h1 : s < Z 0) (h2 : t < mi) (h3 : wh ≤ 2) (h4 : wh = 2) (h5 : am_ag (lcB Z R 0 b) (64 * s + t) ≠ 0) : am_EG mi_152 [.ref 66, .retAddr s, .retAddr t, .retAddr wh] (ms h w f b) (some (.retAddr 1), (ms h (lcW Z R 0 4294967292 w b) (lcF Z R 0 4294967292 f b) (lcB Z R 0 b))) := by
  refine am_enter (n := 1) tk_152.2.1 (by simp [Value.category]) (Nat.le_of_ble_eq_true rfl) ?_
  show am_Good mi_152 0 [some (.ref 66), some (.retAddr s), some (.retAddr t), some (.retAddr wh), none] [] (ms h w f b) _
  have z0 : Z 0 ≤ 4 := vZ 0 (by decide)
  have z1 : Z 1 ≤ 9 := vZ 1 (by decide)
  have z2 : Z 2 ≤ 6 := vZ 2 (by decide)
  have z3 : Z 3 ≤ 4 := vZ 3 (by decide)
  refine g_aload_n (i := 0) dd_152_0 rfl ?_
  refine g_iload_n (i := 1) dd_152_1 rfl ?_
  refine g_virtual (M' := mi_153) (n := 1) (ci := 12) (b := 66) (as := [.retAddr s]) (st := []) (r1 := (some (.retAddr 1), (ms h w f b))) w_1184 w_1186 ps_153 ⟨lk_153.1, lk_153.2.1, lk_153.2.2, by decide, by decide⟩ rfl ((ms_o hH rfl).trans q66) rfl (by simp [Value.category]) dd_152_2 (msm_1 ((ms_o hH rfl).trans q66) f2 hz0 (by omega) h1) ?_
  show am_Good mi_152 5 [some (.ref 66), some (.retAddr s), some (.retAddr t), some (.retAddr wh), none] [.retAddr 1] (ms h w f b) _
  refine g_if_eq_f (t := 25) dd_152_5 (by decide) (by decide) ?_
  refine g_aload_n (i := 0) dd_152_8 rfl ?_
  refine g_iload_n (i := 2) dd_152_9 rfl ?_
  refine g_virtual (M' := mi_154) (n := 1) (ci := 12) (b := 66) (as := [.retAddr t]) (st := []) (r1 := (some (.retAddr 1), (ms h w f b))) w_1188 w_1190 ps_154 ⟨lk_154.1, lk_154.2.1, lk_154.2.2, by decide, by decide⟩ rfl ((ms_o hH rfl).trans q66) rfl (by simp [Value.category]) dd_152_10 (mmm_1 ((ms_o hH rfl).trans q66) f0 hm0 hm1 h2) ?_
  show am_Good mi_152 13 [some (.ref 66), some (.retAddr s), some (.retAddr t), some (.retAddr wh), none] [.retAddr 1] (ms h w f b) _
  refine g_if_eq_f (t := 25) dd_152_13 (by decide) (by decide) ?_
  refine g_iload_n (i := 3) dd_152_16 rfl ?_
  refine g_iconst dd_152_17 ic_0 ?_
  refine g_iconst dd_152_18 ic_2 ?_
  refine g_static (M' := mi_133) (n := 3) (as := [.retAddr wh, .retAddr 0, .retAddr 2]) (st := []) (r1 := (some (.retAddr 1), (ms h w f b))) w_1106 w_1107 ⟨lk_133.1, lk_133.2.1, lk_133.2.2, by decide, by decide⟩ rfl (by simp [Value.category]) dd_152_19 (rin1 (by decide) ⟨Nat.zero_le _, h3⟩ (by decide)) ?_
  show am_Good mi_152 22 [some (.ref 66), some (.retAddr s), some (.retAddr t), some (.retAddr wh), none] [.retAddr 1] (ms h w f b) _
  refine g_if_ne_t (t := 27) dd_152_22 (by decide) (by decide) ?_
  refine g_aload_n (i := 0) dd_152_27 rfl ?_
  refine g_iconst dd_152_28 ic_0 ?_
  refine g_bipush dd_152_29 bi_m4 ?_
  refine g_virtual (M' := mi_155) (n := 2) (ci := 12) (b := 66) (as := [.retAddr 0, .retAddr 4294967292]) (st := []) (r1 := (none, (ms h (lcW Z R 0 4294967292 w b) (lcF Z R 0 4294967292 f b) (lcB Z R 0 b)))) w_1192 w_1194 ps_155 ⟨lk_155.1, lk_155.2.1, lk_155.2.2, by decide, by decide⟩ rfl ((ms_o hH rfl).trans q66) rfl (by simp [Value.category]) dd_152_31 (lc_m hH q66 f2 f3 f4 f5 f6 f7 f8 f9 f32 f33 f34 a67 a68 a69 a70 vZ hB (by decide) (by decide)) ?_
  show am_Good mi_152 34 [some (.ref 66), some (.retAddr s), some (.retAddr t), some (.retAddr wh), none] [] (ms h (lcW Z R 0 4294967292 w b) (lcF Z R 0 4294967292 f b) (lcB Z R 0 b)) _
  refine g_bipush dd_152_34 bi_64 ?_
  refine g_iload_n (i := 1) dd_152_36 rfl ?_
  refine e_imul (v := 64 * s) dd_152_37 (by omega) ?_
  refine g_iload_n (i := 2) dd_152_38 rfl ?_
  refine e_iadd (v := (64 * s) + t) dd_152_39 (by omega) ?_
  refine g_istore dd_152_40 (am_nlb_ok rfl) (by decide) ?_
  refine g_iload_n (i := 3) dd_152_42 rfl ?_
  refine g_if_ne_t (t := 56) dd_152_43 (by decide) (tk_ne_t (by omega)) ?_
  refine g_iload_n (i := 3) dd_152_56 rfl ?_
  refine g_iconst dd_152_57 ic_1 ?_
  refine g_icmp_ne_t (t := 71) dd_152_58 (by decide) (tk_ne_t (by omega)) ?_
  refine g_aload_n (i := 0) dd_152_71 rfl ?_
  refine g_getfield (k := 34) am_ck12 (by decide) (Or.inl w_969) dd_152_72 ((ms_o hH rfl).trans q66) f34 ?_
  refine g_iload dd_152_75 rfl ?_
  refine g_zaload dd_152_77 (ms_g83 hH) (by omega) (by decide) ?_
  have hl_1 := am_ag_lt (lcB Z R 0 b) ((64 * s) + t)
  refine g_if_eq_f (t := 85) dd_152_78 (by decide) (tk_eq_f (by omega)) ?_
  refine g_iconst dd_152_81 ic_1 ?_
  refine g_goto (t := 86) dd_152_82 (by decide) ?_
  exact g_ireturn rfl dd_152_86
theorem mm_b0 {h : am_H} {vs : List Value} {Z R : Nat → Nat} {w f b mi : Nat} (hH : ms_ok h) (q66 : am_get h 66 = some (.inr (12, vs))) (f2 : vs[2]? = some (.retAddr (Z 0))) (f3 : vs[3]? = some (.ref 67)) (f4 : vs[4]? = some (.retAddr (Z 1))) (f5 : vs[5]? = some (.ref 68)) (f6 : vs[6]? = some (.retAddr (Z 2))) (f7 : vs[7]? = some (.ref 69)) (f8 : vs[8]? = some (.retAddr (Z 3))) (f9 : vs[9]? = some (.ref 70)) (f0 : vs[0]? = some (.retAddr mi)) (f32 : vs[32]? = some (.ref 81)) (f33 : vs[33]? = some (.ref 82)) (f34 : vs[34]? = some (.ref 83)) (a67 : am_get h 67 = some (.inl (0, 4, R 0))) (a68 : am_get h 68 = some (.inl (0, 45, R 1))) (a69 : am_get h 69 = some (.inl (0, 18, R 2))) (a70 : am_get h 70 = some (.inl (0, 16, R 3))) (vZ : ∀ k, k < 6 → Z k ≤ je_z k) (hB : je_B Z R) {s t wh : Nat} (g_s : s < 4294967296) (g_t : t < 4294967296) (g_w : wh < 4294967296) (hz0 : 1 ≤ Z 0) (hm0 : 1 ≤ mi) (hm1 : mi ≤ 60) (h1 : s < Z 0) (h2 : t < mi) (h3 : wh ≤ 2) (h4 : wh = 2) (h5 : am_ag (lcB Z R 0 b) (64 * s + t) = 0) : am_EG mi_152 [.ref 66, .retAddr s, .retAddr t, .retAddr wh] (ms h w f b) (some (.retAddr 0), (ms h (lcW Z R 0 4294967292 w b) (lcF Z R 0 4294967292 f b) (lcB Z R 0 b))) := by
  refine am_enter (n := 1) tk_152.2.1 (by simp [Value.category]) (Nat.le_of_ble_eq_true rfl) ?_
  show am_Good mi_152 0 [some (.ref 66), some (.retAddr s), some (.retAddr t), some (.retAddr wh), none] [] (ms h w f b) _
  have z0 : Z 0 ≤ 4 := vZ 0 (by decide)
  have z1 : Z 1 ≤ 9 := vZ 1 (by decide)
  have z2 : Z 2 ≤ 6 := vZ 2 (by decide)
  have z3 : Z 3 ≤ 4 := vZ 3 (by decide)
  refine g_aload_n (i := 0) dd_152_0 rfl ?_
  refine g_iload_n (i := 1) dd_152_1 rfl ?_
  refine g_virtual (M' := mi_153) (n := 1) (ci := 12) (b := 66) (as := [.retAddr s]) (st := []) (r1 := (some (.retAddr 1), (ms h w f b))) w_1184 w_1186 ps_153 ⟨lk_153.1, lk_153.2.1, lk_153.2.2, by decide, by decide⟩ rfl ((ms_o hH rfl).trans q66) rfl (by simp [Value.category]) dd_152_2 (msm_1 ((ms_o hH rfl).trans q66) f2 hz0 (by omega) h1) ?_
  show am_Good mi_152 5 [some (.ref 66), some (.retAddr s), some (.retAddr t), some (.retAddr wh), none] [.retAddr 1] (ms h w f b) _
  refine g_if_eq_f (t := 25) dd_152_5 (by decide) (by decide) ?_
  refine g_aload_n (i := 0) dd_152_8 rfl ?_
  refine g_iload_n (i := 2) dd_152_9 rfl ?_
  refine g_virtual (M' := mi_154) (n := 1) (ci := 12) (b := 66) (as := [.retAddr t]) (st := []) (r1 := (some (.retAddr 1), (ms h w f b))) w_1188 w_1190 ps_154 ⟨lk_154.1, lk_154.2.1, lk_154.2.2, by decide, by decide⟩ rfl ((ms_o hH rfl).trans q66) rfl (by simp [Value.category]) dd_152_10 (mmm_1 ((ms_o hH rfl).trans q66) f0 hm0 hm1 h2) ?_
  show am_Good mi_152 13 [some (.ref 66), some (.retAddr s), some (.retAddr t), some (.retAddr wh), none] [.retAddr 1] (ms h w f b) _
  refine g_if_eq_f (t := 25) dd_152_13 (by decide) (by decide) ?_
  refine g_iload_n (i := 3) dd_152_16 rfl ?_
  refine g_iconst dd_152_17 ic_0 ?_
  refine g_iconst dd_152_18 ic_2 ?_
  refine g_static (M' := mi_133) (n := 3) (as := [.retAddr wh, .retAddr 0, .retAddr 2]) (st := []) (r1 := (some (.retAddr 1), (ms h w f b))) w_1106 w_1107 ⟨lk_133.1, lk_133.2.1, lk_133.2.2, by decide, by decide⟩ rfl (by simp [Value.category]) dd_152_19 (rin1 (by decide) ⟨Nat.zero_le _, h3⟩ (by decide)) ?_
  show am_Good mi_152 22 [some (.ref 66), some (.retAddr s), some (.retAddr t), some (.retAddr wh), none] [.retAddr 1] (ms h w f b) _
  refine g_if_ne_t (t := 27) dd_152_22 (by decide) (by decide) ?_
  refine g_aload_n (i := 0) dd_152_27 rfl ?_
  refine g_iconst dd_152_28 ic_0 ?_
  refine g_bipush dd_152_29 bi_m4 ?_
  refine g_virtual (M' := mi_155) (n := 2) (ci := 12) (b := 66) (as := [.retAddr 0, .retAddr 4294967292]) (st := []) (r1 := (none, (ms h (lcW Z R 0 4294967292 w b) (lcF Z R 0 4294967292 f b) (lcB Z R 0 b)))) w_1192 w_1194 ps_155 ⟨lk_155.1, lk_155.2.1, lk_155.2.2, by decide, by decide⟩ rfl ((ms_o hH rfl).trans q66) rfl (by simp [Value.category]) dd_152_31 (lc_m hH q66 f2 f3 f4 f5 f6 f7 f8 f9 f32 f33 f34 a67 a68 a69 a70 vZ hB (by decide) (by decide)) ?_
  show am_Good mi_152 34 [some (.ref 66), some (.retAddr s), some (.retAddr t), some (.retAddr wh), none] [] (ms h (lcW Z R 0 4294967292 w b) (lcF Z R 0 4294967292 f b) (lcB Z R 0 b)) _
  refine g_bipush dd_152_34 bi_64 ?_
  refine g_iload_n (i := 1) dd_152_36 rfl ?_
  refine e_imul (v := 64 * s) dd_152_37 (by omega) ?_
  refine g_iload_n (i := 2) dd_152_38 rfl ?_
  refine e_iadd (v := (64 * s) + t) dd_152_39 (by omega) ?_
  refine g_istore dd_152_40 (am_nlb_ok rfl) (by decide) ?_
  refine g_iload_n (i := 3) dd_152_42 rfl ?_
  refine g_if_ne_t (t := 56) dd_152_43 (by decide) (tk_ne_t (by omega)) ?_
  refine g_iload_n (i := 3) dd_152_56 rfl ?_
  refine g_iconst dd_152_57 ic_1 ?_
  refine g_icmp_ne_t (t := 71) dd_152_58 (by decide) (tk_ne_t (by omega)) ?_
  refine g_aload_n (i := 0) dd_152_71 rfl ?_
  refine g_getfield (k := 34) am_ck12 (by decide) (Or.inl w_969) dd_152_72 ((ms_o hH rfl).trans q66) f34 ?_
  refine g_iload dd_152_75 rfl ?_
  refine g_zaload dd_152_77 (ms_g83 hH) (by omega) (by decide) ?_
  have hl_1 := am_ag_lt (lcB Z R 0 b) ((64 * s) + t)
  refine g_if_eq_t (t := 85) dd_152_78 (by decide) (tk_eq_t (by omega)) ?_
  refine g_iconst dd_152_85 ic_0 ?_
  exact g_ireturn rfl dd_152_86
/-- the reference's object -/
theorem je_mo {h : am_H} {E mi go : Nat} {Z X Y : Nat → Nat} (hm : ax_I sbm h) (hA : je_A h E mi go Z X Y) : ∃ vs, am_get h 66 = some (.inr (12, vs)) ∧ vs.length = 55 ∧ (∀ (k b : Nat), ax_fv h 66 k = some (.ref b) → vs[k]? = some (.ref b)) ∧ vs[0]? = some (.retAddr mi) ∧ vs[1]? = some (.retAddr go) ∧ (∀ k, k < 6 → vs[2 + 2 * k]? = some (.retAddr (Z k)) ∧ am_get h (67 + k) = some (.inl (0, je_l k, Y k))) ∧ (∀ k, k < 6 → vs[3 + 2 * k]? = some (.ref (67 + k))) ∧ vs[32]? = some (.ref 81) ∧ vs[33]? = some (.ref 82) ∧ vs[34]? = some (.ref 83) ∧ vs[35]? = some (.ref 84) ∧ vs[46]? = some (.ref 88) := by
  obtain ⟨-, -, d2, -, -⟩ := hA
  obtain ⟨vs, q66, hl, f, -⟩ := jy_obj hm (a := 66) rfl
  have fv : ∀ (k : Nat) (v : Value), ax_fv h 66 k = some v → vs[k]? = some v := fun k v e => by
    unfold ax_fv at e
    rw [q66] at e
    exact e
  refine ⟨vs, q66, hl, fun k b e => fv k _ e, fv 0 _ d2.1, fv 1 _ d2.2.1, fun k hk => ⟨fv _ _ (d2.2.2 k hk).1, (d2.2.2 k hk).2⟩, fun k hk => ?_, f 32 _ _ rfl, f 33 _ _ rfl, f 34 _ _ rfl, f 35 _ _ rfl, f 46 _ _ rfl⟩
  match k, hk with
  | 0, _ => exact f 3 _ _ rfl
  | 1, _ => exact f 5 _ _ rfl
  | 2, _ => exact f 7 _ _ rfl
  | 3, _ => exact f 9 _ _ rfl
  | 4, _ => exact f 11 _ _ rfl
  | 5, _ => exact f 13 _ _ rfl
  | k + 6, hk => exact absurd hk (by omega)
/-- the ranges of the reference's screens -/
theorem ok_fact {x w : Nat} (h : ∀ i, i < 256 → am_ag x i ≤ 7 ∨ am_ag x i = 4294967292) : ax_ok (.inl (0, 256, w, [[(0, 7), (4294967292, 4294967292)]])) (.inl (0, 256, x)) := by
  refine ⟨rfl, rfl, fun i hi => ⟨[(0, 7), (4294967292, 4294967292)], ?_, ?_⟩⟩
  · show [[(0, 7), (4294967292, 4294967292)]][i % 1]? = _
    rw [Nat.mod_one]
    rfl
  · rcases h i hi with q | q
    · exact ⟨by omega, (0, 7), by simp, Nat.zero_le _, q⟩
    · rw [q]
      exact ⟨by decide, (4294967292, 4294967292), by simp, Nat.le_refl _, Nat.le_refl _⟩
theorem ok_bool {x w : Nat} (h : ∀ i, i < 256 → am_ag x i ≤ 1) : ax_ok (.inl (2, 256, w, [[(0, 1)]])) (.inl (2, 256, x)) := by
  refine ⟨rfl, rfl, fun i hi => ⟨[(0, 1)], ?_, ?_⟩⟩
  · show [[(0, 1)]][i % 1]? = _
    rw [Nat.mod_one]
    rfl
  · have := h i hi
    exact ax_in_1 (by omega) (Nat.zero_le _) this
theorem ms_I {h : am_H} (hm : ax_I sbm h) (hH : ms_ok h) {w f b : Nat} (hw : ∀ i, i < 256 → am_ag w i ≤ 9) (hf : ∀ i, i < 256 → am_ag f i ≤ 7 ∨ am_ag f i = 4294967292) (hb : ∀ i, i < 256 → am_ag b i ≤ 1) : ax_I sbm (ms h w f b) := by
  have k0 := hH
  unfold ms
  refine ax_I_ups hm ?_ ⟨ok_at rfl (ok_row1 (by decide) hw), ok_at rfl (ok_fact hf), ok_at rfl (ok_bool hb), trivial⟩
  exact k0
theorem ms_w9 {Z R : Nat → Nat} (hB : je_B Z R) (h9 : ∀ i, i < 4 → am_ag (R 0) i ≤ 9) (come wo w b : Nat) : ∀ i, i < 256 → am_ag (lcW Z R come wo w b) i ≤ 9 := by
  unfold lcW
  exact lb_P (P := fun n => n ≤ 9) (lcw_P (P := fun n => n ≤ 9) h9 (fun i hi => hB 1 (by decide) i hi 3 (by decide))) (by decide)
theorem ms_f7 {Z R : Nat → Nat} (hB : je_B Z R) (come wo f b : Nat) : ∀ i, i < 256 → am_ag (lcF Z R come wo f b) i ≤ 7 ∨ am_ag (lcF Z R come wo f b) i = 4294967292 := by
  unfold lcF
  refine lb_P (P := fun n => n ≤ 7 ∨ n = 4294967292) (lcf_P (P := fun n => n ≤ 7 ∨ n = 4294967292) (Or.inr rfl) (fun i hi => ?_)) (Or.inr rfl)
  have q : am_ag (R 1) (5 * i + 4) ≤ 8 := hB 1 (by decide) i hi 4 (by decide)
  unfold lc_8
  by_cases e : am_ag (R 1) (5 * i + 4) = 8
  · rw [if_pos e]; exact Or.inr rfl
  · rw [if_neg e]; exact Or.inl (by omega)
theorem ms_b1 (Z R : Nat → Nat) (come b : Nat) : ∀ i, i < 256 → am_ag (lcB Z R come b) i ≤ 1 := lcB_P (P := fun n => n ≤ 1) (by decide) (by decide)
theorem ms_okh {h : am_H} (hm : ax_I sbm h) : ms_ok h ∧ ms h (rowv h 81) (rowv h 82) (rowv h 83) = h := by
  have g1 : am_get h 81 = some (.inl (0, 256, rowv h 81)) := (row_in hm rfl).1
  have g2 : am_get h 82 = some (.inl (0, 256, rowv h 82)) := (row_in hm rfl).1
  have g3 : am_get h 83 = some (.inl (2, 256, rowv h 83)) := (row_in hm rfl).1
  refine ⟨⟨⟨_, g1⟩, ⟨_, g2⟩, ⟨_, g3⟩, trivial⟩, ?_⟩
  unfold ms
  exact am_ups_00 ⟨g1, g2, g3, trivial⟩
/-- behind a case laid between calls -/
theorem ms_Jv {h : am_H} (hJ : Jv h) {w f b : Nat} (hw : ∀ i, i < 256 → am_ag w i ≤ 9) (hf : ∀ i, i < 256 → am_ag f i ≤ 7 ∨ am_ag f i = 4294967292) (hb : ∀ i, i < 256 → am_ag b i ≤ 1) : Jv (ms h w f b) := by
  obtain ⟨hH, -⟩ := ms_okh hJ.1.2
  refine Jv_m hJ (fun a ha => ms_o hH (am_lk_ct (ks := [81, 82, 83]) (by simp; omega))) (ms_I hJ.1.2 hH hw hf hb) (fun a ha => ?_) (fun k _ => ax_fv_get (ms_o hH rfl) k)
  simp only [List.mem_cons, List.not_mem_nil, or_false] at ha
  rcases ha with rfl | rfl | rfl | rfl | rfl | rfl | rfl | rfl <;> exact ms_o hH rfl
theorem je_b9 {Z Y : Nat → Nat} {mi go : Nat} {X : Nat → Nat} (hP : je_P mi go Z X Y) : ∀ i, i < 4 → am_ag (Y 0) i ≤ 9 := fun i hi => hP.2.2.1 0 (by decide) i hi
theorem jm_fin {h h2 : am_H} (hJ : Jv h) (hJ2 : Jv h2) (hz : h2.1 = h.1 ∧ h2.2.1 = h.2.1) {jx jm v w : Nat} {as : List Value} (e1 : am_EG (am_mi jx) (.ref 0 :: as) h (some (.retAddr v), h)) (e2 : am_EG (am_mi jm) (.ref 66 :: as) h (some (.retAddr w), h2)) (e : v = w) : ∃ v h1 w h2, am_EG (am_mi jx) (.ref 0 :: as) h (some (.retAddr v), h1) ∧ am_EG (am_mi jm) (.ref 66 :: as) h1 (some (.retAddr w), h2) ∧ (true = true → v = w) ∧ Jv h2 ∧ (∃ fs, am_get h 0 = some (.inr (11, fs))) ∧ (∃ fs, am_get h1 66 = some (.inr (12, fs))) ∧ (h1.1 = h.1 ∧ h1.2.1 = h.2.1) ∧ h2.1 = h1.1 ∧ h2.2.1 = h1.2.1 := ⟨v, h, w, h2, e1, e2, fun _ => e, hJ2, jv_g0 hJ.1, jv_g66 hJ.1, ⟨rfl, rfl⟩, hz⟩
theorem jb_minute (x y z : Nat) (hx : x < 4294967296) (hy : y < 4294967296) (hz : z < 4294967296) : am_B2 Jv true 50 152 [.retAddr x, .retAddr y, .retAddr z] := by
  intro h hJ
  obtain ⟨E, mi, go, Z, X, Y, hA⟩ := je_ex hJ
  obtain ⟨v0, q0, x3, -, x6, -, -, -, -, qE, r0, -, r5, -, qS, -, -⟩ := je_xo hA
  obtain ⟨vs, q66, -, -, m0, m1, mz, mr, f32, f33, f34, -, -⟩ := je_mo hJ.1.2 hA
  obtain ⟨-, -, -, hP, -, ⟨W, F, B, s1, s2, s3, s4⟩, -⟩ := hA
  obtain ⟨hH, own⟩ := ms_okh hJ.1.2
  have p1 := hP.1
  have vZ := hP.2.1
  have hBY : je_B Z Y := je_bY vZ hP.2.2.1
  have z0 : Z 0 ≤ 4 := vZ 0 (by decide)
  have z5 : Z 5 ≤ 4 := vZ 5 (by decide)
  have fz := fun k hk => (mz k hk).1
  have az := fun k hk => (mz k hk).2
  have back : ∀ {r : Option Value} {h' : am_H}, am_EG mi_152 [.ref 66, .retAddr x, .retAddr y, .retAddr z] (ms h (rowv h 81) (rowv h 82) (rowv h 83)) (r, h') → am_EG mi_152 [.ref 66, .retAddr x, .retAddr y, .retAddr z] h (r, h') := fun {r} {h'} e => Eq.mp (congrArg (fun g => am_EG mi_152 [.ref 66, .retAddr x, .retAddr y, .retAddr z] g (r, h')) own) e
  have back2 : ∀ {r : Option Value}, am_EG mi_152 [.ref 66, .retAddr x, .retAddr y, .retAddr z] (ms h (rowv h 81) (rowv h 82) (rowv h 83)) (r, ms h (rowv h 81) (rowv h 82) (rowv h 83)) → am_EG mi_152 [.ref 66, .retAddr x, .retAddr y, .retAddr z] h (r, h) := fun {r} e => Eq.mp (congrArg (fun g => am_EG mi_152 [.ref 66, .retAddr x, .retAddr y, .retAddr z] g (r, g)) own) e
  have J2 : Jv (ms h (lcW Z Y 0 4294967292 (rowv h 81) (rowv h 83)) (lcF Z Y 0 4294967292 (rowv h 82) (rowv h 83)) (lcB Z Y 0 (rowv h 83))) := ms_Jv hJ (ms_w9 hBY (je_b9 hP) _ _ _ _) (ms_f7 hBY _ _ _ _) (ms_b1 _ _ _ _)
  have sz : (ms h (lcW Z Y 0 4294967292 (rowv h 81) (rowv h 83)) (lcF Z Y 0 4294967292 (rowv h 82) (rowv h 83)) (lcB Z Y 0 (rowv h 83))).1 = h.1 ∧ (ms h (lcW Z Y 0 4294967292 (rowv h 81) (rowv h 83)) (lcF Z Y 0 4294967292 (rowv h 82) (rowv h 83)) (lcB Z Y 0 (rowv h 83))).2.1 = h.2.1 := by unfold ms; exact am_ups_1 _
  by_cases h1 : x < Z 0
  case neg => exact je_fin hJ (mx_0 q0 x3 qE rfl rfl rfl rfl r0 rfl r5 rfl p1.2.1 z0 z5 x6 qS s1 s2 s3 hx hy hz h1) (back2 (mm_0 hH q66 (fz 0 (by decide)) (mr 0 (by decide)) (fz 1 (by decide)) (mr 1 (by decide)) (fz 2 (by decide)) (mr 2 (by decide)) (fz 3 (by decide)) (mr 3 (by decide)) m0 f32 f33 f34 (az 0 (by decide)) (az 1 (by decide)) (az 2 (by decide)) (az 3 (by decide)) vZ hBY hx hy hz p1.2.2.2 p1.1 p1.2.1 h1))
  by_cases h2 : y < mi
  case neg => exact je_fin hJ (mx_1 q0 x3 qE rfl rfl rfl rfl r0 rfl r5 rfl p1.2.1 z0 z5 x6 qS s1 s2 s3 hx hy hz h1 h2) (back2 (mm_1 hH q66 (fz 0 (by decide)) (mr 0 (by decide)) (fz 1 (by decide)) (mr 1 (by decide)) (fz 2 (by decide)) (mr 2 (by decide)) (fz 3 (by decide)) (mr 3 (by decide)) m0 f32 f33 f34 (az 0 (by decide)) (az 1 (by decide)) (az 2 (by decide)) (az 3 (by decide)) vZ hBY hx hy hz p1.2.2.2 p1.1 p1.2.1 h1 h2))
  by_cases h3 : z ≤ 2
  case neg => exact je_fin hJ (mx_2 q0 x3 qE rfl rfl rfl rfl r0 rfl r5 rfl p1.2.1 z0 z5 x6 qS s1 s2 s3 hx hy hz h1 h2 h3) (back2 (mm_2 hH q66 (fz 0 (by decide)) (mr 0 (by decide)) (fz 1 (by decide)) (mr 1 (by decide)) (fz 2 (by decide)) (mr 2 (by decide)) (fz 3 (by decide)) (mr 3 (by decide)) m0 f32 f33 f34 (az 0 (by decide)) (az 1 (by decide)) (az 2 (by decide)) (az 3 (by decide)) vZ hBY hx hy hz p1.2.2.2 p1.1 p1.2.1 h1 h2 h3))
  obtain ⟨aW, aF, aB⟩ := s4 x h1 y (by omega)
  have bd := je_B_bd hBY
  have cW := lcW_ag (come := 0) (wo := 4294967292) (w := rowv h 81) (b := rowv h 83) bd (s := x) (t := y) (by omega) (by omega)
  have cF := lcF_ag (come := 0) (wo := 4294967292) (f := rowv h 82) (b := rowv h 83) bd (s := x) (t := y) (by omega) (by omega)
  have cB := lcB_ag (come := 0) (b := rowv h 83) bd (s := x) (t := y) (by omega) (by omega)
  rcases (show z = 0 ∨ z = 1 ∨ z = 2 by omega) with q | q | q
  · exact jm_fin hJ J2 sz (mx_w q0 x3 qE rfl rfl rfl rfl r0 rfl r5 rfl p1.2.1 z0 z5 x6 qS s1 s2 s3 hx hy hz h1 h2 q) (back (mm_w hH q66 (fz 0 (by decide)) (mr 0 (by decide)) (fz 1 (by decide)) (mr 1 (by decide)) (fz 2 (by decide)) (mr 2 (by decide)) (fz 3 (by decide)) (mr 3 (by decide)) m0 f32 f33 f34 (az 0 (by decide)) (az 1 (by decide)) (az 2 (by decide)) (az 3 (by decide)) vZ hBY hx hy hz p1.2.2.2 p1.1 p1.2.1 h1 h2 h3 q)) (aW.trans cW.symm)
  · have em := back (mm_f hH q66 (fz 0 (by decide)) (mr 0 (by decide)) (fz 1 (by decide)) (mr 1 (by decide)) (fz 2 (by decide)) (mr 2 (by decide)) (fz 3 (by decide)) (mr 3 (by decide)) m0 f32 f33 f34 (az 0 (by decide)) (az 1 (by decide)) (az 2 (by decide)) (az 3 (by decide)) vZ hBY hx hy hz p1.2.2.2 p1.1 p1.2.1 h1 h2 h3 q)
    rw [cF, ← aF] at em
    unfold lc_8 at em
    by_cases h8 : am_ag F (60 * x + y) = 8
    · rw [if_pos h8] at em
      exact jm_fin hJ J2 sz (mx_f8 q0 x3 qE rfl rfl rfl rfl r0 rfl r5 rfl p1.2.1 z0 z5 x6 qS s1 s2 s3 hx hy hz h1 h2 q h8) em rfl
    · rw [if_neg h8] at em
      exact jm_fin hJ J2 sz (mx_f7 q0 x3 qE rfl rfl rfl rfl r0 rfl r5 rfl p1.2.1 z0 z5 x6 qS s1 s2 s3 hx hy hz h1 h2 q h8) em rfl
  · by_cases hb : sc_B Z Y 0 x y = true
    · rw [if_pos hb] at aB cB
      exact jm_fin hJ J2 sz (mx_b1 q0 x3 qE rfl rfl rfl rfl r0 rfl r5 rfl p1.2.1 z0 z5 x6 qS s1 s2 s3 hx hy hz h1 h2 q (by rw [aB]; decide)) (back (mm_b1 hH q66 (fz 0 (by decide)) (mr 0 (by decide)) (fz 1 (by decide)) (mr 1 (by decide)) (fz 2 (by decide)) (mr 2 (by decide)) (fz 3 (by decide)) (mr 3 (by decide)) m0 f32 f33 f34 (az 0 (by decide)) (az 1 (by decide)) (az 2 (by decide)) (az 3 (by decide)) vZ hBY hx hy hz p1.2.2.2 p1.1 p1.2.1 h1 h2 h3 q (by rw [cB]; decide))) rfl
    · rw [if_neg hb] at aB cB
      exact jm_fin hJ J2 sz (mx_b0 q0 x3 qE rfl rfl rfl rfl r0 rfl r5 rfl p1.2.1 z0 z5 x6 qS s1 s2 s3 hx hy hz h1 h2 q aB) (back (mm_b0 hH q66 (fz 0 (by decide)) (mr 0 (by decide)) (fz 1 (by decide)) (mr 1 (by decide)) (fz 2 (by decide)) (mr 2 (by decide)) (fz 3 (by decide)) (mr 3 (by decide)) m0 f32 f33 f34 (az 0 (by decide)) (az 1 (by decide)) (az 2 (by decide)) (az 3 (by decide)) vZ hBY hx hy hz p1.2.2.2 p1.1 p1.2.1 h1 h2 h3 q cB)) rfl
