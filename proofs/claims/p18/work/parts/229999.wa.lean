/-! ===== watcher: both ===== -/
theorem kg_kof {h : am_H} {E a5 d5 z5 y5 : Nat} {vE : List Value} (qE : am_get h E = some (.inr (1, vE))) (e5 : vE[5]? = some (.ref a5)) (r5 : am_get h a5 = some (.inr (8, [.ref d5, .retAddr 2, .retAddr 4, .retAddr z5]))) (w5 : am_get h d5 = some (.inl (0, 45, y5))) (hz5 : z5 ≤ 4) {i : Nat} (hi : i < z5) : am_EG mi_69 [.ref E, .retAddr i] h (some (.retAddr (am_ag y5 (2 * i + 0))), h) := by
  refine am_enter (n := 0) tk_69.2.1 (by simp [Value.category]) (Nat.le_of_ble_eq_true rfl) ?_
  show am_Good mi_69 0 [some (.ref E), some (.retAddr i)] [] h _
  refine g_aload_n (i := 0) dd_69_0 rfl ?_
  refine g_getfield (k := 5) am_ck1 (by decide) (Or.inl w_101) dd_69_1 qE e5 ?_
  refine g_iload_n (i := 1) dd_69_4 rfl ?_
  refine g_iconst dd_69_5 ic_0 ?_
  refine g_virtual (M' := mi_31) (n := 2) (ci := 8) (b := a5) (as := [.retAddr i, .retAddr 0]) (st := []) (r1 := (some (.retAddr (am_ag y5 (2 * i + 0))), h)) w_662 w_450 w_451 ⟨lk_31.1, lk_31.2.1, lk_31.2.2, by decide, by decide⟩ rfl r5 rfl (by simp [Value.category]) dd_69_6 (cw2 r5 w5 (by omega) (by omega) hi (by decide)) ?_
  show am_Good mi_69 9 [some (.ref E), some (.retAddr i)] [.retAddr (am_ag y5 (2 * i + 0))] h _
  exact g_ireturn rfl dd_69_9
theorem kg_oof {h : am_H} {E a5 d5 z5 y5 : Nat} {vE : List Value} (qE : am_get h E = some (.inr (1, vE))) (e5 : vE[5]? = some (.ref a5)) (r5 : am_get h a5 = some (.inr (8, [.ref d5, .retAddr 2, .retAddr 4, .retAddr z5]))) (w5 : am_get h d5 = some (.inl (0, 45, y5))) (hz5 : z5 ≤ 4) {i : Nat} (hi : i < z5) : am_EG mi_70 [.ref E, .retAddr i] h (some (.retAddr (am_ag y5 (2 * i + 1))), h) := by
  refine am_enter (n := 0) tk_70.2.1 (by simp [Value.category]) (Nat.le_of_ble_eq_true rfl) ?_
  show am_Good mi_70 0 [some (.ref E), some (.retAddr i)] [] h _
  refine g_aload_n (i := 0) dd_70_0 rfl ?_
  refine g_getfield (k := 5) am_ck1 (by decide) (Or.inl w_101) dd_70_1 qE e5 ?_
  refine g_iload_n (i := 1) dd_70_4 rfl ?_
  refine g_iconst dd_70_5 ic_1 ?_
  refine g_virtual (M' := mi_31) (n := 2) (ci := 8) (b := a5) (as := [.retAddr i, .retAddr 1]) (st := []) (r1 := (some (.retAddr (am_ag y5 (2 * i + 1))), h)) w_662 w_450 w_451 ⟨lk_31.1, lk_31.2.1, lk_31.2.2, by decide, by decide⟩ rfl r5 rfl (by simp [Value.category]) dd_70_6 (cw2 r5 w5 (by omega) (by omega) hi (by decide)) ?_
  show am_Good mi_70 9 [some (.ref E), some (.retAddr i)] [.retAddr (am_ag y5 (2 * i + 1))] h _
  exact g_ireturn rfl dd_70_9
theorem wax_0 {h : am_H} {E a0 a5 mi go z0 z5 : Nat} {v0 vE w0 w5 : List Value} (q0 : am_get h 0 = some (.inr (11, v0))) (x3 : v0[3]? = some (.ref E)) (qE : am_get h E = some (.inr (1, vE))) (e0 : vE[0]? = some (.ref a0)) (e5 : vE[5]? = some (.ref a5)) (e6 : vE[6]? = some (.retAddr mi)) (e7 : vE[7]? = some (.retAddr go)) (r0 : am_get h a0 = some (.inr (8, w0))) (s0 : w0[3]? = some (.retAddr z0)) (r5 : am_get h a5 = some (.inr (8, w5))) (s5 : w5[3]? = some (.retAddr z5)) (zm : mi ≤ 60) (zz0 : z0 ≤ 4) (zz5 : z5 ≤ 4) (x6 : v0[6]? = some (.ref 32)) {i : Nat} (g_i : i < 4294967296) {wh : Nat} (h1 : ¬ i < z5) : am_EG mi_58 [.ref 0, .retAddr i, .retAddr wh] h (some (.retAddr 4294967295), h) := by
  refine am_enter (n := 0) tk_58.2.1 (by simp [Value.category]) (Nat.le_of_ble_eq_true rfl) ?_
  show am_Good mi_58 0 [some (.ref 0), some (.retAddr i), some (.retAddr wh)] [] h _
  refine g_aload_n (i := 0) dd_58_0 rfl ?_
  refine g_iload_n (i := 1) dd_58_1 rfl ?_
  refine g_virtual (M' := mi_59) (n := 1) (ci := 11) (b := 0) (as := [.retAddr i]) (st := []) (r1 := (some (.retAddr 0), h)) w_616 w_618 ps_59 ⟨lk_59.1, lk_59.2.1, lk_59.2.2, by decide, by decide⟩ rfl q0 rfl (by simp [Value.category]) dd_58_2 (iwa_0 q0 x3 qE e0 e5 e6 e7 r0 s0 r5 s5 zm zz0 zz5 h1 g_i) ?_
  show am_Good mi_58 5 [some (.ref 0), some (.retAddr i), some (.retAddr wh)] [.retAddr 0] h _
  refine g_if_eq_t (t := 17) dd_58_5 (by decide) (by decide) ?_
  refine g_iconst dd_58_17 ic_m1 ?_
  exact g_ireturn rfl dd_58_18
theorem wax_r {h : am_H} {E a0 a5 mi go z0 z5 : Nat} {v0 vE w0 w5 : List Value} (q0 : am_get h 0 = some (.inr (11, v0))) (x3 : v0[3]? = some (.ref E)) (qE : am_get h E = some (.inr (1, vE))) (e0 : vE[0]? = some (.ref a0)) (e5 : vE[5]? = some (.ref a5)) (e6 : vE[6]? = some (.retAddr mi)) (e7 : vE[7]? = some (.retAddr go)) (r0 : am_get h a0 = some (.inr (8, w0))) (s0 : w0[3]? = some (.retAddr z0)) (r5 : am_get h a5 = some (.inr (8, w5))) (s5 : w5[3]? = some (.retAddr z5)) (zm : mi ≤ 60) (zz0 : z0 ≤ 4) (zz5 : z5 ≤ 4) (x6 : v0[6]? = some (.ref 32)) {i : Nat} (g_i : i < 4294967296) {wh : Nat} (g_w : wh < 4294967296) (h1 : i < z5) (h3 : ¬ wh ≤ 5) : am_EG mi_58 [.ref 0, .retAddr i, .retAddr wh] h (some (.retAddr 4294967295), h) := by
  refine am_enter (n := 0) tk_58.2.1 (by simp [Value.category]) (Nat.le_of_ble_eq_true rfl) ?_
  show am_Good mi_58 0 [some (.ref 0), some (.retAddr i), some (.retAddr wh)] [] h _
  refine g_aload_n (i := 0) dd_58_0 rfl ?_
  refine g_iload_n (i := 1) dd_58_1 rfl ?_
  refine g_virtual (M' := mi_59) (n := 1) (ci := 11) (b := 0) (as := [.retAddr i]) (st := []) (r1 := (some (.retAddr 1), h)) w_616 w_618 ps_59 ⟨lk_59.1, lk_59.2.1, lk_59.2.2, by decide, by decide⟩ rfl q0 rfl (by simp [Value.category]) dd_58_2 (iwa_1 q0 x3 qE e0 e5 e6 e7 r0 s0 r5 s5 zm zz0 zz5 h1) ?_
  show am_Good mi_58 5 [some (.ref 0), some (.retAddr i), some (.retAddr wh)] [.retAddr 1] h _
  refine g_if_eq_f (t := 17) dd_58_5 (by decide) (by decide) ?_
  refine g_iload_n (i := 2) dd_58_8 rfl ?_
  by_cases hq : 2147483648 ≤ wh
  · refine g_if_lt_t (t := 17) dd_58_9 (by decide) (by first | exact sk_lt_t (by omega) (by omega) | exact tk_lt_t (by omega)) ?_
    refine g_iconst dd_58_17 ic_m1 ?_
    exact g_ireturn rfl dd_58_18
  · refine g_if_lt_f (t := 17) dd_58_9 (by decide) (by first | exact sk_lt_f (by omega) (by omega) | exact tk_lt_f (by omega)) ?_
    refine g_iload_n (i := 2) dd_58_12 rfl ?_
    refine g_iconst dd_58_13 ic_5 ?_
    refine g_icmp_le_f (t := 19) dd_58_14 (by decide) (by first | exact sk_le_f (by omega) (by omega) | exact tk_le_f (by omega)) ?_
    refine g_iconst dd_58_17 ic_m1 ?_
    exact g_ireturn rfl dd_58_18
theorem wax_k0 {h : am_H} {E a0 a5 mi go z0 z5 : Nat} {v0 vE w0 w5 : List Value} (q0 : am_get h 0 = some (.inr (11, v0))) (x3 : v0[3]? = some (.ref E)) (qE : am_get h E = some (.inr (1, vE))) (e0 : vE[0]? = some (.ref a0)) (e5 : vE[5]? = some (.ref a5)) (e6 : vE[6]? = some (.retAddr mi)) (e7 : vE[7]? = some (.retAddr go)) (r0 : am_get h a0 = some (.inr (8, w0))) (s0 : w0[3]? = some (.retAddr z0)) (r5 : am_get h a5 = some (.inr (8, w5))) (s5 : w5[3]? = some (.retAddr z5)) (zm : mi ≤ 60) (zz0 : z0 ≤ 4) (zz5 : z5 ≤ 4) (x6 : v0[6]? = some (.ref 32)) {i : Nat} (g_i : i < 4294967296) (h1 : i < z5) {k : am_H} {c0 cE v40 v30 v43 : List Value} {wo se gn : Nat} (k0 : am_get k 0 = some (.inr (11, c0))) (k3 : c0[3]? = some (.ref E)) (k5 : c0[5]? = some (.ref 30)) (k8 : c0[8]? = some (.ref 40)) (k9 : c0[9]? = some (.ref 43)) (kE : am_get k E = some (.inr (1, cE))) (k40 : am_get k 40 = some (.inr (10, v40))) (t4 : v40[4]? = some (.retAddr wo)) (t5 : v40[5]? = some (.retAddr se)) (t6 : v40[6]? = some (.retAddr gn)) (k30 : am_get k 30 = some (.inr (2, v30))) (k43 : am_get k 43 = some (.inr (7, v43))) (e2_ : am_EG mi_60 [.ref 0, .retAddr i, .ref 32] h (none, k)) {kv : Nat} (e3_ : am_EG mi_69 [.ref E, .retAddr i] k (some (.retAddr kv), k)) : am_EG mi_58 [.ref 0, .retAddr i, .retAddr 0] h (some (.retAddr kv), k) := by
  refine am_enter (n := 0) tk_58.2.1 (by simp [Value.category]) (Nat.le_of_ble_eq_true rfl) ?_
  show am_Good mi_58 0 [some (.ref 0), some (.retAddr i), some (.retAddr 0)] [] h _
  refine g_aload_n (i := 0) dd_58_0 rfl ?_
  refine g_iload_n (i := 1) dd_58_1 rfl ?_
  refine g_virtual (M' := mi_59) (n := 1) (ci := 11) (b := 0) (as := [.retAddr i]) (st := []) (r1 := (some (.retAddr 1), h)) w_616 w_618 ps_59 ⟨lk_59.1, lk_59.2.1, lk_59.2.2, by decide, by decide⟩ rfl q0 rfl (by simp [Value.category]) dd_58_2 (iwa_1 q0 x3 qE e0 e5 e6 e7 r0 s0 r5 s5 zm zz0 zz5 h1) ?_
  show am_Good mi_58 5 [some (.ref 0), some (.retAddr i), some (.retAddr 0)] [.retAddr 1] h _
  refine g_if_eq_f (t := 17) dd_58_5 (by decide) (by decide) ?_
  refine g_iload_n (i := 2) dd_58_8 rfl ?_
  refine g_if_lt_f (t := 17) dd_58_9 (by decide) (by decide) ?_
  refine g_iload_n (i := 2) dd_58_12 rfl ?_
  refine g_iconst dd_58_13 ic_5 ?_
  refine g_icmp_le_t (t := 19) dd_58_14 (by decide) (by decide) ?_
  refine g_aload_n (i := 0) dd_58_19 rfl ?_
  refine g_iload_n (i := 1) dd_58_20 rfl ?_
  refine g_aload_n (i := 0) dd_58_21 rfl ?_
  refine g_getfield (k := 6) am_ck11 (by decide) (Or.inl w_517) dd_58_22 q0 x6 ?_
  refine g_virtual (M' := mi_60) (n := 2) (ci := 11) (b := 0) (as := [.retAddr i, .ref 32]) (st := []) (r1 := (none, k)) w_620 w_622 ps_60 ⟨lk_60.1, lk_60.2.1, lk_60.2.2, by decide, by decide⟩ rfl q0 rfl (by simp [Value.category]) dd_58_25 (e2_) ?_
  show am_Good mi_58 28 [some (.ref 0), some (.retAddr i), some (.retAddr 0)] [] k _
  refine g_iload_n (i := 2) dd_58_28 rfl ?_
  refine g_tableIn (a := 0) (off := 35) (t := 64) dd_58_29 (by decide) (by decide) (by decide) rfl (by decide) ?_
  refine g_aload_n (i := 0) dd_58_64 rfl ?_
  refine g_getfield (k := 3) am_ck11 (by decide) (Or.inl w_514) dd_58_65 k0 k3 ?_
  refine g_iload_n (i := 1) dd_58_68 rfl ?_
  refine g_virtual (M' := mi_69) (n := 1) (ci := 1) (b := E) (as := [.retAddr i]) (st := []) (r1 := (some (.retAddr kv), k)) w_658 w_659 w_660 ⟨lk_69.1, lk_69.2.1, lk_69.2.2, by decide, by decide⟩ rfl kE rfl (by simp [Value.category]) dd_58_69 (e3_) ?_
  show am_Good mi_58 72 [some (.ref 0), some (.retAddr i), some (.retAddr 0)] [.retAddr kv] k _
  exact g_ireturn rfl dd_58_72
theorem wax_k1 {h : am_H} {E a0 a5 mi go z0 z5 : Nat} {v0 vE w0 w5 : List Value} (q0 : am_get h 0 = some (.inr (11, v0))) (x3 : v0[3]? = some (.ref E)) (qE : am_get h E = some (.inr (1, vE))) (e0 : vE[0]? = some (.ref a0)) (e5 : vE[5]? = some (.ref a5)) (e6 : vE[6]? = some (.retAddr mi)) (e7 : vE[7]? = some (.retAddr go)) (r0 : am_get h a0 = some (.inr (8, w0))) (s0 : w0[3]? = some (.retAddr z0)) (r5 : am_get h a5 = some (.inr (8, w5))) (s5 : w5[3]? = some (.retAddr z5)) (zm : mi ≤ 60) (zz0 : z0 ≤ 4) (zz5 : z5 ≤ 4) (x6 : v0[6]? = some (.ref 32)) {i : Nat} (g_i : i < 4294967296) (h1 : i < z5) {k : am_H} {c0 cE v40 v30 v43 : List Value} {wo se gn : Nat} (k0 : am_get k 0 = some (.inr (11, c0))) (k3 : c0[3]? = some (.ref E)) (k5 : c0[5]? = some (.ref 30)) (k8 : c0[8]? = some (.ref 40)) (k9 : c0[9]? = some (.ref 43)) (kE : am_get k E = some (.inr (1, cE))) (k40 : am_get k 40 = some (.inr (10, v40))) (t4 : v40[4]? = some (.retAddr wo)) (t5 : v40[5]? = some (.retAddr se)) (t6 : v40[6]? = some (.retAddr gn)) (k30 : am_get k 30 = some (.inr (2, v30))) (k43 : am_get k 43 = some (.inr (7, v43))) (e2_ : am_EG mi_60 [.ref 0, .retAddr i, .ref 32] h (none, k)) {ov : Nat} (e3_ : am_EG mi_70 [.ref E, .retAddr i] k (some (.retAddr ov), k)) : am_EG mi_58 [.ref 0, .retAddr i, .retAddr 1] h (some (.retAddr ov), k) := by
  refine am_enter (n := 0) tk_58.2.1 (by simp [Value.category]) (Nat.le_of_ble_eq_true rfl) ?_
  show am_Good mi_58 0 [some (.ref 0), some (.retAddr i), some (.retAddr 1)] [] h _
  refine g_aload_n (i := 0) dd_58_0 rfl ?_
  refine g_iload_n (i := 1) dd_58_1 rfl ?_
  refine g_virtual (M' := mi_59) (n := 1) (ci := 11) (b := 0) (as := [.retAddr i]) (st := []) (r1 := (some (.retAddr 1), h)) w_616 w_618 ps_59 ⟨lk_59.1, lk_59.2.1, lk_59.2.2, by decide, by decide⟩ rfl q0 rfl (by simp [Value.category]) dd_58_2 (iwa_1 q0 x3 qE e0 e5 e6 e7 r0 s0 r5 s5 zm zz0 zz5 h1) ?_
  show am_Good mi_58 5 [some (.ref 0), some (.retAddr i), some (.retAddr 1)] [.retAddr 1] h _
  refine g_if_eq_f (t := 17) dd_58_5 (by decide) (by decide) ?_
  refine g_iload_n (i := 2) dd_58_8 rfl ?_
  refine g_if_lt_f (t := 17) dd_58_9 (by decide) (by decide) ?_
  refine g_iload_n (i := 2) dd_58_12 rfl ?_
  refine g_iconst dd_58_13 ic_5 ?_
  refine g_icmp_le_t (t := 19) dd_58_14 (by decide) (by decide) ?_
  refine g_aload_n (i := 0) dd_58_19 rfl ?_
  refine g_iload_n (i := 1) dd_58_20 rfl ?_
  refine g_aload_n (i := 0) dd_58_21 rfl ?_
  refine g_getfield (k := 6) am_ck11 (by decide) (Or.inl w_517) dd_58_22 q0 x6 ?_
  refine g_virtual (M' := mi_60) (n := 2) (ci := 11) (b := 0) (as := [.retAddr i, .ref 32]) (st := []) (r1 := (none, k)) w_620 w_622 ps_60 ⟨lk_60.1, lk_60.2.1, lk_60.2.2, by decide, by decide⟩ rfl q0 rfl (by simp [Value.category]) dd_58_25 (e2_) ?_
  show am_Good mi_58 28 [some (.ref 0), some (.retAddr i), some (.retAddr 1)] [] k _
  refine g_iload_n (i := 2) dd_58_28 rfl ?_
  refine g_tableIn (a := 1) (off := 44) (t := 73) dd_58_29 (by decide) (by decide) (by decide) rfl (by decide) ?_
  refine g_aload_n (i := 0) dd_58_73 rfl ?_
  refine g_getfield (k := 3) am_ck11 (by decide) (Or.inl w_514) dd_58_74 k0 k3 ?_
  refine g_iload_n (i := 1) dd_58_77 rfl ?_
  refine g_virtual (M' := mi_70) (n := 1) (ci := 1) (b := E) (as := [.retAddr i]) (st := []) (r1 := (some (.retAddr ov), k)) w_663 w_664 w_665 ⟨lk_70.1, lk_70.2.1, lk_70.2.2, by decide, by decide⟩ rfl kE rfl (by simp [Value.category]) dd_58_78 (e3_) ?_
  show am_Good mi_58 81 [some (.ref 0), some (.retAddr i), some (.retAddr 1)] [.retAddr ov] k _
  exact g_ireturn rfl dd_58_81
theorem wax_k2 {h : am_H} {E a0 a5 mi go z0 z5 : Nat} {v0 vE w0 w5 : List Value} (q0 : am_get h 0 = some (.inr (11, v0))) (x3 : v0[3]? = some (.ref E)) (qE : am_get h E = some (.inr (1, vE))) (e0 : vE[0]? = some (.ref a0)) (e5 : vE[5]? = some (.ref a5)) (e6 : vE[6]? = some (.retAddr mi)) (e7 : vE[7]? = some (.retAddr go)) (r0 : am_get h a0 = some (.inr (8, w0))) (s0 : w0[3]? = some (.retAddr z0)) (r5 : am_get h a5 = some (.inr (8, w5))) (s5 : w5[3]? = some (.retAddr z5)) (zm : mi ≤ 60) (zz0 : z0 ≤ 4) (zz5 : z5 ≤ 4) (x6 : v0[6]? = some (.ref 32)) {i : Nat} (g_i : i < 4294967296) (h1 : i < z5) {k : am_H} {c0 cE v40 v30 v43 : List Value} {wo se gn : Nat} (k0 : am_get k 0 = some (.inr (11, c0))) (k3 : c0[3]? = some (.ref E)) (k5 : c0[5]? = some (.ref 30)) (k8 : c0[8]? = some (.ref 40)) (k9 : c0[9]? = some (.ref 43)) (kE : am_get k E = some (.inr (1, cE))) (k40 : am_get k 40 = some (.inr (10, v40))) (t4 : v40[4]? = some (.retAddr wo)) (t5 : v40[5]? = some (.retAddr se)) (t6 : v40[6]? = some (.retAddr gn)) (k30 : am_get k 30 = some (.inr (2, v30))) (k43 : am_get k 43 = some (.inr (7, v43))) (e2_ : am_EG mi_60 [.ref 0, .retAddr i, .ref 32] h (none, k)) : am_EG mi_58 [.ref 0, .retAddr i, .retAddr 2] h (some (.retAddr wo), k) := by
  refine am_enter (n := 0) tk_58.2.1 (by simp [Value.category]) (Nat.le_of_ble_eq_true rfl) ?_
  show am_Good mi_58 0 [some (.ref 0), some (.retAddr i), some (.retAddr 2)] [] h _
  refine g_aload_n (i := 0) dd_58_0 rfl ?_
  refine g_iload_n (i := 1) dd_58_1 rfl ?_
  refine g_virtual (M' := mi_59) (n := 1) (ci := 11) (b := 0) (as := [.retAddr i]) (st := []) (r1 := (some (.retAddr 1), h)) w_616 w_618 ps_59 ⟨lk_59.1, lk_59.2.1, lk_59.2.2, by decide, by decide⟩ rfl q0 rfl (by simp [Value.category]) dd_58_2 (iwa_1 q0 x3 qE e0 e5 e6 e7 r0 s0 r5 s5 zm zz0 zz5 h1) ?_
  show am_Good mi_58 5 [some (.ref 0), some (.retAddr i), some (.retAddr 2)] [.retAddr 1] h _
  refine g_if_eq_f (t := 17) dd_58_5 (by decide) (by decide) ?_
  refine g_iload_n (i := 2) dd_58_8 rfl ?_
  refine g_if_lt_f (t := 17) dd_58_9 (by decide) (by decide) ?_
  refine g_iload_n (i := 2) dd_58_12 rfl ?_
  refine g_iconst dd_58_13 ic_5 ?_
  refine g_icmp_le_t (t := 19) dd_58_14 (by decide) (by decide) ?_
  refine g_aload_n (i := 0) dd_58_19 rfl ?_
  refine g_iload_n (i := 1) dd_58_20 rfl ?_
  refine g_aload_n (i := 0) dd_58_21 rfl ?_
  refine g_getfield (k := 6) am_ck11 (by decide) (Or.inl w_517) dd_58_22 q0 x6 ?_
  refine g_virtual (M' := mi_60) (n := 2) (ci := 11) (b := 0) (as := [.retAddr i, .ref 32]) (st := []) (r1 := (none, k)) w_620 w_622 ps_60 ⟨lk_60.1, lk_60.2.1, lk_60.2.2, by decide, by decide⟩ rfl q0 rfl (by simp [Value.category]) dd_58_25 (e2_) ?_
  show am_Good mi_58 28 [some (.ref 0), some (.retAddr i), some (.retAddr 2)] [] k _
  refine g_iload_n (i := 2) dd_58_28 rfl ?_
  refine g_tableIn (a := 2) (off := 53) (t := 82) dd_58_29 (by decide) (by decide) (by decide) rfl (by decide) ?_
  refine g_aload_n (i := 0) dd_58_82 rfl ?_
  refine g_getfield (k := 8) am_ck11 (by decide) (Or.inl w_519) dd_58_83 k0 k8 ?_
  refine g_getfield (k := 4) am_ck10 (by decide) (Or.inr ⟨_, w_174⟩) dd_58_86 k40 t4 ?_
  exact g_ireturn rfl dd_58_89
theorem wax_k3 {h : am_H} {E a0 a5 mi go z0 z5 : Nat} {v0 vE w0 w5 : List Value} (q0 : am_get h 0 = some (.inr (11, v0))) (x3 : v0[3]? = some (.ref E)) (qE : am_get h E = some (.inr (1, vE))) (e0 : vE[0]? = some (.ref a0)) (e5 : vE[5]? = some (.ref a5)) (e6 : vE[6]? = some (.retAddr mi)) (e7 : vE[7]? = some (.retAddr go)) (r0 : am_get h a0 = some (.inr (8, w0))) (s0 : w0[3]? = some (.retAddr z0)) (r5 : am_get h a5 = some (.inr (8, w5))) (s5 : w5[3]? = some (.retAddr z5)) (zm : mi ≤ 60) (zz0 : z0 ≤ 4) (zz5 : z5 ≤ 4) (x6 : v0[6]? = some (.ref 32)) {i : Nat} (g_i : i < 4294967296) (h1 : i < z5) {k : am_H} {c0 cE v40 v30 v43 : List Value} {wo se gn : Nat} (k0 : am_get k 0 = some (.inr (11, c0))) (k3 : c0[3]? = some (.ref E)) (k5 : c0[5]? = some (.ref 30)) (k8 : c0[8]? = some (.ref 40)) (k9 : c0[9]? = some (.ref 43)) (kE : am_get k E = some (.inr (1, cE))) (k40 : am_get k 40 = some (.inr (10, v40))) (t4 : v40[4]? = some (.retAddr wo)) (t5 : v40[5]? = some (.retAddr se)) (t6 : v40[6]? = some (.retAddr gn)) (k30 : am_get k 30 = some (.inr (2, v30))) (k43 : am_get k 43 = some (.inr (7, v43))) (e2_ : am_EG mi_60 [.ref 0, .retAddr i, .ref 32] h (none, k)) {ck : Nat} (e3_ : am_EG mi_57 [.ref 30, .retAddr se] k (some (.retAddr ck), k)) : am_EG mi_58 [.ref 0, .retAddr i, .retAddr 3] h (some (.retAddr ck), k) := by
  refine am_enter (n := 0) tk_58.2.1 (by simp [Value.category]) (Nat.le_of_ble_eq_true rfl) ?_
  show am_Good mi_58 0 [some (.ref 0), some (.retAddr i), some (.retAddr 3)] [] h _
  refine g_aload_n (i := 0) dd_58_0 rfl ?_
  refine g_iload_n (i := 1) dd_58_1 rfl ?_
  refine g_virtual (M' := mi_59) (n := 1) (ci := 11) (b := 0) (as := [.retAddr i]) (st := []) (r1 := (some (.retAddr 1), h)) w_616 w_618 ps_59 ⟨lk_59.1, lk_59.2.1, lk_59.2.2, by decide, by decide⟩ rfl q0 rfl (by simp [Value.category]) dd_58_2 (iwa_1 q0 x3 qE e0 e5 e6 e7 r0 s0 r5 s5 zm zz0 zz5 h1) ?_
  show am_Good mi_58 5 [some (.ref 0), some (.retAddr i), some (.retAddr 3)] [.retAddr 1] h _
  refine g_if_eq_f (t := 17) dd_58_5 (by decide) (by decide) ?_
  refine g_iload_n (i := 2) dd_58_8 rfl ?_
  refine g_if_lt_f (t := 17) dd_58_9 (by decide) (by decide) ?_
  refine g_iload_n (i := 2) dd_58_12 rfl ?_
  refine g_iconst dd_58_13 ic_5 ?_
  refine g_icmp_le_t (t := 19) dd_58_14 (by decide) (by decide) ?_
  refine g_aload_n (i := 0) dd_58_19 rfl ?_
  refine g_iload_n (i := 1) dd_58_20 rfl ?_
  refine g_aload_n (i := 0) dd_58_21 rfl ?_
  refine g_getfield (k := 6) am_ck11 (by decide) (Or.inl w_517) dd_58_22 q0 x6 ?_
  refine g_virtual (M' := mi_60) (n := 2) (ci := 11) (b := 0) (as := [.retAddr i, .ref 32]) (st := []) (r1 := (none, k)) w_620 w_622 ps_60 ⟨lk_60.1, lk_60.2.1, lk_60.2.2, by decide, by decide⟩ rfl q0 rfl (by simp [Value.category]) dd_58_25 (e2_) ?_
  show am_Good mi_58 28 [some (.ref 0), some (.retAddr i), some (.retAddr 3)] [] k _
  refine g_iload_n (i := 2) dd_58_28 rfl ?_
  refine g_tableIn (a := 3) (off := 61) (t := 90) dd_58_29 (by decide) (by decide) (by decide) rfl (by decide) ?_
  refine g_aload_n (i := 0) dd_58_90 rfl ?_
  refine g_getfield (k := 5) am_ck11 (by decide) (Or.inl w_516) dd_58_91 k0 k5 ?_
  refine g_aload_n (i := 0) dd_58_94 rfl ?_
  refine g_getfield (k := 8) am_ck11 (by decide) (Or.inl w_519) dd_58_95 k0 k8 ?_
  refine g_getfield (k := 5) am_ck10 (by decide) (Or.inr ⟨_, w_176⟩) dd_58_98 k40 t5 ?_
  refine g_virtual (M' := mi_57) (n := 1) (ci := 2) (b := 30) (as := [.retAddr se]) (st := []) (r1 := (some (.retAddr ck), k)) w_608 w_609 w_610 ⟨lk_57.1, lk_57.2.1, lk_57.2.2, by decide, by decide⟩ rfl k30 rfl (by simp [Value.category]) dd_58_101 (e3_) ?_
  show am_Good mi_58 104 [some (.ref 0), some (.retAddr i), some (.retAddr 3)] [.retAddr ck] k _
  exact g_ireturn rfl dd_58_104
theorem wax_k4 {h : am_H} {E a0 a5 mi go z0 z5 : Nat} {v0 vE w0 w5 : List Value} (q0 : am_get h 0 = some (.inr (11, v0))) (x3 : v0[3]? = some (.ref E)) (qE : am_get h E = some (.inr (1, vE))) (e0 : vE[0]? = some (.ref a0)) (e5 : vE[5]? = some (.ref a5)) (e6 : vE[6]? = some (.retAddr mi)) (e7 : vE[7]? = some (.retAddr go)) (r0 : am_get h a0 = some (.inr (8, w0))) (s0 : w0[3]? = some (.retAddr z0)) (r5 : am_get h a5 = some (.inr (8, w5))) (s5 : w5[3]? = some (.retAddr z5)) (zm : mi ≤ 60) (zz0 : z0 ≤ 4) (zz5 : z5 ≤ 4) (x6 : v0[6]? = some (.ref 32)) {i : Nat} (g_i : i < 4294967296) (h1 : i < z5) {k : am_H} {c0 cE v40 v30 v43 : List Value} {wo se gn : Nat} (k0 : am_get k 0 = some (.inr (11, c0))) (k3 : c0[3]? = some (.ref E)) (k5 : c0[5]? = some (.ref 30)) (k8 : c0[8]? = some (.ref 40)) (k9 : c0[9]? = some (.ref 43)) (kE : am_get k E = some (.inr (1, cE))) (k40 : am_get k 40 = some (.inr (10, v40))) (t4 : v40[4]? = some (.retAddr wo)) (t5 : v40[5]? = some (.retAddr se)) (t6 : v40[6]? = some (.retAddr gn)) (k30 : am_get k 30 = some (.inr (2, v30))) (k43 : am_get k 43 = some (.inr (7, v43))) (e2_ : am_EG mi_60 [.ref 0, .retAddr i, .ref 32] h (none, k)) : am_EG mi_58 [.ref 0, .retAddr i, .retAddr 4] h (some (.retAddr gn), k) := by
  refine am_enter (n := 0) tk_58.2.1 (by simp [Value.category]) (Nat.le_of_ble_eq_true rfl) ?_
  show am_Good mi_58 0 [some (.ref 0), some (.retAddr i), some (.retAddr 4)] [] h _
  refine g_aload_n (i := 0) dd_58_0 rfl ?_
  refine g_iload_n (i := 1) dd_58_1 rfl ?_
  refine g_virtual (M' := mi_59) (n := 1) (ci := 11) (b := 0) (as := [.retAddr i]) (st := []) (r1 := (some (.retAddr 1), h)) w_616 w_618 ps_59 ⟨lk_59.1, lk_59.2.1, lk_59.2.2, by decide, by decide⟩ rfl q0 rfl (by simp [Value.category]) dd_58_2 (iwa_1 q0 x3 qE e0 e5 e6 e7 r0 s0 r5 s5 zm zz0 zz5 h1) ?_
  show am_Good mi_58 5 [some (.ref 0), some (.retAddr i), some (.retAddr 4)] [.retAddr 1] h _
  refine g_if_eq_f (t := 17) dd_58_5 (by decide) (by decide) ?_
  refine g_iload_n (i := 2) dd_58_8 rfl ?_
  refine g_if_lt_f (t := 17) dd_58_9 (by decide) (by decide) ?_
  refine g_iload_n (i := 2) dd_58_12 rfl ?_
  refine g_iconst dd_58_13 ic_5 ?_
  refine g_icmp_le_t (t := 19) dd_58_14 (by decide) (by decide) ?_
  refine g_aload_n (i := 0) dd_58_19 rfl ?_
  refine g_iload_n (i := 1) dd_58_20 rfl ?_
  refine g_aload_n (i := 0) dd_58_21 rfl ?_
  refine g_getfield (k := 6) am_ck11 (by decide) (Or.inl w_517) dd_58_22 q0 x6 ?_
  refine g_virtual (M' := mi_60) (n := 2) (ci := 11) (b := 0) (as := [.retAddr i, .ref 32]) (st := []) (r1 := (none, k)) w_620 w_622 ps_60 ⟨lk_60.1, lk_60.2.1, lk_60.2.2, by decide, by decide⟩ rfl q0 rfl (by simp [Value.category]) dd_58_25 (e2_) ?_
  show am_Good mi_58 28 [some (.ref 0), some (.retAddr i), some (.retAddr 4)] [] k _
  refine g_iload_n (i := 2) dd_58_28 rfl ?_
  refine g_tableIn (a := 4) (off := 76) (t := 105) dd_58_29 (by decide) (by decide) (by decide) rfl (by decide) ?_
  refine g_aload_n (i := 0) dd_58_105 rfl ?_
  refine g_getfield (k := 8) am_ck11 (by decide) (Or.inl w_519) dd_58_106 k0 k8 ?_
  refine g_getfield (k := 6) am_ck10 (by decide) (Or.inr ⟨_, w_178⟩) dd_58_109 k40 t6 ?_
  exact g_ireturn rfl dd_58_112
theorem wax_k5 {h : am_H} {E a0 a5 mi go z0 z5 : Nat} {v0 vE w0 w5 : List Value} (q0 : am_get h 0 = some (.inr (11, v0))) (x3 : v0[3]? = some (.ref E)) (qE : am_get h E = some (.inr (1, vE))) (e0 : vE[0]? = some (.ref a0)) (e5 : vE[5]? = some (.ref a5)) (e6 : vE[6]? = some (.retAddr mi)) (e7 : vE[7]? = some (.retAddr go)) (r0 : am_get h a0 = some (.inr (8, w0))) (s0 : w0[3]? = some (.retAddr z0)) (r5 : am_get h a5 = some (.inr (8, w5))) (s5 : w5[3]? = some (.retAddr z5)) (zm : mi ≤ 60) (zz0 : z0 ≤ 4) (zz5 : z5 ≤ 4) (x6 : v0[6]? = some (.ref 32)) {i : Nat} (g_i : i < 4294967296) (h1 : i < z5) {k : am_H} {c0 cE v40 v30 v43 : List Value} {wo se gn : Nat} (k0 : am_get k 0 = some (.inr (11, c0))) (k3 : c0[3]? = some (.ref E)) (k5 : c0[5]? = some (.ref 30)) (k8 : c0[8]? = some (.ref 40)) (k9 : c0[9]? = some (.ref 43)) (kE : am_get k E = some (.inr (1, cE))) (k40 : am_get k 40 = some (.inr (10, v40))) (t4 : v40[4]? = some (.retAddr wo)) (t5 : v40[5]? = some (.retAddr se)) (t6 : v40[6]? = some (.retAddr gn)) (k30 : am_get k 30 = some (.inr (2, v30))) (k43 : am_get k 43 = some (.inr (7, v43))) (e2_ : am_EG mi_60 [.ref 0, .retAddr i, .ref 32] h (none, k)) {ov tv : Nat} (e3_ : am_EG mi_70 [.ref E, .retAddr i] k (some (.retAddr ov), k)) (e4_ : am_EG mi_42 [.ref 43, .retAddr ov, .retAddr 0] k (some (.retAddr tv), k)) : am_EG mi_58 [.ref 0, .retAddr i, .retAddr 5] h (some (.retAddr ((tv + (4294967296 - wo % 4294967296)) % 4294967296)), k) := by
  refine am_enter (n := 0) tk_58.2.1 (by simp [Value.category]) (Nat.le_of_ble_eq_true rfl) ?_
  show am_Good mi_58 0 [some (.ref 0), some (.retAddr i), some (.retAddr 5)] [] h _
  refine g_aload_n (i := 0) dd_58_0 rfl ?_
  refine g_iload_n (i := 1) dd_58_1 rfl ?_
  refine g_virtual (M' := mi_59) (n := 1) (ci := 11) (b := 0) (as := [.retAddr i]) (st := []) (r1 := (some (.retAddr 1), h)) w_616 w_618 ps_59 ⟨lk_59.1, lk_59.2.1, lk_59.2.2, by decide, by decide⟩ rfl q0 rfl (by simp [Value.category]) dd_58_2 (iwa_1 q0 x3 qE e0 e5 e6 e7 r0 s0 r5 s5 zm zz0 zz5 h1) ?_
  show am_Good mi_58 5 [some (.ref 0), some (.retAddr i), some (.retAddr 5)] [.retAddr 1] h _
  refine g_if_eq_f (t := 17) dd_58_5 (by decide) (by decide) ?_
  refine g_iload_n (i := 2) dd_58_8 rfl ?_
  refine g_if_lt_f (t := 17) dd_58_9 (by decide) (by decide) ?_
  refine g_iload_n (i := 2) dd_58_12 rfl ?_
  refine g_iconst dd_58_13 ic_5 ?_
  refine g_icmp_le_t (t := 19) dd_58_14 (by decide) (by decide) ?_
  refine g_aload_n (i := 0) dd_58_19 rfl ?_
  refine g_iload_n (i := 1) dd_58_20 rfl ?_
  refine g_aload_n (i := 0) dd_58_21 rfl ?_
  refine g_getfield (k := 6) am_ck11 (by decide) (Or.inl w_517) dd_58_22 q0 x6 ?_
  refine g_virtual (M' := mi_60) (n := 2) (ci := 11) (b := 0) (as := [.retAddr i, .ref 32]) (st := []) (r1 := (none, k)) w_620 w_622 ps_60 ⟨lk_60.1, lk_60.2.1, lk_60.2.2, by decide, by decide⟩ rfl q0 rfl (by simp [Value.category]) dd_58_25 (e2_) ?_
  show am_Good mi_58 28 [some (.ref 0), some (.retAddr i), some (.retAddr 5)] [] k _
  refine g_iload_n (i := 2) dd_58_28 rfl ?_
  refine g_tableOut (t := 113) dd_58_29 (by decide) (by decide) (by decide) (by decide) ?_
  refine g_aload_n (i := 0) dd_58_113 rfl ?_
  refine g_getfield (k := 9) am_ck11 (by decide) (Or.inl w_520) dd_58_114 k0 k9 ?_
  refine g_aload_n (i := 0) dd_58_117 rfl ?_
  refine g_getfield (k := 3) am_ck11 (by decide) (Or.inl w_514) dd_58_118 k0 k3 ?_
  refine g_iload_n (i := 1) dd_58_121 rfl ?_
  refine g_virtual (M' := mi_70) (n := 1) (ci := 1) (b := E) (as := [.retAddr i]) (st := [.ref 43]) (r1 := (some (.retAddr ov), k)) w_663 w_664 w_665 ⟨lk_70.1, lk_70.2.1, lk_70.2.2, by decide, by decide⟩ rfl kE rfl (by simp [Value.category]) dd_58_122 (e3_) ?_
  show am_Good mi_58 125 [some (.ref 0), some (.retAddr i), some (.retAddr 5)] [.retAddr ov, .ref 43] k _
  refine g_iconst dd_58_125 ic_0 ?_
  refine g_virtual (M' := mi_42) (n := 2) (ci := 7) (b := 43) (as := [.retAddr ov, .retAddr 0]) (st := []) (r1 := (some (.retAddr tv), k)) w_684 w_495 w_496 ⟨lk_42.1, lk_42.2.1, lk_42.2.2, by decide, by decide⟩ rfl k43 rfl (by simp [Value.category]) dd_58_126 (e4_) ?_
  show am_Good mi_58 129 [some (.ref 0), some (.retAddr i), some (.retAddr 5)] [.retAddr tv] k _
  refine g_aload_n (i := 0) dd_58_129 rfl ?_
  refine g_getfield (k := 8) am_ck11 (by decide) (Or.inl w_519) dd_58_130 k0 k8 ?_
  refine g_getfield (k := 4) am_ck10 (by decide) (Or.inr ⟨_, w_174⟩) dd_58_133 k40 t4 ?_
  refine e_isub (v := (tv + (4294967296 - wo % 4294967296)) % 4294967296) dd_58_136 rfl ?_
  exact g_ireturn rfl dd_58_137
theorem wam_0 {h : am_H} {vs : List Value} {z5 i : Nat} (q66 : am_get h 66 = some (.inr (12, vs))) (f12 : vs[12]? = some (.retAddr z5)) (hz5 : z5 ≤ 4) (g_i : i < 4294967296) {wh : Nat} (h1 : ¬ i < z5) : am_EG mi_163 [.ref 66, .retAddr i, .retAddr wh] h (some (.retAddr 4294967295), h) := by
  refine am_enter (n := 0) tk_163.2.1 (by simp [Value.category]) (Nat.le_of_ble_eq_true rfl) ?_
  show am_Good mi_163 0 [some (.ref 66), some (.retAddr i), some (.retAddr wh)] [] h _
  refine g_aload_n (i := 0) dd_163_0 rfl ?_
  refine g_iload_n (i := 1) dd_163_1 rfl ?_
  refine g_virtual (M' := mi_164) (n := 1) (ci := 12) (b := 66) (as := [.retAddr i]) (st := []) (r1 := (some (.retAddr 0), h)) w_1226 w_1228 ps_164 ⟨lk_164.1, lk_164.2.1, lk_164.2.2, by decide, by decide⟩ rfl q66 rfl (by simp [Value.category]) dd_163_2 (mwm_0 q66 f12 hz5 h1 g_i) ?_
  show am_Good mi_163 5 [some (.ref 66), some (.retAddr i), some (.retAddr wh)] [.retAddr 0] h _
  refine g_if_eq_t (t := 17) dd_163_5 (by decide) (by decide) ?_
  refine g_iconst dd_163_17 ic_m1 ?_
  exact g_ireturn rfl dd_163_18
theorem wam_r {h : am_H} {vs : List Value} {z5 i : Nat} (q66 : am_get h 66 = some (.inr (12, vs))) (f12 : vs[12]? = some (.retAddr z5)) (hz5 : z5 ≤ 4) (g_i : i < 4294967296) {wh : Nat} (g_w : wh < 4294967296) (h1 : i < z5) (h3 : ¬ wh ≤ 5) : am_EG mi_163 [.ref 66, .retAddr i, .retAddr wh] h (some (.retAddr 4294967295), h) := by
  refine am_enter (n := 0) tk_163.2.1 (by simp [Value.category]) (Nat.le_of_ble_eq_true rfl) ?_
  show am_Good mi_163 0 [some (.ref 66), some (.retAddr i), some (.retAddr wh)] [] h _
  refine g_aload_n (i := 0) dd_163_0 rfl ?_
  refine g_iload_n (i := 1) dd_163_1 rfl ?_
  refine g_virtual (M' := mi_164) (n := 1) (ci := 12) (b := 66) (as := [.retAddr i]) (st := []) (r1 := (some (.retAddr 1), h)) w_1226 w_1228 ps_164 ⟨lk_164.1, lk_164.2.1, lk_164.2.2, by decide, by decide⟩ rfl q66 rfl (by simp [Value.category]) dd_163_2 (mwm_1 q66 f12 hz5 h1) ?_
  show am_Good mi_163 5 [some (.ref 66), some (.retAddr i), some (.retAddr wh)] [.retAddr 1] h _
  refine g_if_eq_f (t := 17) dd_163_5 (by decide) (by decide) ?_
  refine g_iload_n (i := 2) dd_163_8 rfl ?_
  refine g_iconst dd_163_9 ic_0 ?_
  refine g_iconst dd_163_10 ic_5 ?_
  refine g_static (M' := mi_133) (n := 3) (as := [.retAddr wh, .retAddr 0, .retAddr 5]) (st := []) (r1 := (some (.retAddr 0), h)) w_1106 w_1107 ⟨lk_133.1, lk_133.2.1, lk_133.2.2, by decide, by decide⟩ rfl (by simp [Value.category]) dd_163_11 (rin_w g_w h3) ?_
  show am_Good mi_163 14 [some (.ref 66), some (.retAddr i), some (.retAddr wh)] [.retAddr 0] h _
  refine g_if_ne_f (t := 19) dd_163_14 (by decide) (by decide) ?_
  refine g_iconst dd_163_17 ic_m1 ?_
  exact g_ireturn rfl dd_163_18
theorem wam_k0 {h : am_H} {vs : List Value} {z5 i : Nat} (q66 : am_get h 66 = some (.inr (12, vs))) (f12 : vs[12]? = some (.retAddr z5)) (hz5 : z5 ≤ 4) (g_i : i < 4294967296) (h1 : i < z5) {g k : am_H} {ug uk : List Value} {wo se gn y : Nat} (q66g : am_get g 66 = some (.inr (12, ug))) (q66k : am_get k 66 = some (.inr (12, uk))) (f13 : uk[13]? = some (.ref 72)) (t4 : uk[36]? = some (.retAddr wo)) (t5 : uk[37]? = some (.retAddr se)) (t6 : uk[38]? = some (.retAddr gn)) (a72 : am_get k 72 = some (.inl (0, 8, y))) (e1_ : am_EG mi_155 [.ref 66, .retAddr 0, .retAddr 4294967292] h (none, g)) (e2_ : am_EG mi_165 [.ref 66, .retAddr i] g (none, k)) : am_EG mi_163 [.ref 66, .retAddr i, .retAddr 0] h (some (.retAddr (am_ag y (2 * i))), k) := by
  refine am_enter (n := 0) tk_163.2.1 (by simp [Value.category]) (Nat.le_of_ble_eq_true rfl) ?_
  show am_Good mi_163 0 [some (.ref 66), some (.retAddr i), some (.retAddr 0)] [] h _
  refine g_aload_n (i := 0) dd_163_0 rfl ?_
  refine g_iload_n (i := 1) dd_163_1 rfl ?_
  refine g_virtual (M' := mi_164) (n := 1) (ci := 12) (b := 66) (as := [.retAddr i]) (st := []) (r1 := (some (.retAddr 1), h)) w_1226 w_1228 ps_164 ⟨lk_164.1, lk_164.2.1, lk_164.2.2, by decide, by decide⟩ rfl q66 rfl (by simp [Value.category]) dd_163_2 (mwm_1 q66 f12 hz5 h1) ?_
  show am_Good mi_163 5 [some (.ref 66), some (.retAddr i), some (.retAddr 0)] [.retAddr 1] h _
  refine g_if_eq_f (t := 17) dd_163_5 (by decide) (by decide) ?_
  refine g_iload_n (i := 2) dd_163_8 rfl ?_
  refine g_iconst dd_163_9 ic_0 ?_
  refine g_iconst dd_163_10 ic_5 ?_
  refine g_static (M' := mi_133) (n := 3) (as := [.retAddr 0, .retAddr 0, .retAddr 5]) (st := []) (r1 := (some (.retAddr 1), h)) w_1106 w_1107 ⟨lk_133.1, lk_133.2.1, lk_133.2.2, by decide, by decide⟩ rfl (by simp [Value.category]) dd_163_11 (ri_1 (z := 6) (by decide) (by decide) (by decide)) ?_
  show am_Good mi_163 14 [some (.ref 66), some (.retAddr i), some (.retAddr 0)] [.retAddr 1] h _
  refine g_if_ne_t (t := 19) dd_163_14 (by decide) (by decide) ?_
  refine g_aload_n (i := 0) dd_163_19 rfl ?_
  refine g_iconst dd_163_20 ic_0 ?_
  refine g_bipush dd_163_21 bi_m4 ?_
  refine g_virtual (M' := mi_155) (n := 2) (ci := 12) (b := 66) (as := [.retAddr 0, .retAddr 4294967292]) (st := []) (r1 := (none, g)) w_1192 w_1194 ps_155 ⟨lk_155.1, lk_155.2.1, lk_155.2.2, by decide, by decide⟩ rfl q66 rfl (by simp [Value.category]) dd_163_23 (e1_) ?_
  show am_Good mi_163 26 [some (.ref 66), some (.retAddr i), some (.retAddr 0)] [] g _
  refine g_aload_n (i := 0) dd_163_26 rfl ?_
  refine g_iload_n (i := 1) dd_163_27 rfl ?_
  refine g_virtual (M' := mi_165) (n := 1) (ci := 12) (b := 66) (as := [.retAddr i]) (st := []) (r1 := (none, k)) w_1230 w_1232 ps_165 ⟨lk_165.1, lk_165.2.1, lk_165.2.2, by decide, by decide⟩ rfl q66g rfl (by simp [Value.category]) dd_163_28 (e2_) ?_
  show am_Good mi_163 31 [some (.ref 66), some (.retAddr i), some (.retAddr 0)] [] k _
  refine g_iload_n (i := 2) dd_163_31 rfl ?_
  refine g_tableIn (a := 0) (off := 36) (t := 68) dd_163_32 (by decide) (by decide) (by decide) rfl (by decide) ?_
  refine g_aload_n (i := 0) dd_163_68 rfl ?_
  refine g_getfield (k := 13) am_ck12 (by decide) (Or.inl w_948) dd_163_69 q66k f13 ?_
  refine g_iconst dd_163_72 ic_2 ?_
  refine g_iload_n (i := 1) dd_163_73 rfl ?_
  refine e_imul (v := 2 * i) dd_163_74 (by omega) ?_
  refine g_iload_n (i := 2) dd_163_75 rfl ?_
  refine e_iadd (v := 2 * i) dd_163_76 (by omega) ?_
  refine g_iaload dd_163_77 a72 (by omega) (by decide) ?_
  have hl_1 := am_ag_lt y (2 * i)
  exact g_ireturn rfl dd_163_78
theorem wam_k1 {h : am_H} {vs : List Value} {z5 i : Nat} (q66 : am_get h 66 = some (.inr (12, vs))) (f12 : vs[12]? = some (.retAddr z5)) (hz5 : z5 ≤ 4) (g_i : i < 4294967296) (h1 : i < z5) {g k : am_H} {ug uk : List Value} {wo se gn y : Nat} (q66g : am_get g 66 = some (.inr (12, ug))) (q66k : am_get k 66 = some (.inr (12, uk))) (f13 : uk[13]? = some (.ref 72)) (t4 : uk[36]? = some (.retAddr wo)) (t5 : uk[37]? = some (.retAddr se)) (t6 : uk[38]? = some (.retAddr gn)) (a72 : am_get k 72 = some (.inl (0, 8, y))) (e1_ : am_EG mi_155 [.ref 66, .retAddr 0, .retAddr 4294967292] h (none, g)) (e2_ : am_EG mi_165 [.ref 66, .retAddr i] g (none, k)) : am_EG mi_163 [.ref 66, .retAddr i, .retAddr 1] h (some (.retAddr (am_ag y (2 * i + 1))), k) := by
  refine am_enter (n := 0) tk_163.2.1 (by simp [Value.category]) (Nat.le_of_ble_eq_true rfl) ?_
  show am_Good mi_163 0 [some (.ref 66), some (.retAddr i), some (.retAddr 1)] [] h _
  refine g_aload_n (i := 0) dd_163_0 rfl ?_
  refine g_iload_n (i := 1) dd_163_1 rfl ?_
  refine g_virtual (M' := mi_164) (n := 1) (ci := 12) (b := 66) (as := [.retAddr i]) (st := []) (r1 := (some (.retAddr 1), h)) w_1226 w_1228 ps_164 ⟨lk_164.1, lk_164.2.1, lk_164.2.2, by decide, by decide⟩ rfl q66 rfl (by simp [Value.category]) dd_163_2 (mwm_1 q66 f12 hz5 h1) ?_
  show am_Good mi_163 5 [some (.ref 66), some (.retAddr i), some (.retAddr 1)] [.retAddr 1] h _
  refine g_if_eq_f (t := 17) dd_163_5 (by decide) (by decide) ?_
  refine g_iload_n (i := 2) dd_163_8 rfl ?_
  refine g_iconst dd_163_9 ic_0 ?_
  refine g_iconst dd_163_10 ic_5 ?_
  refine g_static (M' := mi_133) (n := 3) (as := [.retAddr 1, .retAddr 0, .retAddr 5]) (st := []) (r1 := (some (.retAddr 1), h)) w_1106 w_1107 ⟨lk_133.1, lk_133.2.1, lk_133.2.2, by decide, by decide⟩ rfl (by simp [Value.category]) dd_163_11 (ri_1 (z := 6) (by decide) (by decide) (by decide)) ?_
  show am_Good mi_163 14 [some (.ref 66), some (.retAddr i), some (.retAddr 1)] [.retAddr 1] h _
  refine g_if_ne_t (t := 19) dd_163_14 (by decide) (by decide) ?_
  refine g_aload_n (i := 0) dd_163_19 rfl ?_
  refine g_iconst dd_163_20 ic_0 ?_
  refine g_bipush dd_163_21 bi_m4 ?_
  refine g_virtual (M' := mi_155) (n := 2) (ci := 12) (b := 66) (as := [.retAddr 0, .retAddr 4294967292]) (st := []) (r1 := (none, g)) w_1192 w_1194 ps_155 ⟨lk_155.1, lk_155.2.1, lk_155.2.2, by decide, by decide⟩ rfl q66 rfl (by simp [Value.category]) dd_163_23 (e1_) ?_
  show am_Good mi_163 26 [some (.ref 66), some (.retAddr i), some (.retAddr 1)] [] g _
  refine g_aload_n (i := 0) dd_163_26 rfl ?_
  refine g_iload_n (i := 1) dd_163_27 rfl ?_
  refine g_virtual (M' := mi_165) (n := 1) (ci := 12) (b := 66) (as := [.retAddr i]) (st := []) (r1 := (none, k)) w_1230 w_1232 ps_165 ⟨lk_165.1, lk_165.2.1, lk_165.2.2, by decide, by decide⟩ rfl q66g rfl (by simp [Value.category]) dd_163_28 (e2_) ?_
  show am_Good mi_163 31 [some (.ref 66), some (.retAddr i), some (.retAddr 1)] [] k _
  refine g_iload_n (i := 2) dd_163_31 rfl ?_
  refine g_tableIn (a := 1) (off := 36) (t := 68) dd_163_32 (by decide) (by decide) (by decide) rfl (by decide) ?_
  refine g_aload_n (i := 0) dd_163_68 rfl ?_
  refine g_getfield (k := 13) am_ck12 (by decide) (Or.inl w_948) dd_163_69 q66k f13 ?_
  refine g_iconst dd_163_72 ic_2 ?_
  refine g_iload_n (i := 1) dd_163_73 rfl ?_
  refine e_imul (v := 2 * i) dd_163_74 (by omega) ?_
  refine g_iload_n (i := 2) dd_163_75 rfl ?_
  refine e_iadd (v := 2 * i + 1) dd_163_76 (by omega) ?_
  refine g_iaload dd_163_77 a72 (by omega) (by decide) ?_
  have hl_1 := am_ag_lt y (2 * i + 1)
  exact g_ireturn rfl dd_163_78
theorem wam_k2 {h : am_H} {vs : List Value} {z5 i : Nat} (q66 : am_get h 66 = some (.inr (12, vs))) (f12 : vs[12]? = some (.retAddr z5)) (hz5 : z5 ≤ 4) (g_i : i < 4294967296) (h1 : i < z5) {g k : am_H} {ug uk : List Value} {wo se gn y : Nat} (q66g : am_get g 66 = some (.inr (12, ug))) (q66k : am_get k 66 = some (.inr (12, uk))) (f13 : uk[13]? = some (.ref 72)) (t4 : uk[36]? = some (.retAddr wo)) (t5 : uk[37]? = some (.retAddr se)) (t6 : uk[38]? = some (.retAddr gn)) (a72 : am_get k 72 = some (.inl (0, 8, y))) (e1_ : am_EG mi_155 [.ref 66, .retAddr 0, .retAddr 4294967292] h (none, g)) (e2_ : am_EG mi_165 [.ref 66, .retAddr i] g (none, k)) : am_EG mi_163 [.ref 66, .retAddr i, .retAddr 2] h (some (.retAddr wo), k) := by
  refine am_enter (n := 0) tk_163.2.1 (by simp [Value.category]) (Nat.le_of_ble_eq_true rfl) ?_
  show am_Good mi_163 0 [some (.ref 66), some (.retAddr i), some (.retAddr 2)] [] h _
  refine g_aload_n (i := 0) dd_163_0 rfl ?_
  refine g_iload_n (i := 1) dd_163_1 rfl ?_
  refine g_virtual (M' := mi_164) (n := 1) (ci := 12) (b := 66) (as := [.retAddr i]) (st := []) (r1 := (some (.retAddr 1), h)) w_1226 w_1228 ps_164 ⟨lk_164.1, lk_164.2.1, lk_164.2.2, by decide, by decide⟩ rfl q66 rfl (by simp [Value.category]) dd_163_2 (mwm_1 q66 f12 hz5 h1) ?_
  show am_Good mi_163 5 [some (.ref 66), some (.retAddr i), some (.retAddr 2)] [.retAddr 1] h _
  refine g_if_eq_f (t := 17) dd_163_5 (by decide) (by decide) ?_
  refine g_iload_n (i := 2) dd_163_8 rfl ?_
  refine g_iconst dd_163_9 ic_0 ?_
  refine g_iconst dd_163_10 ic_5 ?_
  refine g_static (M' := mi_133) (n := 3) (as := [.retAddr 2, .retAddr 0, .retAddr 5]) (st := []) (r1 := (some (.retAddr 1), h)) w_1106 w_1107 ⟨lk_133.1, lk_133.2.1, lk_133.2.2, by decide, by decide⟩ rfl (by simp [Value.category]) dd_163_11 (ri_1 (z := 6) (by decide) (by decide) (by decide)) ?_
  show am_Good mi_163 14 [some (.ref 66), some (.retAddr i), some (.retAddr 2)] [.retAddr 1] h _
  refine g_if_ne_t (t := 19) dd_163_14 (by decide) (by decide) ?_
  refine g_aload_n (i := 0) dd_163_19 rfl ?_
  refine g_iconst dd_163_20 ic_0 ?_
  refine g_bipush dd_163_21 bi_m4 ?_
  refine g_virtual (M' := mi_155) (n := 2) (ci := 12) (b := 66) (as := [.retAddr 0, .retAddr 4294967292]) (st := []) (r1 := (none, g)) w_1192 w_1194 ps_155 ⟨lk_155.1, lk_155.2.1, lk_155.2.2, by decide, by decide⟩ rfl q66 rfl (by simp [Value.category]) dd_163_23 (e1_) ?_
  show am_Good mi_163 26 [some (.ref 66), some (.retAddr i), some (.retAddr 2)] [] g _
  refine g_aload_n (i := 0) dd_163_26 rfl ?_
  refine g_iload_n (i := 1) dd_163_27 rfl ?_
  refine g_virtual (M' := mi_165) (n := 1) (ci := 12) (b := 66) (as := [.retAddr i]) (st := []) (r1 := (none, k)) w_1230 w_1232 ps_165 ⟨lk_165.1, lk_165.2.1, lk_165.2.2, by decide, by decide⟩ rfl q66g rfl (by simp [Value.category]) dd_163_28 (e2_) ?_
  show am_Good mi_163 31 [some (.ref 66), some (.retAddr i), some (.retAddr 2)] [] k _
  refine g_iload_n (i := 2) dd_163_31 rfl ?_
  refine g_tableIn (a := 2) (off := 47) (t := 79) dd_163_32 (by decide) (by decide) (by decide) rfl (by decide) ?_
  refine g_aload_n (i := 0) dd_163_79 rfl ?_
  refine g_getfield (k := 36) am_ck12 (by decide) (Or.inl w_971) dd_163_80 q66k t4 ?_
  exact g_ireturn rfl dd_163_83
theorem wam_k3 {h : am_H} {vs : List Value} {z5 i : Nat} (q66 : am_get h 66 = some (.inr (12, vs))) (f12 : vs[12]? = some (.retAddr z5)) (hz5 : z5 ≤ 4) (g_i : i < 4294967296) (h1 : i < z5) {g k : am_H} {ug uk : List Value} {wo se gn y : Nat} (q66g : am_get g 66 = some (.inr (12, ug))) (q66k : am_get k 66 = some (.inr (12, uk))) (f13 : uk[13]? = some (.ref 72)) (t4 : uk[36]? = some (.retAddr wo)) (t5 : uk[37]? = some (.retAddr se)) (t6 : uk[38]? = some (.retAddr gn)) (a72 : am_get k 72 = some (.inl (0, 8, y))) (e1_ : am_EG mi_155 [.ref 66, .retAddr 0, .retAddr 4294967292] h (none, g)) (e2_ : am_EG mi_165 [.ref 66, .retAddr i] g (none, k)) {ck : Nat} (e3_ : am_EG mi_162 [.ref 66, .retAddr se] k (some (.retAddr ck), k)) : am_EG mi_163 [.ref 66, .retAddr i, .retAddr 3] h (some (.retAddr ck), k) := by
  refine am_enter (n := 0) tk_163.2.1 (by simp [Value.category]) (Nat.le_of_ble_eq_true rfl) ?_
  show am_Good mi_163 0 [some (.ref 66), some (.retAddr i), some (.retAddr 3)] [] h _
  refine g_aload_n (i := 0) dd_163_0 rfl ?_
  refine g_iload_n (i := 1) dd_163_1 rfl ?_
  refine g_virtual (M' := mi_164) (n := 1) (ci := 12) (b := 66) (as := [.retAddr i]) (st := []) (r1 := (some (.retAddr 1), h)) w_1226 w_1228 ps_164 ⟨lk_164.1, lk_164.2.1, lk_164.2.2, by decide, by decide⟩ rfl q66 rfl (by simp [Value.category]) dd_163_2 (mwm_1 q66 f12 hz5 h1) ?_
  show am_Good mi_163 5 [some (.ref 66), some (.retAddr i), some (.retAddr 3)] [.retAddr 1] h _
  refine g_if_eq_f (t := 17) dd_163_5 (by decide) (by decide) ?_
  refine g_iload_n (i := 2) dd_163_8 rfl ?_
  refine g_iconst dd_163_9 ic_0 ?_
  refine g_iconst dd_163_10 ic_5 ?_
  refine g_static (M' := mi_133) (n := 3) (as := [.retAddr 3, .retAddr 0, .retAddr 5]) (st := []) (r1 := (some (.retAddr 1), h)) w_1106 w_1107 ⟨lk_133.1, lk_133.2.1, lk_133.2.2, by decide, by decide⟩ rfl (by simp [Value.category]) dd_163_11 (ri_1 (z := 6) (by decide) (by decide) (by decide)) ?_
  show am_Good mi_163 14 [some (.ref 66), some (.retAddr i), some (.retAddr 3)] [.retAddr 1] h _
  refine g_if_ne_t (t := 19) dd_163_14 (by decide) (by decide) ?_
  refine g_aload_n (i := 0) dd_163_19 rfl ?_
  refine g_iconst dd_163_20 ic_0 ?_
  refine g_bipush dd_163_21 bi_m4 ?_
  refine g_virtual (M' := mi_155) (n := 2) (ci := 12) (b := 66) (as := [.retAddr 0, .retAddr 4294967292]) (st := []) (r1 := (none, g)) w_1192 w_1194 ps_155 ⟨lk_155.1, lk_155.2.1, lk_155.2.2, by decide, by decide⟩ rfl q66 rfl (by simp [Value.category]) dd_163_23 (e1_) ?_
  show am_Good mi_163 26 [some (.ref 66), some (.retAddr i), some (.retAddr 3)] [] g _
  refine g_aload_n (i := 0) dd_163_26 rfl ?_
  refine g_iload_n (i := 1) dd_163_27 rfl ?_
  refine g_virtual (M' := mi_165) (n := 1) (ci := 12) (b := 66) (as := [.retAddr i]) (st := []) (r1 := (none, k)) w_1230 w_1232 ps_165 ⟨lk_165.1, lk_165.2.1, lk_165.2.2, by decide, by decide⟩ rfl q66g rfl (by simp [Value.category]) dd_163_28 (e2_) ?_
  show am_Good mi_163 31 [some (.ref 66), some (.retAddr i), some (.retAddr 3)] [] k _
  refine g_iload_n (i := 2) dd_163_31 rfl ?_
  refine g_tableIn (a := 3) (off := 52) (t := 84) dd_163_32 (by decide) (by decide) (by decide) rfl (by decide) ?_
  refine g_aload_n (i := 0) dd_163_84 rfl ?_
  refine g_aload_n (i := 0) dd_163_85 rfl ?_
  refine g_getfield (k := 37) am_ck12 (by decide) (Or.inl w_972) dd_163_86 q66k t5 ?_
  refine g_virtual (M' := mi_162) (n := 1) (ci := 12) (b := 66) (as := [.retAddr se]) (st := []) (r1 := (some (.retAddr ck), k)) w_1218 w_1220 ps_162 ⟨lk_162.1, lk_162.2.1, lk_162.2.2, by decide, by decide⟩ rfl q66k rfl (by simp [Value.category]) dd_163_89 (e3_) ?_
  show am_Good mi_163 92 [some (.ref 66), some (.retAddr i), some (.retAddr 3)] [.retAddr ck] k _
  exact g_ireturn rfl dd_163_92
theorem wam_k4 {h : am_H} {vs : List Value} {z5 i : Nat} (q66 : am_get h 66 = some (.inr (12, vs))) (f12 : vs[12]? = some (.retAddr z5)) (hz5 : z5 ≤ 4) (g_i : i < 4294967296) (h1 : i < z5) {g k : am_H} {ug uk : List Value} {wo se gn y : Nat} (q66g : am_get g 66 = some (.inr (12, ug))) (q66k : am_get k 66 = some (.inr (12, uk))) (f13 : uk[13]? = some (.ref 72)) (t4 : uk[36]? = some (.retAddr wo)) (t5 : uk[37]? = some (.retAddr se)) (t6 : uk[38]? = some (.retAddr gn)) (a72 : am_get k 72 = some (.inl (0, 8, y))) (e1_ : am_EG mi_155 [.ref 66, .retAddr 0, .retAddr 4294967292] h (none, g)) (e2_ : am_EG mi_165 [.ref 66, .retAddr i] g (none, k)) : am_EG mi_163 [.ref 66, .retAddr i, .retAddr 4] h (some (.retAddr gn), k) := by
  refine am_enter (n := 0) tk_163.2.1 (by simp [Value.category]) (Nat.le_of_ble_eq_true rfl) ?_
  show am_Good mi_163 0 [some (.ref 66), some (.retAddr i), some (.retAddr 4)] [] h _
  refine g_aload_n (i := 0) dd_163_0 rfl ?_
  refine g_iload_n (i := 1) dd_163_1 rfl ?_
  refine g_virtual (M' := mi_164) (n := 1) (ci := 12) (b := 66) (as := [.retAddr i]) (st := []) (r1 := (some (.retAddr 1), h)) w_1226 w_1228 ps_164 ⟨lk_164.1, lk_164.2.1, lk_164.2.2, by decide, by decide⟩ rfl q66 rfl (by simp [Value.category]) dd_163_2 (mwm_1 q66 f12 hz5 h1) ?_
  show am_Good mi_163 5 [some (.ref 66), some (.retAddr i), some (.retAddr 4)] [.retAddr 1] h _
  refine g_if_eq_f (t := 17) dd_163_5 (by decide) (by decide) ?_
  refine g_iload_n (i := 2) dd_163_8 rfl ?_
  refine g_iconst dd_163_9 ic_0 ?_
  refine g_iconst dd_163_10 ic_5 ?_
  refine g_static (M' := mi_133) (n := 3) (as := [.retAddr 4, .retAddr 0, .retAddr 5]) (st := []) (r1 := (some (.retAddr 1), h)) w_1106 w_1107 ⟨lk_133.1, lk_133.2.1, lk_133.2.2, by decide, by decide⟩ rfl (by simp [Value.category]) dd_163_11 (ri_1 (z := 6) (by decide) (by decide) (by decide)) ?_
  show am_Good mi_163 14 [some (.ref 66), some (.retAddr i), some (.retAddr 4)] [.retAddr 1] h _
  refine g_if_ne_t (t := 19) dd_163_14 (by decide) (by decide) ?_
  refine g_aload_n (i := 0) dd_163_19 rfl ?_
  refine g_iconst dd_163_20 ic_0 ?_
  refine g_bipush dd_163_21 bi_m4 ?_
  refine g_virtual (M' := mi_155) (n := 2) (ci := 12) (b := 66) (as := [.retAddr 0, .retAddr 4294967292]) (st := []) (r1 := (none, g)) w_1192 w_1194 ps_155 ⟨lk_155.1, lk_155.2.1, lk_155.2.2, by decide, by decide⟩ rfl q66 rfl (by simp [Value.category]) dd_163_23 (e1_) ?_
  show am_Good mi_163 26 [some (.ref 66), some (.retAddr i), some (.retAddr 4)] [] g _
  refine g_aload_n (i := 0) dd_163_26 rfl ?_
  refine g_iload_n (i := 1) dd_163_27 rfl ?_
  refine g_virtual (M' := mi_165) (n := 1) (ci := 12) (b := 66) (as := [.retAddr i]) (st := []) (r1 := (none, k)) w_1230 w_1232 ps_165 ⟨lk_165.1, lk_165.2.1, lk_165.2.2, by decide, by decide⟩ rfl q66g rfl (by simp [Value.category]) dd_163_28 (e2_) ?_
  show am_Good mi_163 31 [some (.ref 66), some (.retAddr i), some (.retAddr 4)] [] k _
  refine g_iload_n (i := 2) dd_163_31 rfl ?_
  refine g_tableIn (a := 4) (off := 61) (t := 93) dd_163_32 (by decide) (by decide) (by decide) rfl (by decide) ?_
  refine g_aload_n (i := 0) dd_163_93 rfl ?_
  refine g_getfield (k := 38) am_ck12 (by decide) (Or.inl w_973) dd_163_94 q66k t6 ?_
  exact g_ireturn rfl dd_163_97
theorem wam_k5 {h : am_H} {vs : List Value} {z5 i : Nat} (q66 : am_get h 66 = some (.inr (12, vs))) (f12 : vs[12]? = some (.retAddr z5)) (hz5 : z5 ≤ 4) (g_i : i < 4294967296) (h1 : i < z5) {g k : am_H} {ug uk : List Value} {wo se gn y : Nat} (q66g : am_get g 66 = some (.inr (12, ug))) (q66k : am_get k 66 = some (.inr (12, uk))) (f13 : uk[13]? = some (.ref 72)) (t4 : uk[36]? = some (.retAddr wo)) (t5 : uk[37]? = some (.retAddr se)) (t6 : uk[38]? = some (.retAddr gn)) (a72 : am_get k 72 = some (.inl (0, 8, y))) (e1_ : am_EG mi_155 [.ref 66, .retAddr 0, .retAddr 4294967292] h (none, g)) (e2_ : am_EG mi_165 [.ref 66, .retAddr i] g (none, k)) {m : am_H} {um : List Value} {cm : Nat} (q66m : am_get m 66 = some (.inr (12, um))) (m13 : um[13]? = some (.ref 72)) (m36 : um[36]? = some (.retAddr wo)) (m46 : um[46]? = some (.ref 88)) (m72 : am_get m 72 = some (.inl (0, 8, y))) (m88 : am_get m 88 = some (.inl (0, 256, cm))) (ho : am_ag y (2 * i + 1) < 4) (e4_ : am_EG mi_172 [.ref 66] k (none, m)) : am_EG mi_163 [.ref 66, .retAddr i, .retAddr 5] h (some (.retAddr ((am_ag cm (am_ag y (2 * i + 1)) + (4294967296 - wo % 4294967296)) % 4294967296)), m) := by
  refine am_enter (n := 0) tk_163.2.1 (by simp [Value.category]) (Nat.le_of_ble_eq_true rfl) ?_
  show am_Good mi_163 0 [some (.ref 66), some (.retAddr i), some (.retAddr 5)] [] h _
  refine g_aload_n (i := 0) dd_163_0 rfl ?_
  refine g_iload_n (i := 1) dd_163_1 rfl ?_
  refine g_virtual (M' := mi_164) (n := 1) (ci := 12) (b := 66) (as := [.retAddr i]) (st := []) (r1 := (some (.retAddr 1), h)) w_1226 w_1228 ps_164 ⟨lk_164.1, lk_164.2.1, lk_164.2.2, by decide, by decide⟩ rfl q66 rfl (by simp [Value.category]) dd_163_2 (mwm_1 q66 f12 hz5 h1) ?_
  show am_Good mi_163 5 [some (.ref 66), some (.retAddr i), some (.retAddr 5)] [.retAddr 1] h _
  refine g_if_eq_f (t := 17) dd_163_5 (by decide) (by decide) ?_
  refine g_iload_n (i := 2) dd_163_8 rfl ?_
  refine g_iconst dd_163_9 ic_0 ?_
  refine g_iconst dd_163_10 ic_5 ?_
  refine g_static (M' := mi_133) (n := 3) (as := [.retAddr 5, .retAddr 0, .retAddr 5]) (st := []) (r1 := (some (.retAddr 1), h)) w_1106 w_1107 ⟨lk_133.1, lk_133.2.1, lk_133.2.2, by decide, by decide⟩ rfl (by simp [Value.category]) dd_163_11 (ri_1 (z := 6) (by decide) (by decide) (by decide)) ?_
  show am_Good mi_163 14 [some (.ref 66), some (.retAddr i), some (.retAddr 5)] [.retAddr 1] h _
  refine g_if_ne_t (t := 19) dd_163_14 (by decide) (by decide) ?_
  refine g_aload_n (i := 0) dd_163_19 rfl ?_
  refine g_iconst dd_163_20 ic_0 ?_
  refine g_bipush dd_163_21 bi_m4 ?_
  refine g_virtual (M' := mi_155) (n := 2) (ci := 12) (b := 66) (as := [.retAddr 0, .retAddr 4294967292]) (st := []) (r1 := (none, g)) w_1192 w_1194 ps_155 ⟨lk_155.1, lk_155.2.1, lk_155.2.2, by decide, by decide⟩ rfl q66 rfl (by simp [Value.category]) dd_163_23 (e1_) ?_
  show am_Good mi_163 26 [some (.ref 66), some (.retAddr i), some (.retAddr 5)] [] g _
  refine g_aload_n (i := 0) dd_163_26 rfl ?_
  refine g_iload_n (i := 1) dd_163_27 rfl ?_
  refine g_virtual (M' := mi_165) (n := 1) (ci := 12) (b := 66) (as := [.retAddr i]) (st := []) (r1 := (none, k)) w_1230 w_1232 ps_165 ⟨lk_165.1, lk_165.2.1, lk_165.2.2, by decide, by decide⟩ rfl q66g rfl (by simp [Value.category]) dd_163_28 (e2_) ?_
  show am_Good mi_163 31 [some (.ref 66), some (.retAddr i), some (.retAddr 5)] [] k _
  refine g_iload_n (i := 2) dd_163_31 rfl ?_
  refine g_tableOut (t := 98) dd_163_32 (by decide) (by decide) (by decide) (by decide) ?_
  refine g_aload_n (i := 0) dd_163_98 rfl ?_
  refine g_virtual (M' := mi_172) (n := 0) (ci := 12) (b := 66) (as := []) (st := []) (r1 := (none, m)) w_1258 w_1260 ps_172 ⟨lk_172.1, lk_172.2.1, lk_172.2.2, by decide, by decide⟩ rfl q66k rfl (by simp [Value.category]) dd_163_99 (e4_) ?_
  show am_Good mi_163 102 [some (.ref 66), some (.retAddr i), some (.retAddr 5)] [] m _
  refine g_aload_n (i := 0) dd_163_102 rfl ?_
  refine g_getfield (k := 46) am_ck12 (by decide) (Or.inl w_981) dd_163_103 q66m m46 ?_
  refine g_aload_n (i := 0) dd_163_106 rfl ?_
  refine g_getfield (k := 13) am_ck12 (by decide) (Or.inl w_948) dd_163_107 q66m m13 ?_
  refine g_iconst dd_163_110 ic_2 ?_
  refine g_iload_n (i := 1) dd_163_111 rfl ?_
  refine e_imul (v := 2 * i) dd_163_112 (by omega) ?_
  refine g_iconst dd_163_113 ic_1 ?_
  refine e_iadd (v := 2 * i + 1) dd_163_114 (by omega) ?_
  refine g_iaload dd_163_115 m72 (by omega) (by decide) ?_
  have hl_1 := am_ag_lt y (2 * i + 1)
  refine g_iaload dd_163_116 m88 (by omega) (by decide) ?_
  have hl_2 := am_ag_lt cm (am_ag y (2 * i + 1))
  refine g_aload_n (i := 0) dd_163_117 rfl ?_
  refine g_getfield (k := 36) am_ck12 (by decide) (Or.inl w_971) dd_163_118 q66m m36 ?_
  refine e_isub (v := (am_ag cm (am_ag y (2 * i + 1)) + (4294967296 - wo % 4294967296)) % 4294967296) dd_163_121 rfl ?_
  exact g_ireturn rfl dd_163_122
/-- what is told of a watcher -/
def wa_v (mi go : Nat) (Z Y : Nat → Nat) (T : Nat → Nat → Nat) (x y : Nat) : Nat := if y = 0 then am_ag (Y 5) (2 * x) else if y = 1 then am_ag (Y 5) (2 * x + 1) else if y = 2 then (wkA Z Y 0 4294967292 go mi (am_ag (Y 5) (2 * x)) (am_ag (Y 5) (2 * x + 1))).2.2.1 else if y = 3 then cl_k (Y 4) (Z 4) 6 (wkA Z Y 0 4294967292 go mi (am_ag (Y 5) (2 * x)) (am_ag (Y 5) (2 * x + 1))).2.2.2.1 else if y = 4 then (wkA Z Y 0 4294967292 go mi (am_ag (Y 5) (2 * x)) (am_ag (Y 5) (2 * x + 1))).2.2.2.2 else (T 0 (am_ag (Y 5) (2 * x + 1)) + (4294967296 - (wkA Z Y 0 4294967292 go mi (am_ag (Y 5) (2 * x)) (am_ag (Y 5) (2 * x + 1))).2.2.1 % 4294967296)) % 4294967296
theorem wa_x {h : am_H} (hJ : Jv h) {E mi go : Nat} {Z X Y : Nat → Nat} (hA : je_A h E mi go Z X Y) {x y : Nat} (hx : x < 4294967296) (hs : x < Z 5) (hi : y ≤ 5) : ∃ G g, rt_R (fun s t => sc_W Z Y 0 4294967292 s t) (rt_T G mi) go (Z 0) mi 0 ∧ am_EG mi_58 [.ref 0, .retAddr x, .retAddr y] h (some (.retAddr (wa_v mi go Z Y (rt_T G mi) x y)), g) ∧ Jv g ∧ je_A g E mi go Z X Y ∧ (g.1 = h.1 ∧ g.2.1 = h.2.1) := by
  obtain ⟨v0, q0, x3, -, x6, -, -, -, -, qE, r0, -, r5, -, -, -, -⟩ := je_xo hA
  have hP := hA.2.2.2.1
  have p1 := hP.1
  have z0 : Z 0 ≤ 4 := hP.2.1 0 (by decide)
  have z5 : Z 5 ≤ 4 := hP.2.1 5 (by decide)
  have hBY : je_B Z Y := je_bY hP.2.1 hP.2.2.1
  have oy := hP.2.2.2.2 x hs
  obtain ⟨k, e2, J2, A2, sz2, ⟨t4, t5, t6⟩, -⟩ := fo_q hJ hA (Or.inl ⟨rfl, rfl, rfl, rfl⟩) (scR_32 hA) hs
  obtain ⟨c0, k0, k3, k5, -, -, k8, k9, -, kE, -, -, kr5, kx5, -, -, k30⟩ := je_xo A2
  obtain ⟨u40, p40⟩ := je_40 J2.1
  obtain ⟨-, ⟨G, g44, f43, hR⟩, -⟩ := A2.2.2.2.2.2
  have c43 : am_get k 43 = some (.inr (7, [.ref 44, .retAddr mi, .retAddr (fldv k 43 2), .retAddr (fldv k 43 3)])) := by
    rcases A2.1 with ⟨-, i⟩ | ⟨-, i⟩
    · have e := oz1_c43 i; rw [fldv_fv f43] at e; exact e
    · have e := oz0_c43 i; rw [fldv_fv f43] at e; exact e
  have a0 : am_ag (X 5) (2 * x + 0) = am_ag (Y 5) (2 * x) := hP.2.2.2.1 5 (by decide) (2 * x) (show 2 * x < Z 5 * 2 by omega)
  have a1 : am_ag (X 5) (2 * x + 1) = am_ag (Y 5) (2 * x + 1) := hP.2.2.2.1 5 (by decide) (2 * x + 1) (show 2 * x + 1 < Z 5 * 2 by omega)
  refine ⟨G, k, hR, ?_, J2, A2, sz2⟩
  have hy : y = 0 ∨ y = 1 ∨ y = 2 ∨ y = 3 ∨ y = 4 ∨ y = 5 := by omega
  rcases hy with rfl | rfl | rfl | rfl | rfl | rfl
  · have e3 := kg_kof kE rfl kr5 kx5 z5 hs
    rw [a0] at e3
    exact wax_k0 q0 x3 qE rfl rfl rfl rfl r0 rfl r5 rfl p1.2.1 z0 z5 x6 hx hs k0 k3 k5 k8 k9 kE p40 (fvg p40 t4) (fvg p40 t5) (fvg p40 t6) k30 c43 e2 e3
  · have e3 := kg_oof kE rfl kr5 kx5 z5 hs
    rw [a1] at e3
    exact wax_k1 q0 x3 qE rfl rfl rfl rfl r0 rfl r5 rfl p1.2.1 z0 z5 x6 hx hs k0 k3 k5 k8 k9 kE p40 (fvg p40 t4) (fvg p40 t5) (fvg p40 t6) k30 c43 e2 e3
  · exact wax_k2 q0 x3 qE rfl rfl rfl rfl r0 rfl r5 rfl p1.2.1 z0 z5 x6 hx hs k0 k3 k5 k8 k9 kE p40 (fvg p40 t4) (fvg p40 t5) (fvg p40 t6) k30 c43 e2
  · obtain ⟨-, -, -, b4, -⟩ := wkA_b (come := 0) (wo := 4294967292) (kind := am_ag (Y 5) (2 * x)) hBY oy p1.2.2.1 p1.2.1
    have e3 := (cl_q J2 A2).1 _ (Nat.lt_succ_of_le b4)
    exact wax_k3 q0 x3 qE rfl rfl rfl rfl r0 rfl r5 rfl p1.2.1 z0 z5 x6 hx hs k0 k3 k5 k8 k9 kE p40 (fvg p40 t4) (fvg p40 t5) (fvg p40 t6) k30 c43 e2 e3
  · exact wax_k4 q0 x3 qE rfl rfl rfl rfl r0 rfl r5 rfl p1.2.1 z0 z5 x6 hx hs k0 k3 k5 k8 k9 kE p40 (fvg p40 t4) (fvg p40 t5) (fvg p40 t6) k30 c43 e2
  · have e3 := kg_oof kE rfl kr5 kx5 z5 hs
    rw [a1] at e3
    have rk : rv_ok k := ⟨⟨_, c43⟩, ⟨_, g44⟩, trivial⟩
    have own : rv k mi (fldv k 43 2) (fldv k 43 3) G = k := by
      unfold rv
      exact am_ups_00 ⟨c43, g44, trivial⟩
    have e4 := rw_f (mi := mi) (fm := fldv k 43 2) (fs := fldv k 43 3) (G := G) rk (s := am_ag (Y 5) (2 * x + 1)) (t := 0) (by omega) (by omega) p1.2.1
    rw [own] at e4
    exact wax_k5 q0 x3 qE rfl rfl rfl rfl r0 rfl r5 rfl p1.2.1 z0 z5 x6 hx hs k0 k3 k5 k8 k9 kE p40 (fvg p40 t4) (fvg p40 t5) (fvg p40 t6) k30 c43 e2 e3 e4
theorem wa_m {h : am_H} (hJ : Jv h) {E mi go : Nat} {Z X Y : Nat → Nat} (hA : je_A h E mi go Z X Y) {G : Nat} (hG : rt_R (fun s t => sc_W Z Y 0 4294967292 s t) (rt_T G mi) go (Z 0) mi 0) {x y : Nat} (hx : x < 4294967296) (hs : x < Z 5) (hi : y ≤ 5) : ∃ g, am_EG mi_163 [.ref 66, .retAddr x, .retAddr y] h (some (.retAddr (wa_v mi go Z Y (rt_T G mi) x y)), g) ∧ Jv g ∧ (g.1 = h.1 ∧ g.2.1 = h.2.1) := by
  have hP := hA.2.2.2.1
  have p1 := hP.1
  have z0 : Z 0 ≤ 4 := hP.2.1 0 (by decide)
  have z5 : Z 5 ≤ 4 := hP.2.1 5 (by decide)
  have hBY : je_B Z Y := je_bY hP.2.1 hP.2.2.1
  have oy := hP.2.2.2.2 x hs
  obtain ⟨us, u66⟩ := jv_g66 hJ.1
  have f12 := fvg u66 (hA.2.2.1.2.2 5 (by decide)).1
  obtain ⟨g, e1, J1, A1, sz1, S1⟩ := lc_x hJ hA (come := 0) (wo := 4294967292) (by decide) (by decide)
  obtain ⟨k, e2, J2, A2, sz2, ⟨t4, t5, t6⟩, r81, -, -⟩ := wf_q J1 A1 S1 hs
  obtain ⟨ug, q66g⟩ := jv_g66 J1.1
  obtain ⟨uk, q66k, -, f, -⟩ := jy_obj J2.1.2 (a := 66) rfl
  have f13 : uk[13]? = some (.ref 72) := f 13 _ _ rfl
  have a72 : am_get k 72 = some (.inl (0, 8, Y 5)) := (A2.2.2.1.2.2 5 (by decide)).2
  have sz : k.1 = h.1 ∧ k.2.1 = h.2.1 := ⟨sz2.1.trans sz1.1, sz2.2.trans sz1.2⟩
  have hy : y = 0 ∨ y = 1 ∨ y = 2 ∨ y = 3 ∨ y = 4 ∨ y = 5 := by omega
  rcases hy with rfl | rfl | rfl | rfl | rfl | rfl
  · exact ⟨k, wam_k0 u66 f12 z5 hx hs q66g q66k f13 (fvg q66k t4) (fvg q66k t5) (fvg q66k t6) a72 e1 e2, J2, sz⟩
  · exact ⟨k, wam_k1 u66 f12 z5 hx hs q66g q66k f13 (fvg q66k t4) (fvg q66k t5) (fvg q66k t6) a72 e1 e2, J2, sz⟩
  · exact ⟨k, wam_k2 u66 f12 z5 hx hs q66g q66k f13 (fvg q66k t4) (fvg q66k t5) (fvg q66k t6) a72 e1 e2, J2, sz⟩
  · obtain ⟨-, -, -, b4, -⟩ := wkA_b (come := 0) (wo := 4294967292) (kind := am_ag (Y 5) (2 * x)) hBY oy p1.2.2.1 p1.2.1
    have e3 := (cl_q J2 A2).2 _ (Nat.lt_succ_of_le b4)
    exact ⟨k, wam_k3 u66 f12 z5 hx hs q66g q66k f13 (fvg q66k t4) (fvg q66k t5) (fvg q66k t6) a72 e1 e2 e3, J2, sz⟩
  · exact ⟨k, wam_k4 u66 f12 z5 hx hs q66g q66k f13 (fvg q66k t4) (fvg q66k t5) (fvg q66k t6) a72 e1 e2, J2, sz⟩
  · obtain ⟨c1, cm, hH'⟩ := mo_H J2 A2
    have e81 : rowv k 81 = c1 := by
      obtain ⟨vs, -, -, -, -, -, -, a81, -⟩ := hH'
      unfold rowv
      rw [a81]
    have ew : ∀ t, t < mi → ∀ s, s < Z 0 → am_ag c1 (64 * s + t) = sc_W Z Y 0 4294967292 s t := fun t ht s hs => by
      rw [← e81, r81]
      exact (S1 s hs t (by omega)).1
    have h99 : ∀ s t, s < Z 0 → t < mi → am_ag c1 (64 * s + t) ≤ 99 := fun s t hs ht => by
      rw [ew t ht s hs]
      exact Nat.le_trans (rt_W9 hBY 0 4294967292 s t hs) (by decide)
    obtain ⟨cf, hR, m1⟩ := mr_layMost hH' p1.1 p1.2.1 (by omega) z0 h99
    obtain ⟨m2, m3⟩ := jm_M_I hH' ((ax_I_to st_mcs).mp J2.1.2) cf
    have hM := jm_M_H hH' cf
    obtain ⟨um, q66m, -, -, -, -, m46, -, m88⟩ := hM
    have mu : ∀ a, a ≠ 88 → am_get (jm_M k cf) a = am_get k a := fun a ha => by
      obtain ⟨vs, -, -, -, -, -, -, -, a88⟩ := hH'
      unfold jm_M
      rw [am_get_upd a88, if_neg ha]
    have em : um = uk := by
      have q := (mu 66 (by decide)).trans q66k
      rw [q66m] at q
      cases q
      rfl
    subst em
    have eT : mr_T cf 0 (am_ag (Y 5) (2 * x + 1)) = rt_T G mi 0 (am_ag (Y 5) (2 * x + 1)) := rt_one (fun t ht s hs => ew t ht s hs) hR hG mi 0 (by omega) _ oy
    have ev : mr_T cf 0 (am_ag (Y 5) (2 * x + 1)) = am_ag cf (am_ag (Y 5) (2 * x + 1)) := by
      unfold mr_T
      rw [if_pos (by decide), Nat.mul_zero, Nat.zero_add]
    have e := wam_k5 u66 f12 z5 hx hs q66g q66k f13 (fvg q66k t4) (fvg q66k t5) (fvg q66k t6) a72 e1 e2 q66m f13 (fvg q66k t4) m46 ((mu 72 (by decide)).trans a72) m88 (by omega) m1
    rw [← ev, eT] at e
    exact ⟨jm_M k cf, e, jm_Jv J2 m2 m3, m3.1.trans sz.1, m3.2.1.trans sz.2⟩
theorem jb_watcher (x y : Nat) (hx : x < 4294967296) (hy : y < 4294967296) : am_B2 Jv true 58 163 [.retAddr x, .retAddr y] := by
  intro h hJ
  obtain ⟨E, mi, go, Z, X, Y, hA⟩ := je_ex hJ
  obtain ⟨v0, q0, x3, -, x6, -, -, -, -, qE, r0, -, r5, -, -, -, -⟩ := je_xo hA
  have hP := hA.2.2.2.1
  have p1 := hP.1
  have z0 : Z 0 ≤ 4 := hP.2.1 0 (by decide)
  have z5 : Z 5 ≤ 4 := hP.2.1 5 (by decide)
  obtain ⟨vs, q66⟩ := jv_g66 hJ.1
  have f12 := fvg q66 (hA.2.2.1.2.2 5 (by decide)).1
  by_cases h1 : x < Z 5
  case neg => exact je_fin hJ (wax_0 q0 x3 qE rfl rfl rfl rfl r0 rfl r5 rfl p1.2.1 z0 z5 x6 hx h1) (wam_0 q66 f12 z5 hx h1)
  by_cases h3 : y ≤ 5
  case neg => exact je_fin hJ (wax_r q0 x3 qE rfl rfl rfl rfl r0 rfl r5 rfl p1.2.1 z0 z5 x6 hx hy h1 h3) (wam_r q66 f12 z5 hx hy h1 h3)
  obtain ⟨G, k, hR, ex, J1, A1, sz1⟩ := wa_x hJ hA hx h1 h3
  obtain ⟨g2, em, J2, sz2⟩ := wa_m J1 A1 hR hx h1 h3
  obtain ⟨us, u66⟩ := jv_g66 J1.1
  exact ⟨_, k, _, g2, ex, em, fun _ => rfl, J2, ⟨v0, q0⟩, ⟨us, u66⟩, sz1, sz2⟩
