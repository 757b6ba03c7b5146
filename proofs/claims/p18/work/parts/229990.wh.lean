/-! ===== following a watcher, in both ===== -/
theorem ok_r2 {n x w b : Nat} (hb : b < 4294967292) (h : ∀ i, i < n → am_ag x i ≤ b ∨ am_ag x i = 4294967292) : ax_ok (.inl (0, n, w, [[(0, b), (4294967292, 4294967292)]])) (.inl (0, n, x)) := by
  refine ⟨rfl, rfl, fun i hi => ⟨[(0, b), (4294967292, 4294967292)], ?_, ?_⟩⟩
  · show [[(0, b), (4294967292, 4294967292)]][i % 1]? = _
    rw [Nat.mod_one]
    rfl
  · rcases h i hi with q | q
    · exact ⟨by omega, (0, b), by simp, Nat.zero_le _, q⟩
    · rw [q]
      exact ⟨by decide, (4294967292, 4294967292), by simp, Nat.le_refl _, Nat.le_refl _⟩
theorem fo_kof {h : am_H} {W F B : Nat} (hH : xw_ok h) {E a0 a1 a2 a3 a4 a5 d0 d5 mi go n z5 y5 : Nat} {v0 : List Value} (nE : am_lk [(37, am_e0), (38, am_e0), (39, am_e0), (40, am_e0), (41, am_e0)] E = none) (n0 : am_lk [(37, am_e0), (38, am_e0), (39, am_e0), (40, am_e0), (41, am_e0)] a0 = none) (n5 : am_lk [(37, am_e0), (38, am_e0), (39, am_e0), (40, am_e0), (41, am_e0)] a5 = none) (nd : am_lk [(37, am_e0), (38, am_e0), (39, am_e0), (40, am_e0), (41, am_e0)] d5 = none) (q0 : am_get h 0 = some (.inr (11, v0))) (x3 : v0[3]? = some (.ref E)) (x8 : v0[8]? = some (.ref 40)) (qE : am_get h E = some (.inr (1, [.ref a0, .ref a1, .ref a2, .ref a3, .ref a4, .ref a5, .retAddr mi, .retAddr go]))) (r0 : am_get h a0 = some (.inr (8, [.ref d0, .retAddr 1, .retAddr 4, .retAddr n]))) (r5 : am_get h a5 = some (.inr (8, [.ref d5, .retAddr 2, .retAddr 4, .retAddr z5]))) (w5 : am_get h d5 = some (.inl (0, 45, y5))) (hz5 : z5 ≤ 4) (hB5 : ∀ i, i < z5 → am_ag y5 (2 * i + 0) ≤ 3 ∧ am_ag y5 (2 * i + 1) < n) {q : Nat} {vq : List Value} {fw ff : Nat → Nat → Nat} {fb : Nat → Nat → Bool} (qS : ∀ he fr wo se gn pl, am_get (xw h W F B he fr wo se gn pl) q = some (.inr (9, vq))) (cw : ∀ he fr wo se gn pl, ∀ s t, s < n → t < mi → am_EG mi_41 [.ref q, .retAddr s, .retAddr t] (xw h W F B he fr wo se gn pl) (some (.retAddr (fw s t)), xw h W F B he fr wo se gn pl)) (ck : ∀ he fr wo se gn pl, ∀ s t, s < n → t < mi → am_EG mi_68 [.ref q, .retAddr s, .retAddr t] (xw h W F B he fr wo se gn pl) (some (.retAddr (fbt (ff s t))), xw h W F B he fr wo se gn pl)) (c1 : ∀ he fr wo se gn pl, ∀ s t, s < n → t < mi → fb s t = true → am_EG mi_53 [.ref q, .retAddr s, .retAddr t] (xw h W F B he fr wo se gn pl) (some (.retAddr 1), xw h W F B he fr wo se gn pl)) (c0 : ∀ he fr wo se gn pl, ∀ s t, s < n → t < mi → ¬ fb s t = true → am_EG mi_53 [.ref q, .retAddr s, .retAddr t] (xw h W F B he fr wo se gn pl) (some (.retAddr 0), xw h W F B he fr wo se gn pl)) (hn : n ≤ 4) (hm : mi ≤ 60) (hgo : go ≤ 3) (h99 : ∀ s t, s < n → t < mi → fw s t ≤ 99) (h8 : ∀ s t, fbt (ff s t) < 256) {he fr wo se gn pl : Nat} {i : Nat} (hi : i < z5) : am_EG mi_69 [.ref E, .retAddr i] (xw h W F B he fr wo se gn pl) (some (.retAddr (am_ag y5 (2 * i + 0))), (xw h W F B he fr wo se gn pl)) := by
  refine am_enter (n := 0) tk_69.2.1 (by simp [Value.category]) (Nat.le_of_ble_eq_true rfl) ?_
  show am_Good mi_69 0 [some (.ref E), some (.retAddr i)] [] (xw h W F B he fr wo se gn pl) _
  refine g_aload_n (i := 0) dd_69_0 rfl ?_
  refine g_getfield (k := 5) am_ck1 (by decide) (Or.inl w_101) dd_69_1 ((xw_o hH nE).trans qE) rfl ?_
  refine g_iload_n (i := 1) dd_69_4 rfl ?_
  refine g_iconst dd_69_5 ic_0 ?_
  refine g_virtual (M' := mi_31) (n := 2) (ci := 8) (b := a5) (as := [.retAddr i, .retAddr 0]) (st := []) (r1 := (some (.retAddr (am_ag y5 (2 * i + 0))), (xw h W F B he fr wo se gn pl))) w_662 w_450 w_451 ⟨lk_31.1, lk_31.2.1, lk_31.2.2, by decide, by decide⟩ rfl ((xw_o hH n5).trans r5) rfl (by simp [Value.category]) dd_69_6 (cw2 ((xw_o hH n5).trans r5) ((xw_o hH nd).trans w5) (by omega) (by omega) hi (by decide)) ?_
  show am_Good mi_69 9 [some (.ref E), some (.retAddr i)] [.retAddr (am_ag y5 (2 * i + 0))] (xw h W F B he fr wo se gn pl) _
  exact g_ireturn rfl dd_69_9
theorem fo_oof {h : am_H} {W F B : Nat} (hH : xw_ok h) {E a0 a1 a2 a3 a4 a5 d0 d5 mi go n z5 y5 : Nat} {v0 : List Value} (nE : am_lk [(37, am_e0), (38, am_e0), (39, am_e0), (40, am_e0), (41, am_e0)] E = none) (n0 : am_lk [(37, am_e0), (38, am_e0), (39, am_e0), (40, am_e0), (41, am_e0)] a0 = none) (n5 : am_lk [(37, am_e0), (38, am_e0), (39, am_e0), (40, am_e0), (41, am_e0)] a5 = none) (nd : am_lk [(37, am_e0), (38, am_e0), (39, am_e0), (40, am_e0), (41, am_e0)] d5 = none) (q0 : am_get h 0 = some (.inr (11, v0))) (x3 : v0[3]? = some (.ref E)) (x8 : v0[8]? = some (.ref 40)) (qE : am_get h E = some (.inr (1, [.ref a0, .ref a1, .ref a2, .ref a3, .ref a4, .ref a5, .retAddr mi, .retAddr go]))) (r0 : am_get h a0 = some (.inr (8, [.ref d0, .retAddr 1, .retAddr 4, .retAddr n]))) (r5 : am_get h a5 = some (.inr (8, [.ref d5, .retAddr 2, .retAddr 4, .retAddr z5]))) (w5 : am_get h d5 = some (.inl (0, 45, y5))) (hz5 : z5 ≤ 4) (hB5 : ∀ i, i < z5 → am_ag y5 (2 * i + 0) ≤ 3 ∧ am_ag y5 (2 * i + 1) < n) {q : Nat} {vq : List Value} {fw ff : Nat → Nat → Nat} {fb : Nat → Nat → Bool} (qS : ∀ he fr wo se gn pl, am_get (xw h W F B he fr wo se gn pl) q = some (.inr (9, vq))) (cw : ∀ he fr wo se gn pl, ∀ s t, s < n → t < mi → am_EG mi_41 [.ref q, .retAddr s, .retAddr t] (xw h W F B he fr wo se gn pl) (some (.retAddr (fw s t)), xw h W F B he fr wo se gn pl)) (ck : ∀ he fr wo se gn pl, ∀ s t, s < n → t < mi → am_EG mi_68 [.ref q, .retAddr s, .retAddr t] (xw h W F B he fr wo se gn pl) (some (.retAddr (fbt (ff s t))), xw h W F B he fr wo se gn pl)) (c1 : ∀ he fr wo se gn pl, ∀ s t, s < n → t < mi → fb s t = true → am_EG mi_53 [.ref q, .retAddr s, .retAddr t] (xw h W F B he fr wo se gn pl) (some (.retAddr 1), xw h W F B he fr wo se gn pl)) (c0 : ∀ he fr wo se gn pl, ∀ s t, s < n → t < mi → ¬ fb s t = true → am_EG mi_53 [.ref q, .retAddr s, .retAddr t] (xw h W F B he fr wo se gn pl) (some (.retAddr 0), xw h W F B he fr wo se gn pl)) (hn : n ≤ 4) (hm : mi ≤ 60) (hgo : go ≤ 3) (h99 : ∀ s t, s < n → t < mi → fw s t ≤ 99) (h8 : ∀ s t, fbt (ff s t) < 256) {he fr wo se gn pl : Nat} {i : Nat} (hi : i < z5) : am_EG mi_70 [.ref E, .retAddr i] (xw h W F B he fr wo se gn pl) (some (.retAddr (am_ag y5 (2 * i + 1))), (xw h W F B he fr wo se gn pl)) := by
  refine am_enter (n := 0) tk_70.2.1 (by simp [Value.category]) (Nat.le_of_ble_eq_true rfl) ?_
  show am_Good mi_70 0 [some (.ref E), some (.retAddr i)] [] (xw h W F B he fr wo se gn pl) _
  refine g_aload_n (i := 0) dd_70_0 rfl ?_
  refine g_getfield (k := 5) am_ck1 (by decide) (Or.inl w_101) dd_70_1 ((xw_o hH nE).trans qE) rfl ?_
  refine g_iload_n (i := 1) dd_70_4 rfl ?_
  refine g_iconst dd_70_5 ic_1 ?_
  refine g_virtual (M' := mi_31) (n := 2) (ci := 8) (b := a5) (as := [.retAddr i, .retAddr 1]) (st := []) (r1 := (some (.retAddr (am_ag y5 (2 * i + 1))), (xw h W F B he fr wo se gn pl))) w_662 w_450 w_451 ⟨lk_31.1, lk_31.2.1, lk_31.2.2, by decide, by decide⟩ rfl ((xw_o hH n5).trans r5) rfl (by simp [Value.category]) dd_70_6 (cw2 ((xw_o hH n5).trans r5) ((xw_o hH nd).trans w5) (by omega) (by omega) hi (by decide)) ?_
  show am_Good mi_70 9 [some (.ref E), some (.retAddr i)] [.retAddr (am_ag y5 (2 * i + 1))] (xw h W F B he fr wo se gn pl) _
  exact g_ireturn rfl dd_70_9
theorem fo_m {h : am_H} {W F B : Nat} (hH : xw_ok h) {E a0 a1 a2 a3 a4 a5 d0 d5 mi go n z5 y5 : Nat} {v0 : List Value} (nE : am_lk [(37, am_e0), (38, am_e0), (39, am_e0), (40, am_e0), (41, am_e0)] E = none) (n0 : am_lk [(37, am_e0), (38, am_e0), (39, am_e0), (40, am_e0), (41, am_e0)] a0 = none) (n5 : am_lk [(37, am_e0), (38, am_e0), (39, am_e0), (40, am_e0), (41, am_e0)] a5 = none) (nd : am_lk [(37, am_e0), (38, am_e0), (39, am_e0), (40, am_e0), (41, am_e0)] d5 = none) (q0 : am_get h 0 = some (.inr (11, v0))) (x3 : v0[3]? = some (.ref E)) (x8 : v0[8]? = some (.ref 40)) (qE : am_get h E = some (.inr (1, [.ref a0, .ref a1, .ref a2, .ref a3, .ref a4, .ref a5, .retAddr mi, .retAddr go]))) (r0 : am_get h a0 = some (.inr (8, [.ref d0, .retAddr 1, .retAddr 4, .retAddr n]))) (r5 : am_get h a5 = some (.inr (8, [.ref d5, .retAddr 2, .retAddr 4, .retAddr z5]))) (w5 : am_get h d5 = some (.inl (0, 45, y5))) (hz5 : z5 ≤ 4) (hB5 : ∀ i, i < z5 → am_ag y5 (2 * i + 0) ≤ 3 ∧ am_ag y5 (2 * i + 1) < n) {q : Nat} {vq : List Value} {fw ff : Nat → Nat → Nat} {fb : Nat → Nat → Bool} (qS : ∀ he fr wo se gn pl, am_get (xw h W F B he fr wo se gn pl) q = some (.inr (9, vq))) (cw : ∀ he fr wo se gn pl, ∀ s t, s < n → t < mi → am_EG mi_41 [.ref q, .retAddr s, .retAddr t] (xw h W F B he fr wo se gn pl) (some (.retAddr (fw s t)), xw h W F B he fr wo se gn pl)) (ck : ∀ he fr wo se gn pl, ∀ s t, s < n → t < mi → am_EG mi_68 [.ref q, .retAddr s, .retAddr t] (xw h W F B he fr wo se gn pl) (some (.retAddr (fbt (ff s t))), xw h W F B he fr wo se gn pl)) (c1 : ∀ he fr wo se gn pl, ∀ s t, s < n → t < mi → fb s t = true → am_EG mi_53 [.ref q, .retAddr s, .retAddr t] (xw h W F B he fr wo se gn pl) (some (.retAddr 1), xw h W F B he fr wo se gn pl)) (c0 : ∀ he fr wo se gn pl, ∀ s t, s < n → t < mi → ¬ fb s t = true → am_EG mi_53 [.ref q, .retAddr s, .retAddr t] (xw h W F B he fr wo se gn pl) (some (.retAddr 0), xw h W F B he fr wo se gn pl)) (hn : n ≤ 4) (hm : mi ≤ 60) (hgo : go ≤ 3) (h99 : ∀ s t, s < n → t < mi → fw s t ≤ 99) (h8 : ∀ s t, fbt (ff s t) < 256) {he fr wo se gn pl : Nat} {i : Nat} (hi : i < z5) : am_EG mi_60 [.ref 0, .retAddr i, .ref q] (xw h W F B he fr wo se gn pl) (none, (xw h W F B ((wk fw ff fb n go (am_ag y5 (2 * i + 0)) (am_ag y5 (2 * i + 1)) mi).1) ((wk fw ff fb n go (am_ag y5 (2 * i + 0)) (am_ag y5 (2 * i + 1)) mi).2.1) ((wk fw ff fb n go (am_ag y5 (2 * i + 0)) (am_ag y5 (2 * i + 1)) mi).2.2.1) ((wk fw ff fb n go (am_ag y5 (2 * i + 0)) (am_ag y5 (2 * i + 1)) mi).2.2.2.1) ((wk fw ff fb n go (am_ag y5 (2 * i + 0)) (am_ag y5 (2 * i + 1)) mi).2.2.2.2) (zf (wk_p fw ff fb n go (am_ag y5 (2 * i + 0)) (am_ag y5 (2 * i + 1))) pl mi))) := by
  refine am_enter (n := 0) tk_60.2.1 (by simp [Value.category]) (Nat.le_of_ble_eq_true rfl) ?_
  show am_Good mi_60 0 [some (.ref 0), some (.retAddr i), some (.ref q)] [] (xw h W F B he fr wo se gn pl) _
  refine g_iload_n (i := 1) dd_60_0 rfl ?_
  refine g_iconst dd_60_1 ic_m1 ?_
  refine g_icmp_ne_t (t := 24) dd_60_2 (by decide) (tk_ne_t (by omega)) ?_
  refine g_aload_n (i := 0) dd_60_24 rfl ?_
  refine g_getfield (k := 8) am_ck11 (by decide) (Or.inl w_519) dd_60_25 ((xw_o hH rfl).trans q0) x8 ?_
  refine g_aload_n (i := 0) dd_60_28 rfl ?_
  refine g_getfield (k := 3) am_ck11 (by decide) (Or.inl w_514) dd_60_29 ((xw_o hH rfl).trans q0) x3 ?_
  refine g_aload_n (i := 2) dd_60_32 rfl ?_
  refine g_aload_n (i := 0) dd_60_33 rfl ?_
  refine g_getfield (k := 3) am_ck11 (by decide) (Or.inl w_514) dd_60_34 ((xw_o hH rfl).trans q0) x3 ?_
  refine g_iload_n (i := 1) dd_60_37 rfl ?_
  refine g_virtual (M' := mi_69) (n := 1) (ci := 1) (b := E) (as := [.retAddr i]) (st := [.ref q, .ref E, .ref 40]) (r1 := (some (.retAddr (am_ag y5 (2 * i + 0))), (xw h W F B he fr wo se gn pl))) w_658 w_659 w_660 ⟨lk_69.1, lk_69.2.1, lk_69.2.2, by decide, by decide⟩ rfl ((xw_o hH nE).trans qE) rfl (by simp [Value.category]) dd_60_38 (fo_kof hH nE n0 n5 nd q0 x3 x8 qE r0 r5 w5 hz5 hB5 qS cw ck c1 c0 hn hm hgo h99 h8 hi) ?_
  show am_Good mi_60 41 [some (.ref 0), some (.retAddr i), some (.ref q)] [.retAddr (am_ag y5 (2 * i + 0)), .ref q, .ref E, .ref 40] (xw h W F B he fr wo se gn pl) _
  refine g_aload_n (i := 0) dd_60_41 rfl ?_
  refine g_getfield (k := 3) am_ck11 (by decide) (Or.inl w_514) dd_60_42 ((xw_o hH rfl).trans q0) x3 ?_
  refine g_iload_n (i := 1) dd_60_45 rfl ?_
  refine g_virtual (M' := mi_70) (n := 1) (ci := 1) (b := E) (as := [.retAddr i]) (st := [.retAddr (am_ag y5 (2 * i + 0)), .ref q, .ref E, .ref 40]) (r1 := (some (.retAddr (am_ag y5 (2 * i + 1))), (xw h W F B he fr wo se gn pl))) w_663 w_664 w_665 ⟨lk_70.1, lk_70.2.1, lk_70.2.2, by decide, by decide⟩ rfl ((xw_o hH nE).trans qE) rfl (by simp [Value.category]) dd_60_46 (fo_oof hH nE n0 n5 nd q0 x3 x8 qE r0 r5 w5 hz5 hB5 qS cw ck c1 c0 hn hm hgo h99 h8 hi) ?_
  show am_Good mi_60 49 [some (.ref 0), some (.retAddr i), some (.ref q)] [.retAddr (am_ag y5 (2 * i + 1)), .retAddr (am_ag y5 (2 * i + 0)), .ref q, .ref E, .ref 40] (xw h W F B he fr wo se gn pl) _
  refine g_virtual (M' := mi_71) (n := 4) (ci := 10) (b := 40) (as := [.ref E, .ref q, .retAddr (am_ag y5 (2 * i + 0)), .retAddr (am_ag y5 (2 * i + 1))]) (st := []) (r1 := (none, (xw h W F B ((wk fw ff fb n go (am_ag y5 (2 * i + 0)) (am_ag y5 (2 * i + 1)) mi).1) ((wk fw ff fb n go (am_ag y5 (2 * i + 0)) (am_ag y5 (2 * i + 1)) mi).2.1) ((wk fw ff fb n go (am_ag y5 (2 * i + 0)) (am_ag y5 (2 * i + 1)) mi).2.2.1) ((wk fw ff fb n go (am_ag y5 (2 * i + 0)) (am_ag y5 (2 * i + 1)) mi).2.2.2.1) ((wk fw ff fb n go (am_ag y5 (2 * i + 0)) (am_ag y5 (2 * i + 1)) mi).2.2.2.2) (zf (wk_p fw ff fb n go (am_ag y5 (2 * i + 0)) (am_ag y5 (2 * i + 1))) pl mi)))) w_667 w_668 w_669 ⟨lk_71.1, lk_71.2.1, lk_71.2.2, by decide, by decide⟩ rfl (xw_g40 hH) rfl (by simp [Value.category]) dd_60_49 (wk_m hH qS cw ck c1 c0 hn hm hgo h99 h8 nE qE rfl rfl rfl n0 r0 rfl (hB5 i hi).1 (hB5 i hi).2) ?_
  show am_Good mi_60 52 [some (.ref 0), some (.retAddr i), some (.ref q)] [] (xw h W F B ((wk fw ff fb n go (am_ag y5 (2 * i + 0)) (am_ag y5 (2 * i + 1)) mi).1) ((wk fw ff fb n go (am_ag y5 (2 * i + 0)) (am_ag y5 (2 * i + 1)) mi).2.1) ((wk fw ff fb n go (am_ag y5 (2 * i + 0)) (am_ag y5 (2 * i + 1)) mi).2.2.1) ((wk fw ff fb n go (am_ag y5 (2 * i + 0)) (am_ag y5 (2 * i + 1)) mi).2.2.2.1) ((wk fw ff fb n go (am_ag y5 (2 * i + 0)) (am_ag y5 (2 * i + 1)) mi).2.2.2.2) (zf (wk_p fw ff fb n go (am_ag y5 (2 * i + 0)) (am_ag y5 (2 * i + 1))) pl mi)) _
  exact g_return rfl dd_60_52
theorem wf_m {h : am_H} {g : Nat → Value} {mi go n nr z5 sa fa we w x b on : Nat} (hH : mz_ok h) {fw ff : Nat → Nat → Nat} {fb : Nat → Nat → Bool} (hw : ∀ s t, s < n → t < mi → am_ag w (64 * s + t) = fw s t) (hx : ∀ s t, s < n → t < mi → am_ag x (64 * s + t) = lc_8 (ff s t)) (hb : ∀ s t, s < n → t < mi → am_ag b (64 * s + t) = if fb s t = true then 1 else 0) (hn1 : 1 ≤ n) (hn : n ≤ 4) (hm : mi ≤ 60) (hgo : go ≤ 3) (h99 : ∀ s t, s < n → t < mi → fw s t ≤ 99) (h8 : ∀ s t, s < n → t < mi → ff s t ≤ 8) {y i : Nat} (a72 : am_get h 72 = some (.inl (0, 8, y))) (hi : i < 4) (hky : am_ag y (2 * i) ≤ 3) (hoy : am_ag y (2 * i + 1) < n) : am_EG mi_165 [.ref 66, .retAddr i] (mz h g mi go n nr z5 sa fa we w x b on) (none, (mz h g mi go n nr z5 ((wk fw ff fb n go (am_ag y (2 * i)) (am_ag y (2 * i + 1)) mi).2.2.1) ((wk fw ff fb n go (am_ag y (2 * i)) (am_ag y (2 * i + 1)) mi).2.2.2.1) ((wk fw ff fb n go (am_ag y (2 * i)) (am_ag y (2 * i + 1)) mi).2.2.2.2) w x b (wk_r fw ff fb n go (am_ag y (2 * i)) (am_ag y (2 * i + 1)) on mi))) := by
  refine am_enter (n := 0) tk_165.2.1 (by simp [Value.category]) (Nat.le_of_ble_eq_true rfl) ?_
  show am_Good mi_165 0 [some (.ref 66), some (.retAddr i)] [] (mz h g mi go n nr z5 sa fa we w x b on) _
  refine g_aload_n (i := 0) dd_165_0 rfl ?_
  refine g_aload_n (i := 0) dd_165_1 rfl ?_
  refine g_getfield (k := 13) am_ck12 (by decide) (Or.inl w_948) dd_165_2 (mz_g66 hH) rfl ?_
  refine g_iconst dd_165_5 ic_2 ?_
  refine g_iload_n (i := 1) dd_165_6 rfl ?_
  refine e_imul (v := 2 * i) dd_165_7 (by omega) ?_
  refine g_iaload dd_165_8 ((mz_o hH rfl).trans a72) (by omega) (by decide) ?_
  have hl_1 := am_ag_lt y (2 * i)
  refine g_aload_n (i := 0) dd_165_9 rfl ?_
  refine g_getfield (k := 13) am_ck12 (by decide) (Or.inl w_948) dd_165_10 (mz_g66 hH) rfl ?_
  refine g_iconst dd_165_13 ic_2 ?_
  refine g_iload_n (i := 1) dd_165_14 rfl ?_
  refine e_imul (v := 2 * i) dd_165_15 (by omega) ?_
  refine g_iconst dd_165_16 ic_1 ?_
  refine e_iadd (v := 2 * i + 1) dd_165_17 (by omega) ?_
  refine g_iaload dd_165_18 ((mz_o hH rfl).trans a72) (by omega) (by decide) ?_
  have hl_2 := am_ag_lt y (2 * i + 1)
  refine g_virtual (M' := mi_166) (n := 2) (ci := 12) (b := 66) (as := [.retAddr (am_ag y (2 * i)), .retAddr (am_ag y (2 * i + 1))]) (st := []) (r1 := (none, (mz h g mi go n nr z5 ((wk fw ff fb n go (am_ag y (2 * i)) (am_ag y (2 * i + 1)) mi).2.2.1) ((wk fw ff fb n go (am_ag y (2 * i)) (am_ag y (2 * i + 1)) mi).2.2.2.1) ((wk fw ff fb n go (am_ag y (2 * i)) (am_ag y (2 * i + 1)) mi).2.2.2.2) w x b (wk_r fw ff fb n go (am_ag y (2 * i)) (am_ag y (2 * i + 1)) on mi)))) w_1234 w_1236 ps_166 ⟨lk_166.1, lk_166.2.1, lk_166.2.2, by decide, by decide⟩ rfl (mz_g66 hH) rfl (by simp [Value.category]) dd_165_19 (mk_m hH hw hx hb hn1 hn hm hgo h99 h8 hky hoy) ?_
  show am_Good mi_165 22 [some (.ref 66), some (.retAddr i)] [] (mz h g mi go n nr z5 ((wk fw ff fb n go (am_ag y (2 * i)) (am_ag y (2 * i + 1)) mi).2.2.1) ((wk fw ff fb n go (am_ag y (2 * i)) (am_ag y (2 * i + 1)) mi).2.2.2.1) ((wk fw ff fb n go (am_ag y (2 * i)) (am_ag y (2 * i + 1)) mi).2.2.2.2) w x b (wk_r fw ff fb n go (am_ag y (2 * i)) (am_ag y (2 * i + 1)) on mi)) _
  exact g_return rfl dd_165_22
theorem ow0_c40 {h : am_H} (hI : ax_I sb0 h) : am_get h 40 = some (.inr (10, [.ref 41, .ref 42, .retAddr (fldv h 40 2), .retAddr (fldv h 40 3), .retAddr (fldv h 40 4), .retAddr (fldv h 40 5), .retAddr (fldv h 40 6)])) := by
  refine obj_ls hI rfl rfl (fun k hk => ?_)
  match k, hk with
  | 0, _ => exact ref_in hI rfl rfl
  | 1, _ => exact ref_in hI rfl rfl
  | 2, _ => exact (fld_in hI rfl rfl).1
  | 3, _ => exact (fld_in hI rfl rfl).1
  | 4, _ => exact (fld_in hI rfl rfl).1
  | 5, _ => exact (fld_in hI rfl rfl).1
  | 6, _ => exact (fld_in hI rfl rfl).1
  | k + 7, hk => exact absurd hk (Nat.not_lt.mpr (Nat.le_add_left _ _))
theorem ow0_xw {h : am_H} (hI : ax_I sb0 h) : xw_ok h ∧ xw h (rowv h 37) (rowv h 38) (rowv h 39) (fldv h 40 2) (fldv h 40 3) (fldv h 40 4) (fldv h 40 5) (fldv h 40 6) (rowv h 41) = h := by
  have g1 : am_get h 37 = some (.inl (0, 240, rowv h 37)) := (row_in hI rfl).1
  have g2 : am_get h 38 = some (.inl (0, 240, rowv h 38)) := (row_in hI rfl).1
  have g3 : am_get h 39 = some (.inl (0, 240, rowv h 39)) := (row_in hI rfl).1
  have g5 : am_get h 41 = some (.inl (0, 60, rowv h 41)) := (row_in hI rfl).1
  have g4 := ow0_c40 hI
  refine ⟨⟨⟨_, g1⟩, ⟨_, g2⟩, ⟨_, g3⟩, ⟨_, g4⟩, ⟨_, g5⟩, trivial⟩, ?_⟩
  unfold xw
  exact am_ups_00 ⟨g1, g2, g3, g4, g5, trivial⟩
theorem oxw0_I {h : am_H} (hI : ax_I sb0 h) {W F B he fr wo se gn pl : Nat} (bW : ∀ i, i < 240 → am_ag W i ≤ 99) (bF : ∀ i, i < 240 → am_ag F i ≤ 99) (bB : ∀ i, i < 240 → am_ag B i ≤ 1) (bh : he ≤ 99) (bf : fr ≤ 63) (bw : wo < 4294967296) (bs : se ≤ 255) (bg : gn < 4294967296) (bp : ∀ i, i < 60 → am_ag pl i ≤ 99 ∨ am_ag pl i = 4294967292) : ax_I sb0 (xw h W F B he fr wo se gn pl) := by
  have k0 := (ow0_xw hI).1
  unfold xw
  refine ax_I_ups hI ?_ ⟨ok_at rfl (ok_row1 (by decide) bW), ok_at rfl (ok_row1 (by decide) bF), ok_at rfl (ok_row1 (by decide) bB), ok_at rfl (ok_set (k := 6) (ok_set (k := 5) (ok_set (k := 4) (ok_set (k := 3) (ok_set (k := 2) (ok_own hI rfl (ow0_c40 hI)) rfl (ax_in_1 (by omega) (Nat.zero_le _) bh)) rfl (ax_in_1 (by omega) (Nat.zero_le _) bf)) rfl (ax_in_top bw)) rfl (ax_in_1 (by omega) (Nat.zero_le _) bs)) rfl (ax_in_top bg)), ok_at rfl (ok_r2 (by decide) bp), trivial⟩
  exact k0
theorem ow1_c40 {h : am_H} (hI : ax_I sb1 h) : am_get h 40 = some (.inr (10, [.ref 41, .ref 42, .retAddr (fldv h 40 2), .retAddr (fldv h 40 3), .retAddr (fldv h 40 4), .retAddr (fldv h 40 5), .retAddr (fldv h 40 6)])) := by
  refine obj_ls hI rfl rfl (fun k hk => ?_)
  match k, hk with
  | 0, _ => exact ref_in hI rfl rfl
  | 1, _ => exact ref_in hI rfl rfl
  | 2, _ => exact (fld_in hI rfl rfl).1
  | 3, _ => exact (fld_in hI rfl rfl).1
  | 4, _ => exact (fld_in hI rfl rfl).1
  | 5, _ => exact (fld_in hI rfl rfl).1
  | 6, _ => exact (fld_in hI rfl rfl).1
  | k + 7, hk => exact absurd hk (Nat.not_lt.mpr (Nat.le_add_left _ _))
theorem ow1_xw {h : am_H} (hI : ax_I sb1 h) : xw_ok h ∧ xw h (rowv h 37) (rowv h 38) (rowv h 39) (fldv h 40 2) (fldv h 40 3) (fldv h 40 4) (fldv h 40 5) (fldv h 40 6) (rowv h 41) = h := by
  have g1 : am_get h 37 = some (.inl (0, 240, rowv h 37)) := (row_in hI rfl).1
  have g2 : am_get h 38 = some (.inl (0, 240, rowv h 38)) := (row_in hI rfl).1
  have g3 : am_get h 39 = some (.inl (0, 240, rowv h 39)) := (row_in hI rfl).1
  have g5 : am_get h 41 = some (.inl (0, 60, rowv h 41)) := (row_in hI rfl).1
  have g4 := ow1_c40 hI
  refine ⟨⟨⟨_, g1⟩, ⟨_, g2⟩, ⟨_, g3⟩, ⟨_, g4⟩, ⟨_, g5⟩, trivial⟩, ?_⟩
  unfold xw
  exact am_ups_00 ⟨g1, g2, g3, g4, g5, trivial⟩
theorem oxw1_I {h : am_H} (hI : ax_I sb1 h) {W F B he fr wo se gn pl : Nat} (bW : ∀ i, i < 240 → am_ag W i ≤ 99) (bF : ∀ i, i < 240 → am_ag F i ≤ 99) (bB : ∀ i, i < 240 → am_ag B i ≤ 1) (bh : he ≤ 99) (bf : fr ≤ 63) (bw : wo < 4294967296) (bs : se ≤ 255) (bg : gn < 4294967296) (bp : ∀ i, i < 60 → am_ag pl i ≤ 99 ∨ am_ag pl i = 4294967292) : ax_I sb1 (xw h W F B he fr wo se gn pl) := by
  have k0 := (ow1_xw hI).1
  unfold xw
  refine ax_I_ups hI ?_ ⟨ok_at rfl (ok_row1 (by decide) bW), ok_at rfl (ok_row1 (by decide) bF), ok_at rfl (ok_row1 (by decide) bB), ok_at rfl (ok_set (k := 6) (ok_set (k := 5) (ok_set (k := 4) (ok_set (k := 3) (ok_set (k := 2) (ok_own hI rfl (ow1_c40 hI)) rfl (ax_in_1 (by omega) (Nat.zero_le _) bh)) rfl (ax_in_1 (by omega) (Nat.zero_le _) bf)) rfl (ax_in_top bw)) rfl (ax_in_1 (by omega) (Nat.zero_le _) bs)) rfl (ax_in_top bg)), ok_at rfl (ok_r2 (by decide) bp), trivial⟩
  exact k0
/-- behind a walk of the class, between calls -/
theorem xw_Jv {h : am_H} (hJ : Jv h) {W F B he fr wo se gn pl : Nat} (bW : ∀ i, i < 240 → am_ag W i ≤ 99) (bF : ∀ i, i < 240 → am_ag F i ≤ 99) (bB : ∀ i, i < 240 → am_ag B i ≤ 1) (bh : he ≤ 99) (bf : fr ≤ 63) (bw : wo < 4294967296) (bs : se ≤ 255) (bg : gn < 4294967296) (bp : ∀ i, i < 60 → am_ag pl i ≤ 99 ∨ am_ag pl i = 4294967292) : Jv (xw h W F B he fr wo se gn pl) := by
  have hH : xw_ok h := by
    rcases hJ.1.1 with q | q
    · exact (ow0_xw q).1
    · exact (ow1_xw q).1
  refine Jv_x hJ (fun a ha => xw_o hH (am_lk_ct (ks := [37, 38, 39, 40, 41]) (by simp; omega))) (fun q => ⟨oxw0_I q bW bF bB bh bf bw bs bg bp, kp_ck [37, 38, 39, 40, 41] (fun a ha => xw_o hH ha) (by decide) (fun k _ => ax_fv_get (xw_o hH rfl) k)⟩) (fun q => ⟨oxw1_I q bW bF bB bh bf bw bs bg bp, kp_ck [37, 38, 39, 40, 41] (fun a ha => xw_o hH ha) (by decide) (fun k _ => ax_fv_get (xw_o hH rfl) k)⟩) (xw_o hH rfl) (ax_fv_get (xw_o hH rfl) 1) (ax_fv_get (xw_o hH rfl) 16)
theorem xw_own {h : am_H} (hJ : jv_I h) : xw_ok h ∧ xw h (rowv h 37) (rowv h 38) (rowv h 39) (fldv h 40 2) (fldv h 40 3) (fldv h 40 4) (fldv h 40 5) (fldv h 40 6) (rowv h 41) = h := by
  rcases hJ.1 with q | q
  · exact ow0_xw q
  · exact ow1_xw q
theorem xw_rows {h : am_H} (hJ : jv_I h) : (∀ i, i < 240 → am_ag (rowv h 37) i ≤ 99) ∧ (∀ i, i < 240 → am_ag (rowv h 38) i ≤ 99) ∧ (∀ i, i < 240 → am_ag (rowv h 39) i ≤ 1) := by
  rcases hJ.1 with q | q
  · exact ⟨row1_le q rfl, row1_le q rfl, row1_le q rfl⟩
  · exact ⟨row1_le q rfl, row1_le q rfl, row1_le q rfl⟩
theorem om_mz66 {h : am_H} (hI : ax_I sbm h) : am_get h 66 = some (.inr (12, [.retAddr (fldv h 66 0), .retAddr (fldv h 66 1), .retAddr (fldv h 66 2), .ref 67, valv h 66 4, .ref 68, valv h 66 6, .ref 69, valv h 66 8, .ref 70, .retAddr (fldv h 66 10), .ref 71, .retAddr (fldv h 66 12), .ref 72, .ref 73, valv h 66 15, valv h 66 16, .ref 74, valv h 66 18, valv h 66 19, valv h 66 20, .ref 75, valv h 66 22, .ref 76, valv h 66 24, .ref 77, valv h 66 26, .ref 78, valv h 66 28, .ref 79, valv h 66 30, .ref 80, .ref 81, .ref 82, .ref 83, .ref 84, .retAddr (fldv h 66 36), .retAddr (fldv h 66 37), .retAddr (fldv h 66 38), valv h 66 39, valv h 66 40, .ref 85, valv h 66 42, .ref 86, valv h 66 44, .ref 87, .ref 88, .ref 89, valv h 66 48, valv h 66 49, valv h 66 50, .ref 90, .ref 91, valv h 66 53, .ref 92])) := by
  refine obj_ls hI rfl rfl (fun k hk => ?_)
  match k, hk with
  | 0, _ => exact (fld_in hI rfl rfl).1
  | 1, _ => exact (fld_in hI rfl rfl).1
  | 2, _ => exact (fld_in hI rfl rfl).1
  | 3, _ => exact ref_in hI rfl rfl
  | 4, _ => exact val_in hI rfl (Nat.le_of_ble_eq_true rfl)
  | 5, _ => exact ref_in hI rfl rfl
  | 6, _ => exact val_in hI rfl (Nat.le_of_ble_eq_true rfl)
  | 7, _ => exact ref_in hI rfl rfl
  | 8, _ => exact val_in hI rfl (Nat.le_of_ble_eq_true rfl)
  | 9, _ => exact ref_in hI rfl rfl
  | 10, _ => exact (fld_in hI rfl rfl).1
  | 11, _ => exact ref_in hI rfl rfl
  | 12, _ => exact (fld_in hI rfl rfl).1
  | 13, _ => exact ref_in hI rfl rfl
  | 14, _ => exact ref_in hI rfl rfl
  | 15, _ => exact val_in hI rfl (Nat.le_of_ble_eq_true rfl)
  | 16, _ => exact val_in hI rfl (Nat.le_of_ble_eq_true rfl)
  | 17, _ => exact ref_in hI rfl rfl
  | 18, _ => exact val_in hI rfl (Nat.le_of_ble_eq_true rfl)
  | 19, _ => exact val_in hI rfl (Nat.le_of_ble_eq_true rfl)
  | 20, _ => exact val_in hI rfl (Nat.le_of_ble_eq_true rfl)
  | 21, _ => exact ref_in hI rfl rfl
  | 22, _ => exact val_in hI rfl (Nat.le_of_ble_eq_true rfl)
  | 23, _ => exact ref_in hI rfl rfl
  | 24, _ => exact val_in hI rfl (Nat.le_of_ble_eq_true rfl)
  | 25, _ => exact ref_in hI rfl rfl
  | 26, _ => exact val_in hI rfl (Nat.le_of_ble_eq_true rfl)
  | 27, _ => exact ref_in hI rfl rfl
  | 28, _ => exact val_in hI rfl (Nat.le_of_ble_eq_true rfl)
  | 29, _ => exact ref_in hI rfl rfl
  | 30, _ => exact val_in hI rfl (Nat.le_of_ble_eq_true rfl)
  | 31, _ => exact ref_in hI rfl rfl
  | 32, _ => exact ref_in hI rfl rfl
  | 33, _ => exact ref_in hI rfl rfl
  | 34, _ => exact ref_in hI rfl rfl
  | 35, _ => exact ref_in hI rfl rfl
  | 36, _ => exact (fld_in hI rfl rfl).1
  | 37, _ => exact (fld_in hI rfl rfl).1
  | 38, _ => exact (fld_in hI rfl rfl).1
  | 39, _ => exact val_in hI rfl (Nat.le_of_ble_eq_true rfl)
  | 40, _ => exact val_in hI rfl (Nat.le_of_ble_eq_true rfl)
  | 41, _ => exact ref_in hI rfl rfl
  | 42, _ => exact val_in hI rfl (Nat.le_of_ble_eq_true rfl)
  | 43, _ => exact ref_in hI rfl rfl
  | 44, _ => exact val_in hI rfl (Nat.le_of_ble_eq_true rfl)
  | 45, _ => exact ref_in hI rfl rfl
  | 46, _ => exact ref_in hI rfl rfl
  | 47, _ => exact ref_in hI rfl rfl
  | 48, _ => exact val_in hI rfl (Nat.le_of_ble_eq_true rfl)
  | 49, _ => exact val_in hI rfl (Nat.le_of_ble_eq_true rfl)
  | 50, _ => exact val_in hI rfl (Nat.le_of_ble_eq_true rfl)
  | 51, _ => exact ref_in hI rfl rfl
  | 52, _ => exact ref_in hI rfl rfl
  | 53, _ => exact val_in hI rfl (Nat.le_of_ble_eq_true rfl)
  | 54, _ => exact ref_in hI rfl rfl
  | k + 55, hk => exact absurd hk (Nat.not_lt.mpr (Nat.le_add_left _ _))
theorem mz_own {h : am_H} (hm : ax_I sbm h) : mz_ok h ∧ (mz h (valv h 66) (fldv h 66 0) (fldv h 66 1) (fldv h 66 2) (fldv h 66 10) (fldv h 66 12) (fldv h 66 36) (fldv h 66 37) (fldv h 66 38) (rowv h 81) (rowv h 82) (rowv h 83) (rowv h 84)) = h := by
  have g1 : am_get h 81 = some (.inl (0, 256, rowv h 81)) := (row_in hm rfl).1
  have g2 : am_get h 82 = some (.inl (0, 256, rowv h 82)) := (row_in hm rfl).1
  have g3 : am_get h 83 = some (.inl (2, 256, rowv h 83)) := (row_in hm rfl).1
  have g4 : am_get h 84 = some (.inl (0, 60, rowv h 84)) := (row_in hm rfl).1
  have g0 := om_mz66 hm
  refine ⟨⟨⟨_, g0⟩, ⟨_, g1⟩, ⟨_, g2⟩, ⟨_, g3⟩, ⟨_, g4⟩, trivial⟩, ?_⟩
  unfold mz
  exact am_ups_00 ⟨g0, g1, g2, g3, g4, trivial⟩
theorem mz_I {h : am_H} (hm : ax_I sbm h) {sa fa we w x b on : Nat} (bsa : sa < 4294967296) (bfa : fa ≤ 255) (bwe : we < 4294967296) (hw : ∀ i, i < 256 → am_ag w i ≤ 9) (hf : ∀ i, i < 256 → am_ag x i ≤ 7 ∨ am_ag x i = 4294967292) (hb : ∀ i, i < 256 → am_ag b i ≤ 1) (bon : ∀ i, i < 60 → am_ag on i ≤ 3 ∨ am_ag on i = 4294967292) : ax_I sbm (mz h (valv h 66) (fldv h 66 0) (fldv h 66 1) (fldv h 66 2) (fldv h 66 10) (fldv h 66 12) sa fa we w x b on) := by
  have k0 := (mz_own hm).1
  unfold mz
  refine ax_I_ups hm ?_ ⟨ok_at rfl (ok_set (k := 38) (ok_set (k := 37) (ok_set (k := 36) (ok_own hm rfl (om_mz66 hm)) rfl (ax_in_top bsa)) rfl (ax_in_1 (by omega) (Nat.zero_le _) bfa)) rfl (ax_in_top bwe)), ok_at rfl (ok_row1 (by decide) hw), ok_at rfl (ok_fact hf), ok_at rfl (ok_bool hb), ok_at rfl (ok_r2 (by decide) bon), trivial⟩
  exact k0
/-- behind a walk of the reference, between calls -/
theorem mz_Jv {h : am_H} (hJ : Jv h) {sa fa we w x b on : Nat} (bsa : sa < 4294967296) (bfa : fa ≤ 255) (bwe : we < 4294967296) (hw : ∀ i, i < 256 → am_ag w i ≤ 9) (hf : ∀ i, i < 256 → am_ag x i ≤ 7 ∨ am_ag x i = 4294967292) (hb : ∀ i, i < 256 → am_ag b i ≤ 1) (bon : ∀ i, i < 60 → am_ag on i ≤ 3 ∨ am_ag on i = 4294967292) : Jv (mz h (valv h 66) (fldv h 66 0) (fldv h 66 1) (fldv h 66 2) (fldv h 66 10) (fldv h 66 12) sa fa we w x b on) := by
  have hm := hJ.1.2
  have hH := (mz_own hm).1
  refine Jv_m hJ (fun a ha => mz_o hH (am_lk_ct (ks := [66, 81, 82, 83, 84]) (by simp; omega))) (mz_I hm bsa bfa bwe hw hf hb bon) (fun a ha => ?_) (fun k hk => ?_)
  · simp only [List.mem_cons, List.not_mem_nil, or_false] at ha
    rcases ha with rfl | rfl | rfl | rfl | rfl | rfl | rfl | rfl <;> exact mz_o hH rfl
  · have key : ∀ k, k < 55 → ax_fv h 66 k = some (valv h 66 k) := fun k hk => val_in hm (a := 66) rfl hk
    have fk : ∀ (k : Nat) (R : ax_R), ax_fv h 66 k = some (.retAddr (fldv h 66 k)) → ax_fv h 66 k = some (.retAddr (fldv h 66 k)) := fun _ _ e => e
    simp only [List.mem_cons, List.not_mem_nil, or_false] at hk
    rcases hk with rfl | rfl | rfl | rfl | rfl | rfl | rfl | rfl | rfl | rfl | rfl | rfl
    · rw [(fld_in (k := 0) hm (a := 66) rfl rfl).1]; unfold ax_fv; rw [mz_g66 hH]; rfl
    · rw [(fld_in (k := 1) hm (a := 66) rfl rfl).1]; unfold ax_fv; rw [mz_g66 hH]; rfl
    · rw [(fld_in (k := 2) hm (a := 66) rfl rfl).1]; unfold ax_fv; rw [mz_g66 hH]; rfl
    · rw [key 4 (by decide)]; unfold ax_fv; rw [mz_g66 hH]; rfl
    · rw [key 6 (by decide)]; unfold ax_fv; rw [mz_g66 hH]; rfl
    · rw [key 8 (by decide)]; unfold ax_fv; rw [mz_g66 hH]; rfl
    · rw [(fld_in (k := 10) hm (a := 66) rfl rfl).1]; unfold ax_fv; rw [mz_g66 hH]; rfl
    · rw [(fld_in (k := 12) hm (a := 66) rfl rfl).1]; unfold ax_fv; rw [mz_g66 hH]; rfl
    · rw [key 15 (by decide)]; unfold ax_fv; rw [mz_g66 hH]; rfl
    · rw [key 40 (by decide)]; unfold ax_fv; rw [mz_g66 hH]; rfl
    · rw [key 42 (by decide)]; unfold ax_fv; rw [mz_g66 hH]; rfl
    · rw [key 53 (by decide)]; unfold ax_fv; rw [mz_g66 hH]; rfl
theorem sc_F_8 {Z R : Nat → Nat} (hB : je_B Z R) (come wo s t : Nat) : sc_F Z R come wo s t ≤ 8 := by
  unfold sc_F sc_sf
  split
  · exact Nat.le_refl _
  · exact pk_P (P := fun n => n ≤ 8) (Nat.le_refl _) (fun i hi => hB 1 (by decide) i hi 4 (by decide))
theorem sc_W_9 {Z R : Nat → Nat} (hB : je_B Z R) (come wo s t : Nat) (hs : s < Z 0) : sc_W Z R come wo s t ≤ 9 := by
  unfold sc_W sc_sw
  split
  · exact Nat.zero_le _
  · refine pk_P (P := fun n => n ≤ 9) ?_ (fun i hi => hB 1 (by decide) i hi 3 (by decide))
    have q := hB 0 (by decide) s hs 0 (by decide)
    rw [show je_w 0 * s + 0 = s by show 1 * s + 0 = s; omega] at q
    exact q
/-- a screen's getters -/
theorem sc_ct {H : am_H} {q q1 q2 q3 W F B n mi : Nat} {fw ff : Nat → Nat → Nat} {fb : Nat → Nat → Bool} (qS : am_get H q = some (.inr (9, [.ref q1, .ref q2, .ref q3]))) (g1 : am_get H q1 = some (.inl (0, 240, W))) (g2 : am_get H q2 = some (.inl (0, 240, F))) (g3 : am_get H q3 = some (.inl (0, 240, B))) (pt : ∀ s, s < n → ∀ t, t < mi → am_ag W (60 * s + t) = fw s t ∧ am_ag F (60 * s + t) = ff s t ∧ am_ag B (60 * s + t) = if fb s t = true then 1 else 0) (zn : n ≤ 4) (zm : mi ≤ 60) (h8 : ∀ s t, s < n → t < mi → ff s t ≤ 8) : (∀ s t, s < n → t < mi → am_EG mi_41 [.ref q, .retAddr s, .retAddr t] H (some (.retAddr (fw s t)), H)) ∧ (∀ s t, s < n → t < mi → am_EG mi_68 [.ref q, .retAddr s, .retAddr t] H (some (.retAddr (fbt (ff s t))), H)) ∧ (∀ s t, s < n → t < mi → fb s t = true → am_EG mi_53 [.ref q, .retAddr s, .retAddr t] H (some (.retAddr 1), H)) ∧ (∀ s t, s < n → t < mi → ¬ fb s t = true → am_EG mi_53 [.ref q, .retAddr s, .retAddr t] H (some (.retAddr 0), H)) := by
  refine ⟨fun s t hs ht => ?_, fun s t hs ht => ?_, fun s t hs ht hb => ?_, fun s t hs ht hb => ?_⟩
  · have e := gw_w (s := s) (t := t) qS g1 (by omega) (by omega)
    rw [(pt s hs t ht).1] at e
    exact e
  · have e := gw_k (s := s) (t := t) qS g2 (by omega) (by omega) (by rw [(pt s hs t ht).2.1]; exact h8 s t hs ht)
    rw [(pt s hs t ht).2.1] at e
    exact e
  · exact gw_b1 qS g3 (by omega) (by omega) (by rw [(pt s hs t ht).2.2, if_pos hb]; decide)
  · exact gw_b0 qS g3 (by omega) (by omega) (by rw [(pt s hs t ht).2.2, if_neg hb])
theorem riz {h : am_H} {x : Nat} (hx : x < 2147483648) : am_EG mi_133 [.retAddr x, .retAddr 0, .retAddr 4294967295] h (some (.retAddr 0), h) := by
  refine am_enter (n := 0) tk_133.2.1 (by simp [Value.category]) (Nat.le_of_ble_eq_true rfl) ?_
  show am_Good mi_133 0 [some (.retAddr x), some (.retAddr 0), some (.retAddr 4294967295)] [] h _
  refine g_iload_n (i := 0) dd_133_0 rfl ?_
  refine g_iload_n (i := 1) dd_133_1 rfl ?_
  refine g_icmp_lt_f (t := 14) dd_133_2 (by decide) (by first | exact sk_lt_f (by omega) (by omega) | exact tk_lt_f (by omega)) ?_
  refine g_iload_n (i := 0) dd_133_5 rfl ?_
  refine g_iload_n (i := 2) dd_133_6 rfl ?_
  refine g_icmp_gt_t (t := 14) dd_133_7 (by decide) (by first | exact sk_gt_t (by omega) (by omega) | exact tk_gt_t (by omega)) ?_
  refine g_iconst dd_133_14 ic_0 ?_
  exact g_zreturn rfl (by first | decide | omega) dd_133_15
theorem mwm_1 {h : am_H} {vs : List Value} {z : Nat} (q66 : am_get h 66 = some (.inr (12, vs))) (fz : vs[12]? = some (.retAddr z)) {x : Nat} (hz2 : z ≤ 4) (hx : x < z) : am_EG mi_164 [.ref 66, .retAddr x] h (some (.retAddr 1), h) := by
  refine am_enter (n := 0) tk_164.2.1 (by simp [Value.category]) (Nat.le_of_ble_eq_true rfl) ?_
  show am_Good mi_164 0 [some (.ref 66), some (.retAddr x)] [] h _
  refine g_iload_n (i := 1) dd_164_0 rfl ?_
  refine g_iconst dd_164_1 ic_0 ?_
  refine g_aload_n (i := 0) dd_164_2 rfl ?_
  refine g_getfield (k := 12) am_ck12 (by decide) (Or.inl w_947) dd_164_3 q66 fz ?_
  refine g_iconst dd_164_6 ic_1 ?_
  refine e_isub (v := z - 1) dd_164_7 (by omega) ?_
  refine g_static (M' := mi_133) (n := 3) (as := [.retAddr x, .retAddr 0, .retAddr (z - 1)]) (st := []) (r1 := (some (.retAddr 1), h)) w_1106 w_1107 ⟨lk_133.1, lk_133.2.1, lk_133.2.2, by decide, by decide⟩ rfl (by simp [Value.category]) dd_164_8 (ri_1 (by omega) (by omega) hx) ?_
  show am_Good mi_164 11 [some (.ref 66), some (.retAddr x)] [.retAddr 1] h _
  exact g_zreturn rfl (by first | decide | omega) dd_164_11
theorem mwm_a {h : am_H} {vs : List Value} {z : Nat} (q66 : am_get h 66 = some (.inr (12, vs))) (fz : vs[12]? = some (.retAddr z)) {x : Nat} (hz1 : 1 ≤ z) (hz2 : z ≤ 4) (hx : ¬ x < z) (hx2 : x < 4294967296) : am_EG mi_164 [.ref 66, .retAddr x] h (some (.retAddr 0), h) := by
  refine am_enter (n := 0) tk_164.2.1 (by simp [Value.category]) (Nat.le_of_ble_eq_true rfl) ?_
  show am_Good mi_164 0 [some (.ref 66), some (.retAddr x)] [] h _
  refine g_iload_n (i := 1) dd_164_0 rfl ?_
  refine g_iconst dd_164_1 ic_0 ?_
  refine g_aload_n (i := 0) dd_164_2 rfl ?_
  refine g_getfield (k := 12) am_ck12 (by decide) (Or.inl w_947) dd_164_3 q66 fz ?_
  refine g_iconst dd_164_6 ic_1 ?_
  refine e_isub (v := z - 1) dd_164_7 (by omega) ?_
  refine g_static (M' := mi_133) (n := 3) (as := [.retAddr x, .retAddr 0, .retAddr (z - 1)]) (st := []) (r1 := (some (.retAddr 0), h)) w_1106 w_1107 ⟨lk_133.1, lk_133.2.1, lk_133.2.2, by decide, by decide⟩ rfl (by simp [Value.category]) dd_164_8 (ri_0 (by omega) (by omega) hx hx2) ?_
  show am_Good mi_164 11 [some (.ref 66), some (.retAddr x)] [.retAddr 0] h _
  exact g_zreturn rfl (by first | decide | omega) dd_164_11
theorem riz2 {h : am_H} {x : Nat} (hx2 : x < 4294967296) : am_EG mi_133 [.retAddr x, .retAddr 0, .retAddr 4294967295] h (some (.retAddr 0), h) := by
  by_cases q : x < 2147483648
  · exact riz q
  · exact rinn (by decide) (by omega) hx2
theorem mwm_b {h : am_H} {vs : List Value} {z : Nat} (q66 : am_get h 66 = some (.inr (12, vs))) (fz : vs[12]? = some (.retAddr z)) {x : Nat} (hz : z = 0) (hx2 : x < 4294967296) : am_EG mi_164 [.ref 66, .retAddr x] h (some (.retAddr 0), h) := by
  refine am_enter (n := 0) tk_164.2.1 (by simp [Value.category]) (Nat.le_of_ble_eq_true rfl) ?_
  show am_Good mi_164 0 [some (.ref 66), some (.retAddr x)] [] h _
  refine g_iload_n (i := 1) dd_164_0 rfl ?_
  refine g_iconst dd_164_1 ic_0 ?_
  refine g_aload_n (i := 0) dd_164_2 rfl ?_
  refine g_getfield (k := 12) am_ck12 (by decide) (Or.inl w_947) dd_164_3 q66 fz ?_
  refine g_iconst dd_164_6 ic_1 ?_
  refine e_isub (v := 4294967295) dd_164_7 (by omega) ?_
  refine g_static (M' := mi_133) (n := 3) (as := [.retAddr x, .retAddr 0, .retAddr 4294967295]) (st := []) (r1 := (some (.retAddr 0), h)) w_1106 w_1107 ⟨lk_133.1, lk_133.2.1, lk_133.2.2, by decide, by decide⟩ rfl (by simp [Value.category]) dd_164_8 (riz2 hx2) ?_
  show am_Good mi_164 11 [some (.ref 66), some (.retAddr x)] [.retAddr 0] h _
  exact g_zreturn rfl (by first | decide | omega) dd_164_11
theorem mwm_0 {h : am_H} {vs : List Value} {z : Nat} (q66 : am_get h 66 = some (.inr (12, vs))) (fz : vs[12]? = some (.retAddr z)) {x : Nat} (hz2 : z ≤ 4) (hx : ¬ x < z) (hx2 : x < 4294967296) : am_EG mi_164 [.ref 66, .retAddr x] h (some (.retAddr 0), h) := by
  by_cases hz : z = 0
  · exact mwm_b q66 fz hz hx2
  · exact mwm_a q66 fz (by omega) hz2 hx hx2
theorem whx_0 {h : am_H} {E a0 a5 mi go z0 z5 : Nat} {v0 vE w0 w5 : List Value} (q0 : am_get h 0 = some (.inr (11, v0))) (x3 : v0[3]? = some (.ref E)) (qE : am_get h E = some (.inr (1, vE))) (e0 : vE[0]? = some (.ref a0)) (e5 : vE[5]? = some (.ref a5)) (e6 : vE[6]? = some (.retAddr mi)) (e7 : vE[7]? = some (.retAddr go)) (r0 : am_get h a0 = some (.inr (8, w0))) (s0 : w0[3]? = some (.retAddr z0)) (r5 : am_get h a5 = some (.inr (8, w5))) (s5 : w5[3]? = some (.retAddr z5)) (zm : mi ≤ 60) (zz0 : z0 ≤ 4) (zz5 : z5 ≤ 4) (x6 : v0[6]? = some (.ref 32)) (x8 : v0[8]? = some (.ref 40)) {i t : Nat} (g_i : i < 4294967296) (g_t : t < 4294967296) (h1 : ¬ i < z5) : am_EG mi_75 [.ref 0, .retAddr i, .retAddr t] h (some (.retAddr 4294967295), h) := by
  refine am_enter (n := 0) tk_75.2.1 (by simp [Value.category]) (Nat.le_of_ble_eq_true rfl) ?_
  show am_Good mi_75 0 [some (.ref 0), some (.retAddr i), some (.retAddr t)] [] h _
  refine g_aload_n (i := 0) dd_75_0 rfl ?_
  refine g_iload_n (i := 1) dd_75_1 rfl ?_
  refine g_virtual (M' := mi_59) (n := 1) (ci := 11) (b := 0) (as := [.retAddr i]) (st := []) (r1 := (some (.retAddr 0), h)) w_616 w_618 ps_59 ⟨lk_59.1, lk_59.2.1, lk_59.2.2, by decide, by decide⟩ rfl q0 rfl (by simp [Value.category]) dd_75_2 (iwa_0 q0 x3 qE e0 e5 e6 e7 r0 s0 r5 s5 zm zz0 zz5 h1 g_i) ?_
  show am_Good mi_75 5 [some (.ref 0), some (.retAddr i), some (.retAddr t)] [.retAddr 0] h _
  refine g_if_eq_t (t := 16) dd_75_5 (by decide) (by decide) ?_
  refine g_iconst dd_75_16 ic_m1 ?_
  exact g_ireturn rfl dd_75_17
theorem whx_1 {h : am_H} {E a0 a5 mi go z0 z5 : Nat} {v0 vE w0 w5 : List Value} (q0 : am_get h 0 = some (.inr (11, v0))) (x3 : v0[3]? = some (.ref E)) (qE : am_get h E = some (.inr (1, vE))) (e0 : vE[0]? = some (.ref a0)) (e5 : vE[5]? = some (.ref a5)) (e6 : vE[6]? = some (.retAddr mi)) (e7 : vE[7]? = some (.retAddr go)) (r0 : am_get h a0 = some (.inr (8, w0))) (s0 : w0[3]? = some (.retAddr z0)) (r5 : am_get h a5 = some (.inr (8, w5))) (s5 : w5[3]? = some (.retAddr z5)) (zm : mi ≤ 60) (zz0 : z0 ≤ 4) (zz5 : z5 ≤ 4) (x6 : v0[6]? = some (.ref 32)) (x8 : v0[8]? = some (.ref 40)) {i t : Nat} (g_i : i < 4294967296) (g_t : t < 4294967296) (h1 : i < z5) (h2 : ¬ t < mi) : am_EG mi_75 [.ref 0, .retAddr i, .retAddr t] h (some (.retAddr 4294967295), h) := by
  refine am_enter (n := 0) tk_75.2.1 (by simp [Value.category]) (Nat.le_of_ble_eq_true rfl) ?_
  show am_Good mi_75 0 [some (.ref 0), some (.retAddr i), some (.retAddr t)] [] h _
  refine g_aload_n (i := 0) dd_75_0 rfl ?_
  refine g_iload_n (i := 1) dd_75_1 rfl ?_
  refine g_virtual (M' := mi_59) (n := 1) (ci := 11) (b := 0) (as := [.retAddr i]) (st := []) (r1 := (some (.retAddr 1), h)) w_616 w_618 ps_59 ⟨lk_59.1, lk_59.2.1, lk_59.2.2, by decide, by decide⟩ rfl q0 rfl (by simp [Value.category]) dd_75_2 (iwa_1 q0 x3 qE e0 e5 e6 e7 r0 s0 r5 s5 zm zz0 zz5 h1) ?_
  show am_Good mi_75 5 [some (.ref 0), some (.retAddr i), some (.retAddr t)] [.retAddr 1] h _
  refine g_if_eq_f (t := 16) dd_75_5 (by decide) (by decide) ?_
  refine g_aload_n (i := 0) dd_75_8 rfl ?_
  refine g_iload_n (i := 2) dd_75_9 rfl ?_
  refine g_virtual (M' := mi_52) (n := 1) (ci := 11) (b := 0) (as := [.retAddr t]) (st := []) (r1 := (some (.retAddr 0), h)) w_588 w_590 ps_52 ⟨lk_52.1, lk_52.2.1, lk_52.2.2, by decide, by decide⟩ rfl q0 rfl (by simp [Value.category]) dd_75_10 (imn_0 q0 x3 qE e0 e5 e6 e7 r0 s0 r5 s5 zm zz0 zz5 h2 g_t) ?_
  show am_Good mi_75 13 [some (.ref 0), some (.retAddr i), some (.retAddr t)] [.retAddr 0] h _
  refine g_if_ne_f (t := 18) dd_75_13 (by decide) (by decide) ?_
  refine g_iconst dd_75_16 ic_m1 ?_
  exact g_ireturn rfl dd_75_17
theorem pla_m {g : am_H} {v40 : List Value} {pl : Nat} (q40 : am_get g 40 = some (.inr (10, v40))) (f40 : v40[0]? = some (.ref 41)) (q41 : am_get g 41 = some (.inl (0, 60, pl))) {t : Nat} (ht : t < 60) : am_EG mi_76 [.ref 40, .retAddr t] g (some (.retAddr (am_ag pl t)), g) := by
  refine am_enter (n := 0) tk_76.2.1 (by simp [Value.category]) (Nat.le_of_ble_eq_true rfl) ?_
  show am_Good mi_76 0 [some (.ref 40), some (.retAddr t)] [] g _
  refine g_iload_n (i := 1) dd_76_0 rfl ?_
  refine g_if_lt_f (t := 19) dd_76_1 (by decide) (by first | exact sk_lt_f (by omega) (by omega) | exact tk_lt_f (by omega)) ?_
  refine g_iload_n (i := 1) dd_76_4 rfl ?_
  refine g_bipush dd_76_5 bi_60 ?_
  refine g_icmp_ge_f (t := 19) dd_76_7 (by decide) (by first | exact sk_ge_f (by omega) (by omega) | exact tk_ge_f (by omega)) ?_
  refine g_aload_n (i := 0) dd_76_10 rfl ?_
  refine g_getfield (k := 0) am_ck10 (by decide) (Or.inl w_169) dd_76_11 q40 f40 ?_
  refine g_iload_n (i := 1) dd_76_14 rfl ?_
  refine g_iaload dd_76_15 q41 (by omega) (by decide) ?_
  have hl_1 := am_ag_lt pl t
  refine g_goto (t := 21) dd_76_16 (by decide) ?_
  exact g_ireturn rfl dd_76_21
theorem whx_y {h : am_H} {E a0 a5 mi go z0 z5 : Nat} {v0 vE w0 w5 : List Value} (q0 : am_get h 0 = some (.inr (11, v0))) (x3 : v0[3]? = some (.ref E)) (qE : am_get h E = some (.inr (1, vE))) (e0 : vE[0]? = some (.ref a0)) (e5 : vE[5]? = some (.ref a5)) (e6 : vE[6]? = some (.retAddr mi)) (e7 : vE[7]? = some (.retAddr go)) (r0 : am_get h a0 = some (.inr (8, w0))) (s0 : w0[3]? = some (.retAddr z0)) (r5 : am_get h a5 = some (.inr (8, w5))) (s5 : w5[3]? = some (.retAddr z5)) (zm : mi ≤ 60) (zz0 : z0 ≤ 4) (zz5 : z5 ≤ 4) (x6 : v0[6]? = some (.ref 32)) (x8 : v0[8]? = some (.ref 40)) {i t : Nat} (g_i : i < 4294967296) (g_t : t < 4294967296) (h1 : i < z5) (h2 : t < mi) {g : am_H} {pl : Nat} {v40 : List Value} (e1 : am_EG mi_60 [.ref 0, .retAddr i, .ref 32] h (none, g)) (q0g : am_get g 0 = some (.inr (11, v0))) (q40 : am_get g 40 = some (.inr (10, v40))) (f40 : v40[0]? = some (.ref 41)) (q41 : am_get g 41 = some (.inl (0, 60, pl))) : am_EG mi_75 [.ref 0, .retAddr i, .retAddr t] h (some (.retAddr (am_ag pl t)), g) := by
  refine am_enter (n := 0) tk_75.2.1 (by simp [Value.category]) (Nat.le_of_ble_eq_true rfl) ?_
  show am_Good mi_75 0 [some (.ref 0), some (.retAddr i), some (.retAddr t)] [] h _
  refine g_aload_n (i := 0) dd_75_0 rfl ?_
  refine g_iload_n (i := 1) dd_75_1 rfl ?_
  refine g_virtual (M' := mi_59) (n := 1) (ci := 11) (b := 0) (as := [.retAddr i]) (st := []) (r1 := (some (.retAddr 1), h)) w_616 w_618 ps_59 ⟨lk_59.1, lk_59.2.1, lk_59.2.2, by decide, by decide⟩ rfl q0 rfl (by simp [Value.category]) dd_75_2 (iwa_1 q0 x3 qE e0 e5 e6 e7 r0 s0 r5 s5 zm zz0 zz5 h1) ?_
  show am_Good mi_75 5 [some (.ref 0), some (.retAddr i), some (.retAddr t)] [.retAddr 1] h _
  refine g_if_eq_f (t := 16) dd_75_5 (by decide) (by decide) ?_
  refine g_aload_n (i := 0) dd_75_8 rfl ?_
  refine g_iload_n (i := 2) dd_75_9 rfl ?_
  refine g_virtual (M' := mi_52) (n := 1) (ci := 11) (b := 0) (as := [.retAddr t]) (st := []) (r1 := (some (.retAddr 1), h)) w_588 w_590 ps_52 ⟨lk_52.1, lk_52.2.1, lk_52.2.2, by decide, by decide⟩ rfl q0 rfl (by simp [Value.category]) dd_75_10 (imn_1 q0 x3 qE e0 e5 e6 e7 r0 s0 r5 s5 zm zz0 zz5 h2) ?_
  show am_Good mi_75 13 [some (.ref 0), some (.retAddr i), some (.retAddr t)] [.retAddr 1] h _
  refine g_if_ne_t (t := 18) dd_75_13 (by decide) (by decide) ?_
  refine g_aload_n (i := 0) dd_75_18 rfl ?_
  refine g_iload_n (i := 1) dd_75_19 rfl ?_
  refine g_aload_n (i := 0) dd_75_20 rfl ?_
  refine g_getfield (k := 6) am_ck11 (by decide) (Or.inl w_517) dd_75_21 q0 x6 ?_
  refine g_virtual (M' := mi_60) (n := 2) (ci := 11) (b := 0) (as := [.retAddr i, .ref 32]) (st := []) (r1 := (none, g)) w_620 w_622 ps_60 ⟨lk_60.1, lk_60.2.1, lk_60.2.2, by decide, by decide⟩ rfl q0 rfl (by simp [Value.category]) dd_75_24 (e1) ?_
  show am_Good mi_75 27 [some (.ref 0), some (.retAddr i), some (.retAddr t)] [] g _
  refine g_aload_n (i := 0) dd_75_27 rfl ?_
  refine g_getfield (k := 8) am_ck11 (by decide) (Or.inl w_519) dd_75_28 q0g x8 ?_
  refine g_iload_n (i := 2) dd_75_31 rfl ?_
  refine g_virtual (M' := mi_76) (n := 1) (ci := 10) (b := 40) (as := [.retAddr t]) (st := []) (r1 := (some (.retAddr (am_ag pl t)), g)) w_689 w_690 w_691 ⟨lk_76.1, lk_76.2.1, lk_76.2.2, by decide, by decide⟩ rfl q40 rfl (by simp [Value.category]) dd_75_32 (pla_m q40 f40 q41 (by omega)) ?_
  show am_Good mi_75 35 [some (.ref 0), some (.retAddr i), some (.retAddr t)] [.retAddr (am_ag pl t)] g _
  exact g_ireturn rfl dd_75_35
theorem whm_0 {h : am_H} {vs : List Value} {mi z5 : Nat} (q66 : am_get h 66 = some (.inr (12, vs))) (f0 : vs[0]? = some (.retAddr mi)) (f12 : vs[12]? = some (.retAddr z5)) (hm0 : 1 ≤ mi) (hm1 : mi ≤ 60) (hz5 : z5 ≤ 4) {i t : Nat} (g_i : i < 4294967296) (g_t : t < 4294967296) (h1 : ¬ i < z5) : am_EG mi_175 [.ref 66, .retAddr i, .retAddr t] h (some (.retAddr 4294967295), h) := by
  refine am_enter (n := 0) tk_175.2.1 (by simp [Value.category]) (Nat.le_of_ble_eq_true rfl) ?_
  show am_Good mi_175 0 [some (.ref 66), some (.retAddr i), some (.retAddr t)] [] h _
  refine g_aload_n (i := 0) dd_175_0 rfl ?_
  refine g_iload_n (i := 1) dd_175_1 rfl ?_
  refine g_virtual (M' := mi_164) (n := 1) (ci := 12) (b := 66) (as := [.retAddr i]) (st := []) (r1 := (some (.retAddr 0), h)) w_1226 w_1228 ps_164 ⟨lk_164.1, lk_164.2.1, lk_164.2.2, by decide, by decide⟩ rfl q66 rfl (by simp [Value.category]) dd_175_2 (mwm_0 q66 f12 hz5 h1 g_i) ?_
  show am_Good mi_175 5 [some (.ref 66), some (.retAddr i), some (.retAddr t)] [.retAddr 0] h _
  refine g_if_eq_t (t := 16) dd_175_5 (by decide) (by decide) ?_
  refine g_iconst dd_175_16 ic_m1 ?_
  exact g_ireturn rfl dd_175_17
theorem whm_1 {h : am_H} {vs : List Value} {mi z5 : Nat} (q66 : am_get h 66 = some (.inr (12, vs))) (f0 : vs[0]? = some (.retAddr mi)) (f12 : vs[12]? = some (.retAddr z5)) (hm0 : 1 ≤ mi) (hm1 : mi ≤ 60) (hz5 : z5 ≤ 4) {i t : Nat} (g_i : i < 4294967296) (g_t : t < 4294967296) (h1 : i < z5) (h2 : ¬ t < mi) : am_EG mi_175 [.ref 66, .retAddr i, .retAddr t] h (some (.retAddr 4294967295), h) := by
  refine am_enter (n := 0) tk_175.2.1 (by simp [Value.category]) (Nat.le_of_ble_eq_true rfl) ?_
  show am_Good mi_175 0 [some (.ref 66), some (.retAddr i), some (.retAddr t)] [] h _
  refine g_aload_n (i := 0) dd_175_0 rfl ?_
  refine g_iload_n (i := 1) dd_175_1 rfl ?_
  refine g_virtual (M' := mi_164) (n := 1) (ci := 12) (b := 66) (as := [.retAddr i]) (st := []) (r1 := (some (.retAddr 1), h)) w_1226 w_1228 ps_164 ⟨lk_164.1, lk_164.2.1, lk_164.2.2, by decide, by decide⟩ rfl q66 rfl (by simp [Value.category]) dd_175_2 (mwm_1 q66 f12 hz5 h1) ?_
  show am_Good mi_175 5 [some (.ref 66), some (.retAddr i), some (.retAddr t)] [.retAddr 1] h _
  refine g_if_eq_f (t := 16) dd_175_5 (by decide) (by decide) ?_
  refine g_aload_n (i := 0) dd_175_8 rfl ?_
  refine g_iload_n (i := 2) dd_175_9 rfl ?_
  refine g_virtual (M' := mi_154) (n := 1) (ci := 12) (b := 66) (as := [.retAddr t]) (st := []) (r1 := (some (.retAddr 0), h)) w_1188 w_1190 ps_154 ⟨lk_154.1, lk_154.2.1, lk_154.2.2, by decide, by decide⟩ rfl q66 rfl (by simp [Value.category]) dd_175_10 (mmm_0 q66 f0 hm0 hm1 h2 g_t) ?_
  show am_Good mi_175 13 [some (.ref 66), some (.retAddr i), some (.retAddr t)] [.retAddr 0] h _
  refine g_if_ne_f (t := 18) dd_175_13 (by decide) (by decide) ?_
  refine g_iconst dd_175_16 ic_m1 ?_
  exact g_ireturn rfl dd_175_17
theorem whm_y {h : am_H} {vs : List Value} {mi z5 : Nat} (q66 : am_get h 66 = some (.inr (12, vs))) (f0 : vs[0]? = some (.retAddr mi)) (f12 : vs[12]? = some (.retAddr z5)) (hm0 : 1 ≤ mi) (hm1 : mi ≤ 60) (hz5 : z5 ≤ 4) {i t : Nat} (g_i : i < 4294967296) (g_t : t < 4294967296) (h1 : i < z5) (h2 : t < mi) {g1 g2 : am_H} {on : Nat} {vs1 vs2 : List Value} (e1 : am_EG mi_155 [.ref 66, .retAddr 0, .retAddr 4294967292] h (none, g1)) (q661 : am_get g1 66 = some (.inr (12, vs1))) (e2 : am_EG mi_165 [.ref 66, .retAddr i] g1 (none, g2)) (q662 : am_get g2 66 = some (.inr (12, vs2))) (f35 : vs2[35]? = some (.ref 84)) (q84 : am_get g2 84 = some (.inl (0, 60, on))) : am_EG mi_175 [.ref 66, .retAddr i, .retAddr t] h (some (.retAddr (am_ag on t)), g2) := by
  refine am_enter (n := 0) tk_175.2.1 (by simp [Value.category]) (Nat.le_of_ble_eq_true rfl) ?_
  show am_Good mi_175 0 [some (.ref 66), some (.retAddr i), some (.retAddr t)] [] h _
  refine g_aload_n (i := 0) dd_175_0 rfl ?_
  refine g_iload_n (i := 1) dd_175_1 rfl ?_
  refine g_virtual (M' := mi_164) (n := 1) (ci := 12) (b := 66) (as := [.retAddr i]) (st := []) (r1 := (some (.retAddr 1), h)) w_1226 w_1228 ps_164 ⟨lk_164.1, lk_164.2.1, lk_164.2.2, by decide, by decide⟩ rfl q66 rfl (by simp [Value.category]) dd_175_2 (mwm_1 q66 f12 hz5 h1) ?_
  show am_Good mi_175 5 [some (.ref 66), some (.retAddr i), some (.retAddr t)] [.retAddr 1] h _
  refine g_if_eq_f (t := 16) dd_175_5 (by decide) (by decide) ?_
  refine g_aload_n (i := 0) dd_175_8 rfl ?_
  refine g_iload_n (i := 2) dd_175_9 rfl ?_
  refine g_virtual (M' := mi_154) (n := 1) (ci := 12) (b := 66) (as := [.retAddr t]) (st := []) (r1 := (some (.retAddr 1), h)) w_1188 w_1190 ps_154 ⟨lk_154.1, lk_154.2.1, lk_154.2.2, by decide, by decide⟩ rfl q66 rfl (by simp [Value.category]) dd_175_10 (mmm_1 q66 f0 hm0 hm1 h2) ?_
  show am_Good mi_175 13 [some (.ref 66), some (.retAddr i), some (.retAddr t)] [.retAddr 1] h _
  refine g_if_ne_t (t := 18) dd_175_13 (by decide) (by decide) ?_
  refine g_aload_n (i := 0) dd_175_18 rfl ?_
  refine g_iconst dd_175_19 ic_0 ?_
  refine g_bipush dd_175_20 bi_m4 ?_
  refine g_virtual (M' := mi_155) (n := 2) (ci := 12) (b := 66) (as := [.retAddr 0, .retAddr 4294967292]) (st := []) (r1 := (none, g1)) w_1192 w_1194 ps_155 ⟨lk_155.1, lk_155.2.1, lk_155.2.2, by decide, by decide⟩ rfl q66 rfl (by simp [Value.category]) dd_175_22 (e1) ?_
  show am_Good mi_175 25 [some (.ref 66), some (.retAddr i), some (.retAddr t)] [] g1 _
  refine g_aload_n (i := 0) dd_175_25 rfl ?_
  refine g_iload_n (i := 1) dd_175_26 rfl ?_
  refine g_virtual (M' := mi_165) (n := 1) (ci := 12) (b := 66) (as := [.retAddr i]) (st := []) (r1 := (none, g2)) w_1230 w_1232 ps_165 ⟨lk_165.1, lk_165.2.1, lk_165.2.2, by decide, by decide⟩ rfl q661 rfl (by simp [Value.category]) dd_175_27 (e2) ?_
  show am_Good mi_175 30 [some (.ref 66), some (.retAddr i), some (.retAddr t)] [] g2 _
  refine g_aload_n (i := 0) dd_175_30 rfl ?_
  refine g_getfield (k := 35) am_ck12 (by decide) (Or.inl w_970) dd_175_31 q662 f35 ?_
  refine g_iload_n (i := 2) dd_175_34 rfl ?_
  refine g_iaload dd_175_35 q84 (by omega) (by decide) ?_
  have hl_1 := am_ag_lt on t
  exact g_ireturn rfl dd_175_36
theorem rowv_eq {h : am_H} {a kd n x : Nat} (e : am_get h a = some (.inl (kd, n, x))) : rowv h a = x := by
  unfold rowv
  rw [e]
/-- the walk of an evening, and its places -/
def wkA (Z Y : Nat → Nat) (come wo go mi kind own : Nat) : wkS := wk (sc_W Z Y come wo) (sc_F Z Y come wo) (sc_B Z Y come) (Z 0) go kind own mi
def wkP (Z Y : Nat → Nat) (come wo go kind own t : Nat) : Nat := wk_p (sc_W Z Y come wo) (sc_F Z Y come wo) (sc_B Z Y come) (Z 0) go kind own t
theorem wkA_b {Z Y : Nat → Nat} (hB : je_B Z Y) {come wo go mi kind own : Nat} (ho : own < Z 0) (hg : go ≤ 3) (hm : mi ≤ 60) : (wkA Z Y come wo go mi kind own).1 < Z 0 ∧ (wkA Z Y come wo go mi kind own).2.1 ≤ 62 ∧ (wkA Z Y come wo go mi kind own).2.2.1 ≤ 5940 ∧ (wkA Z Y come wo go mi kind own).2.2.2.1 ≤ 255 ∧ (wkA Z Y come wo go mi kind own).2.2.2.2 ≤ 60 := by
  obtain ⟨i1, i2, i3, i4, i5⟩ := wk_inv (fw := sc_W Z Y come wo) (ff := sc_F Z Y come wo) (fb := sc_B Z Y come) (n := Z 0) (kind := kind) (m := mi) (fun s t hs _ => Nat.le_trans (sc_W_9 hB come wo s t hs) (by decide)) ho hg (Nat.le_refl mi)
  unfold wkA
  exact ⟨i1, by omega, by omega, by omega, by omega⟩
theorem wkP_b {Z Y : Nat → Nat} (hB : je_B Z Y) {come wo go kind own t : Nat} (ho : own < Z 0) (hg : go ≤ 3) : wkP Z Y come wo go kind own t < Z 0 ∨ wkP Z Y come wo go kind own t = 4294967292 := wk_p_c (m := t + 1) (fun s u hs _ => Nat.le_trans (sc_W_9 hB come wo s u hs) (by decide)) ho hg (Nat.lt_succ_self t)
theorem je_A_kp {h h' : am_H} {E mi go : Nat} {Z X Y : Nat → Nat} (hk : kp h h' E) (i0 : ax_I sb0 h → ax_I sb0 h') (i1 : ax_I sb1 h → ax_I sb1 h') (hA : je_A h E mi go Z X Y) : je_A h' E mi go Z X Y := by
  obtain ⟨hI, d1, d2, d3, d4⟩ := hA
  refine ⟨?_, je_x_kp hk d1, je_m_kp hk d2, d3, je_T_kp hk d4⟩
  rcases hI with ⟨e, q⟩ | ⟨e, q⟩
  · exact Or.inl ⟨e, i0 q⟩
  · exact Or.inr ⟨e, i1 q⟩
/-- cells of the reference alone -/
theorem je_A_m {h h' : am_H} {E mi go : Nat} {Z X Y : Nat → Nat} (lo : ∀ a, a < 66 → am_get h' a = am_get h a) (g : ∀ a, a ∈ [67, 68, 69, 70, 71, 72] → am_get h' a = am_get h a) (f : ∀ k, k ∈ [0, 1, 2, 4, 6, 8, 10, 12] → ax_fv h' 66 k = ax_fv h 66 k) (hA : je_A h E mi go Z X Y) : je_A h' E mi go Z X Y := by
  have hE : E < 53 := by
    rcases hA.1 with ⟨e, -⟩ | ⟨e, -⟩ <;> omega
  refine je_A_kp (kp_lo hE lo (fun p hp => ?_) (fun a ha => ?_)) (sb_lo rfl rfl lo) (sb_lo rfl rfl lo) hA
  · have hp' : p ∈ [(66, 0), (66, 1), (66, 2), (66, 4), (66, 6), (66, 8), (66, 10), (66, 12)] := hp
    simp only [List.mem_cons, List.not_mem_nil, or_false] at hp'
    rcases hp' with rfl | rfl | rfl | rfl | rfl | rfl | rfl | rfl <;> exact f _ (by simp)
  · have ha' : a ∈ [67, 68, 69, 70, 71, 72] := ha
    exact g a ha'
theorem xw_A {h : am_H} (hJ : jv_I h) {E mi go : Nat} {Z X Y : Nat → Nat} (hA : je_A h E mi go Z X Y) {W F B he fr wo se gn pl : Nat} (hI : jv_I (xw h W F B he fr wo se gn pl)) : je_A (xw h W F B he fr wo se gn pl) E mi go Z X Y := by
  have hH := (xw_own hJ).1
  have c0 : am_get (xw h W F B he fr wo se gn pl) 0 = am_get h 0 := xw_o hH rfl
  have s0 : ax_I sb0 h → ax_I sb0 (xw h W F B he fr wo se gn pl) := fun q => by
    rcases hI.1 with r | r
    · exact r
    · obtain ⟨vs, hv, hl, ho⟩ := q.obj (a := 0) rfl
      obtain ⟨ws, hw, hl2, ho2⟩ := r.obj (a := 0) rfl
      rw [c0, hv] at hw
      have e : vs = ws := by cases hw; rfl
      subst e
      have h17 : vs.length = 17 := hl
      have g3 : vs[3]? = some vs[3] := List.getElem?_eq_getElem (by omega)
      have a1 : vs[3] = .ref 4 := ho 3 _ _ rfl g3
      have a2 : vs[3] = .ref 17 := ho2 3 _ _ rfl g3
      rw [a1] at a2
      cases a2
  have s1 : ax_I sb1 h → ax_I sb1 (xw h W F B he fr wo se gn pl) := fun q => by
    rcases hI.1 with r | r
    · obtain ⟨vs, hv, hl, ho⟩ := q.obj (a := 0) rfl
      obtain ⟨ws, hw, hl2, ho2⟩ := r.obj (a := 0) rfl
      rw [c0, hv] at hw
      have e : vs = ws := by cases hw; rfl
      subst e
      have h17 : vs.length = 17 := hl
      have g3 : vs[3]? = some vs[3] := List.getElem?_eq_getElem (by omega)
      have a1 : vs[3] = .ref 17 := ho 3 _ _ rfl g3
      have a2 : vs[3] = .ref 4 := ho2 3 _ _ rfl g3
      rw [a1] at a2
      cases a2
    · exact r
  refine je_A_kp ?_ s0 s1 hA
  rcases hA.1 with ⟨rfl, -⟩ | ⟨rfl, -⟩
  · exact kp_ck [37, 38, 39, 40, 41] (fun a ha => xw_o hH ha) (by decide) (fun k _ => ax_fv_get (xw_o hH rfl) k)
  · exact kp_ck [37, 38, 39, 40, 41] (fun a ha => xw_o hH ha) (by decide) (fun k _ => ax_fv_get (xw_o hH rfl) k)
theorem ms_A {h : am_H} (hm : ax_I sbm h) {E mi go : Nat} {Z X Y : Nat → Nat} (hA : je_A h E mi go Z X Y) {w f b : Nat} : je_A (ms h w f b) E mi go Z X Y := by
  have hH := (ms_okh hm).1
  refine je_A_m (fun a ha => ms_o hH (am_lk_ct (ks := [81, 82, 83]) (by simp; omega))) (fun a ha => ?_) (fun k _ => ax_fv_get (ms_o hH rfl) k) hA
  simp only [List.mem_cons, List.not_mem_nil, or_false] at ha
  rcases ha with rfl | rfl | rfl | rfl | rfl | rfl <;> exact ms_o hH rfl
/-- the watchers' rows -/
theorem je_wt {mi go : Nat} {Z X Y : Nat → Nat} (hP : je_P mi go Z X Y) {i : Nat} (hi : i < Z 5) : am_ag (X 5) (2 * i + 0) = am_ag (Y 5) (2 * i) ∧ am_ag (X 5) (2 * i + 1) = am_ag (Y 5) (2 * i + 1) ∧ am_ag (Y 5) (2 * i) ≤ 3 := by
  obtain ⟨-, vZ, vY, vC, -⟩ := hP
  have z5 : Z 5 ≤ 4 := vZ 5 (by decide)
  exact ⟨vC 5 (by decide) (2 * i) (by show 2 * i < Z 5 * 2; omega), vC 5 (by decide) (2 * i + 1) (by show 2 * i + 1 < Z 5 * 2; omega), vY 5 (by decide) (2 * i) (by show 2 * i < 8; omega)⟩
/-- whose station is one that there is -/
def je_O (Z Y : Nat → Nat) : Prop := ∀ i, i < Z 5 → am_ag (Y 5) (2 * i + 1) < Z 0
/-- the class follows a watcher on a screen -/
theorem fo_x {h : am_H} (hJ : Jv h) {E mi go : Nat} {Z X Y : Nat → Nat} (hA : je_A h E mi go Z X Y) (hO : je_O Z Y) {q q1 q2 q3 W F B come wo : Nat} (qS : ∀ W F B he fr wo se gn pl, W = rowv h 37 → F = rowv h 38 → B = rowv h 39 → am_get (xw h W F B he fr wo se gn pl) q = some (.inr (9, [.ref q1, .ref q2, .ref q3]))) (g1 : ∀ V G C he fr wo se gn pl, V = rowv h 37 → G = rowv h 38 → C = rowv h 39 → am_get (xw h V G C he fr wo se gn pl) q1 = some (.inl (0, 240, W)) ∧ am_get (xw h V G C he fr wo se gn pl) q2 = some (.inl (0, 240, F)) ∧ am_get (xw h V G C he fr wo se gn pl) q3 = some (.inl (0, 240, B))) (pt : ∀ s, s < Z 0 → ∀ t, t < 60 → am_ag W (60 * s + t) = sc_W Z Y come wo s t ∧ am_ag F (60 * s + t) = sc_F Z Y come wo s t ∧ am_ag B (60 * s + t) = if sc_B Z Y come s t = true then 1 else 0) {i : Nat} (hi : i < Z 5) : am_EG mi_60 [.ref 0, .retAddr i, .ref q] h (none, xw h (rowv h 37) (rowv h 38) (rowv h 39) (wkA Z Y come wo go mi (am_ag (Y 5) (2 * i)) (am_ag (Y 5) (2 * i + 1))).1 (wkA Z Y come wo go mi (am_ag (Y 5) (2 * i)) (am_ag (Y 5) (2 * i + 1))).2.1 (wkA Z Y come wo go mi (am_ag (Y 5) (2 * i)) (am_ag (Y 5) (2 * i + 1))).2.2.1 (wkA Z Y come wo go mi (am_ag (Y 5) (2 * i)) (am_ag (Y 5) (2 * i + 1))).2.2.2.1 (wkA Z Y come wo go mi (am_ag (Y 5) (2 * i)) (am_ag (Y 5) (2 * i + 1))).2.2.2.2 (zf (wkP Z Y come wo go (am_ag (Y 5) (2 * i)) (am_ag (Y 5) (2 * i + 1))) (rowv h 41) mi)) := by
  obtain ⟨hH, own⟩ := xw_own hJ.1
  obtain ⟨v0, q0, x3, -, -, -, x8, -, -, qE, r0, -, r5, w5, -, -, -⟩ := je_xo hA
  obtain ⟨hI, -, -, hP, -⟩ := hA
  have hBY : je_B Z Y := je_bY hP.2.1 hP.2.2.1
  have z0 : Z 0 ≤ 4 := hP.2.1 0 (by decide)
  have z5 : Z 5 ≤ 4 := hP.2.1 5 (by decide)
  have ct := fun he fr w_ se gn pl => sc_ct (H := xw h (rowv h 37) (rowv h 38) (rowv h 39) he fr w_ se gn pl) (n := Z 0) (mi := mi) (fw := sc_W Z Y come wo) (ff := sc_F Z Y come wo) (fb := sc_B Z Y come) (qS _ _ _ he fr w_ se gn pl rfl rfl rfl) (g1 _ _ _ he fr w_ se gn pl rfl rfl rfl).1 (g1 _ _ _ he fr w_ se gn pl rfl rfl rfl).2.1 (g1 _ _ _ he fr w_ se gn pl rfl rfl rfl).2.2 (fun s hs t ht => pt s hs t (by have := hP.1.2.1; omega)) z0 hP.1.2.1 (fun s t _ _ => sc_F_8 hBY come wo s t)
  have nk : am_lk [(37, am_e0), (38, am_e0), (39, am_e0), (40, am_e0), (41, am_e0)] E = none ∧ am_lk [(37, am_e0), (38, am_e0), (39, am_e0), (40, am_e0), (41, am_e0)] (E + 1) = none ∧ am_lk [(37, am_e0), (38, am_e0), (39, am_e0), (40, am_e0), (41, am_e0)] (E + 11) = none ∧ am_lk [(37, am_e0), (38, am_e0), (39, am_e0), (40, am_e0), (41, am_e0)] (E + 12) = none := by
    rcases hI with ⟨rfl, -⟩ | ⟨rfl, -⟩ <;> exact ⟨rfl, rfl, rfl, rfl⟩
  obtain ⟨t1, t2, t3⟩ := je_wt hP hi
  have e := fo_m (W := rowv h 37) (F := rowv h 38) (B := rowv h 39) (he := fldv h 40 2) (fr := fldv h 40 3) (wo := fldv h 40 4) (se := fldv h 40 5) (gn := fldv h 40 6) (pl := rowv h 41) hH nk.1 nk.2.1 nk.2.2.1 nk.2.2.2 q0 x3 x8 qE r0 r5 w5 z5 (fun j hj => by
      obtain ⟨u1, u2, u3⟩ := je_wt hP hj
      rw [u1, u2]
      exact ⟨u3, hO j hj⟩) (fun he fr w_ se gn pl => qS _ _ _ he fr w_ se gn pl rfl rfl rfl) (fun he fr w_ se gn pl => (ct he fr w_ se gn pl).1) (fun he fr w_ se gn pl => (ct he fr w_ se gn pl).2.1) (fun he fr w_ se gn pl => (ct he fr w_ se gn pl).2.2.1) (fun he fr w_ se gn pl => (ct he fr w_ se gn pl).2.2.2) z0 hP.1.2.1 hP.1.2.2.1 (fun s t hs _ => Nat.le_trans (sc_W_9 hBY come wo s t hs) (by decide)) (fun s t => fbt_lt _) hi
  rw [t1, t2] at e
  exact Eq.mp (congrArg (fun g => am_EG mi_60 [.ref 0, .retAddr i, .ref q] g (none, xw h (rowv h 37) (rowv h 38) (rowv h 39) (wkA Z Y come wo go mi (am_ag (Y 5) (2 * i)) (am_ag (Y 5) (2 * i + 1))).1 (wkA Z Y come wo go mi (am_ag (Y 5) (2 * i)) (am_ag (Y 5) (2 * i + 1))).2.1 (wkA Z Y come wo go mi (am_ag (Y 5) (2 * i)) (am_ag (Y 5) (2 * i + 1))).2.2.1 (wkA Z Y come wo go mi (am_ag (Y 5) (2 * i)) (am_ag (Y 5) (2 * i + 1))).2.2.2.1 (wkA Z Y come wo go mi (am_ag (Y 5) (2 * i)) (am_ag (Y 5) (2 * i + 1))).2.2.2.2 (zf (wkP Z Y come wo go (am_ag (Y 5) (2 * i)) (am_ag (Y 5) (2 * i + 1))) (rowv h 41) mi))) own) e
/-- places behind a walk -/
theorem zf_wk {Z Y : Nat → Nat} (hB : je_B Z Y) {come wo go kind own x mi : Nat} (ho : own < Z 0) (z0 : Z 0 ≤ 4) (hg : go ≤ 3) : ∀ i, am_ag (zf (wkP Z Y come wo go kind own) x mi) i = if i < mi then wkP Z Y come wo go kind own i else am_ag x i := fun i => by
  rw [zf_ag]
  by_cases q : i < mi
  · rw [if_pos q, if_pos q]
    exact Nat.mod_eq_of_lt (by rcases wkP_b (come := come) (wo := wo) (kind := kind) (t := i) hB ho hg with r | r <;> omega)
  · rw [if_neg q, if_neg q]
theorem xw_pl {h : am_H} (hJ : jv_I h) : ∀ i, i < 60 → am_ag (rowv h 41) i ≤ 99 ∨ am_ag (rowv h 41) i = 4294967292 := fun i hi => by
  have key : ∀ sb : ax_Sh, ax_I sb h → ax_at sb 41 = some (.inl (0, 60, 0, [[(0, 99), (4294967292, 4294967292)]])) → am_ag (rowv h 41) i ≤ 99 ∨ am_ag (rowv h 41) i = 4294967292 := fun sb q ha => by
    obtain ⟨R, hR, hin⟩ := (row_in q ha).2 i hi
    have hR' : [[(0, 99), (4294967292, 4294967292)]][i % 1]? = some R := hR
    rw [Nat.mod_one] at hR'
    cases hR'
    obtain ⟨-, r, hr, r1, r2⟩ := hin
    have hr' : r = (0, 99) ∨ r = (4294967292, 4294967292) := by simpa using hr
    rcases hr' with rfl | rfl
    · exact Or.inl r2
    · exact Or.inr (Nat.le_antisymm r2 r1)
  rcases hJ.1 with q | q
  · exact key _ q rfl
  · exact key _ q rfl
theorem mz_rows {h : am_H} (hm : ax_I sbm h) : (∀ i, i < 256 → am_ag (rowv h 81) i ≤ 9) ∧ (∀ i, i < 256 → am_ag (rowv h 82) i ≤ 7 ∨ am_ag (rowv h 82) i = 4294967292) ∧ (∀ i, i < 256 → am_ag (rowv h 83) i ≤ 1) ∧ (∀ i, i < 60 → am_ag (rowv h 84) i ≤ 3 ∨ am_ag (rowv h 84) i = 4294967292) := by
  have two : ∀ {R : ax_R} {b v : Nat}, R = [(0, b), (4294967292, 4294967292)] → ax_in v R → v ≤ b ∨ v = 4294967292 := fun {R b v} e hin => by
    subst e
    obtain ⟨-, r, hr, r1, r2⟩ := hin
    have hr' : r = (0, b) ∨ r = (4294967292, 4294967292) := by simpa using hr
    rcases hr' with rfl | rfl
    · exact Or.inl r2
    · exact Or.inr (Nat.le_antisymm r2 r1)
  refine ⟨row1_le hm rfl, fun i hi => ?_, fun i hi => ?_, fun i hi => ?_⟩
  · obtain ⟨R, hR, hin⟩ := (row_in hm (a := 82) rfl).2 i hi
    have hR' : [[(0, 7), (4294967292, 4294967292)]][i % 1]? = some R := hR
    rw [Nat.mod_one] at hR'
    cases hR'
    exact two rfl hin
  · obtain ⟨R, hR, hin⟩ := (row_in hm (a := 83) rfl).2 i hi
    have hR' : [[(0, 1)]][i % 1]? = some R := hR
    rw [Nat.mod_one] at hR'
    cases hR'
    exact (jm_in1 hin).2
  · obtain ⟨R, hR, hin⟩ := (row_in hm (a := 84) rfl).2 i hi
    have hR' : [[(0, 3), (4294967292, 4294967292)]][i % 1]? = some R := hR
    rw [Nat.mod_one] at hR'
    cases hR'
    exact two rfl hin
/-- Jv behind a walk of the class -/
theorem fo_Jv {h : am_H} (hJ : Jv h) {Z Y : Nat → Nat} (hB : je_B Z Y) {come wo go mi kind own : Nat} (ho : own < Z 0) (z0 : Z 0 ≤ 4) (hg : go ≤ 3) (hm : mi ≤ 60) : Jv (xw h (rowv h 37) (rowv h 38) (rowv h 39) (wkA Z Y come wo go mi kind own).1 (wkA Z Y come wo go mi kind own).2.1 (wkA Z Y come wo go mi kind own).2.2.1 (wkA Z Y come wo go mi kind own).2.2.2.1 (wkA Z Y come wo go mi kind own).2.2.2.2 (zf (wkP Z Y come wo go kind own) (rowv h 41) mi)) := by
  obtain ⟨b1, b2, b3, b4, b5⟩ := wkA_b (come := come) (wo := wo) (kind := kind) hB ho hg hm
  obtain ⟨r1, r2, r3⟩ := xw_rows hJ.1
  refine xw_Jv hJ r1 r2 r3 (by omega) (by omega) (by omega) (by omega) (by omega) (fun i hi => ?_)
  rw [zf_wk hB ho z0 hg]
  by_cases q : i < mi
  · rw [if_pos q]
    rcases wkP_b (come := come) (wo := wo) (kind := kind) (t := i) hB ho hg with r | r
    · exact Or.inl (by omega)
    · exact Or.inr r
  · rw [if_neg q]
    exact xw_pl hJ.1 i hi
/-- the reference lays a case -/
theorem lc_x {h : am_H} (hJ : Jv h) {E mi go : Nat} {Z X Y : Nat → Nat} (hA : je_A h E mi go Z X Y) {come wo : Nat} (hco : come < 256) (hwo : wo < 4294967296) : ∃ g, am_EG mi_155 [.ref 66, .retAddr come, .retAddr wo] h (none, g) ∧ Jv g ∧ je_A g E mi go Z X Y ∧ (g.1 = h.1 ∧ g.2.1 = h.2.1) ∧ ∀ s, s < Z 0 → ∀ t, t < 60 → am_ag (rowv g 81) (64 * s + t) = sc_W Z Y come wo s t ∧ am_ag (rowv g 82) (64 * s + t) = lc_8 (sc_F Z Y come wo s t) ∧ am_ag (rowv g 83) (64 * s + t) = if sc_B Z Y come s t = true then 1 else 0 := by
  have hm := hJ.1.2
  obtain ⟨hH, own⟩ := ms_okh hm
  obtain ⟨vs, q66, -, -, m0, m1, mz_, mr, f32, f33, f34, -, -⟩ := je_mo hm hA
  have hP := hA.2.2.2.1
  have hBY : je_B Z Y := je_bY hP.2.1 hP.2.2.1
  have bd := je_B_bd hBY
  have z0 : Z 0 ≤ 4 := hP.2.1 0 (by decide)
  have e := lc_m (w := rowv h 81) (f := rowv h 82) (b := rowv h 83) (come := come) (wo := wo) hH q66 (mz_ 0 (by decide)).1 (mr 0 (by decide)) (mz_ 1 (by decide)).1 (mr 1 (by decide)) (mz_ 2 (by decide)).1 (mr 2 (by decide)) (mz_ 3 (by decide)).1 (mr 3 (by decide)) f32 f33 f34 (mz_ 0 (by decide)).2 (mz_ 1 (by decide)).2 (mz_ 2 (by decide)).2 (mz_ 3 (by decide)).2 hP.2.1 hBY hco hwo
  have e2 := Eq.mp (congrArg (fun g => am_EG mi_155 [.ref 66, .retAddr come, .retAddr wo] g (none, ms h (lcW Z Y come wo (rowv h 81) (rowv h 83)) (lcF Z Y come wo (rowv h 82) (rowv h 83)) (lcB Z Y come (rowv h 83)))) own) e
  refine ⟨_, e2, ms_Jv hJ (ms_w9 hBY (je_b9 hP) _ _ _ _) (ms_f7 hBY _ _ _ _) (ms_b1 _ _ _ _), ms_A hm hA, by unfold ms; exact am_ups_1 _, fun s hs t ht => ?_⟩
  rw [rowv_eq (ms_g81 hH), rowv_eq (ms_g82 hH), rowv_eq (ms_g83 hH)]
  exact ⟨lcW_ag bd (by omega) (by omega), lcF_ag bd (by omega) (by omega), lcB_ag bd (by omega) (by omega)⟩
/-- the reference follows a watcher on the case laid -/
theorem wf_x {h : am_H} (hJ : Jv h) {E mi go : Nat} {Z X Y : Nat → Nat} (hA : je_A h E mi go Z X Y) (hO : je_O Z Y) {come wo : Nat} (pt : ∀ s, s < Z 0 → ∀ t, t < 60 → am_ag (rowv h 81) (64 * s + t) = sc_W Z Y come wo s t ∧ am_ag (rowv h 82) (64 * s + t) = lc_8 (sc_F Z Y come wo s t) ∧ am_ag (rowv h 83) (64 * s + t) = if sc_B Z Y come s t = true then 1 else 0) {i : Nat} (hi : i < Z 5) : ∃ g, am_EG mi_165 [.ref 66, .retAddr i] h (none, g) ∧ Jv g ∧ je_A g E mi go Z X Y ∧ (g.1 = h.1 ∧ g.2.1 = h.2.1) ∧ (ax_fv g 66 36 = some (.retAddr (wkA Z Y come wo go mi (am_ag (Y 5) (2 * i)) (am_ag (Y 5) (2 * i + 1))).2.2.1) ∧ ax_fv g 66 37 = some (.retAddr (wkA Z Y come wo go mi (am_ag (Y 5) (2 * i)) (am_ag (Y 5) (2 * i + 1))).2.2.2.1) ∧ ax_fv g 66 38 = some (.retAddr (wkA Z Y come wo go mi (am_ag (Y 5) (2 * i)) (am_ag (Y 5) (2 * i + 1))).2.2.2.2)) ∧ (rowv g 81 = rowv h 81 ∧ rowv g 82 = rowv h 82 ∧ rowv g 83 = rowv h 83) ∧ ∃ on, am_get g 84 = some (.inl (0, 60, on)) ∧ ∀ t, t < mi → am_ag on t = wkP Z Y come wo go (am_ag (Y 5) (2 * i)) (am_ag (Y 5) (2 * i + 1)) t := by
  have hm := hJ.1.2
  obtain ⟨hH, own⟩ := mz_own hm
  have hP := hA.2.2.2.1
  have dm := hA.2.2.1
  have hBY : je_B Z Y := je_bY hP.2.1 hP.2.2.1
  have z0 : Z 0 ≤ 4 := hP.2.1 0 (by decide)
  have z5 : Z 5 ≤ 4 := hP.2.1 5 (by decide)
  have p1 := hP.1
  have v0 : fldv h 66 0 = mi := fldv_fv dm.1
  have v1 : fldv h 66 1 = go := fldv_fv dm.2.1
  have v2 : fldv h 66 2 = Z 0 := fldv_fv (dm.2.2 0 (by decide)).1
  have w99 : ∀ s t, s < Z 0 → t < mi → sc_W Z Y come wo s t ≤ 99 := fun s t hs _ => Nat.le_trans (sc_W_9 hBY come wo s t hs) (by decide)
  obtain ⟨-, -, ky⟩ := je_wt hP hi
  have oy := hO i hi
  rw [v0, v1, v2] at own
  have e := wf_m (g := valv h 66) (mi := mi) (go := go) (n := Z 0) (nr := fldv h 66 10) (z5 := fldv h 66 12) (sa := fldv h 66 36) (fa := fldv h 66 37) (we := fldv h 66 38) (w := rowv h 81) (x := rowv h 82) (b := rowv h 83) (on := rowv h 84) (fw := sc_W Z Y come wo) (ff := sc_F Z Y come wo) (fb := sc_B Z Y come) (i := i) hH (fun s t hs ht => (pt s hs t (by omega)).1) (fun s t hs ht => (pt s hs t (by omega)).2.1) (fun s t hs ht => (pt s hs t (by omega)).2.2) p1.2.2.2 z0 p1.2.1 p1.2.2.1 w99 (fun s t _ _ => sc_F_8 hBY come wo s t) (dm.2.2 5 (by decide)).2 (by omega) ky oy
  rw [own] at e
  obtain ⟨b1, b2, b3, b4, b5⟩ := wkA_b (come := come) (wo := wo) (kind := am_ag (Y 5) (2 * i)) hBY oy p1.2.2.1 p1.2.1
  obtain ⟨r1, r2, r3, r4⟩ := mz_rows hm
  have ra := fun t => wk_r_ag (fw := sc_W Z Y come wo) (ff := sc_F Z Y come wo) (fb := sc_B Z Y come) (n := Z 0) (kind := am_ag (Y 5) (2 * i)) (on := rowv h 84) (i := t) w99 z0 oy p1.2.2.1 (Nat.le_refl mi)
  have bon : ∀ t, t < 60 → am_ag (wk_r (sc_W Z Y come wo) (sc_F Z Y come wo) (sc_B Z Y come) (Z 0) go (am_ag (Y 5) (2 * i)) (am_ag (Y 5) (2 * i + 1)) (rowv h 84) mi) t ≤ 3 ∨ am_ag (wk_r (sc_W Z Y come wo) (sc_F Z Y come wo) (sc_B Z Y come) (Z 0) go (am_ag (Y 5) (2 * i)) (am_ag (Y 5) (2 * i + 1)) (rowv h 84) mi) t = 4294967292 := fun t ht => by
    rw [ra t]
    by_cases q : t < mi
    · rw [if_pos q]
      rcases wkP_b (come := come) (wo := wo) (kind := am_ag (Y 5) (2 * i)) (t := t) hBY oy p1.2.2.1 with r | r
      · exact Or.inl (by have : wk_p (sc_W Z Y come wo) (sc_F Z Y come wo) (sc_B Z Y come) (Z 0) go (am_ag (Y 5) (2 * i)) (am_ag (Y 5) (2 * i + 1)) t < Z 0 := r; omega)
      · exact Or.inr r
    · rw [if_neg q]
      exact r4 t ht
  have J := mz_Jv hJ (sa := (wkA Z Y come wo go mi (am_ag (Y 5) (2 * i)) (am_ag (Y 5) (2 * i + 1))).2.2.1) (fa := (wkA Z Y come wo go mi (am_ag (Y 5) (2 * i)) (am_ag (Y 5) (2 * i + 1))).2.2.2.1) (we := (wkA Z Y come wo go mi (am_ag (Y 5) (2 * i)) (am_ag (Y 5) (2 * i + 1))).2.2.2.2) (by omega) b4 (by omega) r1 r2 r3 bon
  rw [v0, v1, v2] at J
  refine ⟨_, e, J, ?_, by unfold mz; exact am_ups_1 _, ⟨?_, ?_, ?_⟩, ⟨?_, ?_, ?_⟩, _, mz_g84 hH, fun t ht => ?_⟩
  · refine je_A_m (fun a ha => mz_o hH (am_lk_ct (ks := [66, 81, 82, 83, 84]) (by simp; omega))) (fun a ha => ?_) (fun k hk => ?_) hA
    · simp only [List.mem_cons, List.not_mem_nil, or_false] at ha
      rcases ha with rfl | rfl | rfl | rfl | rfl | rfl <;> exact mz_o hH rfl
    · have key : ∀ k, k < 55 → ax_fv h 66 k = some (valv h 66 k) := fun k hk => val_in hm (a := 66) rfl hk
      simp only [List.mem_cons, List.not_mem_nil, or_false] at hk
      rcases hk with rfl | rfl | rfl | rfl | rfl | rfl | rfl | rfl
      · rw [dm.1]; unfold ax_fv; rw [mz_g66 hH]; rfl
      · rw [dm.2.1]; unfold ax_fv; rw [mz_g66 hH]; rfl
      · rw [(dm.2.2 0 (by decide)).1]; unfold ax_fv; rw [mz_g66 hH]; rfl
      · rw [key 4 (by decide)]; unfold ax_fv; rw [mz_g66 hH]; rfl
      · rw [key 6 (by decide)]; unfold ax_fv; rw [mz_g66 hH]; rfl
      · rw [key 8 (by decide)]; unfold ax_fv; rw [mz_g66 hH]; rfl
      · rw [(fld_in (k := 10) hm (a := 66) rfl rfl).1]; unfold ax_fv; rw [mz_g66 hH]; rfl
      · rw [(fld_in (k := 12) hm (a := 66) rfl rfl).1]; unfold ax_fv; rw [mz_g66 hH]; rfl
  · unfold ax_fv; rw [mz_g66 hH]; rfl
  · unfold ax_fv; rw [mz_g66 hH]; rfl
  · unfold ax_fv; rw [mz_g66 hH]; rfl
  · exact rowv_eq (mz_g81 hH)
  · exact rowv_eq (mz_g82 hH)
  · exact rowv_eq (mz_g83 hH)
  · rw [ra t, if_pos ht]
    rfl
theorem jb_where (x y : Nat) (hx : x < 4294967296) (hy : y < 4294967296) : am_B2 Jv true 75 175 [.retAddr x, .retAddr y] := by
  intro h hJ
  obtain ⟨E, mi, go, Z, X, Y, hA⟩ := je_ex hJ
  have hO : je_O Z Y := hA.2.2.2.1.2.2.2.2
  obtain ⟨v0, q0, x3, -, x6, -, x8, -, -, qE, r0, -, r5, w5, qS, -, -⟩ := je_xo hA
  have hP := hA.2.2.2.1
  have p1 := hP.1
  have z0 : Z 0 ≤ 4 := hP.2.1 0 (by decide)
  have z5 : Z 5 ≤ 4 := hP.2.1 5 (by decide)
  have hBY : je_B Z Y := je_bY hP.2.1 hP.2.2.1
  have dm := hA.2.2.1
  have f66 : ∀ {g : am_H} {vs : List Value} {k : Nat} {v : Value}, am_get g 66 = some (.inr (12, vs)) → ax_fv g 66 k = some v → vs[k]? = some v := fun {g vs k v} a e => by
    unfold ax_fv at e
    rw [a] at e
    exact e
  obtain ⟨vs, q66⟩ := jv_g66 hJ.1
  by_cases h1 : x < Z 5
  case neg => exact je_fin hJ (whx_0 q0 x3 qE rfl rfl rfl rfl r0 rfl r5 rfl p1.2.1 z0 z5 x6 x8 hx hy h1) (whm_0 q66 (f66 q66 dm.1) (f66 q66 (dm.2.2 5 (by decide)).1) p1.1 p1.2.1 z5 hx hy h1)
  by_cases h2 : y < mi
  case neg => exact je_fin hJ (whx_1 q0 x3 qE rfl rfl rfl rfl r0 rfl r5 rfl p1.2.1 z0 z5 x6 x8 hx hy h1 h2) (whm_1 q66 (f66 q66 dm.1) (f66 q66 (dm.2.2 5 (by decide)).1) p1.1 p1.2.1 z5 hx hy h1 h2)
  obtain ⟨hH, -⟩ := xw_own hJ.1
  obtain ⟨W, F, B, s1, s2, s3, s4⟩ := hA.2.2.2.2.2.1
  have ky := (je_wt hP h1).2.2
  have oy := hO x h1
  have e1 := fo_x hJ hA hO (q := 32) (fun _ _ _ _ _ _ _ _ _ _ _ _ => (xw_o hH rfl).trans qS) (fun _ _ _ _ _ _ _ _ _ _ _ _ => ⟨(xw_o hH rfl).trans s1, (xw_o hH rfl).trans s2, (xw_o hH rfl).trans s3⟩) s4 h1
  have J1 := fo_Jv hJ hBY (come := 0) (wo := 4294967292) (kind := am_ag (Y 5) (2 * x)) oy z0 p1.2.2.1 p1.2.1
  have A1 := xw_A hJ.1 hA J1.1
  have sz1 : (xw h (rowv h 37) (rowv h 38) (rowv h 39) (wkA Z Y 0 4294967292 go mi (am_ag (Y 5) (2 * x)) (am_ag (Y 5) (2 * x + 1))).1 (wkA Z Y 0 4294967292 go mi (am_ag (Y 5) (2 * x)) (am_ag (Y 5) (2 * x + 1))).2.1 (wkA Z Y 0 4294967292 go mi (am_ag (Y 5) (2 * x)) (am_ag (Y 5) (2 * x + 1))).2.2.1 (wkA Z Y 0 4294967292 go mi (am_ag (Y 5) (2 * x)) (am_ag (Y 5) (2 * x + 1))).2.2.2.1 (wkA Z Y 0 4294967292 go mi (am_ag (Y 5) (2 * x)) (am_ag (Y 5) (2 * x + 1))).2.2.2.2 (zf (wkP Z Y 0 4294967292 go (am_ag (Y 5) (2 * x)) (am_ag (Y 5) (2 * x + 1))) (rowv h 41) mi)).1 = h.1 ∧ (xw h (rowv h 37) (rowv h 38) (rowv h 39) (wkA Z Y 0 4294967292 go mi (am_ag (Y 5) (2 * x)) (am_ag (Y 5) (2 * x + 1))).1 (wkA Z Y 0 4294967292 go mi (am_ag (Y 5) (2 * x)) (am_ag (Y 5) (2 * x + 1))).2.1 (wkA Z Y 0 4294967292 go mi (am_ag (Y 5) (2 * x)) (am_ag (Y 5) (2 * x + 1))).2.2.1 (wkA Z Y 0 4294967292 go mi (am_ag (Y 5) (2 * x)) (am_ag (Y 5) (2 * x + 1))).2.2.2.1 (wkA Z Y 0 4294967292 go mi (am_ag (Y 5) (2 * x)) (am_ag (Y 5) (2 * x + 1))).2.2.2.2 (zf (wkP Z Y 0 4294967292 go (am_ag (Y 5) (2 * x)) (am_ag (Y 5) (2 * x + 1))) (rowv h 41) mi)).2.1 = h.2.1 := by unfold xw; exact am_ups_1 _
  have ex := whx_y q0 x3 qE rfl rfl rfl rfl r0 rfl r5 rfl p1.2.1 z0 z5 x6 x8 hx hy h1 h2 e1 ((xw_o hH rfl).trans q0) (xw_g40 hH) rfl (xw_g41 hH)
  rw [zf_wk hBY oy z0 p1.2.2.1, if_pos h2] at ex
  generalize xw h (rowv h 37) (rowv h 38) (rowv h 39) (wkA Z Y 0 4294967292 go mi (am_ag (Y 5) (2 * x)) (am_ag (Y 5) (2 * x + 1))).1 (wkA Z Y 0 4294967292 go mi (am_ag (Y 5) (2 * x)) (am_ag (Y 5) (2 * x + 1))).2.1 (wkA Z Y 0 4294967292 go mi (am_ag (Y 5) (2 * x)) (am_ag (Y 5) (2 * x + 1))).2.2.1 (wkA Z Y 0 4294967292 go mi (am_ag (Y 5) (2 * x)) (am_ag (Y 5) (2 * x + 1))).2.2.2.1 (wkA Z Y 0 4294967292 go mi (am_ag (Y 5) (2 * x)) (am_ag (Y 5) (2 * x + 1))).2.2.2.2 (zf (wkP Z Y 0 4294967292 go (am_ag (Y 5) (2 * x)) (am_ag (Y 5) (2 * x + 1))) (rowv h 41) mi) = k at ex J1 A1 sz1
  obtain ⟨g1, a1, a2, a3, a4, a5⟩ := lc_x J1 A1 (come := 0) (wo := 4294967292) (by decide) (by decide)
  obtain ⟨g2, b1, b2, b3, b4, -, -, on, b5, b6⟩ := wf_x a2 a3 hO a5 h1
  obtain ⟨us, u66⟩ := jv_g66 J1.1
  obtain ⟨us1, u661⟩ := jv_g66 a2.1
  obtain ⟨us2, u662, -, f35, -⟩ := jy_obj b2.1.2 (a := 66) rfl
  have dk := A1.2.2.1
  have em := whm_y u66 (f66 u66 dk.1) (f66 u66 (dk.2.2 5 (by decide)).1) p1.1 p1.2.1 z5 hx hy h1 h2 a1 u661 b1 u662 (f35 35 _ _ rfl) b5
  exact ⟨_, k, _, g2, ex, em, fun _ => (b6 y h2).symm, b2, ⟨v0, q0⟩, ⟨us, u66⟩, sz1, b4.1.trans a4.1, b4.2.trans a4.2⟩

