/-! ===== takeEvening ===== -/
theorem oz0_c0 {h : am_H} (hI : ax_I sb1 h) : am_get h 0 = some (.inr (11, [.ref 1, .retAddr (fldv h 0 1), .ref 2, .ref 17, .ref 4, .ref 30, .ref 32, .ref 36, .ref 40, .ref 43, .ref 45, .ref 47, .ref 54, .ref 57, .ref 59, .ref 62, .retAddr (fldv h 0 16)])) := by
  refine obj_ls hI rfl rfl (fun k hk => ?_)
  match k, hk with
  | 0, _ => exact ref_in hI rfl rfl
  | 1, _ => exact (fld_in hI rfl rfl).1
  | 2, _ => exact ref_in hI rfl rfl
  | 3, _ => exact ref_in hI rfl rfl
  | 4, _ => exact ref_in hI rfl rfl
  | 5, _ => exact ref_in hI rfl rfl
  | 6, _ => exact ref_in hI rfl rfl
  | 7, _ => exact ref_in hI rfl rfl
  | 8, _ => exact ref_in hI rfl rfl
  | 9, _ => exact ref_in hI rfl rfl
  | 10, _ => exact ref_in hI rfl rfl
  | 11, _ => exact ref_in hI rfl rfl
  | 12, _ => exact ref_in hI rfl rfl
  | 13, _ => exact ref_in hI rfl rfl
  | 14, _ => exact ref_in hI rfl rfl
  | 15, _ => exact ref_in hI rfl rfl
  | 16, _ => exact (fld_in hI rfl rfl).1
  | k + 17, hk => exact absurd hk (Nat.not_lt.mpr (Nat.le_add_left _ _))
theorem te0_a {h h1 h2 h3 : am_H} {r : am_R} (g_h_0 : am_get h 0 = some (.inr (11, [.ref 1, .retAddr (fldv h 0 1), .ref 2, .ref 17, .ref 4, .ref 30, .ref 32, .ref 36, .ref 40, .ref 43, .ref 45, .ref 47, .ref 54, .ref 57, .ref 59, .ref 62, .retAddr (fldv h 0 16)]))) {fs_h_30 : List Value} (g_h_30 : am_get h 30 = some (.inr (2, fs_h_30))) (g_h1_0 : am_get h1 0 = some (.inr (11, [.ref 1, .retAddr (fldv h1 0 1), .ref 2, .ref 17, .ref 4, .ref 30, .ref 32, .ref 36, .ref 40, .ref 43, .ref 45, .ref 47, .ref 54, .ref 57, .ref 59, .ref 62, .retAddr (fldv h1 0 16)]))) {fs_h1_32 : List Value} (g_h1_32 : am_get h1 32 = some (.inr (9, fs_h1_32))) (g_h2_0 : am_get h2 0 = some (.inr (11, [.ref 1, .retAddr (fldv h2 0 1), .ref 2, .ref 17, .ref 4, .ref 30, .ref 32, .ref 36, .ref 40, .ref 43, .ref 45, .ref 47, .ref 54, .ref 57, .ref 59, .ref 62, .retAddr (fldv h2 0 16)]))) {fs_h2_43 : List Value} (g_h2_43 : am_get h2 43 = some (.inr (7, fs_h2_43))) (e1 : am_EG mi_29 [.ref 30, .ref 17] h (none, h1)) (e2 : am_EG mi_32 [.ref 32, .ref 17, .retAddr 0, .retAddr 4294967292] h1 (none, h2)) (e3 : am_EG mi_39 [.ref 43, .ref 17, .ref 32] h2 (none, h3)) (hg : am_Good mi_28 40 [some (.ref 0)] [] h3 r) : am_EG mi_28 [.ref 0] h r := by
  refine am_enter (n := 0) tk_28.2.1 (by simp [Value.category]) (Nat.le_of_ble_eq_true rfl) ?_
  show am_Good mi_28 0 [some (.ref 0)] [] h _
  refine g_aload_n (i := 0) dd_28_0 rfl ?_
  refine g_getfield (k := 5) am_ck11 (by decide) (Or.inl w_516) dd_28_1 g_h_0 rfl ?_
  refine g_aload_n (i := 0) dd_28_4 rfl ?_
  refine g_getfield (k := 3) am_ck11 (by decide) (Or.inl w_514) dd_28_5 g_h_0 rfl ?_
  refine g_virtual (M' := mi_29) (n := 1) (ci := 2) (b := 30) (as := [.ref 17]) (st := []) (r1 := (none, h1)) w_442 w_443 w_444 ⟨lk_29.1, lk_29.2.1, lk_29.2.2, by decide, by decide⟩ rfl g_h_30 rfl (by simp [Value.category]) dd_28_8 (e1) ?_
  show am_Good mi_28 11 [some (.ref 0)] [] h1 _
  refine g_aload_n (i := 0) dd_28_11 rfl ?_
  refine g_getfield (k := 6) am_ck11 (by decide) (Or.inl w_517) dd_28_12 g_h1_0 rfl ?_
  refine g_aload_n (i := 0) dd_28_15 rfl ?_
  refine g_getfield (k := 3) am_ck11 (by decide) (Or.inl w_514) dd_28_16 g_h1_0 rfl ?_
  refine g_iconst dd_28_19 ic_0 ?_
  refine g_bipush dd_28_20 bi_m4 ?_
  refine g_virtual (M' := mi_32) (n := 3) (ci := 9) (b := 32) (as := [.ref 17, .retAddr 0, .retAddr 4294967292]) (st := []) (r1 := (none, h2)) w_453 w_454 w_455 ⟨lk_32.1, lk_32.2.1, lk_32.2.2, by decide, by decide⟩ rfl g_h1_32 rfl (by simp [Value.category]) dd_28_22 (e2) ?_
  show am_Good mi_28 25 [some (.ref 0)] [] h2 _
  refine g_aload_n (i := 0) dd_28_25 rfl ?_
  refine g_getfield (k := 9) am_ck11 (by decide) (Or.inl w_520) dd_28_26 g_h2_0 rfl ?_
  refine g_aload_n (i := 0) dd_28_29 rfl ?_
  refine g_getfield (k := 3) am_ck11 (by decide) (Or.inl w_514) dd_28_30 g_h2_0 rfl ?_
  refine g_aload_n (i := 0) dd_28_33 rfl ?_
  refine g_getfield (k := 6) am_ck11 (by decide) (Or.inl w_517) dd_28_34 g_h2_0 rfl ?_
  refine g_virtual (M' := mi_39) (n := 2) (ci := 7) (b := 43) (as := [.ref 17, .ref 32]) (st := []) (r1 := (none, h3)) w_481 w_482 w_483 ⟨lk_39.1, lk_39.2.1, lk_39.2.2, by decide, by decide⟩ rfl g_h2_43 rfl (by simp [Value.category]) dd_28_37 (e3) ?_
  show am_Good mi_28 40 [some (.ref 0)] [] h3 _
  exact hg
theorem te0_b {h3 : am_H} {r : am_R} (g_h3_0 : am_get h3 0 = some (.inr (11, [.ref 1, .retAddr (fldv h3 0 1), .ref 2, .ref 17, .ref 4, .ref 30, .ref 32, .ref 36, .ref 40, .ref 43, .ref 45, .ref 47, .ref 54, .ref 57, .ref 59, .ref 62, .retAddr (fldv h3 0 16)]))) {fs_h3_47 : List Value} (g_h3_47 : am_get h3 47 = some (.inr (0, fs_h3_47))) (hl : 8 < fs_h3_47.length) (hg : am_Good mi_28 48 [some (.ref 0)] [] (am_upd h3 47 (.inr (0, fs_h3_47.set 8 (.retAddr 0)))) r) : am_Good mi_28 40 [some (.ref 0)] [] h3 r := by
  refine g_aload_n (i := 0) dd_28_40 rfl ?_
  refine g_getfield (k := 11) am_ck11 (by decide) (Or.inl w_522) dd_28_41 g_h3_0 rfl ?_
  refine g_iconst dd_28_44 ic_0 ?_
  refine g_putfield (k := 8) am_ck0 (by decide) (Or.inr ⟨_, w_277⟩) (Or.inl rfl) dd_28_45 g_h3_47 hl (show (0 : Nat) < 2 by decide) ?_
  exact hg
theorem te0_c {h4 h5 h6 : am_H} {r : am_R} (g_h4_0 : am_get h4 0 = some (.inr (11, [.ref 1, .retAddr (fldv h4 0 1), .ref 2, .ref 17, .ref 4, .ref 30, .ref 32, .ref 36, .ref 40, .ref 43, .ref 45, .ref 47, .ref 54, .ref 57, .ref 59, .ref 62, .retAddr (fldv h4 0 16)]))) {fs_h4_54 : List Value} (g_h4_54 : am_get h4 54 = some (.inr (5, fs_h4_54))) (g_h5_0 : am_get h5 0 = some (.inr (11, [.ref 1, .retAddr (fldv h5 0 1), .ref 2, .ref 17, .ref 4, .ref 30, .ref 32, .ref 36, .ref 40, .ref 43, .ref 45, .ref 47, .ref 54, .ref 57, .ref 59, .ref 62, .retAddr (fldv h5 0 16)]))) {fs_h5_57 : List Value} (g_h5_57 : am_get h5 57 = some (.inr (4, fs_h5_57))) (e5 : am_EG mi_44 [.ref 54] h4 (none, h5)) (e6 : am_EG mi_45 [.ref 57] h5 (none, h6)) (hg : am_Good mi_28 62 [some (.ref 0)] [] h6 r) : am_Good mi_28 48 [some (.ref 0)] [] h4 r := by
  refine g_aload_n (i := 0) dd_28_48 rfl ?_
  refine g_getfield (k := 12) am_ck11 (by decide) (Or.inl w_523) dd_28_49 g_h4_0 rfl ?_
  refine g_virtual (M' := mi_44) (n := 0) (ci := 5) (b := 54) (as := []) (st := []) (r1 := (none, h5)) w_503 w_504 w_505 ⟨lk_44.1, lk_44.2.1, lk_44.2.2, by decide, by decide⟩ rfl g_h4_54 rfl (by simp [Value.category]) dd_28_52 (e5) ?_
  show am_Good mi_28 55 [some (.ref 0)] [] h5 _
  refine g_aload_n (i := 0) dd_28_55 rfl ?_
  refine g_getfield (k := 13) am_ck11 (by decide) (Or.inl w_524) dd_28_56 g_h5_0 rfl ?_
  refine g_virtual (M' := mi_45) (n := 0) (ci := 4) (b := 57) (as := []) (st := []) (r1 := (none, h6)) w_507 w_508 w_509 ⟨lk_45.1, lk_45.2.1, lk_45.2.2, by decide, by decide⟩ rfl g_h5_57 rfl (by simp [Value.category]) dd_28_59 (e6) ?_
  show am_Good mi_28 62 [some (.ref 0)] [] h6 _
  exact hg
theorem te0_d {h6 : am_H} (g_h6_0 : am_get h6 0 = some (.inr (11, [.ref 1, .retAddr (fldv h6 0 1), .ref 2, .ref 17, .ref 4, .ref 30, .ref 32, .ref 36, .ref 40, .ref 43, .ref 45, .ref 47, .ref 54, .ref 57, .ref 59, .ref 62, .retAddr (fldv h6 0 16)]))) : am_Good mi_28 62 [some (.ref 0)] [] h6 (none, am_upd h6 0 (.inr (11, ([.ref 1, .retAddr (fldv h6 0 1), .ref 2, .ref 17, .ref 4, .ref 30, .ref 32, .ref 36, .ref 40, .ref 43, .ref 45, .ref 47, .ref 54, .ref 57, .ref 59, .ref 62, .retAddr (fldv h6 0 16)] : List Value).set 16 (.retAddr 0)))) := by
  refine g_aload_n (i := 0) dd_28_62 rfl ?_
  refine g_iconst dd_28_63 ic_0 ?_
  refine g_putfield (k := 16) am_ck11 (by decide) (Or.inl w_527) (Or.inl rfl) dd_28_64 g_h6_0 (Nat.le_of_ble_eq_true rfl) trivial ?_
  exact g_return rfl dd_28_67
theorem oz1_c0 {h : am_H} (hI : ax_I sb0 h) : am_get h 0 = some (.inr (11, [.ref 1, .retAddr (fldv h 0 1), .ref 2, .ref 4, .ref 17, .ref 30, .ref 32, .ref 36, .ref 40, .ref 43, .ref 45, .ref 47, .ref 54, .ref 57, .ref 59, .ref 62, .retAddr (fldv h 0 16)])) := by
  refine obj_ls hI rfl rfl (fun k hk => ?_)
  match k, hk with
  | 0, _ => exact ref_in hI rfl rfl
  | 1, _ => exact (fld_in hI rfl rfl).1
  | 2, _ => exact ref_in hI rfl rfl
  | 3, _ => exact ref_in hI rfl rfl
  | 4, _ => exact ref_in hI rfl rfl
  | 5, _ => exact ref_in hI rfl rfl
  | 6, _ => exact ref_in hI rfl rfl
  | 7, _ => exact ref_in hI rfl rfl
  | 8, _ => exact ref_in hI rfl rfl
  | 9, _ => exact ref_in hI rfl rfl
  | 10, _ => exact ref_in hI rfl rfl
  | 11, _ => exact ref_in hI rfl rfl
  | 12, _ => exact ref_in hI rfl rfl
  | 13, _ => exact ref_in hI rfl rfl
  | 14, _ => exact ref_in hI rfl rfl
  | 15, _ => exact ref_in hI rfl rfl
  | 16, _ => exact (fld_in hI rfl rfl).1
  | k + 17, hk => exact absurd hk (Nat.not_lt.mpr (Nat.le_add_left _ _))
theorem te1_a {h h1 h2 h3 : am_H} {r : am_R} (g_h_0 : am_get h 0 = some (.inr (11, [.ref 1, .retAddr (fldv h 0 1), .ref 2, .ref 4, .ref 17, .ref 30, .ref 32, .ref 36, .ref 40, .ref 43, .ref 45, .ref 47, .ref 54, .ref 57, .ref 59, .ref 62, .retAddr (fldv h 0 16)]))) {fs_h_30 : List Value} (g_h_30 : am_get h 30 = some (.inr (2, fs_h_30))) (g_h1_0 : am_get h1 0 = some (.inr (11, [.ref 1, .retAddr (fldv h1 0 1), .ref 2, .ref 4, .ref 17, .ref 30, .ref 32, .ref 36, .ref 40, .ref 43, .ref 45, .ref 47, .ref 54, .ref 57, .ref 59, .ref 62, .retAddr (fldv h1 0 16)]))) {fs_h1_32 : List Value} (g_h1_32 : am_get h1 32 = some (.inr (9, fs_h1_32))) (g_h2_0 : am_get h2 0 = some (.inr (11, [.ref 1, .retAddr (fldv h2 0 1), .ref 2, .ref 4, .ref 17, .ref 30, .ref 32, .ref 36, .ref 40, .ref 43, .ref 45, .ref 47, .ref 54, .ref 57, .ref 59, .ref 62, .retAddr (fldv h2 0 16)]))) {fs_h2_43 : List Value} (g_h2_43 : am_get h2 43 = some (.inr (7, fs_h2_43))) (e1 : am_EG mi_29 [.ref 30, .ref 4] h (none, h1)) (e2 : am_EG mi_32 [.ref 32, .ref 4, .retAddr 0, .retAddr 4294967292] h1 (none, h2)) (e3 : am_EG mi_39 [.ref 43, .ref 4, .ref 32] h2 (none, h3)) (hg : am_Good mi_28 40 [some (.ref 0)] [] h3 r) : am_EG mi_28 [.ref 0] h r := by
  refine am_enter (n := 0) tk_28.2.1 (by simp [Value.category]) (Nat.le_of_ble_eq_true rfl) ?_
  show am_Good mi_28 0 [some (.ref 0)] [] h _
  refine g_aload_n (i := 0) dd_28_0 rfl ?_
  refine g_getfield (k := 5) am_ck11 (by decide) (Or.inl w_516) dd_28_1 g_h_0 rfl ?_
  refine g_aload_n (i := 0) dd_28_4 rfl ?_
  refine g_getfield (k := 3) am_ck11 (by decide) (Or.inl w_514) dd_28_5 g_h_0 rfl ?_
  refine g_virtual (M' := mi_29) (n := 1) (ci := 2) (b := 30) (as := [.ref 4]) (st := []) (r1 := (none, h1)) w_442 w_443 w_444 ⟨lk_29.1, lk_29.2.1, lk_29.2.2, by decide, by decide⟩ rfl g_h_30 rfl (by simp [Value.category]) dd_28_8 (e1) ?_
  show am_Good mi_28 11 [some (.ref 0)] [] h1 _
  refine g_aload_n (i := 0) dd_28_11 rfl ?_
  refine g_getfield (k := 6) am_ck11 (by decide) (Or.inl w_517) dd_28_12 g_h1_0 rfl ?_
  refine g_aload_n (i := 0) dd_28_15 rfl ?_
  refine g_getfield (k := 3) am_ck11 (by decide) (Or.inl w_514) dd_28_16 g_h1_0 rfl ?_
  refine g_iconst dd_28_19 ic_0 ?_
  refine g_bipush dd_28_20 bi_m4 ?_
  refine g_virtual (M' := mi_32) (n := 3) (ci := 9) (b := 32) (as := [.ref 4, .retAddr 0, .retAddr 4294967292]) (st := []) (r1 := (none, h2)) w_453 w_454 w_455 ⟨lk_32.1, lk_32.2.1, lk_32.2.2, by decide, by decide⟩ rfl g_h1_32 rfl (by simp [Value.category]) dd_28_22 (e2) ?_
  show am_Good mi_28 25 [some (.ref 0)] [] h2 _
  refine g_aload_n (i := 0) dd_28_25 rfl ?_
  refine g_getfield (k := 9) am_ck11 (by decide) (Or.inl w_520) dd_28_26 g_h2_0 rfl ?_
  refine g_aload_n (i := 0) dd_28_29 rfl ?_
  refine g_getfield (k := 3) am_ck11 (by decide) (Or.inl w_514) dd_28_30 g_h2_0 rfl ?_
  refine g_aload_n (i := 0) dd_28_33 rfl ?_
  refine g_getfield (k := 6) am_ck11 (by decide) (Or.inl w_517) dd_28_34 g_h2_0 rfl ?_
  refine g_virtual (M' := mi_39) (n := 2) (ci := 7) (b := 43) (as := [.ref 4, .ref 32]) (st := []) (r1 := (none, h3)) w_481 w_482 w_483 ⟨lk_39.1, lk_39.2.1, lk_39.2.2, by decide, by decide⟩ rfl g_h2_43 rfl (by simp [Value.category]) dd_28_37 (e3) ?_
  show am_Good mi_28 40 [some (.ref 0)] [] h3 _
  exact hg
theorem te1_b {h3 : am_H} {r : am_R} (g_h3_0 : am_get h3 0 = some (.inr (11, [.ref 1, .retAddr (fldv h3 0 1), .ref 2, .ref 4, .ref 17, .ref 30, .ref 32, .ref 36, .ref 40, .ref 43, .ref 45, .ref 47, .ref 54, .ref 57, .ref 59, .ref 62, .retAddr (fldv h3 0 16)]))) {fs_h3_47 : List Value} (g_h3_47 : am_get h3 47 = some (.inr (0, fs_h3_47))) (hl : 8 < fs_h3_47.length) (hg : am_Good mi_28 48 [some (.ref 0)] [] (am_upd h3 47 (.inr (0, fs_h3_47.set 8 (.retAddr 0)))) r) : am_Good mi_28 40 [some (.ref 0)] [] h3 r := by
  refine g_aload_n (i := 0) dd_28_40 rfl ?_
  refine g_getfield (k := 11) am_ck11 (by decide) (Or.inl w_522) dd_28_41 g_h3_0 rfl ?_
  refine g_iconst dd_28_44 ic_0 ?_
  refine g_putfield (k := 8) am_ck0 (by decide) (Or.inr ⟨_, w_277⟩) (Or.inl rfl) dd_28_45 g_h3_47 hl (show (0 : Nat) < 2 by decide) ?_
  exact hg
theorem te1_c {h4 h5 h6 : am_H} {r : am_R} (g_h4_0 : am_get h4 0 = some (.inr (11, [.ref 1, .retAddr (fldv h4 0 1), .ref 2, .ref 4, .ref 17, .ref 30, .ref 32, .ref 36, .ref 40, .ref 43, .ref 45, .ref 47, .ref 54, .ref 57, .ref 59, .ref 62, .retAddr (fldv h4 0 16)]))) {fs_h4_54 : List Value} (g_h4_54 : am_get h4 54 = some (.inr (5, fs_h4_54))) (g_h5_0 : am_get h5 0 = some (.inr (11, [.ref 1, .retAddr (fldv h5 0 1), .ref 2, .ref 4, .ref 17, .ref 30, .ref 32, .ref 36, .ref 40, .ref 43, .ref 45, .ref 47, .ref 54, .ref 57, .ref 59, .ref 62, .retAddr (fldv h5 0 16)]))) {fs_h5_57 : List Value} (g_h5_57 : am_get h5 57 = some (.inr (4, fs_h5_57))) (e5 : am_EG mi_44 [.ref 54] h4 (none, h5)) (e6 : am_EG mi_45 [.ref 57] h5 (none, h6)) (hg : am_Good mi_28 62 [some (.ref 0)] [] h6 r) : am_Good mi_28 48 [some (.ref 0)] [] h4 r := by
  refine g_aload_n (i := 0) dd_28_48 rfl ?_
  refine g_getfield (k := 12) am_ck11 (by decide) (Or.inl w_523) dd_28_49 g_h4_0 rfl ?_
  refine g_virtual (M' := mi_44) (n := 0) (ci := 5) (b := 54) (as := []) (st := []) (r1 := (none, h5)) w_503 w_504 w_505 ⟨lk_44.1, lk_44.2.1, lk_44.2.2, by decide, by decide⟩ rfl g_h4_54 rfl (by simp [Value.category]) dd_28_52 (e5) ?_
  show am_Good mi_28 55 [some (.ref 0)] [] h5 _
  refine g_aload_n (i := 0) dd_28_55 rfl ?_
  refine g_getfield (k := 13) am_ck11 (by decide) (Or.inl w_524) dd_28_56 g_h5_0 rfl ?_
  refine g_virtual (M' := mi_45) (n := 0) (ci := 4) (b := 57) (as := []) (st := []) (r1 := (none, h6)) w_507 w_508 w_509 ⟨lk_45.1, lk_45.2.1, lk_45.2.2, by decide, by decide⟩ rfl g_h5_57 rfl (by simp [Value.category]) dd_28_59 (e6) ?_
  show am_Good mi_28 62 [some (.ref 0)] [] h6 _
  exact hg
theorem te1_d {h6 : am_H} (g_h6_0 : am_get h6 0 = some (.inr (11, [.ref 1, .retAddr (fldv h6 0 1), .ref 2, .ref 4, .ref 17, .ref 30, .ref 32, .ref 36, .ref 40, .ref 43, .ref 45, .ref 47, .ref 54, .ref 57, .ref 59, .ref 62, .retAddr (fldv h6 0 16)]))) : am_Good mi_28 62 [some (.ref 0)] [] h6 (none, am_upd h6 0 (.inr (11, ([.ref 1, .retAddr (fldv h6 0 1), .ref 2, .ref 4, .ref 17, .ref 30, .ref 32, .ref 36, .ref 40, .ref 43, .ref 45, .ref 47, .ref 54, .ref 57, .ref 59, .ref 62, .retAddr (fldv h6 0 16)] : List Value).set 16 (.retAddr 0)))) := by
  refine g_aload_n (i := 0) dd_28_62 rfl ?_
  refine g_iconst dd_28_63 ic_0 ?_
  refine g_putfield (k := 16) am_ck11 (by decide) (Or.inl w_527) (Or.inl rfl) dd_28_64 g_h6_0 (Nat.le_of_ble_eq_true rfl) trivial ?_
  exact g_return rfl dd_28_67
theorem oz0_c30 {h : am_H} (hI : ax_I sb1 h) : am_get h 30 = some (.inr (2, [.ref 31])) := by
  refine obj_ls hI rfl rfl (fun k hk => ?_)
  match k, hk with
  | 0, _ => exact ref_in hI rfl rfl
  | k + 1, hk => exact absurd hk (Nat.not_lt.mpr (Nat.le_add_left _ _))
theorem oz0_c32 {h : am_H} (hI : ax_I sb1 h) : am_get h 32 = some (.inr (9, [.ref 33, .ref 34, .ref 35])) := by
  refine obj_ls hI rfl rfl (fun k hk => ?_)
  match k, hk with
  | 0, _ => exact ref_in hI rfl rfl
  | 1, _ => exact ref_in hI rfl rfl
  | 2, _ => exact ref_in hI rfl rfl
  | k + 3, hk => exact absurd hk (Nat.not_lt.mpr (Nat.le_add_left _ _))
theorem oz0_c36 {h : am_H} (hI : ax_I sb1 h) : am_get h 36 = some (.inr (9, [.ref 37, .ref 38, .ref 39])) := by
  refine obj_ls hI rfl rfl (fun k hk => ?_)
  match k, hk with
  | 0, _ => exact ref_in hI rfl rfl
  | 1, _ => exact ref_in hI rfl rfl
  | 2, _ => exact ref_in hI rfl rfl
  | k + 3, hk => exact absurd hk (Nat.not_lt.mpr (Nat.le_add_left _ _))
theorem oz0_cE {h : am_H} (hI : ax_I sb1 h) : am_get h 17 = some (.inr (1, [.ref 18, .ref 20, .ref 22, .ref 24, .ref 26, .ref 28, .retAddr (fldv h 17 6), .retAddr (fldv h 17 7)])) := by
  refine obj_ls hI rfl rfl (fun k hk => ?_)
  match k, hk with
  | 0, _ => exact ref_in hI rfl rfl
  | 1, _ => exact ref_in hI rfl rfl
  | 2, _ => exact ref_in hI rfl rfl
  | 3, _ => exact ref_in hI rfl rfl
  | 4, _ => exact ref_in hI rfl rfl
  | 5, _ => exact ref_in hI rfl rfl
  | 6, _ => exact (fld_in hI rfl rfl).1
  | 7, _ => exact (fld_in hI rfl rfl).1
  | k + 8, hk => exact absurd hk (Nat.not_lt.mpr (Nat.le_add_left _ _))
theorem oz0_r0 {h : am_H} (hI : ax_I sb1 h) : am_get h 18 = some (.inr (8, [.ref 19, .retAddr 1, .retAddr 4, .retAddr (fldv h 18 3)])) := by
  refine obj_ls hI rfl rfl (fun k hk => ?_)
  match k, hk with
  | 0, _ => exact ref_in hI rfl rfl
  | 1, _ => exact fld_eq hI rfl rfl
  | 2, _ => exact fld_eq hI rfl rfl
  | 3, _ => exact (fld_in hI rfl rfl).1
  | k + 4, hk => exact absurd hk (Nat.not_lt.mpr (Nat.le_add_left _ _))
theorem oz0_r1 {h : am_H} (hI : ax_I sb1 h) : am_get h 20 = some (.inr (8, [.ref 21, .retAddr 5, .retAddr 9, .retAddr (fldv h 20 3)])) := by
  refine obj_ls hI rfl rfl (fun k hk => ?_)
  match k, hk with
  | 0, _ => exact ref_in hI rfl rfl
  | 1, _ => exact fld_eq hI rfl rfl
  | 2, _ => exact fld_eq hI rfl rfl
  | 3, _ => exact (fld_in hI rfl rfl).1
  | k + 4, hk => exact absurd hk (Nat.not_lt.mpr (Nat.le_add_left _ _))
theorem oz0_r2 {h : am_H} (hI : ax_I sb1 h) : am_get h 22 = some (.inr (8, [.ref 23, .retAddr 3, .retAddr 6, .retAddr (fldv h 22 3)])) := by
  refine obj_ls hI rfl rfl (fun k hk => ?_)
  match k, hk with
  | 0, _ => exact ref_in hI rfl rfl
  | 1, _ => exact fld_eq hI rfl rfl
  | 2, _ => exact fld_eq hI rfl rfl
  | 3, _ => exact (fld_in hI rfl rfl).1
  | k + 4, hk => exact absurd hk (Nat.not_lt.mpr (Nat.le_add_left _ _))
theorem oz0_r3 {h : am_H} (hI : ax_I sb1 h) : am_get h 24 = some (.inr (8, [.ref 25, .retAddr 4, .retAddr 4, .retAddr (fldv h 24 3)])) := by
  refine obj_ls hI rfl rfl (fun k hk => ?_)
  match k, hk with
  | 0, _ => exact ref_in hI rfl rfl
  | 1, _ => exact fld_eq hI rfl rfl
  | 2, _ => exact fld_eq hI rfl rfl
  | 3, _ => exact (fld_in hI rfl rfl).1
  | k + 4, hk => exact absurd hk (Nat.not_lt.mpr (Nat.le_add_left _ _))
theorem oz0_r4 {h : am_H} (hI : ax_I sb1 h) : am_get h 26 = some (.inr (8, [.ref 27, .retAddr 3, .retAddr 6, .retAddr (fldv h 26 3)])) := by
  refine obj_ls hI rfl rfl (fun k hk => ?_)
  match k, hk with
  | 0, _ => exact ref_in hI rfl rfl
  | 1, _ => exact fld_eq hI rfl rfl
  | 2, _ => exact fld_eq hI rfl rfl
  | 3, _ => exact (fld_in hI rfl rfl).1
  | k + 4, hk => exact absurd hk (Nat.not_lt.mpr (Nat.le_add_left _ _))
theorem oz0_r5 {h : am_H} (hI : ax_I sb1 h) : am_get h 28 = some (.inr (8, [.ref 29, .retAddr 2, .retAddr 4, .retAddr (fldv h 28 3)])) := by
  refine obj_ls hI rfl rfl (fun k hk => ?_)
  match k, hk with
  | 0, _ => exact ref_in hI rfl rfl
  | 1, _ => exact fld_eq hI rfl rfl
  | 2, _ => exact fld_eq hI rfl rfl
  | 3, _ => exact (fld_in hI rfl rfl).1
  | k + 4, hk => exact absurd hk (Nat.not_lt.mpr (Nat.le_add_left _ _))
/-- the evening's rows, as the screens read them -/
theorem sh0_rows {mi go : Nat} {Z X : Nat → Nat} {h : am_H} (i0 : ax_I sb1 h) (hP : je_x h 17 mi go Z X) : am_get h 17 = some (.inr (1, [.ref 18, .ref 20, .ref 22, .ref 24, .ref 26, .ref 28, .retAddr mi, .retAddr go])) ∧ (am_get h 18 = some (.inr (8, [.ref 19, .retAddr 1, .retAddr 4, .retAddr (Z 0)])) ∧ am_get h 19 = some (.inl (0, 45, X 0))) ∧ (am_get h 20 = some (.inr (8, [.ref 21, .retAddr 5, .retAddr 9, .retAddr (Z 1)])) ∧ am_get h 21 = some (.inl (0, 45, X 1))) ∧ (am_get h 22 = some (.inr (8, [.ref 23, .retAddr 3, .retAddr 6, .retAddr (Z 2)])) ∧ am_get h 23 = some (.inl (0, 45, X 2))) ∧ (am_get h 24 = some (.inr (8, [.ref 25, .retAddr 4, .retAddr 4, .retAddr (Z 3)])) ∧ am_get h 25 = some (.inl (0, 45, X 3))) ∧ (am_get h 26 = some (.inr (8, [.ref 27, .retAddr 3, .retAddr 6, .retAddr (Z 4)])) ∧ am_get h 27 = some (.inl (0, 45, X 4))) ∧ (am_get h 28 = some (.inr (8, [.ref 29, .retAddr 2, .retAddr 4, .retAddr (Z 5)])) ∧ am_get h 29 = some (.inl (0, 45, X 5))) := by
  have f : ∀ k, k < 6 → fldv h (17 + 1 + 2 * k) 3 = Z k := fun k hk => fldv_fv (hP.2.2 k hk).1
  have e := oz0_cE i0
  rw [fldv_fv hP.1, fldv_fv hP.2.1] at e
  refine ⟨e, ⟨?_, (hP.2.2 0 (by decide)).2⟩, ⟨?_, (hP.2.2 1 (by decide)).2⟩, ⟨?_, (hP.2.2 2 (by decide)).2⟩, ⟨?_, (hP.2.2 3 (by decide)).2⟩, ⟨?_, (hP.2.2 4 (by decide)).2⟩, ⟨?_, (hP.2.2 5 (by decide)).2⟩⟩
  · have q := oz0_r0 i0
    rw [show fldv h 18 3 = Z 0 from f 0 (by decide)] at q
    exact q
  · have q := oz0_r1 i0
    rw [show fldv h 20 3 = Z 1 from f 1 (by decide)] at q
    exact q
  · have q := oz0_r2 i0
    rw [show fldv h 22 3 = Z 2 from f 2 (by decide)] at q
    exact q
  · have q := oz0_r3 i0
    rw [show fldv h 24 3 = Z 3 from f 3 (by decide)] at q
    exact q
  · have q := oz0_r4 i0
    rw [show fldv h 26 3 = Z 4 from f 4 (by decide)] at q
    exact q
  · have q := oz0_r5 i0
    rw [show fldv h 28 3 = Z 5 from f 5 (by decide)] at q
    exact q
theorem sh0_32 {mi go : Nat} {Z X : Nat → Nat} {h : am_H} (i0 : ax_I sb1 h) (hP : je_x h 17 mi go Z X) (vZ : ∀ k, k < 6 → Z k ≤ je_z k) (hB : je_B Z X) {come wo : Nat} (hco : come < 65536) (hwo : wo < 4294967296) : am_EG mi_32 [.ref 32, .ref 17, .retAddr come, .retAddr wo] h (none, sv32 h (shW Z X come wo (rowv h 33)) (shF Z X come wo (rowv h 34)) (shB Z X come wo (rowv h 35))) ∧ ax_I sb1 (sv32 h (shW Z X come wo (rowv h 33)) (shF Z X come wo (rowv h 34)) (shB Z X come wo (rowv h 35))) ∧ sv32_ok h := by
  have g1 : am_get h 33 = some (.inl (0, 240, rowv h 33)) := (row_in i0 rfl).1
  have g2 : am_get h 34 = some (.inl (0, 240, rowv h 34)) := (row_in i0 rfl).1
  have g3 : am_get h 35 = some (.inl (0, 240, rowv h 35)) := (row_in i0 rfl).1
  have hH : sv32_ok h := ⟨⟨_, g1⟩, ⟨_, g2⟩, ⟨_, g3⟩, trivial⟩
  obtain ⟨qE, ⟨r0, x0⟩, ⟨r1, x1⟩, ⟨r2, x2⟩, ⟨r3, x3⟩, -, -⟩ := sh0_rows i0 hP
  have z0 : Z 0 ≤ 4 := vZ 0 (by decide)
  have z1 : Z 1 ≤ 9 := vZ 1 (by decide)
  have z2 : Z 2 ≤ 6 := vZ 2 (by decide)
  have z3 : Z 3 ≤ 4 := vZ 3 (by decide)
  refine ⟨?_, ?_, hH⟩
  · have e := s32_show (W := rowv h 33) (F := rowv h 34) (B := rowv h 35) hH (oz0_c32 i0) (fun W F B => (sv32_o hH rfl).trans qE) (fun W F B => (sv32_o hH rfl).trans r0) (fun W F B => (sv32_o hH rfl).trans r1) (fun W F B => (sv32_o hH rfl).trans r2) (fun W F B => (sv32_o hH rfl).trans r3)
      (fun W F B r c hr hc => cw1 ((sv32_o hH rfl).trans r0) ((sv32_o hH rfl).trans x0) (by omega) (by omega) hr hc) (fun W F B r c hr hc => cw5 ((sv32_o hH rfl).trans r1) ((sv32_o hH rfl).trans x1) (by omega) (by omega) hr hc) (fun W F B r c hr hc => cw3 ((sv32_o hH rfl).trans r2) ((sv32_o hH rfl).trans x2) (by omega) (by omega) hr hc) (fun W F B r c hr hc => cw4 ((sv32_o hH rfl).trans r3) ((sv32_o hH rfl).trans x3) (by omega) (by omega) hr hc)
      z0 z1 z2 (by omega) (fun i hi => hB 1 (by decide) i hi 0 (by decide)) (fun i hi => hB 1 (by decide) i hi 1 (by decide)) (fun i hi => hB 1 (by decide) i hi 2 (by decide)) (fun i hi => hB 2 (by decide) i hi 0 (by decide)) (fun i hi => hB 2 (by decide) i hi 1 (by decide)) (fun i hi => hB 2 (by decide) i hi 2 (by decide)) (fun i hi => hB 3 (by decide) i hi 0 (by decide)) (fun i hi => hB 3 (by decide) i hi 1 (by decide)) (fun i hi => hB 3 (by decide) i hi 2 (by decide)) hco hwo
    have own : sv32 h (rowv h 33) (rowv h 34) (rowv h 35) = h := by
      unfold sv32
      exact am_ups_00 ⟨g1, g2, g3, trivial⟩
    exact Eq.mp (congrArg (fun g => am_EG mi_32 [.ref 32, .ref 17, .retAddr come, .retAddr wo] g (none, sv32 h (shW Z X come wo (rowv h 33)) (shF Z X come wo (rowv h 34)) (shB Z X come wo (rowv h 35)))) own) e
  · have b0 : ∀ i, i < Z 0 → am_ag (X 0) i ≤ 99 := fun i hi => by
      have q := hB 0 (by decide) i hi 0 (by decide)
      rw [show je_w 0 * i + 0 = i by show 1 * i + 0 = i; omega] at q
      exact Nat.le_trans q (by decide)
    have k0 := hH
    unfold sv32
    refine ax_I_ups i0 ?_ ⟨ok_at rfl (ok_row1 (by decide) (shW_P (P := fun n => n ≤ 99) (row1_le i0 rfl) (by decide) b0 (fun i hi => Nat.le_trans (hB 1 (by decide) i hi 3 (by decide)) (by decide)))), ok_at rfl (ok_row1 (by decide) (shF_P (P := fun n => n ≤ 99) (row1_le i0 rfl) (by decide) (fun i hi => Nat.le_trans (hB 1 (by decide) i hi 4 (by decide)) (by decide)))), ok_at rfl (ok_row1 (by decide) (shB_P (P := fun n => n ≤ 1) (row1_le i0 rfl) (by decide) (by decide))), trivial⟩
    exact k0
theorem sh0_36 {mi go : Nat} {Z X : Nat → Nat} {h : am_H} (i0 : ax_I sb1 h) (hP : je_x h 17 mi go Z X) (vZ : ∀ k, k < 6 → Z k ≤ je_z k) (hB : je_B Z X) {come wo : Nat} (hco : come < 65536) (hwo : wo < 4294967296) : am_EG mi_32 [.ref 36, .ref 17, .retAddr come, .retAddr wo] h (none, sv36 h (shW Z X come wo (rowv h 37)) (shF Z X come wo (rowv h 38)) (shB Z X come wo (rowv h 39))) ∧ ax_I sb1 (sv36 h (shW Z X come wo (rowv h 37)) (shF Z X come wo (rowv h 38)) (shB Z X come wo (rowv h 39))) ∧ sv36_ok h := by
  have g1 : am_get h 37 = some (.inl (0, 240, rowv h 37)) := (row_in i0 rfl).1
  have g2 : am_get h 38 = some (.inl (0, 240, rowv h 38)) := (row_in i0 rfl).1
  have g3 : am_get h 39 = some (.inl (0, 240, rowv h 39)) := (row_in i0 rfl).1
  have hH : sv36_ok h := ⟨⟨_, g1⟩, ⟨_, g2⟩, ⟨_, g3⟩, trivial⟩
  obtain ⟨qE, ⟨r0, x0⟩, ⟨r1, x1⟩, ⟨r2, x2⟩, ⟨r3, x3⟩, -, -⟩ := sh0_rows i0 hP
  have z0 : Z 0 ≤ 4 := vZ 0 (by decide)
  have z1 : Z 1 ≤ 9 := vZ 1 (by decide)
  have z2 : Z 2 ≤ 6 := vZ 2 (by decide)
  have z3 : Z 3 ≤ 4 := vZ 3 (by decide)
  refine ⟨?_, ?_, hH⟩
  · have e := s36_show (W := rowv h 37) (F := rowv h 38) (B := rowv h 39) hH (oz0_c36 i0) (fun W F B => (sv36_o hH rfl).trans qE) (fun W F B => (sv36_o hH rfl).trans r0) (fun W F B => (sv36_o hH rfl).trans r1) (fun W F B => (sv36_o hH rfl).trans r2) (fun W F B => (sv36_o hH rfl).trans r3)
      (fun W F B r c hr hc => cw1 ((sv36_o hH rfl).trans r0) ((sv36_o hH rfl).trans x0) (by omega) (by omega) hr hc) (fun W F B r c hr hc => cw5 ((sv36_o hH rfl).trans r1) ((sv36_o hH rfl).trans x1) (by omega) (by omega) hr hc) (fun W F B r c hr hc => cw3 ((sv36_o hH rfl).trans r2) ((sv36_o hH rfl).trans x2) (by omega) (by omega) hr hc) (fun W F B r c hr hc => cw4 ((sv36_o hH rfl).trans r3) ((sv36_o hH rfl).trans x3) (by omega) (by omega) hr hc)
      z0 z1 z2 (by omega) (fun i hi => hB 1 (by decide) i hi 0 (by decide)) (fun i hi => hB 1 (by decide) i hi 1 (by decide)) (fun i hi => hB 1 (by decide) i hi 2 (by decide)) (fun i hi => hB 2 (by decide) i hi 0 (by decide)) (fun i hi => hB 2 (by decide) i hi 1 (by decide)) (fun i hi => hB 2 (by decide) i hi 2 (by decide)) (fun i hi => hB 3 (by decide) i hi 0 (by decide)) (fun i hi => hB 3 (by decide) i hi 1 (by decide)) (fun i hi => hB 3 (by decide) i hi 2 (by decide)) hco hwo
    have own : sv36 h (rowv h 37) (rowv h 38) (rowv h 39) = h := by
      unfold sv36
      exact am_ups_00 ⟨g1, g2, g3, trivial⟩
    exact Eq.mp (congrArg (fun g => am_EG mi_32 [.ref 36, .ref 17, .retAddr come, .retAddr wo] g (none, sv36 h (shW Z X come wo (rowv h 37)) (shF Z X come wo (rowv h 38)) (shB Z X come wo (rowv h 39)))) own) e
  · have b0 : ∀ i, i < Z 0 → am_ag (X 0) i ≤ 99 := fun i hi => by
      have q := hB 0 (by decide) i hi 0 (by decide)
      rw [show je_w 0 * i + 0 = i by show 1 * i + 0 = i; omega] at q
      exact Nat.le_trans q (by decide)
    have k0 := hH
    unfold sv36
    refine ax_I_ups i0 ?_ ⟨ok_at rfl (ok_row1 (by decide) (shW_P (P := fun n => n ≤ 99) (row1_le i0 rfl) (by decide) b0 (fun i hi => Nat.le_trans (hB 1 (by decide) i hi 3 (by decide)) (by decide)))), ok_at rfl (ok_row1 (by decide) (shF_P (P := fun n => n ≤ 99) (row1_le i0 rfl) (by decide) (fun i hi => Nat.le_trans (hB 1 (by decide) i hi 4 (by decide)) (by decide)))), ok_at rfl (ok_row1 (by decide) (shB_P (P := fun n => n ≤ 1) (row1_le i0 rfl) (by decide) (by decide))), trivial⟩
    exact k0
theorem oz0_c43 {h : am_H} (hI : ax_I sb1 h) : am_get h 43 = some (.inr (7, [.ref 44, .retAddr (fldv h 43 1), .retAddr (fldv h 43 2), .retAddr (fldv h 43 3)])) := by
  refine obj_ls hI rfl rfl (fun k hk => ?_)
  match k, hk with
  | 0, _ => exact ref_in hI rfl rfl
  | 1, _ => exact (fld_in hI rfl rfl).1
  | 2, _ => exact (fld_in hI rfl rfl).1
  | 3, _ => exact (fld_in hI rfl rfl).1
  | k + 4, hk => exact absurd hk (Nat.not_lt.mpr (Nat.le_add_left _ _))
theorem te0_take {mi go : Nat} {Z X : Nat → Nat} (vZ : ∀ k, k < 6 → Z k ≤ je_z k) (hB : je_B Z X) {h : am_H} (hI : ax_I xtb0 h) (hP : je_x h 17 mi go Z X) (hL : je_L h) : ∃ h', am_EG (am_mi 28) [.ref 0] h (none, h') ∧ ax_I xtb0 h' ∧ (h'.1 = h.1 ∧ h'.2.1 = h.2.1 ∧ (∀ a, ax_at xtb0 a = none → am_get h' a = am_get h a) ∧ am_get h' 1 = am_get h 1 ∧ ax_fv h' 0 1 = ax_fv h 0 1 ∧ ax_fv h' 18 3 = ax_fv h 18 3) ∧ ax_fv h' 0 16 = some (.retAddr 0) ∧ (je_x h' 17 mi go Z X ∧ je_T0 h' mi go Z X) := by
  have i0 : ax_I sb1 h := (ax_I_to st_xtb0).mpr hI
  obtain ⟨qE, -, -, -, -, ⟨qR, aC⟩, -⟩ := sh0_rows i0 hP
  have hn : Z 4 ≤ 6 := vZ 4 (by decide)
  have h7 : ∀ i, i < 45 → am_ag (X 4) i ≤ 7 := fun i hi => by
    have q := row1_le i0 (a := 27) rfl i hi
    have e : rowv h 27 = X 4 := by unfold rowv; rw [aC]
    rw [e] at q
    exact q
  have a31 : am_get h 31 = some (.inl (0, 256, rowv h 31)) := (row_in i0 rfl).1
  obtain ⟨X', e1, hcl⟩ := dv17_m (oz0_c30 i0) a31 qE rfl qR aC hn h7
  have u1 : ∀ a, a ≠ 31 → am_get (am_upd h 31 (.inl (0, 256, X'))) a = am_get h a := fun a ha => by rw [am_get_upd a31, if_neg ha]
  have g31 : am_get (am_upd h 31 (.inl (0, 256, X'))) 31 = some (.inl (0, 256, X')) := by rw [am_get_upd a31, if_pos rfl]
  have i1 : ax_I sb1 (am_upd h 31 (.inl (0, 256, X'))) := by
    refine ax_I_ups (l := [(31, _)]) i0 ⟨⟨_, a31⟩, trivial⟩ ⟨ok_at rfl (ok_row1 (by decide) fun i hi => ?_), trivial⟩
    rw [hcl i hi]
    exact Nat.le_of_lt_succ (cl_k_lt hi (fun j hj => h7 _ (by omega)) 6)
  have s1 : (am_upd h 31 (.inl (0, 256, X'))).1 = h.1 ∧ (am_upd h 31 (.inl (0, 256, X'))).2.1 = h.2.1 := ⟨rfl, rfl⟩
  generalize am_upd h 31 (.inl (0, 256, X')) = h1 at e1 u1 g31 i1 s1
  have hP1 : je_x h1 17 mi go Z X := by
    refine ⟨by rw [ax_fv_get (u1 _ (by decide))]; exact hP.1, by rw [ax_fv_get (u1 _ (by decide))]; exact hP.2.1, fun k hk => ⟨?_, ?_⟩⟩
    · rw [ax_fv_get (u1 _ (by omega))]; exact (hP.2.2 k hk).1
    · rw [u1 _ (by omega)]; exact (hP.2.2 k hk).2
  obtain ⟨e2, i2, hH⟩ := sh0_32 i1 hP1 vZ hB (come := 0) (wo := 4294967292) (by decide) (by decide)
  have s33 : am_get _ 33 = _ := sv32_g33 (W := shW Z X 0 4294967292 (rowv h1 33)) (F := shF Z X 0 4294967292 (rowv h1 34)) (B := shB Z X 0 4294967292 (rowv h1 35)) hH
  have s34 : am_get _ 34 = _ := sv32_g34 (W := shW Z X 0 4294967292 (rowv h1 33)) (F := shF Z X 0 4294967292 (rowv h1 34)) (B := shB Z X 0 4294967292 (rowv h1 35)) hH
  have s35 : am_get _ 35 = _ := sv32_g35 (W := shW Z X 0 4294967292 (rowv h1 33)) (F := shF Z X 0 4294967292 (rowv h1 34)) (B := shB Z X 0 4294967292 (rowv h1 35)) hH
  have u2 : ∀ a, a ≠ 33 → a ≠ 34 → a ≠ 35 → am_get (sv32 h1 (shW Z X 0 4294967292 (rowv h1 33)) (shF Z X 0 4294967292 (rowv h1 34)) (shB Z X 0 4294967292 (rowv h1 35))) a = am_get h1 a := fun a a1 a2 a3 => sv32_o hH (am_lk_ct (ks := [33, 34, 35]) (by simp; omega))
  have s2 : (sv32 h1 (shW Z X 0 4294967292 (rowv h1 33)) (shF Z X 0 4294967292 (rowv h1 34)) (shB Z X 0 4294967292 (rowv h1 35))).1 = h1.1 ∧ (sv32 h1 (shW Z X 0 4294967292 (rowv h1 33)) (shF Z X 0 4294967292 (rowv h1 34)) (shB Z X 0 4294967292 (rowv h1 35))).2.1 = h1.2.1 := by unfold sv32; exact am_ups_1 _
  generalize sv32 h1 (shW Z X 0 4294967292 (rowv h1 33)) (shF Z X 0 4294967292 (rowv h1 34)) (shB Z X 0 4294967292 (rowv h1 35)) = h2 at e2 i2 s33 s34 s35 u2 s2
  have hP2 : je_x h2 17 mi go Z X := by
    refine ⟨by rw [ax_fv_get (u2 _ (by decide) (by decide) (by decide))]; exact hP1.1, by rw [ax_fv_get (u2 _ (by decide) (by decide) (by decide))]; exact hP1.2.1, fun k hk => ⟨?_, ?_⟩⟩
    · rw [ax_fv_get (u2 _ (by omega) (by omega) (by omega))]; exact (hP1.2.2 k hk).1
    · rw [u2 _ (by omega) (by omega) (by omega)]; exact (hP1.2.2 k hk).2
  obtain ⟨qE2, ⟨r02, -⟩, -⟩ := sh0_rows i2 hP2
  have bm : 1 ≤ mi ∧ mi ≤ 60 := by
    have q := (fld_in (a := 17) (k := 6) i2 rfl rfl).2
    rw [fldv_fv hP2.1] at q
    exact jm_in1 q
  have bg : go ≤ 3 := by
    have q := (fld_in (a := 17) (k := 7) i2 rfl rfl).2
    rw [fldv_fv hP2.2.1] at q
    exact (jm_in1 q).2
  have q43 := oz0_c43 i2
  have q44 : am_get h2 44 = some (.inl (0, 240, rowv h2 44)) := (row_in i2 rfl).1
  have rk : rv_ok h2 := ⟨⟨_, q43⟩, ⟨_, q44⟩, trivial⟩
  have own : rv h2 (fldv h2 43 1) (fldv h2 43 2) (fldv h2 43 3) (rowv h2 44) = h2 := by
    unfold rv
    exact am_ups_00 ⟨q43, q44, trivial⟩
  obtain ⟨G', hR, e3⟩ := rw_all (q := 32) (fw := fun s t => sc_W Z X 0 4294967292 s t) (n := Z 0) (mi := mi) (go := go) (m := fldv h2 43 1) (fm := fldv h2 43 2) (fs := fldv h2 43 3) (G := rowv h2 44) rk (fun m fm fs G => (rv_o rk rfl).trans (oz0_c32 i2)) (fun m fm fs G s t hs ht => by
    have z0 : Z 0 ≤ 4 := vZ 0 (by decide)
    have e := ew_w (s := s) (t := t) ((rv_o (m := m) (fm := fm) (fs := fs) (G := G) rk rfl).trans (oz0_c32 i2)) ((rv_o rk rfl).trans s33) (by omega) (by omega)
    rw [shW_ag (je_B_bd hB) hs (by omega)] at e
    exact e) (vZ 0 (by decide)) bm.1 bm.2 bg (fun s t hs ht => Nat.le_trans (rt_W9 hB 0 4294967292 s t hs) (by decide)) rfl qE2 rfl rfl rfl rfl r02 rfl
  rw [own] at e3
  have g43 : am_get (rv h2 mi (fldv h2 43 2) (fldv h2 43 3) G') 43 = _ := rv_g43 rk
  have g44 : am_get (rv h2 mi (fldv h2 43 2) (fldv h2 43 3) G') 44 = _ := rv_g44 rk
  have u3 : ∀ a, a ≠ 43 → a ≠ 44 → am_get (rv h2 mi (fldv h2 43 2) (fldv h2 43 3) G') a = am_get h2 a := fun a a1 a2 => rv_o rk (am_lk_ct (ks := [43, 44]) (by simp; omega))
  have s3 : (rv h2 mi (fldv h2 43 2) (fldv h2 43 3) G').1 = h2.1 ∧ (rv h2 mi (fldv h2 43 2) (fldv h2 43 3) G').2.1 = h2.2.1 := by unfold rv; exact am_ups_1 _
  have i3 : ax_I sb1 (rv h2 mi (fldv h2 43 2) (fldv h2 43 3) G') := by
    have k0 := rk
    unfold rv
    refine ax_I_ups i2 ?_ ⟨ok_at rfl (ok_set (k := 1) (n := mi) (ok_own i2 rfl q43) rfl (ax_in_1 (by omega) bm.1 bm.2)), ok_at rfl ok_rowt, trivial⟩
    exact k0
  generalize rv h2 mi (fldv h2 43 2) (fldv h2 43 3) G' = h3 at e3 g43 g44 u3 s3 i3
  have m43 : ax_fv h3 43 1 = some (.retAddr mi) := by unfold ax_fv; rw [g43]; rfl
  obtain ⟨fb, g47, lb, -⟩ := i3.obj (a := 47) rfl
  have u4 : ∀ a, a ≠ 47 → am_get (am_upd h3 47 (.inr (0, fb.set 8 (.retAddr 0)))) a = am_get h3 a := fun a ha => by rw [am_get_upd g47, if_neg ha]
  have i4 : ax_I sb1 (am_upd h3 47 (.inr (0, fb.set 8 (.retAddr 0)))) := ax_I_ups (l := [(47, _)]) i3 ⟨⟨_, g47⟩, trivial⟩ ⟨ok_at rfl (ok_set (k := 8) (ok_own i3 rfl g47) rfl (ax_in_1 (by decide) (Nat.le_refl _) (Nat.zero_le _))), trivial⟩
  have v4 : ax_fv (am_upd h3 47 (.inr (0, fb.set 8 (.retAddr 0)))) 47 8 = some (.retAddr 0) := by
    unfold ax_fv
    rw [am_get_upd g47, if_pos rfl]
    exact List.getElem?_set_self (by rw [lb]; decide)
  have s4 : (am_upd h3 47 (.inr (0, fb.set 8 (.retAddr 0)))).1 = h3.1 ∧ (am_upd h3 47 (.inr (0, fb.set 8 (.retAddr 0)))).2.1 = h3.2.1 := ⟨rfl, rfl⟩
  have hb : ∀ r, am_Good mi_28 48 [some (.ref 0)] [] (am_upd h3 47 (.inr (0, fb.set 8 (.retAddr 0)))) r → am_Good mi_28 40 [some (.ref 0)] [] h3 r := fun r hg => te0_b (oz0_c0 i3) g47 (by rw [lb]; decide) hg
  generalize am_upd h3 47 (.inr (0, fb.set 8 (.retAddr 0))) = h4 at u4 i4 s4 hb v4
  obtain ⟨h5, e5, i5, f5⟩ := ax_vo rv0_plan (ax_rs.c ax_rvr trivial) h4 ((ax_I_to st_xv0).mp i4)
  obtain ⟨h6, e6, i6, f6⟩ := ax_vo rv0_past (ax_rs.c ax_rvr trivial) h5 i5
  have i5 : ax_I sb1 h5 := (ax_I_to st_xv0).mpr i5
  have i6 : ax_I sb1 h6 := (ax_I_to st_xv0).mpr i6
  have g0 := oz0_c0 i6
  obtain ⟨v30, g30, -⟩ := i0.obj (a := 30) rfl
  obtain ⟨v32, g32, -⟩ := i1.obj (a := 32) rfl
  obtain ⟨v54, g54, -⟩ := i4.obj (a := 54) rfl
  obtain ⟨v57, g57, -⟩ := i5.obj (a := 57) rfl
  have u7 : ∀ a, a ≠ 0 → am_get (am_upd h6 0 (.inr (11, ([.ref 1, .retAddr (fldv h6 0 1), .ref 2, .ref 17, .ref 4, .ref 30, .ref 32, .ref 36, .ref 40, .ref 43, .ref 45, .ref 47, .ref 54, .ref 57, .ref 59, .ref 62, .retAddr (fldv h6 0 16)] : List Value).set 16 (.retAddr 0)))) a = am_get h6 a := fun a ha => by rw [am_get_upd g0, if_neg ha]
  have g7 : am_get (am_upd h6 0 (.inr (11, ([.ref 1, .retAddr (fldv h6 0 1), .ref 2, .ref 17, .ref 4, .ref 30, .ref 32, .ref 36, .ref 40, .ref 43, .ref 45, .ref 47, .ref 54, .ref 57, .ref 59, .ref 62, .retAddr (fldv h6 0 16)] : List Value).set 16 (.retAddr 0)))) 0 = some (.inr (11, ([.ref 1, .retAddr (fldv h6 0 1), .ref 2, .ref 17, .ref 4, .ref 30, .ref 32, .ref 36, .ref 40, .ref 43, .ref 45, .ref 47, .ref 54, .ref 57, .ref 59, .ref 62, .retAddr (fldv h6 0 16)] : List Value).set 16 (.retAddr 0))) := by rw [am_get_upd g0, if_pos rfl]
  have i7 : ax_I sb1 (am_upd h6 0 (.inr (11, ([.ref 1, .retAddr (fldv h6 0 1), .ref 2, .ref 17, .ref 4, .ref 30, .ref 32, .ref 36, .ref 40, .ref 43, .ref 45, .ref 47, .ref 54, .ref 57, .ref 59, .ref 62, .retAddr (fldv h6 0 16)] : List Value).set 16 (.retAddr 0)))) := ax_I_ups (l := [(0, _)]) i6 ⟨⟨_, g0⟩, trivial⟩ ⟨ok_at rfl (ok_set (k := 16) (ok_own i6 rfl g0) rfl (ax_in_1 (by decide) (Nat.le_refl _) (Nat.zero_le _))), trivial⟩
  have all : am_EG mi_28 [.ref 0] h (none, am_upd h6 0 (.inr (11, ([.ref 1, .retAddr (fldv h6 0 1), .ref 2, .ref 17, .ref 4, .ref 30, .ref 32, .ref 36, .ref 40, .ref 43, .ref 45, .ref 47, .ref 54, .ref 57, .ref 59, .ref 62, .retAddr (fldv h6 0 16)] : List Value).set 16 (.retAddr 0)))) := te0_a (oz0_c0 i0) g30 (oz0_c0 i1) g32 (oz0_c0 i2) q43 e1 e2 e3 (hb _ (te0_c (oz0_c0 i4) g54 (oz0_c0 i5) g57 e5 e6 (te0_d g0)))
  have sz : (am_upd h6 0 (.inr (11, ([.ref 1, .retAddr (fldv h6 0 1), .ref 2, .ref 17, .ref 4, .ref 30, .ref 32, .ref 36, .ref 40, .ref 43, .ref 45, .ref 47, .ref 54, .ref 57, .ref 59, .ref 62, .retAddr (fldv h6 0 16)] : List Value).set 16 (.retAddr 0)))).1 = h.1 ∧ (am_upd h6 0 (.inr (11, ([.ref 1, .retAddr (fldv h6 0 1), .ref 2, .ref 17, .ref 4, .ref 30, .ref 32, .ref 36, .ref 40, .ref 43, .ref 45, .ref 47, .ref 54, .ref 57, .ref 59, .ref 62, .retAddr (fldv h6 0 16)] : List Value).set 16 (.retAddr 0)))).2.1 = h.2.1 := ⟨(f6.1.trans (f5.1.trans (s4.1.trans (s3.1.trans (s2.1.trans s1.1))))), (f6.2.1.trans (f5.2.1.trans (s4.2.trans (s3.2.trans (s2.2.trans s1.2)))))⟩
  generalize am_upd h6 0 (.inr (11, ([.ref 1, .retAddr (fldv h6 0 1), .ref 2, .ref 17, .ref 4, .ref 30, .ref 32, .ref 36, .ref 40, .ref 43, .ref 45, .ref 47, .ref 54, .ref 57, .ref 59, .ref 62, .retAddr (fldv h6 0 16)] : List Value).set 16 (.retAddr 0))) = h7 at u7 g7 i7 all sz
  have nn : ∀ a, a ≠ 0 → a ≠ 31 → a ≠ 47 → a ≠ 33 → a ≠ 34 → a ≠ 35 → a ≠ 43 → a ≠ 44 → ax_at xv0 a = none → am_get h7 a = am_get h a := fun a a0 a1 a2 b1 b2 b3 c1 c2 hq => by
    rw [u7 a a0, f6.2.2.1 a hq, f5.2.2.1 a hq, u4 a a2, u3 a c1 c2, u2 a b1 b2 b3, u1 a a1]
  have nr : ∀ a kd n cols, a ≠ 0 → a ≠ 31 → a ≠ 47 → a ≠ 33 → a ≠ 34 → a ≠ 35 → a ≠ 43 → a ≠ 44 → ax_at xv0 a = some (.inl (kd, n, 0, cols)) → am_get h7 a = am_get h a := fun a kd n cols a0 a1 a2 b1 b2 b3 c1 c2 hq => by
    rw [u7 a a0, f6.2.2.2.1 a kd n cols hq, f5.2.2.2.1 a kd n cols hq, u4 a a2, u3 a c1 c2, u2 a b1 b2 b3, u1 a a1]
  have nf : ∀ a ci fs k R, a ≠ 0 → a ≠ 47 → a ≠ 31 → a ≠ 33 → a ≠ 34 → a ≠ 35 → a ≠ 43 → a ≠ 44 → ax_at xv0 a = some (.inr (ci, fs)) → fs[k]? = some (0, 0, R) → ax_fv h7 a k = ax_fv h a k := fun a ci fs k R a0 a1 a2 b1 b2 b3 c1 c2 hq hk => by
    rw [ax_fv_get (u7 a a0), f6.2.2.2.2 a ci fs k R hq hk, f5.2.2.2.2 a ci fs k R hq hk, ax_fv_get (u4 a a1), ax_fv_get (u3 a c1 c2), ax_fv_get (u2 a b1 b2 b3), ax_fv_get (u1 a a2)]
  have m0 : ∀ k, k = 1 → ax_fv h7 0 k = ax_fv h 0 k := fun k hk => by
    subst hk
    have q : ax_fv h7 0 1 = ax_fv h6 0 1 := by
      unfold ax_fv
      rw [g7, g0]
      rfl
    rw [q, f6.2.2.2.2 0 11 _ 1 _ rfl rfl, f5.2.2.2.2 0 11 _ 1 _ rfl rfl, ax_fv_get (u4 0 (by decide)), ax_fv_get (u3 0 (by decide) (by decide)), ax_fv_get (u2 0 (by decide) (by decide) (by decide)), ax_fv_get (u1 0 (by decide))]
  have sc : ∀ a, a = 33 ∨ a = 34 ∨ a = 35 → am_get h7 a = am_get h2 a := fun a ha => by
    rcases ha with rfl | rfl | rfl <;> rw [u7 _ (by decide), f6.2.2.2.1 _ 0 240 _ rfl, f5.2.2.2.1 _ 0 240 _ rfl, u4 _ (by decide), u3 _ (by decide) (by decide)]
  refine ⟨h7, all, (ax_I_to st_xtb0).mp i7, ⟨sz.1, sz.2, fun a ha => ?_, nr 1 1 200 _ (by decide) (by decide) (by decide) (by decide) (by decide) (by decide) (by decide) (by decide) rfl, m0 1 rfl, nf 18 8 _ 3 _ (by decide) (by decide) (by decide) (by decide) (by decide) (by decide) (by decide) (by decide) rfl rfl⟩, ?_, ?_, ⟨X', ?_, hcl⟩, ?_, ?_, ?_, ?_⟩
  · have nx : ∀ b s, ax_at xtb0 b = some s → a ≠ b := fun b s hb q => by rw [q, hb] at ha; cases ha
    refine nn a (nx 0 _ rfl) (nx 31 _ rfl) (nx 47 _ rfl) (nx 33 _ rfl) (nx 34 _ rfl) (nx 35 _ rfl) (nx 43 _ rfl) (nx 44 _ rfl) ?_
    have e : (ax_at (ax_ss xv0) a) = (ax_at (ax_ss xtb0) a) := by rw [st_xv0, st_xtb0]
    rw [ax_at_ss, ax_at_ss, ha] at e
    cases hx : ax_at xv0 a with
    | none => rfl
    | some s => rw [hx] at e; cases e
  · unfold ax_fv
    rw [g7]
    rfl
  · refine ⟨?_, ?_, fun k hk => ?_⟩
    · rw [nf 17 1 _ 6 _ (by decide) (by decide) (by decide) (by decide) (by decide) (by decide) (by decide) (by decide) rfl rfl]; exact hP.1
    · rw [nf 17 1 _ 7 _ (by decide) (by decide) (by decide) (by decide) (by decide) (by decide) (by decide) (by decide) rfl rfl]; exact hP.2.1
    · have q := hP.2.2 k hk
      match k, hk, q with
      | 0, _, q => exact ⟨(nf 18 8 _ 3 _ (by decide) (by decide) (by decide) (by decide) (by decide) (by decide) (by decide) (by decide) rfl rfl).trans q.1, (nr 19 0 45 _ (by decide) (by decide) (by decide) (by decide) (by decide) (by decide) (by decide) (by decide) rfl).trans q.2⟩
      | 1, _, q => exact ⟨(nf 20 8 _ 3 _ (by decide) (by decide) (by decide) (by decide) (by decide) (by decide) (by decide) (by decide) rfl rfl).trans q.1, (nr 21 0 45 _ (by decide) (by decide) (by decide) (by decide) (by decide) (by decide) (by decide) (by decide) rfl).trans q.2⟩
      | 2, _, q => exact ⟨(nf 22 8 _ 3 _ (by decide) (by decide) (by decide) (by decide) (by decide) (by decide) (by decide) (by decide) rfl rfl).trans q.1, (nr 23 0 45 _ (by decide) (by decide) (by decide) (by decide) (by decide) (by decide) (by decide) (by decide) rfl).trans q.2⟩
      | 3, _, q => exact ⟨(nf 24 8 _ 3 _ (by decide) (by decide) (by decide) (by decide) (by decide) (by decide) (by decide) (by decide) rfl rfl).trans q.1, (nr 25 0 45 _ (by decide) (by decide) (by decide) (by decide) (by decide) (by decide) (by decide) (by decide) rfl).trans q.2⟩
      | 4, _, q => exact ⟨(nf 26 8 _ 3 _ (by decide) (by decide) (by decide) (by decide) (by decide) (by decide) (by decide) (by decide) rfl rfl).trans q.1, (nr 27 0 45 _ (by decide) (by decide) (by decide) (by decide) (by decide) (by decide) (by decide) (by decide) rfl).trans q.2⟩
      | 5, _, q => exact ⟨(nf 28 8 _ 3 _ (by decide) (by decide) (by decide) (by decide) (by decide) (by decide) (by decide) (by decide) rfl rfl).trans q.1, (nr 29 0 45 _ (by decide) (by decide) (by decide) (by decide) (by decide) (by decide) (by decide) (by decide) rfl).trans q.2⟩
      | k + 6, hk, _ => exact absurd hk (by omega)
  · rw [u7 31 (by decide), f6.2.2.2.1 31 0 256 _ rfl, f5.2.2.2.1 31 0 256 _ rfl, u4 31 (by decide), u3 31 (by decide) (by decide), u2 31 (by decide) (by decide) (by decide)]
    exact g31
  · exact ⟨_, _, _, (sc 33 (Or.inl rfl)).trans s33, (sc 34 (Or.inr (Or.inl rfl))).trans s34, (sc 35 (Or.inr (Or.inr rfl))).trans s35, fun s hs t ht => ⟨shW_ag (je_B_bd hB) hs ht, shF_ag (je_B_bd hB) hs ht, shB_ag (je_B_bd hB) hs ht⟩⟩
  · refine ⟨G', ?_, ?_, hR⟩
    · rw [u7 44 (by decide), f6.2.2.2.1 44 0 240 _ rfl, f5.2.2.2.1 44 0 240 _ rfl, u4 44 (by decide)]; exact g44
    · rw [ax_fv_get (u7 43 (by decide)), f6.2.2.2.2 43 7 _ 1 _ rfl rfl, f5.2.2.2.2 43 7 _ 1 _ rfl rfl, ax_fv_get (u4 43 (by decide))]; exact m43
  · rw [ax_fv_get (u7 47 (by decide)), f6.2.2.2.2 47 0 _ 8 _ rfl rfl, f5.2.2.2.2 47 0 _ 8 _ rfl rfl]; exact v4
  · exact je_L_get (by rw [u7 46 (by decide), f6.2.2.2.1 46 0 4096 _ rfl, f5.2.2.2.1 46 0 4096 _ rfl, u4 46 (by decide), u3 46 (by decide) (by decide), u2 46 (by decide) (by decide) (by decide), u1 46 (by decide)]) hL
theorem oz1_c30 {h : am_H} (hI : ax_I sb0 h) : am_get h 30 = some (.inr (2, [.ref 31])) := by
  refine obj_ls hI rfl rfl (fun k hk => ?_)
  match k, hk with
  | 0, _ => exact ref_in hI rfl rfl
  | k + 1, hk => exact absurd hk (Nat.not_lt.mpr (Nat.le_add_left _ _))
theorem oz1_c32 {h : am_H} (hI : ax_I sb0 h) : am_get h 32 = some (.inr (9, [.ref 33, .ref 34, .ref 35])) := by
  refine obj_ls hI rfl rfl (fun k hk => ?_)
  match k, hk with
  | 0, _ => exact ref_in hI rfl rfl
  | 1, _ => exact ref_in hI rfl rfl
  | 2, _ => exact ref_in hI rfl rfl
  | k + 3, hk => exact absurd hk (Nat.not_lt.mpr (Nat.le_add_left _ _))
theorem oz1_c36 {h : am_H} (hI : ax_I sb0 h) : am_get h 36 = some (.inr (9, [.ref 37, .ref 38, .ref 39])) := by
  refine obj_ls hI rfl rfl (fun k hk => ?_)
  match k, hk with
  | 0, _ => exact ref_in hI rfl rfl
  | 1, _ => exact ref_in hI rfl rfl
  | 2, _ => exact ref_in hI rfl rfl
  | k + 3, hk => exact absurd hk (Nat.not_lt.mpr (Nat.le_add_left _ _))
theorem oz1_cE {h : am_H} (hI : ax_I sb0 h) : am_get h 4 = some (.inr (1, [.ref 5, .ref 7, .ref 9, .ref 11, .ref 13, .ref 15, .retAddr (fldv h 4 6), .retAddr (fldv h 4 7)])) := by
  refine obj_ls hI rfl rfl (fun k hk => ?_)
  match k, hk with
  | 0, _ => exact ref_in hI rfl rfl
  | 1, _ => exact ref_in hI rfl rfl
  | 2, _ => exact ref_in hI rfl rfl
  | 3, _ => exact ref_in hI rfl rfl
  | 4, _ => exact ref_in hI rfl rfl
  | 5, _ => exact ref_in hI rfl rfl
  | 6, _ => exact (fld_in hI rfl rfl).1
  | 7, _ => exact (fld_in hI rfl rfl).1
  | k + 8, hk => exact absurd hk (Nat.not_lt.mpr (Nat.le_add_left _ _))
theorem oz1_r0 {h : am_H} (hI : ax_I sb0 h) : am_get h 5 = some (.inr (8, [.ref 6, .retAddr 1, .retAddr 4, .retAddr (fldv h 5 3)])) := by
  refine obj_ls hI rfl rfl (fun k hk => ?_)
  match k, hk with
  | 0, _ => exact ref_in hI rfl rfl
  | 1, _ => exact fld_eq hI rfl rfl
  | 2, _ => exact fld_eq hI rfl rfl
  | 3, _ => exact (fld_in hI rfl rfl).1
  | k + 4, hk => exact absurd hk (Nat.not_lt.mpr (Nat.le_add_left _ _))
theorem oz1_r1 {h : am_H} (hI : ax_I sb0 h) : am_get h 7 = some (.inr (8, [.ref 8, .retAddr 5, .retAddr 9, .retAddr (fldv h 7 3)])) := by
  refine obj_ls hI rfl rfl (fun k hk => ?_)
  match k, hk with
  | 0, _ => exact ref_in hI rfl rfl
  | 1, _ => exact fld_eq hI rfl rfl
  | 2, _ => exact fld_eq hI rfl rfl
  | 3, _ => exact (fld_in hI rfl rfl).1
  | k + 4, hk => exact absurd hk (Nat.not_lt.mpr (Nat.le_add_left _ _))
theorem oz1_r2 {h : am_H} (hI : ax_I sb0 h) : am_get h 9 = some (.inr (8, [.ref 10, .retAddr 3, .retAddr 6, .retAddr (fldv h 9 3)])) := by
  refine obj_ls hI rfl rfl (fun k hk => ?_)
  match k, hk with
  | 0, _ => exact ref_in hI rfl rfl
  | 1, _ => exact fld_eq hI rfl rfl
  | 2, _ => exact fld_eq hI rfl rfl
  | 3, _ => exact (fld_in hI rfl rfl).1
  | k + 4, hk => exact absurd hk (Nat.not_lt.mpr (Nat.le_add_left _ _))
theorem oz1_r3 {h : am_H} (hI : ax_I sb0 h) : am_get h 11 = some (.inr (8, [.ref 12, .retAddr 4, .retAddr 4, .retAddr (fldv h 11 3)])) := by
  refine obj_ls hI rfl rfl (fun k hk => ?_)
  match k, hk with
  | 0, _ => exact ref_in hI rfl rfl
  | 1, _ => exact fld_eq hI rfl rfl
  | 2, _ => exact fld_eq hI rfl rfl
  | 3, _ => exact (fld_in hI rfl rfl).1
  | k + 4, hk => exact absurd hk (Nat.not_lt.mpr (Nat.le_add_left _ _))
theorem oz1_r4 {h : am_H} (hI : ax_I sb0 h) : am_get h 13 = some (.inr (8, [.ref 14, .retAddr 3, .retAddr 6, .retAddr (fldv h 13 3)])) := by
  refine obj_ls hI rfl rfl (fun k hk => ?_)
  match k, hk with
  | 0, _ => exact ref_in hI rfl rfl
  | 1, _ => exact fld_eq hI rfl rfl
  | 2, _ => exact fld_eq hI rfl rfl
  | 3, _ => exact (fld_in hI rfl rfl).1
  | k + 4, hk => exact absurd hk (Nat.not_lt.mpr (Nat.le_add_left _ _))
theorem oz1_r5 {h : am_H} (hI : ax_I sb0 h) : am_get h 15 = some (.inr (8, [.ref 16, .retAddr 2, .retAddr 4, .retAddr (fldv h 15 3)])) := by
  refine obj_ls hI rfl rfl (fun k hk => ?_)
  match k, hk with
  | 0, _ => exact ref_in hI rfl rfl
  | 1, _ => exact fld_eq hI rfl rfl
  | 2, _ => exact fld_eq hI rfl rfl
  | 3, _ => exact (fld_in hI rfl rfl).1
  | k + 4, hk => exact absurd hk (Nat.not_lt.mpr (Nat.le_add_left _ _))
/-- the evening's rows, as the screens read them -/
theorem sh1_rows {mi go : Nat} {Z X : Nat → Nat} {h : am_H} (i0 : ax_I sb0 h) (hP : je_x h 4 mi go Z X) : am_get h 4 = some (.inr (1, [.ref 5, .ref 7, .ref 9, .ref 11, .ref 13, .ref 15, .retAddr mi, .retAddr go])) ∧ (am_get h 5 = some (.inr (8, [.ref 6, .retAddr 1, .retAddr 4, .retAddr (Z 0)])) ∧ am_get h 6 = some (.inl (0, 45, X 0))) ∧ (am_get h 7 = some (.inr (8, [.ref 8, .retAddr 5, .retAddr 9, .retAddr (Z 1)])) ∧ am_get h 8 = some (.inl (0, 45, X 1))) ∧ (am_get h 9 = some (.inr (8, [.ref 10, .retAddr 3, .retAddr 6, .retAddr (Z 2)])) ∧ am_get h 10 = some (.inl (0, 45, X 2))) ∧ (am_get h 11 = some (.inr (8, [.ref 12, .retAddr 4, .retAddr 4, .retAddr (Z 3)])) ∧ am_get h 12 = some (.inl (0, 45, X 3))) ∧ (am_get h 13 = some (.inr (8, [.ref 14, .retAddr 3, .retAddr 6, .retAddr (Z 4)])) ∧ am_get h 14 = some (.inl (0, 45, X 4))) ∧ (am_get h 15 = some (.inr (8, [.ref 16, .retAddr 2, .retAddr 4, .retAddr (Z 5)])) ∧ am_get h 16 = some (.inl (0, 45, X 5))) := by
  have f : ∀ k, k < 6 → fldv h (4 + 1 + 2 * k) 3 = Z k := fun k hk => fldv_fv (hP.2.2 k hk).1
  have e := oz1_cE i0
  rw [fldv_fv hP.1, fldv_fv hP.2.1] at e
  refine ⟨e, ⟨?_, (hP.2.2 0 (by decide)).2⟩, ⟨?_, (hP.2.2 1 (by decide)).2⟩, ⟨?_, (hP.2.2 2 (by decide)).2⟩, ⟨?_, (hP.2.2 3 (by decide)).2⟩, ⟨?_, (hP.2.2 4 (by decide)).2⟩, ⟨?_, (hP.2.2 5 (by decide)).2⟩⟩
  · have q := oz1_r0 i0
    rw [show fldv h 5 3 = Z 0 from f 0 (by decide)] at q
    exact q
  · have q := oz1_r1 i0
    rw [show fldv h 7 3 = Z 1 from f 1 (by decide)] at q
    exact q
  · have q := oz1_r2 i0
    rw [show fldv h 9 3 = Z 2 from f 2 (by decide)] at q
    exact q
  · have q := oz1_r3 i0
    rw [show fldv h 11 3 = Z 3 from f 3 (by decide)] at q
    exact q
  · have q := oz1_r4 i0
    rw [show fldv h 13 3 = Z 4 from f 4 (by decide)] at q
    exact q
  · have q := oz1_r5 i0
    rw [show fldv h 15 3 = Z 5 from f 5 (by decide)] at q
    exact q
theorem sh1_32 {mi go : Nat} {Z X : Nat → Nat} {h : am_H} (i0 : ax_I sb0 h) (hP : je_x h 4 mi go Z X) (vZ : ∀ k, k < 6 → Z k ≤ je_z k) (hB : je_B Z X) {come wo : Nat} (hco : come < 65536) (hwo : wo < 4294967296) : am_EG mi_32 [.ref 32, .ref 4, .retAddr come, .retAddr wo] h (none, sv32 h (shW Z X come wo (rowv h 33)) (shF Z X come wo (rowv h 34)) (shB Z X come wo (rowv h 35))) ∧ ax_I sb0 (sv32 h (shW Z X come wo (rowv h 33)) (shF Z X come wo (rowv h 34)) (shB Z X come wo (rowv h 35))) ∧ sv32_ok h := by
  have g1 : am_get h 33 = some (.inl (0, 240, rowv h 33)) := (row_in i0 rfl).1
  have g2 : am_get h 34 = some (.inl (0, 240, rowv h 34)) := (row_in i0 rfl).1
  have g3 : am_get h 35 = some (.inl (0, 240, rowv h 35)) := (row_in i0 rfl).1
  have hH : sv32_ok h := ⟨⟨_, g1⟩, ⟨_, g2⟩, ⟨_, g3⟩, trivial⟩
  obtain ⟨qE, ⟨r0, x0⟩, ⟨r1, x1⟩, ⟨r2, x2⟩, ⟨r3, x3⟩, -, -⟩ := sh1_rows i0 hP
  have z0 : Z 0 ≤ 4 := vZ 0 (by decide)
  have z1 : Z 1 ≤ 9 := vZ 1 (by decide)
  have z2 : Z 2 ≤ 6 := vZ 2 (by decide)
  have z3 : Z 3 ≤ 4 := vZ 3 (by decide)
  refine ⟨?_, ?_, hH⟩
  · have e := s32_show (W := rowv h 33) (F := rowv h 34) (B := rowv h 35) hH (oz1_c32 i0) (fun W F B => (sv32_o hH rfl).trans qE) (fun W F B => (sv32_o hH rfl).trans r0) (fun W F B => (sv32_o hH rfl).trans r1) (fun W F B => (sv32_o hH rfl).trans r2) (fun W F B => (sv32_o hH rfl).trans r3)
      (fun W F B r c hr hc => cw1 ((sv32_o hH rfl).trans r0) ((sv32_o hH rfl).trans x0) (by omega) (by omega) hr hc) (fun W F B r c hr hc => cw5 ((sv32_o hH rfl).trans r1) ((sv32_o hH rfl).trans x1) (by omega) (by omega) hr hc) (fun W F B r c hr hc => cw3 ((sv32_o hH rfl).trans r2) ((sv32_o hH rfl).trans x2) (by omega) (by omega) hr hc) (fun W F B r c hr hc => cw4 ((sv32_o hH rfl).trans r3) ((sv32_o hH rfl).trans x3) (by omega) (by omega) hr hc)
      z0 z1 z2 (by omega) (fun i hi => hB 1 (by decide) i hi 0 (by decide)) (fun i hi => hB 1 (by decide) i hi 1 (by decide)) (fun i hi => hB 1 (by decide) i hi 2 (by decide)) (fun i hi => hB 2 (by decide) i hi 0 (by decide)) (fun i hi => hB 2 (by decide) i hi 1 (by decide)) (fun i hi => hB 2 (by decide) i hi 2 (by decide)) (fun i hi => hB 3 (by decide) i hi 0 (by decide)) (fun i hi => hB 3 (by decide) i hi 1 (by decide)) (fun i hi => hB 3 (by decide) i hi 2 (by decide)) hco hwo
    have own : sv32 h (rowv h 33) (rowv h 34) (rowv h 35) = h := by
      unfold sv32
      exact am_ups_00 ⟨g1, g2, g3, trivial⟩
    exact Eq.mp (congrArg (fun g => am_EG mi_32 [.ref 32, .ref 4, .retAddr come, .retAddr wo] g (none, sv32 h (shW Z X come wo (rowv h 33)) (shF Z X come wo (rowv h 34)) (shB Z X come wo (rowv h 35)))) own) e
  · have b0 : ∀ i, i < Z 0 → am_ag (X 0) i ≤ 99 := fun i hi => by
      have q := hB 0 (by decide) i hi 0 (by decide)
      rw [show je_w 0 * i + 0 = i by show 1 * i + 0 = i; omega] at q
      exact Nat.le_trans q (by decide)
    have k0 := hH
    unfold sv32
    refine ax_I_ups i0 ?_ ⟨ok_at rfl (ok_row1 (by decide) (shW_P (P := fun n => n ≤ 99) (row1_le i0 rfl) (by decide) b0 (fun i hi => Nat.le_trans (hB 1 (by decide) i hi 3 (by decide)) (by decide)))), ok_at rfl (ok_row1 (by decide) (shF_P (P := fun n => n ≤ 99) (row1_le i0 rfl) (by decide) (fun i hi => Nat.le_trans (hB 1 (by decide) i hi 4 (by decide)) (by decide)))), ok_at rfl (ok_row1 (by decide) (shB_P (P := fun n => n ≤ 1) (row1_le i0 rfl) (by decide) (by decide))), trivial⟩
    exact k0
theorem sh1_36 {mi go : Nat} {Z X : Nat → Nat} {h : am_H} (i0 : ax_I sb0 h) (hP : je_x h 4 mi go Z X) (vZ : ∀ k, k < 6 → Z k ≤ je_z k) (hB : je_B Z X) {come wo : Nat} (hco : come < 65536) (hwo : wo < 4294967296) : am_EG mi_32 [.ref 36, .ref 4, .retAddr come, .retAddr wo] h (none, sv36 h (shW Z X come wo (rowv h 37)) (shF Z X come wo (rowv h 38)) (shB Z X come wo (rowv h 39))) ∧ ax_I sb0 (sv36 h (shW Z X come wo (rowv h 37)) (shF Z X come wo (rowv h 38)) (shB Z X come wo (rowv h 39))) ∧ sv36_ok h := by
  have g1 : am_get h 37 = some (.inl (0, 240, rowv h 37)) := (row_in i0 rfl).1
  have g2 : am_get h 38 = some (.inl (0, 240, rowv h 38)) := (row_in i0 rfl).1
  have g3 : am_get h 39 = some (.inl (0, 240, rowv h 39)) := (row_in i0 rfl).1
  have hH : sv36_ok h := ⟨⟨_, g1⟩, ⟨_, g2⟩, ⟨_, g3⟩, trivial⟩
  obtain ⟨qE, ⟨r0, x0⟩, ⟨r1, x1⟩, ⟨r2, x2⟩, ⟨r3, x3⟩, -, -⟩ := sh1_rows i0 hP
  have z0 : Z 0 ≤ 4 := vZ 0 (by decide)
  have z1 : Z 1 ≤ 9 := vZ 1 (by decide)
  have z2 : Z 2 ≤ 6 := vZ 2 (by decide)
  have z3 : Z 3 ≤ 4 := vZ 3 (by decide)
  refine ⟨?_, ?_, hH⟩
  · have e := s36_show (W := rowv h 37) (F := rowv h 38) (B := rowv h 39) hH (oz1_c36 i0) (fun W F B => (sv36_o hH rfl).trans qE) (fun W F B => (sv36_o hH rfl).trans r0) (fun W F B => (sv36_o hH rfl).trans r1) (fun W F B => (sv36_o hH rfl).trans r2) (fun W F B => (sv36_o hH rfl).trans r3)
      (fun W F B r c hr hc => cw1 ((sv36_o hH rfl).trans r0) ((sv36_o hH rfl).trans x0) (by omega) (by omega) hr hc) (fun W F B r c hr hc => cw5 ((sv36_o hH rfl).trans r1) ((sv36_o hH rfl).trans x1) (by omega) (by omega) hr hc) (fun W F B r c hr hc => cw3 ((sv36_o hH rfl).trans r2) ((sv36_o hH rfl).trans x2) (by omega) (by omega) hr hc) (fun W F B r c hr hc => cw4 ((sv36_o hH rfl).trans r3) ((sv36_o hH rfl).trans x3) (by omega) (by omega) hr hc)
      z0 z1 z2 (by omega) (fun i hi => hB 1 (by decide) i hi 0 (by decide)) (fun i hi => hB 1 (by decide) i hi 1 (by decide)) (fun i hi => hB 1 (by decide) i hi 2 (by decide)) (fun i hi => hB 2 (by decide) i hi 0 (by decide)) (fun i hi => hB 2 (by decide) i hi 1 (by decide)) (fun i hi => hB 2 (by decide) i hi 2 (by decide)) (fun i hi => hB 3 (by decide) i hi 0 (by decide)) (fun i hi => hB 3 (by decide) i hi 1 (by decide)) (fun i hi => hB 3 (by decide) i hi 2 (by decide)) hco hwo
    have own : sv36 h (rowv h 37) (rowv h 38) (rowv h 39) = h := by
      unfold sv36
      exact am_ups_00 ⟨g1, g2, g3, trivial⟩
    exact Eq.mp (congrArg (fun g => am_EG mi_32 [.ref 36, .ref 4, .retAddr come, .retAddr wo] g (none, sv36 h (shW Z X come wo (rowv h 37)) (shF Z X come wo (rowv h 38)) (shB Z X come wo (rowv h 39)))) own) e
  · have b0 : ∀ i, i < Z 0 → am_ag (X 0) i ≤ 99 := fun i hi => by
      have q := hB 0 (by decide) i hi 0 (by decide)
      rw [show je_w 0 * i + 0 = i by show 1 * i + 0 = i; omega] at q
      exact Nat.le_trans q (by decide)
    have k0 := hH
    unfold sv36
    refine ax_I_ups i0 ?_ ⟨ok_at rfl (ok_row1 (by decide) (shW_P (P := fun n => n ≤ 99) (row1_le i0 rfl) (by decide) b0 (fun i hi => Nat.le_trans (hB 1 (by decide) i hi 3 (by decide)) (by decide)))), ok_at rfl (ok_row1 (by decide) (shF_P (P := fun n => n ≤ 99) (row1_le i0 rfl) (by decide) (fun i hi => Nat.le_trans (hB 1 (by decide) i hi 4 (by decide)) (by decide)))), ok_at rfl (ok_row1 (by decide) (shB_P (P := fun n => n ≤ 1) (row1_le i0 rfl) (by decide) (by decide))), trivial⟩
    exact k0
theorem oz1_c43 {h : am_H} (hI : ax_I sb0 h) : am_get h 43 = some (.inr (7, [.ref 44, .retAddr (fldv h 43 1), .retAddr (fldv h 43 2), .retAddr (fldv h 43 3)])) := by
  refine obj_ls hI rfl rfl (fun k hk => ?_)
  match k, hk with
  | 0, _ => exact ref_in hI rfl rfl
  | 1, _ => exact (fld_in hI rfl rfl).1
  | 2, _ => exact (fld_in hI rfl rfl).1
  | 3, _ => exact (fld_in hI rfl rfl).1
  | k + 4, hk => exact absurd hk (Nat.not_lt.mpr (Nat.le_add_left _ _))
theorem te1_take {mi go : Nat} {Z X : Nat → Nat} (vZ : ∀ k, k < 6 → Z k ≤ je_z k) (hB : je_B Z X) {h : am_H} (hI : ax_I xtb1 h) (hP : je_x h 4 mi go Z X) (hL : je_L h) : ∃ h', am_EG (am_mi 28) [.ref 0] h (none, h') ∧ ax_I xtb1 h' ∧ (h'.1 = h.1 ∧ h'.2.1 = h.2.1 ∧ (∀ a, ax_at xtb1 a = none → am_get h' a = am_get h a) ∧ am_get h' 1 = am_get h 1 ∧ ax_fv h' 0 1 = ax_fv h 0 1 ∧ ax_fv h' 5 3 = ax_fv h 5 3) ∧ ax_fv h' 0 16 = some (.retAddr 0) ∧ (je_x h' 4 mi go Z X ∧ je_T0 h' mi go Z X) := by
  have i0 : ax_I sb0 h := (ax_I_to st_xtb1).mpr hI
  obtain ⟨qE, -, -, -, -, ⟨qR, aC⟩, -⟩ := sh1_rows i0 hP
  have hn : Z 4 ≤ 6 := vZ 4 (by decide)
  have h7 : ∀ i, i < 45 → am_ag (X 4) i ≤ 7 := fun i hi => by
    have q := row1_le i0 (a := 14) rfl i hi
    have e : rowv h 14 = X 4 := by unfold rowv; rw [aC]
    rw [e] at q
    exact q
  have a31 : am_get h 31 = some (.inl (0, 256, rowv h 31)) := (row_in i0 rfl).1
  obtain ⟨X', e1, hcl⟩ := dv4_m (oz1_c30 i0) a31 qE rfl qR aC hn h7
  have u1 : ∀ a, a ≠ 31 → am_get (am_upd h 31 (.inl (0, 256, X'))) a = am_get h a := fun a ha => by rw [am_get_upd a31, if_neg ha]
  have g31 : am_get (am_upd h 31 (.inl (0, 256, X'))) 31 = some (.inl (0, 256, X')) := by rw [am_get_upd a31, if_pos rfl]
  have i1 : ax_I sb0 (am_upd h 31 (.inl (0, 256, X'))) := by
    refine ax_I_ups (l := [(31, _)]) i0 ⟨⟨_, a31⟩, trivial⟩ ⟨ok_at rfl (ok_row1 (by decide) fun i hi => ?_), trivial⟩
    rw [hcl i hi]
    exact Nat.le_of_lt_succ (cl_k_lt hi (fun j hj => h7 _ (by omega)) 6)
  have s1 : (am_upd h 31 (.inl (0, 256, X'))).1 = h.1 ∧ (am_upd h 31 (.inl (0, 256, X'))).2.1 = h.2.1 := ⟨rfl, rfl⟩
  generalize am_upd h 31 (.inl (0, 256, X')) = h1 at e1 u1 g31 i1 s1
  have hP1 : je_x h1 4 mi go Z X := by
    refine ⟨by rw [ax_fv_get (u1 _ (by decide))]; exact hP.1, by rw [ax_fv_get (u1 _ (by decide))]; exact hP.2.1, fun k hk => ⟨?_, ?_⟩⟩
    · rw [ax_fv_get (u1 _ (by omega))]; exact (hP.2.2 k hk).1
    · rw [u1 _ (by omega)]; exact (hP.2.2 k hk).2
  obtain ⟨e2, i2, hH⟩ := sh1_32 i1 hP1 vZ hB (come := 0) (wo := 4294967292) (by decide) (by decide)
  have s33 : am_get _ 33 = _ := sv32_g33 (W := shW Z X 0 4294967292 (rowv h1 33)) (F := shF Z X 0 4294967292 (rowv h1 34)) (B := shB Z X 0 4294967292 (rowv h1 35)) hH
  have s34 : am_get _ 34 = _ := sv32_g34 (W := shW Z X 0 4294967292 (rowv h1 33)) (F := shF Z X 0 4294967292 (rowv h1 34)) (B := shB Z X 0 4294967292 (rowv h1 35)) hH
  have s35 : am_get _ 35 = _ := sv32_g35 (W := shW Z X 0 4294967292 (rowv h1 33)) (F := shF Z X 0 4294967292 (rowv h1 34)) (B := shB Z X 0 4294967292 (rowv h1 35)) hH
  have u2 : ∀ a, a ≠ 33 → a ≠ 34 → a ≠ 35 → am_get (sv32 h1 (shW Z X 0 4294967292 (rowv h1 33)) (shF Z X 0 4294967292 (rowv h1 34)) (shB Z X 0 4294967292 (rowv h1 35))) a = am_get h1 a := fun a a1 a2 a3 => sv32_o hH (am_lk_ct (ks := [33, 34, 35]) (by simp; omega))
  have s2 : (sv32 h1 (shW Z X 0 4294967292 (rowv h1 33)) (shF Z X 0 4294967292 (rowv h1 34)) (shB Z X 0 4294967292 (rowv h1 35))).1 = h1.1 ∧ (sv32 h1 (shW Z X 0 4294967292 (rowv h1 33)) (shF Z X 0 4294967292 (rowv h1 34)) (shB Z X 0 4294967292 (rowv h1 35))).2.1 = h1.2.1 := by unfold sv32; exact am_ups_1 _
  generalize sv32 h1 (shW Z X 0 4294967292 (rowv h1 33)) (shF Z X 0 4294967292 (rowv h1 34)) (shB Z X 0 4294967292 (rowv h1 35)) = h2 at e2 i2 s33 s34 s35 u2 s2
  have hP2 : je_x h2 4 mi go Z X := by
    refine ⟨by rw [ax_fv_get (u2 _ (by decide) (by decide) (by decide))]; exact hP1.1, by rw [ax_fv_get (u2 _ (by decide) (by decide) (by decide))]; exact hP1.2.1, fun k hk => ⟨?_, ?_⟩⟩
    · rw [ax_fv_get (u2 _ (by omega) (by omega) (by omega))]; exact (hP1.2.2 k hk).1
    · rw [u2 _ (by omega) (by omega) (by omega)]; exact (hP1.2.2 k hk).2
  obtain ⟨qE2, ⟨r02, -⟩, -⟩ := sh1_rows i2 hP2
  have bm : 1 ≤ mi ∧ mi ≤ 60 := by
    have q := (fld_in (a := 4) (k := 6) i2 rfl rfl).2
    rw [fldv_fv hP2.1] at q
    exact jm_in1 q
  have bg : go ≤ 3 := by
    have q := (fld_in (a := 4) (k := 7) i2 rfl rfl).2
    rw [fldv_fv hP2.2.1] at q
    exact (jm_in1 q).2
  have q43 := oz1_c43 i2
  have q44 : am_get h2 44 = some (.inl (0, 240, rowv h2 44)) := (row_in i2 rfl).1
  have rk : rv_ok h2 := ⟨⟨_, q43⟩, ⟨_, q44⟩, trivial⟩
  have own : rv h2 (fldv h2 43 1) (fldv h2 43 2) (fldv h2 43 3) (rowv h2 44) = h2 := by
    unfold rv
    exact am_ups_00 ⟨q43, q44, trivial⟩
  obtain ⟨G', hR, e3⟩ := rw_all (q := 32) (fw := fun s t => sc_W Z X 0 4294967292 s t) (n := Z 0) (mi := mi) (go := go) (m := fldv h2 43 1) (fm := fldv h2 43 2) (fs := fldv h2 43 3) (G := rowv h2 44) rk (fun m fm fs G => (rv_o rk rfl).trans (oz1_c32 i2)) (fun m fm fs G s t hs ht => by
    have z0 : Z 0 ≤ 4 := vZ 0 (by decide)
    have e := ew_w (s := s) (t := t) ((rv_o (m := m) (fm := fm) (fs := fs) (G := G) rk rfl).trans (oz1_c32 i2)) ((rv_o rk rfl).trans s33) (by omega) (by omega)
    rw [shW_ag (je_B_bd hB) hs (by omega)] at e
    exact e) (vZ 0 (by decide)) bm.1 bm.2 bg (fun s t hs ht => Nat.le_trans (rt_W9 hB 0 4294967292 s t hs) (by decide)) rfl qE2 rfl rfl rfl rfl r02 rfl
  rw [own] at e3
  have g43 : am_get (rv h2 mi (fldv h2 43 2) (fldv h2 43 3) G') 43 = _ := rv_g43 rk
  have g44 : am_get (rv h2 mi (fldv h2 43 2) (fldv h2 43 3) G') 44 = _ := rv_g44 rk
  have u3 : ∀ a, a ≠ 43 → a ≠ 44 → am_get (rv h2 mi (fldv h2 43 2) (fldv h2 43 3) G') a = am_get h2 a := fun a a1 a2 => rv_o rk (am_lk_ct (ks := [43, 44]) (by simp; omega))
  have s3 : (rv h2 mi (fldv h2 43 2) (fldv h2 43 3) G').1 = h2.1 ∧ (rv h2 mi (fldv h2 43 2) (fldv h2 43 3) G').2.1 = h2.2.1 := by unfold rv; exact am_ups_1 _
  have i3 : ax_I sb0 (rv h2 mi (fldv h2 43 2) (fldv h2 43 3) G') := by
    have k0 := rk
    unfold rv
    refine ax_I_ups i2 ?_ ⟨ok_at rfl (ok_set (k := 1) (n := mi) (ok_own i2 rfl q43) rfl (ax_in_1 (by omega) bm.1 bm.2)), ok_at rfl ok_rowt, trivial⟩
    exact k0
  generalize rv h2 mi (fldv h2 43 2) (fldv h2 43 3) G' = h3 at e3 g43 g44 u3 s3 i3
  have m43 : ax_fv h3 43 1 = some (.retAddr mi) := by unfold ax_fv; rw [g43]; rfl
  obtain ⟨fb, g47, lb, -⟩ := i3.obj (a := 47) rfl
  have u4 : ∀ a, a ≠ 47 → am_get (am_upd h3 47 (.inr (0, fb.set 8 (.retAddr 0)))) a = am_get h3 a := fun a ha => by rw [am_get_upd g47, if_neg ha]
  have i4 : ax_I sb0 (am_upd h3 47 (.inr (0, fb.set 8 (.retAddr 0)))) := ax_I_ups (l := [(47, _)]) i3 ⟨⟨_, g47⟩, trivial⟩ ⟨ok_at rfl (ok_set (k := 8) (ok_own i3 rfl g47) rfl (ax_in_1 (by decide) (Nat.le_refl _) (Nat.zero_le _))), trivial⟩
  have v4 : ax_fv (am_upd h3 47 (.inr (0, fb.set 8 (.retAddr 0)))) 47 8 = some (.retAddr 0) := by
    unfold ax_fv
    rw [am_get_upd g47, if_pos rfl]
    exact List.getElem?_set_self (by rw [lb]; decide)
  have s4 : (am_upd h3 47 (.inr (0, fb.set 8 (.retAddr 0)))).1 = h3.1 ∧ (am_upd h3 47 (.inr (0, fb.set 8 (.retAddr 0)))).2.1 = h3.2.1 := ⟨rfl, rfl⟩
  have hb : ∀ r, am_Good mi_28 48 [some (.ref 0)] [] (am_upd h3 47 (.inr (0, fb.set 8 (.retAddr 0)))) r → am_Good mi_28 40 [some (.ref 0)] [] h3 r := fun r hg => te1_b (oz1_c0 i3) g47 (by rw [lb]; decide) hg
  generalize am_upd h3 47 (.inr (0, fb.set 8 (.retAddr 0))) = h4 at u4 i4 s4 hb v4
  obtain ⟨h5, e5, i5, f5⟩ := ax_vo rv1_plan (ax_rs.c ax_rvr trivial) h4 ((ax_I_to st_xv1).mp i4)
  obtain ⟨h6, e6, i6, f6⟩ := ax_vo rv1_past (ax_rs.c ax_rvr trivial) h5 i5
  have i5 : ax_I sb0 h5 := (ax_I_to st_xv1).mpr i5
  have i6 : ax_I sb0 h6 := (ax_I_to st_xv1).mpr i6
  have g0 := oz1_c0 i6
  obtain ⟨v30, g30, -⟩ := i0.obj (a := 30) rfl
  obtain ⟨v32, g32, -⟩ := i1.obj (a := 32) rfl
  obtain ⟨v54, g54, -⟩ := i4.obj (a := 54) rfl
  obtain ⟨v57, g57, -⟩ := i5.obj (a := 57) rfl
  have u7 : ∀ a, a ≠ 0 → am_get (am_upd h6 0 (.inr (11, ([.ref 1, .retAddr (fldv h6 0 1), .ref 2, .ref 4, .ref 17, .ref 30, .ref 32, .ref 36, .ref 40, .ref 43, .ref 45, .ref 47, .ref 54, .ref 57, .ref 59, .ref 62, .retAddr (fldv h6 0 16)] : List Value).set 16 (.retAddr 0)))) a = am_get h6 a := fun a ha => by rw [am_get_upd g0, if_neg ha]
  have g7 : am_get (am_upd h6 0 (.inr (11, ([.ref 1, .retAddr (fldv h6 0 1), .ref 2, .ref 4, .ref 17, .ref 30, .ref 32, .ref 36, .ref 40, .ref 43, .ref 45, .ref 47, .ref 54, .ref 57, .ref 59, .ref 62, .retAddr (fldv h6 0 16)] : List Value).set 16 (.retAddr 0)))) 0 = some (.inr (11, ([.ref 1, .retAddr (fldv h6 0 1), .ref 2, .ref 4, .ref 17, .ref 30, .ref 32, .ref 36, .ref 40, .ref 43, .ref 45, .ref 47, .ref 54, .ref 57, .ref 59, .ref 62, .retAddr (fldv h6 0 16)] : List Value).set 16 (.retAddr 0))) := by rw [am_get_upd g0, if_pos rfl]
  have i7 : ax_I sb0 (am_upd h6 0 (.inr (11, ([.ref 1, .retAddr (fldv h6 0 1), .ref 2, .ref 4, .ref 17, .ref 30, .ref 32, .ref 36, .ref 40, .ref 43, .ref 45, .ref 47, .ref 54, .ref 57, .ref 59, .ref 62, .retAddr (fldv h6 0 16)] : List Value).set 16 (.retAddr 0)))) := ax_I_ups (l := [(0, _)]) i6 ⟨⟨_, g0⟩, trivial⟩ ⟨ok_at rfl (ok_set (k := 16) (ok_own i6 rfl g0) rfl (ax_in_1 (by decide) (Nat.le_refl _) (Nat.zero_le _))), trivial⟩
  have all : am_EG mi_28 [.ref 0] h (none, am_upd h6 0 (.inr (11, ([.ref 1, .retAddr (fldv h6 0 1), .ref 2, .ref 4, .ref 17, .ref 30, .ref 32, .ref 36, .ref 40, .ref 43, .ref 45, .ref 47, .ref 54, .ref 57, .ref 59, .ref 62, .retAddr (fldv h6 0 16)] : List Value).set 16 (.retAddr 0)))) := te1_a (oz1_c0 i0) g30 (oz1_c0 i1) g32 (oz1_c0 i2) q43 e1 e2 e3 (hb _ (te1_c (oz1_c0 i4) g54 (oz1_c0 i5) g57 e5 e6 (te1_d g0)))
  have sz : (am_upd h6 0 (.inr (11, ([.ref 1, .retAddr (fldv h6 0 1), .ref 2, .ref 4, .ref 17, .ref 30, .ref 32, .ref 36, .ref 40, .ref 43, .ref 45, .ref 47, .ref 54, .ref 57, .ref 59, .ref 62, .retAddr (fldv h6 0 16)] : List Value).set 16 (.retAddr 0)))).1 = h.1 ∧ (am_upd h6 0 (.inr (11, ([.ref 1, .retAddr (fldv h6 0 1), .ref 2, .ref 4, .ref 17, .ref 30, .ref 32, .ref 36, .ref 40, .ref 43, .ref 45, .ref 47, .ref 54, .ref 57, .ref 59, .ref 62, .retAddr (fldv h6 0 16)] : List Value).set 16 (.retAddr 0)))).2.1 = h.2.1 := ⟨(f6.1.trans (f5.1.trans (s4.1.trans (s3.1.trans (s2.1.trans s1.1))))), (f6.2.1.trans (f5.2.1.trans (s4.2.trans (s3.2.trans (s2.2.trans s1.2)))))⟩
  generalize am_upd h6 0 (.inr (11, ([.ref 1, .retAddr (fldv h6 0 1), .ref 2, .ref 4, .ref 17, .ref 30, .ref 32, .ref 36, .ref 40, .ref 43, .ref 45, .ref 47, .ref 54, .ref 57, .ref 59, .ref 62, .retAddr (fldv h6 0 16)] : List Value).set 16 (.retAddr 0))) = h7 at u7 g7 i7 all sz
  have nn : ∀ a, a ≠ 0 → a ≠ 31 → a ≠ 47 → a ≠ 33 → a ≠ 34 → a ≠ 35 → a ≠ 43 → a ≠ 44 → ax_at xv1 a = none → am_get h7 a = am_get h a := fun a a0 a1 a2 b1 b2 b3 c1 c2 hq => by
    rw [u7 a a0, f6.2.2.1 a hq, f5.2.2.1 a hq, u4 a a2, u3 a c1 c2, u2 a b1 b2 b3, u1 a a1]
  have nr : ∀ a kd n cols, a ≠ 0 → a ≠ 31 → a ≠ 47 → a ≠ 33 → a ≠ 34 → a ≠ 35 → a ≠ 43 → a ≠ 44 → ax_at xv1 a = some (.inl (kd, n, 0, cols)) → am_get h7 a = am_get h a := fun a kd n cols a0 a1 a2 b1 b2 b3 c1 c2 hq => by
    rw [u7 a a0, f6.2.2.2.1 a kd n cols hq, f5.2.2.2.1 a kd n cols hq, u4 a a2, u3 a c1 c2, u2 a b1 b2 b3, u1 a a1]
  have nf : ∀ a ci fs k R, a ≠ 0 → a ≠ 47 → a ≠ 31 → a ≠ 33 → a ≠ 34 → a ≠ 35 → a ≠ 43 → a ≠ 44 → ax_at xv1 a = some (.inr (ci, fs)) → fs[k]? = some (0, 0, R) → ax_fv h7 a k = ax_fv h a k := fun a ci fs k R a0 a1 a2 b1 b2 b3 c1 c2 hq hk => by
    rw [ax_fv_get (u7 a a0), f6.2.2.2.2 a ci fs k R hq hk, f5.2.2.2.2 a ci fs k R hq hk, ax_fv_get (u4 a a1), ax_fv_get (u3 a c1 c2), ax_fv_get (u2 a b1 b2 b3), ax_fv_get (u1 a a2)]
  have m0 : ∀ k, k = 1 → ax_fv h7 0 k = ax_fv h 0 k := fun k hk => by
    subst hk
    have q : ax_fv h7 0 1 = ax_fv h6 0 1 := by
      unfold ax_fv
      rw [g7, g0]
      rfl
    rw [q, f6.2.2.2.2 0 11 _ 1 _ rfl rfl, f5.2.2.2.2 0 11 _ 1 _ rfl rfl, ax_fv_get (u4 0 (by decide)), ax_fv_get (u3 0 (by decide) (by decide)), ax_fv_get (u2 0 (by decide) (by decide) (by decide)), ax_fv_get (u1 0 (by decide))]
  have sc : ∀ a, a = 33 ∨ a = 34 ∨ a = 35 → am_get h7 a = am_get h2 a := fun a ha => by
    rcases ha with rfl | rfl | rfl <;> rw [u7 _ (by decide), f6.2.2.2.1 _ 0 240 _ rfl, f5.2.2.2.1 _ 0 240 _ rfl, u4 _ (by decide), u3 _ (by decide) (by decide)]
  refine ⟨h7, all, (ax_I_to st_xtb1).mp i7, ⟨sz.1, sz.2, fun a ha => ?_, nr 1 1 200 _ (by decide) (by decide) (by decide) (by decide) (by decide) (by decide) (by decide) (by decide) rfl, m0 1 rfl, nf 5 8 _ 3 _ (by decide) (by decide) (by decide) (by decide) (by decide) (by decide) (by decide) (by decide) rfl rfl⟩, ?_, ?_, ⟨X', ?_, hcl⟩, ?_, ?_, ?_, ?_⟩
  · have nx : ∀ b s, ax_at xtb1 b = some s → a ≠ b := fun b s hb q => by rw [q, hb] at ha; cases ha
    refine nn a (nx 0 _ rfl) (nx 31 _ rfl) (nx 47 _ rfl) (nx 33 _ rfl) (nx 34 _ rfl) (nx 35 _ rfl) (nx 43 _ rfl) (nx 44 _ rfl) ?_
    have e : (ax_at (ax_ss xv1) a) = (ax_at (ax_ss xtb1) a) := by rw [st_xv1, st_xtb1]
    rw [ax_at_ss, ax_at_ss, ha] at e
    cases hx : ax_at xv1 a with
    | none => rfl
    | some s => rw [hx] at e; cases e
  · unfold ax_fv
    rw [g7]
    rfl
  · refine ⟨?_, ?_, fun k hk => ?_⟩
    · rw [nf 4 1 _ 6 _ (by decide) (by decide) (by decide) (by decide) (by decide) (by decide) (by decide) (by decide) rfl rfl]; exact hP.1
    · rw [nf 4 1 _ 7 _ (by decide) (by decide) (by decide) (by decide) (by decide) (by decide) (by decide) (by decide) rfl rfl]; exact hP.2.1
    · have q := hP.2.2 k hk
      match k, hk, q with
      | 0, _, q => exact ⟨(nf 5 8 _ 3 _ (by decide) (by decide) (by decide) (by decide) (by decide) (by decide) (by decide) (by decide) rfl rfl).trans q.1, (nr 6 0 45 _ (by decide) (by decide) (by decide) (by decide) (by decide) (by decide) (by decide) (by decide) rfl).trans q.2⟩
      | 1, _, q => exact ⟨(nf 7 8 _ 3 _ (by decide) (by decide) (by decide) (by decide) (by decide) (by decide) (by decide) (by decide) rfl rfl).trans q.1, (nr 8 0 45 _ (by decide) (by decide) (by decide) (by decide) (by decide) (by decide) (by decide) (by decide) rfl).trans q.2⟩
      | 2, _, q => exact ⟨(nf 9 8 _ 3 _ (by decide) (by decide) (by decide) (by decide) (by decide) (by decide) (by decide) (by decide) rfl rfl).trans q.1, (nr 10 0 45 _ (by decide) (by decide) (by decide) (by decide) (by decide) (by decide) (by decide) (by decide) rfl).trans q.2⟩
      | 3, _, q => exact ⟨(nf 11 8 _ 3 _ (by decide) (by decide) (by decide) (by decide) (by decide) (by decide) (by decide) (by decide) rfl rfl).trans q.1, (nr 12 0 45 _ (by decide) (by decide) (by decide) (by decide) (by decide) (by decide) (by decide) (by decide) rfl).trans q.2⟩
      | 4, _, q => exact ⟨(nf 13 8 _ 3 _ (by decide) (by decide) (by decide) (by decide) (by decide) (by decide) (by decide) (by decide) rfl rfl).trans q.1, (nr 14 0 45 _ (by decide) (by decide) (by decide) (by decide) (by decide) (by decide) (by decide) (by decide) rfl).trans q.2⟩
      | 5, _, q => exact ⟨(nf 15 8 _ 3 _ (by decide) (by decide) (by decide) (by decide) (by decide) (by decide) (by decide) (by decide) rfl rfl).trans q.1, (nr 16 0 45 _ (by decide) (by decide) (by decide) (by decide) (by decide) (by decide) (by decide) (by decide) rfl).trans q.2⟩
      | k + 6, hk, _ => exact absurd hk (by omega)
  · rw [u7 31 (by decide), f6.2.2.2.1 31 0 256 _ rfl, f5.2.2.2.1 31 0 256 _ rfl, u4 31 (by decide), u3 31 (by decide) (by decide), u2 31 (by decide) (by decide) (by decide)]
    exact g31
  · exact ⟨_, _, _, (sc 33 (Or.inl rfl)).trans s33, (sc 34 (Or.inr (Or.inl rfl))).trans s34, (sc 35 (Or.inr (Or.inr rfl))).trans s35, fun s hs t ht => ⟨shW_ag (je_B_bd hB) hs ht, shF_ag (je_B_bd hB) hs ht, shB_ag (je_B_bd hB) hs ht⟩⟩
  · refine ⟨G', ?_, ?_, hR⟩
    · rw [u7 44 (by decide), f6.2.2.2.1 44 0 240 _ rfl, f5.2.2.2.1 44 0 240 _ rfl, u4 44 (by decide)]; exact g44
    · rw [ax_fv_get (u7 43 (by decide)), f6.2.2.2.2 43 7 _ 1 _ rfl rfl, f5.2.2.2.2 43 7 _ 1 _ rfl rfl, ax_fv_get (u4 43 (by decide))]; exact m43
  · rw [ax_fv_get (u7 47 (by decide)), f6.2.2.2.2 47 0 _ 8 _ rfl rfl, f5.2.2.2.2 47 0 _ 8 _ rfl rfl]; exact v4
  · exact je_L_get (by rw [u7 46 (by decide), f6.2.2.2.1 46 0 4096 _ rfl, f5.2.2.2.1 46 0 4096 _ rfl, u4 46 (by decide), u3 46 (by decide) (by decide), u2 46 (by decide) (by decide) (by decide), u1 46 (by decide)]) hL
