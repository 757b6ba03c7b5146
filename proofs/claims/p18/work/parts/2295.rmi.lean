/-! ===== the reader of the reference: items ===== -/
theorem m_tw1 {h : am_H} {f : Nat → Value} {len at_ rl rg z1 z2 z3 z4 z5 z6 tm td y1 y2 y3 y4 y5 y6 : Nat} (hH : rm_ok h) {k lo hi : Nat} (h5 : ∀ j, j < 5 → am_ag td j ≤ 99) (hhi : hi ≤ 200) (hk : k < 5) (hlo : lo ≤ 99) (hc : (lo ≤ am_ag td k ∧ am_ag td k ≤ hi)) : am_EG mi_141 [.ref 66, .retAddr k, .retAddr lo, .retAddr hi] (rm h f len at_ rl rg z1 z2 z3 z4 z5 z6 tm td y1 y2 y3 y4 y5 y6) (some (.retAddr 1), (rm h f len at_ rl rg z1 z2 z3 z4 z5 z6 tm td y1 y2 y3 y4 y5 y6)) := by
  refine am_enter (n := 0) tk_141.2.1 (by simp [Value.category]) (Nat.le_of_ble_eq_true rfl) ?_
  show am_Good mi_141 0 [some (.ref 66), some (.retAddr k), some (.retAddr lo), some (.retAddr hi)] [] (rm h f len at_ rl rg z1 z2 z3 z4 z5 z6 tm td y1 y2 y3 y4 y5 y6) _
  have hb5 := h5 k hk
  refine g_aload_n (i := 0) dd_141_0 rfl ?_
  refine g_getfield (k := 17) am_ck12 (by decide) (Or.inl w_952) dd_141_1 (rm_g66 hH) rfl ?_
  refine g_iload_n (i := 1) dd_141_4 rfl ?_
  refine g_iaload dd_141_5 (rm_g74 hH) (by omega) (by decide) ?_
  have hl_1 := am_ag_lt td k
  refine g_iload_n (i := 2) dd_141_6 rfl ?_
  refine g_iload_n (i := 3) dd_141_7 rfl ?_
  refine g_static (M' := mi_133) (n := 3) (as := [.retAddr (am_ag td k), .retAddr lo, .retAddr hi]) (st := []) (r1 := (some (.retAddr 1), (rm h f len at_ rl rg z1 z2 z3 z4 z5 z6 tm td y1 y2 y3 y4 y5 y6))) w_1106 w_1107 ⟨lk_133.1, lk_133.2.1, lk_133.2.2, by decide, by decide⟩ rfl (by simp [Value.category]) dd_141_8 (rin1 (by omega) hc (by omega)) ?_
  show am_Good mi_141 11 [some (.ref 66), some (.retAddr k), some (.retAddr lo), some (.retAddr hi)] [.retAddr 1] (rm h f len at_ rl rg z1 z2 z3 z4 z5 z6 tm td y1 y2 y3 y4 y5 y6) _
  exact g_zreturn rfl (by first | decide | omega) dd_141_11
theorem m_tw0 {h : am_H} {f : Nat → Value} {len at_ rl rg z1 z2 z3 z4 z5 z6 tm td y1 y2 y3 y4 y5 y6 : Nat} (hH : rm_ok h) {k lo hi : Nat} (h5 : ∀ j, j < 5 → am_ag td j ≤ 99) (hhi : hi ≤ 200) (hk : k < 5) (hlo : lo ≤ 99) (hc : ¬ (lo ≤ am_ag td k ∧ am_ag td k ≤ hi)) : am_EG mi_141 [.ref 66, .retAddr k, .retAddr lo, .retAddr hi] (rm h f len at_ rl rg z1 z2 z3 z4 z5 z6 tm td y1 y2 y3 y4 y5 y6) (some (.retAddr 0), (rm h f len at_ rl rg z1 z2 z3 z4 z5 z6 tm td y1 y2 y3 y4 y5 y6)) := by
  refine am_enter (n := 0) tk_141.2.1 (by simp [Value.category]) (Nat.le_of_ble_eq_true rfl) ?_
  show am_Good mi_141 0 [some (.ref 66), some (.retAddr k), some (.retAddr lo), some (.retAddr hi)] [] (rm h f len at_ rl rg z1 z2 z3 z4 z5 z6 tm td y1 y2 y3 y4 y5 y6) _
  have hb5 := h5 k hk
  refine g_aload_n (i := 0) dd_141_0 rfl ?_
  refine g_getfield (k := 17) am_ck12 (by decide) (Or.inl w_952) dd_141_1 (rm_g66 hH) rfl ?_
  refine g_iload_n (i := 1) dd_141_4 rfl ?_
  refine g_iaload dd_141_5 (rm_g74 hH) (by omega) (by decide) ?_
  have hl_1 := am_ag_lt td k
  refine g_iload_n (i := 2) dd_141_6 rfl ?_
  refine g_iload_n (i := 3) dd_141_7 rfl ?_
  refine g_static (M' := mi_133) (n := 3) (as := [.retAddr (am_ag td k), .retAddr lo, .retAddr hi]) (st := []) (r1 := (some (.retAddr 0), (rm h f len at_ rl rg z1 z2 z3 z4 z5 z6 tm td y1 y2 y3 y4 y5 y6))) w_1106 w_1107 ⟨lk_133.1, lk_133.2.1, lk_133.2.2, by decide, by decide⟩ rfl (by simp [Value.category]) dd_141_8 (rin0 (by omega) hc (by omega)) ?_
  show am_Good mi_141 11 [some (.ref 66), some (.retAddr k), some (.retAddr lo), some (.retAddr hi)] [.retAddr 0] (rm h f len at_ rl rg z1 z2 z3 z4 z5 z6 tm td y1 y2 y3 y4 y5 y6) _
  exact g_zreturn rfl (by first | decide | omega) dd_141_11
theorem m_tz1 {h : am_H} {f : Nat → Value} {len at_ rl rg z1 z2 z3 z4 z5 z6 tm td y1 y2 y3 y4 y5 y6 : Nat} (hH : rm_ok h) {k lo : Nat} (h5 : ∀ j, j < 5 → am_ag td j ≤ 99) (hz1 : z1 ≤ 4) (hk : k < 5) (hlo : lo ≤ 99) (hc : (lo ≤ am_ag td k ∧ am_ag td k < z1)) : am_EG mi_141 [.ref 66, .retAddr k, .retAddr lo, .retAddr ((z1 + 4294967295) % 4294967296)] (rm h f len at_ rl rg z1 z2 z3 z4 z5 z6 tm td y1 y2 y3 y4 y5 y6) (some (.retAddr 1), (rm h f len at_ rl rg z1 z2 z3 z4 z5 z6 tm td y1 y2 y3 y4 y5 y6)) := by
  refine am_enter (n := 0) tk_141.2.1 (by simp [Value.category]) (Nat.le_of_ble_eq_true rfl) ?_
  show am_Good mi_141 0 [some (.ref 66), some (.retAddr k), some (.retAddr lo), some (.retAddr ((z1 + 4294967295) % 4294967296))] [] (rm h f len at_ rl rg z1 z2 z3 z4 z5 z6 tm td y1 y2 y3 y4 y5 y6) _
  have hb5 := h5 k hk
  refine g_aload_n (i := 0) dd_141_0 rfl ?_
  refine g_getfield (k := 17) am_ck12 (by decide) (Or.inl w_952) dd_141_1 (rm_g66 hH) rfl ?_
  refine g_iload_n (i := 1) dd_141_4 rfl ?_
  refine g_iaload dd_141_5 (rm_g74 hH) (by omega) (by decide) ?_
  have hl_1 := am_ag_lt td k
  refine g_iload_n (i := 2) dd_141_6 rfl ?_
  refine g_iload_n (i := 3) dd_141_7 rfl ?_
  refine g_static (M' := mi_133) (n := 3) (as := [.retAddr (am_ag td k), .retAddr lo, .retAddr ((z1 + 4294967295) % 4294967296)]) (st := []) (r1 := (some (.retAddr 1), (rm h f len at_ rl rg z1 z2 z3 z4 z5 z6 tm td y1 y2 y3 y4 y5 y6))) w_1106 w_1107 ⟨lk_133.1, lk_133.2.1, lk_133.2.2, by decide, by decide⟩ rfl (by simp [Value.category]) dd_141_8 (rinz1 (by omega) (by omega) hz1 hc) ?_
  show am_Good mi_141 11 [some (.ref 66), some (.retAddr k), some (.retAddr lo), some (.retAddr ((z1 + 4294967295) % 4294967296))] [.retAddr 1] (rm h f len at_ rl rg z1 z2 z3 z4 z5 z6 tm td y1 y2 y3 y4 y5 y6) _
  exact g_zreturn rfl (by first | decide | omega) dd_141_11
theorem m_tz0 {h : am_H} {f : Nat → Value} {len at_ rl rg z1 z2 z3 z4 z5 z6 tm td y1 y2 y3 y4 y5 y6 : Nat} (hH : rm_ok h) {k lo : Nat} (h5 : ∀ j, j < 5 → am_ag td j ≤ 99) (hz1 : z1 ≤ 4) (hk : k < 5) (hlo : lo ≤ 99) (hc : ¬ (lo ≤ am_ag td k ∧ am_ag td k < z1)) : am_EG mi_141 [.ref 66, .retAddr k, .retAddr lo, .retAddr ((z1 + 4294967295) % 4294967296)] (rm h f len at_ rl rg z1 z2 z3 z4 z5 z6 tm td y1 y2 y3 y4 y5 y6) (some (.retAddr 0), (rm h f len at_ rl rg z1 z2 z3 z4 z5 z6 tm td y1 y2 y3 y4 y5 y6)) := by
  refine am_enter (n := 0) tk_141.2.1 (by simp [Value.category]) (Nat.le_of_ble_eq_true rfl) ?_
  show am_Good mi_141 0 [some (.ref 66), some (.retAddr k), some (.retAddr lo), some (.retAddr ((z1 + 4294967295) % 4294967296))] [] (rm h f len at_ rl rg z1 z2 z3 z4 z5 z6 tm td y1 y2 y3 y4 y5 y6) _
  have hb5 := h5 k hk
  refine g_aload_n (i := 0) dd_141_0 rfl ?_
  refine g_getfield (k := 17) am_ck12 (by decide) (Or.inl w_952) dd_141_1 (rm_g66 hH) rfl ?_
  refine g_iload_n (i := 1) dd_141_4 rfl ?_
  refine g_iaload dd_141_5 (rm_g74 hH) (by omega) (by decide) ?_
  have hl_1 := am_ag_lt td k
  refine g_iload_n (i := 2) dd_141_6 rfl ?_
  refine g_iload_n (i := 3) dd_141_7 rfl ?_
  refine g_static (M' := mi_133) (n := 3) (as := [.retAddr (am_ag td k), .retAddr lo, .retAddr ((z1 + 4294967295) % 4294967296)]) (st := []) (r1 := (some (.retAddr 0), (rm h f len at_ rl rg z1 z2 z3 z4 z5 z6 tm td y1 y2 y3 y4 y5 y6))) w_1106 w_1107 ⟨lk_133.1, lk_133.2.1, lk_133.2.2, by decide, by decide⟩ rfl (by simp [Value.category]) dd_141_8 (rinz0 (by omega) (by omega) hz1 hc) ?_
  show am_Good mi_141 11 [some (.ref 66), some (.retAddr k), some (.retAddr lo), some (.retAddr ((z1 + 4294967295) % 4294967296))] [.retAddr 0] (rm h f len at_ rl rg z1 z2 z3 z4 z5 z6 tm td y1 y2 y3 y4 y5 y6) _
  exact g_zreturn rfl (by first | decide | omega) dd_141_11
theorem m_sp1 {h : am_H} {f : Nat → Value} {len at_ rl rg z1 z2 z3 z4 z5 z6 tm td y1 y2 y3 y4 y5 y6 : Nat} (hH : rm_ok h) (h5 : ∀ j, j < 5 → am_ag td j ≤ 99) (hz1 : z1 ≤ 4) (hc : (am_ag td 0 < z1 ∧ am_ag td 1 ≤ 59 ∧ am_ag td 2 ≤ 59 ∧ am_ag td 1 ≤ am_ag td 2)) : am_EG mi_144 [.ref 66] (rm h f len at_ rl rg z1 z2 z3 z4 z5 z6 tm td y1 y2 y3 y4 y5 y6) (some (.retAddr 1), (rm h f len at_ rl rg z1 z2 z3 z4 z5 z6 tm td y1 y2 y3 y4 y5 y6)) := by
  refine am_enter (n := 0) tk_144.2.1 (by simp [Value.category]) (Nat.le_of_ble_eq_true rfl) ?_
  show am_Good mi_144 0 [some (.ref 66)] [] (rm h f len at_ rl rg z1 z2 z3 z4 z5 z6 tm td y1 y2 y3 y4 y5 y6) _
  have hb0 := h5 0 (by decide)
  have hb1 := h5 1 (by decide)
  have hb2 := h5 2 (by decide)
  refine g_aload_n (i := 0) dd_144_0 rfl ?_
  refine g_iconst dd_144_1 ic_0 ?_
  refine g_iconst dd_144_2 ic_0 ?_
  refine g_aload_n (i := 0) dd_144_3 rfl ?_
  refine g_getfield (k := 20) am_ck12 (by decide) (Or.inl w_955) dd_144_4 (rm_g66 hH) rfl ?_
  refine g_iconst dd_144_7 ic_1 ?_
  refine e_isub (v := (z1 + 4294967295) % 4294967296) dd_144_8 (by omega) ?_
  refine g_virtual (M' := mi_141) (n := 3) (ci := 12) (b := 66) (as := [.retAddr 0, .retAddr 0, .retAddr ((z1 + 4294967295) % 4294967296)]) (st := []) (r1 := (some (.retAddr 1), (rm h f len at_ rl rg z1 z2 z3 z4 z5 z6 tm td y1 y2 y3 y4 y5 y6))) w_1136 w_1138 ps_141 ⟨lk_141.1, lk_141.2.1, lk_141.2.2, by decide, by decide⟩ rfl (rm_g66 hH) rfl (by simp [Value.category]) dd_144_9 (m_tz1 hH h5 hz1 (by decide) (by omega) (by omega)) ?_
  show am_Good mi_144 12 [some (.ref 66)] [.retAddr 1] (rm h f len at_ rl rg z1 z2 z3 z4 z5 z6 tm td y1 y2 y3 y4 y5 y6) _
  refine g_if_eq_f (t := 46) dd_144_12 (by decide) (by decide) ?_
  refine g_aload_n (i := 0) dd_144_15 rfl ?_
  refine g_iconst dd_144_16 ic_1 ?_
  refine g_iconst dd_144_17 ic_0 ?_
  refine g_bipush dd_144_18 bi_59 ?_
  refine g_virtual (M' := mi_141) (n := 3) (ci := 12) (b := 66) (as := [.retAddr 1, .retAddr 0, .retAddr 59]) (st := []) (r1 := (some (.retAddr 1), (rm h f len at_ rl rg z1 z2 z3 z4 z5 z6 tm td y1 y2 y3 y4 y5 y6))) w_1136 w_1138 ps_141 ⟨lk_141.1, lk_141.2.1, lk_141.2.2, by decide, by decide⟩ rfl (rm_g66 hH) rfl (by simp [Value.category]) dd_144_20 (m_tw1 hH h5 (by decide) (by decide) (by omega) (by omega)) ?_
  show am_Good mi_144 23 [some (.ref 66)] [.retAddr 1] (rm h f len at_ rl rg z1 z2 z3 z4 z5 z6 tm td y1 y2 y3 y4 y5 y6) _
  refine g_if_eq_f (t := 46) dd_144_23 (by decide) (by decide) ?_
  refine g_aload_n (i := 0) dd_144_26 rfl ?_
  refine g_iconst dd_144_27 ic_2 ?_
  refine g_aload_n (i := 0) dd_144_28 rfl ?_
  refine g_getfield (k := 17) am_ck12 (by decide) (Or.inl w_952) dd_144_29 (rm_g66 hH) rfl ?_
  refine g_iconst dd_144_32 ic_1 ?_
  refine g_iaload dd_144_33 (rm_g74 hH) (by omega) (by decide) ?_
  have hl_1 := am_ag_lt td 1
  refine g_bipush dd_144_34 bi_59 ?_
  refine g_virtual (M' := mi_141) (n := 3) (ci := 12) (b := 66) (as := [.retAddr 2, .retAddr (am_ag td 1), .retAddr 59]) (st := []) (r1 := (some (.retAddr 1), (rm h f len at_ rl rg z1 z2 z3 z4 z5 z6 tm td y1 y2 y3 y4 y5 y6))) w_1136 w_1138 ps_141 ⟨lk_141.1, lk_141.2.1, lk_141.2.2, by decide, by decide⟩ rfl (rm_g66 hH) rfl (by simp [Value.category]) dd_144_36 (m_tw1 hH h5 (by decide) (by decide) (by omega) (by omega)) ?_
  show am_Good mi_144 39 [some (.ref 66)] [.retAddr 1] (rm h f len at_ rl rg z1 z2 z3 z4 z5 z6 tm td y1 y2 y3 y4 y5 y6) _
  refine g_if_eq_f (t := 46) dd_144_39 (by decide) (by decide) ?_
  refine g_iconst dd_144_42 ic_1 ?_
  refine g_goto (t := 47) dd_144_43 (by decide) ?_
  exact g_zreturn rfl (by first | decide | omega) dd_144_47
theorem m_sp0 {h : am_H} {f : Nat → Value} {len at_ rl rg z1 z2 z3 z4 z5 z6 tm td y1 y2 y3 y4 y5 y6 : Nat} (hH : rm_ok h) (h5 : ∀ j, j < 5 → am_ag td j ≤ 99) (hz1 : z1 ≤ 4) (hc : ¬ (am_ag td 0 < z1 ∧ am_ag td 1 ≤ 59 ∧ am_ag td 2 ≤ 59 ∧ am_ag td 1 ≤ am_ag td 2)) : am_EG mi_144 [.ref 66] (rm h f len at_ rl rg z1 z2 z3 z4 z5 z6 tm td y1 y2 y3 y4 y5 y6) (some (.retAddr 0), (rm h f len at_ rl rg z1 z2 z3 z4 z5 z6 tm td y1 y2 y3 y4 y5 y6)) := by
  refine am_enter (n := 0) tk_144.2.1 (by simp [Value.category]) (Nat.le_of_ble_eq_true rfl) ?_
  show am_Good mi_144 0 [some (.ref 66)] [] (rm h f len at_ rl rg z1 z2 z3 z4 z5 z6 tm td y1 y2 y3 y4 y5 y6) _
  have hb0 := h5 0 (by decide)
  have hb1 := h5 1 (by decide)
  have hb2 := h5 2 (by decide)
  refine g_aload_n (i := 0) dd_144_0 rfl ?_
  refine g_iconst dd_144_1 ic_0 ?_
  refine g_iconst dd_144_2 ic_0 ?_
  refine g_aload_n (i := 0) dd_144_3 rfl ?_
  refine g_getfield (k := 20) am_ck12 (by decide) (Or.inl w_955) dd_144_4 (rm_g66 hH) rfl ?_
  refine g_iconst dd_144_7 ic_1 ?_
  refine e_isub (v := (z1 + 4294967295) % 4294967296) dd_144_8 (by omega) ?_
  by_cases hw0 : 0 ≤ am_ag td 0 ∧ am_ag td 0 < z1
  · refine g_virtual (M' := mi_141) (n := 3) (ci := 12) (b := 66) (as := [.retAddr 0, .retAddr 0, .retAddr ((z1 + 4294967295) % 4294967296)]) (st := []) (r1 := (some (.retAddr 1), (rm h f len at_ rl rg z1 z2 z3 z4 z5 z6 tm td y1 y2 y3 y4 y5 y6))) w_1136 w_1138 ps_141 ⟨lk_141.1, lk_141.2.1, lk_141.2.2, by decide, by decide⟩ rfl (rm_g66 hH) rfl (by simp [Value.category]) dd_144_9 (m_tz1 hH h5 hz1 (by decide) (by omega) hw0) ?_
    show am_Good mi_144 12 [some (.ref 66)] [.retAddr 1] (rm h f len at_ rl rg z1 z2 z3 z4 z5 z6 tm td y1 y2 y3 y4 y5 y6) _
    refine g_if_eq_f (t := 46) dd_144_12 (by decide) (by decide) ?_
    refine g_aload_n (i := 0) dd_144_15 rfl ?_
    refine g_iconst dd_144_16 ic_1 ?_
    refine g_iconst dd_144_17 ic_0 ?_
    refine g_bipush dd_144_18 bi_59 ?_
    by_cases hw1 : 0 ≤ am_ag td 1 ∧ am_ag td 1 ≤ 59
    · refine g_virtual (M' := mi_141) (n := 3) (ci := 12) (b := 66) (as := [.retAddr 1, .retAddr 0, .retAddr 59]) (st := []) (r1 := (some (.retAddr 1), (rm h f len at_ rl rg z1 z2 z3 z4 z5 z6 tm td y1 y2 y3 y4 y5 y6))) w_1136 w_1138 ps_141 ⟨lk_141.1, lk_141.2.1, lk_141.2.2, by decide, by decide⟩ rfl (rm_g66 hH) rfl (by simp [Value.category]) dd_144_20 (m_tw1 hH h5 (by decide) (by decide) (by omega) hw1) ?_
      show am_Good mi_144 23 [some (.ref 66)] [.retAddr 1] (rm h f len at_ rl rg z1 z2 z3 z4 z5 z6 tm td y1 y2 y3 y4 y5 y6) _
      refine g_if_eq_f (t := 46) dd_144_23 (by decide) (by decide) ?_
      refine g_aload_n (i := 0) dd_144_26 rfl ?_
      refine g_iconst dd_144_27 ic_2 ?_
      refine g_aload_n (i := 0) dd_144_28 rfl ?_
      refine g_getfield (k := 17) am_ck12 (by decide) (Or.inl w_952) dd_144_29 (rm_g66 hH) rfl ?_
      refine g_iconst dd_144_32 ic_1 ?_
      refine g_iaload dd_144_33 (rm_g74 hH) (by omega) (by decide) ?_
      have hl_1 := am_ag_lt td 1
      refine g_bipush dd_144_34 bi_59 ?_
      by_cases hw2 : am_ag td 1 ≤ am_ag td 2 ∧ am_ag td 2 ≤ 59
      · refine g_virtual (M' := mi_141) (n := 3) (ci := 12) (b := 66) (as := [.retAddr 2, .retAddr (am_ag td 1), .retAddr 59]) (st := []) (r1 := (some (.retAddr 1), (rm h f len at_ rl rg z1 z2 z3 z4 z5 z6 tm td y1 y2 y3 y4 y5 y6))) w_1136 w_1138 ps_141 ⟨lk_141.1, lk_141.2.1, lk_141.2.2, by decide, by decide⟩ rfl (rm_g66 hH) rfl (by simp [Value.category]) dd_144_36 (m_tw1 hH h5 (by decide) (by decide) (by omega) hw2) ?_
        show am_Good mi_144 39 [some (.ref 66)] [.retAddr 1] (rm h f len at_ rl rg z1 z2 z3 z4 z5 z6 tm td y1 y2 y3 y4 y5 y6) _
        refine g_if_eq_f (t := 46) dd_144_39 (by decide) (by decide) ?_
        refine g_iconst dd_144_42 ic_1 ?_
        refine g_goto (t := 47) dd_144_43 (by decide) ?_
        exfalso
        omega
      · refine g_virtual (M' := mi_141) (n := 3) (ci := 12) (b := 66) (as := [.retAddr 2, .retAddr (am_ag td 1), .retAddr 59]) (st := []) (r1 := (some (.retAddr 0), (rm h f len at_ rl rg z1 z2 z3 z4 z5 z6 tm td y1 y2 y3 y4 y5 y6))) w_1136 w_1138 ps_141 ⟨lk_141.1, lk_141.2.1, lk_141.2.2, by decide, by decide⟩ rfl (rm_g66 hH) rfl (by simp [Value.category]) dd_144_36 (m_tw0 hH h5 (by decide) (by decide) (by omega) hw2) ?_
        show am_Good mi_144 39 [some (.ref 66)] [.retAddr 0] (rm h f len at_ rl rg z1 z2 z3 z4 z5 z6 tm td y1 y2 y3 y4 y5 y6) _
        refine g_if_eq_t (t := 46) dd_144_39 (by decide) (by decide) ?_
        refine g_iconst dd_144_46 ic_0 ?_
        exact g_zreturn rfl (by first | decide | omega) dd_144_47
    · refine g_virtual (M' := mi_141) (n := 3) (ci := 12) (b := 66) (as := [.retAddr 1, .retAddr 0, .retAddr 59]) (st := []) (r1 := (some (.retAddr 0), (rm h f len at_ rl rg z1 z2 z3 z4 z5 z6 tm td y1 y2 y3 y4 y5 y6))) w_1136 w_1138 ps_141 ⟨lk_141.1, lk_141.2.1, lk_141.2.2, by decide, by decide⟩ rfl (rm_g66 hH) rfl (by simp [Value.category]) dd_144_20 (m_tw0 hH h5 (by decide) (by decide) (by omega) hw1) ?_
      show am_Good mi_144 23 [some (.ref 66)] [.retAddr 0] (rm h f len at_ rl rg z1 z2 z3 z4 z5 z6 tm td y1 y2 y3 y4 y5 y6) _
      refine g_if_eq_t (t := 46) dd_144_23 (by decide) (by decide) ?_
      refine g_iconst dd_144_46 ic_0 ?_
      exact g_zreturn rfl (by first | decide | omega) dd_144_47
  · refine g_virtual (M' := mi_141) (n := 3) (ci := 12) (b := 66) (as := [.retAddr 0, .retAddr 0, .retAddr ((z1 + 4294967295) % 4294967296)]) (st := []) (r1 := (some (.retAddr 0), (rm h f len at_ rl rg z1 z2 z3 z4 z5 z6 tm td y1 y2 y3 y4 y5 y6))) w_1136 w_1138 ps_141 ⟨lk_141.1, lk_141.2.1, lk_141.2.2, by decide, by decide⟩ rfl (rm_g66 hH) rfl (by simp [Value.category]) dd_144_9 (m_tz0 hH h5 hz1 (by decide) (by omega) hw0) ?_
    show am_Good mi_144 12 [some (.ref 66)] [.retAddr 0] (rm h f len at_ rl rg z1 z2 z3 z4 z5 z6 tm td y1 y2 y3 y4 y5 y6) _
    refine g_if_eq_t (t := 46) dd_144_12 (by decide) (by decide) ?_
    refine g_iconst dd_144_46 ic_0 ?_
    exact g_zreturn rfl (by first | decide | omega) dd_144_47
theorem m_put1 {h : am_H} {f : Nat → Value} {len at_ rl rg z1 z2 z3 z4 z5 z6 tm td y1 y2 y3 y4 y5 y6 : Nat} (hH : rm_ok h) (hz : z2 < 9) : am_EG mi_145 [.ref 76, .retAddr (5 * z2), .ref 74, .retAddr 5] (rm h f len at_ rl rg z1 z2 z3 z4 z5 z6 tm td y1 y2 y3 y4 y5 y6) (none, (rm h f len at_ rl rg z1 z2 z3 z4 z5 z6 tm td y1 (am_as (am_as (am_as (am_as (am_as y2 (5 * z2) (am_ag td 0)) (5 * z2 + 1) (am_ag td 1)) (5 * z2 + 2) (am_ag td 2)) (5 * z2 + 3) (am_ag td 3)) (5 * z2 + 4) (am_ag td 4)) y3 y4 y5 y6)) := by
  refine am_enter (n := 1) tk_145.2.1 (by simp [Value.category]) (Nat.le_of_ble_eq_true rfl) ?_
  show am_Good mi_145 0 [some (.ref 76), some (.retAddr (5 * z2)), some (.ref 74), some (.retAddr 5), none] [] (rm h f len at_ rl rg z1 z2 z3 z4 z5 z6 tm td y1 y2 y3 y4 y5 y6) _
  refine g_iconst dd_145_0 ic_0 ?_
  refine g_istore dd_145_1 (am_nlb_ok rfl) (by decide) ?_
  refine g_iload dd_145_3 rfl ?_
  refine g_iload_n (i := 3) dd_145_5 rfl ?_
  refine g_icmp_ge_f (t := 25) dd_145_6 (by decide) (by decide) ?_
  refine g_aload_n (i := 0) dd_145_9 rfl ?_
  refine g_iload_n (i := 1) dd_145_10 rfl ?_
  refine g_iload dd_145_11 rfl ?_
  refine e_iadd (v := 5 * z2) dd_145_13 (by omega) ?_
  refine g_aload_n (i := 2) dd_145_14 rfl ?_
  refine g_iload dd_145_15 rfl ?_
  refine g_iaload dd_145_17 (rm_g74 hH) (by omega) (by decide) ?_
  have hl_1 := am_ag_lt td 0
  refine g_iastore dd_145_18 (rm_g76 hH) (by omega) (by decide) ?_
  refine am_heq (rm_u76 hH) ?_
  show am_Good mi_145 19 [some (.ref 76), some (.retAddr (5 * z2)), some (.ref 74), some (.retAddr 5), some (.retAddr 0)] [] (rm h f len at_ rl rg z1 z2 z3 z4 z5 z6 tm td y1 (am_as y2 (5 * z2) (am_ag td 0)) y3 y4 y5 y6) _
  refine e_iinc (v := 1) (w := 1) dd_145_19 rfl ic_1 (am_nlb_ok rfl) (by decide) (by omega) ?_
  refine g_goto (t := 3) dd_145_22 (by decide) ?_
  refine g_iload dd_145_3 rfl ?_
  refine g_iload_n (i := 3) dd_145_5 rfl ?_
  refine g_icmp_ge_f (t := 25) dd_145_6 (by decide) (by decide) ?_
  refine g_aload_n (i := 0) dd_145_9 rfl ?_
  refine g_iload_n (i := 1) dd_145_10 rfl ?_
  refine g_iload dd_145_11 rfl ?_
  refine e_iadd (v := 5 * z2 + 1) dd_145_13 (by omega) ?_
  refine g_aload_n (i := 2) dd_145_14 rfl ?_
  refine g_iload dd_145_15 rfl ?_
  refine g_iaload dd_145_17 (rm_g74 hH) (by omega) (by decide) ?_
  have hl_2 := am_ag_lt td 1
  refine g_iastore dd_145_18 (rm_g76 hH) (by omega) (by decide) ?_
  refine am_heq (rm_u76 hH) ?_
  show am_Good mi_145 19 [some (.ref 76), some (.retAddr (5 * z2)), some (.ref 74), some (.retAddr 5), some (.retAddr 1)] [] (rm h f len at_ rl rg z1 z2 z3 z4 z5 z6 tm td y1 (am_as (am_as y2 (5 * z2) (am_ag td 0)) (5 * z2 + 1) (am_ag td 1)) y3 y4 y5 y6) _
  refine e_iinc (v := 1) (w := 2) dd_145_19 rfl ic_1 (am_nlb_ok rfl) (by decide) (by omega) ?_
  refine g_goto (t := 3) dd_145_22 (by decide) ?_
  refine g_iload dd_145_3 rfl ?_
  refine g_iload_n (i := 3) dd_145_5 rfl ?_
  refine g_icmp_ge_f (t := 25) dd_145_6 (by decide) (by decide) ?_
  refine g_aload_n (i := 0) dd_145_9 rfl ?_
  refine g_iload_n (i := 1) dd_145_10 rfl ?_
  refine g_iload dd_145_11 rfl ?_
  refine e_iadd (v := 5 * z2 + 2) dd_145_13 (by omega) ?_
  refine g_aload_n (i := 2) dd_145_14 rfl ?_
  refine g_iload dd_145_15 rfl ?_
  refine g_iaload dd_145_17 (rm_g74 hH) (by omega) (by decide) ?_
  have hl_3 := am_ag_lt td 2
  refine g_iastore dd_145_18 (rm_g76 hH) (by omega) (by decide) ?_
  refine am_heq (rm_u76 hH) ?_
  show am_Good mi_145 19 [some (.ref 76), some (.retAddr (5 * z2)), some (.ref 74), some (.retAddr 5), some (.retAddr 2)] [] (rm h f len at_ rl rg z1 z2 z3 z4 z5 z6 tm td y1 (am_as (am_as (am_as y2 (5 * z2) (am_ag td 0)) (5 * z2 + 1) (am_ag td 1)) (5 * z2 + 2) (am_ag td 2)) y3 y4 y5 y6) _
  refine e_iinc (v := 1) (w := 3) dd_145_19 rfl ic_1 (am_nlb_ok rfl) (by decide) (by omega) ?_
  refine g_goto (t := 3) dd_145_22 (by decide) ?_
  refine g_iload dd_145_3 rfl ?_
  refine g_iload_n (i := 3) dd_145_5 rfl ?_
  refine g_icmp_ge_f (t := 25) dd_145_6 (by decide) (by decide) ?_
  refine g_aload_n (i := 0) dd_145_9 rfl ?_
  refine g_iload_n (i := 1) dd_145_10 rfl ?_
  refine g_iload dd_145_11 rfl ?_
  refine e_iadd (v := 5 * z2 + 3) dd_145_13 (by omega) ?_
  refine g_aload_n (i := 2) dd_145_14 rfl ?_
  refine g_iload dd_145_15 rfl ?_
  refine g_iaload dd_145_17 (rm_g74 hH) (by omega) (by decide) ?_
  have hl_4 := am_ag_lt td 3
  refine g_iastore dd_145_18 (rm_g76 hH) (by omega) (by decide) ?_
  refine am_heq (rm_u76 hH) ?_
  show am_Good mi_145 19 [some (.ref 76), some (.retAddr (5 * z2)), some (.ref 74), some (.retAddr 5), some (.retAddr 3)] [] (rm h f len at_ rl rg z1 z2 z3 z4 z5 z6 tm td y1 (am_as (am_as (am_as (am_as y2 (5 * z2) (am_ag td 0)) (5 * z2 + 1) (am_ag td 1)) (5 * z2 + 2) (am_ag td 2)) (5 * z2 + 3) (am_ag td 3)) y3 y4 y5 y6) _
  refine e_iinc (v := 1) (w := 4) dd_145_19 rfl ic_1 (am_nlb_ok rfl) (by decide) (by omega) ?_
  refine g_goto (t := 3) dd_145_22 (by decide) ?_
  refine g_iload dd_145_3 rfl ?_
  refine g_iload_n (i := 3) dd_145_5 rfl ?_
  refine g_icmp_ge_f (t := 25) dd_145_6 (by decide) (by decide) ?_
  refine g_aload_n (i := 0) dd_145_9 rfl ?_
  refine g_iload_n (i := 1) dd_145_10 rfl ?_
  refine g_iload dd_145_11 rfl ?_
  refine e_iadd (v := 5 * z2 + 4) dd_145_13 (by omega) ?_
  refine g_aload_n (i := 2) dd_145_14 rfl ?_
  refine g_iload dd_145_15 rfl ?_
  refine g_iaload dd_145_17 (rm_g74 hH) (by omega) (by decide) ?_
  have hl_5 := am_ag_lt td 4
  refine g_iastore dd_145_18 (rm_g76 hH) (by omega) (by decide) ?_
  refine am_heq (rm_u76 hH) ?_
  show am_Good mi_145 19 [some (.ref 76), some (.retAddr (5 * z2)), some (.ref 74), some (.retAddr 5), some (.retAddr 4)] [] (rm h f len at_ rl rg z1 z2 z3 z4 z5 z6 tm td y1 (am_as (am_as (am_as (am_as (am_as y2 (5 * z2) (am_ag td 0)) (5 * z2 + 1) (am_ag td 1)) (5 * z2 + 2) (am_ag td 2)) (5 * z2 + 3) (am_ag td 3)) (5 * z2 + 4) (am_ag td 4)) y3 y4 y5 y6) _
  refine e_iinc (v := 1) (w := 5) dd_145_19 rfl ic_1 (am_nlb_ok rfl) (by decide) (by omega) ?_
  refine g_goto (t := 3) dd_145_22 (by decide) ?_
  refine g_iload dd_145_3 rfl ?_
  refine g_iload_n (i := 3) dd_145_5 rfl ?_
  refine g_icmp_ge_t (t := 25) dd_145_6 (by decide) (by decide) ?_
  exact g_return rfl dd_145_25
theorem m_put2 {h : am_H} {f : Nat → Value} {len at_ rl rg z1 z2 z3 z4 z5 z6 tm td y1 y2 y3 y4 y5 y6 : Nat} (hH : rm_ok h) (hz : z3 < 6) : am_EG mi_145 [.ref 77, .retAddr (3 * z3), .ref 74, .retAddr 3] (rm h f len at_ rl rg z1 z2 z3 z4 z5 z6 tm td y1 y2 y3 y4 y5 y6) (none, (rm h f len at_ rl rg z1 z2 z3 z4 z5 z6 tm td y1 y2 (am_as (am_as (am_as y3 (3 * z3) (am_ag td 0)) (3 * z3 + 1) (am_ag td 1)) (3 * z3 + 2) (am_ag td 2)) y4 y5 y6)) := by
  refine am_enter (n := 1) tk_145.2.1 (by simp [Value.category]) (Nat.le_of_ble_eq_true rfl) ?_
  show am_Good mi_145 0 [some (.ref 77), some (.retAddr (3 * z3)), some (.ref 74), some (.retAddr 3), none] [] (rm h f len at_ rl rg z1 z2 z3 z4 z5 z6 tm td y1 y2 y3 y4 y5 y6) _
  refine g_iconst dd_145_0 ic_0 ?_
  refine g_istore dd_145_1 (am_nlb_ok rfl) (by decide) ?_
  refine g_iload dd_145_3 rfl ?_
  refine g_iload_n (i := 3) dd_145_5 rfl ?_
  refine g_icmp_ge_f (t := 25) dd_145_6 (by decide) (by decide) ?_
  refine g_aload_n (i := 0) dd_145_9 rfl ?_
  refine g_iload_n (i := 1) dd_145_10 rfl ?_
  refine g_iload dd_145_11 rfl ?_
  refine e_iadd (v := 3 * z3) dd_145_13 (by omega) ?_
  refine g_aload_n (i := 2) dd_145_14 rfl ?_
  refine g_iload dd_145_15 rfl ?_
  refine g_iaload dd_145_17 (rm_g74 hH) (by omega) (by decide) ?_
  have hl_1 := am_ag_lt td 0
  refine g_iastore dd_145_18 (rm_g77 hH) (by omega) (by decide) ?_
  refine am_heq (rm_u77 hH) ?_
  show am_Good mi_145 19 [some (.ref 77), some (.retAddr (3 * z3)), some (.ref 74), some (.retAddr 3), some (.retAddr 0)] [] (rm h f len at_ rl rg z1 z2 z3 z4 z5 z6 tm td y1 y2 (am_as y3 (3 * z3) (am_ag td 0)) y4 y5 y6) _
  refine e_iinc (v := 1) (w := 1) dd_145_19 rfl ic_1 (am_nlb_ok rfl) (by decide) (by omega) ?_
  refine g_goto (t := 3) dd_145_22 (by decide) ?_
  refine g_iload dd_145_3 rfl ?_
  refine g_iload_n (i := 3) dd_145_5 rfl ?_
  refine g_icmp_ge_f (t := 25) dd_145_6 (by decide) (by decide) ?_
  refine g_aload_n (i := 0) dd_145_9 rfl ?_
  refine g_iload_n (i := 1) dd_145_10 rfl ?_
  refine g_iload dd_145_11 rfl ?_
  refine e_iadd (v := 3 * z3 + 1) dd_145_13 (by omega) ?_
  refine g_aload_n (i := 2) dd_145_14 rfl ?_
  refine g_iload dd_145_15 rfl ?_
  refine g_iaload dd_145_17 (rm_g74 hH) (by omega) (by decide) ?_
  have hl_2 := am_ag_lt td 1
  refine g_iastore dd_145_18 (rm_g77 hH) (by omega) (by decide) ?_
  refine am_heq (rm_u77 hH) ?_
  show am_Good mi_145 19 [some (.ref 77), some (.retAddr (3 * z3)), some (.ref 74), some (.retAddr 3), some (.retAddr 1)] [] (rm h f len at_ rl rg z1 z2 z3 z4 z5 z6 tm td y1 y2 (am_as (am_as y3 (3 * z3) (am_ag td 0)) (3 * z3 + 1) (am_ag td 1)) y4 y5 y6) _
  refine e_iinc (v := 1) (w := 2) dd_145_19 rfl ic_1 (am_nlb_ok rfl) (by decide) (by omega) ?_
  refine g_goto (t := 3) dd_145_22 (by decide) ?_
  refine g_iload dd_145_3 rfl ?_
  refine g_iload_n (i := 3) dd_145_5 rfl ?_
  refine g_icmp_ge_f (t := 25) dd_145_6 (by decide) (by decide) ?_
  refine g_aload_n (i := 0) dd_145_9 rfl ?_
  refine g_iload_n (i := 1) dd_145_10 rfl ?_
  refine g_iload dd_145_11 rfl ?_
  refine e_iadd (v := 3 * z3 + 2) dd_145_13 (by omega) ?_
  refine g_aload_n (i := 2) dd_145_14 rfl ?_
  refine g_iload dd_145_15 rfl ?_
  refine g_iaload dd_145_17 (rm_g74 hH) (by omega) (by decide) ?_
  have hl_3 := am_ag_lt td 2
  refine g_iastore dd_145_18 (rm_g77 hH) (by omega) (by decide) ?_
  refine am_heq (rm_u77 hH) ?_
  show am_Good mi_145 19 [some (.ref 77), some (.retAddr (3 * z3)), some (.ref 74), some (.retAddr 3), some (.retAddr 2)] [] (rm h f len at_ rl rg z1 z2 z3 z4 z5 z6 tm td y1 y2 (am_as (am_as (am_as y3 (3 * z3) (am_ag td 0)) (3 * z3 + 1) (am_ag td 1)) (3 * z3 + 2) (am_ag td 2)) y4 y5 y6) _
  refine e_iinc (v := 1) (w := 3) dd_145_19 rfl ic_1 (am_nlb_ok rfl) (by decide) (by omega) ?_
  refine g_goto (t := 3) dd_145_22 (by decide) ?_
  refine g_iload dd_145_3 rfl ?_
  refine g_iload_n (i := 3) dd_145_5 rfl ?_
  refine g_icmp_ge_t (t := 25) dd_145_6 (by decide) (by decide) ?_
  exact g_return rfl dd_145_25
theorem m_put3 {h : am_H} {f : Nat → Value} {len at_ rl rg z1 z2 z3 z4 z5 z6 tm td y1 y2 y3 y4 y5 y6 : Nat} (hH : rm_ok h) (hz : z4 < 4) : am_EG mi_145 [.ref 78, .retAddr (4 * z4), .ref 74, .retAddr 4] (rm h f len at_ rl rg z1 z2 z3 z4 z5 z6 tm td y1 y2 y3 y4 y5 y6) (none, (rm h f len at_ rl rg z1 z2 z3 z4 z5 z6 tm td y1 y2 y3 (am_as (am_as (am_as (am_as y4 (4 * z4) (am_ag td 0)) (4 * z4 + 1) (am_ag td 1)) (4 * z4 + 2) (am_ag td 2)) (4 * z4 + 3) (am_ag td 3)) y5 y6)) := by
  refine am_enter (n := 1) tk_145.2.1 (by simp [Value.category]) (Nat.le_of_ble_eq_true rfl) ?_
  show am_Good mi_145 0 [some (.ref 78), some (.retAddr (4 * z4)), some (.ref 74), some (.retAddr 4), none] [] (rm h f len at_ rl rg z1 z2 z3 z4 z5 z6 tm td y1 y2 y3 y4 y5 y6) _
  refine g_iconst dd_145_0 ic_0 ?_
  refine g_istore dd_145_1 (am_nlb_ok rfl) (by decide) ?_
  refine g_iload dd_145_3 rfl ?_
  refine g_iload_n (i := 3) dd_145_5 rfl ?_
  refine g_icmp_ge_f (t := 25) dd_145_6 (by decide) (by decide) ?_
  refine g_aload_n (i := 0) dd_145_9 rfl ?_
  refine g_iload_n (i := 1) dd_145_10 rfl ?_
  refine g_iload dd_145_11 rfl ?_
  refine e_iadd (v := 4 * z4) dd_145_13 (by omega) ?_
  refine g_aload_n (i := 2) dd_145_14 rfl ?_
  refine g_iload dd_145_15 rfl ?_
  refine g_iaload dd_145_17 (rm_g74 hH) (by omega) (by decide) ?_
  have hl_1 := am_ag_lt td 0
  refine g_iastore dd_145_18 (rm_g78 hH) (by omega) (by decide) ?_
  refine am_heq (rm_u78 hH) ?_
  show am_Good mi_145 19 [some (.ref 78), some (.retAddr (4 * z4)), some (.ref 74), some (.retAddr 4), some (.retAddr 0)] [] (rm h f len at_ rl rg z1 z2 z3 z4 z5 z6 tm td y1 y2 y3 (am_as y4 (4 * z4) (am_ag td 0)) y5 y6) _
  refine e_iinc (v := 1) (w := 1) dd_145_19 rfl ic_1 (am_nlb_ok rfl) (by decide) (by omega) ?_
  refine g_goto (t := 3) dd_145_22 (by decide) ?_
  refine g_iload dd_145_3 rfl ?_
  refine g_iload_n (i := 3) dd_145_5 rfl ?_
  refine g_icmp_ge_f (t := 25) dd_145_6 (by decide) (by decide) ?_
  refine g_aload_n (i := 0) dd_145_9 rfl ?_
  refine g_iload_n (i := 1) dd_145_10 rfl ?_
  refine g_iload dd_145_11 rfl ?_
  refine e_iadd (v := 4 * z4 + 1) dd_145_13 (by omega) ?_
  refine g_aload_n (i := 2) dd_145_14 rfl ?_
  refine g_iload dd_145_15 rfl ?_
  refine g_iaload dd_145_17 (rm_g74 hH) (by omega) (by decide) ?_
  have hl_2 := am_ag_lt td 1
  refine g_iastore dd_145_18 (rm_g78 hH) (by omega) (by decide) ?_
  refine am_heq (rm_u78 hH) ?_
  show am_Good mi_145 19 [some (.ref 78), some (.retAddr (4 * z4)), some (.ref 74), some (.retAddr 4), some (.retAddr 1)] [] (rm h f len at_ rl rg z1 z2 z3 z4 z5 z6 tm td y1 y2 y3 (am_as (am_as y4 (4 * z4) (am_ag td 0)) (4 * z4 + 1) (am_ag td 1)) y5 y6) _
  refine e_iinc (v := 1) (w := 2) dd_145_19 rfl ic_1 (am_nlb_ok rfl) (by decide) (by omega) ?_
  refine g_goto (t := 3) dd_145_22 (by decide) ?_
  refine g_iload dd_145_3 rfl ?_
  refine g_iload_n (i := 3) dd_145_5 rfl ?_
  refine g_icmp_ge_f (t := 25) dd_145_6 (by decide) (by decide) ?_
  refine g_aload_n (i := 0) dd_145_9 rfl ?_
  refine g_iload_n (i := 1) dd_145_10 rfl ?_
  refine g_iload dd_145_11 rfl ?_
  refine e_iadd (v := 4 * z4 + 2) dd_145_13 (by omega) ?_
  refine g_aload_n (i := 2) dd_145_14 rfl ?_
  refine g_iload dd_145_15 rfl ?_
  refine g_iaload dd_145_17 (rm_g74 hH) (by omega) (by decide) ?_
  have hl_3 := am_ag_lt td 2
  refine g_iastore dd_145_18 (rm_g78 hH) (by omega) (by decide) ?_
  refine am_heq (rm_u78 hH) ?_
  show am_Good mi_145 19 [some (.ref 78), some (.retAddr (4 * z4)), some (.ref 74), some (.retAddr 4), some (.retAddr 2)] [] (rm h f len at_ rl rg z1 z2 z3 z4 z5 z6 tm td y1 y2 y3 (am_as (am_as (am_as y4 (4 * z4) (am_ag td 0)) (4 * z4 + 1) (am_ag td 1)) (4 * z4 + 2) (am_ag td 2)) y5 y6) _
  refine e_iinc (v := 1) (w := 3) dd_145_19 rfl ic_1 (am_nlb_ok rfl) (by decide) (by omega) ?_
  refine g_goto (t := 3) dd_145_22 (by decide) ?_
  refine g_iload dd_145_3 rfl ?_
  refine g_iload_n (i := 3) dd_145_5 rfl ?_
  refine g_icmp_ge_f (t := 25) dd_145_6 (by decide) (by decide) ?_
  refine g_aload_n (i := 0) dd_145_9 rfl ?_
  refine g_iload_n (i := 1) dd_145_10 rfl ?_
  refine g_iload dd_145_11 rfl ?_
  refine e_iadd (v := 4 * z4 + 3) dd_145_13 (by omega) ?_
  refine g_aload_n (i := 2) dd_145_14 rfl ?_
  refine g_iload dd_145_15 rfl ?_
  refine g_iaload dd_145_17 (rm_g74 hH) (by omega) (by decide) ?_
  have hl_4 := am_ag_lt td 3
  refine g_iastore dd_145_18 (rm_g78 hH) (by omega) (by decide) ?_
  refine am_heq (rm_u78 hH) ?_
  show am_Good mi_145 19 [some (.ref 78), some (.retAddr (4 * z4)), some (.ref 74), some (.retAddr 4), some (.retAddr 3)] [] (rm h f len at_ rl rg z1 z2 z3 z4 z5 z6 tm td y1 y2 y3 (am_as (am_as (am_as (am_as y4 (4 * z4) (am_ag td 0)) (4 * z4 + 1) (am_ag td 1)) (4 * z4 + 2) (am_ag td 2)) (4 * z4 + 3) (am_ag td 3)) y5 y6) _
  refine e_iinc (v := 1) (w := 4) dd_145_19 rfl ic_1 (am_nlb_ok rfl) (by decide) (by omega) ?_
  refine g_goto (t := 3) dd_145_22 (by decide) ?_
  refine g_iload dd_145_3 rfl ?_
  refine g_iload_n (i := 3) dd_145_5 rfl ?_
  refine g_icmp_ge_t (t := 25) dd_145_6 (by decide) (by decide) ?_
  exact g_return rfl dd_145_25
theorem m_put4 {h : am_H} {f : Nat → Value} {len at_ rl rg z1 z2 z3 z4 z5 z6 tm td y1 y2 y3 y4 y5 y6 : Nat} (hH : rm_ok h) (hz : z5 < 6) : am_EG mi_145 [.ref 79, .retAddr (3 * z5), .ref 74, .retAddr 3] (rm h f len at_ rl rg z1 z2 z3 z4 z5 z6 tm td y1 y2 y3 y4 y5 y6) (none, (rm h f len at_ rl rg z1 z2 z3 z4 z5 z6 tm td y1 y2 y3 y4 (am_as (am_as (am_as y5 (3 * z5) (am_ag td 0)) (3 * z5 + 1) (am_ag td 1)) (3 * z5 + 2) (am_ag td 2)) y6)) := by
  refine am_enter (n := 1) tk_145.2.1 (by simp [Value.category]) (Nat.le_of_ble_eq_true rfl) ?_
  show am_Good mi_145 0 [some (.ref 79), some (.retAddr (3 * z5)), some (.ref 74), some (.retAddr 3), none] [] (rm h f len at_ rl rg z1 z2 z3 z4 z5 z6 tm td y1 y2 y3 y4 y5 y6) _
  refine g_iconst dd_145_0 ic_0 ?_
  refine g_istore dd_145_1 (am_nlb_ok rfl) (by decide) ?_
  refine g_iload dd_145_3 rfl ?_
  refine g_iload_n (i := 3) dd_145_5 rfl ?_
  refine g_icmp_ge_f (t := 25) dd_145_6 (by decide) (by decide) ?_
  refine g_aload_n (i := 0) dd_145_9 rfl ?_
  refine g_iload_n (i := 1) dd_145_10 rfl ?_
  refine g_iload dd_145_11 rfl ?_
  refine e_iadd (v := 3 * z5) dd_145_13 (by omega) ?_
  refine g_aload_n (i := 2) dd_145_14 rfl ?_
  refine g_iload dd_145_15 rfl ?_
  refine g_iaload dd_145_17 (rm_g74 hH) (by omega) (by decide) ?_
  have hl_1 := am_ag_lt td 0
  refine g_iastore dd_145_18 (rm_g79 hH) (by omega) (by decide) ?_
  refine am_heq (rm_u79 hH) ?_
  show am_Good mi_145 19 [some (.ref 79), some (.retAddr (3 * z5)), some (.ref 74), some (.retAddr 3), some (.retAddr 0)] [] (rm h f len at_ rl rg z1 z2 z3 z4 z5 z6 tm td y1 y2 y3 y4 (am_as y5 (3 * z5) (am_ag td 0)) y6) _
  refine e_iinc (v := 1) (w := 1) dd_145_19 rfl ic_1 (am_nlb_ok rfl) (by decide) (by omega) ?_
  refine g_goto (t := 3) dd_145_22 (by decide) ?_
  refine g_iload dd_145_3 rfl ?_
  refine g_iload_n (i := 3) dd_145_5 rfl ?_
  refine g_icmp_ge_f (t := 25) dd_145_6 (by decide) (by decide) ?_
  refine g_aload_n (i := 0) dd_145_9 rfl ?_
  refine g_iload_n (i := 1) dd_145_10 rfl ?_
  refine g_iload dd_145_11 rfl ?_
  refine e_iadd (v := 3 * z5 + 1) dd_145_13 (by omega) ?_
  refine g_aload_n (i := 2) dd_145_14 rfl ?_
  refine g_iload dd_145_15 rfl ?_
  refine g_iaload dd_145_17 (rm_g74 hH) (by omega) (by decide) ?_
  have hl_2 := am_ag_lt td 1
  refine g_iastore dd_145_18 (rm_g79 hH) (by omega) (by decide) ?_
  refine am_heq (rm_u79 hH) ?_
  show am_Good mi_145 19 [some (.ref 79), some (.retAddr (3 * z5)), some (.ref 74), some (.retAddr 3), some (.retAddr 1)] [] (rm h f len at_ rl rg z1 z2 z3 z4 z5 z6 tm td y1 y2 y3 y4 (am_as (am_as y5 (3 * z5) (am_ag td 0)) (3 * z5 + 1) (am_ag td 1)) y6) _
  refine e_iinc (v := 1) (w := 2) dd_145_19 rfl ic_1 (am_nlb_ok rfl) (by decide) (by omega) ?_
  refine g_goto (t := 3) dd_145_22 (by decide) ?_
  refine g_iload dd_145_3 rfl ?_
  refine g_iload_n (i := 3) dd_145_5 rfl ?_
  refine g_icmp_ge_f (t := 25) dd_145_6 (by decide) (by decide) ?_
  refine g_aload_n (i := 0) dd_145_9 rfl ?_
  refine g_iload_n (i := 1) dd_145_10 rfl ?_
  refine g_iload dd_145_11 rfl ?_
  refine e_iadd (v := 3 * z5 + 2) dd_145_13 (by omega) ?_
  refine g_aload_n (i := 2) dd_145_14 rfl ?_
  refine g_iload dd_145_15 rfl ?_
  refine g_iaload dd_145_17 (rm_g74 hH) (by omega) (by decide) ?_
  have hl_3 := am_ag_lt td 2
  refine g_iastore dd_145_18 (rm_g79 hH) (by omega) (by decide) ?_
  refine am_heq (rm_u79 hH) ?_
  show am_Good mi_145 19 [some (.ref 79), some (.retAddr (3 * z5)), some (.ref 74), some (.retAddr 3), some (.retAddr 2)] [] (rm h f len at_ rl rg z1 z2 z3 z4 z5 z6 tm td y1 y2 y3 y4 (am_as (am_as (am_as y5 (3 * z5) (am_ag td 0)) (3 * z5 + 1) (am_ag td 1)) (3 * z5 + 2) (am_ag td 2)) y6) _
  refine e_iinc (v := 1) (w := 3) dd_145_19 rfl ic_1 (am_nlb_ok rfl) (by decide) (by omega) ?_
  refine g_goto (t := 3) dd_145_22 (by decide) ?_
  refine g_iload dd_145_3 rfl ?_
  refine g_iload_n (i := 3) dd_145_5 rfl ?_
  refine g_icmp_ge_t (t := 25) dd_145_6 (by decide) (by decide) ?_
  exact g_return rfl dd_145_25
theorem m_put5 {h : am_H} {f : Nat → Value} {len at_ rl rg z1 z2 z3 z4 z5 z6 tm td y1 y2 y3 y4 y5 y6 : Nat} (hH : rm_ok h) (hz : z6 < 4) : am_EG mi_145 [.ref 80, .retAddr (2 * z6), .ref 74, .retAddr 2] (rm h f len at_ rl rg z1 z2 z3 z4 z5 z6 tm td y1 y2 y3 y4 y5 y6) (none, (rm h f len at_ rl rg z1 z2 z3 z4 z5 z6 tm td y1 y2 y3 y4 y5 (am_as (am_as y6 (2 * z6) (am_ag td 0)) (2 * z6 + 1) (am_ag td 1)))) := by
  refine am_enter (n := 1) tk_145.2.1 (by simp [Value.category]) (Nat.le_of_ble_eq_true rfl) ?_
  show am_Good mi_145 0 [some (.ref 80), some (.retAddr (2 * z6)), some (.ref 74), some (.retAddr 2), none] [] (rm h f len at_ rl rg z1 z2 z3 z4 z5 z6 tm td y1 y2 y3 y4 y5 y6) _
  refine g_iconst dd_145_0 ic_0 ?_
  refine g_istore dd_145_1 (am_nlb_ok rfl) (by decide) ?_
  refine g_iload dd_145_3 rfl ?_
  refine g_iload_n (i := 3) dd_145_5 rfl ?_
  refine g_icmp_ge_f (t := 25) dd_145_6 (by decide) (by decide) ?_
  refine g_aload_n (i := 0) dd_145_9 rfl ?_
  refine g_iload_n (i := 1) dd_145_10 rfl ?_
  refine g_iload dd_145_11 rfl ?_
  refine e_iadd (v := 2 * z6) dd_145_13 (by omega) ?_
  refine g_aload_n (i := 2) dd_145_14 rfl ?_
  refine g_iload dd_145_15 rfl ?_
  refine g_iaload dd_145_17 (rm_g74 hH) (by omega) (by decide) ?_
  have hl_1 := am_ag_lt td 0
  refine g_iastore dd_145_18 (rm_g80 hH) (by omega) (by decide) ?_
  refine am_heq (rm_u80 hH) ?_
  show am_Good mi_145 19 [some (.ref 80), some (.retAddr (2 * z6)), some (.ref 74), some (.retAddr 2), some (.retAddr 0)] [] (rm h f len at_ rl rg z1 z2 z3 z4 z5 z6 tm td y1 y2 y3 y4 y5 (am_as y6 (2 * z6) (am_ag td 0))) _
  refine e_iinc (v := 1) (w := 1) dd_145_19 rfl ic_1 (am_nlb_ok rfl) (by decide) (by omega) ?_
  refine g_goto (t := 3) dd_145_22 (by decide) ?_
  refine g_iload dd_145_3 rfl ?_
  refine g_iload_n (i := 3) dd_145_5 rfl ?_
  refine g_icmp_ge_f (t := 25) dd_145_6 (by decide) (by decide) ?_
  refine g_aload_n (i := 0) dd_145_9 rfl ?_
  refine g_iload_n (i := 1) dd_145_10 rfl ?_
  refine g_iload dd_145_11 rfl ?_
  refine e_iadd (v := 2 * z6 + 1) dd_145_13 (by omega) ?_
  refine g_aload_n (i := 2) dd_145_14 rfl ?_
  refine g_iload dd_145_15 rfl ?_
  refine g_iaload dd_145_17 (rm_g74 hH) (by omega) (by decide) ?_
  have hl_2 := am_ag_lt td 1
  refine g_iastore dd_145_18 (rm_g80 hH) (by omega) (by decide) ?_
  refine am_heq (rm_u80 hH) ?_
  show am_Good mi_145 19 [some (.ref 80), some (.retAddr (2 * z6)), some (.ref 74), some (.retAddr 2), some (.retAddr 1)] [] (rm h f len at_ rl rg z1 z2 z3 z4 z5 z6 tm td y1 y2 y3 y4 y5 (am_as (am_as y6 (2 * z6) (am_ag td 0)) (2 * z6 + 1) (am_ag td 1))) _
  refine e_iinc (v := 1) (w := 2) dd_145_19 rfl ic_1 (am_nlb_ok rfl) (by decide) (by omega) ?_
  refine g_goto (t := 3) dd_145_22 (by decide) ?_
  refine g_iload dd_145_3 rfl ?_
  refine g_iload_n (i := 3) dd_145_5 rfl ?_
  refine g_icmp_ge_t (t := 25) dd_145_6 (by decide) (by decide) ?_
  exact g_return rfl dd_145_25
theorem m_i110_n {h : am_H} {f : Nat → Value} {len at_ rl rg z1 z2 z3 z4 z5 z6 tm td y1 y2 y3 y4 y5 y6 : Nat} (hH : rm_ok h) {at' td' : Nat} (hrn : am_EG mi_139 [.ref 66, .retAddr 1] (rm h f len at_ rl rg z1 z2 z3 z4 z5 z6 tm td y1 y2 y3 y4 y5 y6) (some (.retAddr 0), (rm h f len (at') rl rg z1 z2 z3 z4 z5 z6 tm (td') y1 y2 y3 y4 y5 y6))) (h5 : ∀ j, j < 5 → am_ag td' j ≤ 99) (hz1 : z1 ≤ 4) (hz2 : z2 ≤ 9) (hz3 : z3 ≤ 6) (hz4 : z4 ≤ 4) (hz5 : z5 ≤ 6) (hz6 : z6 ≤ 4) : am_EG mi_138 [.ref 66] (rm h f len at_ rl rg z1 z2 z3 z4 z5 z6 tm td y1 y2 y3 y4 y5 y6) (some (.retAddr 0), (rm h f len (at') rl rg z1 z2 z3 z4 z5 z6 tm (td') y1 y2 y3 y4 y5 y6)) := by
  refine am_enter (n := 0) tk_138.2.1 (by simp [Value.category]) (Nat.le_of_ble_eq_true rfl) ?_
  show am_Good mi_138 0 [some (.ref 66)] [] (rm h f len at_ rl rg z1 z2 z3 z4 z5 z6 tm td y1 y2 y3 y4 y5 y6) _
  refine g_aload_n (i := 0) dd_138_0 rfl ?_
  refine g_iconst dd_138_1 ic_1 ?_
  refine g_virtual (M' := mi_139) (n := 1) (ci := 12) (b := 66) (as := [.retAddr 1]) (st := []) (r1 := (some (.retAddr 0), (rm h f len (at') rl rg z1 z2 z3 z4 z5 z6 tm (td') y1 y2 y3 y4 y5 y6))) w_1129 w_1131 ps_139 ⟨lk_139.1, lk_139.2.1, lk_139.2.2, by decide, by decide⟩ rfl (rm_g66 hH) rfl (by simp [Value.category]) dd_138_2 (hrn) ?_
  show am_Good mi_138 5 [some (.ref 66)] [.retAddr 0] (rm h f len (at') rl rg z1 z2 z3 z4 z5 z6 tm (td') y1 y2 y3 y4 y5 y6) _
  refine g_if_eq_t (t := 19) dd_138_5 (by decide) (by decide) ?_
  refine g_iconst dd_138_19 ic_0 ?_
  exact g_zreturn rfl (by first | decide | omega) dd_138_20
theorem m_i110_1 {h : am_H} {f : Nat → Value} {len at_ rl rg z1 z2 z3 z4 z5 z6 tm td y1 y2 y3 y4 y5 y6 : Nat} (hH : rm_ok h) {at' td' : Nat} (hrn : am_EG mi_139 [.ref 66, .retAddr 1] (rm h f len at_ rl rg z1 z2 z3 z4 z5 z6 tm td y1 y2 y3 y4 y5 y6) (some (.retAddr 1), (rm h f len (at') rl rg z1 z2 z3 z4 z5 z6 tm (td') y1 y2 y3 y4 y5 y6))) (h5 : ∀ j, j < 5 → am_ag td' j ≤ 99) (hz1 : z1 ≤ 4) (hz2 : z2 ≤ 9) (hz3 : z3 ≤ 6) (hz4 : z4 ≤ 4) (hz5 : z5 ≤ 6) (hz6 : z6 ≤ 4) (hc : 1 ≤ am_ag td' 0 ∧ am_ag td' 0 ≤ 60) : am_EG mi_138 [.ref 66] (rm h f len at_ rl rg z1 z2 z3 z4 z5 z6 tm td y1 y2 y3 y4 y5 y6) (some (.retAddr 1), (rm h f len (at') (am_ag (td') 0) rg z1 z2 z3 z4 z5 z6 tm (td') y1 y2 y3 y4 y5 y6)) := by
  refine am_enter (n := 0) tk_138.2.1 (by simp [Value.category]) (Nat.le_of_ble_eq_true rfl) ?_
  show am_Good mi_138 0 [some (.ref 66)] [] (rm h f len at_ rl rg z1 z2 z3 z4 z5 z6 tm td y1 y2 y3 y4 y5 y6) _
  have hb0 := h5 0 (by decide)
  have hb1 := h5 1 (by decide)
  have hb2 := h5 2 (by decide)
  have hb3 := h5 3 (by decide)
  have hb4 := h5 4 (by decide)
  refine g_aload_n (i := 0) dd_138_0 rfl ?_
  refine g_iconst dd_138_1 ic_1 ?_
  refine g_virtual (M' := mi_139) (n := 1) (ci := 12) (b := 66) (as := [.retAddr 1]) (st := []) (r1 := (some (.retAddr 1), (rm h f len (at') rl rg z1 z2 z3 z4 z5 z6 tm (td') y1 y2 y3 y4 y5 y6))) w_1129 w_1131 ps_139 ⟨lk_139.1, lk_139.2.1, lk_139.2.2, by decide, by decide⟩ rfl (rm_g66 hH) rfl (by simp [Value.category]) dd_138_2 (hrn) ?_
  show am_Good mi_138 5 [some (.ref 66)] [.retAddr 1] (rm h f len (at') rl rg z1 z2 z3 z4 z5 z6 tm (td') y1 y2 y3 y4 y5 y6) _
  refine g_if_eq_f (t := 19) dd_138_5 (by decide) (by decide) ?_
  refine g_aload_n (i := 0) dd_138_8 rfl ?_
  refine g_iconst dd_138_9 ic_0 ?_
  refine g_iconst dd_138_10 ic_1 ?_
  refine g_bipush dd_138_11 bi_60 ?_
  refine g_virtual (M' := mi_141) (n := 3) (ci := 12) (b := 66) (as := [.retAddr 0, .retAddr 1, .retAddr 60]) (st := []) (r1 := (some (.retAddr 1), (rm h f len (at') rl rg z1 z2 z3 z4 z5 z6 tm (td') y1 y2 y3 y4 y5 y6))) w_1136 w_1138 ps_141 ⟨lk_141.1, lk_141.2.1, lk_141.2.2, by decide, by decide⟩ rfl (rm_g66 hH) rfl (by simp [Value.category]) dd_138_13 (m_tw1 hH h5 (by decide) (by decide) (by omega) (by omega)) ?_
  show am_Good mi_138 16 [some (.ref 66)] [.retAddr 1] (rm h f len (at') rl rg z1 z2 z3 z4 z5 z6 tm (td') y1 y2 y3 y4 y5 y6) _
  refine g_if_ne_t (t := 21) dd_138_16 (by decide) (by decide) ?_
  refine g_aload_n (i := 0) dd_138_21 rfl ?_
  refine g_aload_n (i := 0) dd_138_22 rfl ?_
  refine g_getfield (k := 17) am_ck12 (by decide) (Or.inl w_952) dd_138_23 (rm_g66 hH) rfl ?_
  refine g_iconst dd_138_26 ic_0 ?_
  refine g_iaload dd_138_27 (rm_g74 hH) (by omega) (by decide) ?_
  have hl_1 := am_ag_lt (td') 0
  refine g_putfield (k := 18) am_ck12 (by decide) (Or.inl w_953) (Or.inl rfl) dd_138_28 (rm_g66 hH) (Nat.le_of_ble_eq_true rfl) trivial ?_
  refine am_heq (rm_u66 hH) ?_
  show am_Good mi_138 31 [some (.ref 66)] [] (rm h f len (at') (am_ag (td') 0) rg z1 z2 z3 z4 z5 z6 tm (td') y1 y2 y3 y4 y5 y6) _
  refine g_iconst dd_138_31 ic_1 ?_
  exact g_zreturn rfl (by first | decide | omega) dd_138_32
theorem m_i110_0 {h : am_H} {f : Nat → Value} {len at_ rl rg z1 z2 z3 z4 z5 z6 tm td y1 y2 y3 y4 y5 y6 : Nat} (hH : rm_ok h) {at' td' : Nat} (hrn : am_EG mi_139 [.ref 66, .retAddr 1] (rm h f len at_ rl rg z1 z2 z3 z4 z5 z6 tm td y1 y2 y3 y4 y5 y6) (some (.retAddr 1), (rm h f len (at') rl rg z1 z2 z3 z4 z5 z6 tm (td') y1 y2 y3 y4 y5 y6))) (h5 : ∀ j, j < 5 → am_ag td' j ≤ 99) (hz1 : z1 ≤ 4) (hz2 : z2 ≤ 9) (hz3 : z3 ≤ 6) (hz4 : z4 ≤ 4) (hz5 : z5 ≤ 6) (hz6 : z6 ≤ 4) (hc : ¬ (1 ≤ am_ag td' 0 ∧ am_ag td' 0 ≤ 60)) : am_EG mi_138 [.ref 66] (rm h f len at_ rl rg z1 z2 z3 z4 z5 z6 tm td y1 y2 y3 y4 y5 y6) (some (.retAddr 0), (rm h f len (at') rl rg z1 z2 z3 z4 z5 z6 tm (td') y1 y2 y3 y4 y5 y6)) := by
  refine am_enter (n := 0) tk_138.2.1 (by simp [Value.category]) (Nat.le_of_ble_eq_true rfl) ?_
  show am_Good mi_138 0 [some (.ref 66)] [] (rm h f len at_ rl rg z1 z2 z3 z4 z5 z6 tm td y1 y2 y3 y4 y5 y6) _
  have hb0 := h5 0 (by decide)
  have hb1 := h5 1 (by decide)
  have hb2 := h5 2 (by decide)
  have hb3 := h5 3 (by decide)
  have hb4 := h5 4 (by decide)
  refine g_aload_n (i := 0) dd_138_0 rfl ?_
  refine g_iconst dd_138_1 ic_1 ?_
  refine g_virtual (M' := mi_139) (n := 1) (ci := 12) (b := 66) (as := [.retAddr 1]) (st := []) (r1 := (some (.retAddr 1), (rm h f len (at') rl rg z1 z2 z3 z4 z5 z6 tm (td') y1 y2 y3 y4 y5 y6))) w_1129 w_1131 ps_139 ⟨lk_139.1, lk_139.2.1, lk_139.2.2, by decide, by decide⟩ rfl (rm_g66 hH) rfl (by simp [Value.category]) dd_138_2 (hrn) ?_
  show am_Good mi_138 5 [some (.ref 66)] [.retAddr 1] (rm h f len (at') rl rg z1 z2 z3 z4 z5 z6 tm (td') y1 y2 y3 y4 y5 y6) _
  refine g_if_eq_f (t := 19) dd_138_5 (by decide) (by decide) ?_
  refine g_aload_n (i := 0) dd_138_8 rfl ?_
  refine g_iconst dd_138_9 ic_0 ?_
  refine g_iconst dd_138_10 ic_1 ?_
  refine g_bipush dd_138_11 bi_60 ?_
  by_cases hw0 : 1 ≤ am_ag (td') 0 ∧ am_ag (td') 0 ≤ 60
  · refine g_virtual (M' := mi_141) (n := 3) (ci := 12) (b := 66) (as := [.retAddr 0, .retAddr 1, .retAddr 60]) (st := []) (r1 := (some (.retAddr 1), (rm h f len (at') rl rg z1 z2 z3 z4 z5 z6 tm (td') y1 y2 y3 y4 y5 y6))) w_1136 w_1138 ps_141 ⟨lk_141.1, lk_141.2.1, lk_141.2.2, by decide, by decide⟩ rfl (rm_g66 hH) rfl (by simp [Value.category]) dd_138_13 (m_tw1 hH h5 (by decide) (by decide) (by omega) hw0) ?_
    show am_Good mi_138 16 [some (.ref 66)] [.retAddr 1] (rm h f len (at') rl rg z1 z2 z3 z4 z5 z6 tm (td') y1 y2 y3 y4 y5 y6) _
    refine g_if_ne_t (t := 21) dd_138_16 (by decide) (by decide) ?_
    exfalso
    omega
  · refine g_virtual (M' := mi_141) (n := 3) (ci := 12) (b := 66) (as := [.retAddr 0, .retAddr 1, .retAddr 60]) (st := []) (r1 := (some (.retAddr 0), (rm h f len (at') rl rg z1 z2 z3 z4 z5 z6 tm (td') y1 y2 y3 y4 y5 y6))) w_1136 w_1138 ps_141 ⟨lk_141.1, lk_141.2.1, lk_141.2.2, by decide, by decide⟩ rfl (rm_g66 hH) rfl (by simp [Value.category]) dd_138_13 (m_tw0 hH h5 (by decide) (by decide) (by omega) hw0) ?_
    show am_Good mi_138 16 [some (.ref 66)] [.retAddr 0] (rm h f len (at') rl rg z1 z2 z3 z4 z5 z6 tm (td') y1 y2 y3 y4 y5 y6) _
    refine g_if_ne_f (t := 21) dd_138_16 (by decide) (by decide) ?_
    refine g_iconst dd_138_19 ic_0 ?_
    exact g_zreturn rfl (by first | decide | omega) dd_138_20
theorem m_i103_n {h : am_H} {f : Nat → Value} {len at_ rl rg z1 z2 z3 z4 z5 z6 tm td y1 y2 y3 y4 y5 y6 : Nat} (hH : rm_ok h) {at' td' : Nat} (hrn : am_EG mi_139 [.ref 66, .retAddr 1] (rm h f len at_ rl rg z1 z2 z3 z4 z5 z6 tm td y1 y2 y3 y4 y5 y6) (some (.retAddr 0), (rm h f len (at') rl rg z1 z2 z3 z4 z5 z6 tm (td') y1 y2 y3 y4 y5 y6))) (h5 : ∀ j, j < 5 → am_ag td' j ≤ 99) (hz1 : z1 ≤ 4) (hz2 : z2 ≤ 9) (hz3 : z3 ≤ 6) (hz4 : z4 ≤ 4) (hz5 : z5 ≤ 6) (hz6 : z6 ≤ 4) : am_EG mi_148 [.ref 66] (rm h f len at_ rl rg z1 z2 z3 z4 z5 z6 tm td y1 y2 y3 y4 y5 y6) (some (.retAddr 0), (rm h f len (at') rl rg z1 z2 z3 z4 z5 z6 tm (td') y1 y2 y3 y4 y5 y6)) := by
  refine am_enter (n := 0) tk_148.2.1 (by simp [Value.category]) (Nat.le_of_ble_eq_true rfl) ?_
  show am_Good mi_148 0 [some (.ref 66)] [] (rm h f len at_ rl rg z1 z2 z3 z4 z5 z6 tm td y1 y2 y3 y4 y5 y6) _
  refine g_aload_n (i := 0) dd_148_0 rfl ?_
  refine g_iconst dd_148_1 ic_1 ?_
  refine g_virtual (M' := mi_139) (n := 1) (ci := 12) (b := 66) (as := [.retAddr 1]) (st := []) (r1 := (some (.retAddr 0), (rm h f len (at') rl rg z1 z2 z3 z4 z5 z6 tm (td') y1 y2 y3 y4 y5 y6))) w_1129 w_1131 ps_139 ⟨lk_139.1, lk_139.2.1, lk_139.2.2, by decide, by decide⟩ rfl (rm_g66 hH) rfl (by simp [Value.category]) dd_148_2 (hrn) ?_
  show am_Good mi_148 5 [some (.ref 66)] [.retAddr 0] (rm h f len (at') rl rg z1 z2 z3 z4 z5 z6 tm (td') y1 y2 y3 y4 y5 y6) _
  refine g_if_eq_t (t := 18) dd_148_5 (by decide) (by decide) ?_
  refine g_iconst dd_148_18 ic_0 ?_
  exact g_zreturn rfl (by first | decide | omega) dd_148_19
theorem m_i103_1 {h : am_H} {f : Nat → Value} {len at_ rl rg z1 z2 z3 z4 z5 z6 tm td y1 y2 y3 y4 y5 y6 : Nat} (hH : rm_ok h) {at' td' : Nat} (hrn : am_EG mi_139 [.ref 66, .retAddr 1] (rm h f len at_ rl rg z1 z2 z3 z4 z5 z6 tm td y1 y2 y3 y4 y5 y6) (some (.retAddr 1), (rm h f len (at') rl rg z1 z2 z3 z4 z5 z6 tm (td') y1 y2 y3 y4 y5 y6))) (h5 : ∀ j, j < 5 → am_ag td' j ≤ 99) (hz1 : z1 ≤ 4) (hz2 : z2 ≤ 9) (hz3 : z3 ≤ 6) (hz4 : z4 ≤ 4) (hz5 : z5 ≤ 6) (hz6 : z6 ≤ 4) (hc : am_ag td' 0 ≤ 3) : am_EG mi_148 [.ref 66] (rm h f len at_ rl rg z1 z2 z3 z4 z5 z6 tm td y1 y2 y3 y4 y5 y6) (some (.retAddr 1), (rm h f len (at') rl (am_ag (td') 0) z1 z2 z3 z4 z5 z6 tm (td') y1 y2 y3 y4 y5 y6)) := by
  refine am_enter (n := 0) tk_148.2.1 (by simp [Value.category]) (Nat.le_of_ble_eq_true rfl) ?_
  show am_Good mi_148 0 [some (.ref 66)] [] (rm h f len at_ rl rg z1 z2 z3 z4 z5 z6 tm td y1 y2 y3 y4 y5 y6) _
  have hb0 := h5 0 (by decide)
  have hb1 := h5 1 (by decide)
  have hb2 := h5 2 (by decide)
  have hb3 := h5 3 (by decide)
  have hb4 := h5 4 (by decide)
  refine g_aload_n (i := 0) dd_148_0 rfl ?_
  refine g_iconst dd_148_1 ic_1 ?_
  refine g_virtual (M' := mi_139) (n := 1) (ci := 12) (b := 66) (as := [.retAddr 1]) (st := []) (r1 := (some (.retAddr 1), (rm h f len (at') rl rg z1 z2 z3 z4 z5 z6 tm (td') y1 y2 y3 y4 y5 y6))) w_1129 w_1131 ps_139 ⟨lk_139.1, lk_139.2.1, lk_139.2.2, by decide, by decide⟩ rfl (rm_g66 hH) rfl (by simp [Value.category]) dd_148_2 (hrn) ?_
  show am_Good mi_148 5 [some (.ref 66)] [.retAddr 1] (rm h f len (at') rl rg z1 z2 z3 z4 z5 z6 tm (td') y1 y2 y3 y4 y5 y6) _
  refine g_if_eq_f (t := 18) dd_148_5 (by decide) (by decide) ?_
  refine g_aload_n (i := 0) dd_148_8 rfl ?_
  refine g_iconst dd_148_9 ic_0 ?_
  refine g_iconst dd_148_10 ic_0 ?_
  refine g_iconst dd_148_11 ic_3 ?_
  refine g_virtual (M' := mi_141) (n := 3) (ci := 12) (b := 66) (as := [.retAddr 0, .retAddr 0, .retAddr 3]) (st := []) (r1 := (some (.retAddr 1), (rm h f len (at') rl rg z1 z2 z3 z4 z5 z6 tm (td') y1 y2 y3 y4 y5 y6))) w_1136 w_1138 ps_141 ⟨lk_141.1, lk_141.2.1, lk_141.2.2, by decide, by decide⟩ rfl (rm_g66 hH) rfl (by simp [Value.category]) dd_148_12 (m_tw1 hH h5 (by decide) (by decide) (by omega) (by omega)) ?_
  show am_Good mi_148 15 [some (.ref 66)] [.retAddr 1] (rm h f len (at') rl rg z1 z2 z3 z4 z5 z6 tm (td') y1 y2 y3 y4 y5 y6) _
  refine g_if_ne_t (t := 20) dd_148_15 (by decide) (by decide) ?_
  refine g_aload_n (i := 0) dd_148_20 rfl ?_
  refine g_aload_n (i := 0) dd_148_21 rfl ?_
  refine g_getfield (k := 17) am_ck12 (by decide) (Or.inl w_952) dd_148_22 (rm_g66 hH) rfl ?_
  refine g_iconst dd_148_25 ic_0 ?_
  refine g_iaload dd_148_26 (rm_g74 hH) (by omega) (by decide) ?_
  have hl_1 := am_ag_lt (td') 0
  refine g_putfield (k := 19) am_ck12 (by decide) (Or.inl w_954) (Or.inl rfl) dd_148_27 (rm_g66 hH) (Nat.le_of_ble_eq_true rfl) trivial ?_
  refine am_heq (rm_u66 hH) ?_
  show am_Good mi_148 30 [some (.ref 66)] [] (rm h f len (at') rl (am_ag (td') 0) z1 z2 z3 z4 z5 z6 tm (td') y1 y2 y3 y4 y5 y6) _
  refine g_iconst dd_148_30 ic_1 ?_
  exact g_zreturn rfl (by first | decide | omega) dd_148_31
theorem m_i103_0 {h : am_H} {f : Nat → Value} {len at_ rl rg z1 z2 z3 z4 z5 z6 tm td y1 y2 y3 y4 y5 y6 : Nat} (hH : rm_ok h) {at' td' : Nat} (hrn : am_EG mi_139 [.ref 66, .retAddr 1] (rm h f len at_ rl rg z1 z2 z3 z4 z5 z6 tm td y1 y2 y3 y4 y5 y6) (some (.retAddr 1), (rm h f len (at') rl rg z1 z2 z3 z4 z5 z6 tm (td') y1 y2 y3 y4 y5 y6))) (h5 : ∀ j, j < 5 → am_ag td' j ≤ 99) (hz1 : z1 ≤ 4) (hz2 : z2 ≤ 9) (hz3 : z3 ≤ 6) (hz4 : z4 ≤ 4) (hz5 : z5 ≤ 6) (hz6 : z6 ≤ 4) (hc : ¬ (am_ag td' 0 ≤ 3)) : am_EG mi_148 [.ref 66] (rm h f len at_ rl rg z1 z2 z3 z4 z5 z6 tm td y1 y2 y3 y4 y5 y6) (some (.retAddr 0), (rm h f len (at') rl rg z1 z2 z3 z4 z5 z6 tm (td') y1 y2 y3 y4 y5 y6)) := by
  refine am_enter (n := 0) tk_148.2.1 (by simp [Value.category]) (Nat.le_of_ble_eq_true rfl) ?_
  show am_Good mi_148 0 [some (.ref 66)] [] (rm h f len at_ rl rg z1 z2 z3 z4 z5 z6 tm td y1 y2 y3 y4 y5 y6) _
  have hb0 := h5 0 (by decide)
  have hb1 := h5 1 (by decide)
  have hb2 := h5 2 (by decide)
  have hb3 := h5 3 (by decide)
  have hb4 := h5 4 (by decide)
  refine g_aload_n (i := 0) dd_148_0 rfl ?_
  refine g_iconst dd_148_1 ic_1 ?_
  refine g_virtual (M' := mi_139) (n := 1) (ci := 12) (b := 66) (as := [.retAddr 1]) (st := []) (r1 := (some (.retAddr 1), (rm h f len (at') rl rg z1 z2 z3 z4 z5 z6 tm (td') y1 y2 y3 y4 y5 y6))) w_1129 w_1131 ps_139 ⟨lk_139.1, lk_139.2.1, lk_139.2.2, by decide, by decide⟩ rfl (rm_g66 hH) rfl (by simp [Value.category]) dd_148_2 (hrn) ?_
  show am_Good mi_148 5 [some (.ref 66)] [.retAddr 1] (rm h f len (at') rl rg z1 z2 z3 z4 z5 z6 tm (td') y1 y2 y3 y4 y5 y6) _
  refine g_if_eq_f (t := 18) dd_148_5 (by decide) (by decide) ?_
  refine g_aload_n (i := 0) dd_148_8 rfl ?_
  refine g_iconst dd_148_9 ic_0 ?_
  refine g_iconst dd_148_10 ic_0 ?_
  refine g_iconst dd_148_11 ic_3 ?_
  by_cases hw0 : 0 ≤ am_ag (td') 0 ∧ am_ag (td') 0 ≤ 3
  · refine g_virtual (M' := mi_141) (n := 3) (ci := 12) (b := 66) (as := [.retAddr 0, .retAddr 0, .retAddr 3]) (st := []) (r1 := (some (.retAddr 1), (rm h f len (at') rl rg z1 z2 z3 z4 z5 z6 tm (td') y1 y2 y3 y4 y5 y6))) w_1136 w_1138 ps_141 ⟨lk_141.1, lk_141.2.1, lk_141.2.2, by decide, by decide⟩ rfl (rm_g66 hH) rfl (by simp [Value.category]) dd_148_12 (m_tw1 hH h5 (by decide) (by decide) (by omega) hw0) ?_
    show am_Good mi_148 15 [some (.ref 66)] [.retAddr 1] (rm h f len (at') rl rg z1 z2 z3 z4 z5 z6 tm (td') y1 y2 y3 y4 y5 y6) _
    refine g_if_ne_t (t := 20) dd_148_15 (by decide) (by decide) ?_
    exfalso
    omega
  · refine g_virtual (M' := mi_141) (n := 3) (ci := 12) (b := 66) (as := [.retAddr 0, .retAddr 0, .retAddr 3]) (st := []) (r1 := (some (.retAddr 0), (rm h f len (at') rl rg z1 z2 z3 z4 z5 z6 tm (td') y1 y2 y3 y4 y5 y6))) w_1136 w_1138 ps_141 ⟨lk_141.1, lk_141.2.1, lk_141.2.2, by decide, by decide⟩ rfl (rm_g66 hH) rfl (by simp [Value.category]) dd_148_12 (m_tw0 hH h5 (by decide) (by decide) (by omega) hw0) ?_
    show am_Good mi_148 15 [some (.ref 66)] [.retAddr 0] (rm h f len (at') rl rg z1 z2 z3 z4 z5 z6 tm (td') y1 y2 y3 y4 y5 y6) _
    refine g_if_ne_f (t := 20) dd_148_15 (by decide) (by decide) ?_
    refine g_iconst dd_148_18 ic_0 ?_
    exact g_zreturn rfl (by first | decide | omega) dd_148_19
theorem m_i115_f {h : am_H} {f : Nat → Value} {len at_ rl rg z1 z2 z3 z4 z5 z6 tm td y1 y2 y3 y4 y5 y6 : Nat} (hH : rm_ok h) (hf : z1 = 4) : am_EG mi_142 [.ref 66] (rm h f len at_ rl rg z1 z2 z3 z4 z5 z6 tm td y1 y2 y3 y4 y5 y6) (some (.retAddr 0), (rm h f len at_ rl rg z1 z2 z3 z4 z5 z6 tm td y1 y2 y3 y4 y5 y6)) := by
  refine am_enter (n := 0) tk_142.2.1 (by simp [Value.category]) (Nat.le_of_ble_eq_true rfl) ?_
  show am_Good mi_142 0 [some (.ref 66)] [] (rm h f len at_ rl rg z1 z2 z3 z4 z5 z6 tm td y1 y2 y3 y4 y5 y6) _
  refine g_aload_n (i := 0) dd_142_0 rfl ?_
  refine g_getfield (k := 20) am_ck12 (by decide) (Or.inl w_955) dd_142_1 (rm_g66 hH) rfl ?_
  refine g_iconst dd_142_4 ic_4 ?_
  refine g_icmp_eq_t (t := 27) dd_142_5 (by decide) (tk_eq_t (by omega)) ?_
  refine g_iconst dd_142_27 ic_0 ?_
  exact g_zreturn rfl (by first | decide | omega) dd_142_28
theorem m_i115_n {h : am_H} {f : Nat → Value} {len at_ rl rg z1 z2 z3 z4 z5 z6 tm td y1 y2 y3 y4 y5 y6 : Nat} (hH : rm_ok h) {at' td' : Nat} (hrn : am_EG mi_139 [.ref 66, .retAddr 1] (rm h f len at_ rl rg z1 z2 z3 z4 z5 z6 tm td y1 y2 y3 y4 y5 y6) (some (.retAddr 0), (rm h f len (at') rl rg z1 z2 z3 z4 z5 z6 tm (td') y1 y2 y3 y4 y5 y6))) (h5 : ∀ j, j < 5 → am_ag td' j ≤ 99) (hz1 : z1 ≤ 4) (hz2 : z2 ≤ 9) (hz3 : z3 ≤ 6) (hz4 : z4 ≤ 4) (hz5 : z5 ≤ 6) (hz6 : z6 ≤ 4) (hf : z1 < 4) : am_EG mi_142 [.ref 66] (rm h f len at_ rl rg z1 z2 z3 z4 z5 z6 tm td y1 y2 y3 y4 y5 y6) (some (.retAddr 0), (rm h f len (at') rl rg z1 z2 z3 z4 z5 z6 tm (td') y1 y2 y3 y4 y5 y6)) := by
  refine am_enter (n := 0) tk_142.2.1 (by simp [Value.category]) (Nat.le_of_ble_eq_true rfl) ?_
  show am_Good mi_142 0 [some (.ref 66)] [] (rm h f len at_ rl rg z1 z2 z3 z4 z5 z6 tm td y1 y2 y3 y4 y5 y6) _
  refine g_aload_n (i := 0) dd_142_0 rfl ?_
  refine g_getfield (k := 20) am_ck12 (by decide) (Or.inl w_955) dd_142_1 (rm_g66 hH) rfl ?_
  refine g_iconst dd_142_4 ic_4 ?_
  refine g_icmp_eq_f (t := 27) dd_142_5 (by decide) (tk_eq_f (by omega)) ?_
  refine g_aload_n (i := 0) dd_142_8 rfl ?_
  refine g_iconst dd_142_9 ic_1 ?_
  refine g_virtual (M' := mi_139) (n := 1) (ci := 12) (b := 66) (as := [.retAddr 1]) (st := []) (r1 := (some (.retAddr 0), (rm h f len (at') rl rg z1 z2 z3 z4 z5 z6 tm (td') y1 y2 y3 y4 y5 y6))) w_1129 w_1131 ps_139 ⟨lk_139.1, lk_139.2.1, lk_139.2.2, by decide, by decide⟩ rfl (rm_g66 hH) rfl (by simp [Value.category]) dd_142_10 (hrn) ?_
  show am_Good mi_142 13 [some (.ref 66)] [.retAddr 0] (rm h f len (at') rl rg z1 z2 z3 z4 z5 z6 tm (td') y1 y2 y3 y4 y5 y6) _
  refine g_if_eq_t (t := 27) dd_142_13 (by decide) (by decide) ?_
  refine g_iconst dd_142_27 ic_0 ?_
  exact g_zreturn rfl (by first | decide | omega) dd_142_28
theorem m_i115_1 {h : am_H} {f : Nat → Value} {len at_ rl rg z1 z2 z3 z4 z5 z6 tm td y1 y2 y3 y4 y5 y6 : Nat} (hH : rm_ok h) {at' td' : Nat} (hrn : am_EG mi_139 [.ref 66, .retAddr 1] (rm h f len at_ rl rg z1 z2 z3 z4 z5 z6 tm td y1 y2 y3 y4 y5 y6) (some (.retAddr 1), (rm h f len (at') rl rg z1 z2 z3 z4 z5 z6 tm (td') y1 y2 y3 y4 y5 y6))) (h5 : ∀ j, j < 5 → am_ag td' j ≤ 99) (hz1 : z1 ≤ 4) (hz2 : z2 ≤ 9) (hz3 : z3 ≤ 6) (hz4 : z4 ≤ 4) (hz5 : z5 ≤ 6) (hz6 : z6 ≤ 4) (hf : z1 < 4) (hc : am_ag td' 0 ≤ 9) : am_EG mi_142 [.ref 66] (rm h f len at_ rl rg z1 z2 z3 z4 z5 z6 tm td y1 y2 y3 y4 y5 y6) (some (.retAddr 1), (rm h f len (at') rl rg (z1 + 1) z2 z3 z4 z5 z6 tm (td') (am_as y1 z1 (am_ag (td') 0)) y2 y3 y4 y5 y6)) := by
  refine am_enter (n := 0) tk_142.2.1 (by simp [Value.category]) (Nat.le_of_ble_eq_true rfl) ?_
  show am_Good mi_142 0 [some (.ref 66)] [] (rm h f len at_ rl rg z1 z2 z3 z4 z5 z6 tm td y1 y2 y3 y4 y5 y6) _
  have hb0 := h5 0 (by decide)
  have hb1 := h5 1 (by decide)
  have hb2 := h5 2 (by decide)
  have hb3 := h5 3 (by decide)
  have hb4 := h5 4 (by decide)
  refine g_aload_n (i := 0) dd_142_0 rfl ?_
  refine g_getfield (k := 20) am_ck12 (by decide) (Or.inl w_955) dd_142_1 (rm_g66 hH) rfl ?_
  refine g_iconst dd_142_4 ic_4 ?_
  refine g_icmp_eq_f (t := 27) dd_142_5 (by decide) (tk_eq_f (by omega)) ?_
  refine g_aload_n (i := 0) dd_142_8 rfl ?_
  refine g_iconst dd_142_9 ic_1 ?_
  refine g_virtual (M' := mi_139) (n := 1) (ci := 12) (b := 66) (as := [.retAddr 1]) (st := []) (r1 := (some (.retAddr 1), (rm h f len (at') rl rg z1 z2 z3 z4 z5 z6 tm (td') y1 y2 y3 y4 y5 y6))) w_1129 w_1131 ps_139 ⟨lk_139.1, lk_139.2.1, lk_139.2.2, by decide, by decide⟩ rfl (rm_g66 hH) rfl (by simp [Value.category]) dd_142_10 (hrn) ?_
  show am_Good mi_142 13 [some (.ref 66)] [.retAddr 1] (rm h f len (at') rl rg z1 z2 z3 z4 z5 z6 tm (td') y1 y2 y3 y4 y5 y6) _
  refine g_if_eq_f (t := 27) dd_142_13 (by decide) (by decide) ?_
  refine g_aload_n (i := 0) dd_142_16 rfl ?_
  refine g_iconst dd_142_17 ic_0 ?_
  refine g_iconst dd_142_18 ic_0 ?_
  refine g_bipush dd_142_19 bi_9 ?_
  refine g_virtual (M' := mi_141) (n := 3) (ci := 12) (b := 66) (as := [.retAddr 0, .retAddr 0, .retAddr 9]) (st := []) (r1 := (some (.retAddr 1), (rm h f len (at') rl rg z1 z2 z3 z4 z5 z6 tm (td') y1 y2 y3 y4 y5 y6))) w_1136 w_1138 ps_141 ⟨lk_141.1, lk_141.2.1, lk_141.2.2, by decide, by decide⟩ rfl (rm_g66 hH) rfl (by simp [Value.category]) dd_142_21 (m_tw1 hH h5 (by decide) (by decide) (by omega) (by omega)) ?_
  show am_Good mi_142 24 [some (.ref 66)] [.retAddr 1] (rm h f len (at') rl rg z1 z2 z3 z4 z5 z6 tm (td') y1 y2 y3 y4 y5 y6) _
  refine g_if_ne_t (t := 29) dd_142_24 (by decide) (by decide) ?_
  refine g_aload_n (i := 0) dd_142_29 rfl ?_
  refine g_getfield (k := 21) am_ck12 (by decide) (Or.inl w_956) dd_142_30 (rm_g66 hH) rfl ?_
  refine g_aload_n (i := 0) dd_142_33 rfl ?_
  refine g_getfield (k := 20) am_ck12 (by decide) (Or.inl w_955) dd_142_34 (rm_g66 hH) rfl ?_
  refine g_aload_n (i := 0) dd_142_37 rfl ?_
  refine g_getfield (k := 17) am_ck12 (by decide) (Or.inl w_952) dd_142_38 (rm_g66 hH) rfl ?_
  refine g_iconst dd_142_41 ic_0 ?_
  refine g_iaload dd_142_42 (rm_g74 hH) (by omega) (by decide) ?_
  have hl_1 := am_ag_lt (td') 0
  refine g_iastore dd_142_43 (rm_g75 hH) (by omega) (by decide) ?_
  refine am_heq (rm_u75 hH) ?_
  show am_Good mi_142 44 [some (.ref 66)] [] (rm h f len (at') rl rg z1 z2 z3 z4 z5 z6 tm (td') (am_as y1 z1 (am_ag (td') 0)) y2 y3 y4 y5 y6) _
  refine g_aload_n (i := 0) dd_142_44 rfl ?_
  refine g_dup dd_142_45 rfl ?_
  refine g_getfield (k := 20) am_ck12 (by decide) (Or.inl w_955) dd_142_46 (rm_g66 hH) rfl ?_
  refine g_iconst dd_142_49 ic_1 ?_
  refine e_iadd (v := z1 + 1) dd_142_50 (by omega) ?_
  refine g_putfield (k := 20) am_ck12 (by decide) (Or.inl w_955) (Or.inl rfl) dd_142_51 (rm_g66 hH) (Nat.le_of_ble_eq_true rfl) trivial ?_
  refine am_heq (rm_u66 hH) ?_
  show am_Good mi_142 54 [some (.ref 66)] [] (rm h f len (at') rl rg (z1 + 1) z2 z3 z4 z5 z6 tm (td') (am_as y1 z1 (am_ag (td') 0)) y2 y3 y4 y5 y6) _
  refine g_iconst dd_142_54 ic_1 ?_
  exact g_zreturn rfl (by first | decide | omega) dd_142_55
theorem m_i115_0 {h : am_H} {f : Nat → Value} {len at_ rl rg z1 z2 z3 z4 z5 z6 tm td y1 y2 y3 y4 y5 y6 : Nat} (hH : rm_ok h) {at' td' : Nat} (hrn : am_EG mi_139 [.ref 66, .retAddr 1] (rm h f len at_ rl rg z1 z2 z3 z4 z5 z6 tm td y1 y2 y3 y4 y5 y6) (some (.retAddr 1), (rm h f len (at') rl rg z1 z2 z3 z4 z5 z6 tm (td') y1 y2 y3 y4 y5 y6))) (h5 : ∀ j, j < 5 → am_ag td' j ≤ 99) (hz1 : z1 ≤ 4) (hz2 : z2 ≤ 9) (hz3 : z3 ≤ 6) (hz4 : z4 ≤ 4) (hz5 : z5 ≤ 6) (hz6 : z6 ≤ 4) (hf : z1 < 4) (hc : ¬ (am_ag td' 0 ≤ 9)) : am_EG mi_142 [.ref 66] (rm h f len at_ rl rg z1 z2 z3 z4 z5 z6 tm td y1 y2 y3 y4 y5 y6) (some (.retAddr 0), (rm h f len (at') rl rg z1 z2 z3 z4 z5 z6 tm (td') y1 y2 y3 y4 y5 y6)) := by
  refine am_enter (n := 0) tk_142.2.1 (by simp [Value.category]) (Nat.le_of_ble_eq_true rfl) ?_
  show am_Good mi_142 0 [some (.ref 66)] [] (rm h f len at_ rl rg z1 z2 z3 z4 z5 z6 tm td y1 y2 y3 y4 y5 y6) _
  have hb0 := h5 0 (by decide)
  have hb1 := h5 1 (by decide)
  have hb2 := h5 2 (by decide)
  have hb3 := h5 3 (by decide)
  have hb4 := h5 4 (by decide)
  refine g_aload_n (i := 0) dd_142_0 rfl ?_
  refine g_getfield (k := 20) am_ck12 (by decide) (Or.inl w_955) dd_142_1 (rm_g66 hH) rfl ?_
  refine g_iconst dd_142_4 ic_4 ?_
  refine g_icmp_eq_f (t := 27) dd_142_5 (by decide) (tk_eq_f (by omega)) ?_
  refine g_aload_n (i := 0) dd_142_8 rfl ?_
  refine g_iconst dd_142_9 ic_1 ?_
  refine g_virtual (M' := mi_139) (n := 1) (ci := 12) (b := 66) (as := [.retAddr 1]) (st := []) (r1 := (some (.retAddr 1), (rm h f len (at') rl rg z1 z2 z3 z4 z5 z6 tm (td') y1 y2 y3 y4 y5 y6))) w_1129 w_1131 ps_139 ⟨lk_139.1, lk_139.2.1, lk_139.2.2, by decide, by decide⟩ rfl (rm_g66 hH) rfl (by simp [Value.category]) dd_142_10 (hrn) ?_
  show am_Good mi_142 13 [some (.ref 66)] [.retAddr 1] (rm h f len (at') rl rg z1 z2 z3 z4 z5 z6 tm (td') y1 y2 y3 y4 y5 y6) _
  refine g_if_eq_f (t := 27) dd_142_13 (by decide) (by decide) ?_
  refine g_aload_n (i := 0) dd_142_16 rfl ?_
  refine g_iconst dd_142_17 ic_0 ?_
  refine g_iconst dd_142_18 ic_0 ?_
  refine g_bipush dd_142_19 bi_9 ?_
  by_cases hw0 : 0 ≤ am_ag (td') 0 ∧ am_ag (td') 0 ≤ 9
  · refine g_virtual (M' := mi_141) (n := 3) (ci := 12) (b := 66) (as := [.retAddr 0, .retAddr 0, .retAddr 9]) (st := []) (r1 := (some (.retAddr 1), (rm h f len (at') rl rg z1 z2 z3 z4 z5 z6 tm (td') y1 y2 y3 y4 y5 y6))) w_1136 w_1138 ps_141 ⟨lk_141.1, lk_141.2.1, lk_141.2.2, by decide, by decide⟩ rfl (rm_g66 hH) rfl (by simp [Value.category]) dd_142_21 (m_tw1 hH h5 (by decide) (by decide) (by omega) hw0) ?_
    show am_Good mi_142 24 [some (.ref 66)] [.retAddr 1] (rm h f len (at') rl rg z1 z2 z3 z4 z5 z6 tm (td') y1 y2 y3 y4 y5 y6) _
    refine g_if_ne_t (t := 29) dd_142_24 (by decide) (by decide) ?_
    exfalso
    omega
  · refine g_virtual (M' := mi_141) (n := 3) (ci := 12) (b := 66) (as := [.retAddr 0, .retAddr 0, .retAddr 9]) (st := []) (r1 := (some (.retAddr 0), (rm h f len (at') rl rg z1 z2 z3 z4 z5 z6 tm (td') y1 y2 y3 y4 y5 y6))) w_1136 w_1138 ps_141 ⟨lk_141.1, lk_141.2.1, lk_141.2.2, by decide, by decide⟩ rfl (rm_g66 hH) rfl (by simp [Value.category]) dd_142_21 (m_tw0 hH h5 (by decide) (by decide) (by omega) hw0) ?_
    show am_Good mi_142 24 [some (.ref 66)] [.retAddr 0] (rm h f len (at') rl rg z1 z2 z3 z4 z5 z6 tm (td') y1 y2 y3 y4 y5 y6) _
    refine g_if_ne_f (t := 29) dd_142_24 (by decide) (by decide) ?_
    refine g_iconst dd_142_27 ic_0 ?_
    exact g_zreturn rfl (by first | decide | omega) dd_142_28
theorem m_i109_f {h : am_H} {f : Nat → Value} {len at_ rl rg z1 z2 z3 z4 z5 z6 tm td y1 y2 y3 y4 y5 y6 : Nat} (hH : rm_ok h) (hf : z2 = 9) : am_EG mi_143 [.ref 66] (rm h f len at_ rl rg z1 z2 z3 z4 z5 z6 tm td y1 y2 y3 y4 y5 y6) (some (.retAddr 0), (rm h f len at_ rl rg z1 z2 z3 z4 z5 z6 tm td y1 y2 y3 y4 y5 y6)) := by
  refine am_enter (n := 0) tk_143.2.1 (by simp [Value.category]) (Nat.le_of_ble_eq_true rfl) ?_
  show am_Good mi_143 0 [some (.ref 66)] [] (rm h f len at_ rl rg z1 z2 z3 z4 z5 z6 tm td y1 y2 y3 y4 y5 y6) _
  refine g_aload_n (i := 0) dd_143_0 rfl ?_
  refine g_getfield (k := 22) am_ck12 (by decide) (Or.inl w_957) dd_143_1 (rm_g66 hH) rfl ?_
  refine g_bipush dd_143_4 bi_9 ?_
  refine g_icmp_eq_t (t := 46) dd_143_6 (by decide) (tk_eq_t (by omega)) ?_
  refine g_iconst dd_143_46 ic_0 ?_
  exact g_zreturn rfl (by first | decide | omega) dd_143_47
theorem m_i109_n {h : am_H} {f : Nat → Value} {len at_ rl rg z1 z2 z3 z4 z5 z6 tm td y1 y2 y3 y4 y5 y6 : Nat} (hH : rm_ok h) {at' td' : Nat} (hrn : am_EG mi_139 [.ref 66, .retAddr 5] (rm h f len at_ rl rg z1 z2 z3 z4 z5 z6 tm td y1 y2 y3 y4 y5 y6) (some (.retAddr 0), (rm h f len (at') rl rg z1 z2 z3 z4 z5 z6 tm (td') y1 y2 y3 y4 y5 y6))) (h5 : ∀ j, j < 5 → am_ag td' j ≤ 99) (hz1 : z1 ≤ 4) (hz2 : z2 ≤ 9) (hz3 : z3 ≤ 6) (hz4 : z4 ≤ 4) (hz5 : z5 ≤ 6) (hz6 : z6 ≤ 4) (hf : z2 < 9) : am_EG mi_143 [.ref 66] (rm h f len at_ rl rg z1 z2 z3 z4 z5 z6 tm td y1 y2 y3 y4 y5 y6) (some (.retAddr 0), (rm h f len (at') rl rg z1 z2 z3 z4 z5 z6 tm (td') y1 y2 y3 y4 y5 y6)) := by
  refine am_enter (n := 0) tk_143.2.1 (by simp [Value.category]) (Nat.le_of_ble_eq_true rfl) ?_
  show am_Good mi_143 0 [some (.ref 66)] [] (rm h f len at_ rl rg z1 z2 z3 z4 z5 z6 tm td y1 y2 y3 y4 y5 y6) _
  refine g_aload_n (i := 0) dd_143_0 rfl ?_
  refine g_getfield (k := 22) am_ck12 (by decide) (Or.inl w_957) dd_143_1 (rm_g66 hH) rfl ?_
  refine g_bipush dd_143_4 bi_9 ?_
  refine g_icmp_eq_f (t := 46) dd_143_6 (by decide) (tk_eq_f (by omega)) ?_
  refine g_aload_n (i := 0) dd_143_9 rfl ?_
  refine g_iconst dd_143_10 ic_5 ?_
  refine g_virtual (M' := mi_139) (n := 1) (ci := 12) (b := 66) (as := [.retAddr 5]) (st := []) (r1 := (some (.retAddr 0), (rm h f len (at') rl rg z1 z2 z3 z4 z5 z6 tm (td') y1 y2 y3 y4 y5 y6))) w_1129 w_1131 ps_139 ⟨lk_139.1, lk_139.2.1, lk_139.2.2, by decide, by decide⟩ rfl (rm_g66 hH) rfl (by simp [Value.category]) dd_143_11 (hrn) ?_
  show am_Good mi_143 14 [some (.ref 66)] [.retAddr 0] (rm h f len (at') rl rg z1 z2 z3 z4 z5 z6 tm (td') y1 y2 y3 y4 y5 y6) _
  refine g_if_eq_t (t := 46) dd_143_14 (by decide) (by decide) ?_
  refine g_iconst dd_143_46 ic_0 ?_
  exact g_zreturn rfl (by first | decide | omega) dd_143_47
theorem m_i109_1 {h : am_H} {f : Nat → Value} {len at_ rl rg z1 z2 z3 z4 z5 z6 tm td y1 y2 y3 y4 y5 y6 : Nat} (hH : rm_ok h) {at' td' : Nat} (hrn : am_EG mi_139 [.ref 66, .retAddr 5] (rm h f len at_ rl rg z1 z2 z3 z4 z5 z6 tm td y1 y2 y3 y4 y5 y6) (some (.retAddr 1), (rm h f len (at') rl rg z1 z2 z3 z4 z5 z6 tm (td') y1 y2 y3 y4 y5 y6))) (h5 : ∀ j, j < 5 → am_ag td' j ≤ 99) (hz1 : z1 ≤ 4) (hz2 : z2 ≤ 9) (hz3 : z3 ≤ 6) (hz4 : z4 ≤ 4) (hz5 : z5 ≤ 6) (hz6 : z6 ≤ 4) (hf : z2 < 9) (hc : (am_ag td' 0 < z1 ∧ am_ag td' 1 ≤ 59 ∧ am_ag td' 2 ≤ 59 ∧ am_ag td' 1 ≤ am_ag td' 2) ∧ am_ag td' 3 ≤ 9 ∧ am_ag td' 4 ≤ 8) : am_EG mi_143 [.ref 66] (rm h f len at_ rl rg z1 z2 z3 z4 z5 z6 tm td y1 y2 y3 y4 y5 y6) (some (.retAddr 1), (rm h f len (at') rl rg z1 (z2 + 1) z3 z4 z5 z6 tm (td') y1 (am_as (am_as (am_as (am_as (am_as y2 (5 * z2) (am_ag (td') 0)) (5 * z2 + 1) (am_ag (td') 1)) (5 * z2 + 2) (am_ag (td') 2)) (5 * z2 + 3) (am_ag (td') 3)) (5 * z2 + 4) (am_ag (td') 4)) y3 y4 y5 y6)) := by
  refine am_enter (n := 0) tk_143.2.1 (by simp [Value.category]) (Nat.le_of_ble_eq_true rfl) ?_
  show am_Good mi_143 0 [some (.ref 66)] [] (rm h f len at_ rl rg z1 z2 z3 z4 z5 z6 tm td y1 y2 y3 y4 y5 y6) _
  have hb0 := h5 0 (by decide)
  have hb1 := h5 1 (by decide)
  have hb2 := h5 2 (by decide)
  have hb3 := h5 3 (by decide)
  have hb4 := h5 4 (by decide)
  refine g_aload_n (i := 0) dd_143_0 rfl ?_
  refine g_getfield (k := 22) am_ck12 (by decide) (Or.inl w_957) dd_143_1 (rm_g66 hH) rfl ?_
  refine g_bipush dd_143_4 bi_9 ?_
  refine g_icmp_eq_f (t := 46) dd_143_6 (by decide) (tk_eq_f (by omega)) ?_
  refine g_aload_n (i := 0) dd_143_9 rfl ?_
  refine g_iconst dd_143_10 ic_5 ?_
  refine g_virtual (M' := mi_139) (n := 1) (ci := 12) (b := 66) (as := [.retAddr 5]) (st := []) (r1 := (some (.retAddr 1), (rm h f len (at') rl rg z1 z2 z3 z4 z5 z6 tm (td') y1 y2 y3 y4 y5 y6))) w_1129 w_1131 ps_139 ⟨lk_139.1, lk_139.2.1, lk_139.2.2, by decide, by decide⟩ rfl (rm_g66 hH) rfl (by simp [Value.category]) dd_143_11 (hrn) ?_
  show am_Good mi_143 14 [some (.ref 66)] [.retAddr 1] (rm h f len (at') rl rg z1 z2 z3 z4 z5 z6 tm (td') y1 y2 y3 y4 y5 y6) _
  refine g_if_eq_f (t := 46) dd_143_14 (by decide) (by decide) ?_
  refine g_aload_n (i := 0) dd_143_17 rfl ?_
  refine g_virtual (M' := mi_144) (n := 0) (ci := 12) (b := 66) (as := []) (st := []) (r1 := (some (.retAddr 1), (rm h f len (at') rl rg z1 z2 z3 z4 z5 z6 tm (td') y1 y2 y3 y4 y5 y6))) w_1148 w_1150 ps_144 ⟨lk_144.1, lk_144.2.1, lk_144.2.2, by decide, by decide⟩ rfl (rm_g66 hH) rfl (by simp [Value.category]) dd_143_18 (m_sp1 hH h5 hz1 (by omega)) ?_
  show am_Good mi_143 21 [some (.ref 66)] [.retAddr 1] (rm h f len (at') rl rg z1 z2 z3 z4 z5 z6 tm (td') y1 y2 y3 y4 y5 y6) _
  refine g_if_eq_f (t := 46) dd_143_21 (by decide) (by decide) ?_
  refine g_aload_n (i := 0) dd_143_24 rfl ?_
  refine g_iconst dd_143_25 ic_3 ?_
  refine g_iconst dd_143_26 ic_0 ?_
  refine g_bipush dd_143_27 bi_9 ?_
  refine g_virtual (M' := mi_141) (n := 3) (ci := 12) (b := 66) (as := [.retAddr 3, .retAddr 0, .retAddr 9]) (st := []) (r1 := (some (.retAddr 1), (rm h f len (at') rl rg z1 z2 z3 z4 z5 z6 tm (td') y1 y2 y3 y4 y5 y6))) w_1136 w_1138 ps_141 ⟨lk_141.1, lk_141.2.1, lk_141.2.2, by decide, by decide⟩ rfl (rm_g66 hH) rfl (by simp [Value.category]) dd_143_29 (m_tw1 hH h5 (by decide) (by decide) (by omega) (by omega)) ?_
  show am_Good mi_143 32 [some (.ref 66)] [.retAddr 1] (rm h f len (at') rl rg z1 z2 z3 z4 z5 z6 tm (td') y1 y2 y3 y4 y5 y6) _
  refine g_if_eq_f (t := 46) dd_143_32 (by decide) (by decide) ?_
  refine g_aload_n (i := 0) dd_143_35 rfl ?_
  refine g_iconst dd_143_36 ic_4 ?_
  refine g_iconst dd_143_37 ic_0 ?_
  refine g_bipush dd_143_38 bi_8 ?_
  refine g_virtual (M' := mi_141) (n := 3) (ci := 12) (b := 66) (as := [.retAddr 4, .retAddr 0, .retAddr 8]) (st := []) (r1 := (some (.retAddr 1), (rm h f len (at') rl rg z1 z2 z3 z4 z5 z6 tm (td') y1 y2 y3 y4 y5 y6))) w_1136 w_1138 ps_141 ⟨lk_141.1, lk_141.2.1, lk_141.2.2, by decide, by decide⟩ rfl (rm_g66 hH) rfl (by simp [Value.category]) dd_143_40 (m_tw1 hH h5 (by decide) (by decide) (by omega) (by omega)) ?_
  show am_Good mi_143 43 [some (.ref 66)] [.retAddr 1] (rm h f len (at') rl rg z1 z2 z3 z4 z5 z6 tm (td') y1 y2 y3 y4 y5 y6) _
  refine g_if_ne_t (t := 48) dd_143_43 (by decide) (by decide) ?_
  refine g_aload_n (i := 0) dd_143_48 rfl ?_
  refine g_getfield (k := 23) am_ck12 (by decide) (Or.inl w_958) dd_143_49 (rm_g66 hH) rfl ?_
  refine g_iconst dd_143_52 ic_5 ?_
  refine g_aload_n (i := 0) dd_143_53 rfl ?_
  refine g_getfield (k := 22) am_ck12 (by decide) (Or.inl w_957) dd_143_54 (rm_g66 hH) rfl ?_
  refine e_imul (v := 5 * z2) dd_143_57 (by omega) ?_
  refine g_aload_n (i := 0) dd_143_58 rfl ?_
  refine g_getfield (k := 17) am_ck12 (by decide) (Or.inl w_952) dd_143_59 (rm_g66 hH) rfl ?_
  refine g_iconst dd_143_62 ic_5 ?_
  refine g_static (M' := mi_145) (n := 4) (as := [.ref 76, .retAddr (5 * z2), .ref 74, .retAddr 5]) (st := []) (r1 := (none, (rm h f len (at') rl rg z1 z2 z3 z4 z5 z6 tm (td') y1 (am_as (am_as (am_as (am_as (am_as y2 (5 * z2) (am_ag (td') 0)) (5 * z2 + 1) (am_ag (td') 1)) (5 * z2 + 2) (am_ag (td') 2)) (5 * z2 + 3) (am_ag (td') 3)) (5 * z2 + 4) (am_ag (td') 4)) y3 y4 y5 y6))) w_1152 w_1153 ⟨lk_145.1, lk_145.2.1, lk_145.2.2, by decide, by decide⟩ rfl (by simp [Value.category]) dd_143_63 (m_put1 hH (by omega)) ?_
  show am_Good mi_143 66 [some (.ref 66)] [] (rm h f len (at') rl rg z1 z2 z3 z4 z5 z6 tm (td') y1 (am_as (am_as (am_as (am_as (am_as y2 (5 * z2) (am_ag (td') 0)) (5 * z2 + 1) (am_ag (td') 1)) (5 * z2 + 2) (am_ag (td') 2)) (5 * z2 + 3) (am_ag (td') 3)) (5 * z2 + 4) (am_ag (td') 4)) y3 y4 y5 y6) _
  refine g_aload_n (i := 0) dd_143_66 rfl ?_
  refine g_dup dd_143_67 rfl ?_
  refine g_getfield (k := 22) am_ck12 (by decide) (Or.inl w_957) dd_143_68 (rm_g66 hH) rfl ?_
  refine g_iconst dd_143_71 ic_1 ?_
  refine e_iadd (v := z2 + 1) dd_143_72 (by omega) ?_
  refine g_putfield (k := 22) am_ck12 (by decide) (Or.inl w_957) (Or.inl rfl) dd_143_73 (rm_g66 hH) (Nat.le_of_ble_eq_true rfl) trivial ?_
  refine am_heq (rm_u66 hH) ?_
  show am_Good mi_143 76 [some (.ref 66)] [] (rm h f len (at') rl rg z1 (z2 + 1) z3 z4 z5 z6 tm (td') y1 (am_as (am_as (am_as (am_as (am_as y2 (5 * z2) (am_ag (td') 0)) (5 * z2 + 1) (am_ag (td') 1)) (5 * z2 + 2) (am_ag (td') 2)) (5 * z2 + 3) (am_ag (td') 3)) (5 * z2 + 4) (am_ag (td') 4)) y3 y4 y5 y6) _
  refine g_iconst dd_143_76 ic_1 ?_
  exact g_zreturn rfl (by first | decide | omega) dd_143_77
theorem m_i109_0 {h : am_H} {f : Nat → Value} {len at_ rl rg z1 z2 z3 z4 z5 z6 tm td y1 y2 y3 y4 y5 y6 : Nat} (hH : rm_ok h) {at' td' : Nat} (hrn : am_EG mi_139 [.ref 66, .retAddr 5] (rm h f len at_ rl rg z1 z2 z3 z4 z5 z6 tm td y1 y2 y3 y4 y5 y6) (some (.retAddr 1), (rm h f len (at') rl rg z1 z2 z3 z4 z5 z6 tm (td') y1 y2 y3 y4 y5 y6))) (h5 : ∀ j, j < 5 → am_ag td' j ≤ 99) (hz1 : z1 ≤ 4) (hz2 : z2 ≤ 9) (hz3 : z3 ≤ 6) (hz4 : z4 ≤ 4) (hz5 : z5 ≤ 6) (hz6 : z6 ≤ 4) (hf : z2 < 9) (hc : ¬ ((am_ag td' 0 < z1 ∧ am_ag td' 1 ≤ 59 ∧ am_ag td' 2 ≤ 59 ∧ am_ag td' 1 ≤ am_ag td' 2) ∧ am_ag td' 3 ≤ 9 ∧ am_ag td' 4 ≤ 8)) : am_EG mi_143 [.ref 66] (rm h f len at_ rl rg z1 z2 z3 z4 z5 z6 tm td y1 y2 y3 y4 y5 y6) (some (.retAddr 0), (rm h f len (at') rl rg z1 z2 z3 z4 z5 z6 tm (td') y1 y2 y3 y4 y5 y6)) := by
  refine am_enter (n := 0) tk_143.2.1 (by simp [Value.category]) (Nat.le_of_ble_eq_true rfl) ?_
  show am_Good mi_143 0 [some (.ref 66)] [] (rm h f len at_ rl rg z1 z2 z3 z4 z5 z6 tm td y1 y2 y3 y4 y5 y6) _
  have hb0 := h5 0 (by decide)
  have hb1 := h5 1 (by decide)
  have hb2 := h5 2 (by decide)
  have hb3 := h5 3 (by decide)
  have hb4 := h5 4 (by decide)
  refine g_aload_n (i := 0) dd_143_0 rfl ?_
  refine g_getfield (k := 22) am_ck12 (by decide) (Or.inl w_957) dd_143_1 (rm_g66 hH) rfl ?_
  refine g_bipush dd_143_4 bi_9 ?_
  refine g_icmp_eq_f (t := 46) dd_143_6 (by decide) (tk_eq_f (by omega)) ?_
  refine g_aload_n (i := 0) dd_143_9 rfl ?_
  refine g_iconst dd_143_10 ic_5 ?_
  refine g_virtual (M' := mi_139) (n := 1) (ci := 12) (b := 66) (as := [.retAddr 5]) (st := []) (r1 := (some (.retAddr 1), (rm h f len (at') rl rg z1 z2 z3 z4 z5 z6 tm (td') y1 y2 y3 y4 y5 y6))) w_1129 w_1131 ps_139 ⟨lk_139.1, lk_139.2.1, lk_139.2.2, by decide, by decide⟩ rfl (rm_g66 hH) rfl (by simp [Value.category]) dd_143_11 (hrn) ?_
  show am_Good mi_143 14 [some (.ref 66)] [.retAddr 1] (rm h f len (at') rl rg z1 z2 z3 z4 z5 z6 tm (td') y1 y2 y3 y4 y5 y6) _
  refine g_if_eq_f (t := 46) dd_143_14 (by decide) (by decide) ?_
  refine g_aload_n (i := 0) dd_143_17 rfl ?_
  by_cases hsp : am_ag td' 0 < z1 ∧ am_ag td' 1 ≤ 59 ∧ am_ag td' 2 ≤ 59 ∧ am_ag td' 1 ≤ am_ag td' 2
  · refine g_virtual (M' := mi_144) (n := 0) (ci := 12) (b := 66) (as := []) (st := []) (r1 := (some (.retAddr 1), (rm h f len (at') rl rg z1 z2 z3 z4 z5 z6 tm (td') y1 y2 y3 y4 y5 y6))) w_1148 w_1150 ps_144 ⟨lk_144.1, lk_144.2.1, lk_144.2.2, by decide, by decide⟩ rfl (rm_g66 hH) rfl (by simp [Value.category]) dd_143_18 (m_sp1 hH h5 hz1 hsp) ?_
    show am_Good mi_143 21 [some (.ref 66)] [.retAddr 1] (rm h f len (at') rl rg z1 z2 z3 z4 z5 z6 tm (td') y1 y2 y3 y4 y5 y6) _
    refine g_if_eq_f (t := 46) dd_143_21 (by decide) (by decide) ?_
    refine g_aload_n (i := 0) dd_143_24 rfl ?_
    refine g_iconst dd_143_25 ic_3 ?_
    refine g_iconst dd_143_26 ic_0 ?_
    refine g_bipush dd_143_27 bi_9 ?_
    by_cases hw3 : 0 ≤ am_ag (td') 3 ∧ am_ag (td') 3 ≤ 9
    · refine g_virtual (M' := mi_141) (n := 3) (ci := 12) (b := 66) (as := [.retAddr 3, .retAddr 0, .retAddr 9]) (st := []) (r1 := (some (.retAddr 1), (rm h f len (at') rl rg z1 z2 z3 z4 z5 z6 tm (td') y1 y2 y3 y4 y5 y6))) w_1136 w_1138 ps_141 ⟨lk_141.1, lk_141.2.1, lk_141.2.2, by decide, by decide⟩ rfl (rm_g66 hH) rfl (by simp [Value.category]) dd_143_29 (m_tw1 hH h5 (by decide) (by decide) (by omega) hw3) ?_
      show am_Good mi_143 32 [some (.ref 66)] [.retAddr 1] (rm h f len (at') rl rg z1 z2 z3 z4 z5 z6 tm (td') y1 y2 y3 y4 y5 y6) _
      refine g_if_eq_f (t := 46) dd_143_32 (by decide) (by decide) ?_
      refine g_aload_n (i := 0) dd_143_35 rfl ?_
      refine g_iconst dd_143_36 ic_4 ?_
      refine g_iconst dd_143_37 ic_0 ?_
      refine g_bipush dd_143_38 bi_8 ?_
      by_cases hw4 : 0 ≤ am_ag (td') 4 ∧ am_ag (td') 4 ≤ 8
      · refine g_virtual (M' := mi_141) (n := 3) (ci := 12) (b := 66) (as := [.retAddr 4, .retAddr 0, .retAddr 8]) (st := []) (r1 := (some (.retAddr 1), (rm h f len (at') rl rg z1 z2 z3 z4 z5 z6 tm (td') y1 y2 y3 y4 y5 y6))) w_1136 w_1138 ps_141 ⟨lk_141.1, lk_141.2.1, lk_141.2.2, by decide, by decide⟩ rfl (rm_g66 hH) rfl (by simp [Value.category]) dd_143_40 (m_tw1 hH h5 (by decide) (by decide) (by omega) hw4) ?_
        show am_Good mi_143 43 [some (.ref 66)] [.retAddr 1] (rm h f len (at') rl rg z1 z2 z3 z4 z5 z6 tm (td') y1 y2 y3 y4 y5 y6) _
        refine g_if_ne_t (t := 48) dd_143_43 (by decide) (by decide) ?_
        exfalso
        omega
      · refine g_virtual (M' := mi_141) (n := 3) (ci := 12) (b := 66) (as := [.retAddr 4, .retAddr 0, .retAddr 8]) (st := []) (r1 := (some (.retAddr 0), (rm h f len (at') rl rg z1 z2 z3 z4 z5 z6 tm (td') y1 y2 y3 y4 y5 y6))) w_1136 w_1138 ps_141 ⟨lk_141.1, lk_141.2.1, lk_141.2.2, by decide, by decide⟩ rfl (rm_g66 hH) rfl (by simp [Value.category]) dd_143_40 (m_tw0 hH h5 (by decide) (by decide) (by omega) hw4) ?_
        show am_Good mi_143 43 [some (.ref 66)] [.retAddr 0] (rm h f len (at') rl rg z1 z2 z3 z4 z5 z6 tm (td') y1 y2 y3 y4 y5 y6) _
        refine g_if_ne_f (t := 48) dd_143_43 (by decide) (by decide) ?_
        refine g_iconst dd_143_46 ic_0 ?_
        exact g_zreturn rfl (by first | decide | omega) dd_143_47
    · refine g_virtual (M' := mi_141) (n := 3) (ci := 12) (b := 66) (as := [.retAddr 3, .retAddr 0, .retAddr 9]) (st := []) (r1 := (some (.retAddr 0), (rm h f len (at') rl rg z1 z2 z3 z4 z5 z6 tm (td') y1 y2 y3 y4 y5 y6))) w_1136 w_1138 ps_141 ⟨lk_141.1, lk_141.2.1, lk_141.2.2, by decide, by decide⟩ rfl (rm_g66 hH) rfl (by simp [Value.category]) dd_143_29 (m_tw0 hH h5 (by decide) (by decide) (by omega) hw3) ?_
      show am_Good mi_143 32 [some (.ref 66)] [.retAddr 0] (rm h f len (at') rl rg z1 z2 z3 z4 z5 z6 tm (td') y1 y2 y3 y4 y5 y6) _
      refine g_if_eq_t (t := 46) dd_143_32 (by decide) (by decide) ?_
      refine g_iconst dd_143_46 ic_0 ?_
      exact g_zreturn rfl (by first | decide | omega) dd_143_47
  · refine g_virtual (M' := mi_144) (n := 0) (ci := 12) (b := 66) (as := []) (st := []) (r1 := (some (.retAddr 0), (rm h f len (at') rl rg z1 z2 z3 z4 z5 z6 tm (td') y1 y2 y3 y4 y5 y6))) w_1148 w_1150 ps_144 ⟨lk_144.1, lk_144.2.1, lk_144.2.2, by decide, by decide⟩ rfl (rm_g66 hH) rfl (by simp [Value.category]) dd_143_18 (m_sp0 hH h5 hz1 hsp) ?_
    show am_Good mi_143 21 [some (.ref 66)] [.retAddr 0] (rm h f len (at') rl rg z1 z2 z3 z4 z5 z6 tm (td') y1 y2 y3 y4 y5 y6) _
    refine g_if_eq_t (t := 46) dd_143_21 (by decide) (by decide) ?_
    refine g_iconst dd_143_46 ic_0 ?_
    exact g_zreturn rfl (by first | decide | omega) dd_143_47
theorem m_i98_f {h : am_H} {f : Nat → Value} {len at_ rl rg z1 z2 z3 z4 z5 z6 tm td y1 y2 y3 y4 y5 y6 : Nat} (hH : rm_ok h) (hf : z3 = 6) : am_EG mi_146 [.ref 66] (rm h f len at_ rl rg z1 z2 z3 z4 z5 z6 tm td y1 y2 y3 y4 y5 y6) (some (.retAddr 0), (rm h f len at_ rl rg z1 z2 z3 z4 z5 z6 tm td y1 y2 y3 y4 y5 y6)) := by
  refine am_enter (n := 0) tk_146.2.1 (by simp [Value.category]) (Nat.le_of_ble_eq_true rfl) ?_
  show am_Good mi_146 0 [some (.ref 66)] [] (rm h f len at_ rl rg z1 z2 z3 z4 z5 z6 tm td y1 y2 y3 y4 y5 y6) _
  refine g_aload_n (i := 0) dd_146_0 rfl ?_
  refine g_getfield (k := 24) am_ck12 (by decide) (Or.inl w_959) dd_146_1 (rm_g66 hH) rfl ?_
  refine g_bipush dd_146_4 bi_6 ?_
  refine g_icmp_eq_t (t := 24) dd_146_6 (by decide) (tk_eq_t (by omega)) ?_
  refine g_iconst dd_146_24 ic_0 ?_
  exact g_zreturn rfl (by first | decide | omega) dd_146_25
theorem m_i98_n {h : am_H} {f : Nat → Value} {len at_ rl rg z1 z2 z3 z4 z5 z6 tm td y1 y2 y3 y4 y5 y6 : Nat} (hH : rm_ok h) {at' td' : Nat} (hrn : am_EG mi_139 [.ref 66, .retAddr 3] (rm h f len at_ rl rg z1 z2 z3 z4 z5 z6 tm td y1 y2 y3 y4 y5 y6) (some (.retAddr 0), (rm h f len (at') rl rg z1 z2 z3 z4 z5 z6 tm (td') y1 y2 y3 y4 y5 y6))) (h5 : ∀ j, j < 5 → am_ag td' j ≤ 99) (hz1 : z1 ≤ 4) (hz2 : z2 ≤ 9) (hz3 : z3 ≤ 6) (hz4 : z4 ≤ 4) (hz5 : z5 ≤ 6) (hz6 : z6 ≤ 4) (hf : z3 < 6) : am_EG mi_146 [.ref 66] (rm h f len at_ rl rg z1 z2 z3 z4 z5 z6 tm td y1 y2 y3 y4 y5 y6) (some (.retAddr 0), (rm h f len (at') rl rg z1 z2 z3 z4 z5 z6 tm (td') y1 y2 y3 y4 y5 y6)) := by
  refine am_enter (n := 0) tk_146.2.1 (by simp [Value.category]) (Nat.le_of_ble_eq_true rfl) ?_
  show am_Good mi_146 0 [some (.ref 66)] [] (rm h f len at_ rl rg z1 z2 z3 z4 z5 z6 tm td y1 y2 y3 y4 y5 y6) _
  refine g_aload_n (i := 0) dd_146_0 rfl ?_
  refine g_getfield (k := 24) am_ck12 (by decide) (Or.inl w_959) dd_146_1 (rm_g66 hH) rfl ?_
  refine g_bipush dd_146_4 bi_6 ?_
  refine g_icmp_eq_f (t := 24) dd_146_6 (by decide) (tk_eq_f (by omega)) ?_
  refine g_aload_n (i := 0) dd_146_9 rfl ?_
  refine g_iconst dd_146_10 ic_3 ?_
  refine g_virtual (M' := mi_139) (n := 1) (ci := 12) (b := 66) (as := [.retAddr 3]) (st := []) (r1 := (some (.retAddr 0), (rm h f len (at') rl rg z1 z2 z3 z4 z5 z6 tm (td') y1 y2 y3 y4 y5 y6))) w_1129 w_1131 ps_139 ⟨lk_139.1, lk_139.2.1, lk_139.2.2, by decide, by decide⟩ rfl (rm_g66 hH) rfl (by simp [Value.category]) dd_146_11 (hrn) ?_
  show am_Good mi_146 14 [some (.ref 66)] [.retAddr 0] (rm h f len (at') rl rg z1 z2 z3 z4 z5 z6 tm (td') y1 y2 y3 y4 y5 y6) _
  refine g_if_eq_t (t := 24) dd_146_14 (by decide) (by decide) ?_
  refine g_iconst dd_146_24 ic_0 ?_
  exact g_zreturn rfl (by first | decide | omega) dd_146_25
theorem m_i98_1 {h : am_H} {f : Nat → Value} {len at_ rl rg z1 z2 z3 z4 z5 z6 tm td y1 y2 y3 y4 y5 y6 : Nat} (hH : rm_ok h) {at' td' : Nat} (hrn : am_EG mi_139 [.ref 66, .retAddr 3] (rm h f len at_ rl rg z1 z2 z3 z4 z5 z6 tm td y1 y2 y3 y4 y5 y6) (some (.retAddr 1), (rm h f len (at') rl rg z1 z2 z3 z4 z5 z6 tm (td') y1 y2 y3 y4 y5 y6))) (h5 : ∀ j, j < 5 → am_ag td' j ≤ 99) (hz1 : z1 ≤ 4) (hz2 : z2 ≤ 9) (hz3 : z3 ≤ 6) (hz4 : z4 ≤ 4) (hz5 : z5 ≤ 6) (hz6 : z6 ≤ 4) (hf : z3 < 6) (hc : am_ag td' 0 < z1 ∧ am_ag td' 1 ≤ 59 ∧ am_ag td' 2 ≤ 59 ∧ am_ag td' 1 ≤ am_ag td' 2) : am_EG mi_146 [.ref 66] (rm h f len at_ rl rg z1 z2 z3 z4 z5 z6 tm td y1 y2 y3 y4 y5 y6) (some (.retAddr 1), (rm h f len (at') rl rg z1 z2 (z3 + 1) z4 z5 z6 tm (td') y1 y2 (am_as (am_as (am_as y3 (3 * z3) (am_ag (td') 0)) (3 * z3 + 1) (am_ag (td') 1)) (3 * z3 + 2) (am_ag (td') 2)) y4 y5 y6)) := by
  refine am_enter (n := 0) tk_146.2.1 (by simp [Value.category]) (Nat.le_of_ble_eq_true rfl) ?_
  show am_Good mi_146 0 [some (.ref 66)] [] (rm h f len at_ rl rg z1 z2 z3 z4 z5 z6 tm td y1 y2 y3 y4 y5 y6) _
  have hb0 := h5 0 (by decide)
  have hb1 := h5 1 (by decide)
  have hb2 := h5 2 (by decide)
  have hb3 := h5 3 (by decide)
  have hb4 := h5 4 (by decide)
  refine g_aload_n (i := 0) dd_146_0 rfl ?_
  refine g_getfield (k := 24) am_ck12 (by decide) (Or.inl w_959) dd_146_1 (rm_g66 hH) rfl ?_
  refine g_bipush dd_146_4 bi_6 ?_
  refine g_icmp_eq_f (t := 24) dd_146_6 (by decide) (tk_eq_f (by omega)) ?_
  refine g_aload_n (i := 0) dd_146_9 rfl ?_
  refine g_iconst dd_146_10 ic_3 ?_
  refine g_virtual (M' := mi_139) (n := 1) (ci := 12) (b := 66) (as := [.retAddr 3]) (st := []) (r1 := (some (.retAddr 1), (rm h f len (at') rl rg z1 z2 z3 z4 z5 z6 tm (td') y1 y2 y3 y4 y5 y6))) w_1129 w_1131 ps_139 ⟨lk_139.1, lk_139.2.1, lk_139.2.2, by decide, by decide⟩ rfl (rm_g66 hH) rfl (by simp [Value.category]) dd_146_11 (hrn) ?_
  show am_Good mi_146 14 [some (.ref 66)] [.retAddr 1] (rm h f len (at') rl rg z1 z2 z3 z4 z5 z6 tm (td') y1 y2 y3 y4 y5 y6) _
  refine g_if_eq_f (t := 24) dd_146_14 (by decide) (by decide) ?_
  refine g_aload_n (i := 0) dd_146_17 rfl ?_
  refine g_virtual (M' := mi_144) (n := 0) (ci := 12) (b := 66) (as := []) (st := []) (r1 := (some (.retAddr 1), (rm h f len (at') rl rg z1 z2 z3 z4 z5 z6 tm (td') y1 y2 y3 y4 y5 y6))) w_1148 w_1150 ps_144 ⟨lk_144.1, lk_144.2.1, lk_144.2.2, by decide, by decide⟩ rfl (rm_g66 hH) rfl (by simp [Value.category]) dd_146_18 (m_sp1 hH h5 hz1 (by omega)) ?_
  show am_Good mi_146 21 [some (.ref 66)] [.retAddr 1] (rm h f len (at') rl rg z1 z2 z3 z4 z5 z6 tm (td') y1 y2 y3 y4 y5 y6) _
  refine g_if_ne_t (t := 26) dd_146_21 (by decide) (by decide) ?_
  refine g_aload_n (i := 0) dd_146_26 rfl ?_
  refine g_getfield (k := 25) am_ck12 (by decide) (Or.inl w_960) dd_146_27 (rm_g66 hH) rfl ?_
  refine g_iconst dd_146_30 ic_3 ?_
  refine g_aload_n (i := 0) dd_146_31 rfl ?_
  refine g_getfield (k := 24) am_ck12 (by decide) (Or.inl w_959) dd_146_32 (rm_g66 hH) rfl ?_
  refine e_imul (v := 3 * z3) dd_146_35 (by omega) ?_
  refine g_aload_n (i := 0) dd_146_36 rfl ?_
  refine g_getfield (k := 17) am_ck12 (by decide) (Or.inl w_952) dd_146_37 (rm_g66 hH) rfl ?_
  refine g_iconst dd_146_40 ic_3 ?_
  refine g_static (M' := mi_145) (n := 4) (as := [.ref 77, .retAddr (3 * z3), .ref 74, .retAddr 3]) (st := []) (r1 := (none, (rm h f len (at') rl rg z1 z2 z3 z4 z5 z6 tm (td') y1 y2 (am_as (am_as (am_as y3 (3 * z3) (am_ag (td') 0)) (3 * z3 + 1) (am_ag (td') 1)) (3 * z3 + 2) (am_ag (td') 2)) y4 y5 y6))) w_1152 w_1153 ⟨lk_145.1, lk_145.2.1, lk_145.2.2, by decide, by decide⟩ rfl (by simp [Value.category]) dd_146_41 (m_put2 hH (by omega)) ?_
  show am_Good mi_146 44 [some (.ref 66)] [] (rm h f len (at') rl rg z1 z2 z3 z4 z5 z6 tm (td') y1 y2 (am_as (am_as (am_as y3 (3 * z3) (am_ag (td') 0)) (3 * z3 + 1) (am_ag (td') 1)) (3 * z3 + 2) (am_ag (td') 2)) y4 y5 y6) _
  refine g_aload_n (i := 0) dd_146_44 rfl ?_
  refine g_dup dd_146_45 rfl ?_
  refine g_getfield (k := 24) am_ck12 (by decide) (Or.inl w_959) dd_146_46 (rm_g66 hH) rfl ?_
  refine g_iconst dd_146_49 ic_1 ?_
  refine e_iadd (v := z3 + 1) dd_146_50 (by omega) ?_
  refine g_putfield (k := 24) am_ck12 (by decide) (Or.inl w_959) (Or.inl rfl) dd_146_51 (rm_g66 hH) (Nat.le_of_ble_eq_true rfl) trivial ?_
  refine am_heq (rm_u66 hH) ?_
  show am_Good mi_146 54 [some (.ref 66)] [] (rm h f len (at') rl rg z1 z2 (z3 + 1) z4 z5 z6 tm (td') y1 y2 (am_as (am_as (am_as y3 (3 * z3) (am_ag (td') 0)) (3 * z3 + 1) (am_ag (td') 1)) (3 * z3 + 2) (am_ag (td') 2)) y4 y5 y6) _
  refine g_iconst dd_146_54 ic_1 ?_
  exact g_zreturn rfl (by first | decide | omega) dd_146_55
theorem m_i98_0 {h : am_H} {f : Nat → Value} {len at_ rl rg z1 z2 z3 z4 z5 z6 tm td y1 y2 y3 y4 y5 y6 : Nat} (hH : rm_ok h) {at' td' : Nat} (hrn : am_EG mi_139 [.ref 66, .retAddr 3] (rm h f len at_ rl rg z1 z2 z3 z4 z5 z6 tm td y1 y2 y3 y4 y5 y6) (some (.retAddr 1), (rm h f len (at') rl rg z1 z2 z3 z4 z5 z6 tm (td') y1 y2 y3 y4 y5 y6))) (h5 : ∀ j, j < 5 → am_ag td' j ≤ 99) (hz1 : z1 ≤ 4) (hz2 : z2 ≤ 9) (hz3 : z3 ≤ 6) (hz4 : z4 ≤ 4) (hz5 : z5 ≤ 6) (hz6 : z6 ≤ 4) (hf : z3 < 6) (hc : ¬ (am_ag td' 0 < z1 ∧ am_ag td' 1 ≤ 59 ∧ am_ag td' 2 ≤ 59 ∧ am_ag td' 1 ≤ am_ag td' 2)) : am_EG mi_146 [.ref 66] (rm h f len at_ rl rg z1 z2 z3 z4 z5 z6 tm td y1 y2 y3 y4 y5 y6) (some (.retAddr 0), (rm h f len (at') rl rg z1 z2 z3 z4 z5 z6 tm (td') y1 y2 y3 y4 y5 y6)) := by
  refine am_enter (n := 0) tk_146.2.1 (by simp [Value.category]) (Nat.le_of_ble_eq_true rfl) ?_
  show am_Good mi_146 0 [some (.ref 66)] [] (rm h f len at_ rl rg z1 z2 z3 z4 z5 z6 tm td y1 y2 y3 y4 y5 y6) _
  have hb0 := h5 0 (by decide)
  have hb1 := h5 1 (by decide)
  have hb2 := h5 2 (by decide)
  have hb3 := h5 3 (by decide)
  have hb4 := h5 4 (by decide)
  refine g_aload_n (i := 0) dd_146_0 rfl ?_
  refine g_getfield (k := 24) am_ck12 (by decide) (Or.inl w_959) dd_146_1 (rm_g66 hH) rfl ?_
  refine g_bipush dd_146_4 bi_6 ?_
  refine g_icmp_eq_f (t := 24) dd_146_6 (by decide) (tk_eq_f (by omega)) ?_
  refine g_aload_n (i := 0) dd_146_9 rfl ?_
  refine g_iconst dd_146_10 ic_3 ?_
  refine g_virtual (M' := mi_139) (n := 1) (ci := 12) (b := 66) (as := [.retAddr 3]) (st := []) (r1 := (some (.retAddr 1), (rm h f len (at') rl rg z1 z2 z3 z4 z5 z6 tm (td') y1 y2 y3 y4 y5 y6))) w_1129 w_1131 ps_139 ⟨lk_139.1, lk_139.2.1, lk_139.2.2, by decide, by decide⟩ rfl (rm_g66 hH) rfl (by simp [Value.category]) dd_146_11 (hrn) ?_
  show am_Good mi_146 14 [some (.ref 66)] [.retAddr 1] (rm h f len (at') rl rg z1 z2 z3 z4 z5 z6 tm (td') y1 y2 y3 y4 y5 y6) _
  refine g_if_eq_f (t := 24) dd_146_14 (by decide) (by decide) ?_
  refine g_aload_n (i := 0) dd_146_17 rfl ?_
  by_cases hsp : am_ag td' 0 < z1 ∧ am_ag td' 1 ≤ 59 ∧ am_ag td' 2 ≤ 59 ∧ am_ag td' 1 ≤ am_ag td' 2
  · refine g_virtual (M' := mi_144) (n := 0) (ci := 12) (b := 66) (as := []) (st := []) (r1 := (some (.retAddr 1), (rm h f len (at') rl rg z1 z2 z3 z4 z5 z6 tm (td') y1 y2 y3 y4 y5 y6))) w_1148 w_1150 ps_144 ⟨lk_144.1, lk_144.2.1, lk_144.2.2, by decide, by decide⟩ rfl (rm_g66 hH) rfl (by simp [Value.category]) dd_146_18 (m_sp1 hH h5 hz1 hsp) ?_
    show am_Good mi_146 21 [some (.ref 66)] [.retAddr 1] (rm h f len (at') rl rg z1 z2 z3 z4 z5 z6 tm (td') y1 y2 y3 y4 y5 y6) _
    refine g_if_ne_t (t := 26) dd_146_21 (by decide) (by decide) ?_
    exfalso
    omega
  · refine g_virtual (M' := mi_144) (n := 0) (ci := 12) (b := 66) (as := []) (st := []) (r1 := (some (.retAddr 0), (rm h f len (at') rl rg z1 z2 z3 z4 z5 z6 tm (td') y1 y2 y3 y4 y5 y6))) w_1148 w_1150 ps_144 ⟨lk_144.1, lk_144.2.1, lk_144.2.2, by decide, by decide⟩ rfl (rm_g66 hH) rfl (by simp [Value.category]) dd_146_18 (m_sp0 hH h5 hz1 hsp) ?_
    show am_Good mi_146 21 [some (.ref 66)] [.retAddr 0] (rm h f len (at') rl rg z1 z2 z3 z4 z5 z6 tm (td') y1 y2 y3 y4 y5 y6) _
    refine g_if_ne_f (t := 26) dd_146_21 (by decide) (by decide) ?_
    refine g_iconst dd_146_24 ic_0 ?_
    exact g_zreturn rfl (by first | decide | omega) dd_146_25
theorem m_i117_f {h : am_H} {f : Nat → Value} {len at_ rl rg z1 z2 z3 z4 z5 z6 tm td y1 y2 y3 y4 y5 y6 : Nat} (hH : rm_ok h) (hf : z4 = 4) : am_EG mi_147 [.ref 66] (rm h f len at_ rl rg z1 z2 z3 z4 z5 z6 tm td y1 y2 y3 y4 y5 y6) (some (.retAddr 0), (rm h f len at_ rl rg z1 z2 z3 z4 z5 z6 tm td y1 y2 y3 y4 y5 y6)) := by
  refine am_enter (n := 0) tk_147.2.1 (by simp [Value.category]) (Nat.le_of_ble_eq_true rfl) ?_
  show am_Good mi_147 0 [some (.ref 66)] [] (rm h f len at_ rl rg z1 z2 z3 z4 z5 z6 tm td y1 y2 y3 y4 y5 y6) _
  refine g_aload_n (i := 0) dd_147_0 rfl ?_
  refine g_getfield (k := 26) am_ck12 (by decide) (Or.inl w_961) dd_147_1 (rm_g66 hH) rfl ?_
  refine g_iconst dd_147_4 ic_4 ?_
  refine g_icmp_eq_t (t := 34) dd_147_5 (by decide) (tk_eq_t (by omega)) ?_
  refine g_iconst dd_147_34 ic_0 ?_
  exact g_zreturn rfl (by first | decide | omega) dd_147_35
theorem m_i117_n {h : am_H} {f : Nat → Value} {len at_ rl rg z1 z2 z3 z4 z5 z6 tm td y1 y2 y3 y4 y5 y6 : Nat} (hH : rm_ok h) {at' td' : Nat} (hrn : am_EG mi_139 [.ref 66, .retAddr 4] (rm h f len at_ rl rg z1 z2 z3 z4 z5 z6 tm td y1 y2 y3 y4 y5 y6) (some (.retAddr 0), (rm h f len (at') rl rg z1 z2 z3 z4 z5 z6 tm (td') y1 y2 y3 y4 y5 y6))) (h5 : ∀ j, j < 5 → am_ag td' j ≤ 99) (hz1 : z1 ≤ 4) (hz2 : z2 ≤ 9) (hz3 : z3 ≤ 6) (hz4 : z4 ≤ 4) (hz5 : z5 ≤ 6) (hz6 : z6 ≤ 4) (hf : z4 < 4) : am_EG mi_147 [.ref 66] (rm h f len at_ rl rg z1 z2 z3 z4 z5 z6 tm td y1 y2 y3 y4 y5 y6) (some (.retAddr 0), (rm h f len (at') rl rg z1 z2 z3 z4 z5 z6 tm (td') y1 y2 y3 y4 y5 y6)) := by
  refine am_enter (n := 0) tk_147.2.1 (by simp [Value.category]) (Nat.le_of_ble_eq_true rfl) ?_
  show am_Good mi_147 0 [some (.ref 66)] [] (rm h f len at_ rl rg z1 z2 z3 z4 z5 z6 tm td y1 y2 y3 y4 y5 y6) _
  refine g_aload_n (i := 0) dd_147_0 rfl ?_
  refine g_getfield (k := 26) am_ck12 (by decide) (Or.inl w_961) dd_147_1 (rm_g66 hH) rfl ?_
  refine g_iconst dd_147_4 ic_4 ?_
  refine g_icmp_eq_f (t := 34) dd_147_5 (by decide) (tk_eq_f (by omega)) ?_
  refine g_aload_n (i := 0) dd_147_8 rfl ?_
  refine g_iconst dd_147_9 ic_4 ?_
  refine g_virtual (M' := mi_139) (n := 1) (ci := 12) (b := 66) (as := [.retAddr 4]) (st := []) (r1 := (some (.retAddr 0), (rm h f len (at') rl rg z1 z2 z3 z4 z5 z6 tm (td') y1 y2 y3 y4 y5 y6))) w_1129 w_1131 ps_139 ⟨lk_139.1, lk_139.2.1, lk_139.2.2, by decide, by decide⟩ rfl (rm_g66 hH) rfl (by simp [Value.category]) dd_147_10 (hrn) ?_
  show am_Good mi_147 13 [some (.ref 66)] [.retAddr 0] (rm h f len (at') rl rg z1 z2 z3 z4 z5 z6 tm (td') y1 y2 y3 y4 y5 y6) _
  refine g_if_eq_t (t := 34) dd_147_13 (by decide) (by decide) ?_
  refine g_iconst dd_147_34 ic_0 ?_
  exact g_zreturn rfl (by first | decide | omega) dd_147_35
theorem m_i117_1 {h : am_H} {f : Nat → Value} {len at_ rl rg z1 z2 z3 z4 z5 z6 tm td y1 y2 y3 y4 y5 y6 : Nat} (hH : rm_ok h) {at' td' : Nat} (hrn : am_EG mi_139 [.ref 66, .retAddr 4] (rm h f len at_ rl rg z1 z2 z3 z4 z5 z6 tm td y1 y2 y3 y4 y5 y6) (some (.retAddr 1), (rm h f len (at') rl rg z1 z2 z3 z4 z5 z6 tm (td') y1 y2 y3 y4 y5 y6))) (h5 : ∀ j, j < 5 → am_ag td' j ≤ 99) (hz1 : z1 ≤ 4) (hz2 : z2 ≤ 9) (hz3 : z3 ≤ 6) (hz4 : z4 ≤ 4) (hz5 : z5 ≤ 6) (hz6 : z6 ≤ 4) (hf : z4 < 4) (hc : (am_ag td' 0 < z1 ∧ am_ag td' 1 ≤ 59 ∧ am_ag td' 2 ≤ 59 ∧ am_ag td' 1 ≤ am_ag td' 2) ∧ am_ag td' 3 ≤ 10) : am_EG mi_147 [.ref 66] (rm h f len at_ rl rg z1 z2 z3 z4 z5 z6 tm td y1 y2 y3 y4 y5 y6) (some (.retAddr 1), (rm h f len (at') rl rg z1 z2 z3 (z4 + 1) z5 z6 tm (td') y1 y2 y3 (am_as (am_as (am_as (am_as y4 (4 * z4) (am_ag (td') 0)) (4 * z4 + 1) (am_ag (td') 1)) (4 * z4 + 2) (am_ag (td') 2)) (4 * z4 + 3) (am_ag (td') 3)) y5 y6)) := by
  refine am_enter (n := 0) tk_147.2.1 (by simp [Value.category]) (Nat.le_of_ble_eq_true rfl) ?_
  show am_Good mi_147 0 [some (.ref 66)] [] (rm h f len at_ rl rg z1 z2 z3 z4 z5 z6 tm td y1 y2 y3 y4 y5 y6) _
  have hb0 := h5 0 (by decide)
  have hb1 := h5 1 (by decide)
  have hb2 := h5 2 (by decide)
  have hb3 := h5 3 (by decide)
  have hb4 := h5 4 (by decide)
  refine g_aload_n (i := 0) dd_147_0 rfl ?_
  refine g_getfield (k := 26) am_ck12 (by decide) (Or.inl w_961) dd_147_1 (rm_g66 hH) rfl ?_
  refine g_iconst dd_147_4 ic_4 ?_
  refine g_icmp_eq_f (t := 34) dd_147_5 (by decide) (tk_eq_f (by omega)) ?_
  refine g_aload_n (i := 0) dd_147_8 rfl ?_
  refine g_iconst dd_147_9 ic_4 ?_
  refine g_virtual (M' := mi_139) (n := 1) (ci := 12) (b := 66) (as := [.retAddr 4]) (st := []) (r1 := (some (.retAddr 1), (rm h f len (at') rl rg z1 z2 z3 z4 z5 z6 tm (td') y1 y2 y3 y4 y5 y6))) w_1129 w_1131 ps_139 ⟨lk_139.1, lk_139.2.1, lk_139.2.2, by decide, by decide⟩ rfl (rm_g66 hH) rfl (by simp [Value.category]) dd_147_10 (hrn) ?_
  show am_Good mi_147 13 [some (.ref 66)] [.retAddr 1] (rm h f len (at') rl rg z1 z2 z3 z4 z5 z6 tm (td') y1 y2 y3 y4 y5 y6) _
  refine g_if_eq_f (t := 34) dd_147_13 (by decide) (by decide) ?_
  refine g_aload_n (i := 0) dd_147_16 rfl ?_
  refine g_virtual (M' := mi_144) (n := 0) (ci := 12) (b := 66) (as := []) (st := []) (r1 := (some (.retAddr 1), (rm h f len (at') rl rg z1 z2 z3 z4 z5 z6 tm (td') y1 y2 y3 y4 y5 y6))) w_1148 w_1150 ps_144 ⟨lk_144.1, lk_144.2.1, lk_144.2.2, by decide, by decide⟩ rfl (rm_g66 hH) rfl (by simp [Value.category]) dd_147_17 (m_sp1 hH h5 hz1 (by omega)) ?_
  show am_Good mi_147 20 [some (.ref 66)] [.retAddr 1] (rm h f len (at') rl rg z1 z2 z3 z4 z5 z6 tm (td') y1 y2 y3 y4 y5 y6) _
  refine g_if_eq_f (t := 34) dd_147_20 (by decide) (by decide) ?_
  refine g_aload_n (i := 0) dd_147_23 rfl ?_
  refine g_iconst dd_147_24 ic_3 ?_
  refine g_iconst dd_147_25 ic_0 ?_
  refine g_bipush dd_147_26 bi_10 ?_
  refine g_virtual (M' := mi_141) (n := 3) (ci := 12) (b := 66) (as := [.retAddr 3, .retAddr 0, .retAddr 10]) (st := []) (r1 := (some (.retAddr 1), (rm h f len (at') rl rg z1 z2 z3 z4 z5 z6 tm (td') y1 y2 y3 y4 y5 y6))) w_1136 w_1138 ps_141 ⟨lk_141.1, lk_141.2.1, lk_141.2.2, by decide, by decide⟩ rfl (rm_g66 hH) rfl (by simp [Value.category]) dd_147_28 (m_tw1 hH h5 (by decide) (by decide) (by omega) (by omega)) ?_
  show am_Good mi_147 31 [some (.ref 66)] [.retAddr 1] (rm h f len (at') rl rg z1 z2 z3 z4 z5 z6 tm (td') y1 y2 y3 y4 y5 y6) _
  refine g_if_ne_t (t := 36) dd_147_31 (by decide) (by decide) ?_
  refine g_aload_n (i := 0) dd_147_36 rfl ?_
  refine g_getfield (k := 27) am_ck12 (by decide) (Or.inl w_962) dd_147_37 (rm_g66 hH) rfl ?_
  refine g_iconst dd_147_40 ic_4 ?_
  refine g_aload_n (i := 0) dd_147_41 rfl ?_
  refine g_getfield (k := 26) am_ck12 (by decide) (Or.inl w_961) dd_147_42 (rm_g66 hH) rfl ?_
  refine e_imul (v := 4 * z4) dd_147_45 (by omega) ?_
  refine g_aload_n (i := 0) dd_147_46 rfl ?_
  refine g_getfield (k := 17) am_ck12 (by decide) (Or.inl w_952) dd_147_47 (rm_g66 hH) rfl ?_
  refine g_iconst dd_147_50 ic_4 ?_
  refine g_static (M' := mi_145) (n := 4) (as := [.ref 78, .retAddr (4 * z4), .ref 74, .retAddr 4]) (st := []) (r1 := (none, (rm h f len (at') rl rg z1 z2 z3 z4 z5 z6 tm (td') y1 y2 y3 (am_as (am_as (am_as (am_as y4 (4 * z4) (am_ag (td') 0)) (4 * z4 + 1) (am_ag (td') 1)) (4 * z4 + 2) (am_ag (td') 2)) (4 * z4 + 3) (am_ag (td') 3)) y5 y6))) w_1152 w_1153 ⟨lk_145.1, lk_145.2.1, lk_145.2.2, by decide, by decide⟩ rfl (by simp [Value.category]) dd_147_51 (m_put3 hH (by omega)) ?_
  show am_Good mi_147 54 [some (.ref 66)] [] (rm h f len (at') rl rg z1 z2 z3 z4 z5 z6 tm (td') y1 y2 y3 (am_as (am_as (am_as (am_as y4 (4 * z4) (am_ag (td') 0)) (4 * z4 + 1) (am_ag (td') 1)) (4 * z4 + 2) (am_ag (td') 2)) (4 * z4 + 3) (am_ag (td') 3)) y5 y6) _
  refine g_aload_n (i := 0) dd_147_54 rfl ?_
  refine g_dup dd_147_55 rfl ?_
  refine g_getfield (k := 26) am_ck12 (by decide) (Or.inl w_961) dd_147_56 (rm_g66 hH) rfl ?_
  refine g_iconst dd_147_59 ic_1 ?_
  refine e_iadd (v := z4 + 1) dd_147_60 (by omega) ?_
  refine g_putfield (k := 26) am_ck12 (by decide) (Or.inl w_961) (Or.inl rfl) dd_147_61 (rm_g66 hH) (Nat.le_of_ble_eq_true rfl) trivial ?_
  refine am_heq (rm_u66 hH) ?_
  show am_Good mi_147 64 [some (.ref 66)] [] (rm h f len (at') rl rg z1 z2 z3 (z4 + 1) z5 z6 tm (td') y1 y2 y3 (am_as (am_as (am_as (am_as y4 (4 * z4) (am_ag (td') 0)) (4 * z4 + 1) (am_ag (td') 1)) (4 * z4 + 2) (am_ag (td') 2)) (4 * z4 + 3) (am_ag (td') 3)) y5 y6) _
  refine g_iconst dd_147_64 ic_1 ?_
  exact g_zreturn rfl (by first | decide | omega) dd_147_65
theorem m_i117_0 {h : am_H} {f : Nat → Value} {len at_ rl rg z1 z2 z3 z4 z5 z6 tm td y1 y2 y3 y4 y5 y6 : Nat} (hH : rm_ok h) {at' td' : Nat} (hrn : am_EG mi_139 [.ref 66, .retAddr 4] (rm h f len at_ rl rg z1 z2 z3 z4 z5 z6 tm td y1 y2 y3 y4 y5 y6) (some (.retAddr 1), (rm h f len (at') rl rg z1 z2 z3 z4 z5 z6 tm (td') y1 y2 y3 y4 y5 y6))) (h5 : ∀ j, j < 5 → am_ag td' j ≤ 99) (hz1 : z1 ≤ 4) (hz2 : z2 ≤ 9) (hz3 : z3 ≤ 6) (hz4 : z4 ≤ 4) (hz5 : z5 ≤ 6) (hz6 : z6 ≤ 4) (hf : z4 < 4) (hc : ¬ ((am_ag td' 0 < z1 ∧ am_ag td' 1 ≤ 59 ∧ am_ag td' 2 ≤ 59 ∧ am_ag td' 1 ≤ am_ag td' 2) ∧ am_ag td' 3 ≤ 10)) : am_EG mi_147 [.ref 66] (rm h f len at_ rl rg z1 z2 z3 z4 z5 z6 tm td y1 y2 y3 y4 y5 y6) (some (.retAddr 0), (rm h f len (at') rl rg z1 z2 z3 z4 z5 z6 tm (td') y1 y2 y3 y4 y5 y6)) := by
  refine am_enter (n := 0) tk_147.2.1 (by simp [Value.category]) (Nat.le_of_ble_eq_true rfl) ?_
  show am_Good mi_147 0 [some (.ref 66)] [] (rm h f len at_ rl rg z1 z2 z3 z4 z5 z6 tm td y1 y2 y3 y4 y5 y6) _
  have hb0 := h5 0 (by decide)
  have hb1 := h5 1 (by decide)
  have hb2 := h5 2 (by decide)
  have hb3 := h5 3 (by decide)
  have hb4 := h5 4 (by decide)
  refine g_aload_n (i := 0) dd_147_0 rfl ?_
  refine g_getfield (k := 26) am_ck12 (by decide) (Or.inl w_961) dd_147_1 (rm_g66 hH) rfl ?_
  refine g_iconst dd_147_4 ic_4 ?_
  refine g_icmp_eq_f (t := 34) dd_147_5 (by decide) (tk_eq_f (by omega)) ?_
  refine g_aload_n (i := 0) dd_147_8 rfl ?_
  refine g_iconst dd_147_9 ic_4 ?_
  refine g_virtual (M' := mi_139) (n := 1) (ci := 12) (b := 66) (as := [.retAddr 4]) (st := []) (r1 := (some (.retAddr 1), (rm h f len (at') rl rg z1 z2 z3 z4 z5 z6 tm (td') y1 y2 y3 y4 y5 y6))) w_1129 w_1131 ps_139 ⟨lk_139.1, lk_139.2.1, lk_139.2.2, by decide, by decide⟩ rfl (rm_g66 hH) rfl (by simp [Value.category]) dd_147_10 (hrn) ?_
  show am_Good mi_147 13 [some (.ref 66)] [.retAddr 1] (rm h f len (at') rl rg z1 z2 z3 z4 z5 z6 tm (td') y1 y2 y3 y4 y5 y6) _
  refine g_if_eq_f (t := 34) dd_147_13 (by decide) (by decide) ?_
  refine g_aload_n (i := 0) dd_147_16 rfl ?_
  by_cases hsp : am_ag td' 0 < z1 ∧ am_ag td' 1 ≤ 59 ∧ am_ag td' 2 ≤ 59 ∧ am_ag td' 1 ≤ am_ag td' 2
  · refine g_virtual (M' := mi_144) (n := 0) (ci := 12) (b := 66) (as := []) (st := []) (r1 := (some (.retAddr 1), (rm h f len (at') rl rg z1 z2 z3 z4 z5 z6 tm (td') y1 y2 y3 y4 y5 y6))) w_1148 w_1150 ps_144 ⟨lk_144.1, lk_144.2.1, lk_144.2.2, by decide, by decide⟩ rfl (rm_g66 hH) rfl (by simp [Value.category]) dd_147_17 (m_sp1 hH h5 hz1 hsp) ?_
    show am_Good mi_147 20 [some (.ref 66)] [.retAddr 1] (rm h f len (at') rl rg z1 z2 z3 z4 z5 z6 tm (td') y1 y2 y3 y4 y5 y6) _
    refine g_if_eq_f (t := 34) dd_147_20 (by decide) (by decide) ?_
    refine g_aload_n (i := 0) dd_147_23 rfl ?_
    refine g_iconst dd_147_24 ic_3 ?_
    refine g_iconst dd_147_25 ic_0 ?_
    refine g_bipush dd_147_26 bi_10 ?_
    by_cases hw3 : 0 ≤ am_ag (td') 3 ∧ am_ag (td') 3 ≤ 10
    · refine g_virtual (M' := mi_141) (n := 3) (ci := 12) (b := 66) (as := [.retAddr 3, .retAddr 0, .retAddr 10]) (st := []) (r1 := (some (.retAddr 1), (rm h f len (at') rl rg z1 z2 z3 z4 z5 z6 tm (td') y1 y2 y3 y4 y5 y6))) w_1136 w_1138 ps_141 ⟨lk_141.1, lk_141.2.1, lk_141.2.2, by decide, by decide⟩ rfl (rm_g66 hH) rfl (by simp [Value.category]) dd_147_28 (m_tw1 hH h5 (by decide) (by decide) (by omega) hw3) ?_
      show am_Good mi_147 31 [some (.ref 66)] [.retAddr 1] (rm h f len (at') rl rg z1 z2 z3 z4 z5 z6 tm (td') y1 y2 y3 y4 y5 y6) _
      refine g_if_ne_t (t := 36) dd_147_31 (by decide) (by decide) ?_
      exfalso
      omega
    · refine g_virtual (M' := mi_141) (n := 3) (ci := 12) (b := 66) (as := [.retAddr 3, .retAddr 0, .retAddr 10]) (st := []) (r1 := (some (.retAddr 0), (rm h f len (at') rl rg z1 z2 z3 z4 z5 z6 tm (td') y1 y2 y3 y4 y5 y6))) w_1136 w_1138 ps_141 ⟨lk_141.1, lk_141.2.1, lk_141.2.2, by decide, by decide⟩ rfl (rm_g66 hH) rfl (by simp [Value.category]) dd_147_28 (m_tw0 hH h5 (by decide) (by decide) (by omega) hw3) ?_
      show am_Good mi_147 31 [some (.ref 66)] [.retAddr 0] (rm h f len (at') rl rg z1 z2 z3 z4 z5 z6 tm (td') y1 y2 y3 y4 y5 y6) _
      refine g_if_ne_f (t := 36) dd_147_31 (by decide) (by decide) ?_
      refine g_iconst dd_147_34 ic_0 ?_
      exact g_zreturn rfl (by first | decide | omega) dd_147_35
  · refine g_virtual (M' := mi_144) (n := 0) (ci := 12) (b := 66) (as := []) (st := []) (r1 := (some (.retAddr 0), (rm h f len (at') rl rg z1 z2 z3 z4 z5 z6 tm (td') y1 y2 y3 y4 y5 y6))) w_1148 w_1150 ps_144 ⟨lk_144.1, lk_144.2.1, lk_144.2.2, by decide, by decide⟩ rfl (rm_g66 hH) rfl (by simp [Value.category]) dd_147_17 (m_sp0 hH h5 hz1 hsp) ?_
    show am_Good mi_147 20 [some (.ref 66)] [.retAddr 0] (rm h f len (at') rl rg z1 z2 z3 z4 z5 z6 tm (td') y1 y2 y3 y4 y5 y6) _
    refine g_if_eq_t (t := 34) dd_147_20 (by decide) (by decide) ?_
    refine g_iconst dd_147_34 ic_0 ?_
    exact g_zreturn rfl (by first | decide | omega) dd_147_35
theorem m_i102_f {h : am_H} {f : Nat → Value} {len at_ rl rg z1 z2 z3 z4 z5 z6 tm td y1 y2 y3 y4 y5 y6 : Nat} (hH : rm_ok h) (hf : z5 = 6) : am_EG mi_149 [.ref 66] (rm h f len at_ rl rg z1 z2 z3 z4 z5 z6 tm td y1 y2 y3 y4 y5 y6) (some (.retAddr 0), (rm h f len at_ rl rg z1 z2 z3 z4 z5 z6 tm td y1 y2 y3 y4 y5 y6)) := by
  refine am_enter (n := 0) tk_149.2.1 (by simp [Value.category]) (Nat.le_of_ble_eq_true rfl) ?_
  show am_Good mi_149 0 [some (.ref 66)] [] (rm h f len at_ rl rg z1 z2 z3 z4 z5 z6 tm td y1 y2 y3 y4 y5 y6) _
  refine g_aload_n (i := 0) dd_149_0 rfl ?_
  refine g_getfield (k := 28) am_ck12 (by decide) (Or.inl w_963) dd_149_1 (rm_g66 hH) rfl ?_
  refine g_bipush dd_149_4 bi_6 ?_
  refine g_icmp_eq_t (t := 50) dd_149_6 (by decide) (tk_eq_t (by omega)) ?_
  refine g_iconst dd_149_50 ic_0 ?_
  exact g_zreturn rfl (by first | decide | omega) dd_149_51
theorem m_i102_n {h : am_H} {f : Nat → Value} {len at_ rl rg z1 z2 z3 z4 z5 z6 tm td y1 y2 y3 y4 y5 y6 : Nat} (hH : rm_ok h) {at' td' : Nat} (hrn : am_EG mi_139 [.ref 66, .retAddr 3] (rm h f len at_ rl rg z1 z2 z3 z4 z5 z6 tm td y1 y2 y3 y4 y5 y6) (some (.retAddr 0), (rm h f len (at') rl rg z1 z2 z3 z4 z5 z6 tm (td') y1 y2 y3 y4 y5 y6))) (h5 : ∀ j, j < 5 → am_ag td' j ≤ 99) (hz1 : z1 ≤ 4) (hz2 : z2 ≤ 9) (hz3 : z3 ≤ 6) (hz4 : z4 ≤ 4) (hz5 : z5 ≤ 6) (hz6 : z6 ≤ 4) (hf : z5 < 6) : am_EG mi_149 [.ref 66] (rm h f len at_ rl rg z1 z2 z3 z4 z5 z6 tm td y1 y2 y3 y4 y5 y6) (some (.retAddr 0), (rm h f len (at') rl rg z1 z2 z3 z4 z5 z6 tm (td') y1 y2 y3 y4 y5 y6)) := by
  refine am_enter (n := 0) tk_149.2.1 (by simp [Value.category]) (Nat.le_of_ble_eq_true rfl) ?_
  show am_Good mi_149 0 [some (.ref 66)] [] (rm h f len at_ rl rg z1 z2 z3 z4 z5 z6 tm td y1 y2 y3 y4 y5 y6) _
  refine g_aload_n (i := 0) dd_149_0 rfl ?_
  refine g_getfield (k := 28) am_ck12 (by decide) (Or.inl w_963) dd_149_1 (rm_g66 hH) rfl ?_
  refine g_bipush dd_149_4 bi_6 ?_
  refine g_icmp_eq_f (t := 50) dd_149_6 (by decide) (tk_eq_f (by omega)) ?_
  refine g_aload_n (i := 0) dd_149_9 rfl ?_
  refine g_iconst dd_149_10 ic_3 ?_
  refine g_virtual (M' := mi_139) (n := 1) (ci := 12) (b := 66) (as := [.retAddr 3]) (st := []) (r1 := (some (.retAddr 0), (rm h f len (at') rl rg z1 z2 z3 z4 z5 z6 tm (td') y1 y2 y3 y4 y5 y6))) w_1129 w_1131 ps_139 ⟨lk_139.1, lk_139.2.1, lk_139.2.2, by decide, by decide⟩ rfl (rm_g66 hH) rfl (by simp [Value.category]) dd_149_11 (hrn) ?_
  show am_Good mi_149 14 [some (.ref 66)] [.retAddr 0] (rm h f len (at') rl rg z1 z2 z3 z4 z5 z6 tm (td') y1 y2 y3 y4 y5 y6) _
  refine g_if_eq_t (t := 50) dd_149_14 (by decide) (by decide) ?_
  refine g_iconst dd_149_50 ic_0 ?_
  exact g_zreturn rfl (by first | decide | omega) dd_149_51
theorem m_i102_1 {h : am_H} {f : Nat → Value} {len at_ rl rg z1 z2 z3 z4 z5 z6 tm td y1 y2 y3 y4 y5 y6 : Nat} (hH : rm_ok h) {at' td' : Nat} (hrn : am_EG mi_139 [.ref 66, .retAddr 3] (rm h f len at_ rl rg z1 z2 z3 z4 z5 z6 tm td y1 y2 y3 y4 y5 y6) (some (.retAddr 1), (rm h f len (at') rl rg z1 z2 z3 z4 z5 z6 tm (td') y1 y2 y3 y4 y5 y6))) (h5 : ∀ j, j < 5 → am_ag td' j ≤ 99) (hz1 : z1 ≤ 4) (hz2 : z2 ≤ 9) (hz3 : z3 ≤ 6) (hz4 : z4 ≤ 4) (hz5 : z5 ≤ 6) (hz6 : z6 ≤ 4) (hf : z5 < 6) (hc : am_ag td' 0 ≤ 7 ∧ am_ag td' 1 ≤ 7 ∧ am_ag td' 2 ≤ 7) : am_EG mi_149 [.ref 66] (rm h f len at_ rl rg z1 z2 z3 z4 z5 z6 tm td y1 y2 y3 y4 y5 y6) (some (.retAddr 1), (rm h f len (at') rl rg z1 z2 z3 z4 (z5 + 1) z6 tm (td') y1 y2 y3 y4 (am_as (am_as (am_as y5 (3 * z5) (am_ag (td') 0)) (3 * z5 + 1) (am_ag (td') 1)) (3 * z5 + 2) (am_ag (td') 2)) y6)) := by
  refine am_enter (n := 0) tk_149.2.1 (by simp [Value.category]) (Nat.le_of_ble_eq_true rfl) ?_
  show am_Good mi_149 0 [some (.ref 66)] [] (rm h f len at_ rl rg z1 z2 z3 z4 z5 z6 tm td y1 y2 y3 y4 y5 y6) _
  have hb0 := h5 0 (by decide)
  have hb1 := h5 1 (by decide)
  have hb2 := h5 2 (by decide)
  have hb3 := h5 3 (by decide)
  have hb4 := h5 4 (by decide)
  refine g_aload_n (i := 0) dd_149_0 rfl ?_
  refine g_getfield (k := 28) am_ck12 (by decide) (Or.inl w_963) dd_149_1 (rm_g66 hH) rfl ?_
  refine g_bipush dd_149_4 bi_6 ?_
  refine g_icmp_eq_f (t := 50) dd_149_6 (by decide) (tk_eq_f (by omega)) ?_
  refine g_aload_n (i := 0) dd_149_9 rfl ?_
  refine g_iconst dd_149_10 ic_3 ?_
  refine g_virtual (M' := mi_139) (n := 1) (ci := 12) (b := 66) (as := [.retAddr 3]) (st := []) (r1 := (some (.retAddr 1), (rm h f len (at') rl rg z1 z2 z3 z4 z5 z6 tm (td') y1 y2 y3 y4 y5 y6))) w_1129 w_1131 ps_139 ⟨lk_139.1, lk_139.2.1, lk_139.2.2, by decide, by decide⟩ rfl (rm_g66 hH) rfl (by simp [Value.category]) dd_149_11 (hrn) ?_
  show am_Good mi_149 14 [some (.ref 66)] [.retAddr 1] (rm h f len (at') rl rg z1 z2 z3 z4 z5 z6 tm (td') y1 y2 y3 y4 y5 y6) _
  refine g_if_eq_f (t := 50) dd_149_14 (by decide) (by decide) ?_
  refine g_aload_n (i := 0) dd_149_17 rfl ?_
  refine g_iconst dd_149_18 ic_0 ?_
  refine g_iconst dd_149_19 ic_0 ?_
  refine g_bipush dd_149_20 bi_7 ?_
  refine g_virtual (M' := mi_141) (n := 3) (ci := 12) (b := 66) (as := [.retAddr 0, .retAddr 0, .retAddr 7]) (st := []) (r1 := (some (.retAddr 1), (rm h f len (at') rl rg z1 z2 z3 z4 z5 z6 tm (td') y1 y2 y3 y4 y5 y6))) w_1136 w_1138 ps_141 ⟨lk_141.1, lk_141.2.1, lk_141.2.2, by decide, by decide⟩ rfl (rm_g66 hH) rfl (by simp [Value.category]) dd_149_22 (m_tw1 hH h5 (by decide) (by decide) (by omega) (by omega)) ?_
  show am_Good mi_149 25 [some (.ref 66)] [.retAddr 1] (rm h f len (at') rl rg z1 z2 z3 z4 z5 z6 tm (td') y1 y2 y3 y4 y5 y6) _
  refine g_if_eq_f (t := 50) dd_149_25 (by decide) (by decide) ?_
  refine g_aload_n (i := 0) dd_149_28 rfl ?_
  refine g_iconst dd_149_29 ic_1 ?_
  refine g_iconst dd_149_30 ic_0 ?_
  refine g_bipush dd_149_31 bi_7 ?_
  refine g_virtual (M' := mi_141) (n := 3) (ci := 12) (b := 66) (as := [.retAddr 1, .retAddr 0, .retAddr 7]) (st := []) (r1 := (some (.retAddr 1), (rm h f len (at') rl rg z1 z2 z3 z4 z5 z6 tm (td') y1 y2 y3 y4 y5 y6))) w_1136 w_1138 ps_141 ⟨lk_141.1, lk_141.2.1, lk_141.2.2, by decide, by decide⟩ rfl (rm_g66 hH) rfl (by simp [Value.category]) dd_149_33 (m_tw1 hH h5 (by decide) (by decide) (by omega) (by omega)) ?_
  show am_Good mi_149 36 [some (.ref 66)] [.retAddr 1] (rm h f len (at') rl rg z1 z2 z3 z4 z5 z6 tm (td') y1 y2 y3 y4 y5 y6) _
  refine g_if_eq_f (t := 50) dd_149_36 (by decide) (by decide) ?_
  refine g_aload_n (i := 0) dd_149_39 rfl ?_
  refine g_iconst dd_149_40 ic_2 ?_
  refine g_iconst dd_149_41 ic_0 ?_
  refine g_bipush dd_149_42 bi_7 ?_
  refine g_virtual (M' := mi_141) (n := 3) (ci := 12) (b := 66) (as := [.retAddr 2, .retAddr 0, .retAddr 7]) (st := []) (r1 := (some (.retAddr 1), (rm h f len (at') rl rg z1 z2 z3 z4 z5 z6 tm (td') y1 y2 y3 y4 y5 y6))) w_1136 w_1138 ps_141 ⟨lk_141.1, lk_141.2.1, lk_141.2.2, by decide, by decide⟩ rfl (rm_g66 hH) rfl (by simp [Value.category]) dd_149_44 (m_tw1 hH h5 (by decide) (by decide) (by omega) (by omega)) ?_
  show am_Good mi_149 47 [some (.ref 66)] [.retAddr 1] (rm h f len (at') rl rg z1 z2 z3 z4 z5 z6 tm (td') y1 y2 y3 y4 y5 y6) _
  refine g_if_ne_t (t := 52) dd_149_47 (by decide) (by decide) ?_
  refine g_aload_n (i := 0) dd_149_52 rfl ?_
  refine g_getfield (k := 29) am_ck12 (by decide) (Or.inl w_964) dd_149_53 (rm_g66 hH) rfl ?_
  refine g_iconst dd_149_56 ic_3 ?_
  refine g_aload_n (i := 0) dd_149_57 rfl ?_
  refine g_getfield (k := 28) am_ck12 (by decide) (Or.inl w_963) dd_149_58 (rm_g66 hH) rfl ?_
  refine e_imul (v := 3 * z5) dd_149_61 (by omega) ?_
  refine g_aload_n (i := 0) dd_149_62 rfl ?_
  refine g_getfield (k := 17) am_ck12 (by decide) (Or.inl w_952) dd_149_63 (rm_g66 hH) rfl ?_
  refine g_iconst dd_149_66 ic_3 ?_
  refine g_static (M' := mi_145) (n := 4) (as := [.ref 79, .retAddr (3 * z5), .ref 74, .retAddr 3]) (st := []) (r1 := (none, (rm h f len (at') rl rg z1 z2 z3 z4 z5 z6 tm (td') y1 y2 y3 y4 (am_as (am_as (am_as y5 (3 * z5) (am_ag (td') 0)) (3 * z5 + 1) (am_ag (td') 1)) (3 * z5 + 2) (am_ag (td') 2)) y6))) w_1152 w_1153 ⟨lk_145.1, lk_145.2.1, lk_145.2.2, by decide, by decide⟩ rfl (by simp [Value.category]) dd_149_67 (m_put4 hH (by omega)) ?_
  show am_Good mi_149 70 [some (.ref 66)] [] (rm h f len (at') rl rg z1 z2 z3 z4 z5 z6 tm (td') y1 y2 y3 y4 (am_as (am_as (am_as y5 (3 * z5) (am_ag (td') 0)) (3 * z5 + 1) (am_ag (td') 1)) (3 * z5 + 2) (am_ag (td') 2)) y6) _
  refine g_aload_n (i := 0) dd_149_70 rfl ?_
  refine g_dup dd_149_71 rfl ?_
  refine g_getfield (k := 28) am_ck12 (by decide) (Or.inl w_963) dd_149_72 (rm_g66 hH) rfl ?_
  refine g_iconst dd_149_75 ic_1 ?_
  refine e_iadd (v := z5 + 1) dd_149_76 (by omega) ?_
  refine g_putfield (k := 28) am_ck12 (by decide) (Or.inl w_963) (Or.inl rfl) dd_149_77 (rm_g66 hH) (Nat.le_of_ble_eq_true rfl) trivial ?_
  refine am_heq (rm_u66 hH) ?_
  show am_Good mi_149 80 [some (.ref 66)] [] (rm h f len (at') rl rg z1 z2 z3 z4 (z5 + 1) z6 tm (td') y1 y2 y3 y4 (am_as (am_as (am_as y5 (3 * z5) (am_ag (td') 0)) (3 * z5 + 1) (am_ag (td') 1)) (3 * z5 + 2) (am_ag (td') 2)) y6) _
  refine g_iconst dd_149_80 ic_1 ?_
  exact g_zreturn rfl (by first | decide | omega) dd_149_81
theorem m_i102_0 {h : am_H} {f : Nat → Value} {len at_ rl rg z1 z2 z3 z4 z5 z6 tm td y1 y2 y3 y4 y5 y6 : Nat} (hH : rm_ok h) {at' td' : Nat} (hrn : am_EG mi_139 [.ref 66, .retAddr 3] (rm h f len at_ rl rg z1 z2 z3 z4 z5 z6 tm td y1 y2 y3 y4 y5 y6) (some (.retAddr 1), (rm h f len (at') rl rg z1 z2 z3 z4 z5 z6 tm (td') y1 y2 y3 y4 y5 y6))) (h5 : ∀ j, j < 5 → am_ag td' j ≤ 99) (hz1 : z1 ≤ 4) (hz2 : z2 ≤ 9) (hz3 : z3 ≤ 6) (hz4 : z4 ≤ 4) (hz5 : z5 ≤ 6) (hz6 : z6 ≤ 4) (hf : z5 < 6) (hc : ¬ (am_ag td' 0 ≤ 7 ∧ am_ag td' 1 ≤ 7 ∧ am_ag td' 2 ≤ 7)) : am_EG mi_149 [.ref 66] (rm h f len at_ rl rg z1 z2 z3 z4 z5 z6 tm td y1 y2 y3 y4 y5 y6) (some (.retAddr 0), (rm h f len (at') rl rg z1 z2 z3 z4 z5 z6 tm (td') y1 y2 y3 y4 y5 y6)) := by
  refine am_enter (n := 0) tk_149.2.1 (by simp [Value.category]) (Nat.le_of_ble_eq_true rfl) ?_
  show am_Good mi_149 0 [some (.ref 66)] [] (rm h f len at_ rl rg z1 z2 z3 z4 z5 z6 tm td y1 y2 y3 y4 y5 y6) _
  have hb0 := h5 0 (by decide)
  have hb1 := h5 1 (by decide)
  have hb2 := h5 2 (by decide)
  have hb3 := h5 3 (by decide)
  have hb4 := h5 4 (by decide)
  refine g_aload_n (i := 0) dd_149_0 rfl ?_
  refine g_getfield (k := 28) am_ck12 (by decide) (Or.inl w_963) dd_149_1 (rm_g66 hH) rfl ?_
  refine g_bipush dd_149_4 bi_6 ?_
  refine g_icmp_eq_f (t := 50) dd_149_6 (by decide) (tk_eq_f (by omega)) ?_
  refine g_aload_n (i := 0) dd_149_9 rfl ?_
  refine g_iconst dd_149_10 ic_3 ?_
  refine g_virtual (M' := mi_139) (n := 1) (ci := 12) (b := 66) (as := [.retAddr 3]) (st := []) (r1 := (some (.retAddr 1), (rm h f len (at') rl rg z1 z2 z3 z4 z5 z6 tm (td') y1 y2 y3 y4 y5 y6))) w_1129 w_1131 ps_139 ⟨lk_139.1, lk_139.2.1, lk_139.2.2, by decide, by decide⟩ rfl (rm_g66 hH) rfl (by simp [Value.category]) dd_149_11 (hrn) ?_
  show am_Good mi_149 14 [some (.ref 66)] [.retAddr 1] (rm h f len (at') rl rg z1 z2 z3 z4 z5 z6 tm (td') y1 y2 y3 y4 y5 y6) _
  refine g_if_eq_f (t := 50) dd_149_14 (by decide) (by decide) ?_
  refine g_aload_n (i := 0) dd_149_17 rfl ?_
  refine g_iconst dd_149_18 ic_0 ?_
  refine g_iconst dd_149_19 ic_0 ?_
  refine g_bipush dd_149_20 bi_7 ?_
  by_cases hw0 : 0 ≤ am_ag (td') 0 ∧ am_ag (td') 0 ≤ 7
  · refine g_virtual (M' := mi_141) (n := 3) (ci := 12) (b := 66) (as := [.retAddr 0, .retAddr 0, .retAddr 7]) (st := []) (r1 := (some (.retAddr 1), (rm h f len (at') rl rg z1 z2 z3 z4 z5 z6 tm (td') y1 y2 y3 y4 y5 y6))) w_1136 w_1138 ps_141 ⟨lk_141.1, lk_141.2.1, lk_141.2.2, by decide, by decide⟩ rfl (rm_g66 hH) rfl (by simp [Value.category]) dd_149_22 (m_tw1 hH h5 (by decide) (by decide) (by omega) hw0) ?_
    show am_Good mi_149 25 [some (.ref 66)] [.retAddr 1] (rm h f len (at') rl rg z1 z2 z3 z4 z5 z6 tm (td') y1 y2 y3 y4 y5 y6) _
    refine g_if_eq_f (t := 50) dd_149_25 (by decide) (by decide) ?_
    refine g_aload_n (i := 0) dd_149_28 rfl ?_
    refine g_iconst dd_149_29 ic_1 ?_
    refine g_iconst dd_149_30 ic_0 ?_
    refine g_bipush dd_149_31 bi_7 ?_
    by_cases hw1 : 0 ≤ am_ag (td') 1 ∧ am_ag (td') 1 ≤ 7
    · refine g_virtual (M' := mi_141) (n := 3) (ci := 12) (b := 66) (as := [.retAddr 1, .retAddr 0, .retAddr 7]) (st := []) (r1 := (some (.retAddr 1), (rm h f len (at') rl rg z1 z2 z3 z4 z5 z6 tm (td') y1 y2 y3 y4 y5 y6))) w_1136 w_1138 ps_141 ⟨lk_141.1, lk_141.2.1, lk_141.2.2, by decide, by decide⟩ rfl (rm_g66 hH) rfl (by simp [Value.category]) dd_149_33 (m_tw1 hH h5 (by decide) (by decide) (by omega) hw1) ?_
      show am_Good mi_149 36 [some (.ref 66)] [.retAddr 1] (rm h f len (at') rl rg z1 z2 z3 z4 z5 z6 tm (td') y1 y2 y3 y4 y5 y6) _
      refine g_if_eq_f (t := 50) dd_149_36 (by decide) (by decide) ?_
      refine g_aload_n (i := 0) dd_149_39 rfl ?_
      refine g_iconst dd_149_40 ic_2 ?_
      refine g_iconst dd_149_41 ic_0 ?_
      refine g_bipush dd_149_42 bi_7 ?_
      by_cases hw2 : 0 ≤ am_ag (td') 2 ∧ am_ag (td') 2 ≤ 7
      · refine g_virtual (M' := mi_141) (n := 3) (ci := 12) (b := 66) (as := [.retAddr 2, .retAddr 0, .retAddr 7]) (st := []) (r1 := (some (.retAddr 1), (rm h f len (at') rl rg z1 z2 z3 z4 z5 z6 tm (td') y1 y2 y3 y4 y5 y6))) w_1136 w_1138 ps_141 ⟨lk_141.1, lk_141.2.1, lk_141.2.2, by decide, by decide⟩ rfl (rm_g66 hH) rfl (by simp [Value.category]) dd_149_44 (m_tw1 hH h5 (by decide) (by decide) (by omega) hw2) ?_
        show am_Good mi_149 47 [some (.ref 66)] [.retAddr 1] (rm h f len (at') rl rg z1 z2 z3 z4 z5 z6 tm (td') y1 y2 y3 y4 y5 y6) _
        refine g_if_ne_t (t := 52) dd_149_47 (by decide) (by decide) ?_
        exfalso
        omega
      · refine g_virtual (M' := mi_141) (n := 3) (ci := 12) (b := 66) (as := [.retAddr 2, .retAddr 0, .retAddr 7]) (st := []) (r1 := (some (.retAddr 0), (rm h f len (at') rl rg z1 z2 z3 z4 z5 z6 tm (td') y1 y2 y3 y4 y5 y6))) w_1136 w_1138 ps_141 ⟨lk_141.1, lk_141.2.1, lk_141.2.2, by decide, by decide⟩ rfl (rm_g66 hH) rfl (by simp [Value.category]) dd_149_44 (m_tw0 hH h5 (by decide) (by decide) (by omega) hw2) ?_
        show am_Good mi_149 47 [some (.ref 66)] [.retAddr 0] (rm h f len (at') rl rg z1 z2 z3 z4 z5 z6 tm (td') y1 y2 y3 y4 y5 y6) _
        refine g_if_ne_f (t := 52) dd_149_47 (by decide) (by decide) ?_
        refine g_iconst dd_149_50 ic_0 ?_
        exact g_zreturn rfl (by first | decide | omega) dd_149_51
    · refine g_virtual (M' := mi_141) (n := 3) (ci := 12) (b := 66) (as := [.retAddr 1, .retAddr 0, .retAddr 7]) (st := []) (r1 := (some (.retAddr 0), (rm h f len (at') rl rg z1 z2 z3 z4 z5 z6 tm (td') y1 y2 y3 y4 y5 y6))) w_1136 w_1138 ps_141 ⟨lk_141.1, lk_141.2.1, lk_141.2.2, by decide, by decide⟩ rfl (rm_g66 hH) rfl (by simp [Value.category]) dd_149_33 (m_tw0 hH h5 (by decide) (by decide) (by omega) hw1) ?_
      show am_Good mi_149 36 [some (.ref 66)] [.retAddr 0] (rm h f len (at') rl rg z1 z2 z3 z4 z5 z6 tm (td') y1 y2 y3 y4 y5 y6) _
      refine g_if_eq_t (t := 50) dd_149_36 (by decide) (by decide) ?_
      refine g_iconst dd_149_50 ic_0 ?_
      exact g_zreturn rfl (by first | decide | omega) dd_149_51
  · refine g_virtual (M' := mi_141) (n := 3) (ci := 12) (b := 66) (as := [.retAddr 0, .retAddr 0, .retAddr 7]) (st := []) (r1 := (some (.retAddr 0), (rm h f len (at') rl rg z1 z2 z3 z4 z5 z6 tm (td') y1 y2 y3 y4 y5 y6))) w_1136 w_1138 ps_141 ⟨lk_141.1, lk_141.2.1, lk_141.2.2, by decide, by decide⟩ rfl (rm_g66 hH) rfl (by simp [Value.category]) dd_149_22 (m_tw0 hH h5 (by decide) (by decide) (by omega) hw0) ?_
    show am_Good mi_149 25 [some (.ref 66)] [.retAddr 0] (rm h f len (at') rl rg z1 z2 z3 z4 z5 z6 tm (td') y1 y2 y3 y4 y5 y6) _
    refine g_if_eq_t (t := 50) dd_149_25 (by decide) (by decide) ?_
    refine g_iconst dd_149_50 ic_0 ?_
    exact g_zreturn rfl (by first | decide | omega) dd_149_51
theorem m_i119_f {h : am_H} {f : Nat → Value} {len at_ rl rg z1 z2 z3 z4 z5 z6 tm td y1 y2 y3 y4 y5 y6 : Nat} (hH : rm_ok h) (hf : z6 = 4) : am_EG mi_150 [.ref 66] (rm h f len at_ rl rg z1 z2 z3 z4 z5 z6 tm td y1 y2 y3 y4 y5 y6) (some (.retAddr 0), (rm h f len at_ rl rg z1 z2 z3 z4 z5 z6 tm td y1 y2 y3 y4 y5 y6)) := by
  refine am_enter (n := 0) tk_150.2.1 (by simp [Value.category]) (Nat.le_of_ble_eq_true rfl) ?_
  show am_Good mi_150 0 [some (.ref 66)] [] (rm h f len at_ rl rg z1 z2 z3 z4 z5 z6 tm td y1 y2 y3 y4 y5 y6) _
  refine g_aload_n (i := 0) dd_150_0 rfl ?_
  refine g_getfield (k := 30) am_ck12 (by decide) (Or.inl w_965) dd_150_1 (rm_g66 hH) rfl ?_
  refine g_iconst dd_150_4 ic_4 ?_
  refine g_icmp_eq_t (t := 41) dd_150_5 (by decide) (tk_eq_t (by omega)) ?_
  refine g_iconst dd_150_41 ic_0 ?_
  exact g_zreturn rfl (by first | decide | omega) dd_150_42
theorem m_i119_n {h : am_H} {f : Nat → Value} {len at_ rl rg z1 z2 z3 z4 z5 z6 tm td y1 y2 y3 y4 y5 y6 : Nat} (hH : rm_ok h) {at' td' : Nat} (hrn : am_EG mi_139 [.ref 66, .retAddr 2] (rm h f len at_ rl rg z1 z2 z3 z4 z5 z6 tm td y1 y2 y3 y4 y5 y6) (some (.retAddr 0), (rm h f len (at') rl rg z1 z2 z3 z4 z5 z6 tm (td') y1 y2 y3 y4 y5 y6))) (h5 : ∀ j, j < 5 → am_ag td' j ≤ 99) (hz1 : z1 ≤ 4) (hz2 : z2 ≤ 9) (hz3 : z3 ≤ 6) (hz4 : z4 ≤ 4) (hz5 : z5 ≤ 6) (hz6 : z6 ≤ 4) (hf : z6 < 4) : am_EG mi_150 [.ref 66] (rm h f len at_ rl rg z1 z2 z3 z4 z5 z6 tm td y1 y2 y3 y4 y5 y6) (some (.retAddr 0), (rm h f len (at') rl rg z1 z2 z3 z4 z5 z6 tm (td') y1 y2 y3 y4 y5 y6)) := by
  refine am_enter (n := 0) tk_150.2.1 (by simp [Value.category]) (Nat.le_of_ble_eq_true rfl) ?_
  show am_Good mi_150 0 [some (.ref 66)] [] (rm h f len at_ rl rg z1 z2 z3 z4 z5 z6 tm td y1 y2 y3 y4 y5 y6) _
  refine g_aload_n (i := 0) dd_150_0 rfl ?_
  refine g_getfield (k := 30) am_ck12 (by decide) (Or.inl w_965) dd_150_1 (rm_g66 hH) rfl ?_
  refine g_iconst dd_150_4 ic_4 ?_
  refine g_icmp_eq_f (t := 41) dd_150_5 (by decide) (tk_eq_f (by omega)) ?_
  refine g_aload_n (i := 0) dd_150_8 rfl ?_
  refine g_iconst dd_150_9 ic_2 ?_
  refine g_virtual (M' := mi_139) (n := 1) (ci := 12) (b := 66) (as := [.retAddr 2]) (st := []) (r1 := (some (.retAddr 0), (rm h f len (at') rl rg z1 z2 z3 z4 z5 z6 tm (td') y1 y2 y3 y4 y5 y6))) w_1129 w_1131 ps_139 ⟨lk_139.1, lk_139.2.1, lk_139.2.2, by decide, by decide⟩ rfl (rm_g66 hH) rfl (by simp [Value.category]) dd_150_10 (hrn) ?_
  show am_Good mi_150 13 [some (.ref 66)] [.retAddr 0] (rm h f len (at') rl rg z1 z2 z3 z4 z5 z6 tm (td') y1 y2 y3 y4 y5 y6) _
  refine g_if_eq_t (t := 41) dd_150_13 (by decide) (by decide) ?_
  refine g_iconst dd_150_41 ic_0 ?_
  exact g_zreturn rfl (by first | decide | omega) dd_150_42
theorem m_i119_1 {h : am_H} {f : Nat → Value} {len at_ rl rg z1 z2 z3 z4 z5 z6 tm td y1 y2 y3 y4 y5 y6 : Nat} (hH : rm_ok h) {at' td' : Nat} (hrn : am_EG mi_139 [.ref 66, .retAddr 2] (rm h f len at_ rl rg z1 z2 z3 z4 z5 z6 tm td y1 y2 y3 y4 y5 y6) (some (.retAddr 1), (rm h f len (at') rl rg z1 z2 z3 z4 z5 z6 tm (td') y1 y2 y3 y4 y5 y6))) (h5 : ∀ j, j < 5 → am_ag td' j ≤ 99) (hz1 : z1 ≤ 4) (hz2 : z2 ≤ 9) (hz3 : z3 ≤ 6) (hz4 : z4 ≤ 4) (hz5 : z5 ≤ 6) (hz6 : z6 ≤ 4) (hf : z6 < 4) (hc : am_ag td' 0 ≤ 3 ∧ am_ag td' 1 < z1) : am_EG mi_150 [.ref 66] (rm h f len at_ rl rg z1 z2 z3 z4 z5 z6 tm td y1 y2 y3 y4 y5 y6) (some (.retAddr 1), (rm h f len (at') rl rg z1 z2 z3 z4 z5 (z6 + 1) tm (td') y1 y2 y3 y4 y5 (am_as (am_as y6 (2 * z6) (am_ag (td') 0)) (2 * z6 + 1) (am_ag (td') 1)))) := by
  refine am_enter (n := 0) tk_150.2.1 (by simp [Value.category]) (Nat.le_of_ble_eq_true rfl) ?_
  show am_Good mi_150 0 [some (.ref 66)] [] (rm h f len at_ rl rg z1 z2 z3 z4 z5 z6 tm td y1 y2 y3 y4 y5 y6) _
  have hb0 := h5 0 (by decide)
  have hb1 := h5 1 (by decide)
  have hb2 := h5 2 (by decide)
  have hb3 := h5 3 (by decide)
  have hb4 := h5 4 (by decide)
  refine g_aload_n (i := 0) dd_150_0 rfl ?_
  refine g_getfield (k := 30) am_ck12 (by decide) (Or.inl w_965) dd_150_1 (rm_g66 hH) rfl ?_
  refine g_iconst dd_150_4 ic_4 ?_
  refine g_icmp_eq_f (t := 41) dd_150_5 (by decide) (tk_eq_f (by omega)) ?_
  refine g_aload_n (i := 0) dd_150_8 rfl ?_
  refine g_iconst dd_150_9 ic_2 ?_
  refine g_virtual (M' := mi_139) (n := 1) (ci := 12) (b := 66) (as := [.retAddr 2]) (st := []) (r1 := (some (.retAddr 1), (rm h f len (at') rl rg z1 z2 z3 z4 z5 z6 tm (td') y1 y2 y3 y4 y5 y6))) w_1129 w_1131 ps_139 ⟨lk_139.1, lk_139.2.1, lk_139.2.2, by decide, by decide⟩ rfl (rm_g66 hH) rfl (by simp [Value.category]) dd_150_10 (hrn) ?_
  show am_Good mi_150 13 [some (.ref 66)] [.retAddr 1] (rm h f len (at') rl rg z1 z2 z3 z4 z5 z6 tm (td') y1 y2 y3 y4 y5 y6) _
  refine g_if_eq_f (t := 41) dd_150_13 (by decide) (by decide) ?_
  refine g_aload_n (i := 0) dd_150_16 rfl ?_
  refine g_iconst dd_150_17 ic_0 ?_
  refine g_iconst dd_150_18 ic_0 ?_
  refine g_iconst dd_150_19 ic_3 ?_
  refine g_virtual (M' := mi_141) (n := 3) (ci := 12) (b := 66) (as := [.retAddr 0, .retAddr 0, .retAddr 3]) (st := []) (r1 := (some (.retAddr 1), (rm h f len (at') rl rg z1 z2 z3 z4 z5 z6 tm (td') y1 y2 y3 y4 y5 y6))) w_1136 w_1138 ps_141 ⟨lk_141.1, lk_141.2.1, lk_141.2.2, by decide, by decide⟩ rfl (rm_g66 hH) rfl (by simp [Value.category]) dd_150_20 (m_tw1 hH h5 (by decide) (by decide) (by omega) (by omega)) ?_
  show am_Good mi_150 23 [some (.ref 66)] [.retAddr 1] (rm h f len (at') rl rg z1 z2 z3 z4 z5 z6 tm (td') y1 y2 y3 y4 y5 y6) _
  refine g_if_eq_f (t := 41) dd_150_23 (by decide) (by decide) ?_
  refine g_aload_n (i := 0) dd_150_26 rfl ?_
  refine g_iconst dd_150_27 ic_1 ?_
  refine g_iconst dd_150_28 ic_0 ?_
  refine g_aload_n (i := 0) dd_150_29 rfl ?_
  refine g_getfield (k := 20) am_ck12 (by decide) (Or.inl w_955) dd_150_30 (rm_g66 hH) rfl ?_
  refine g_iconst dd_150_33 ic_1 ?_
  refine e_isub (v := (z1 + 4294967295) % 4294967296) dd_150_34 (by omega) ?_
  refine g_virtual (M' := mi_141) (n := 3) (ci := 12) (b := 66) (as := [.retAddr 1, .retAddr 0, .retAddr ((z1 + 4294967295) % 4294967296)]) (st := []) (r1 := (some (.retAddr 1), (rm h f len (at') rl rg z1 z2 z3 z4 z5 z6 tm (td') y1 y2 y3 y4 y5 y6))) w_1136 w_1138 ps_141 ⟨lk_141.1, lk_141.2.1, lk_141.2.2, by decide, by decide⟩ rfl (rm_g66 hH) rfl (by simp [Value.category]) dd_150_35 (m_tz1 hH h5 hz1 (by decide) (by omega) (by omega)) ?_
  show am_Good mi_150 38 [some (.ref 66)] [.retAddr 1] (rm h f len (at') rl rg z1 z2 z3 z4 z5 z6 tm (td') y1 y2 y3 y4 y5 y6) _
  refine g_if_ne_t (t := 43) dd_150_38 (by decide) (by decide) ?_
  refine g_aload_n (i := 0) dd_150_43 rfl ?_
  refine g_getfield (k := 31) am_ck12 (by decide) (Or.inl w_966) dd_150_44 (rm_g66 hH) rfl ?_
  refine g_iconst dd_150_47 ic_2 ?_
  refine g_aload_n (i := 0) dd_150_48 rfl ?_
  refine g_getfield (k := 30) am_ck12 (by decide) (Or.inl w_965) dd_150_49 (rm_g66 hH) rfl ?_
  refine e_imul (v := 2 * z6) dd_150_52 (by omega) ?_
  refine g_aload_n (i := 0) dd_150_53 rfl ?_
  refine g_getfield (k := 17) am_ck12 (by decide) (Or.inl w_952) dd_150_54 (rm_g66 hH) rfl ?_
  refine g_iconst dd_150_57 ic_2 ?_
  refine g_static (M' := mi_145) (n := 4) (as := [.ref 80, .retAddr (2 * z6), .ref 74, .retAddr 2]) (st := []) (r1 := (none, (rm h f len (at') rl rg z1 z2 z3 z4 z5 z6 tm (td') y1 y2 y3 y4 y5 (am_as (am_as y6 (2 * z6) (am_ag (td') 0)) (2 * z6 + 1) (am_ag (td') 1))))) w_1152 w_1153 ⟨lk_145.1, lk_145.2.1, lk_145.2.2, by decide, by decide⟩ rfl (by simp [Value.category]) dd_150_58 (m_put5 hH (by omega)) ?_
  show am_Good mi_150 61 [some (.ref 66)] [] (rm h f len (at') rl rg z1 z2 z3 z4 z5 z6 tm (td') y1 y2 y3 y4 y5 (am_as (am_as y6 (2 * z6) (am_ag (td') 0)) (2 * z6 + 1) (am_ag (td') 1))) _
  refine g_aload_n (i := 0) dd_150_61 rfl ?_
  refine g_dup dd_150_62 rfl ?_
  refine g_getfield (k := 30) am_ck12 (by decide) (Or.inl w_965) dd_150_63 (rm_g66 hH) rfl ?_
  refine g_iconst dd_150_66 ic_1 ?_
  refine e_iadd (v := z6 + 1) dd_150_67 (by omega) ?_
  refine g_putfield (k := 30) am_ck12 (by decide) (Or.inl w_965) (Or.inl rfl) dd_150_68 (rm_g66 hH) (Nat.le_of_ble_eq_true rfl) trivial ?_
  refine am_heq (rm_u66 hH) ?_
  show am_Good mi_150 71 [some (.ref 66)] [] (rm h f len (at') rl rg z1 z2 z3 z4 z5 (z6 + 1) tm (td') y1 y2 y3 y4 y5 (am_as (am_as y6 (2 * z6) (am_ag (td') 0)) (2 * z6 + 1) (am_ag (td') 1))) _
  refine g_iconst dd_150_71 ic_1 ?_
  exact g_zreturn rfl (by first | decide | omega) dd_150_72
theorem m_i119_0 {h : am_H} {f : Nat → Value} {len at_ rl rg z1 z2 z3 z4 z5 z6 tm td y1 y2 y3 y4 y5 y6 : Nat} (hH : rm_ok h) {at' td' : Nat} (hrn : am_EG mi_139 [.ref 66, .retAddr 2] (rm h f len at_ rl rg z1 z2 z3 z4 z5 z6 tm td y1 y2 y3 y4 y5 y6) (some (.retAddr 1), (rm h f len (at') rl rg z1 z2 z3 z4 z5 z6 tm (td') y1 y2 y3 y4 y5 y6))) (h5 : ∀ j, j < 5 → am_ag td' j ≤ 99) (hz1 : z1 ≤ 4) (hz2 : z2 ≤ 9) (hz3 : z3 ≤ 6) (hz4 : z4 ≤ 4) (hz5 : z5 ≤ 6) (hz6 : z6 ≤ 4) (hf : z6 < 4) (hc : ¬ (am_ag td' 0 ≤ 3 ∧ am_ag td' 1 < z1)) : am_EG mi_150 [.ref 66] (rm h f len at_ rl rg z1 z2 z3 z4 z5 z6 tm td y1 y2 y3 y4 y5 y6) (some (.retAddr 0), (rm h f len (at') rl rg z1 z2 z3 z4 z5 z6 tm (td') y1 y2 y3 y4 y5 y6)) := by
  refine am_enter (n := 0) tk_150.2.1 (by simp [Value.category]) (Nat.le_of_ble_eq_true rfl) ?_
  show am_Good mi_150 0 [some (.ref 66)] [] (rm h f len at_ rl rg z1 z2 z3 z4 z5 z6 tm td y1 y2 y3 y4 y5 y6) _
  have hb0 := h5 0 (by decide)
  have hb1 := h5 1 (by decide)
  have hb2 := h5 2 (by decide)
  have hb3 := h5 3 (by decide)
  have hb4 := h5 4 (by decide)
  refine g_aload_n (i := 0) dd_150_0 rfl ?_
  refine g_getfield (k := 30) am_ck12 (by decide) (Or.inl w_965) dd_150_1 (rm_g66 hH) rfl ?_
  refine g_iconst dd_150_4 ic_4 ?_
  refine g_icmp_eq_f (t := 41) dd_150_5 (by decide) (tk_eq_f (by omega)) ?_
  refine g_aload_n (i := 0) dd_150_8 rfl ?_
  refine g_iconst dd_150_9 ic_2 ?_
  refine g_virtual (M' := mi_139) (n := 1) (ci := 12) (b := 66) (as := [.retAddr 2]) (st := []) (r1 := (some (.retAddr 1), (rm h f len (at') rl rg z1 z2 z3 z4 z5 z6 tm (td') y1 y2 y3 y4 y5 y6))) w_1129 w_1131 ps_139 ⟨lk_139.1, lk_139.2.1, lk_139.2.2, by decide, by decide⟩ rfl (rm_g66 hH) rfl (by simp [Value.category]) dd_150_10 (hrn) ?_
  show am_Good mi_150 13 [some (.ref 66)] [.retAddr 1] (rm h f len (at') rl rg z1 z2 z3 z4 z5 z6 tm (td') y1 y2 y3 y4 y5 y6) _
  refine g_if_eq_f (t := 41) dd_150_13 (by decide) (by decide) ?_
  refine g_aload_n (i := 0) dd_150_16 rfl ?_
  refine g_iconst dd_150_17 ic_0 ?_
  refine g_iconst dd_150_18 ic_0 ?_
  refine g_iconst dd_150_19 ic_3 ?_
  by_cases hw0 : 0 ≤ am_ag (td') 0 ∧ am_ag (td') 0 ≤ 3
  · refine g_virtual (M' := mi_141) (n := 3) (ci := 12) (b := 66) (as := [.retAddr 0, .retAddr 0, .retAddr 3]) (st := []) (r1 := (some (.retAddr 1), (rm h f len (at') rl rg z1 z2 z3 z4 z5 z6 tm (td') y1 y2 y3 y4 y5 y6))) w_1136 w_1138 ps_141 ⟨lk_141.1, lk_141.2.1, lk_141.2.2, by decide, by decide⟩ rfl (rm_g66 hH) rfl (by simp [Value.category]) dd_150_20 (m_tw1 hH h5 (by decide) (by decide) (by omega) hw0) ?_
    show am_Good mi_150 23 [some (.ref 66)] [.retAddr 1] (rm h f len (at') rl rg z1 z2 z3 z4 z5 z6 tm (td') y1 y2 y3 y4 y5 y6) _
    refine g_if_eq_f (t := 41) dd_150_23 (by decide) (by decide) ?_
    refine g_aload_n (i := 0) dd_150_26 rfl ?_
    refine g_iconst dd_150_27 ic_1 ?_
    refine g_iconst dd_150_28 ic_0 ?_
    refine g_aload_n (i := 0) dd_150_29 rfl ?_
    refine g_getfield (k := 20) am_ck12 (by decide) (Or.inl w_955) dd_150_30 (rm_g66 hH) rfl ?_
    refine g_iconst dd_150_33 ic_1 ?_
    refine e_isub (v := (z1 + 4294967295) % 4294967296) dd_150_34 (by omega) ?_
    by_cases hw1 : 0 ≤ am_ag (td') 1 ∧ am_ag (td') 1 < z1
    · refine g_virtual (M' := mi_141) (n := 3) (ci := 12) (b := 66) (as := [.retAddr 1, .retAddr 0, .retAddr ((z1 + 4294967295) % 4294967296)]) (st := []) (r1 := (some (.retAddr 1), (rm h f len (at') rl rg z1 z2 z3 z4 z5 z6 tm (td') y1 y2 y3 y4 y5 y6))) w_1136 w_1138 ps_141 ⟨lk_141.1, lk_141.2.1, lk_141.2.2, by decide, by decide⟩ rfl (rm_g66 hH) rfl (by simp [Value.category]) dd_150_35 (m_tz1 hH h5 hz1 (by decide) (by omega) hw1) ?_
      show am_Good mi_150 38 [some (.ref 66)] [.retAddr 1] (rm h f len (at') rl rg z1 z2 z3 z4 z5 z6 tm (td') y1 y2 y3 y4 y5 y6) _
      refine g_if_ne_t (t := 43) dd_150_38 (by decide) (by decide) ?_
      exfalso
      omega
    · refine g_virtual (M' := mi_141) (n := 3) (ci := 12) (b := 66) (as := [.retAddr 1, .retAddr 0, .retAddr ((z1 + 4294967295) % 4294967296)]) (st := []) (r1 := (some (.retAddr 0), (rm h f len (at') rl rg z1 z2 z3 z4 z5 z6 tm (td') y1 y2 y3 y4 y5 y6))) w_1136 w_1138 ps_141 ⟨lk_141.1, lk_141.2.1, lk_141.2.2, by decide, by decide⟩ rfl (rm_g66 hH) rfl (by simp [Value.category]) dd_150_35 (m_tz0 hH h5 hz1 (by decide) (by omega) hw1) ?_
      show am_Good mi_150 38 [some (.ref 66)] [.retAddr 0] (rm h f len (at') rl rg z1 z2 z3 z4 z5 z6 tm (td') y1 y2 y3 y4 y5 y6) _
      refine g_if_ne_f (t := 43) dd_150_38 (by decide) (by decide) ?_
      refine g_iconst dd_150_41 ic_0 ?_
      exact g_zreturn rfl (by first | decide | omega) dd_150_42
  · refine g_virtual (M' := mi_141) (n := 3) (ci := 12) (b := 66) (as := [.retAddr 0, .retAddr 0, .retAddr 3]) (st := []) (r1 := (some (.retAddr 0), (rm h f len (at') rl rg z1 z2 z3 z4 z5 z6 tm (td') y1 y2 y3 y4 y5 y6))) w_1136 w_1138 ps_141 ⟨lk_141.1, lk_141.2.1, lk_141.2.2, by decide, by decide⟩ rfl (rm_g66 hH) rfl (by simp [Value.category]) dd_150_20 (m_tw0 hH h5 (by decide) (by decide) (by omega) hw0) ?_
    show am_Good mi_150 23 [some (.ref 66)] [.retAddr 0] (rm h f len (at') rl rg z1 z2 z3 z4 z5 z6 tm (td') y1 y2 y3 y4 y5 y6) _
    refine g_if_eq_t (t := 41) dd_150_23 (by decide) (by decide) ?_
    refine g_iconst dd_150_41 ic_0 ?_
    exact g_zreturn rfl (by first | decide | omega) dd_150_42
theorem m_r98 {h : am_H} {f : Nat → Value} {len at_ rl rg z1 z2 z3 z4 z5 z6 tm td y1 y2 y3 y4 y5 y6 : Nat} (hH : rm_ok h) (hlen : len ≤ 200) (hat : at_ < len) (hch : am_ag tm at_ = 98) {b : Nat} {h2 : am_H} (hb : b < 2) (hm : am_EG mi_146 [.ref 66] (rm h f len (at_ + 1) rl rg z1 z2 z3 z4 z5 z6 tm td y1 y2 y3 y4 y5 y6) (some (.retAddr b), h2)) : am_EG mi_136 [.ref 66] (rm h f len at_ rl rg z1 z2 z3 z4 z5 z6 tm td y1 y2 y3 y4 y5 y6) (some (.retAddr b), h2) := by
  refine am_enter (n := 1) tk_136.2.1 (by simp [Value.category]) (Nat.le_of_ble_eq_true rfl) ?_
  show am_Good mi_136 0 [some (.ref 66), none] [] (rm h f len at_ rl rg z1 z2 z3 z4 z5 z6 tm td y1 y2 y3 y4 y5 y6) _
  refine g_aload_n (i := 0) dd_136_0 rfl ?_
  refine g_aload_n (i := 0) dd_136_1 rfl ?_
  refine g_getfield (k := 16) am_ck12 (by decide) (Or.inl w_951) dd_136_2 (rm_g66 hH) rfl ?_
  refine g_virtual (M' := mi_137) (n := 1) (ci := 12) (b := 66) (as := [.retAddr at_]) (st := []) (r1 := (some (.retAddr 98), (rm h f len at_ rl rg z1 z2 z3 z4 z5 z6 tm td y1 y2 y3 y4 y5 y6))) w_1121 w_1123 ps_137 ⟨lk_137.1, lk_137.2.1, lk_137.2.2, by decide, by decide⟩ rfl (rm_g66 hH) rfl (by simp [Value.category]) dd_136_5 (by rw [← hch]; exact m_la1 hH hat hlen) ?_
  show am_Good mi_136 8 [some (.ref 66), none] [.retAddr 98] (rm h f len at_ rl rg z1 z2 z3 z4 z5 z6 tm td y1 y2 y3 y4 y5 y6) _
  refine g_istore_n (i := 1) dd_136_8 (am_nlb_ok rfl) (by decide) ?_
  refine g_aload_n (i := 0) dd_136_9 rfl ?_
  refine g_dup dd_136_10 rfl ?_
  refine g_getfield (k := 16) am_ck12 (by decide) (Or.inl w_951) dd_136_11 (rm_g66 hH) rfl ?_
  refine g_iconst dd_136_14 ic_1 ?_
  refine e_iadd (v := at_ + 1) dd_136_15 (by omega) ?_
  refine g_putfield (k := 16) am_ck12 (by decide) (Or.inl w_951) (Or.inl rfl) dd_136_16 (rm_g66 hH) (Nat.le_of_ble_eq_true rfl) trivial ?_
  refine am_heq (rm_u66 hH) ?_
  show am_Good mi_136 19 [some (.ref 66), some (.retAddr 98)] [] (rm h f len (at_ + 1) rl rg z1 z2 z3 z4 z5 z6 tm td y1 y2 y3 y4 y5 y6) _
  refine g_iload_n (i := 1) dd_136_19 rfl ?_
  refine g_tableIn (a := 98) (off := 119) (t := 139) dd_136_20 (by decide) (by decide) (by decide) rfl (by decide) ?_
  refine g_aload_n (i := 0) dd_136_139 rfl ?_
  refine g_virtual (M' := mi_146) (n := 0) (ci := 12) (b := 66) (as := []) (st := []) (r1 := (some (.retAddr b), h2)) w_1155 w_1157 ps_146 ⟨lk_146.1, lk_146.2.1, lk_146.2.2, by decide, by decide⟩ rfl (rm_g66 hH) rfl (by simp [Value.category]) dd_136_140 (hm) ?_
  show am_Good mi_136 143 [some (.ref 66), some (.retAddr 98)] [.retAddr b] h2 _
  exact g_zreturn rfl (by first | decide | omega) dd_136_143
theorem m_r99 {h : am_H} {f : Nat → Value} {len at_ rl rg z1 z2 z3 z4 z5 z6 tm td y1 y2 y3 y4 y5 y6 : Nat} (hH : rm_ok h) (hlen : len ≤ 200) (hat : at_ < len) (hch : am_ag tm at_ = 99) : am_EG mi_136 [.ref 66] (rm h f len at_ rl rg z1 z2 z3 z4 z5 z6 tm td y1 y2 y3 y4 y5 y6) (some (.retAddr 0), (rm h f len (at_ + 1) rl rg z1 z2 z3 z4 z5 z6 tm td y1 y2 y3 y4 y5 y6)) := by
  refine am_enter (n := 1) tk_136.2.1 (by simp [Value.category]) (Nat.le_of_ble_eq_true rfl) ?_
  show am_Good mi_136 0 [some (.ref 66), none] [] (rm h f len at_ rl rg z1 z2 z3 z4 z5 z6 tm td y1 y2 y3 y4 y5 y6) _
  refine g_aload_n (i := 0) dd_136_0 rfl ?_
  refine g_aload_n (i := 0) dd_136_1 rfl ?_
  refine g_getfield (k := 16) am_ck12 (by decide) (Or.inl w_951) dd_136_2 (rm_g66 hH) rfl ?_
  refine g_virtual (M' := mi_137) (n := 1) (ci := 12) (b := 66) (as := [.retAddr at_]) (st := []) (r1 := (some (.retAddr 99), (rm h f len at_ rl rg z1 z2 z3 z4 z5 z6 tm td y1 y2 y3 y4 y5 y6))) w_1121 w_1123 ps_137 ⟨lk_137.1, lk_137.2.1, lk_137.2.2, by decide, by decide⟩ rfl (rm_g66 hH) rfl (by simp [Value.category]) dd_136_5 (by rw [← hch]; exact m_la1 hH hat hlen) ?_
  show am_Good mi_136 8 [some (.ref 66), none] [.retAddr 99] (rm h f len at_ rl rg z1 z2 z3 z4 z5 z6 tm td y1 y2 y3 y4 y5 y6) _
  refine g_istore_n (i := 1) dd_136_8 (am_nlb_ok rfl) (by decide) ?_
  refine g_aload_n (i := 0) dd_136_9 rfl ?_
  refine g_dup dd_136_10 rfl ?_
  refine g_getfield (k := 16) am_ck12 (by decide) (Or.inl w_951) dd_136_11 (rm_g66 hH) rfl ?_
  refine g_iconst dd_136_14 ic_1 ?_
  refine e_iadd (v := at_ + 1) dd_136_15 (by omega) ?_
  refine g_putfield (k := 16) am_ck12 (by decide) (Or.inl w_951) (Or.inl rfl) dd_136_16 (rm_g66 hH) (Nat.le_of_ble_eq_true rfl) trivial ?_
  refine am_heq (rm_u66 hH) ?_
  show am_Good mi_136 19 [some (.ref 66), some (.retAddr 99)] [] (rm h f len (at_ + 1) rl rg z1 z2 z3 z4 z5 z6 tm td y1 y2 y3 y4 y5 y6) _
  refine g_iload_n (i := 1) dd_136_19 rfl ?_
  refine g_tableIn (a := 99) (off := 144) (t := 164) dd_136_20 (by decide) (by decide) (by decide) rfl (by decide) ?_
  refine g_iconst dd_136_164 ic_0 ?_
  exact g_zreturn rfl (by first | decide | omega) dd_136_165
theorem m_r100 {h : am_H} {f : Nat → Value} {len at_ rl rg z1 z2 z3 z4 z5 z6 tm td y1 y2 y3 y4 y5 y6 : Nat} (hH : rm_ok h) (hlen : len ≤ 200) (hat : at_ < len) (hch : am_ag tm at_ = 100) : am_EG mi_136 [.ref 66] (rm h f len at_ rl rg z1 z2 z3 z4 z5 z6 tm td y1 y2 y3 y4 y5 y6) (some (.retAddr 0), (rm h f len (at_ + 1) rl rg z1 z2 z3 z4 z5 z6 tm td y1 y2 y3 y4 y5 y6)) := by
  refine am_enter (n := 1) tk_136.2.1 (by simp [Value.category]) (Nat.le_of_ble_eq_true rfl) ?_
  show am_Good mi_136 0 [some (.ref 66), none] [] (rm h f len at_ rl rg z1 z2 z3 z4 z5 z6 tm td y1 y2 y3 y4 y5 y6) _
  refine g_aload_n (i := 0) dd_136_0 rfl ?_
  refine g_aload_n (i := 0) dd_136_1 rfl ?_
  refine g_getfield (k := 16) am_ck12 (by decide) (Or.inl w_951) dd_136_2 (rm_g66 hH) rfl ?_
  refine g_virtual (M' := mi_137) (n := 1) (ci := 12) (b := 66) (as := [.retAddr at_]) (st := []) (r1 := (some (.retAddr 100), (rm h f len at_ rl rg z1 z2 z3 z4 z5 z6 tm td y1 y2 y3 y4 y5 y6))) w_1121 w_1123 ps_137 ⟨lk_137.1, lk_137.2.1, lk_137.2.2, by decide, by decide⟩ rfl (rm_g66 hH) rfl (by simp [Value.category]) dd_136_5 (by rw [← hch]; exact m_la1 hH hat hlen) ?_
  show am_Good mi_136 8 [some (.ref 66), none] [.retAddr 100] (rm h f len at_ rl rg z1 z2 z3 z4 z5 z6 tm td y1 y2 y3 y4 y5 y6) _
  refine g_istore_n (i := 1) dd_136_8 (am_nlb_ok rfl) (by decide) ?_
  refine g_aload_n (i := 0) dd_136_9 rfl ?_
  refine g_dup dd_136_10 rfl ?_
  refine g_getfield (k := 16) am_ck12 (by decide) (Or.inl w_951) dd_136_11 (rm_g66 hH) rfl ?_
  refine g_iconst dd_136_14 ic_1 ?_
  refine e_iadd (v := at_ + 1) dd_136_15 (by omega) ?_
  refine g_putfield (k := 16) am_ck12 (by decide) (Or.inl w_951) (Or.inl rfl) dd_136_16 (rm_g66 hH) (Nat.le_of_ble_eq_true rfl) trivial ?_
  refine am_heq (rm_u66 hH) ?_
  show am_Good mi_136 19 [some (.ref 66), some (.retAddr 100)] [] (rm h f len (at_ + 1) rl rg z1 z2 z3 z4 z5 z6 tm td y1 y2 y3 y4 y5 y6) _
  refine g_iload_n (i := 1) dd_136_19 rfl ?_
  refine g_tableIn (a := 100) (off := 144) (t := 164) dd_136_20 (by decide) (by decide) (by decide) rfl (by decide) ?_
  refine g_iconst dd_136_164 ic_0 ?_
  exact g_zreturn rfl (by first | decide | omega) dd_136_165
theorem m_r101 {h : am_H} {f : Nat → Value} {len at_ rl rg z1 z2 z3 z4 z5 z6 tm td y1 y2 y3 y4 y5 y6 : Nat} (hH : rm_ok h) (hlen : len ≤ 200) (hat : at_ < len) (hch : am_ag tm at_ = 101) : am_EG mi_136 [.ref 66] (rm h f len at_ rl rg z1 z2 z3 z4 z5 z6 tm td y1 y2 y3 y4 y5 y6) (some (.retAddr 0), (rm h f len (at_ + 1) rl rg z1 z2 z3 z4 z5 z6 tm td y1 y2 y3 y4 y5 y6)) := by
  refine am_enter (n := 1) tk_136.2.1 (by simp [Value.category]) (Nat.le_of_ble_eq_true rfl) ?_
  show am_Good mi_136 0 [some (.ref 66), none] [] (rm h f len at_ rl rg z1 z2 z3 z4 z5 z6 tm td y1 y2 y3 y4 y5 y6) _
  refine g_aload_n (i := 0) dd_136_0 rfl ?_
  refine g_aload_n (i := 0) dd_136_1 rfl ?_
  refine g_getfield (k := 16) am_ck12 (by decide) (Or.inl w_951) dd_136_2 (rm_g66 hH) rfl ?_
  refine g_virtual (M' := mi_137) (n := 1) (ci := 12) (b := 66) (as := [.retAddr at_]) (st := []) (r1 := (some (.retAddr 101), (rm h f len at_ rl rg z1 z2 z3 z4 z5 z6 tm td y1 y2 y3 y4 y5 y6))) w_1121 w_1123 ps_137 ⟨lk_137.1, lk_137.2.1, lk_137.2.2, by decide, by decide⟩ rfl (rm_g66 hH) rfl (by simp [Value.category]) dd_136_5 (by rw [← hch]; exact m_la1 hH hat hlen) ?_
  show am_Good mi_136 8 [some (.ref 66), none] [.retAddr 101] (rm h f len at_ rl rg z1 z2 z3 z4 z5 z6 tm td y1 y2 y3 y4 y5 y6) _
  refine g_istore_n (i := 1) dd_136_8 (am_nlb_ok rfl) (by decide) ?_
  refine g_aload_n (i := 0) dd_136_9 rfl ?_
  refine g_dup dd_136_10 rfl ?_
  refine g_getfield (k := 16) am_ck12 (by decide) (Or.inl w_951) dd_136_11 (rm_g66 hH) rfl ?_
  refine g_iconst dd_136_14 ic_1 ?_
  refine e_iadd (v := at_ + 1) dd_136_15 (by omega) ?_
  refine g_putfield (k := 16) am_ck12 (by decide) (Or.inl w_951) (Or.inl rfl) dd_136_16 (rm_g66 hH) (Nat.le_of_ble_eq_true rfl) trivial ?_
  refine am_heq (rm_u66 hH) ?_
  show am_Good mi_136 19 [some (.ref 66), some (.retAddr 101)] [] (rm h f len (at_ + 1) rl rg z1 z2 z3 z4 z5 z6 tm td y1 y2 y3 y4 y5 y6) _
  refine g_iload_n (i := 1) dd_136_19 rfl ?_
  refine g_tableIn (a := 101) (off := 144) (t := 164) dd_136_20 (by decide) (by decide) (by decide) rfl (by decide) ?_
  refine g_iconst dd_136_164 ic_0 ?_
  exact g_zreturn rfl (by first | decide | omega) dd_136_165
theorem m_r102 {h : am_H} {f : Nat → Value} {len at_ rl rg z1 z2 z3 z4 z5 z6 tm td y1 y2 y3 y4 y5 y6 : Nat} (hH : rm_ok h) (hlen : len ≤ 200) (hat : at_ < len) (hch : am_ag tm at_ = 102) {b : Nat} {h2 : am_H} (hb : b < 2) (hm : am_EG mi_149 [.ref 66] (rm h f len (at_ + 1) rl rg z1 z2 z3 z4 z5 z6 tm td y1 y2 y3 y4 y5 y6) (some (.retAddr b), h2)) : am_EG mi_136 [.ref 66] (rm h f len at_ rl rg z1 z2 z3 z4 z5 z6 tm td y1 y2 y3 y4 y5 y6) (some (.retAddr b), h2) := by
  refine am_enter (n := 1) tk_136.2.1 (by simp [Value.category]) (Nat.le_of_ble_eq_true rfl) ?_
  show am_Good mi_136 0 [some (.ref 66), none] [] (rm h f len at_ rl rg z1 z2 z3 z4 z5 z6 tm td y1 y2 y3 y4 y5 y6) _
  refine g_aload_n (i := 0) dd_136_0 rfl ?_
  refine g_aload_n (i := 0) dd_136_1 rfl ?_
  refine g_getfield (k := 16) am_ck12 (by decide) (Or.inl w_951) dd_136_2 (rm_g66 hH) rfl ?_
  refine g_virtual (M' := mi_137) (n := 1) (ci := 12) (b := 66) (as := [.retAddr at_]) (st := []) (r1 := (some (.retAddr 102), (rm h f len at_ rl rg z1 z2 z3 z4 z5 z6 tm td y1 y2 y3 y4 y5 y6))) w_1121 w_1123 ps_137 ⟨lk_137.1, lk_137.2.1, lk_137.2.2, by decide, by decide⟩ rfl (rm_g66 hH) rfl (by simp [Value.category]) dd_136_5 (by rw [← hch]; exact m_la1 hH hat hlen) ?_
  show am_Good mi_136 8 [some (.ref 66), none] [.retAddr 102] (rm h f len at_ rl rg z1 z2 z3 z4 z5 z6 tm td y1 y2 y3 y4 y5 y6) _
  refine g_istore_n (i := 1) dd_136_8 (am_nlb_ok rfl) (by decide) ?_
  refine g_aload_n (i := 0) dd_136_9 rfl ?_
  refine g_dup dd_136_10 rfl ?_
  refine g_getfield (k := 16) am_ck12 (by decide) (Or.inl w_951) dd_136_11 (rm_g66 hH) rfl ?_
  refine g_iconst dd_136_14 ic_1 ?_
  refine e_iadd (v := at_ + 1) dd_136_15 (by omega) ?_
  refine g_putfield (k := 16) am_ck12 (by decide) (Or.inl w_951) (Or.inl rfl) dd_136_16 (rm_g66 hH) (Nat.le_of_ble_eq_true rfl) trivial ?_
  refine am_heq (rm_u66 hH) ?_
  show am_Good mi_136 19 [some (.ref 66), some (.retAddr 102)] [] (rm h f len (at_ + 1) rl rg z1 z2 z3 z4 z5 z6 tm td y1 y2 y3 y4 y5 y6) _
  refine g_iload_n (i := 1) dd_136_19 rfl ?_
  refine g_tableIn (a := 102) (off := 134) (t := 154) dd_136_20 (by decide) (by decide) (by decide) rfl (by decide) ?_
  refine g_aload_n (i := 0) dd_136_154 rfl ?_
  refine g_virtual (M' := mi_149) (n := 0) (ci := 12) (b := 66) (as := []) (st := []) (r1 := (some (.retAddr b), h2)) w_1167 w_1169 ps_149 ⟨lk_149.1, lk_149.2.1, lk_149.2.2, by decide, by decide⟩ rfl (rm_g66 hH) rfl (by simp [Value.category]) dd_136_155 (hm) ?_
  show am_Good mi_136 158 [some (.ref 66), some (.retAddr 102)] [.retAddr b] h2 _
  exact g_zreturn rfl (by first | decide | omega) dd_136_158
theorem m_r103 {h : am_H} {f : Nat → Value} {len at_ rl rg z1 z2 z3 z4 z5 z6 tm td y1 y2 y3 y4 y5 y6 : Nat} (hH : rm_ok h) (hlen : len ≤ 200) (hat : at_ < len) (hch : am_ag tm at_ = 103) {b : Nat} {h2 : am_H} (hb : b < 2) (hm : am_EG mi_148 [.ref 66] (rm h f len (at_ + 1) rl rg z1 z2 z3 z4 z5 z6 tm td y1 y2 y3 y4 y5 y6) (some (.retAddr b), h2)) : am_EG mi_136 [.ref 66] (rm h f len at_ rl rg z1 z2 z3 z4 z5 z6 tm td y1 y2 y3 y4 y5 y6) (some (.retAddr b), h2) := by
  refine am_enter (n := 1) tk_136.2.1 (by simp [Value.category]) (Nat.le_of_ble_eq_true rfl) ?_
  show am_Good mi_136 0 [some (.ref 66), none] [] (rm h f len at_ rl rg z1 z2 z3 z4 z5 z6 tm td y1 y2 y3 y4 y5 y6) _
  refine g_aload_n (i := 0) dd_136_0 rfl ?_
  refine g_aload_n (i := 0) dd_136_1 rfl ?_
  refine g_getfield (k := 16) am_ck12 (by decide) (Or.inl w_951) dd_136_2 (rm_g66 hH) rfl ?_
  refine g_virtual (M' := mi_137) (n := 1) (ci := 12) (b := 66) (as := [.retAddr at_]) (st := []) (r1 := (some (.retAddr 103), (rm h f len at_ rl rg z1 z2 z3 z4 z5 z6 tm td y1 y2 y3 y4 y5 y6))) w_1121 w_1123 ps_137 ⟨lk_137.1, lk_137.2.1, lk_137.2.2, by decide, by decide⟩ rfl (rm_g66 hH) rfl (by simp [Value.category]) dd_136_5 (by rw [← hch]; exact m_la1 hH hat hlen) ?_
  show am_Good mi_136 8 [some (.ref 66), none] [.retAddr 103] (rm h f len at_ rl rg z1 z2 z3 z4 z5 z6 tm td y1 y2 y3 y4 y5 y6) _
  refine g_istore_n (i := 1) dd_136_8 (am_nlb_ok rfl) (by decide) ?_
  refine g_aload_n (i := 0) dd_136_9 rfl ?_
  refine g_dup dd_136_10 rfl ?_
  refine g_getfield (k := 16) am_ck12 (by decide) (Or.inl w_951) dd_136_11 (rm_g66 hH) rfl ?_
  refine g_iconst dd_136_14 ic_1 ?_
  refine e_iadd (v := at_ + 1) dd_136_15 (by omega) ?_
  refine g_putfield (k := 16) am_ck12 (by decide) (Or.inl w_951) (Or.inl rfl) dd_136_16 (rm_g66 hH) (Nat.le_of_ble_eq_true rfl) trivial ?_
  refine am_heq (rm_u66 hH) ?_
  show am_Good mi_136 19 [some (.ref 66), some (.retAddr 103)] [] (rm h f len (at_ + 1) rl rg z1 z2 z3 z4 z5 z6 tm td y1 y2 y3 y4 y5 y6) _
  refine g_iload_n (i := 1) dd_136_19 rfl ?_
  refine g_tableIn (a := 103) (off := 129) (t := 149) dd_136_20 (by decide) (by decide) (by decide) rfl (by decide) ?_
  refine g_aload_n (i := 0) dd_136_149 rfl ?_
  refine g_virtual (M' := mi_148) (n := 0) (ci := 12) (b := 66) (as := []) (st := []) (r1 := (some (.retAddr b), h2)) w_1163 w_1165 ps_148 ⟨lk_148.1, lk_148.2.1, lk_148.2.2, by decide, by decide⟩ rfl (rm_g66 hH) rfl (by simp [Value.category]) dd_136_150 (hm) ?_
  show am_Good mi_136 153 [some (.ref 66), some (.retAddr 103)] [.retAddr b] h2 _
  exact g_zreturn rfl (by first | decide | omega) dd_136_153
theorem m_r104 {h : am_H} {f : Nat → Value} {len at_ rl rg z1 z2 z3 z4 z5 z6 tm td y1 y2 y3 y4 y5 y6 : Nat} (hH : rm_ok h) (hlen : len ≤ 200) (hat : at_ < len) (hch : am_ag tm at_ = 104) : am_EG mi_136 [.ref 66] (rm h f len at_ rl rg z1 z2 z3 z4 z5 z6 tm td y1 y2 y3 y4 y5 y6) (some (.retAddr 0), (rm h f len (at_ + 1) rl rg z1 z2 z3 z4 z5 z6 tm td y1 y2 y3 y4 y5 y6)) := by
  refine am_enter (n := 1) tk_136.2.1 (by simp [Value.category]) (Nat.le_of_ble_eq_true rfl) ?_
  show am_Good mi_136 0 [some (.ref 66), none] [] (rm h f len at_ rl rg z1 z2 z3 z4 z5 z6 tm td y1 y2 y3 y4 y5 y6) _
  refine g_aload_n (i := 0) dd_136_0 rfl ?_
  refine g_aload_n (i := 0) dd_136_1 rfl ?_
  refine g_getfield (k := 16) am_ck12 (by decide) (Or.inl w_951) dd_136_2 (rm_g66 hH) rfl ?_
  refine g_virtual (M' := mi_137) (n := 1) (ci := 12) (b := 66) (as := [.retAddr at_]) (st := []) (r1 := (some (.retAddr 104), (rm h f len at_ rl rg z1 z2 z3 z4 z5 z6 tm td y1 y2 y3 y4 y5 y6))) w_1121 w_1123 ps_137 ⟨lk_137.1, lk_137.2.1, lk_137.2.2, by decide, by decide⟩ rfl (rm_g66 hH) rfl (by simp [Value.category]) dd_136_5 (by rw [← hch]; exact m_la1 hH hat hlen) ?_
  show am_Good mi_136 8 [some (.ref 66), none] [.retAddr 104] (rm h f len at_ rl rg z1 z2 z3 z4 z5 z6 tm td y1 y2 y3 y4 y5 y6) _
  refine g_istore_n (i := 1) dd_136_8 (am_nlb_ok rfl) (by decide) ?_
  refine g_aload_n (i := 0) dd_136_9 rfl ?_
  refine g_dup dd_136_10 rfl ?_
  refine g_getfield (k := 16) am_ck12 (by decide) (Or.inl w_951) dd_136_11 (rm_g66 hH) rfl ?_
  refine g_iconst dd_136_14 ic_1 ?_
  refine e_iadd (v := at_ + 1) dd_136_15 (by omega) ?_
  refine g_putfield (k := 16) am_ck12 (by decide) (Or.inl w_951) (Or.inl rfl) dd_136_16 (rm_g66 hH) (Nat.le_of_ble_eq_true rfl) trivial ?_
  refine am_heq (rm_u66 hH) ?_
  show am_Good mi_136 19 [some (.ref 66), some (.retAddr 104)] [] (rm h f len (at_ + 1) rl rg z1 z2 z3 z4 z5 z6 tm td y1 y2 y3 y4 y5 y6) _
  refine g_iload_n (i := 1) dd_136_19 rfl ?_
  refine g_tableIn (a := 104) (off := 144) (t := 164) dd_136_20 (by decide) (by decide) (by decide) rfl (by decide) ?_
  refine g_iconst dd_136_164 ic_0 ?_
  exact g_zreturn rfl (by first | decide | omega) dd_136_165
theorem m_r105 {h : am_H} {f : Nat → Value} {len at_ rl rg z1 z2 z3 z4 z5 z6 tm td y1 y2 y3 y4 y5 y6 : Nat} (hH : rm_ok h) (hlen : len ≤ 200) (hat : at_ < len) (hch : am_ag tm at_ = 105) : am_EG mi_136 [.ref 66] (rm h f len at_ rl rg z1 z2 z3 z4 z5 z6 tm td y1 y2 y3 y4 y5 y6) (some (.retAddr 0), (rm h f len (at_ + 1) rl rg z1 z2 z3 z4 z5 z6 tm td y1 y2 y3 y4 y5 y6)) := by
  refine am_enter (n := 1) tk_136.2.1 (by simp [Value.category]) (Nat.le_of_ble_eq_true rfl) ?_
  show am_Good mi_136 0 [some (.ref 66), none] [] (rm h f len at_ rl rg z1 z2 z3 z4 z5 z6 tm td y1 y2 y3 y4 y5 y6) _
  refine g_aload_n (i := 0) dd_136_0 rfl ?_
  refine g_aload_n (i := 0) dd_136_1 rfl ?_
  refine g_getfield (k := 16) am_ck12 (by decide) (Or.inl w_951) dd_136_2 (rm_g66 hH) rfl ?_
  refine g_virtual (M' := mi_137) (n := 1) (ci := 12) (b := 66) (as := [.retAddr at_]) (st := []) (r1 := (some (.retAddr 105), (rm h f len at_ rl rg z1 z2 z3 z4 z5 z6 tm td y1 y2 y3 y4 y5 y6))) w_1121 w_1123 ps_137 ⟨lk_137.1, lk_137.2.1, lk_137.2.2, by decide, by decide⟩ rfl (rm_g66 hH) rfl (by simp [Value.category]) dd_136_5 (by rw [← hch]; exact m_la1 hH hat hlen) ?_
  show am_Good mi_136 8 [some (.ref 66), none] [.retAddr 105] (rm h f len at_ rl rg z1 z2 z3 z4 z5 z6 tm td y1 y2 y3 y4 y5 y6) _
  refine g_istore_n (i := 1) dd_136_8 (am_nlb_ok rfl) (by decide) ?_
  refine g_aload_n (i := 0) dd_136_9 rfl ?_
  refine g_dup dd_136_10 rfl ?_
  refine g_getfield (k := 16) am_ck12 (by decide) (Or.inl w_951) dd_136_11 (rm_g66 hH) rfl ?_
  refine g_iconst dd_136_14 ic_1 ?_
  refine e_iadd (v := at_ + 1) dd_136_15 (by omega) ?_
  refine g_putfield (k := 16) am_ck12 (by decide) (Or.inl w_951) (Or.inl rfl) dd_136_16 (rm_g66 hH) (Nat.le_of_ble_eq_true rfl) trivial ?_
  refine am_heq (rm_u66 hH) ?_
  show am_Good mi_136 19 [some (.ref 66), some (.retAddr 105)] [] (rm h f len (at_ + 1) rl rg z1 z2 z3 z4 z5 z6 tm td y1 y2 y3 y4 y5 y6) _
  refine g_iload_n (i := 1) dd_136_19 rfl ?_
  refine g_tableIn (a := 105) (off := 144) (t := 164) dd_136_20 (by decide) (by decide) (by decide) rfl (by decide) ?_
  refine g_iconst dd_136_164 ic_0 ?_
  exact g_zreturn rfl (by first | decide | omega) dd_136_165
theorem m_r106 {h : am_H} {f : Nat → Value} {len at_ rl rg z1 z2 z3 z4 z5 z6 tm td y1 y2 y3 y4 y5 y6 : Nat} (hH : rm_ok h) (hlen : len ≤ 200) (hat : at_ < len) (hch : am_ag tm at_ = 106) : am_EG mi_136 [.ref 66] (rm h f len at_ rl rg z1 z2 z3 z4 z5 z6 tm td y1 y2 y3 y4 y5 y6) (some (.retAddr 0), (rm h f len (at_ + 1) rl rg z1 z2 z3 z4 z5 z6 tm td y1 y2 y3 y4 y5 y6)) := by
  refine am_enter (n := 1) tk_136.2.1 (by simp [Value.category]) (Nat.le_of_ble_eq_true rfl) ?_
  show am_Good mi_136 0 [some (.ref 66), none] [] (rm h f len at_ rl rg z1 z2 z3 z4 z5 z6 tm td y1 y2 y3 y4 y5 y6) _
  refine g_aload_n (i := 0) dd_136_0 rfl ?_
  refine g_aload_n (i := 0) dd_136_1 rfl ?_
  refine g_getfield (k := 16) am_ck12 (by decide) (Or.inl w_951) dd_136_2 (rm_g66 hH) rfl ?_
  refine g_virtual (M' := mi_137) (n := 1) (ci := 12) (b := 66) (as := [.retAddr at_]) (st := []) (r1 := (some (.retAddr 106), (rm h f len at_ rl rg z1 z2 z3 z4 z5 z6 tm td y1 y2 y3 y4 y5 y6))) w_1121 w_1123 ps_137 ⟨lk_137.1, lk_137.2.1, lk_137.2.2, by decide, by decide⟩ rfl (rm_g66 hH) rfl (by simp [Value.category]) dd_136_5 (by rw [← hch]; exact m_la1 hH hat hlen) ?_
  show am_Good mi_136 8 [some (.ref 66), none] [.retAddr 106] (rm h f len at_ rl rg z1 z2 z3 z4 z5 z6 tm td y1 y2 y3 y4 y5 y6) _
  refine g_istore_n (i := 1) dd_136_8 (am_nlb_ok rfl) (by decide) ?_
  refine g_aload_n (i := 0) dd_136_9 rfl ?_
  refine g_dup dd_136_10 rfl ?_
  refine g_getfield (k := 16) am_ck12 (by decide) (Or.inl w_951) dd_136_11 (rm_g66 hH) rfl ?_
  refine g_iconst dd_136_14 ic_1 ?_
  refine e_iadd (v := at_ + 1) dd_136_15 (by omega) ?_
  refine g_putfield (k := 16) am_ck12 (by decide) (Or.inl w_951) (Or.inl rfl) dd_136_16 (rm_g66 hH) (Nat.le_of_ble_eq_true rfl) trivial ?_
  refine am_heq (rm_u66 hH) ?_
  show am_Good mi_136 19 [some (.ref 66), some (.retAddr 106)] [] (rm h f len (at_ + 1) rl rg z1 z2 z3 z4 z5 z6 tm td y1 y2 y3 y4 y5 y6) _
  refine g_iload_n (i := 1) dd_136_19 rfl ?_
  refine g_tableIn (a := 106) (off := 144) (t := 164) dd_136_20 (by decide) (by decide) (by decide) rfl (by decide) ?_
  refine g_iconst dd_136_164 ic_0 ?_
  exact g_zreturn rfl (by first | decide | omega) dd_136_165
theorem m_r107 {h : am_H} {f : Nat → Value} {len at_ rl rg z1 z2 z3 z4 z5 z6 tm td y1 y2 y3 y4 y5 y6 : Nat} (hH : rm_ok h) (hlen : len ≤ 200) (hat : at_ < len) (hch : am_ag tm at_ = 107) : am_EG mi_136 [.ref 66] (rm h f len at_ rl rg z1 z2 z3 z4 z5 z6 tm td y1 y2 y3 y4 y5 y6) (some (.retAddr 0), (rm h f len (at_ + 1) rl rg z1 z2 z3 z4 z5 z6 tm td y1 y2 y3 y4 y5 y6)) := by
  refine am_enter (n := 1) tk_136.2.1 (by simp [Value.category]) (Nat.le_of_ble_eq_true rfl) ?_
  show am_Good mi_136 0 [some (.ref 66), none] [] (rm h f len at_ rl rg z1 z2 z3 z4 z5 z6 tm td y1 y2 y3 y4 y5 y6) _
  refine g_aload_n (i := 0) dd_136_0 rfl ?_
  refine g_aload_n (i := 0) dd_136_1 rfl ?_
  refine g_getfield (k := 16) am_ck12 (by decide) (Or.inl w_951) dd_136_2 (rm_g66 hH) rfl ?_
  refine g_virtual (M' := mi_137) (n := 1) (ci := 12) (b := 66) (as := [.retAddr at_]) (st := []) (r1 := (some (.retAddr 107), (rm h f len at_ rl rg z1 z2 z3 z4 z5 z6 tm td y1 y2 y3 y4 y5 y6))) w_1121 w_1123 ps_137 ⟨lk_137.1, lk_137.2.1, lk_137.2.2, by decide, by decide⟩ rfl (rm_g66 hH) rfl (by simp [Value.category]) dd_136_5 (by rw [← hch]; exact m_la1 hH hat hlen) ?_
  show am_Good mi_136 8 [some (.ref 66), none] [.retAddr 107] (rm h f len at_ rl rg z1 z2 z3 z4 z5 z6 tm td y1 y2 y3 y4 y5 y6) _
  refine g_istore_n (i := 1) dd_136_8 (am_nlb_ok rfl) (by decide) ?_
  refine g_aload_n (i := 0) dd_136_9 rfl ?_
  refine g_dup dd_136_10 rfl ?_
  refine g_getfield (k := 16) am_ck12 (by decide) (Or.inl w_951) dd_136_11 (rm_g66 hH) rfl ?_
  refine g_iconst dd_136_14 ic_1 ?_
  refine e_iadd (v := at_ + 1) dd_136_15 (by omega) ?_
  refine g_putfield (k := 16) am_ck12 (by decide) (Or.inl w_951) (Or.inl rfl) dd_136_16 (rm_g66 hH) (Nat.le_of_ble_eq_true rfl) trivial ?_
  refine am_heq (rm_u66 hH) ?_
  show am_Good mi_136 19 [some (.ref 66), some (.retAddr 107)] [] (rm h f len (at_ + 1) rl rg z1 z2 z3 z4 z5 z6 tm td y1 y2 y3 y4 y5 y6) _
  refine g_iload_n (i := 1) dd_136_19 rfl ?_
  refine g_tableIn (a := 107) (off := 144) (t := 164) dd_136_20 (by decide) (by decide) (by decide) rfl (by decide) ?_
  refine g_iconst dd_136_164 ic_0 ?_
  exact g_zreturn rfl (by first | decide | omega) dd_136_165
theorem m_r108 {h : am_H} {f : Nat → Value} {len at_ rl rg z1 z2 z3 z4 z5 z6 tm td y1 y2 y3 y4 y5 y6 : Nat} (hH : rm_ok h) (hlen : len ≤ 200) (hat : at_ < len) (hch : am_ag tm at_ = 108) : am_EG mi_136 [.ref 66] (rm h f len at_ rl rg z1 z2 z3 z4 z5 z6 tm td y1 y2 y3 y4 y5 y6) (some (.retAddr 0), (rm h f len (at_ + 1) rl rg z1 z2 z3 z4 z5 z6 tm td y1 y2 y3 y4 y5 y6)) := by
  refine am_enter (n := 1) tk_136.2.1 (by simp [Value.category]) (Nat.le_of_ble_eq_true rfl) ?_
  show am_Good mi_136 0 [some (.ref 66), none] [] (rm h f len at_ rl rg z1 z2 z3 z4 z5 z6 tm td y1 y2 y3 y4 y5 y6) _
  refine g_aload_n (i := 0) dd_136_0 rfl ?_
  refine g_aload_n (i := 0) dd_136_1 rfl ?_
  refine g_getfield (k := 16) am_ck12 (by decide) (Or.inl w_951) dd_136_2 (rm_g66 hH) rfl ?_
  refine g_virtual (M' := mi_137) (n := 1) (ci := 12) (b := 66) (as := [.retAddr at_]) (st := []) (r1 := (some (.retAddr 108), (rm h f len at_ rl rg z1 z2 z3 z4 z5 z6 tm td y1 y2 y3 y4 y5 y6))) w_1121 w_1123 ps_137 ⟨lk_137.1, lk_137.2.1, lk_137.2.2, by decide, by decide⟩ rfl (rm_g66 hH) rfl (by simp [Value.category]) dd_136_5 (by rw [← hch]; exact m_la1 hH hat hlen) ?_
  show am_Good mi_136 8 [some (.ref 66), none] [.retAddr 108] (rm h f len at_ rl rg z1 z2 z3 z4 z5 z6 tm td y1 y2 y3 y4 y5 y6) _
  refine g_istore_n (i := 1) dd_136_8 (am_nlb_ok rfl) (by decide) ?_
  refine g_aload_n (i := 0) dd_136_9 rfl ?_
  refine g_dup dd_136_10 rfl ?_
  refine g_getfield (k := 16) am_ck12 (by decide) (Or.inl w_951) dd_136_11 (rm_g66 hH) rfl ?_
  refine g_iconst dd_136_14 ic_1 ?_
  refine e_iadd (v := at_ + 1) dd_136_15 (by omega) ?_
  refine g_putfield (k := 16) am_ck12 (by decide) (Or.inl w_951) (Or.inl rfl) dd_136_16 (rm_g66 hH) (Nat.le_of_ble_eq_true rfl) trivial ?_
  refine am_heq (rm_u66 hH) ?_
  show am_Good mi_136 19 [some (.ref 66), some (.retAddr 108)] [] (rm h f len (at_ + 1) rl rg z1 z2 z3 z4 z5 z6 tm td y1 y2 y3 y4 y5 y6) _
  refine g_iload_n (i := 1) dd_136_19 rfl ?_
  refine g_tableIn (a := 108) (off := 144) (t := 164) dd_136_20 (by decide) (by decide) (by decide) rfl (by decide) ?_
  refine g_iconst dd_136_164 ic_0 ?_
  exact g_zreturn rfl (by first | decide | omega) dd_136_165
theorem m_r109 {h : am_H} {f : Nat → Value} {len at_ rl rg z1 z2 z3 z4 z5 z6 tm td y1 y2 y3 y4 y5 y6 : Nat} (hH : rm_ok h) (hlen : len ≤ 200) (hat : at_ < len) (hch : am_ag tm at_ = 109) {b : Nat} {h2 : am_H} (hb : b < 2) (hm : am_EG mi_143 [.ref 66] (rm h f len (at_ + 1) rl rg z1 z2 z3 z4 z5 z6 tm td y1 y2 y3 y4 y5 y6) (some (.retAddr b), h2)) : am_EG mi_136 [.ref 66] (rm h f len at_ rl rg z1 z2 z3 z4 z5 z6 tm td y1 y2 y3 y4 y5 y6) (some (.retAddr b), h2) := by
  refine am_enter (n := 1) tk_136.2.1 (by simp [Value.category]) (Nat.le_of_ble_eq_true rfl) ?_
  show am_Good mi_136 0 [some (.ref 66), none] [] (rm h f len at_ rl rg z1 z2 z3 z4 z5 z6 tm td y1 y2 y3 y4 y5 y6) _
  refine g_aload_n (i := 0) dd_136_0 rfl ?_
  refine g_aload_n (i := 0) dd_136_1 rfl ?_
  refine g_getfield (k := 16) am_ck12 (by decide) (Or.inl w_951) dd_136_2 (rm_g66 hH) rfl ?_
  refine g_virtual (M' := mi_137) (n := 1) (ci := 12) (b := 66) (as := [.retAddr at_]) (st := []) (r1 := (some (.retAddr 109), (rm h f len at_ rl rg z1 z2 z3 z4 z5 z6 tm td y1 y2 y3 y4 y5 y6))) w_1121 w_1123 ps_137 ⟨lk_137.1, lk_137.2.1, lk_137.2.2, by decide, by decide⟩ rfl (rm_g66 hH) rfl (by simp [Value.category]) dd_136_5 (by rw [← hch]; exact m_la1 hH hat hlen) ?_
  show am_Good mi_136 8 [some (.ref 66), none] [.retAddr 109] (rm h f len at_ rl rg z1 z2 z3 z4 z5 z6 tm td y1 y2 y3 y4 y5 y6) _
  refine g_istore_n (i := 1) dd_136_8 (am_nlb_ok rfl) (by decide) ?_
  refine g_aload_n (i := 0) dd_136_9 rfl ?_
  refine g_dup dd_136_10 rfl ?_
  refine g_getfield (k := 16) am_ck12 (by decide) (Or.inl w_951) dd_136_11 (rm_g66 hH) rfl ?_
  refine g_iconst dd_136_14 ic_1 ?_
  refine e_iadd (v := at_ + 1) dd_136_15 (by omega) ?_
  refine g_putfield (k := 16) am_ck12 (by decide) (Or.inl w_951) (Or.inl rfl) dd_136_16 (rm_g66 hH) (Nat.le_of_ble_eq_true rfl) trivial ?_
  refine am_heq (rm_u66 hH) ?_
  show am_Good mi_136 19 [some (.ref 66), some (.retAddr 109)] [] (rm h f len (at_ + 1) rl rg z1 z2 z3 z4 z5 z6 tm td y1 y2 y3 y4 y5 y6) _
  refine g_iload_n (i := 1) dd_136_19 rfl ?_
  refine g_tableIn (a := 109) (off := 114) (t := 134) dd_136_20 (by decide) (by decide) (by decide) rfl (by decide) ?_
  refine g_aload_n (i := 0) dd_136_134 rfl ?_
  refine g_virtual (M' := mi_143) (n := 0) (ci := 12) (b := 66) (as := []) (st := []) (r1 := (some (.retAddr b), h2)) w_1144 w_1146 ps_143 ⟨lk_143.1, lk_143.2.1, lk_143.2.2, by decide, by decide⟩ rfl (rm_g66 hH) rfl (by simp [Value.category]) dd_136_135 (hm) ?_
  show am_Good mi_136 138 [some (.ref 66), some (.retAddr 109)] [.retAddr b] h2 _
  exact g_zreturn rfl (by first | decide | omega) dd_136_138
theorem m_r110 {h : am_H} {f : Nat → Value} {len at_ rl rg z1 z2 z3 z4 z5 z6 tm td y1 y2 y3 y4 y5 y6 : Nat} (hH : rm_ok h) (hlen : len ≤ 200) (hat : at_ < len) (hch : am_ag tm at_ = 110) {b : Nat} {h2 : am_H} (hb : b < 2) (hm : am_EG mi_138 [.ref 66] (rm h f len (at_ + 1) rl rg z1 z2 z3 z4 z5 z6 tm td y1 y2 y3 y4 y5 y6) (some (.retAddr b), h2)) : am_EG mi_136 [.ref 66] (rm h f len at_ rl rg z1 z2 z3 z4 z5 z6 tm td y1 y2 y3 y4 y5 y6) (some (.retAddr b), h2) := by
  refine am_enter (n := 1) tk_136.2.1 (by simp [Value.category]) (Nat.le_of_ble_eq_true rfl) ?_
  show am_Good mi_136 0 [some (.ref 66), none] [] (rm h f len at_ rl rg z1 z2 z3 z4 z5 z6 tm td y1 y2 y3 y4 y5 y6) _
  refine g_aload_n (i := 0) dd_136_0 rfl ?_
  refine g_aload_n (i := 0) dd_136_1 rfl ?_
  refine g_getfield (k := 16) am_ck12 (by decide) (Or.inl w_951) dd_136_2 (rm_g66 hH) rfl ?_
  refine g_virtual (M' := mi_137) (n := 1) (ci := 12) (b := 66) (as := [.retAddr at_]) (st := []) (r1 := (some (.retAddr 110), (rm h f len at_ rl rg z1 z2 z3 z4 z5 z6 tm td y1 y2 y3 y4 y5 y6))) w_1121 w_1123 ps_137 ⟨lk_137.1, lk_137.2.1, lk_137.2.2, by decide, by decide⟩ rfl (rm_g66 hH) rfl (by simp [Value.category]) dd_136_5 (by rw [← hch]; exact m_la1 hH hat hlen) ?_
  show am_Good mi_136 8 [some (.ref 66), none] [.retAddr 110] (rm h f len at_ rl rg z1 z2 z3 z4 z5 z6 tm td y1 y2 y3 y4 y5 y6) _
  refine g_istore_n (i := 1) dd_136_8 (am_nlb_ok rfl) (by decide) ?_
  refine g_aload_n (i := 0) dd_136_9 rfl ?_
  refine g_dup dd_136_10 rfl ?_
  refine g_getfield (k := 16) am_ck12 (by decide) (Or.inl w_951) dd_136_11 (rm_g66 hH) rfl ?_
  refine g_iconst dd_136_14 ic_1 ?_
  refine e_iadd (v := at_ + 1) dd_136_15 (by omega) ?_
  refine g_putfield (k := 16) am_ck12 (by decide) (Or.inl w_951) (Or.inl rfl) dd_136_16 (rm_g66 hH) (Nat.le_of_ble_eq_true rfl) trivial ?_
  refine am_heq (rm_u66 hH) ?_
  show am_Good mi_136 19 [some (.ref 66), some (.retAddr 110)] [] (rm h f len (at_ + 1) rl rg z1 z2 z3 z4 z5 z6 tm td y1 y2 y3 y4 y5 y6) _
  refine g_iload_n (i := 1) dd_136_19 rfl ?_
  refine g_tableIn (a := 110) (off := 104) (t := 124) dd_136_20 (by decide) (by decide) (by decide) rfl (by decide) ?_
  refine g_aload_n (i := 0) dd_136_124 rfl ?_
  refine g_virtual (M' := mi_138) (n := 0) (ci := 12) (b := 66) (as := []) (st := []) (r1 := (some (.retAddr b), h2)) w_1125 w_1127 ps_138 ⟨lk_138.1, lk_138.2.1, lk_138.2.2, by decide, by decide⟩ rfl (rm_g66 hH) rfl (by simp [Value.category]) dd_136_125 (hm) ?_
  show am_Good mi_136 128 [some (.ref 66), some (.retAddr 110)] [.retAddr b] h2 _
  exact g_zreturn rfl (by first | decide | omega) dd_136_128
theorem m_r111 {h : am_H} {f : Nat → Value} {len at_ rl rg z1 z2 z3 z4 z5 z6 tm td y1 y2 y3 y4 y5 y6 : Nat} (hH : rm_ok h) (hlen : len ≤ 200) (hat : at_ < len) (hch : am_ag tm at_ = 111) : am_EG mi_136 [.ref 66] (rm h f len at_ rl rg z1 z2 z3 z4 z5 z6 tm td y1 y2 y3 y4 y5 y6) (some (.retAddr 0), (rm h f len (at_ + 1) rl rg z1 z2 z3 z4 z5 z6 tm td y1 y2 y3 y4 y5 y6)) := by
  refine am_enter (n := 1) tk_136.2.1 (by simp [Value.category]) (Nat.le_of_ble_eq_true rfl) ?_
  show am_Good mi_136 0 [some (.ref 66), none] [] (rm h f len at_ rl rg z1 z2 z3 z4 z5 z6 tm td y1 y2 y3 y4 y5 y6) _
  refine g_aload_n (i := 0) dd_136_0 rfl ?_
  refine g_aload_n (i := 0) dd_136_1 rfl ?_
  refine g_getfield (k := 16) am_ck12 (by decide) (Or.inl w_951) dd_136_2 (rm_g66 hH) rfl ?_
  refine g_virtual (M' := mi_137) (n := 1) (ci := 12) (b := 66) (as := [.retAddr at_]) (st := []) (r1 := (some (.retAddr 111), (rm h f len at_ rl rg z1 z2 z3 z4 z5 z6 tm td y1 y2 y3 y4 y5 y6))) w_1121 w_1123 ps_137 ⟨lk_137.1, lk_137.2.1, lk_137.2.2, by decide, by decide⟩ rfl (rm_g66 hH) rfl (by simp [Value.category]) dd_136_5 (by rw [← hch]; exact m_la1 hH hat hlen) ?_
  show am_Good mi_136 8 [some (.ref 66), none] [.retAddr 111] (rm h f len at_ rl rg z1 z2 z3 z4 z5 z6 tm td y1 y2 y3 y4 y5 y6) _
  refine g_istore_n (i := 1) dd_136_8 (am_nlb_ok rfl) (by decide) ?_
  refine g_aload_n (i := 0) dd_136_9 rfl ?_
  refine g_dup dd_136_10 rfl ?_
  refine g_getfield (k := 16) am_ck12 (by decide) (Or.inl w_951) dd_136_11 (rm_g66 hH) rfl ?_
  refine g_iconst dd_136_14 ic_1 ?_
  refine e_iadd (v := at_ + 1) dd_136_15 (by omega) ?_
  refine g_putfield (k := 16) am_ck12 (by decide) (Or.inl w_951) (Or.inl rfl) dd_136_16 (rm_g66 hH) (Nat.le_of_ble_eq_true rfl) trivial ?_
  refine am_heq (rm_u66 hH) ?_
  show am_Good mi_136 19 [some (.ref 66), some (.retAddr 111)] [] (rm h f len (at_ + 1) rl rg z1 z2 z3 z4 z5 z6 tm td y1 y2 y3 y4 y5 y6) _
  refine g_iload_n (i := 1) dd_136_19 rfl ?_
  refine g_tableIn (a := 111) (off := 144) (t := 164) dd_136_20 (by decide) (by decide) (by decide) rfl (by decide) ?_
  refine g_iconst dd_136_164 ic_0 ?_
  exact g_zreturn rfl (by first | decide | omega) dd_136_165
theorem m_r112 {h : am_H} {f : Nat → Value} {len at_ rl rg z1 z2 z3 z4 z5 z6 tm td y1 y2 y3 y4 y5 y6 : Nat} (hH : rm_ok h) (hlen : len ≤ 200) (hat : at_ < len) (hch : am_ag tm at_ = 112) : am_EG mi_136 [.ref 66] (rm h f len at_ rl rg z1 z2 z3 z4 z5 z6 tm td y1 y2 y3 y4 y5 y6) (some (.retAddr 0), (rm h f len (at_ + 1) rl rg z1 z2 z3 z4 z5 z6 tm td y1 y2 y3 y4 y5 y6)) := by
  refine am_enter (n := 1) tk_136.2.1 (by simp [Value.category]) (Nat.le_of_ble_eq_true rfl) ?_
  show am_Good mi_136 0 [some (.ref 66), none] [] (rm h f len at_ rl rg z1 z2 z3 z4 z5 z6 tm td y1 y2 y3 y4 y5 y6) _
  refine g_aload_n (i := 0) dd_136_0 rfl ?_
  refine g_aload_n (i := 0) dd_136_1 rfl ?_
  refine g_getfield (k := 16) am_ck12 (by decide) (Or.inl w_951) dd_136_2 (rm_g66 hH) rfl ?_
  refine g_virtual (M' := mi_137) (n := 1) (ci := 12) (b := 66) (as := [.retAddr at_]) (st := []) (r1 := (some (.retAddr 112), (rm h f len at_ rl rg z1 z2 z3 z4 z5 z6 tm td y1 y2 y3 y4 y5 y6))) w_1121 w_1123 ps_137 ⟨lk_137.1, lk_137.2.1, lk_137.2.2, by decide, by decide⟩ rfl (rm_g66 hH) rfl (by simp [Value.category]) dd_136_5 (by rw [← hch]; exact m_la1 hH hat hlen) ?_
  show am_Good mi_136 8 [some (.ref 66), none] [.retAddr 112] (rm h f len at_ rl rg z1 z2 z3 z4 z5 z6 tm td y1 y2 y3 y4 y5 y6) _
  refine g_istore_n (i := 1) dd_136_8 (am_nlb_ok rfl) (by decide) ?_
  refine g_aload_n (i := 0) dd_136_9 rfl ?_
  refine g_dup dd_136_10 rfl ?_
  refine g_getfield (k := 16) am_ck12 (by decide) (Or.inl w_951) dd_136_11 (rm_g66 hH) rfl ?_
  refine g_iconst dd_136_14 ic_1 ?_
  refine e_iadd (v := at_ + 1) dd_136_15 (by omega) ?_
  refine g_putfield (k := 16) am_ck12 (by decide) (Or.inl w_951) (Or.inl rfl) dd_136_16 (rm_g66 hH) (Nat.le_of_ble_eq_true rfl) trivial ?_
  refine am_heq (rm_u66 hH) ?_
  show am_Good mi_136 19 [some (.ref 66), some (.retAddr 112)] [] (rm h f len (at_ + 1) rl rg z1 z2 z3 z4 z5 z6 tm td y1 y2 y3 y4 y5 y6) _
  refine g_iload_n (i := 1) dd_136_19 rfl ?_
  refine g_tableIn (a := 112) (off := 144) (t := 164) dd_136_20 (by decide) (by decide) (by decide) rfl (by decide) ?_
  refine g_iconst dd_136_164 ic_0 ?_
  exact g_zreturn rfl (by first | decide | omega) dd_136_165
theorem m_r113 {h : am_H} {f : Nat → Value} {len at_ rl rg z1 z2 z3 z4 z5 z6 tm td y1 y2 y3 y4 y5 y6 : Nat} (hH : rm_ok h) (hlen : len ≤ 200) (hat : at_ < len) (hch : am_ag tm at_ = 113) : am_EG mi_136 [.ref 66] (rm h f len at_ rl rg z1 z2 z3 z4 z5 z6 tm td y1 y2 y3 y4 y5 y6) (some (.retAddr 0), (rm h f len (at_ + 1) rl rg z1 z2 z3 z4 z5 z6 tm td y1 y2 y3 y4 y5 y6)) := by
  refine am_enter (n := 1) tk_136.2.1 (by simp [Value.category]) (Nat.le_of_ble_eq_true rfl) ?_
  show am_Good mi_136 0 [some (.ref 66), none] [] (rm h f len at_ rl rg z1 z2 z3 z4 z5 z6 tm td y1 y2 y3 y4 y5 y6) _
  refine g_aload_n (i := 0) dd_136_0 rfl ?_
  refine g_aload_n (i := 0) dd_136_1 rfl ?_
  refine g_getfield (k := 16) am_ck12 (by decide) (Or.inl w_951) dd_136_2 (rm_g66 hH) rfl ?_
  refine g_virtual (M' := mi_137) (n := 1) (ci := 12) (b := 66) (as := [.retAddr at_]) (st := []) (r1 := (some (.retAddr 113), (rm h f len at_ rl rg z1 z2 z3 z4 z5 z6 tm td y1 y2 y3 y4 y5 y6))) w_1121 w_1123 ps_137 ⟨lk_137.1, lk_137.2.1, lk_137.2.2, by decide, by decide⟩ rfl (rm_g66 hH) rfl (by simp [Value.category]) dd_136_5 (by rw [← hch]; exact m_la1 hH hat hlen) ?_
  show am_Good mi_136 8 [some (.ref 66), none] [.retAddr 113] (rm h f len at_ rl rg z1 z2 z3 z4 z5 z6 tm td y1 y2 y3 y4 y5 y6) _
  refine g_istore_n (i := 1) dd_136_8 (am_nlb_ok rfl) (by decide) ?_
  refine g_aload_n (i := 0) dd_136_9 rfl ?_
  refine g_dup dd_136_10 rfl ?_
  refine g_getfield (k := 16) am_ck12 (by decide) (Or.inl w_951) dd_136_11 (rm_g66 hH) rfl ?_
  refine g_iconst dd_136_14 ic_1 ?_
  refine e_iadd (v := at_ + 1) dd_136_15 (by omega) ?_
  refine g_putfield (k := 16) am_ck12 (by decide) (Or.inl w_951) (Or.inl rfl) dd_136_16 (rm_g66 hH) (Nat.le_of_ble_eq_true rfl) trivial ?_
  refine am_heq (rm_u66 hH) ?_
  show am_Good mi_136 19 [some (.ref 66), some (.retAddr 113)] [] (rm h f len (at_ + 1) rl rg z1 z2 z3 z4 z5 z6 tm td y1 y2 y3 y4 y5 y6) _
  refine g_iload_n (i := 1) dd_136_19 rfl ?_
  refine g_tableIn (a := 113) (off := 144) (t := 164) dd_136_20 (by decide) (by decide) (by decide) rfl (by decide) ?_
  refine g_iconst dd_136_164 ic_0 ?_
  exact g_zreturn rfl (by first | decide | omega) dd_136_165
theorem m_r114 {h : am_H} {f : Nat → Value} {len at_ rl rg z1 z2 z3 z4 z5 z6 tm td y1 y2 y3 y4 y5 y6 : Nat} (hH : rm_ok h) (hlen : len ≤ 200) (hat : at_ < len) (hch : am_ag tm at_ = 114) : am_EG mi_136 [.ref 66] (rm h f len at_ rl rg z1 z2 z3 z4 z5 z6 tm td y1 y2 y3 y4 y5 y6) (some (.retAddr 0), (rm h f len (at_ + 1) rl rg z1 z2 z3 z4 z5 z6 tm td y1 y2 y3 y4 y5 y6)) := by
  refine am_enter (n := 1) tk_136.2.1 (by simp [Value.category]) (Nat.le_of_ble_eq_true rfl) ?_
  show am_Good mi_136 0 [some (.ref 66), none] [] (rm h f len at_ rl rg z1 z2 z3 z4 z5 z6 tm td y1 y2 y3 y4 y5 y6) _
  refine g_aload_n (i := 0) dd_136_0 rfl ?_
  refine g_aload_n (i := 0) dd_136_1 rfl ?_
  refine g_getfield (k := 16) am_ck12 (by decide) (Or.inl w_951) dd_136_2 (rm_g66 hH) rfl ?_
  refine g_virtual (M' := mi_137) (n := 1) (ci := 12) (b := 66) (as := [.retAddr at_]) (st := []) (r1 := (some (.retAddr 114), (rm h f len at_ rl rg z1 z2 z3 z4 z5 z6 tm td y1 y2 y3 y4 y5 y6))) w_1121 w_1123 ps_137 ⟨lk_137.1, lk_137.2.1, lk_137.2.2, by decide, by decide⟩ rfl (rm_g66 hH) rfl (by simp [Value.category]) dd_136_5 (by rw [← hch]; exact m_la1 hH hat hlen) ?_
  show am_Good mi_136 8 [some (.ref 66), none] [.retAddr 114] (rm h f len at_ rl rg z1 z2 z3 z4 z5 z6 tm td y1 y2 y3 y4 y5 y6) _
  refine g_istore_n (i := 1) dd_136_8 (am_nlb_ok rfl) (by decide) ?_
  refine g_aload_n (i := 0) dd_136_9 rfl ?_
  refine g_dup dd_136_10 rfl ?_
  refine g_getfield (k := 16) am_ck12 (by decide) (Or.inl w_951) dd_136_11 (rm_g66 hH) rfl ?_
  refine g_iconst dd_136_14 ic_1 ?_
  refine e_iadd (v := at_ + 1) dd_136_15 (by omega) ?_
  refine g_putfield (k := 16) am_ck12 (by decide) (Or.inl w_951) (Or.inl rfl) dd_136_16 (rm_g66 hH) (Nat.le_of_ble_eq_true rfl) trivial ?_
  refine am_heq (rm_u66 hH) ?_
  show am_Good mi_136 19 [some (.ref 66), some (.retAddr 114)] [] (rm h f len (at_ + 1) rl rg z1 z2 z3 z4 z5 z6 tm td y1 y2 y3 y4 y5 y6) _
  refine g_iload_n (i := 1) dd_136_19 rfl ?_
  refine g_tableIn (a := 114) (off := 144) (t := 164) dd_136_20 (by decide) (by decide) (by decide) rfl (by decide) ?_
  refine g_iconst dd_136_164 ic_0 ?_
  exact g_zreturn rfl (by first | decide | omega) dd_136_165
theorem m_r115 {h : am_H} {f : Nat → Value} {len at_ rl rg z1 z2 z3 z4 z5 z6 tm td y1 y2 y3 y4 y5 y6 : Nat} (hH : rm_ok h) (hlen : len ≤ 200) (hat : at_ < len) (hch : am_ag tm at_ = 115) {b : Nat} {h2 : am_H} (hb : b < 2) (hm : am_EG mi_142 [.ref 66] (rm h f len (at_ + 1) rl rg z1 z2 z3 z4 z5 z6 tm td y1 y2 y3 y4 y5 y6) (some (.retAddr b), h2)) : am_EG mi_136 [.ref 66] (rm h f len at_ rl rg z1 z2 z3 z4 z5 z6 tm td y1 y2 y3 y4 y5 y6) (some (.retAddr b), h2) := by
  refine am_enter (n := 1) tk_136.2.1 (by simp [Value.category]) (Nat.le_of_ble_eq_true rfl) ?_
  show am_Good mi_136 0 [some (.ref 66), none] [] (rm h f len at_ rl rg z1 z2 z3 z4 z5 z6 tm td y1 y2 y3 y4 y5 y6) _
  refine g_aload_n (i := 0) dd_136_0 rfl ?_
  refine g_aload_n (i := 0) dd_136_1 rfl ?_
  refine g_getfield (k := 16) am_ck12 (by decide) (Or.inl w_951) dd_136_2 (rm_g66 hH) rfl ?_
  refine g_virtual (M' := mi_137) (n := 1) (ci := 12) (b := 66) (as := [.retAddr at_]) (st := []) (r1 := (some (.retAddr 115), (rm h f len at_ rl rg z1 z2 z3 z4 z5 z6 tm td y1 y2 y3 y4 y5 y6))) w_1121 w_1123 ps_137 ⟨lk_137.1, lk_137.2.1, lk_137.2.2, by decide, by decide⟩ rfl (rm_g66 hH) rfl (by simp [Value.category]) dd_136_5 (by rw [← hch]; exact m_la1 hH hat hlen) ?_
  show am_Good mi_136 8 [some (.ref 66), none] [.retAddr 115] (rm h f len at_ rl rg z1 z2 z3 z4 z5 z6 tm td y1 y2 y3 y4 y5 y6) _
  refine g_istore_n (i := 1) dd_136_8 (am_nlb_ok rfl) (by decide) ?_
  refine g_aload_n (i := 0) dd_136_9 rfl ?_
  refine g_dup dd_136_10 rfl ?_
  refine g_getfield (k := 16) am_ck12 (by decide) (Or.inl w_951) dd_136_11 (rm_g66 hH) rfl ?_
  refine g_iconst dd_136_14 ic_1 ?_
  refine e_iadd (v := at_ + 1) dd_136_15 (by omega) ?_
  refine g_putfield (k := 16) am_ck12 (by decide) (Or.inl w_951) (Or.inl rfl) dd_136_16 (rm_g66 hH) (Nat.le_of_ble_eq_true rfl) trivial ?_
  refine am_heq (rm_u66 hH) ?_
  show am_Good mi_136 19 [some (.ref 66), some (.retAddr 115)] [] (rm h f len (at_ + 1) rl rg z1 z2 z3 z4 z5 z6 tm td y1 y2 y3 y4 y5 y6) _
  refine g_iload_n (i := 1) dd_136_19 rfl ?_
  refine g_tableIn (a := 115) (off := 109) (t := 129) dd_136_20 (by decide) (by decide) (by decide) rfl (by decide) ?_
  refine g_aload_n (i := 0) dd_136_129 rfl ?_
  refine g_virtual (M' := mi_142) (n := 0) (ci := 12) (b := 66) (as := []) (st := []) (r1 := (some (.retAddr b), h2)) w_1140 w_1142 ps_142 ⟨lk_142.1, lk_142.2.1, lk_142.2.2, by decide, by decide⟩ rfl (rm_g66 hH) rfl (by simp [Value.category]) dd_136_130 (hm) ?_
  show am_Good mi_136 133 [some (.ref 66), some (.retAddr 115)] [.retAddr b] h2 _
  exact g_zreturn rfl (by first | decide | omega) dd_136_133
theorem m_r116 {h : am_H} {f : Nat → Value} {len at_ rl rg z1 z2 z3 z4 z5 z6 tm td y1 y2 y3 y4 y5 y6 : Nat} (hH : rm_ok h) (hlen : len ≤ 200) (hat : at_ < len) (hch : am_ag tm at_ = 116) : am_EG mi_136 [.ref 66] (rm h f len at_ rl rg z1 z2 z3 z4 z5 z6 tm td y1 y2 y3 y4 y5 y6) (some (.retAddr 0), (rm h f len (at_ + 1) rl rg z1 z2 z3 z4 z5 z6 tm td y1 y2 y3 y4 y5 y6)) := by
  refine am_enter (n := 1) tk_136.2.1 (by simp [Value.category]) (Nat.le_of_ble_eq_true rfl) ?_
  show am_Good mi_136 0 [some (.ref 66), none] [] (rm h f len at_ rl rg z1 z2 z3 z4 z5 z6 tm td y1 y2 y3 y4 y5 y6) _
  refine g_aload_n (i := 0) dd_136_0 rfl ?_
  refine g_aload_n (i := 0) dd_136_1 rfl ?_
  refine g_getfield (k := 16) am_ck12 (by decide) (Or.inl w_951) dd_136_2 (rm_g66 hH) rfl ?_
  refine g_virtual (M' := mi_137) (n := 1) (ci := 12) (b := 66) (as := [.retAddr at_]) (st := []) (r1 := (some (.retAddr 116), (rm h f len at_ rl rg z1 z2 z3 z4 z5 z6 tm td y1 y2 y3 y4 y5 y6))) w_1121 w_1123 ps_137 ⟨lk_137.1, lk_137.2.1, lk_137.2.2, by decide, by decide⟩ rfl (rm_g66 hH) rfl (by simp [Value.category]) dd_136_5 (by rw [← hch]; exact m_la1 hH hat hlen) ?_
  show am_Good mi_136 8 [some (.ref 66), none] [.retAddr 116] (rm h f len at_ rl rg z1 z2 z3 z4 z5 z6 tm td y1 y2 y3 y4 y5 y6) _
  refine g_istore_n (i := 1) dd_136_8 (am_nlb_ok rfl) (by decide) ?_
  refine g_aload_n (i := 0) dd_136_9 rfl ?_
  refine g_dup dd_136_10 rfl ?_
  refine g_getfield (k := 16) am_ck12 (by decide) (Or.inl w_951) dd_136_11 (rm_g66 hH) rfl ?_
  refine g_iconst dd_136_14 ic_1 ?_
  refine e_iadd (v := at_ + 1) dd_136_15 (by omega) ?_
  refine g_putfield (k := 16) am_ck12 (by decide) (Or.inl w_951) (Or.inl rfl) dd_136_16 (rm_g66 hH) (Nat.le_of_ble_eq_true rfl) trivial ?_
  refine am_heq (rm_u66 hH) ?_
  show am_Good mi_136 19 [some (.ref 66), some (.retAddr 116)] [] (rm h f len (at_ + 1) rl rg z1 z2 z3 z4 z5 z6 tm td y1 y2 y3 y4 y5 y6) _
  refine g_iload_n (i := 1) dd_136_19 rfl ?_
  refine g_tableIn (a := 116) (off := 144) (t := 164) dd_136_20 (by decide) (by decide) (by decide) rfl (by decide) ?_
  refine g_iconst dd_136_164 ic_0 ?_
  exact g_zreturn rfl (by first | decide | omega) dd_136_165
theorem m_r117 {h : am_H} {f : Nat → Value} {len at_ rl rg z1 z2 z3 z4 z5 z6 tm td y1 y2 y3 y4 y5 y6 : Nat} (hH : rm_ok h) (hlen : len ≤ 200) (hat : at_ < len) (hch : am_ag tm at_ = 117) {b : Nat} {h2 : am_H} (hb : b < 2) (hm : am_EG mi_147 [.ref 66] (rm h f len (at_ + 1) rl rg z1 z2 z3 z4 z5 z6 tm td y1 y2 y3 y4 y5 y6) (some (.retAddr b), h2)) : am_EG mi_136 [.ref 66] (rm h f len at_ rl rg z1 z2 z3 z4 z5 z6 tm td y1 y2 y3 y4 y5 y6) (some (.retAddr b), h2) := by
  refine am_enter (n := 1) tk_136.2.1 (by simp [Value.category]) (Nat.le_of_ble_eq_true rfl) ?_
  show am_Good mi_136 0 [some (.ref 66), none] [] (rm h f len at_ rl rg z1 z2 z3 z4 z5 z6 tm td y1 y2 y3 y4 y5 y6) _
  refine g_aload_n (i := 0) dd_136_0 rfl ?_
  refine g_aload_n (i := 0) dd_136_1 rfl ?_
  refine g_getfield (k := 16) am_ck12 (by decide) (Or.inl w_951) dd_136_2 (rm_g66 hH) rfl ?_
  refine g_virtual (M' := mi_137) (n := 1) (ci := 12) (b := 66) (as := [.retAddr at_]) (st := []) (r1 := (some (.retAddr 117), (rm h f len at_ rl rg z1 z2 z3 z4 z5 z6 tm td y1 y2 y3 y4 y5 y6))) w_1121 w_1123 ps_137 ⟨lk_137.1, lk_137.2.1, lk_137.2.2, by decide, by decide⟩ rfl (rm_g66 hH) rfl (by simp [Value.category]) dd_136_5 (by rw [← hch]; exact m_la1 hH hat hlen) ?_
  show am_Good mi_136 8 [some (.ref 66), none] [.retAddr 117] (rm h f len at_ rl rg z1 z2 z3 z4 z5 z6 tm td y1 y2 y3 y4 y5 y6) _
  refine g_istore_n (i := 1) dd_136_8 (am_nlb_ok rfl) (by decide) ?_
  refine g_aload_n (i := 0) dd_136_9 rfl ?_
  refine g_dup dd_136_10 rfl ?_
  refine g_getfield (k := 16) am_ck12 (by decide) (Or.inl w_951) dd_136_11 (rm_g66 hH) rfl ?_
  refine g_iconst dd_136_14 ic_1 ?_
  refine e_iadd (v := at_ + 1) dd_136_15 (by omega) ?_
  refine g_putfield (k := 16) am_ck12 (by decide) (Or.inl w_951) (Or.inl rfl) dd_136_16 (rm_g66 hH) (Nat.le_of_ble_eq_true rfl) trivial ?_
  refine am_heq (rm_u66 hH) ?_
  show am_Good mi_136 19 [some (.ref 66), some (.retAddr 117)] [] (rm h f len (at_ + 1) rl rg z1 z2 z3 z4 z5 z6 tm td y1 y2 y3 y4 y5 y6) _
  refine g_iload_n (i := 1) dd_136_19 rfl ?_
  refine g_tableIn (a := 117) (off := 124) (t := 144) dd_136_20 (by decide) (by decide) (by decide) rfl (by decide) ?_
  refine g_aload_n (i := 0) dd_136_144 rfl ?_
  refine g_virtual (M' := mi_147) (n := 0) (ci := 12) (b := 66) (as := []) (st := []) (r1 := (some (.retAddr b), h2)) w_1159 w_1161 ps_147 ⟨lk_147.1, lk_147.2.1, lk_147.2.2, by decide, by decide⟩ rfl (rm_g66 hH) rfl (by simp [Value.category]) dd_136_145 (hm) ?_
  show am_Good mi_136 148 [some (.ref 66), some (.retAddr 117)] [.retAddr b] h2 _
  exact g_zreturn rfl (by first | decide | omega) dd_136_148
theorem m_r118 {h : am_H} {f : Nat → Value} {len at_ rl rg z1 z2 z3 z4 z5 z6 tm td y1 y2 y3 y4 y5 y6 : Nat} (hH : rm_ok h) (hlen : len ≤ 200) (hat : at_ < len) (hch : am_ag tm at_ = 118) : am_EG mi_136 [.ref 66] (rm h f len at_ rl rg z1 z2 z3 z4 z5 z6 tm td y1 y2 y3 y4 y5 y6) (some (.retAddr 0), (rm h f len (at_ + 1) rl rg z1 z2 z3 z4 z5 z6 tm td y1 y2 y3 y4 y5 y6)) := by
  refine am_enter (n := 1) tk_136.2.1 (by simp [Value.category]) (Nat.le_of_ble_eq_true rfl) ?_
  show am_Good mi_136 0 [some (.ref 66), none] [] (rm h f len at_ rl rg z1 z2 z3 z4 z5 z6 tm td y1 y2 y3 y4 y5 y6) _
  refine g_aload_n (i := 0) dd_136_0 rfl ?_
  refine g_aload_n (i := 0) dd_136_1 rfl ?_
  refine g_getfield (k := 16) am_ck12 (by decide) (Or.inl w_951) dd_136_2 (rm_g66 hH) rfl ?_
  refine g_virtual (M' := mi_137) (n := 1) (ci := 12) (b := 66) (as := [.retAddr at_]) (st := []) (r1 := (some (.retAddr 118), (rm h f len at_ rl rg z1 z2 z3 z4 z5 z6 tm td y1 y2 y3 y4 y5 y6))) w_1121 w_1123 ps_137 ⟨lk_137.1, lk_137.2.1, lk_137.2.2, by decide, by decide⟩ rfl (rm_g66 hH) rfl (by simp [Value.category]) dd_136_5 (by rw [← hch]; exact m_la1 hH hat hlen) ?_
  show am_Good mi_136 8 [some (.ref 66), none] [.retAddr 118] (rm h f len at_ rl rg z1 z2 z3 z4 z5 z6 tm td y1 y2 y3 y4 y5 y6) _
  refine g_istore_n (i := 1) dd_136_8 (am_nlb_ok rfl) (by decide) ?_
  refine g_aload_n (i := 0) dd_136_9 rfl ?_
  refine g_dup dd_136_10 rfl ?_
  refine g_getfield (k := 16) am_ck12 (by decide) (Or.inl w_951) dd_136_11 (rm_g66 hH) rfl ?_
  refine g_iconst dd_136_14 ic_1 ?_
  refine e_iadd (v := at_ + 1) dd_136_15 (by omega) ?_
  refine g_putfield (k := 16) am_ck12 (by decide) (Or.inl w_951) (Or.inl rfl) dd_136_16 (rm_g66 hH) (Nat.le_of_ble_eq_true rfl) trivial ?_
  refine am_heq (rm_u66 hH) ?_
  show am_Good mi_136 19 [some (.ref 66), some (.retAddr 118)] [] (rm h f len (at_ + 1) rl rg z1 z2 z3 z4 z5 z6 tm td y1 y2 y3 y4 y5 y6) _
  refine g_iload_n (i := 1) dd_136_19 rfl ?_
  refine g_tableIn (a := 118) (off := 144) (t := 164) dd_136_20 (by decide) (by decide) (by decide) rfl (by decide) ?_
  refine g_iconst dd_136_164 ic_0 ?_
  exact g_zreturn rfl (by first | decide | omega) dd_136_165
theorem m_r119 {h : am_H} {f : Nat → Value} {len at_ rl rg z1 z2 z3 z4 z5 z6 tm td y1 y2 y3 y4 y5 y6 : Nat} (hH : rm_ok h) (hlen : len ≤ 200) (hat : at_ < len) (hch : am_ag tm at_ = 119) {b : Nat} {h2 : am_H} (hb : b < 2) (hm : am_EG mi_150 [.ref 66] (rm h f len (at_ + 1) rl rg z1 z2 z3 z4 z5 z6 tm td y1 y2 y3 y4 y5 y6) (some (.retAddr b), h2)) : am_EG mi_136 [.ref 66] (rm h f len at_ rl rg z1 z2 z3 z4 z5 z6 tm td y1 y2 y3 y4 y5 y6) (some (.retAddr b), h2) := by
  refine am_enter (n := 1) tk_136.2.1 (by simp [Value.category]) (Nat.le_of_ble_eq_true rfl) ?_
  show am_Good mi_136 0 [some (.ref 66), none] [] (rm h f len at_ rl rg z1 z2 z3 z4 z5 z6 tm td y1 y2 y3 y4 y5 y6) _
  refine g_aload_n (i := 0) dd_136_0 rfl ?_
  refine g_aload_n (i := 0) dd_136_1 rfl ?_
  refine g_getfield (k := 16) am_ck12 (by decide) (Or.inl w_951) dd_136_2 (rm_g66 hH) rfl ?_
  refine g_virtual (M' := mi_137) (n := 1) (ci := 12) (b := 66) (as := [.retAddr at_]) (st := []) (r1 := (some (.retAddr 119), (rm h f len at_ rl rg z1 z2 z3 z4 z5 z6 tm td y1 y2 y3 y4 y5 y6))) w_1121 w_1123 ps_137 ⟨lk_137.1, lk_137.2.1, lk_137.2.2, by decide, by decide⟩ rfl (rm_g66 hH) rfl (by simp [Value.category]) dd_136_5 (by rw [← hch]; exact m_la1 hH hat hlen) ?_
  show am_Good mi_136 8 [some (.ref 66), none] [.retAddr 119] (rm h f len at_ rl rg z1 z2 z3 z4 z5 z6 tm td y1 y2 y3 y4 y5 y6) _
  refine g_istore_n (i := 1) dd_136_8 (am_nlb_ok rfl) (by decide) ?_
  refine g_aload_n (i := 0) dd_136_9 rfl ?_
  refine g_dup dd_136_10 rfl ?_
  refine g_getfield (k := 16) am_ck12 (by decide) (Or.inl w_951) dd_136_11 (rm_g66 hH) rfl ?_
  refine g_iconst dd_136_14 ic_1 ?_
  refine e_iadd (v := at_ + 1) dd_136_15 (by omega) ?_
  refine g_putfield (k := 16) am_ck12 (by decide) (Or.inl w_951) (Or.inl rfl) dd_136_16 (rm_g66 hH) (Nat.le_of_ble_eq_true rfl) trivial ?_
  refine am_heq (rm_u66 hH) ?_
  show am_Good mi_136 19 [some (.ref 66), some (.retAddr 119)] [] (rm h f len (at_ + 1) rl rg z1 z2 z3 z4 z5 z6 tm td y1 y2 y3 y4 y5 y6) _
  refine g_iload_n (i := 1) dd_136_19 rfl ?_
  refine g_tableIn (a := 119) (off := 139) (t := 159) dd_136_20 (by decide) (by decide) (by decide) rfl (by decide) ?_
  refine g_aload_n (i := 0) dd_136_159 rfl ?_
  refine g_virtual (M' := mi_150) (n := 0) (ci := 12) (b := 66) (as := []) (st := []) (r1 := (some (.retAddr b), h2)) w_1171 w_1173 ps_150 ⟨lk_150.1, lk_150.2.1, lk_150.2.2, by decide, by decide⟩ rfl (rm_g66 hH) rfl (by simp [Value.category]) dd_136_160 (hm) ?_
  show am_Good mi_136 163 [some (.ref 66), some (.retAddr 119)] [.retAddr b] h2 _
  exact g_zreturn rfl (by first | decide | omega) dd_136_163
theorem m_rout {h : am_H} {f : Nat → Value} {len at_ rl rg z1 z2 z3 z4 z5 z6 tm td y1 y2 y3 y4 y5 y6 : Nat} (hH : rm_ok h) (hlen : len ≤ 200) (hat : at_ < len) (hc : am_ag tm at_ < 98 ∨ 119 < am_ag tm at_) : am_EG mi_136 [.ref 66] (rm h f len at_ rl rg z1 z2 z3 z4 z5 z6 tm td y1 y2 y3 y4 y5 y6) (some (.retAddr 0), (rm h f len (at_ + 1) rl rg z1 z2 z3 z4 z5 z6 tm td y1 y2 y3 y4 y5 y6)) := by
  refine am_enter (n := 1) tk_136.2.1 (by simp [Value.category]) (Nat.le_of_ble_eq_true rfl) ?_
  show am_Good mi_136 0 [some (.ref 66), none] [] (rm h f len at_ rl rg z1 z2 z3 z4 z5 z6 tm td y1 y2 y3 y4 y5 y6) _
  have hx0 := am_ag_lt tm at_
  refine g_aload_n (i := 0) dd_136_0 rfl ?_
  refine g_aload_n (i := 0) dd_136_1 rfl ?_
  refine g_getfield (k := 16) am_ck12 (by decide) (Or.inl w_951) dd_136_2 (rm_g66 hH) rfl ?_
  refine g_virtual (M' := mi_137) (n := 1) (ci := 12) (b := 66) (as := [.retAddr at_]) (st := []) (r1 := (some (.retAddr (am_ag tm at_)), (rm h f len at_ rl rg z1 z2 z3 z4 z5 z6 tm td y1 y2 y3 y4 y5 y6))) w_1121 w_1123 ps_137 ⟨lk_137.1, lk_137.2.1, lk_137.2.2, by decide, by decide⟩ rfl (rm_g66 hH) rfl (by simp [Value.category]) dd_136_5 (m_la1 hH hat hlen) ?_
  show am_Good mi_136 8 [some (.ref 66), none] [.retAddr (am_ag tm at_)] (rm h f len at_ rl rg z1 z2 z3 z4 z5 z6 tm td y1 y2 y3 y4 y5 y6) _
  refine g_istore_n (i := 1) dd_136_8 (am_nlb_ok rfl) (by decide) ?_
  refine g_aload_n (i := 0) dd_136_9 rfl ?_
  refine g_dup dd_136_10 rfl ?_
  refine g_getfield (k := 16) am_ck12 (by decide) (Or.inl w_951) dd_136_11 (rm_g66 hH) rfl ?_
  refine g_iconst dd_136_14 ic_1 ?_
  refine e_iadd (v := at_ + 1) dd_136_15 (by omega) ?_
  refine g_putfield (k := 16) am_ck12 (by decide) (Or.inl w_951) (Or.inl rfl) dd_136_16 (rm_g66 hH) (Nat.le_of_ble_eq_true rfl) trivial ?_
  refine am_heq (rm_u66 hH) ?_
  show am_Good mi_136 19 [some (.ref 66), some (.retAddr (am_ag tm at_))] [] (rm h f len (at_ + 1) rl rg z1 z2 z3 z4 z5 z6 tm td y1 y2 y3 y4 y5 y6) _
  refine g_iload_n (i := 1) dd_136_19 rfl ?_
  refine g_tableOut (t := 164) dd_136_20 (by omega) (by decide) (by omega) (by decide) ?_
  refine g_iconst dd_136_164 ic_0 ?_
  exact g_zreturn rfl (by first | decide | omega) dd_136_165
theorem m_fb {h : am_H} {f : Nat → Value} {len at_ rl rg z1 z2 z3 z4 z5 z6 tm td y1 y2 y3 y4 y5 y6 : Nat} (hH : rm_ok h) {v1 : Option Value} (hlen : len ≤ 200) (hat : at_ < len) {h2 : am_H} (hm : am_EG mi_136 [.ref 66] (rm h f len at_ rl rg z1 z2 z3 z4 z5 z6 tm td y1 y2 y3 y4 y5 y6) (some (.retAddr 0), h2)) : am_Good mi_135 46 [some (.ref 66), v1] [] (rm h f len at_ rl rg z1 z2 z3 z4 z5 z6 tm td y1 y2 y3 y4 y5 y6) (some (.retAddr at_), h2) := by
  refine g_aload_n (i := 0) dd_135_46 rfl ?_
  refine g_getfield (k := 16) am_ck12 (by decide) (Or.inl w_951) dd_135_47 (rm_g66 hH) rfl ?_
  refine g_aload_n (i := 0) dd_135_50 rfl ?_
  refine g_getfield (k := 15) am_ck12 (by decide) (Or.inl w_950) dd_135_51 (rm_g66 hH) rfl ?_
  refine g_icmp_ge_f (t := 74) dd_135_54 (by decide) (by first | exact sk_ge_f (by omega) (by omega) | exact tk_ge_f (by omega)) ?_
  refine g_aload_n (i := 0) dd_135_57 rfl ?_
  refine g_getfield (k := 16) am_ck12 (by decide) (Or.inl w_951) dd_135_58 (rm_g66 hH) rfl ?_
  refine g_istore_n (i := 1) dd_135_61 (am_nlb_ok rfl) (by decide) ?_
  refine g_aload_n (i := 0) dd_135_62 rfl ?_
  refine g_virtual (M' := mi_136) (n := 0) (ci := 12) (b := 66) (as := []) (st := []) (r1 := (some (.retAddr 0), h2)) w_1117 w_1119 ps_136 ⟨lk_136.1, lk_136.2.1, lk_136.2.2, by decide, by decide⟩ rfl (rm_g66 hH) rfl (by simp [Value.category]) dd_135_63 (hm) ?_
  show am_Good mi_135 66 [some (.ref 66), some (.retAddr at_)] [.retAddr 0] h2 _
  refine g_if_ne_f (t := 71) dd_135_66 (by decide) (by decide) ?_
  refine g_iload_n (i := 1) dd_135_69 rfl ?_
  exact g_ireturn rfl dd_135_70
theorem m_fy {h : am_H} {f : Nat → Value} {len at_ rl rg z1 z2 z3 z4 z5 z6 tm td y1 y2 y3 y4 y5 y6 : Nat} (hH : rm_ok h) {v1 : Option Value} (hlen : len ≤ 200) (hat : at_ < len) {h2 : am_H} (hm : am_EG mi_136 [.ref 66] (rm h f len at_ rl rg z1 z2 z3 z4 z5 z6 tm td y1 y2 y3 y4 y5 y6) (some (.retAddr 1), h2)) {r : am_R} (hg : am_Good mi_135 46 [some (.ref 66), some (.retAddr at_)] [] h2 r) : am_Good mi_135 46 [some (.ref 66), v1] [] (rm h f len at_ rl rg z1 z2 z3 z4 z5 z6 tm td y1 y2 y3 y4 y5 y6) r := by
  refine g_aload_n (i := 0) dd_135_46 rfl ?_
  refine g_getfield (k := 16) am_ck12 (by decide) (Or.inl w_951) dd_135_47 (rm_g66 hH) rfl ?_
  refine g_aload_n (i := 0) dd_135_50 rfl ?_
  refine g_getfield (k := 15) am_ck12 (by decide) (Or.inl w_950) dd_135_51 (rm_g66 hH) rfl ?_
  refine g_icmp_ge_f (t := 74) dd_135_54 (by decide) (by first | exact sk_ge_f (by omega) (by omega) | exact tk_ge_f (by omega)) ?_
  refine g_aload_n (i := 0) dd_135_57 rfl ?_
  refine g_getfield (k := 16) am_ck12 (by decide) (Or.inl w_951) dd_135_58 (rm_g66 hH) rfl ?_
  refine g_istore_n (i := 1) dd_135_61 (am_nlb_ok rfl) (by decide) ?_
  refine g_aload_n (i := 0) dd_135_62 rfl ?_
  refine g_virtual (M' := mi_136) (n := 0) (ci := 12) (b := 66) (as := []) (st := []) (r1 := (some (.retAddr 1), h2)) w_1117 w_1119 ps_136 ⟨lk_136.1, lk_136.2.1, lk_136.2.2, by decide, by decide⟩ rfl (rm_g66 hH) rfl (by simp [Value.category]) dd_135_63 (hm) ?_
  show am_Good mi_135 66 [some (.ref 66), some (.retAddr at_)] [.retAddr 1] h2 _
  refine g_if_ne_t (t := 71) dd_135_66 (by decide) (by decide) ?_
  refine g_goto (t := 46) dd_135_71 (by decide) ?_
  exact hg
theorem m_fe {h : am_H} {f : Nat → Value} {len at_ rl rg z1 z2 z3 z4 z5 z6 tm td y1 y2 y3 y4 y5 y6 : Nat} (hH : rm_ok h) {v1 : Option Value} (hlen : len ≤ 200) (hat : at_ = len) : am_Good mi_135 46 [some (.ref 66), v1] [] (rm h f len at_ rl rg z1 z2 z3 z4 z5 z6 tm td y1 y2 y3 y4 y5 y6) (some (.retAddr 4294967292), (rm h f len at_ rl rg z1 z2 z3 z4 z5 z6 tm td y1 y2 y3 y4 y5 y6)) := by
  refine g_aload_n (i := 0) dd_135_46 rfl ?_
  refine g_getfield (k := 16) am_ck12 (by decide) (Or.inl w_951) dd_135_47 (rm_g66 hH) rfl ?_
  refine g_aload_n (i := 0) dd_135_50 rfl ?_
  refine g_getfield (k := 15) am_ck12 (by decide) (Or.inl w_950) dd_135_51 (rm_g66 hH) rfl ?_
  refine g_icmp_ge_t (t := 74) dd_135_54 (by decide) (by first | exact sk_ge_t (by omega) (by omega) | exact tk_ge_t (by omega)) ?_
  refine g_bipush dd_135_74 bi_m4 ?_
  exact g_ireturn rfl dd_135_76
theorem m_f0 {h : am_H} {f : Nat → Value} {len at_ rl rg z1 z2 z3 z4 z5 z6 tm td y1 y2 y3 y4 y5 y6 : Nat} (hH : rm_ok h) {r : am_R} (hg : am_Good mi_135 46 [some (.ref 66), none] [] (rm h f len 0 30 1 0 0 0 0 0 0 tm td y1 y2 y3 y4 y5 y6) r) : am_EG mi_135 [.ref 66] (rm h f len at_ rl rg z1 z2 z3 z4 z5 z6 tm td y1 y2 y3 y4 y5 y6) r := by
  refine am_enter (n := 1) tk_135.2.1 (by simp [Value.category]) (Nat.le_of_ble_eq_true rfl) ?_
  show am_Good mi_135 0 [some (.ref 66), none] [] (rm h f len at_ rl rg z1 z2 z3 z4 z5 z6 tm td y1 y2 y3 y4 y5 y6) _
  refine g_aload_n (i := 0) dd_135_0 rfl ?_
  refine g_iconst dd_135_1 ic_0 ?_
  refine g_putfield (k := 16) am_ck12 (by decide) (Or.inl w_951) (Or.inl rfl) dd_135_2 (rm_g66 hH) (Nat.le_of_ble_eq_true rfl) trivial ?_
  refine am_heq (rm_u66 hH) ?_
  show am_Good mi_135 5 [some (.ref 66), none] [] (rm h f len 0 rl rg z1 z2 z3 z4 z5 z6 tm td y1 y2 y3 y4 y5 y6) _
  refine g_aload_n (i := 0) dd_135_5 rfl ?_
  refine g_bipush dd_135_6 bi_30 ?_
  refine g_putfield (k := 18) am_ck12 (by decide) (Or.inl w_953) (Or.inl rfl) dd_135_8 (rm_g66 hH) (Nat.le_of_ble_eq_true rfl) trivial ?_
  refine am_heq (rm_u66 hH) ?_
  show am_Good mi_135 11 [some (.ref 66), none] [] (rm h f len 0 30 rg z1 z2 z3 z4 z5 z6 tm td y1 y2 y3 y4 y5 y6) _
  refine g_aload_n (i := 0) dd_135_11 rfl ?_
  refine g_iconst dd_135_12 ic_1 ?_
  refine g_putfield (k := 19) am_ck12 (by decide) (Or.inl w_954) (Or.inl rfl) dd_135_13 (rm_g66 hH) (Nat.le_of_ble_eq_true rfl) trivial ?_
  refine am_heq (rm_u66 hH) ?_
  show am_Good mi_135 16 [some (.ref 66), none] [] (rm h f len 0 30 1 z1 z2 z3 z4 z5 z6 tm td y1 y2 y3 y4 y5 y6) _
  refine g_aload_n (i := 0) dd_135_16 rfl ?_
  refine g_iconst dd_135_17 ic_0 ?_
  refine g_putfield (k := 20) am_ck12 (by decide) (Or.inl w_955) (Or.inl rfl) dd_135_18 (rm_g66 hH) (Nat.le_of_ble_eq_true rfl) trivial ?_
  refine am_heq (rm_u66 hH) ?_
  show am_Good mi_135 21 [some (.ref 66), none] [] (rm h f len 0 30 1 0 z2 z3 z4 z5 z6 tm td y1 y2 y3 y4 y5 y6) _
  refine g_aload_n (i := 0) dd_135_21 rfl ?_
  refine g_iconst dd_135_22 ic_0 ?_
  refine g_putfield (k := 22) am_ck12 (by decide) (Or.inl w_957) (Or.inl rfl) dd_135_23 (rm_g66 hH) (Nat.le_of_ble_eq_true rfl) trivial ?_
  refine am_heq (rm_u66 hH) ?_
  show am_Good mi_135 26 [some (.ref 66), none] [] (rm h f len 0 30 1 0 0 z3 z4 z5 z6 tm td y1 y2 y3 y4 y5 y6) _
  refine g_aload_n (i := 0) dd_135_26 rfl ?_
  refine g_iconst dd_135_27 ic_0 ?_
  refine g_putfield (k := 24) am_ck12 (by decide) (Or.inl w_959) (Or.inl rfl) dd_135_28 (rm_g66 hH) (Nat.le_of_ble_eq_true rfl) trivial ?_
  refine am_heq (rm_u66 hH) ?_
  show am_Good mi_135 31 [some (.ref 66), none] [] (rm h f len 0 30 1 0 0 0 z4 z5 z6 tm td y1 y2 y3 y4 y5 y6) _
  refine g_aload_n (i := 0) dd_135_31 rfl ?_
  refine g_iconst dd_135_32 ic_0 ?_
  refine g_putfield (k := 26) am_ck12 (by decide) (Or.inl w_961) (Or.inl rfl) dd_135_33 (rm_g66 hH) (Nat.le_of_ble_eq_true rfl) trivial ?_
  refine am_heq (rm_u66 hH) ?_
  show am_Good mi_135 36 [some (.ref 66), none] [] (rm h f len 0 30 1 0 0 0 0 z5 z6 tm td y1 y2 y3 y4 y5 y6) _
  refine g_aload_n (i := 0) dd_135_36 rfl ?_
  refine g_iconst dd_135_37 ic_0 ?_
  refine g_putfield (k := 28) am_ck12 (by decide) (Or.inl w_963) (Or.inl rfl) dd_135_38 (rm_g66 hH) (Nat.le_of_ble_eq_true rfl) trivial ?_
  refine am_heq (rm_u66 hH) ?_
  show am_Good mi_135 41 [some (.ref 66), none] [] (rm h f len 0 30 1 0 0 0 0 0 z6 tm td y1 y2 y3 y4 y5 y6) _
  refine g_aload_n (i := 0) dd_135_41 rfl ?_
  refine g_iconst dd_135_42 ic_0 ?_
  refine g_putfield (k := 30) am_ck12 (by decide) (Or.inl w_965) (Or.inl rfl) dd_135_43 (rm_g66 hH) (Nat.le_of_ble_eq_true rfl) trivial ?_
  refine am_heq (rm_u66 hH) ?_
  show am_Good mi_135 46 [some (.ref 66), none] [] (rm h f len 0 30 1 0 0 0 0 0 0 tm td y1 y2 y3 y4 y5 y6) _
  exact hg
