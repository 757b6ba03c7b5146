/-- what a letter's numbers must be -/
def rd_sn (v Z : Nat → Nat) : Prop := v 0 < Z 0 ∧ v 1 ≤ 59 ∧ v 2 ≤ 59 ∧ v 1 ≤ v 2
def rd_ok (ch n : Nat) (v Z : Nat → Nat) : Prop :=
  (ch = 110 ∧ n = 1 ∧ 1 ≤ v 0 ∧ v 0 ≤ 60) ∨ (ch = 103 ∧ n = 1 ∧ v 0 ≤ 3) ∨ (ch = 115 ∧ n = 1 ∧ v 0 ≤ 9 ∧ Z 0 < 4) ∨
  (ch = 109 ∧ n = 5 ∧ rd_sn v Z ∧ v 3 ≤ 9 ∧ v 4 ≤ 8 ∧ Z 1 < 9) ∨ (ch = 98 ∧ n = 3 ∧ rd_sn v Z ∧ Z 2 < 6) ∨
  (ch = 117 ∧ n = 4 ∧ rd_sn v Z ∧ v 3 ≤ 10 ∧ Z 3 < 4) ∨ (ch = 102 ∧ n = 3 ∧ v 0 ≤ 7 ∧ v 1 ≤ 7 ∧ v 2 ≤ 7 ∧ Z 4 < 6) ∨
  (ch = 119 ∧ n = 2 ∧ v 0 ≤ 3 ∧ v 1 < Z 0 ∧ Z 5 < 4)
def rd_w (k : Nat) : Nat := if k = 0 then 1 else if k = 1 then 5 else if k = 2 then 3 else if k = 3 then 4 else if k = 4 then 3 else 2
def rd_l (k : Nat) : Nat := if k = 0 then 4 else if k = 1 then 9 else if k = 2 then 6 else if k = 3 then 4 else if k = 4 then 6 else 4
def rd_row (ch : Nat) : Nat := if ch = 115 then 0 else if ch = 109 then 1 else if ch = 98 then 2 else if ch = 117 then 3 else if ch = 102 then 4 else if ch = 119 then 5 else 6
def rd_Z (ch : Nat) (Z : Nat → Nat) (k : Nat) : Nat := if rd_row ch = k then Z k + 1 else Z k
def rd_X (ch nr : Nat) (Z X : Nat → Nat) (k : Nat) : Nat := if rd_row ch = k then am_cp nr (X k) 0 (Z k * rd_w k) (rd_w k) else X k
def rd_mi (ch v mi : Nat) : Nat := if ch = 110 then v else mi
def rd_go (ch v go : Nat) : Nat := if ch = 103 then v else go
theorem rd_mn {len : Nat} (h : len ≤ 200) : (bif am_tlt 200 len then 200 else len) = len := by
  rw [show am_tlt 200 len = false from tc_lt_f (by omega), cond_false]
/-! ===== the reader of the class, evening 4: take, read ===== -/
theorem x4_wi1 {h : am_H} {tx N nr mi go z1 c1 z2 c2 z3 c3 z4 c4 z5 c5 z6 c6 : Nat} (hH : rx4_ok h) {k lo hi : Nat} (hN : N ≤ 5) (h5 : ∀ j, j < 5 → am_ag nr j ≤ 99) (hhi : hi ≤ 200) (hk : k < 5) (hlo : lo ≤ 60) (hc : (k < N ∧ lo ≤ am_ag nr k ∧ am_ag nr k ≤ hi)) : am_EG mi_24 [.ref 2, .retAddr k, .retAddr lo, .retAddr hi] (rx4 h tx N nr mi go z1 c1 z2 c2 z3 c3 z4 c4 z5 c5 z6 c6) (some (.retAddr 1), (rx4 h tx N nr mi go z1 c1 z2 c2 z3 c3 z4 c4 z5 c5 z6 c6)) := by
  refine am_enter (n := 0) tk_24.2.1 (by simp [Value.category]) (Nat.le_of_ble_eq_true rfl) ?_
  show am_Good mi_24 0 [some (.ref 2), some (.retAddr k), some (.retAddr lo), some (.retAddr hi)] [] (rx4 h tx N nr mi go z1 c1 z2 c2 z3 c3 z4 c4 z5 c5 z6 c6) _
  have hb5 := h5 k hk
  refine g_iload_n (i := 1) dd_24_0 rfl ?_
  refine g_if_lt_f (t := 45) dd_24_1 (by decide) (by first | exact sk_lt_f (by omega) (by omega) | exact tk_lt_f (by omega)) ?_
  refine g_iload_n (i := 1) dd_24_4 rfl ?_
  refine g_aload_n (i := 0) dd_24_5 rfl ?_
  refine g_getfield (k := 1) am_ck6 (by decide) (Or.inl w_37) dd_24_6 (rx4_g2 hH) rfl ?_
  refine g_icmp_ge_f (t := 45) dd_24_9 (by decide) (by first | exact sk_ge_f (by omega) (by omega) | exact tk_ge_f (by omega)) ?_
  refine g_iload_n (i := 1) dd_24_12 rfl ?_
  refine g_aload_n (i := 0) dd_24_13 rfl ?_
  refine g_getfield (k := 0) am_ck6 (by decide) (Or.inl w_36) dd_24_14 (rx4_g2 hH) rfl ?_
  refine g_alen dd_24_17 (rx4_g3 hH) (by decide) ?_
  refine g_icmp_ge_f (t := 45) dd_24_18 (by decide) (by first | exact sk_ge_f (by omega) (by omega) | exact tk_ge_f (by omega)) ?_
  refine g_aload_n (i := 0) dd_24_21 rfl ?_
  refine g_getfield (k := 0) am_ck6 (by decide) (Or.inl w_36) dd_24_22 (rx4_g2 hH) rfl ?_
  refine g_iload_n (i := 1) dd_24_25 rfl ?_
  refine g_iaload dd_24_26 (rx4_g3 hH) (by omega) (by decide) ?_
  have hl_1 := am_ag_lt nr k
  refine g_iload_n (i := 2) dd_24_27 rfl ?_
  refine g_icmp_lt_f (t := 45) dd_24_28 (by decide) (by first | exact sk_lt_f (by omega) (by omega) | exact tk_lt_f (by omega)) ?_
  refine g_aload_n (i := 0) dd_24_31 rfl ?_
  refine g_getfield (k := 0) am_ck6 (by decide) (Or.inl w_36) dd_24_32 (rx4_g2 hH) rfl ?_
  refine g_iload_n (i := 1) dd_24_35 rfl ?_
  refine g_iaload dd_24_36 (rx4_g3 hH) (by omega) (by decide) ?_
  have hl_2 := am_ag_lt nr k
  refine g_iload_n (i := 3) dd_24_37 rfl ?_
  refine g_icmp_gt_f (t := 45) dd_24_38 (by decide) (by first | exact sk_gt_f (by omega) (by omega) | exact tk_gt_f (by omega)) ?_
  refine g_iconst dd_24_41 ic_1 ?_
  refine g_goto (t := 46) dd_24_42 (by decide) ?_
  exact g_zreturn rfl (by first | decide | omega) dd_24_46
theorem x4_wi0 {h : am_H} {tx N nr mi go z1 c1 z2 c2 z3 c3 z4 c4 z5 c5 z6 c6 : Nat} (hH : rx4_ok h) {k lo hi : Nat} (hN : N ≤ 5) (h5 : ∀ j, j < 5 → am_ag nr j ≤ 99) (hhi : hi ≤ 200) (hk : k < 5) (hlo : lo ≤ 60) (hc : ¬ (k < N ∧ lo ≤ am_ag nr k ∧ am_ag nr k ≤ hi)) : am_EG mi_24 [.ref 2, .retAddr k, .retAddr lo, .retAddr hi] (rx4 h tx N nr mi go z1 c1 z2 c2 z3 c3 z4 c4 z5 c5 z6 c6) (some (.retAddr 0), (rx4 h tx N nr mi go z1 c1 z2 c2 z3 c3 z4 c4 z5 c5 z6 c6)) := by
  refine am_enter (n := 0) tk_24.2.1 (by simp [Value.category]) (Nat.le_of_ble_eq_true rfl) ?_
  show am_Good mi_24 0 [some (.ref 2), some (.retAddr k), some (.retAddr lo), some (.retAddr hi)] [] (rx4 h tx N nr mi go z1 c1 z2 c2 z3 c3 z4 c4 z5 c5 z6 c6) _
  have hb5 := h5 k hk
  refine g_iload_n (i := 1) dd_24_0 rfl ?_
  refine g_if_lt_f (t := 45) dd_24_1 (by decide) (by first | exact sk_lt_f (by omega) (by omega) | exact tk_lt_f (by omega)) ?_
  refine g_iload_n (i := 1) dd_24_4 rfl ?_
  refine g_aload_n (i := 0) dd_24_5 rfl ?_
  refine g_getfield (k := 1) am_ck6 (by decide) (Or.inl w_37) dd_24_6 (rx4_g2 hH) rfl ?_
  by_cases hq1 : N ≤ k
  · refine g_icmp_ge_t (t := 45) dd_24_9 (by decide) (by first | exact sk_ge_t (by omega) (by omega) | exact tk_ge_t (by omega)) ?_
    refine g_iconst dd_24_45 ic_0 ?_
    exact g_zreturn rfl (by first | decide | omega) dd_24_46
  · refine g_icmp_ge_f (t := 45) dd_24_9 (by decide) (by first | exact sk_ge_f (by omega) (by omega) | exact tk_ge_f (by omega)) ?_
    refine g_iload_n (i := 1) dd_24_12 rfl ?_
    refine g_aload_n (i := 0) dd_24_13 rfl ?_
    refine g_getfield (k := 0) am_ck6 (by decide) (Or.inl w_36) dd_24_14 (rx4_g2 hH) rfl ?_
    refine g_alen dd_24_17 (rx4_g3 hH) (by decide) ?_
    refine g_icmp_ge_f (t := 45) dd_24_18 (by decide) (by first | exact sk_ge_f (by omega) (by omega) | exact tk_ge_f (by omega)) ?_
    refine g_aload_n (i := 0) dd_24_21 rfl ?_
    refine g_getfield (k := 0) am_ck6 (by decide) (Or.inl w_36) dd_24_22 (rx4_g2 hH) rfl ?_
    refine g_iload_n (i := 1) dd_24_25 rfl ?_
    refine g_iaload dd_24_26 (rx4_g3 hH) (by omega) (by decide) ?_
    have hl_1 := am_ag_lt nr k
    refine g_iload_n (i := 2) dd_24_27 rfl ?_
    by_cases hq2 : am_ag nr k < lo
    · refine g_icmp_lt_t (t := 45) dd_24_28 (by decide) (by first | exact sk_lt_t (by omega) (by omega) | exact tk_lt_t (by omega)) ?_
      refine g_iconst dd_24_45 ic_0 ?_
      exact g_zreturn rfl (by first | decide | omega) dd_24_46
    · refine g_icmp_lt_f (t := 45) dd_24_28 (by decide) (by first | exact sk_lt_f (by omega) (by omega) | exact tk_lt_f (by omega)) ?_
      refine g_aload_n (i := 0) dd_24_31 rfl ?_
      refine g_getfield (k := 0) am_ck6 (by decide) (Or.inl w_36) dd_24_32 (rx4_g2 hH) rfl ?_
      refine g_iload_n (i := 1) dd_24_35 rfl ?_
      refine g_iaload dd_24_36 (rx4_g3 hH) (by omega) (by decide) ?_
      have hl_2 := am_ag_lt nr k
      refine g_iload_n (i := 3) dd_24_37 rfl ?_
      refine g_icmp_gt_t (t := 45) dd_24_38 (by decide) (by first | exact sk_gt_t (by omega) (by omega) | exact tk_gt_t (by omega)) ?_
      refine g_iconst dd_24_45 ic_0 ?_
      exact g_zreturn rfl (by first | decide | omega) dd_24_46
theorem x4_wz1 {h : am_H} {tx N nr mi go z1 c1 z2 c2 z3 c3 z4 c4 z5 c5 z6 c6 : Nat} (hH : rx4_ok h) {k lo : Nat} (hN : N ≤ 5) (h5 : ∀ j, j < 5 → am_ag nr j ≤ 99) (hz1 : z1 ≤ 4) (hk : k < 5) (hlo : lo ≤ 60) (hc : (k < N ∧ lo ≤ am_ag nr k ∧ am_ag nr k < z1)) : am_EG mi_24 [.ref 2, .retAddr k, .retAddr lo, .retAddr ((z1 + 4294967295) % 4294967296)] (rx4 h tx N nr mi go z1 c1 z2 c2 z3 c3 z4 c4 z5 c5 z6 c6) (some (.retAddr 1), (rx4 h tx N nr mi go z1 c1 z2 c2 z3 c3 z4 c4 z5 c5 z6 c6)) := by
  refine am_enter (n := 0) tk_24.2.1 (by simp [Value.category]) (Nat.le_of_ble_eq_true rfl) ?_
  show am_Good mi_24 0 [some (.ref 2), some (.retAddr k), some (.retAddr lo), some (.retAddr ((z1 + 4294967295) % 4294967296))] [] (rx4 h tx N nr mi go z1 c1 z2 c2 z3 c3 z4 c4 z5 c5 z6 c6) _
  have hb5 := h5 k hk
  refine g_iload_n (i := 1) dd_24_0 rfl ?_
  refine g_if_lt_f (t := 45) dd_24_1 (by decide) (by first | exact sk_lt_f (by omega) (by omega) | exact tk_lt_f (by omega)) ?_
  refine g_iload_n (i := 1) dd_24_4 rfl ?_
  refine g_aload_n (i := 0) dd_24_5 rfl ?_
  refine g_getfield (k := 1) am_ck6 (by decide) (Or.inl w_37) dd_24_6 (rx4_g2 hH) rfl ?_
  refine g_icmp_ge_f (t := 45) dd_24_9 (by decide) (by first | exact sk_ge_f (by omega) (by omega) | exact tk_ge_f (by omega)) ?_
  refine g_iload_n (i := 1) dd_24_12 rfl ?_
  refine g_aload_n (i := 0) dd_24_13 rfl ?_
  refine g_getfield (k := 0) am_ck6 (by decide) (Or.inl w_36) dd_24_14 (rx4_g2 hH) rfl ?_
  refine g_alen dd_24_17 (rx4_g3 hH) (by decide) ?_
  refine g_icmp_ge_f (t := 45) dd_24_18 (by decide) (by first | exact sk_ge_f (by omega) (by omega) | exact tk_ge_f (by omega)) ?_
  refine g_aload_n (i := 0) dd_24_21 rfl ?_
  refine g_getfield (k := 0) am_ck6 (by decide) (Or.inl w_36) dd_24_22 (rx4_g2 hH) rfl ?_
  refine g_iload_n (i := 1) dd_24_25 rfl ?_
  refine g_iaload dd_24_26 (rx4_g3 hH) (by omega) (by decide) ?_
  have hl_1 := am_ag_lt nr k
  refine g_iload_n (i := 2) dd_24_27 rfl ?_
  refine g_icmp_lt_f (t := 45) dd_24_28 (by decide) (by first | exact sk_lt_f (by omega) (by omega) | exact tk_lt_f (by omega)) ?_
  refine g_aload_n (i := 0) dd_24_31 rfl ?_
  refine g_getfield (k := 0) am_ck6 (by decide) (Or.inl w_36) dd_24_32 (rx4_g2 hH) rfl ?_
  refine g_iload_n (i := 1) dd_24_35 rfl ?_
  refine g_iaload dd_24_36 (rx4_g3 hH) (by omega) (by decide) ?_
  have hl_2 := am_ag_lt nr k
  refine g_iload_n (i := 3) dd_24_37 rfl ?_
  refine g_icmp_gt_f (t := 45) dd_24_38 (by decide) (by first | exact sk_gt_f (by omega) (by omega) | exact tk_gt_f (by omega)) ?_
  refine g_iconst dd_24_41 ic_1 ?_
  refine g_goto (t := 46) dd_24_42 (by decide) ?_
  exact g_zreturn rfl (by first | decide | omega) dd_24_46
theorem x4_wz0 {h : am_H} {tx N nr mi go z1 c1 z2 c2 z3 c3 z4 c4 z5 c5 z6 c6 : Nat} (hH : rx4_ok h) {k lo : Nat} (hN : N ≤ 5) (h5 : ∀ j, j < 5 → am_ag nr j ≤ 99) (hz1 : z1 ≤ 4) (hk : k < 5) (hlo : lo ≤ 60) (hc : ¬ (k < N ∧ lo ≤ am_ag nr k ∧ am_ag nr k < z1)) : am_EG mi_24 [.ref 2, .retAddr k, .retAddr lo, .retAddr ((z1 + 4294967295) % 4294967296)] (rx4 h tx N nr mi go z1 c1 z2 c2 z3 c3 z4 c4 z5 c5 z6 c6) (some (.retAddr 0), (rx4 h tx N nr mi go z1 c1 z2 c2 z3 c3 z4 c4 z5 c5 z6 c6)) := by
  refine am_enter (n := 0) tk_24.2.1 (by simp [Value.category]) (Nat.le_of_ble_eq_true rfl) ?_
  show am_Good mi_24 0 [some (.ref 2), some (.retAddr k), some (.retAddr lo), some (.retAddr ((z1 + 4294967295) % 4294967296))] [] (rx4 h tx N nr mi go z1 c1 z2 c2 z3 c3 z4 c4 z5 c5 z6 c6) _
  have hb5 := h5 k hk
  refine g_iload_n (i := 1) dd_24_0 rfl ?_
  refine g_if_lt_f (t := 45) dd_24_1 (by decide) (by first | exact sk_lt_f (by omega) (by omega) | exact tk_lt_f (by omega)) ?_
  refine g_iload_n (i := 1) dd_24_4 rfl ?_
  refine g_aload_n (i := 0) dd_24_5 rfl ?_
  refine g_getfield (k := 1) am_ck6 (by decide) (Or.inl w_37) dd_24_6 (rx4_g2 hH) rfl ?_
  by_cases hq1 : N ≤ k
  · refine g_icmp_ge_t (t := 45) dd_24_9 (by decide) (by first | exact sk_ge_t (by omega) (by omega) | exact tk_ge_t (by omega)) ?_
    refine g_iconst dd_24_45 ic_0 ?_
    exact g_zreturn rfl (by first | decide | omega) dd_24_46
  · refine g_icmp_ge_f (t := 45) dd_24_9 (by decide) (by first | exact sk_ge_f (by omega) (by omega) | exact tk_ge_f (by omega)) ?_
    refine g_iload_n (i := 1) dd_24_12 rfl ?_
    refine g_aload_n (i := 0) dd_24_13 rfl ?_
    refine g_getfield (k := 0) am_ck6 (by decide) (Or.inl w_36) dd_24_14 (rx4_g2 hH) rfl ?_
    refine g_alen dd_24_17 (rx4_g3 hH) (by decide) ?_
    refine g_icmp_ge_f (t := 45) dd_24_18 (by decide) (by first | exact sk_ge_f (by omega) (by omega) | exact tk_ge_f (by omega)) ?_
    refine g_aload_n (i := 0) dd_24_21 rfl ?_
    refine g_getfield (k := 0) am_ck6 (by decide) (Or.inl w_36) dd_24_22 (rx4_g2 hH) rfl ?_
    refine g_iload_n (i := 1) dd_24_25 rfl ?_
    refine g_iaload dd_24_26 (rx4_g3 hH) (by omega) (by decide) ?_
    have hl_1 := am_ag_lt nr k
    refine g_iload_n (i := 2) dd_24_27 rfl ?_
    by_cases hq2 : am_ag nr k < lo
    · refine g_icmp_lt_t (t := 45) dd_24_28 (by decide) (by first | exact sk_lt_t (by omega) (by omega) | exact tk_lt_t (by omega)) ?_
      refine g_iconst dd_24_45 ic_0 ?_
      exact g_zreturn rfl (by first | decide | omega) dd_24_46
    · refine g_icmp_lt_f (t := 45) dd_24_28 (by decide) (by first | exact sk_lt_f (by omega) (by omega) | exact tk_lt_f (by omega)) ?_
      refine g_aload_n (i := 0) dd_24_31 rfl ?_
      refine g_getfield (k := 0) am_ck6 (by decide) (Or.inl w_36) dd_24_32 (rx4_g2 hH) rfl ?_
      refine g_iload_n (i := 1) dd_24_35 rfl ?_
      refine g_iaload dd_24_36 (rx4_g3 hH) (by omega) (by decide) ?_
      have hl_2 := am_ag_lt nr k
      refine g_iload_n (i := 3) dd_24_37 rfl ?_
      refine g_icmp_gt_t (t := 45) dd_24_38 (by decide) (by first | exact sk_gt_t (by omega) (by omega) | exact tk_gt_t (by omega)) ?_
      refine g_iconst dd_24_45 ic_0 ?_
      exact g_zreturn rfl (by first | decide | omega) dd_24_46
theorem x4_sp1 {h : am_H} {tx N nr mi go z1 c1 z2 c2 z3 c3 z4 c4 z5 c5 z6 c6 : Nat} (hH : rx4_ok h) (hN : N ≤ 5) (h5 : ∀ j, j < 5 → am_ag nr j ≤ 99) (hz1 : z1 ≤ 4) (hc : (2 < N ∧ am_ag nr 0 < z1 ∧ am_ag nr 1 ≤ 59 ∧ am_ag nr 2 ≤ 59 ∧ am_ag nr 1 ≤ am_ag nr 2)) : am_EG mi_27 [.ref 2, .ref 4] (rx4 h tx N nr mi go z1 c1 z2 c2 z3 c3 z4 c4 z5 c5 z6 c6) (some (.retAddr 1), (rx4 h tx N nr mi go z1 c1 z2 c2 z3 c3 z4 c4 z5 c5 z6 c6)) := by
  refine am_enter (n := 0) tk_27.2.1 (by simp [Value.category]) (Nat.le_of_ble_eq_true rfl) ?_
  show am_Good mi_27 0 [some (.ref 2), some (.ref 4)] [] (rx4 h tx N nr mi go z1 c1 z2 c2 z3 c3 z4 c4 z5 c5 z6 c6) _
  have hb0 := h5 0 (by decide)
  have hb1 := h5 1 (by decide)
  have hb2 := h5 2 (by decide)
  refine g_aload_n (i := 0) dd_27_0 rfl ?_
  refine g_iconst dd_27_1 ic_0 ?_
  refine g_iconst dd_27_2 ic_0 ?_
  refine g_aload_n (i := 1) dd_27_3 rfl ?_
  refine g_getfield (k := 0) am_ck1 (by decide) (Or.inr ⟨_, w_85⟩) dd_27_4 (rx4_g4 hH) rfl ?_
  refine g_getfield (k := 3) am_ck8 (by decide) (Or.inr ⟨_, w_69⟩) dd_27_7 (rx4_g5 hH) rfl ?_
  refine g_iconst dd_27_10 ic_1 ?_
  refine e_isub (v := (z1 + 4294967295) % 4294967296) dd_27_11 (by omega) ?_
  refine g_virtual (M' := mi_24) (n := 3) (ci := 6) (b := 2) (as := [.retAddr 0, .retAddr 0, .retAddr ((z1 + 4294967295) % 4294967296)]) (st := []) (r1 := (some (.retAddr 1), (rx4 h tx N nr mi go z1 c1 z2 c2 z3 c3 z4 c4 z5 c5 z6 c6))) w_419 w_421 ps_24 ⟨lk_24.1, lk_24.2.1, lk_24.2.2, by decide, by decide⟩ rfl (rx4_g2 hH) rfl (by simp [Value.category]) dd_27_12 (x4_wz1 hH hN h5 hz1 (by decide) (by decide) (by omega)) ?_
  show am_Good mi_27 15 [some (.ref 2), some (.ref 4)] [.retAddr 1] (rx4 h tx N nr mi go z1 c1 z2 c2 z3 c3 z4 c4 z5 c5 z6 c6) _
  refine g_if_eq_f (t := 59) dd_27_15 (by decide) (by decide) ?_
  refine g_aload_n (i := 0) dd_27_18 rfl ?_
  refine g_iconst dd_27_19 ic_1 ?_
  refine g_iconst dd_27_20 ic_0 ?_
  refine g_bipush dd_27_21 bi_59 ?_
  refine g_virtual (M' := mi_24) (n := 3) (ci := 6) (b := 2) (as := [.retAddr 1, .retAddr 0, .retAddr 59]) (st := []) (r1 := (some (.retAddr 1), (rx4 h tx N nr mi go z1 c1 z2 c2 z3 c3 z4 c4 z5 c5 z6 c6))) w_419 w_421 ps_24 ⟨lk_24.1, lk_24.2.1, lk_24.2.2, by decide, by decide⟩ rfl (rx4_g2 hH) rfl (by simp [Value.category]) dd_27_23 (x4_wi1 hH hN h5 (by decide) (by decide) (by decide) (by omega)) ?_
  show am_Good mi_27 26 [some (.ref 2), some (.ref 4)] [.retAddr 1] (rx4 h tx N nr mi go z1 c1 z2 c2 z3 c3 z4 c4 z5 c5 z6 c6) _
  refine g_if_eq_f (t := 59) dd_27_26 (by decide) (by decide) ?_
  refine g_aload_n (i := 0) dd_27_29 rfl ?_
  refine g_iconst dd_27_30 ic_2 ?_
  refine g_iconst dd_27_31 ic_0 ?_
  refine g_bipush dd_27_32 bi_59 ?_
  refine g_virtual (M' := mi_24) (n := 3) (ci := 6) (b := 2) (as := [.retAddr 2, .retAddr 0, .retAddr 59]) (st := []) (r1 := (some (.retAddr 1), (rx4 h tx N nr mi go z1 c1 z2 c2 z3 c3 z4 c4 z5 c5 z6 c6))) w_419 w_421 ps_24 ⟨lk_24.1, lk_24.2.1, lk_24.2.2, by decide, by decide⟩ rfl (rx4_g2 hH) rfl (by simp [Value.category]) dd_27_34 (x4_wi1 hH hN h5 (by decide) (by decide) (by decide) (by omega)) ?_
  show am_Good mi_27 37 [some (.ref 2), some (.ref 4)] [.retAddr 1] (rx4 h tx N nr mi go z1 c1 z2 c2 z3 c3 z4 c4 z5 c5 z6 c6) _
  refine g_if_eq_f (t := 59) dd_27_37 (by decide) (by decide) ?_
  refine g_aload_n (i := 0) dd_27_40 rfl ?_
  refine g_getfield (k := 0) am_ck6 (by decide) (Or.inl w_36) dd_27_41 (rx4_g2 hH) rfl ?_
  refine g_iconst dd_27_44 ic_1 ?_
  refine g_iaload dd_27_45 (rx4_g3 hH) (by omega) (by decide) ?_
  have hl_1 := am_ag_lt nr 1
  refine g_aload_n (i := 0) dd_27_46 rfl ?_
  refine g_getfield (k := 0) am_ck6 (by decide) (Or.inl w_36) dd_27_47 (rx4_g2 hH) rfl ?_
  refine g_iconst dd_27_50 ic_2 ?_
  refine g_iaload dd_27_51 (rx4_g3 hH) (by omega) (by decide) ?_
  have hl_2 := am_ag_lt nr 2
  refine g_icmp_gt_f (t := 59) dd_27_52 (by decide) (by first | exact sk_gt_f (by omega) (by omega) | exact tk_gt_f (by omega)) ?_
  refine g_iconst dd_27_55 ic_1 ?_
  refine g_goto (t := 60) dd_27_56 (by decide) ?_
  exact g_zreturn rfl (by first | decide | omega) dd_27_60
theorem x4_sp0 {h : am_H} {tx N nr mi go z1 c1 z2 c2 z3 c3 z4 c4 z5 c5 z6 c6 : Nat} (hH : rx4_ok h) (hN : N ≤ 5) (h5 : ∀ j, j < 5 → am_ag nr j ≤ 99) (hz1 : z1 ≤ 4) (hc : ¬ (2 < N ∧ am_ag nr 0 < z1 ∧ am_ag nr 1 ≤ 59 ∧ am_ag nr 2 ≤ 59 ∧ am_ag nr 1 ≤ am_ag nr 2)) : am_EG mi_27 [.ref 2, .ref 4] (rx4 h tx N nr mi go z1 c1 z2 c2 z3 c3 z4 c4 z5 c5 z6 c6) (some (.retAddr 0), (rx4 h tx N nr mi go z1 c1 z2 c2 z3 c3 z4 c4 z5 c5 z6 c6)) := by
  refine am_enter (n := 0) tk_27.2.1 (by simp [Value.category]) (Nat.le_of_ble_eq_true rfl) ?_
  show am_Good mi_27 0 [some (.ref 2), some (.ref 4)] [] (rx4 h tx N nr mi go z1 c1 z2 c2 z3 c3 z4 c4 z5 c5 z6 c6) _
  have hb0 := h5 0 (by decide)
  have hb1 := h5 1 (by decide)
  have hb2 := h5 2 (by decide)
  refine g_aload_n (i := 0) dd_27_0 rfl ?_
  refine g_iconst dd_27_1 ic_0 ?_
  refine g_iconst dd_27_2 ic_0 ?_
  refine g_aload_n (i := 1) dd_27_3 rfl ?_
  refine g_getfield (k := 0) am_ck1 (by decide) (Or.inr ⟨_, w_85⟩) dd_27_4 (rx4_g4 hH) rfl ?_
  refine g_getfield (k := 3) am_ck8 (by decide) (Or.inr ⟨_, w_69⟩) dd_27_7 (rx4_g5 hH) rfl ?_
  refine g_iconst dd_27_10 ic_1 ?_
  refine e_isub (v := (z1 + 4294967295) % 4294967296) dd_27_11 (by omega) ?_
  by_cases hw0 : 0 < N ∧ 0 ≤ am_ag nr 0 ∧ am_ag nr 0 < z1
  · refine g_virtual (M' := mi_24) (n := 3) (ci := 6) (b := 2) (as := [.retAddr 0, .retAddr 0, .retAddr ((z1 + 4294967295) % 4294967296)]) (st := []) (r1 := (some (.retAddr 1), (rx4 h tx N nr mi go z1 c1 z2 c2 z3 c3 z4 c4 z5 c5 z6 c6))) w_419 w_421 ps_24 ⟨lk_24.1, lk_24.2.1, lk_24.2.2, by decide, by decide⟩ rfl (rx4_g2 hH) rfl (by simp [Value.category]) dd_27_12 (x4_wz1 hH hN h5 hz1 (by decide) (by decide) hw0) ?_
    show am_Good mi_27 15 [some (.ref 2), some (.ref 4)] [.retAddr 1] (rx4 h tx N nr mi go z1 c1 z2 c2 z3 c3 z4 c4 z5 c5 z6 c6) _
    refine g_if_eq_f (t := 59) dd_27_15 (by decide) (by decide) ?_
    refine g_aload_n (i := 0) dd_27_18 rfl ?_
    refine g_iconst dd_27_19 ic_1 ?_
    refine g_iconst dd_27_20 ic_0 ?_
    refine g_bipush dd_27_21 bi_59 ?_
    by_cases hw1 : 1 < N ∧ 0 ≤ am_ag nr 1 ∧ am_ag nr 1 ≤ 59
    · refine g_virtual (M' := mi_24) (n := 3) (ci := 6) (b := 2) (as := [.retAddr 1, .retAddr 0, .retAddr 59]) (st := []) (r1 := (some (.retAddr 1), (rx4 h tx N nr mi go z1 c1 z2 c2 z3 c3 z4 c4 z5 c5 z6 c6))) w_419 w_421 ps_24 ⟨lk_24.1, lk_24.2.1, lk_24.2.2, by decide, by decide⟩ rfl (rx4_g2 hH) rfl (by simp [Value.category]) dd_27_23 (x4_wi1 hH hN h5 (by decide) (by decide) (by decide) hw1) ?_
      show am_Good mi_27 26 [some (.ref 2), some (.ref 4)] [.retAddr 1] (rx4 h tx N nr mi go z1 c1 z2 c2 z3 c3 z4 c4 z5 c5 z6 c6) _
      refine g_if_eq_f (t := 59) dd_27_26 (by decide) (by decide) ?_
      refine g_aload_n (i := 0) dd_27_29 rfl ?_
      refine g_iconst dd_27_30 ic_2 ?_
      refine g_iconst dd_27_31 ic_0 ?_
      refine g_bipush dd_27_32 bi_59 ?_
      by_cases hw2 : 2 < N ∧ 0 ≤ am_ag nr 2 ∧ am_ag nr 2 ≤ 59
      · refine g_virtual (M' := mi_24) (n := 3) (ci := 6) (b := 2) (as := [.retAddr 2, .retAddr 0, .retAddr 59]) (st := []) (r1 := (some (.retAddr 1), (rx4 h tx N nr mi go z1 c1 z2 c2 z3 c3 z4 c4 z5 c5 z6 c6))) w_419 w_421 ps_24 ⟨lk_24.1, lk_24.2.1, lk_24.2.2, by decide, by decide⟩ rfl (rx4_g2 hH) rfl (by simp [Value.category]) dd_27_34 (x4_wi1 hH hN h5 (by decide) (by decide) (by decide) hw2) ?_
        show am_Good mi_27 37 [some (.ref 2), some (.ref 4)] [.retAddr 1] (rx4 h tx N nr mi go z1 c1 z2 c2 z3 c3 z4 c4 z5 c5 z6 c6) _
        refine g_if_eq_f (t := 59) dd_27_37 (by decide) (by decide) ?_
        refine g_aload_n (i := 0) dd_27_40 rfl ?_
        refine g_getfield (k := 0) am_ck6 (by decide) (Or.inl w_36) dd_27_41 (rx4_g2 hH) rfl ?_
        refine g_iconst dd_27_44 ic_1 ?_
        refine g_iaload dd_27_45 (rx4_g3 hH) (by omega) (by decide) ?_
        have hl_1 := am_ag_lt nr 1
        refine g_aload_n (i := 0) dd_27_46 rfl ?_
        refine g_getfield (k := 0) am_ck6 (by decide) (Or.inl w_36) dd_27_47 (rx4_g2 hH) rfl ?_
        refine g_iconst dd_27_50 ic_2 ?_
        refine g_iaload dd_27_51 (rx4_g3 hH) (by omega) (by decide) ?_
        have hl_2 := am_ag_lt nr 2
        refine g_icmp_gt_t (t := 59) dd_27_52 (by decide) (by first | exact sk_gt_t (by omega) (by omega) | exact tk_gt_t (by omega)) ?_
        refine g_iconst dd_27_59 ic_0 ?_
        exact g_zreturn rfl (by first | decide | omega) dd_27_60
      · refine g_virtual (M' := mi_24) (n := 3) (ci := 6) (b := 2) (as := [.retAddr 2, .retAddr 0, .retAddr 59]) (st := []) (r1 := (some (.retAddr 0), (rx4 h tx N nr mi go z1 c1 z2 c2 z3 c3 z4 c4 z5 c5 z6 c6))) w_419 w_421 ps_24 ⟨lk_24.1, lk_24.2.1, lk_24.2.2, by decide, by decide⟩ rfl (rx4_g2 hH) rfl (by simp [Value.category]) dd_27_34 (x4_wi0 hH hN h5 (by decide) (by decide) (by decide) hw2) ?_
        show am_Good mi_27 37 [some (.ref 2), some (.ref 4)] [.retAddr 0] (rx4 h tx N nr mi go z1 c1 z2 c2 z3 c3 z4 c4 z5 c5 z6 c6) _
        refine g_if_eq_t (t := 59) dd_27_37 (by decide) (by decide) ?_
        refine g_iconst dd_27_59 ic_0 ?_
        exact g_zreturn rfl (by first | decide | omega) dd_27_60
    · refine g_virtual (M' := mi_24) (n := 3) (ci := 6) (b := 2) (as := [.retAddr 1, .retAddr 0, .retAddr 59]) (st := []) (r1 := (some (.retAddr 0), (rx4 h tx N nr mi go z1 c1 z2 c2 z3 c3 z4 c4 z5 c5 z6 c6))) w_419 w_421 ps_24 ⟨lk_24.1, lk_24.2.1, lk_24.2.2, by decide, by decide⟩ rfl (rx4_g2 hH) rfl (by simp [Value.category]) dd_27_23 (x4_wi0 hH hN h5 (by decide) (by decide) (by decide) hw1) ?_
      show am_Good mi_27 26 [some (.ref 2), some (.ref 4)] [.retAddr 0] (rx4 h tx N nr mi go z1 c1 z2 c2 z3 c3 z4 c4 z5 c5 z6 c6) _
      refine g_if_eq_t (t := 59) dd_27_26 (by decide) (by decide) ?_
      refine g_iconst dd_27_59 ic_0 ?_
      exact g_zreturn rfl (by first | decide | omega) dd_27_60
  · refine g_virtual (M' := mi_24) (n := 3) (ci := 6) (b := 2) (as := [.retAddr 0, .retAddr 0, .retAddr ((z1 + 4294967295) % 4294967296)]) (st := []) (r1 := (some (.retAddr 0), (rx4 h tx N nr mi go z1 c1 z2 c2 z3 c3 z4 c4 z5 c5 z6 c6))) w_419 w_421 ps_24 ⟨lk_24.1, lk_24.2.1, lk_24.2.2, by decide, by decide⟩ rfl (rx4_g2 hH) rfl (by simp [Value.category]) dd_27_12 (x4_wz0 hH hN h5 hz1 (by decide) (by decide) hw0) ?_
    show am_Good mi_27 15 [some (.ref 2), some (.ref 4)] [.retAddr 0] (rx4 h tx N nr mi go z1 c1 z2 c2 z3 c3 z4 c4 z5 c5 z6 c6) _
    refine g_if_eq_t (t := 59) dd_27_15 (by decide) (by decide) ?_
    refine g_iconst dd_27_59 ic_0 ?_
    exact g_zreturn rfl (by first | decide | omega) dd_27_60
theorem x4_ad01 {h : am_H} {tx N nr mi go z1 c1 z2 c2 z3 c3 z4 c4 z5 c5 z6 c6 : Nat} (hH : rx4_ok h) (hz : z1 < 4) : am_EG mi_26 [.ref 5, .ref 3] (rx4 h tx N nr mi go z1 c1 z2 c2 z3 c3 z4 c4 z5 c5 z6 c6) (some (.retAddr 1), (rx4 h tx N nr mi go (z1 + 1) (am_cp nr c1 0 (z1 * 1) 1) z2 c2 z3 c3 z4 c4 z5 c5 z6 c6)) := by
  refine am_enter (n := 0) tk_26.2.1 (by simp [Value.category]) (Nat.le_of_ble_eq_true rfl) ?_
  show am_Good mi_26 0 [some (.ref 5), some (.ref 3)] [] (rx4 h tx N nr mi go z1 c1 z2 c2 z3 c3 z4 c4 z5 c5 z6 c6) _
  refine g_aload_n (i := 0) dd_26_0 rfl ?_
  refine g_getfield (k := 3) am_ck8 (by decide) (Or.inl w_60) dd_26_1 (rx4_g5 hH) rfl ?_
  refine g_aload_n (i := 0) dd_26_4 rfl ?_
  refine g_getfield (k := 2) am_ck8 (by decide) (Or.inl w_59) dd_26_5 (rx4_g5 hH) rfl ?_
  refine g_icmp_ge_f (t := 39) dd_26_8 (by decide) (by first | exact sk_ge_f (by omega) (by omega) | exact tk_ge_f (by omega)) ?_
  refine g_aload_n (i := 1) dd_26_11 rfl ?_
  refine g_alen dd_26_12 (rx4_g3 hH) (by decide) ?_
  refine g_aload_n (i := 0) dd_26_13 rfl ?_
  refine g_getfield (k := 1) am_ck8 (by decide) (Or.inl w_58) dd_26_14 (rx4_g5 hH) rfl ?_
  refine g_icmp_lt_f (t := 39) dd_26_17 (by decide) (by decide) ?_
  refine g_aload_n (i := 0) dd_26_20 rfl ?_
  refine g_getfield (k := 3) am_ck8 (by decide) (Or.inl w_60) dd_26_21 (rx4_g5 hH) rfl ?_
  refine g_iconst dd_26_24 ic_1 ?_
  refine e_iadd (v := z1 + 1) dd_26_25 (by omega) ?_
  refine g_aload_n (i := 0) dd_26_26 rfl ?_
  refine g_getfield (k := 1) am_ck8 (by decide) (Or.inl w_58) dd_26_27 (rx4_g5 hH) rfl ?_
  refine e_imul (v := z1 * 1 + 1) dd_26_30 (by omega) ?_
  refine g_aload_n (i := 0) dd_26_31 rfl ?_
  refine g_getfield (k := 0) am_ck8 (by decide) (Or.inl w_57) dd_26_32 (rx4_g5 hH) rfl ?_
  refine g_alen dd_26_35 (rx4_g6 hH) (by decide) ?_
  refine g_icmp_le_t (t := 41) dd_26_36 (by decide) (by first | exact sk_le_t (by omega) (by omega) | exact tk_le_t (by omega)) ?_
  refine g_aload_n (i := 1) dd_26_41 rfl ?_
  refine g_iconst dd_26_42 ic_0 ?_
  refine g_aload_n (i := 0) dd_26_43 rfl ?_
  refine g_getfield (k := 0) am_ck8 (by decide) (Or.inl w_57) dd_26_44 (rx4_g5 hH) rfl ?_
  refine g_aload_n (i := 0) dd_26_47 rfl ?_
  refine g_getfield (k := 3) am_ck8 (by decide) (Or.inl w_60) dd_26_48 (rx4_g5 hH) rfl ?_
  refine g_aload_n (i := 0) dd_26_51 rfl ?_
  refine g_getfield (k := 1) am_ck8 (by decide) (Or.inl w_58) dd_26_52 (rx4_g5 hH) rfl ?_
  refine e_imul (v := z1 * 1) dd_26_55 (by omega) ?_
  refine g_aload_n (i := 0) dd_26_56 rfl ?_
  refine g_getfield (k := 1) am_ck8 (by decide) (Or.inl w_58) dd_26_57 (rx4_g5 hH) rfl ?_
  refine g_acopy w_431 w_433 w_432 w_19 ⟨by decide, by decide⟩ (by simp [Value.category]) dd_26_60 (rx4_g3 hH) (rx4_g6 hH) (by omega) (by omega) (by decide) (by decide) ?_
  refine am_heq (rx4_u6 hH) ?_
  show am_Good mi_26 63 [some (.ref 5), some (.ref 3)] [] (rx4 h tx N nr mi go z1 (am_cp nr c1 0 (z1 * 1) 1) z2 c2 z3 c3 z4 c4 z5 c5 z6 c6) _
  refine g_aload_n (i := 0) dd_26_63 rfl ?_
  refine g_dup dd_26_64 rfl ?_
  refine g_getfield (k := 3) am_ck8 (by decide) (Or.inl w_60) dd_26_65 (rx4_g5 hH) rfl ?_
  refine g_iconst dd_26_68 ic_1 ?_
  refine e_iadd (v := z1 + 1) dd_26_69 (by omega) ?_
  refine g_putfield (k := 3) am_ck8 (by decide) (Or.inl w_60) (Or.inl rfl) dd_26_70 (rx4_g5 hH) (Nat.le_of_ble_eq_true rfl) trivial ?_
  refine am_heq (rx4_u5 hH) ?_
  show am_Good mi_26 73 [some (.ref 5), some (.ref 3)] [] (rx4 h tx N nr mi go (z1 + 1) (am_cp nr c1 0 (z1 * 1) 1) z2 c2 z3 c3 z4 c4 z5 c5 z6 c6) _
  refine g_iconst dd_26_73 ic_1 ?_
  exact g_zreturn rfl (by first | decide | omega) dd_26_74
theorem x4_ad00 {h : am_H} {tx N nr mi go z1 c1 z2 c2 z3 c3 z4 c4 z5 c5 z6 c6 : Nat} (hH : rx4_ok h) (hz : ¬ z1 < 4) (hz2 : z1 ≤ 200) : am_EG mi_26 [.ref 5, .ref 3] (rx4 h tx N nr mi go z1 c1 z2 c2 z3 c3 z4 c4 z5 c5 z6 c6) (some (.retAddr 0), (rx4 h tx N nr mi go z1 c1 z2 c2 z3 c3 z4 c4 z5 c5 z6 c6)) := by
  refine am_enter (n := 0) tk_26.2.1 (by simp [Value.category]) (Nat.le_of_ble_eq_true rfl) ?_
  show am_Good mi_26 0 [some (.ref 5), some (.ref 3)] [] (rx4 h tx N nr mi go z1 c1 z2 c2 z3 c3 z4 c4 z5 c5 z6 c6) _
  refine g_aload_n (i := 0) dd_26_0 rfl ?_
  refine g_getfield (k := 3) am_ck8 (by decide) (Or.inl w_60) dd_26_1 (rx4_g5 hH) rfl ?_
  refine g_aload_n (i := 0) dd_26_4 rfl ?_
  refine g_getfield (k := 2) am_ck8 (by decide) (Or.inl w_59) dd_26_5 (rx4_g5 hH) rfl ?_
  refine g_icmp_ge_t (t := 39) dd_26_8 (by decide) (by first | exact sk_ge_t (by omega) (by omega) | exact tk_ge_t (by omega)) ?_
  refine g_iconst dd_26_39 ic_0 ?_
  exact g_zreturn rfl (by first | decide | omega) dd_26_40
theorem x4_ad11 {h : am_H} {tx N nr mi go z1 c1 z2 c2 z3 c3 z4 c4 z5 c5 z6 c6 : Nat} (hH : rx4_ok h) (hz : z2 < 9) : am_EG mi_26 [.ref 7, .ref 3] (rx4 h tx N nr mi go z1 c1 z2 c2 z3 c3 z4 c4 z5 c5 z6 c6) (some (.retAddr 1), (rx4 h tx N nr mi go z1 c1 (z2 + 1) (am_cp nr c2 0 (z2 * 5) 5) z3 c3 z4 c4 z5 c5 z6 c6)) := by
  refine am_enter (n := 0) tk_26.2.1 (by simp [Value.category]) (Nat.le_of_ble_eq_true rfl) ?_
  show am_Good mi_26 0 [some (.ref 7), some (.ref 3)] [] (rx4 h tx N nr mi go z1 c1 z2 c2 z3 c3 z4 c4 z5 c5 z6 c6) _
  refine g_aload_n (i := 0) dd_26_0 rfl ?_
  refine g_getfield (k := 3) am_ck8 (by decide) (Or.inl w_60) dd_26_1 (rx4_g7 hH) rfl ?_
  refine g_aload_n (i := 0) dd_26_4 rfl ?_
  refine g_getfield (k := 2) am_ck8 (by decide) (Or.inl w_59) dd_26_5 (rx4_g7 hH) rfl ?_
  refine g_icmp_ge_f (t := 39) dd_26_8 (by decide) (by first | exact sk_ge_f (by omega) (by omega) | exact tk_ge_f (by omega)) ?_
  refine g_aload_n (i := 1) dd_26_11 rfl ?_
  refine g_alen dd_26_12 (rx4_g3 hH) (by decide) ?_
  refine g_aload_n (i := 0) dd_26_13 rfl ?_
  refine g_getfield (k := 1) am_ck8 (by decide) (Or.inl w_58) dd_26_14 (rx4_g7 hH) rfl ?_
  refine g_icmp_lt_f (t := 39) dd_26_17 (by decide) (by decide) ?_
  refine g_aload_n (i := 0) dd_26_20 rfl ?_
  refine g_getfield (k := 3) am_ck8 (by decide) (Or.inl w_60) dd_26_21 (rx4_g7 hH) rfl ?_
  refine g_iconst dd_26_24 ic_1 ?_
  refine e_iadd (v := z2 + 1) dd_26_25 (by omega) ?_
  refine g_aload_n (i := 0) dd_26_26 rfl ?_
  refine g_getfield (k := 1) am_ck8 (by decide) (Or.inl w_58) dd_26_27 (rx4_g7 hH) rfl ?_
  refine e_imul (v := z2 * 5 + 5) dd_26_30 (by omega) ?_
  refine g_aload_n (i := 0) dd_26_31 rfl ?_
  refine g_getfield (k := 0) am_ck8 (by decide) (Or.inl w_57) dd_26_32 (rx4_g7 hH) rfl ?_
  refine g_alen dd_26_35 (rx4_g8 hH) (by decide) ?_
  refine g_icmp_le_t (t := 41) dd_26_36 (by decide) (by first | exact sk_le_t (by omega) (by omega) | exact tk_le_t (by omega)) ?_
  refine g_aload_n (i := 1) dd_26_41 rfl ?_
  refine g_iconst dd_26_42 ic_0 ?_
  refine g_aload_n (i := 0) dd_26_43 rfl ?_
  refine g_getfield (k := 0) am_ck8 (by decide) (Or.inl w_57) dd_26_44 (rx4_g7 hH) rfl ?_
  refine g_aload_n (i := 0) dd_26_47 rfl ?_
  refine g_getfield (k := 3) am_ck8 (by decide) (Or.inl w_60) dd_26_48 (rx4_g7 hH) rfl ?_
  refine g_aload_n (i := 0) dd_26_51 rfl ?_
  refine g_getfield (k := 1) am_ck8 (by decide) (Or.inl w_58) dd_26_52 (rx4_g7 hH) rfl ?_
  refine e_imul (v := z2 * 5) dd_26_55 (by omega) ?_
  refine g_aload_n (i := 0) dd_26_56 rfl ?_
  refine g_getfield (k := 1) am_ck8 (by decide) (Or.inl w_58) dd_26_57 (rx4_g7 hH) rfl ?_
  refine g_acopy w_431 w_433 w_432 w_19 ⟨by decide, by decide⟩ (by simp [Value.category]) dd_26_60 (rx4_g3 hH) (rx4_g8 hH) (by omega) (by omega) (by decide) (by decide) ?_
  refine am_heq (rx4_u8 hH) ?_
  show am_Good mi_26 63 [some (.ref 7), some (.ref 3)] [] (rx4 h tx N nr mi go z1 c1 z2 (am_cp nr c2 0 (z2 * 5) 5) z3 c3 z4 c4 z5 c5 z6 c6) _
  refine g_aload_n (i := 0) dd_26_63 rfl ?_
  refine g_dup dd_26_64 rfl ?_
  refine g_getfield (k := 3) am_ck8 (by decide) (Or.inl w_60) dd_26_65 (rx4_g7 hH) rfl ?_
  refine g_iconst dd_26_68 ic_1 ?_
  refine e_iadd (v := z2 + 1) dd_26_69 (by omega) ?_
  refine g_putfield (k := 3) am_ck8 (by decide) (Or.inl w_60) (Or.inl rfl) dd_26_70 (rx4_g7 hH) (Nat.le_of_ble_eq_true rfl) trivial ?_
  refine am_heq (rx4_u7 hH) ?_
  show am_Good mi_26 73 [some (.ref 7), some (.ref 3)] [] (rx4 h tx N nr mi go z1 c1 (z2 + 1) (am_cp nr c2 0 (z2 * 5) 5) z3 c3 z4 c4 z5 c5 z6 c6) _
  refine g_iconst dd_26_73 ic_1 ?_
  exact g_zreturn rfl (by first | decide | omega) dd_26_74
theorem x4_ad10 {h : am_H} {tx N nr mi go z1 c1 z2 c2 z3 c3 z4 c4 z5 c5 z6 c6 : Nat} (hH : rx4_ok h) (hz : ¬ z2 < 9) (hz2 : z2 ≤ 200) : am_EG mi_26 [.ref 7, .ref 3] (rx4 h tx N nr mi go z1 c1 z2 c2 z3 c3 z4 c4 z5 c5 z6 c6) (some (.retAddr 0), (rx4 h tx N nr mi go z1 c1 z2 c2 z3 c3 z4 c4 z5 c5 z6 c6)) := by
  refine am_enter (n := 0) tk_26.2.1 (by simp [Value.category]) (Nat.le_of_ble_eq_true rfl) ?_
  show am_Good mi_26 0 [some (.ref 7), some (.ref 3)] [] (rx4 h tx N nr mi go z1 c1 z2 c2 z3 c3 z4 c4 z5 c5 z6 c6) _
  refine g_aload_n (i := 0) dd_26_0 rfl ?_
  refine g_getfield (k := 3) am_ck8 (by decide) (Or.inl w_60) dd_26_1 (rx4_g7 hH) rfl ?_
  refine g_aload_n (i := 0) dd_26_4 rfl ?_
  refine g_getfield (k := 2) am_ck8 (by decide) (Or.inl w_59) dd_26_5 (rx4_g7 hH) rfl ?_
  refine g_icmp_ge_t (t := 39) dd_26_8 (by decide) (by first | exact sk_ge_t (by omega) (by omega) | exact tk_ge_t (by omega)) ?_
  refine g_iconst dd_26_39 ic_0 ?_
  exact g_zreturn rfl (by first | decide | omega) dd_26_40
theorem x4_ad21 {h : am_H} {tx N nr mi go z1 c1 z2 c2 z3 c3 z4 c4 z5 c5 z6 c6 : Nat} (hH : rx4_ok h) (hz : z3 < 6) : am_EG mi_26 [.ref 9, .ref 3] (rx4 h tx N nr mi go z1 c1 z2 c2 z3 c3 z4 c4 z5 c5 z6 c6) (some (.retAddr 1), (rx4 h tx N nr mi go z1 c1 z2 c2 (z3 + 1) (am_cp nr c3 0 (z3 * 3) 3) z4 c4 z5 c5 z6 c6)) := by
  refine am_enter (n := 0) tk_26.2.1 (by simp [Value.category]) (Nat.le_of_ble_eq_true rfl) ?_
  show am_Good mi_26 0 [some (.ref 9), some (.ref 3)] [] (rx4 h tx N nr mi go z1 c1 z2 c2 z3 c3 z4 c4 z5 c5 z6 c6) _
  refine g_aload_n (i := 0) dd_26_0 rfl ?_
  refine g_getfield (k := 3) am_ck8 (by decide) (Or.inl w_60) dd_26_1 (rx4_g9 hH) rfl ?_
  refine g_aload_n (i := 0) dd_26_4 rfl ?_
  refine g_getfield (k := 2) am_ck8 (by decide) (Or.inl w_59) dd_26_5 (rx4_g9 hH) rfl ?_
  refine g_icmp_ge_f (t := 39) dd_26_8 (by decide) (by first | exact sk_ge_f (by omega) (by omega) | exact tk_ge_f (by omega)) ?_
  refine g_aload_n (i := 1) dd_26_11 rfl ?_
  refine g_alen dd_26_12 (rx4_g3 hH) (by decide) ?_
  refine g_aload_n (i := 0) dd_26_13 rfl ?_
  refine g_getfield (k := 1) am_ck8 (by decide) (Or.inl w_58) dd_26_14 (rx4_g9 hH) rfl ?_
  refine g_icmp_lt_f (t := 39) dd_26_17 (by decide) (by decide) ?_
  refine g_aload_n (i := 0) dd_26_20 rfl ?_
  refine g_getfield (k := 3) am_ck8 (by decide) (Or.inl w_60) dd_26_21 (rx4_g9 hH) rfl ?_
  refine g_iconst dd_26_24 ic_1 ?_
  refine e_iadd (v := z3 + 1) dd_26_25 (by omega) ?_
  refine g_aload_n (i := 0) dd_26_26 rfl ?_
  refine g_getfield (k := 1) am_ck8 (by decide) (Or.inl w_58) dd_26_27 (rx4_g9 hH) rfl ?_
  refine e_imul (v := z3 * 3 + 3) dd_26_30 (by omega) ?_
  refine g_aload_n (i := 0) dd_26_31 rfl ?_
  refine g_getfield (k := 0) am_ck8 (by decide) (Or.inl w_57) dd_26_32 (rx4_g9 hH) rfl ?_
  refine g_alen dd_26_35 (rx4_g10 hH) (by decide) ?_
  refine g_icmp_le_t (t := 41) dd_26_36 (by decide) (by first | exact sk_le_t (by omega) (by omega) | exact tk_le_t (by omega)) ?_
  refine g_aload_n (i := 1) dd_26_41 rfl ?_
  refine g_iconst dd_26_42 ic_0 ?_
  refine g_aload_n (i := 0) dd_26_43 rfl ?_
  refine g_getfield (k := 0) am_ck8 (by decide) (Or.inl w_57) dd_26_44 (rx4_g9 hH) rfl ?_
  refine g_aload_n (i := 0) dd_26_47 rfl ?_
  refine g_getfield (k := 3) am_ck8 (by decide) (Or.inl w_60) dd_26_48 (rx4_g9 hH) rfl ?_
  refine g_aload_n (i := 0) dd_26_51 rfl ?_
  refine g_getfield (k := 1) am_ck8 (by decide) (Or.inl w_58) dd_26_52 (rx4_g9 hH) rfl ?_
  refine e_imul (v := z3 * 3) dd_26_55 (by omega) ?_
  refine g_aload_n (i := 0) dd_26_56 rfl ?_
  refine g_getfield (k := 1) am_ck8 (by decide) (Or.inl w_58) dd_26_57 (rx4_g9 hH) rfl ?_
  refine g_acopy w_431 w_433 w_432 w_19 ⟨by decide, by decide⟩ (by simp [Value.category]) dd_26_60 (rx4_g3 hH) (rx4_g10 hH) (by omega) (by omega) (by decide) (by decide) ?_
  refine am_heq (rx4_u10 hH) ?_
  show am_Good mi_26 63 [some (.ref 9), some (.ref 3)] [] (rx4 h tx N nr mi go z1 c1 z2 c2 z3 (am_cp nr c3 0 (z3 * 3) 3) z4 c4 z5 c5 z6 c6) _
  refine g_aload_n (i := 0) dd_26_63 rfl ?_
  refine g_dup dd_26_64 rfl ?_
  refine g_getfield (k := 3) am_ck8 (by decide) (Or.inl w_60) dd_26_65 (rx4_g9 hH) rfl ?_
  refine g_iconst dd_26_68 ic_1 ?_
  refine e_iadd (v := z3 + 1) dd_26_69 (by omega) ?_
  refine g_putfield (k := 3) am_ck8 (by decide) (Or.inl w_60) (Or.inl rfl) dd_26_70 (rx4_g9 hH) (Nat.le_of_ble_eq_true rfl) trivial ?_
  refine am_heq (rx4_u9 hH) ?_
  show am_Good mi_26 73 [some (.ref 9), some (.ref 3)] [] (rx4 h tx N nr mi go z1 c1 z2 c2 (z3 + 1) (am_cp nr c3 0 (z3 * 3) 3) z4 c4 z5 c5 z6 c6) _
  refine g_iconst dd_26_73 ic_1 ?_
  exact g_zreturn rfl (by first | decide | omega) dd_26_74
theorem x4_ad20 {h : am_H} {tx N nr mi go z1 c1 z2 c2 z3 c3 z4 c4 z5 c5 z6 c6 : Nat} (hH : rx4_ok h) (hz : ¬ z3 < 6) (hz2 : z3 ≤ 200) : am_EG mi_26 [.ref 9, .ref 3] (rx4 h tx N nr mi go z1 c1 z2 c2 z3 c3 z4 c4 z5 c5 z6 c6) (some (.retAddr 0), (rx4 h tx N nr mi go z1 c1 z2 c2 z3 c3 z4 c4 z5 c5 z6 c6)) := by
  refine am_enter (n := 0) tk_26.2.1 (by simp [Value.category]) (Nat.le_of_ble_eq_true rfl) ?_
  show am_Good mi_26 0 [some (.ref 9), some (.ref 3)] [] (rx4 h tx N nr mi go z1 c1 z2 c2 z3 c3 z4 c4 z5 c5 z6 c6) _
  refine g_aload_n (i := 0) dd_26_0 rfl ?_
  refine g_getfield (k := 3) am_ck8 (by decide) (Or.inl w_60) dd_26_1 (rx4_g9 hH) rfl ?_
  refine g_aload_n (i := 0) dd_26_4 rfl ?_
  refine g_getfield (k := 2) am_ck8 (by decide) (Or.inl w_59) dd_26_5 (rx4_g9 hH) rfl ?_
  refine g_icmp_ge_t (t := 39) dd_26_8 (by decide) (by first | exact sk_ge_t (by omega) (by omega) | exact tk_ge_t (by omega)) ?_
  refine g_iconst dd_26_39 ic_0 ?_
  exact g_zreturn rfl (by first | decide | omega) dd_26_40
theorem x4_ad31 {h : am_H} {tx N nr mi go z1 c1 z2 c2 z3 c3 z4 c4 z5 c5 z6 c6 : Nat} (hH : rx4_ok h) (hz : z4 < 4) : am_EG mi_26 [.ref 11, .ref 3] (rx4 h tx N nr mi go z1 c1 z2 c2 z3 c3 z4 c4 z5 c5 z6 c6) (some (.retAddr 1), (rx4 h tx N nr mi go z1 c1 z2 c2 z3 c3 (z4 + 1) (am_cp nr c4 0 (z4 * 4) 4) z5 c5 z6 c6)) := by
  refine am_enter (n := 0) tk_26.2.1 (by simp [Value.category]) (Nat.le_of_ble_eq_true rfl) ?_
  show am_Good mi_26 0 [some (.ref 11), some (.ref 3)] [] (rx4 h tx N nr mi go z1 c1 z2 c2 z3 c3 z4 c4 z5 c5 z6 c6) _
  refine g_aload_n (i := 0) dd_26_0 rfl ?_
  refine g_getfield (k := 3) am_ck8 (by decide) (Or.inl w_60) dd_26_1 (rx4_g11 hH) rfl ?_
  refine g_aload_n (i := 0) dd_26_4 rfl ?_
  refine g_getfield (k := 2) am_ck8 (by decide) (Or.inl w_59) dd_26_5 (rx4_g11 hH) rfl ?_
  refine g_icmp_ge_f (t := 39) dd_26_8 (by decide) (by first | exact sk_ge_f (by omega) (by omega) | exact tk_ge_f (by omega)) ?_
  refine g_aload_n (i := 1) dd_26_11 rfl ?_
  refine g_alen dd_26_12 (rx4_g3 hH) (by decide) ?_
  refine g_aload_n (i := 0) dd_26_13 rfl ?_
  refine g_getfield (k := 1) am_ck8 (by decide) (Or.inl w_58) dd_26_14 (rx4_g11 hH) rfl ?_
  refine g_icmp_lt_f (t := 39) dd_26_17 (by decide) (by decide) ?_
  refine g_aload_n (i := 0) dd_26_20 rfl ?_
  refine g_getfield (k := 3) am_ck8 (by decide) (Or.inl w_60) dd_26_21 (rx4_g11 hH) rfl ?_
  refine g_iconst dd_26_24 ic_1 ?_
  refine e_iadd (v := z4 + 1) dd_26_25 (by omega) ?_
  refine g_aload_n (i := 0) dd_26_26 rfl ?_
  refine g_getfield (k := 1) am_ck8 (by decide) (Or.inl w_58) dd_26_27 (rx4_g11 hH) rfl ?_
  refine e_imul (v := z4 * 4 + 4) dd_26_30 (by omega) ?_
  refine g_aload_n (i := 0) dd_26_31 rfl ?_
  refine g_getfield (k := 0) am_ck8 (by decide) (Or.inl w_57) dd_26_32 (rx4_g11 hH) rfl ?_
  refine g_alen dd_26_35 (rx4_g12 hH) (by decide) ?_
  refine g_icmp_le_t (t := 41) dd_26_36 (by decide) (by first | exact sk_le_t (by omega) (by omega) | exact tk_le_t (by omega)) ?_
  refine g_aload_n (i := 1) dd_26_41 rfl ?_
  refine g_iconst dd_26_42 ic_0 ?_
  refine g_aload_n (i := 0) dd_26_43 rfl ?_
  refine g_getfield (k := 0) am_ck8 (by decide) (Or.inl w_57) dd_26_44 (rx4_g11 hH) rfl ?_
  refine g_aload_n (i := 0) dd_26_47 rfl ?_
  refine g_getfield (k := 3) am_ck8 (by decide) (Or.inl w_60) dd_26_48 (rx4_g11 hH) rfl ?_
  refine g_aload_n (i := 0) dd_26_51 rfl ?_
  refine g_getfield (k := 1) am_ck8 (by decide) (Or.inl w_58) dd_26_52 (rx4_g11 hH) rfl ?_
  refine e_imul (v := z4 * 4) dd_26_55 (by omega) ?_
  refine g_aload_n (i := 0) dd_26_56 rfl ?_
  refine g_getfield (k := 1) am_ck8 (by decide) (Or.inl w_58) dd_26_57 (rx4_g11 hH) rfl ?_
  refine g_acopy w_431 w_433 w_432 w_19 ⟨by decide, by decide⟩ (by simp [Value.category]) dd_26_60 (rx4_g3 hH) (rx4_g12 hH) (by omega) (by omega) (by decide) (by decide) ?_
  refine am_heq (rx4_u12 hH) ?_
  show am_Good mi_26 63 [some (.ref 11), some (.ref 3)] [] (rx4 h tx N nr mi go z1 c1 z2 c2 z3 c3 z4 (am_cp nr c4 0 (z4 * 4) 4) z5 c5 z6 c6) _
  refine g_aload_n (i := 0) dd_26_63 rfl ?_
  refine g_dup dd_26_64 rfl ?_
  refine g_getfield (k := 3) am_ck8 (by decide) (Or.inl w_60) dd_26_65 (rx4_g11 hH) rfl ?_
  refine g_iconst dd_26_68 ic_1 ?_
  refine e_iadd (v := z4 + 1) dd_26_69 (by omega) ?_
  refine g_putfield (k := 3) am_ck8 (by decide) (Or.inl w_60) (Or.inl rfl) dd_26_70 (rx4_g11 hH) (Nat.le_of_ble_eq_true rfl) trivial ?_
  refine am_heq (rx4_u11 hH) ?_
  show am_Good mi_26 73 [some (.ref 11), some (.ref 3)] [] (rx4 h tx N nr mi go z1 c1 z2 c2 z3 c3 (z4 + 1) (am_cp nr c4 0 (z4 * 4) 4) z5 c5 z6 c6) _
  refine g_iconst dd_26_73 ic_1 ?_
  exact g_zreturn rfl (by first | decide | omega) dd_26_74
theorem x4_ad30 {h : am_H} {tx N nr mi go z1 c1 z2 c2 z3 c3 z4 c4 z5 c5 z6 c6 : Nat} (hH : rx4_ok h) (hz : ¬ z4 < 4) (hz2 : z4 ≤ 200) : am_EG mi_26 [.ref 11, .ref 3] (rx4 h tx N nr mi go z1 c1 z2 c2 z3 c3 z4 c4 z5 c5 z6 c6) (some (.retAddr 0), (rx4 h tx N nr mi go z1 c1 z2 c2 z3 c3 z4 c4 z5 c5 z6 c6)) := by
  refine am_enter (n := 0) tk_26.2.1 (by simp [Value.category]) (Nat.le_of_ble_eq_true rfl) ?_
  show am_Good mi_26 0 [some (.ref 11), some (.ref 3)] [] (rx4 h tx N nr mi go z1 c1 z2 c2 z3 c3 z4 c4 z5 c5 z6 c6) _
  refine g_aload_n (i := 0) dd_26_0 rfl ?_
  refine g_getfield (k := 3) am_ck8 (by decide) (Or.inl w_60) dd_26_1 (rx4_g11 hH) rfl ?_
  refine g_aload_n (i := 0) dd_26_4 rfl ?_
  refine g_getfield (k := 2) am_ck8 (by decide) (Or.inl w_59) dd_26_5 (rx4_g11 hH) rfl ?_
  refine g_icmp_ge_t (t := 39) dd_26_8 (by decide) (by first | exact sk_ge_t (by omega) (by omega) | exact tk_ge_t (by omega)) ?_
  refine g_iconst dd_26_39 ic_0 ?_
  exact g_zreturn rfl (by first | decide | omega) dd_26_40
theorem x4_ad41 {h : am_H} {tx N nr mi go z1 c1 z2 c2 z3 c3 z4 c4 z5 c5 z6 c6 : Nat} (hH : rx4_ok h) (hz : z5 < 6) : am_EG mi_26 [.ref 13, .ref 3] (rx4 h tx N nr mi go z1 c1 z2 c2 z3 c3 z4 c4 z5 c5 z6 c6) (some (.retAddr 1), (rx4 h tx N nr mi go z1 c1 z2 c2 z3 c3 z4 c4 (z5 + 1) (am_cp nr c5 0 (z5 * 3) 3) z6 c6)) := by
  refine am_enter (n := 0) tk_26.2.1 (by simp [Value.category]) (Nat.le_of_ble_eq_true rfl) ?_
  show am_Good mi_26 0 [some (.ref 13), some (.ref 3)] [] (rx4 h tx N nr mi go z1 c1 z2 c2 z3 c3 z4 c4 z5 c5 z6 c6) _
  refine g_aload_n (i := 0) dd_26_0 rfl ?_
  refine g_getfield (k := 3) am_ck8 (by decide) (Or.inl w_60) dd_26_1 (rx4_g13 hH) rfl ?_
  refine g_aload_n (i := 0) dd_26_4 rfl ?_
  refine g_getfield (k := 2) am_ck8 (by decide) (Or.inl w_59) dd_26_5 (rx4_g13 hH) rfl ?_
  refine g_icmp_ge_f (t := 39) dd_26_8 (by decide) (by first | exact sk_ge_f (by omega) (by omega) | exact tk_ge_f (by omega)) ?_
  refine g_aload_n (i := 1) dd_26_11 rfl ?_
  refine g_alen dd_26_12 (rx4_g3 hH) (by decide) ?_
  refine g_aload_n (i := 0) dd_26_13 rfl ?_
  refine g_getfield (k := 1) am_ck8 (by decide) (Or.inl w_58) dd_26_14 (rx4_g13 hH) rfl ?_
  refine g_icmp_lt_f (t := 39) dd_26_17 (by decide) (by decide) ?_
  refine g_aload_n (i := 0) dd_26_20 rfl ?_
  refine g_getfield (k := 3) am_ck8 (by decide) (Or.inl w_60) dd_26_21 (rx4_g13 hH) rfl ?_
  refine g_iconst dd_26_24 ic_1 ?_
  refine e_iadd (v := z5 + 1) dd_26_25 (by omega) ?_
  refine g_aload_n (i := 0) dd_26_26 rfl ?_
  refine g_getfield (k := 1) am_ck8 (by decide) (Or.inl w_58) dd_26_27 (rx4_g13 hH) rfl ?_
  refine e_imul (v := z5 * 3 + 3) dd_26_30 (by omega) ?_
  refine g_aload_n (i := 0) dd_26_31 rfl ?_
  refine g_getfield (k := 0) am_ck8 (by decide) (Or.inl w_57) dd_26_32 (rx4_g13 hH) rfl ?_
  refine g_alen dd_26_35 (rx4_g14 hH) (by decide) ?_
  refine g_icmp_le_t (t := 41) dd_26_36 (by decide) (by first | exact sk_le_t (by omega) (by omega) | exact tk_le_t (by omega)) ?_
  refine g_aload_n (i := 1) dd_26_41 rfl ?_
  refine g_iconst dd_26_42 ic_0 ?_
  refine g_aload_n (i := 0) dd_26_43 rfl ?_
  refine g_getfield (k := 0) am_ck8 (by decide) (Or.inl w_57) dd_26_44 (rx4_g13 hH) rfl ?_
  refine g_aload_n (i := 0) dd_26_47 rfl ?_
  refine g_getfield (k := 3) am_ck8 (by decide) (Or.inl w_60) dd_26_48 (rx4_g13 hH) rfl ?_
  refine g_aload_n (i := 0) dd_26_51 rfl ?_
  refine g_getfield (k := 1) am_ck8 (by decide) (Or.inl w_58) dd_26_52 (rx4_g13 hH) rfl ?_
  refine e_imul (v := z5 * 3) dd_26_55 (by omega) ?_
  refine g_aload_n (i := 0) dd_26_56 rfl ?_
  refine g_getfield (k := 1) am_ck8 (by decide) (Or.inl w_58) dd_26_57 (rx4_g13 hH) rfl ?_
  refine g_acopy w_431 w_433 w_432 w_19 ⟨by decide, by decide⟩ (by simp [Value.category]) dd_26_60 (rx4_g3 hH) (rx4_g14 hH) (by omega) (by omega) (by decide) (by decide) ?_
  refine am_heq (rx4_u14 hH) ?_
  show am_Good mi_26 63 [some (.ref 13), some (.ref 3)] [] (rx4 h tx N nr mi go z1 c1 z2 c2 z3 c3 z4 c4 z5 (am_cp nr c5 0 (z5 * 3) 3) z6 c6) _
  refine g_aload_n (i := 0) dd_26_63 rfl ?_
  refine g_dup dd_26_64 rfl ?_
  refine g_getfield (k := 3) am_ck8 (by decide) (Or.inl w_60) dd_26_65 (rx4_g13 hH) rfl ?_
  refine g_iconst dd_26_68 ic_1 ?_
  refine e_iadd (v := z5 + 1) dd_26_69 (by omega) ?_
  refine g_putfield (k := 3) am_ck8 (by decide) (Or.inl w_60) (Or.inl rfl) dd_26_70 (rx4_g13 hH) (Nat.le_of_ble_eq_true rfl) trivial ?_
  refine am_heq (rx4_u13 hH) ?_
  show am_Good mi_26 73 [some (.ref 13), some (.ref 3)] [] (rx4 h tx N nr mi go z1 c1 z2 c2 z3 c3 z4 c4 (z5 + 1) (am_cp nr c5 0 (z5 * 3) 3) z6 c6) _
  refine g_iconst dd_26_73 ic_1 ?_
  exact g_zreturn rfl (by first | decide | omega) dd_26_74
theorem x4_ad40 {h : am_H} {tx N nr mi go z1 c1 z2 c2 z3 c3 z4 c4 z5 c5 z6 c6 : Nat} (hH : rx4_ok h) (hz : ¬ z5 < 6) (hz2 : z5 ≤ 200) : am_EG mi_26 [.ref 13, .ref 3] (rx4 h tx N nr mi go z1 c1 z2 c2 z3 c3 z4 c4 z5 c5 z6 c6) (some (.retAddr 0), (rx4 h tx N nr mi go z1 c1 z2 c2 z3 c3 z4 c4 z5 c5 z6 c6)) := by
  refine am_enter (n := 0) tk_26.2.1 (by simp [Value.category]) (Nat.le_of_ble_eq_true rfl) ?_
  show am_Good mi_26 0 [some (.ref 13), some (.ref 3)] [] (rx4 h tx N nr mi go z1 c1 z2 c2 z3 c3 z4 c4 z5 c5 z6 c6) _
  refine g_aload_n (i := 0) dd_26_0 rfl ?_
  refine g_getfield (k := 3) am_ck8 (by decide) (Or.inl w_60) dd_26_1 (rx4_g13 hH) rfl ?_
  refine g_aload_n (i := 0) dd_26_4 rfl ?_
  refine g_getfield (k := 2) am_ck8 (by decide) (Or.inl w_59) dd_26_5 (rx4_g13 hH) rfl ?_
  refine g_icmp_ge_t (t := 39) dd_26_8 (by decide) (by first | exact sk_ge_t (by omega) (by omega) | exact tk_ge_t (by omega)) ?_
  refine g_iconst dd_26_39 ic_0 ?_
  exact g_zreturn rfl (by first | decide | omega) dd_26_40
theorem x4_ad51 {h : am_H} {tx N nr mi go z1 c1 z2 c2 z3 c3 z4 c4 z5 c5 z6 c6 : Nat} (hH : rx4_ok h) (hz : z6 < 4) : am_EG mi_26 [.ref 15, .ref 3] (rx4 h tx N nr mi go z1 c1 z2 c2 z3 c3 z4 c4 z5 c5 z6 c6) (some (.retAddr 1), (rx4 h tx N nr mi go z1 c1 z2 c2 z3 c3 z4 c4 z5 c5 (z6 + 1) (am_cp nr c6 0 (z6 * 2) 2))) := by
  refine am_enter (n := 0) tk_26.2.1 (by simp [Value.category]) (Nat.le_of_ble_eq_true rfl) ?_
  show am_Good mi_26 0 [some (.ref 15), some (.ref 3)] [] (rx4 h tx N nr mi go z1 c1 z2 c2 z3 c3 z4 c4 z5 c5 z6 c6) _
  refine g_aload_n (i := 0) dd_26_0 rfl ?_
  refine g_getfield (k := 3) am_ck8 (by decide) (Or.inl w_60) dd_26_1 (rx4_g15 hH) rfl ?_
  refine g_aload_n (i := 0) dd_26_4 rfl ?_
  refine g_getfield (k := 2) am_ck8 (by decide) (Or.inl w_59) dd_26_5 (rx4_g15 hH) rfl ?_
  refine g_icmp_ge_f (t := 39) dd_26_8 (by decide) (by first | exact sk_ge_f (by omega) (by omega) | exact tk_ge_f (by omega)) ?_
  refine g_aload_n (i := 1) dd_26_11 rfl ?_
  refine g_alen dd_26_12 (rx4_g3 hH) (by decide) ?_
  refine g_aload_n (i := 0) dd_26_13 rfl ?_
  refine g_getfield (k := 1) am_ck8 (by decide) (Or.inl w_58) dd_26_14 (rx4_g15 hH) rfl ?_
  refine g_icmp_lt_f (t := 39) dd_26_17 (by decide) (by decide) ?_
  refine g_aload_n (i := 0) dd_26_20 rfl ?_
  refine g_getfield (k := 3) am_ck8 (by decide) (Or.inl w_60) dd_26_21 (rx4_g15 hH) rfl ?_
  refine g_iconst dd_26_24 ic_1 ?_
  refine e_iadd (v := z6 + 1) dd_26_25 (by omega) ?_
  refine g_aload_n (i := 0) dd_26_26 rfl ?_
  refine g_getfield (k := 1) am_ck8 (by decide) (Or.inl w_58) dd_26_27 (rx4_g15 hH) rfl ?_
  refine e_imul (v := z6 * 2 + 2) dd_26_30 (by omega) ?_
  refine g_aload_n (i := 0) dd_26_31 rfl ?_
  refine g_getfield (k := 0) am_ck8 (by decide) (Or.inl w_57) dd_26_32 (rx4_g15 hH) rfl ?_
  refine g_alen dd_26_35 (rx4_g16 hH) (by decide) ?_
  refine g_icmp_le_t (t := 41) dd_26_36 (by decide) (by first | exact sk_le_t (by omega) (by omega) | exact tk_le_t (by omega)) ?_
  refine g_aload_n (i := 1) dd_26_41 rfl ?_
  refine g_iconst dd_26_42 ic_0 ?_
  refine g_aload_n (i := 0) dd_26_43 rfl ?_
  refine g_getfield (k := 0) am_ck8 (by decide) (Or.inl w_57) dd_26_44 (rx4_g15 hH) rfl ?_
  refine g_aload_n (i := 0) dd_26_47 rfl ?_
  refine g_getfield (k := 3) am_ck8 (by decide) (Or.inl w_60) dd_26_48 (rx4_g15 hH) rfl ?_
  refine g_aload_n (i := 0) dd_26_51 rfl ?_
  refine g_getfield (k := 1) am_ck8 (by decide) (Or.inl w_58) dd_26_52 (rx4_g15 hH) rfl ?_
  refine e_imul (v := z6 * 2) dd_26_55 (by omega) ?_
  refine g_aload_n (i := 0) dd_26_56 rfl ?_
  refine g_getfield (k := 1) am_ck8 (by decide) (Or.inl w_58) dd_26_57 (rx4_g15 hH) rfl ?_
  refine g_acopy w_431 w_433 w_432 w_19 ⟨by decide, by decide⟩ (by simp [Value.category]) dd_26_60 (rx4_g3 hH) (rx4_g16 hH) (by omega) (by omega) (by decide) (by decide) ?_
  refine am_heq (rx4_u16 hH) ?_
  show am_Good mi_26 63 [some (.ref 15), some (.ref 3)] [] (rx4 h tx N nr mi go z1 c1 z2 c2 z3 c3 z4 c4 z5 c5 z6 (am_cp nr c6 0 (z6 * 2) 2)) _
  refine g_aload_n (i := 0) dd_26_63 rfl ?_
  refine g_dup dd_26_64 rfl ?_
  refine g_getfield (k := 3) am_ck8 (by decide) (Or.inl w_60) dd_26_65 (rx4_g15 hH) rfl ?_
  refine g_iconst dd_26_68 ic_1 ?_
  refine e_iadd (v := z6 + 1) dd_26_69 (by omega) ?_
  refine g_putfield (k := 3) am_ck8 (by decide) (Or.inl w_60) (Or.inl rfl) dd_26_70 (rx4_g15 hH) (Nat.le_of_ble_eq_true rfl) trivial ?_
  refine am_heq (rx4_u15 hH) ?_
  show am_Good mi_26 73 [some (.ref 15), some (.ref 3)] [] (rx4 h tx N nr mi go z1 c1 z2 c2 z3 c3 z4 c4 z5 c5 (z6 + 1) (am_cp nr c6 0 (z6 * 2) 2)) _
  refine g_iconst dd_26_73 ic_1 ?_
  exact g_zreturn rfl (by first | decide | omega) dd_26_74
theorem x4_ad50 {h : am_H} {tx N nr mi go z1 c1 z2 c2 z3 c3 z4 c4 z5 c5 z6 c6 : Nat} (hH : rx4_ok h) (hz : ¬ z6 < 4) (hz2 : z6 ≤ 200) : am_EG mi_26 [.ref 15, .ref 3] (rx4 h tx N nr mi go z1 c1 z2 c2 z3 c3 z4 c4 z5 c5 z6 c6) (some (.retAddr 0), (rx4 h tx N nr mi go z1 c1 z2 c2 z3 c3 z4 c4 z5 c5 z6 c6)) := by
  refine am_enter (n := 0) tk_26.2.1 (by simp [Value.category]) (Nat.le_of_ble_eq_true rfl) ?_
  show am_Good mi_26 0 [some (.ref 15), some (.ref 3)] [] (rx4 h tx N nr mi go z1 c1 z2 c2 z3 c3 z4 c4 z5 c5 z6 c6) _
  refine g_aload_n (i := 0) dd_26_0 rfl ?_
  refine g_getfield (k := 3) am_ck8 (by decide) (Or.inl w_60) dd_26_1 (rx4_g15 hH) rfl ?_
  refine g_aload_n (i := 0) dd_26_4 rfl ?_
  refine g_getfield (k := 2) am_ck8 (by decide) (Or.inl w_59) dd_26_5 (rx4_g15 hH) rfl ?_
  refine g_icmp_ge_t (t := 39) dd_26_8 (by decide) (by first | exact sk_ge_t (by omega) (by omega) | exact tk_ge_t (by omega)) ?_
  refine g_iconst dd_26_39 ic_0 ?_
  exact g_zreturn rfl (by first | decide | omega) dd_26_40
theorem x4_tm1 {h : am_H} {tx N nr mi go z1 c1 z2 c2 z3 c3 z4 c4 z5 c5 z6 c6 : Nat} (hH : rx4_ok h) (hN : N ≤ 5) (h5 : ∀ j, j < 5 → am_ag nr j ≤ 99) (hc : (N = 1 ∧ 1 ≤ am_ag nr 0 ∧ am_ag nr 0 ≤ 60)) : am_EG mi_23 [.ref 2, .ref 4] (rx4 h tx N nr mi go z1 c1 z2 c2 z3 c3 z4 c4 z5 c5 z6 c6) (some (.retAddr 1), (rx4 h tx N nr (am_ag nr 0) go z1 c1 z2 c2 z3 c3 z4 c4 z5 c5 z6 c6)) := by
  refine am_enter (n := 0) tk_23.2.1 (by simp [Value.category]) (Nat.le_of_ble_eq_true rfl) ?_
  show am_Good mi_23 0 [some (.ref 2), some (.ref 4)] [] (rx4 h tx N nr mi go z1 c1 z2 c2 z3 c3 z4 c4 z5 c5 z6 c6) _
  have hb0 := h5 0 (by decide)
  refine g_aload_n (i := 0) dd_23_0 rfl ?_
  refine g_getfield (k := 1) am_ck6 (by decide) (Or.inl w_37) dd_23_1 (rx4_g2 hH) rfl ?_
  refine g_iconst dd_23_4 ic_1 ?_
  refine g_icmp_ne_f (t := 19) dd_23_5 (by decide) (tk_ne_f (by omega)) ?_
  refine g_aload_n (i := 0) dd_23_8 rfl ?_
  refine g_iconst dd_23_9 ic_0 ?_
  refine g_iconst dd_23_10 ic_1 ?_
  refine g_bipush dd_23_11 bi_60 ?_
  refine g_virtual (M' := mi_24) (n := 3) (ci := 6) (b := 2) (as := [.retAddr 0, .retAddr 1, .retAddr 60]) (st := []) (r1 := (some (.retAddr 1), (rx4 h tx N nr mi go z1 c1 z2 c2 z3 c3 z4 c4 z5 c5 z6 c6))) w_419 w_421 ps_24 ⟨lk_24.1, lk_24.2.1, lk_24.2.2, by decide, by decide⟩ rfl (rx4_g2 hH) rfl (by simp [Value.category]) dd_23_13 (x4_wi1 hH hN h5 (by decide) (by decide) (by decide) (by omega)) ?_
  show am_Good mi_23 16 [some (.ref 2), some (.ref 4)] [.retAddr 1] (rx4 h tx N nr mi go z1 c1 z2 c2 z3 c3 z4 c4 z5 c5 z6 c6) _
  refine g_if_ne_t (t := 21) dd_23_16 (by decide) (by decide) ?_
  refine g_aload_n (i := 1) dd_23_21 rfl ?_
  refine g_aload_n (i := 0) dd_23_22 rfl ?_
  refine g_getfield (k := 0) am_ck6 (by decide) (Or.inl w_36) dd_23_23 (rx4_g2 hH) rfl ?_
  refine g_iconst dd_23_26 ic_0 ?_
  refine g_iaload dd_23_27 (rx4_g3 hH) (by omega) (by decide) ?_
  have hl_1 := am_ag_lt nr 0
  refine g_putfield (k := 6) am_ck1 (by decide) (Or.inr ⟨_, w_111⟩) (Or.inl rfl) dd_23_28 (rx4_g4 hH) (Nat.le_of_ble_eq_true rfl) trivial ?_
  refine am_heq (rx4_u4 hH) ?_
  show am_Good mi_23 31 [some (.ref 2), some (.ref 4)] [] (rx4 h tx N nr (am_ag nr 0) go z1 c1 z2 c2 z3 c3 z4 c4 z5 c5 z6 c6) _
  refine g_iconst dd_23_31 ic_1 ?_
  exact g_zreturn rfl (by first | decide | omega) dd_23_32
theorem x4_tm0 {h : am_H} {tx N nr mi go z1 c1 z2 c2 z3 c3 z4 c4 z5 c5 z6 c6 : Nat} (hH : rx4_ok h) (hN : N ≤ 5) (h5 : ∀ j, j < 5 → am_ag nr j ≤ 99) (hc : ¬ (N = 1 ∧ 1 ≤ am_ag nr 0 ∧ am_ag nr 0 ≤ 60)) : am_EG mi_23 [.ref 2, .ref 4] (rx4 h tx N nr mi go z1 c1 z2 c2 z3 c3 z4 c4 z5 c5 z6 c6) (some (.retAddr 0), (rx4 h tx N nr mi go z1 c1 z2 c2 z3 c3 z4 c4 z5 c5 z6 c6)) := by
  refine am_enter (n := 0) tk_23.2.1 (by simp [Value.category]) (Nat.le_of_ble_eq_true rfl) ?_
  show am_Good mi_23 0 [some (.ref 2), some (.ref 4)] [] (rx4 h tx N nr mi go z1 c1 z2 c2 z3 c3 z4 c4 z5 c5 z6 c6) _
  have hb0 := h5 0 (by decide)
  refine g_aload_n (i := 0) dd_23_0 rfl ?_
  refine g_getfield (k := 1) am_ck6 (by decide) (Or.inl w_37) dd_23_1 (rx4_g2 hH) rfl ?_
  refine g_iconst dd_23_4 ic_1 ?_
  by_cases hN1 : N = 1
  · refine g_icmp_ne_f (t := 19) dd_23_5 (by decide) (tk_ne_f (by omega)) ?_
    refine g_aload_n (i := 0) dd_23_8 rfl ?_
    refine g_iconst dd_23_9 ic_0 ?_
    refine g_iconst dd_23_10 ic_1 ?_
    refine g_bipush dd_23_11 bi_60 ?_
    by_cases hw0 : 0 < N ∧ 1 ≤ am_ag nr 0 ∧ am_ag nr 0 ≤ 60
    · refine g_virtual (M' := mi_24) (n := 3) (ci := 6) (b := 2) (as := [.retAddr 0, .retAddr 1, .retAddr 60]) (st := []) (r1 := (some (.retAddr 1), (rx4 h tx N nr mi go z1 c1 z2 c2 z3 c3 z4 c4 z5 c5 z6 c6))) w_419 w_421 ps_24 ⟨lk_24.1, lk_24.2.1, lk_24.2.2, by decide, by decide⟩ rfl (rx4_g2 hH) rfl (by simp [Value.category]) dd_23_13 (x4_wi1 hH hN h5 (by decide) (by decide) (by decide) hw0) ?_
      show am_Good mi_23 16 [some (.ref 2), some (.ref 4)] [.retAddr 1] (rx4 h tx N nr mi go z1 c1 z2 c2 z3 c3 z4 c4 z5 c5 z6 c6) _
      refine g_if_ne_t (t := 21) dd_23_16 (by decide) (by decide) ?_
      exfalso
      omega
    · refine g_virtual (M' := mi_24) (n := 3) (ci := 6) (b := 2) (as := [.retAddr 0, .retAddr 1, .retAddr 60]) (st := []) (r1 := (some (.retAddr 0), (rx4 h tx N nr mi go z1 c1 z2 c2 z3 c3 z4 c4 z5 c5 z6 c6))) w_419 w_421 ps_24 ⟨lk_24.1, lk_24.2.1, lk_24.2.2, by decide, by decide⟩ rfl (rx4_g2 hH) rfl (by simp [Value.category]) dd_23_13 (x4_wi0 hH hN h5 (by decide) (by decide) (by decide) hw0) ?_
      show am_Good mi_23 16 [some (.ref 2), some (.ref 4)] [.retAddr 0] (rx4 h tx N nr mi go z1 c1 z2 c2 z3 c3 z4 c4 z5 c5 z6 c6) _
      refine g_if_ne_f (t := 21) dd_23_16 (by decide) (by decide) ?_
      refine g_iconst dd_23_19 ic_0 ?_
      exact g_zreturn rfl (by first | decide | omega) dd_23_20
  · refine g_icmp_ne_t (t := 19) dd_23_5 (by decide) (tk_ne_t (by omega)) ?_
    refine g_iconst dd_23_19 ic_0 ?_
    exact g_zreturn rfl (by first | decide | omega) dd_23_20
theorem x4_tg1 {h : am_H} {tx N nr mi go z1 c1 z2 c2 z3 c3 z4 c4 z5 c5 z6 c6 : Nat} (hH : rx4_ok h) (hN : N ≤ 5) (h5 : ∀ j, j < 5 → am_ag nr j ≤ 99) (hc : (N = 1 ∧ am_ag nr 0 ≤ 3)) : am_EG mi_25 [.ref 2, .ref 4] (rx4 h tx N nr mi go z1 c1 z2 c2 z3 c3 z4 c4 z5 c5 z6 c6) (some (.retAddr 1), (rx4 h tx N nr mi (am_ag nr 0) z1 c1 z2 c2 z3 c3 z4 c4 z5 c5 z6 c6)) := by
  refine am_enter (n := 0) tk_25.2.1 (by simp [Value.category]) (Nat.le_of_ble_eq_true rfl) ?_
  show am_Good mi_25 0 [some (.ref 2), some (.ref 4)] [] (rx4 h tx N nr mi go z1 c1 z2 c2 z3 c3 z4 c4 z5 c5 z6 c6) _
  have hb0 := h5 0 (by decide)
  refine g_aload_n (i := 0) dd_25_0 rfl ?_
  refine g_getfield (k := 1) am_ck6 (by decide) (Or.inl w_37) dd_25_1 (rx4_g2 hH) rfl ?_
  refine g_iconst dd_25_4 ic_1 ?_
  refine g_icmp_ne_f (t := 18) dd_25_5 (by decide) (tk_ne_f (by omega)) ?_
  refine g_aload_n (i := 0) dd_25_8 rfl ?_
  refine g_iconst dd_25_9 ic_0 ?_
  refine g_iconst dd_25_10 ic_0 ?_
  refine g_iconst dd_25_11 ic_3 ?_
  refine g_virtual (M' := mi_24) (n := 3) (ci := 6) (b := 2) (as := [.retAddr 0, .retAddr 0, .retAddr 3]) (st := []) (r1 := (some (.retAddr 1), (rx4 h tx N nr mi go z1 c1 z2 c2 z3 c3 z4 c4 z5 c5 z6 c6))) w_419 w_421 ps_24 ⟨lk_24.1, lk_24.2.1, lk_24.2.2, by decide, by decide⟩ rfl (rx4_g2 hH) rfl (by simp [Value.category]) dd_25_12 (x4_wi1 hH hN h5 (by decide) (by decide) (by decide) (by omega)) ?_
  show am_Good mi_25 15 [some (.ref 2), some (.ref 4)] [.retAddr 1] (rx4 h tx N nr mi go z1 c1 z2 c2 z3 c3 z4 c4 z5 c5 z6 c6) _
  refine g_if_ne_t (t := 20) dd_25_15 (by decide) (by decide) ?_
  refine g_aload_n (i := 1) dd_25_20 rfl ?_
  refine g_aload_n (i := 0) dd_25_21 rfl ?_
  refine g_getfield (k := 0) am_ck6 (by decide) (Or.inl w_36) dd_25_22 (rx4_g2 hH) rfl ?_
  refine g_iconst dd_25_25 ic_0 ?_
  refine g_iaload dd_25_26 (rx4_g3 hH) (by omega) (by decide) ?_
  have hl_1 := am_ag_lt nr 0
  refine g_putfield (k := 7) am_ck1 (by decide) (Or.inr ⟨_, w_118⟩) (Or.inl rfl) dd_25_27 (rx4_g4 hH) (Nat.le_of_ble_eq_true rfl) trivial ?_
  refine am_heq (rx4_u4 hH) ?_
  show am_Good mi_25 30 [some (.ref 2), some (.ref 4)] [] (rx4 h tx N nr mi (am_ag nr 0) z1 c1 z2 c2 z3 c3 z4 c4 z5 c5 z6 c6) _
  refine g_iconst dd_25_30 ic_1 ?_
  exact g_zreturn rfl (by first | decide | omega) dd_25_31
theorem x4_tg0 {h : am_H} {tx N nr mi go z1 c1 z2 c2 z3 c3 z4 c4 z5 c5 z6 c6 : Nat} (hH : rx4_ok h) (hN : N ≤ 5) (h5 : ∀ j, j < 5 → am_ag nr j ≤ 99) (hc : ¬ (N = 1 ∧ am_ag nr 0 ≤ 3)) : am_EG mi_25 [.ref 2, .ref 4] (rx4 h tx N nr mi go z1 c1 z2 c2 z3 c3 z4 c4 z5 c5 z6 c6) (some (.retAddr 0), (rx4 h tx N nr mi go z1 c1 z2 c2 z3 c3 z4 c4 z5 c5 z6 c6)) := by
  refine am_enter (n := 0) tk_25.2.1 (by simp [Value.category]) (Nat.le_of_ble_eq_true rfl) ?_
  show am_Good mi_25 0 [some (.ref 2), some (.ref 4)] [] (rx4 h tx N nr mi go z1 c1 z2 c2 z3 c3 z4 c4 z5 c5 z6 c6) _
  have hb0 := h5 0 (by decide)
  refine g_aload_n (i := 0) dd_25_0 rfl ?_
  refine g_getfield (k := 1) am_ck6 (by decide) (Or.inl w_37) dd_25_1 (rx4_g2 hH) rfl ?_
  refine g_iconst dd_25_4 ic_1 ?_
  by_cases hN1 : N = 1
  · refine g_icmp_ne_f (t := 18) dd_25_5 (by decide) (tk_ne_f (by omega)) ?_
    refine g_aload_n (i := 0) dd_25_8 rfl ?_
    refine g_iconst dd_25_9 ic_0 ?_
    refine g_iconst dd_25_10 ic_0 ?_
    refine g_iconst dd_25_11 ic_3 ?_
    by_cases hw0 : 0 < N ∧ 0 ≤ am_ag nr 0 ∧ am_ag nr 0 ≤ 3
    · refine g_virtual (M' := mi_24) (n := 3) (ci := 6) (b := 2) (as := [.retAddr 0, .retAddr 0, .retAddr 3]) (st := []) (r1 := (some (.retAddr 1), (rx4 h tx N nr mi go z1 c1 z2 c2 z3 c3 z4 c4 z5 c5 z6 c6))) w_419 w_421 ps_24 ⟨lk_24.1, lk_24.2.1, lk_24.2.2, by decide, by decide⟩ rfl (rx4_g2 hH) rfl (by simp [Value.category]) dd_25_12 (x4_wi1 hH hN h5 (by decide) (by decide) (by decide) hw0) ?_
      show am_Good mi_25 15 [some (.ref 2), some (.ref 4)] [.retAddr 1] (rx4 h tx N nr mi go z1 c1 z2 c2 z3 c3 z4 c4 z5 c5 z6 c6) _
      refine g_if_ne_t (t := 20) dd_25_15 (by decide) (by decide) ?_
      exfalso
      omega
    · refine g_virtual (M' := mi_24) (n := 3) (ci := 6) (b := 2) (as := [.retAddr 0, .retAddr 0, .retAddr 3]) (st := []) (r1 := (some (.retAddr 0), (rx4 h tx N nr mi go z1 c1 z2 c2 z3 c3 z4 c4 z5 c5 z6 c6))) w_419 w_421 ps_24 ⟨lk_24.1, lk_24.2.1, lk_24.2.2, by decide, by decide⟩ rfl (rx4_g2 hH) rfl (by simp [Value.category]) dd_25_12 (x4_wi0 hH hN h5 (by decide) (by decide) (by decide) hw0) ?_
      show am_Good mi_25 15 [some (.ref 2), some (.ref 4)] [.retAddr 0] (rx4 h tx N nr mi go z1 c1 z2 c2 z3 c3 z4 c4 z5 c5 z6 c6) _
      refine g_if_ne_f (t := 20) dd_25_15 (by decide) (by decide) ?_
      refine g_iconst dd_25_18 ic_0 ?_
      exact g_zreturn rfl (by first | decide | omega) dd_25_19
  · refine g_icmp_ne_t (t := 18) dd_25_5 (by decide) (tk_ne_t (by omega)) ?_
    refine g_iconst dd_25_18 ic_0 ?_
    exact g_zreturn rfl (by first | decide | omega) dd_25_19
theorem x4_t110_1 {h : am_H} {tx N nr mi go z1 c1 z2 c2 z3 c3 z4 c4 z5 c5 z6 c6 : Nat} (hH : rx4_ok h) (hN : N ≤ 5) (h5 : ∀ j, j < 5 → am_ag nr j ≤ 99) (hz1 : z1 ≤ 4) (hz2 : z2 ≤ 9) (hz3 : z3 ≤ 6) (hz4 : z4 ≤ 4) (hz5 : z5 ≤ 6) (hz6 : z6 ≤ 4) (hc : (N = 1 ∧ 1 ≤ am_ag nr 0 ∧ am_ag nr 0 ≤ 60)) : am_EG mi_22 [.ref 2, .retAddr 110, .ref 4] (rx4 h tx N nr mi go z1 c1 z2 c2 z3 c3 z4 c4 z5 c5 z6 c6) (some (.retAddr 1), (rx4 h tx N nr (am_ag nr 0) go z1 c1 z2 c2 z3 c3 z4 c4 z5 c5 z6 c6)) := by
  refine am_enter (n := 0) tk_22.2.1 (by simp [Value.category]) (Nat.le_of_ble_eq_true rfl) ?_
  show am_Good mi_22 0 [some (.ref 2), some (.retAddr 110), some (.ref 4)] [] (rx4 h tx N nr mi go z1 c1 z2 c2 z3 c3 z4 c4 z5 c5 z6 c6) _
  have hb0 := h5 0 (by decide)
  have hb1 := h5 1 (by decide)
  have hb2 := h5 2 (by decide)
  have hb3 := h5 3 (by decide)
  have hb4 := h5 4 (by decide)
  refine g_iload_n (i := 1) dd_22_0 rfl ?_
  refine g_tableIn (a := 110) (off := 103) (t := 104) dd_22_1 (by decide) (by decide) (by decide) rfl (by decide) ?_
  refine g_aload_n (i := 0) dd_22_104 rfl ?_
  refine g_aload_n (i := 2) dd_22_105 rfl ?_
  refine g_virtual (M' := mi_23) (n := 1) (ci := 6) (b := 2) (as := [.ref 4]) (st := []) (r1 := (some (.retAddr 1), (rx4 h tx N nr (am_ag nr 0) go z1 c1 z2 c2 z3 c3 z4 c4 z5 c5 z6 c6))) w_415 w_417 ps_23 ⟨lk_23.1, lk_23.2.1, lk_23.2.2, by decide, by decide⟩ rfl (rx4_g2 hH) rfl (by simp [Value.category]) dd_22_106 (x4_tm1 hH hN h5 hc) ?_
  show am_Good mi_22 109 [some (.ref 2), some (.retAddr 110), some (.ref 4)] [.retAddr 1] (rx4 h tx N nr (am_ag nr 0) go z1 c1 z2 c2 z3 c3 z4 c4 z5 c5 z6 c6) _
  exact g_zreturn rfl (by first | decide | omega) dd_22_109
theorem x4_t110_0 {h : am_H} {tx N nr mi go z1 c1 z2 c2 z3 c3 z4 c4 z5 c5 z6 c6 : Nat} (hH : rx4_ok h) (hN : N ≤ 5) (h5 : ∀ j, j < 5 → am_ag nr j ≤ 99) (hz1 : z1 ≤ 4) (hz2 : z2 ≤ 9) (hz3 : z3 ≤ 6) (hz4 : z4 ≤ 4) (hz5 : z5 ≤ 6) (hz6 : z6 ≤ 4) (hc : ¬ (N = 1 ∧ 1 ≤ am_ag nr 0 ∧ am_ag nr 0 ≤ 60)) : am_EG mi_22 [.ref 2, .retAddr 110, .ref 4] (rx4 h tx N nr mi go z1 c1 z2 c2 z3 c3 z4 c4 z5 c5 z6 c6) (some (.retAddr 0), (rx4 h tx N nr mi go z1 c1 z2 c2 z3 c3 z4 c4 z5 c5 z6 c6)) := by
  refine am_enter (n := 0) tk_22.2.1 (by simp [Value.category]) (Nat.le_of_ble_eq_true rfl) ?_
  show am_Good mi_22 0 [some (.ref 2), some (.retAddr 110), some (.ref 4)] [] (rx4 h tx N nr mi go z1 c1 z2 c2 z3 c3 z4 c4 z5 c5 z6 c6) _
  have hb0 := h5 0 (by decide)
  have hb1 := h5 1 (by decide)
  have hb2 := h5 2 (by decide)
  have hb3 := h5 3 (by decide)
  have hb4 := h5 4 (by decide)
  refine g_iload_n (i := 1) dd_22_0 rfl ?_
  refine g_tableIn (a := 110) (off := 103) (t := 104) dd_22_1 (by decide) (by decide) (by decide) rfl (by decide) ?_
  refine g_aload_n (i := 0) dd_22_104 rfl ?_
  refine g_aload_n (i := 2) dd_22_105 rfl ?_
  refine g_virtual (M' := mi_23) (n := 1) (ci := 6) (b := 2) (as := [.ref 4]) (st := []) (r1 := (some (.retAddr 0), (rx4 h tx N nr mi go z1 c1 z2 c2 z3 c3 z4 c4 z5 c5 z6 c6))) w_415 w_417 ps_23 ⟨lk_23.1, lk_23.2.1, lk_23.2.2, by decide, by decide⟩ rfl (rx4_g2 hH) rfl (by simp [Value.category]) dd_22_106 (x4_tm0 hH hN h5 hc) ?_
  show am_Good mi_22 109 [some (.ref 2), some (.retAddr 110), some (.ref 4)] [.retAddr 0] (rx4 h tx N nr mi go z1 c1 z2 c2 z3 c3 z4 c4 z5 c5 z6 c6) _
  exact g_zreturn rfl (by first | decide | omega) dd_22_109
theorem x4_t103_1 {h : am_H} {tx N nr mi go z1 c1 z2 c2 z3 c3 z4 c4 z5 c5 z6 c6 : Nat} (hH : rx4_ok h) (hN : N ≤ 5) (h5 : ∀ j, j < 5 → am_ag nr j ≤ 99) (hz1 : z1 ≤ 4) (hz2 : z2 ≤ 9) (hz3 : z3 ≤ 6) (hz4 : z4 ≤ 4) (hz5 : z5 ≤ 6) (hz6 : z6 ≤ 4) (hc : (N = 1 ∧ am_ag nr 0 ≤ 3)) : am_EG mi_22 [.ref 2, .retAddr 103, .ref 4] (rx4 h tx N nr mi go z1 c1 z2 c2 z3 c3 z4 c4 z5 c5 z6 c6) (some (.retAddr 1), (rx4 h tx N nr mi (am_ag nr 0) z1 c1 z2 c2 z3 c3 z4 c4 z5 c5 z6 c6)) := by
  refine am_enter (n := 0) tk_22.2.1 (by simp [Value.category]) (Nat.le_of_ble_eq_true rfl) ?_
  show am_Good mi_22 0 [some (.ref 2), some (.retAddr 103), some (.ref 4)] [] (rx4 h tx N nr mi go z1 c1 z2 c2 z3 c3 z4 c4 z5 c5 z6 c6) _
  have hb0 := h5 0 (by decide)
  have hb1 := h5 1 (by decide)
  have hb2 := h5 2 (by decide)
  have hb3 := h5 3 (by decide)
  have hb4 := h5 4 (by decide)
  refine g_iload_n (i := 1) dd_22_0 rfl ?_
  refine g_tableIn (a := 103) (off := 109) (t := 110) dd_22_1 (by decide) (by decide) (by decide) rfl (by decide) ?_
  refine g_aload_n (i := 0) dd_22_110 rfl ?_
  refine g_aload_n (i := 2) dd_22_111 rfl ?_
  refine g_virtual (M' := mi_25) (n := 1) (ci := 6) (b := 2) (as := [.ref 4]) (st := []) (r1 := (some (.retAddr 1), (rx4 h tx N nr mi (am_ag nr 0) z1 c1 z2 c2 z3 c3 z4 c4 z5 c5 z6 c6))) w_423 w_425 ps_25 ⟨lk_25.1, lk_25.2.1, lk_25.2.2, by decide, by decide⟩ rfl (rx4_g2 hH) rfl (by simp [Value.category]) dd_22_112 (x4_tg1 hH hN h5 hc) ?_
  show am_Good mi_22 115 [some (.ref 2), some (.retAddr 103), some (.ref 4)] [.retAddr 1] (rx4 h tx N nr mi (am_ag nr 0) z1 c1 z2 c2 z3 c3 z4 c4 z5 c5 z6 c6) _
  exact g_zreturn rfl (by first | decide | omega) dd_22_115
theorem x4_t103_0 {h : am_H} {tx N nr mi go z1 c1 z2 c2 z3 c3 z4 c4 z5 c5 z6 c6 : Nat} (hH : rx4_ok h) (hN : N ≤ 5) (h5 : ∀ j, j < 5 → am_ag nr j ≤ 99) (hz1 : z1 ≤ 4) (hz2 : z2 ≤ 9) (hz3 : z3 ≤ 6) (hz4 : z4 ≤ 4) (hz5 : z5 ≤ 6) (hz6 : z6 ≤ 4) (hc : ¬ (N = 1 ∧ am_ag nr 0 ≤ 3)) : am_EG mi_22 [.ref 2, .retAddr 103, .ref 4] (rx4 h tx N nr mi go z1 c1 z2 c2 z3 c3 z4 c4 z5 c5 z6 c6) (some (.retAddr 0), (rx4 h tx N nr mi go z1 c1 z2 c2 z3 c3 z4 c4 z5 c5 z6 c6)) := by
  refine am_enter (n := 0) tk_22.2.1 (by simp [Value.category]) (Nat.le_of_ble_eq_true rfl) ?_
  show am_Good mi_22 0 [some (.ref 2), some (.retAddr 103), some (.ref 4)] [] (rx4 h tx N nr mi go z1 c1 z2 c2 z3 c3 z4 c4 z5 c5 z6 c6) _
  have hb0 := h5 0 (by decide)
  have hb1 := h5 1 (by decide)
  have hb2 := h5 2 (by decide)
  have hb3 := h5 3 (by decide)
  have hb4 := h5 4 (by decide)
  refine g_iload_n (i := 1) dd_22_0 rfl ?_
  refine g_tableIn (a := 103) (off := 109) (t := 110) dd_22_1 (by decide) (by decide) (by decide) rfl (by decide) ?_
  refine g_aload_n (i := 0) dd_22_110 rfl ?_
  refine g_aload_n (i := 2) dd_22_111 rfl ?_
  refine g_virtual (M' := mi_25) (n := 1) (ci := 6) (b := 2) (as := [.ref 4]) (st := []) (r1 := (some (.retAddr 0), (rx4 h tx N nr mi go z1 c1 z2 c2 z3 c3 z4 c4 z5 c5 z6 c6))) w_423 w_425 ps_25 ⟨lk_25.1, lk_25.2.1, lk_25.2.2, by decide, by decide⟩ rfl (rx4_g2 hH) rfl (by simp [Value.category]) dd_22_112 (x4_tg0 hH hN h5 hc) ?_
  show am_Good mi_22 115 [some (.ref 2), some (.retAddr 103), some (.ref 4)] [.retAddr 0] (rx4 h tx N nr mi go z1 c1 z2 c2 z3 c3 z4 c4 z5 c5 z6 c6) _
  exact g_zreturn rfl (by first | decide | omega) dd_22_115
theorem x4_t115_1 {h : am_H} {tx N nr mi go z1 c1 z2 c2 z3 c3 z4 c4 z5 c5 z6 c6 : Nat} (hH : rx4_ok h) (hN : N ≤ 5) (h5 : ∀ j, j < 5 → am_ag nr j ≤ 99) (hz1 : z1 ≤ 4) (hz2 : z2 ≤ 9) (hz3 : z3 ≤ 6) (hz4 : z4 ≤ 4) (hz5 : z5 ≤ 6) (hz6 : z6 ≤ 4) (hc : (N = 1 ∧ am_ag nr 0 ≤ 9 ∧ z1 < 4)) : am_EG mi_22 [.ref 2, .retAddr 115, .ref 4] (rx4 h tx N nr mi go z1 c1 z2 c2 z3 c3 z4 c4 z5 c5 z6 c6) (some (.retAddr 1), (rx4 h tx N nr mi go (z1 + 1) (am_cp nr c1 0 (z1 * 1) 1) z2 c2 z3 c3 z4 c4 z5 c5 z6 c6)) := by
  refine am_enter (n := 0) tk_22.2.1 (by simp [Value.category]) (Nat.le_of_ble_eq_true rfl) ?_
  show am_Good mi_22 0 [some (.ref 2), some (.retAddr 115), some (.ref 4)] [] (rx4 h tx N nr mi go z1 c1 z2 c2 z3 c3 z4 c4 z5 c5 z6 c6) _
  have hb0 := h5 0 (by decide)
  have hb1 := h5 1 (by decide)
  have hb2 := h5 2 (by decide)
  have hb3 := h5 3 (by decide)
  have hb4 := h5 4 (by decide)
  refine g_iload_n (i := 1) dd_22_0 rfl ?_
  refine g_tableIn (a := 115) (off := 115) (t := 116) dd_22_1 (by decide) (by decide) (by decide) rfl (by decide) ?_
  refine g_aload_n (i := 0) dd_22_116 rfl ?_
  refine g_getfield (k := 1) am_ck6 (by decide) (Or.inl w_37) dd_22_117 (rx4_g2 hH) rfl ?_
  refine g_iconst dd_22_120 ic_1 ?_
  refine g_icmp_ne_f (t := 153) dd_22_121 (by decide) (tk_ne_f (by omega)) ?_
  refine g_aload_n (i := 0) dd_22_124 rfl ?_
  refine g_iconst dd_22_125 ic_0 ?_
  refine g_iconst dd_22_126 ic_0 ?_
  refine g_bipush dd_22_127 bi_9 ?_
  refine g_virtual (M' := mi_24) (n := 3) (ci := 6) (b := 2) (as := [.retAddr 0, .retAddr 0, .retAddr 9]) (st := []) (r1 := (some (.retAddr 1), (rx4 h tx N nr mi go z1 c1 z2 c2 z3 c3 z4 c4 z5 c5 z6 c6))) w_419 w_421 ps_24 ⟨lk_24.1, lk_24.2.1, lk_24.2.2, by decide, by decide⟩ rfl (rx4_g2 hH) rfl (by simp [Value.category]) dd_22_129 (x4_wi1 hH hN h5 (by decide) (by decide) (by decide) (by omega)) ?_
  show am_Good mi_22 132 [some (.ref 2), some (.retAddr 115), some (.ref 4)] [.retAddr 1] (rx4 h tx N nr mi go z1 c1 z2 c2 z3 c3 z4 c4 z5 c5 z6 c6) _
  refine g_if_eq_f (t := 153) dd_22_132 (by decide) (by decide) ?_
  refine g_aload_n (i := 2) dd_22_135 rfl ?_
  refine g_getfield (k := 0) am_ck1 (by decide) (Or.inr ⟨_, w_85⟩) dd_22_136 (rx4_g4 hH) rfl ?_
  refine g_aload_n (i := 0) dd_22_139 rfl ?_
  refine g_getfield (k := 0) am_ck6 (by decide) (Or.inl w_36) dd_22_140 (rx4_g2 hH) rfl ?_
  refine g_virtual (M' := mi_26) (n := 1) (ci := 8) (b := 5) (as := [.ref 3]) (st := []) (r1 := (some (.retAddr 1), (rx4 h tx N nr mi go (z1 + 1) (am_cp nr c1 0 (z1 * 1) 1) z2 c2 z3 c3 z4 c4 z5 c5 z6 c6))) w_427 w_428 w_429 ⟨lk_26.1, lk_26.2.1, lk_26.2.2, by decide, by decide⟩ rfl (rx4_g5 hH) rfl (by simp [Value.category]) dd_22_143 (x4_ad01 hH (by omega)) ?_
  show am_Good mi_22 146 [some (.ref 2), some (.retAddr 115), some (.ref 4)] [.retAddr 1] (rx4 h tx N nr mi go (z1 + 1) (am_cp nr c1 0 (z1 * 1) 1) z2 c2 z3 c3 z4 c4 z5 c5 z6 c6) _
  refine g_if_eq_f (t := 153) dd_22_146 (by decide) (by decide) ?_
  refine g_iconst dd_22_149 ic_1 ?_
  refine g_goto (t := 154) dd_22_150 (by decide) ?_
  exact g_zreturn rfl (by first | decide | omega) dd_22_154
theorem x4_t115_0 {h : am_H} {tx N nr mi go z1 c1 z2 c2 z3 c3 z4 c4 z5 c5 z6 c6 : Nat} (hH : rx4_ok h) (hN : N ≤ 5) (h5 : ∀ j, j < 5 → am_ag nr j ≤ 99) (hz1 : z1 ≤ 4) (hz2 : z2 ≤ 9) (hz3 : z3 ≤ 6) (hz4 : z4 ≤ 4) (hz5 : z5 ≤ 6) (hz6 : z6 ≤ 4) (hc : ¬ (N = 1 ∧ am_ag nr 0 ≤ 9 ∧ z1 < 4)) : am_EG mi_22 [.ref 2, .retAddr 115, .ref 4] (rx4 h tx N nr mi go z1 c1 z2 c2 z3 c3 z4 c4 z5 c5 z6 c6) (some (.retAddr 0), (rx4 h tx N nr mi go z1 c1 z2 c2 z3 c3 z4 c4 z5 c5 z6 c6)) := by
  refine am_enter (n := 0) tk_22.2.1 (by simp [Value.category]) (Nat.le_of_ble_eq_true rfl) ?_
  show am_Good mi_22 0 [some (.ref 2), some (.retAddr 115), some (.ref 4)] [] (rx4 h tx N nr mi go z1 c1 z2 c2 z3 c3 z4 c4 z5 c5 z6 c6) _
  have hb0 := h5 0 (by decide)
  have hb1 := h5 1 (by decide)
  have hb2 := h5 2 (by decide)
  have hb3 := h5 3 (by decide)
  have hb4 := h5 4 (by decide)
  refine g_iload_n (i := 1) dd_22_0 rfl ?_
  refine g_tableIn (a := 115) (off := 115) (t := 116) dd_22_1 (by decide) (by decide) (by decide) rfl (by decide) ?_
  refine g_aload_n (i := 0) dd_22_116 rfl ?_
  refine g_getfield (k := 1) am_ck6 (by decide) (Or.inl w_37) dd_22_117 (rx4_g2 hH) rfl ?_
  refine g_iconst dd_22_120 ic_1 ?_
  by_cases hNn : N = 1
  · refine g_icmp_ne_f (t := 153) dd_22_121 (by decide) (tk_ne_f (by omega)) ?_
    refine g_aload_n (i := 0) dd_22_124 rfl ?_
    refine g_iconst dd_22_125 ic_0 ?_
    refine g_iconst dd_22_126 ic_0 ?_
    refine g_bipush dd_22_127 bi_9 ?_
    by_cases hw0 : 0 < N ∧ 0 ≤ am_ag nr 0 ∧ am_ag nr 0 ≤ 9
    · refine g_virtual (M' := mi_24) (n := 3) (ci := 6) (b := 2) (as := [.retAddr 0, .retAddr 0, .retAddr 9]) (st := []) (r1 := (some (.retAddr 1), (rx4 h tx N nr mi go z1 c1 z2 c2 z3 c3 z4 c4 z5 c5 z6 c6))) w_419 w_421 ps_24 ⟨lk_24.1, lk_24.2.1, lk_24.2.2, by decide, by decide⟩ rfl (rx4_g2 hH) rfl (by simp [Value.category]) dd_22_129 (x4_wi1 hH hN h5 (by decide) (by decide) (by decide) hw0) ?_
      show am_Good mi_22 132 [some (.ref 2), some (.retAddr 115), some (.ref 4)] [.retAddr 1] (rx4 h tx N nr mi go z1 c1 z2 c2 z3 c3 z4 c4 z5 c5 z6 c6) _
      refine g_if_eq_f (t := 153) dd_22_132 (by decide) (by decide) ?_
      refine g_aload_n (i := 2) dd_22_135 rfl ?_
      refine g_getfield (k := 0) am_ck1 (by decide) (Or.inr ⟨_, w_85⟩) dd_22_136 (rx4_g4 hH) rfl ?_
      refine g_aload_n (i := 0) dd_22_139 rfl ?_
      refine g_getfield (k := 0) am_ck6 (by decide) (Or.inl w_36) dd_22_140 (rx4_g2 hH) rfl ?_
      by_cases had : z1 < 4
      · exfalso
        omega
      · refine g_virtual (M' := mi_26) (n := 1) (ci := 8) (b := 5) (as := [.ref 3]) (st := []) (r1 := (some (.retAddr 0), (rx4 h tx N nr mi go z1 c1 z2 c2 z3 c3 z4 c4 z5 c5 z6 c6))) w_427 w_428 w_429 ⟨lk_26.1, lk_26.2.1, lk_26.2.2, by decide, by decide⟩ rfl (rx4_g5 hH) rfl (by simp [Value.category]) dd_22_143 (x4_ad00 hH had (by omega)) ?_
        show am_Good mi_22 146 [some (.ref 2), some (.retAddr 115), some (.ref 4)] [.retAddr 0] (rx4 h tx N nr mi go z1 c1 z2 c2 z3 c3 z4 c4 z5 c5 z6 c6) _
        refine g_if_eq_t (t := 153) dd_22_146 (by decide) (by decide) ?_
        refine g_iconst dd_22_153 ic_0 ?_
        exact g_zreturn rfl (by first | decide | omega) dd_22_154
    · refine g_virtual (M' := mi_24) (n := 3) (ci := 6) (b := 2) (as := [.retAddr 0, .retAddr 0, .retAddr 9]) (st := []) (r1 := (some (.retAddr 0), (rx4 h tx N nr mi go z1 c1 z2 c2 z3 c3 z4 c4 z5 c5 z6 c6))) w_419 w_421 ps_24 ⟨lk_24.1, lk_24.2.1, lk_24.2.2, by decide, by decide⟩ rfl (rx4_g2 hH) rfl (by simp [Value.category]) dd_22_129 (x4_wi0 hH hN h5 (by decide) (by decide) (by decide) hw0) ?_
      show am_Good mi_22 132 [some (.ref 2), some (.retAddr 115), some (.ref 4)] [.retAddr 0] (rx4 h tx N nr mi go z1 c1 z2 c2 z3 c3 z4 c4 z5 c5 z6 c6) _
      refine g_if_eq_t (t := 153) dd_22_132 (by decide) (by decide) ?_
      refine g_iconst dd_22_153 ic_0 ?_
      exact g_zreturn rfl (by first | decide | omega) dd_22_154
  · refine g_icmp_ne_t (t := 153) dd_22_121 (by decide) (tk_ne_t (by omega)) ?_
    refine g_iconst dd_22_153 ic_0 ?_
    exact g_zreturn rfl (by first | decide | omega) dd_22_154
theorem x4_t109_1 {h : am_H} {tx N nr mi go z1 c1 z2 c2 z3 c3 z4 c4 z5 c5 z6 c6 : Nat} (hH : rx4_ok h) (hN : N ≤ 5) (h5 : ∀ j, j < 5 → am_ag nr j ≤ 99) (hz1 : z1 ≤ 4) (hz2 : z2 ≤ 9) (hz3 : z3 ≤ 6) (hz4 : z4 ≤ 4) (hz5 : z5 ≤ 6) (hz6 : z6 ≤ 4) (hc : (N = 5 ∧ (am_ag nr 0 < z1 ∧ am_ag nr 1 ≤ 59 ∧ am_ag nr 2 ≤ 59 ∧ am_ag nr 1 ≤ am_ag nr 2) ∧ am_ag nr 3 ≤ 9 ∧ am_ag nr 4 ≤ 8 ∧ z2 < 9)) : am_EG mi_22 [.ref 2, .retAddr 109, .ref 4] (rx4 h tx N nr mi go z1 c1 z2 c2 z3 c3 z4 c4 z5 c5 z6 c6) (some (.retAddr 1), (rx4 h tx N nr mi go z1 c1 (z2 + 1) (am_cp nr c2 0 (z2 * 5) 5) z3 c3 z4 c4 z5 c5 z6 c6)) := by
  refine am_enter (n := 0) tk_22.2.1 (by simp [Value.category]) (Nat.le_of_ble_eq_true rfl) ?_
  show am_Good mi_22 0 [some (.ref 2), some (.retAddr 109), some (.ref 4)] [] (rx4 h tx N nr mi go z1 c1 z2 c2 z3 c3 z4 c4 z5 c5 z6 c6) _
  have hb0 := h5 0 (by decide)
  have hb1 := h5 1 (by decide)
  have hb2 := h5 2 (by decide)
  have hb3 := h5 3 (by decide)
  have hb4 := h5 4 (by decide)
  refine g_iload_n (i := 1) dd_22_0 rfl ?_
  refine g_tableIn (a := 109) (off := 154) (t := 155) dd_22_1 (by decide) (by decide) (by decide) rfl (by decide) ?_
  refine g_aload_n (i := 0) dd_22_155 rfl ?_
  refine g_getfield (k := 1) am_ck6 (by decide) (Or.inl w_37) dd_22_156 (rx4_g2 hH) rfl ?_
  refine g_iconst dd_22_159 ic_5 ?_
  refine g_icmp_ne_f (t := 211) dd_22_160 (by decide) (tk_ne_f (by omega)) ?_
  refine g_aload_n (i := 0) dd_22_163 rfl ?_
  refine g_aload_n (i := 2) dd_22_164 rfl ?_
  refine g_virtual (M' := mi_27) (n := 1) (ci := 6) (b := 2) (as := [.ref 4]) (st := []) (r1 := (some (.retAddr 1), (rx4 h tx N nr mi go z1 c1 z2 c2 z3 c3 z4 c4 z5 c5 z6 c6))) w_434 w_436 ps_27 ⟨lk_27.1, lk_27.2.1, lk_27.2.2, by decide, by decide⟩ rfl (rx4_g2 hH) rfl (by simp [Value.category]) dd_22_165 (x4_sp1 hH hN h5 hz1 (by omega)) ?_
  show am_Good mi_22 168 [some (.ref 2), some (.retAddr 109), some (.ref 4)] [.retAddr 1] (rx4 h tx N nr mi go z1 c1 z2 c2 z3 c3 z4 c4 z5 c5 z6 c6) _
  refine g_if_eq_f (t := 211) dd_22_168 (by decide) (by decide) ?_
  refine g_aload_n (i := 0) dd_22_171 rfl ?_
  refine g_iconst dd_22_172 ic_3 ?_
  refine g_iconst dd_22_173 ic_0 ?_
  refine g_bipush dd_22_174 bi_9 ?_
  refine g_virtual (M' := mi_24) (n := 3) (ci := 6) (b := 2) (as := [.retAddr 3, .retAddr 0, .retAddr 9]) (st := []) (r1 := (some (.retAddr 1), (rx4 h tx N nr mi go z1 c1 z2 c2 z3 c3 z4 c4 z5 c5 z6 c6))) w_419 w_421 ps_24 ⟨lk_24.1, lk_24.2.1, lk_24.2.2, by decide, by decide⟩ rfl (rx4_g2 hH) rfl (by simp [Value.category]) dd_22_176 (x4_wi1 hH hN h5 (by decide) (by decide) (by decide) (by omega)) ?_
  show am_Good mi_22 179 [some (.ref 2), some (.retAddr 109), some (.ref 4)] [.retAddr 1] (rx4 h tx N nr mi go z1 c1 z2 c2 z3 c3 z4 c4 z5 c5 z6 c6) _
  refine g_if_eq_f (t := 211) dd_22_179 (by decide) (by decide) ?_
  refine g_aload_n (i := 0) dd_22_182 rfl ?_
  refine g_iconst dd_22_183 ic_4 ?_
  refine g_iconst dd_22_184 ic_0 ?_
  refine g_bipush dd_22_185 bi_8 ?_
  refine g_virtual (M' := mi_24) (n := 3) (ci := 6) (b := 2) (as := [.retAddr 4, .retAddr 0, .retAddr 8]) (st := []) (r1 := (some (.retAddr 1), (rx4 h tx N nr mi go z1 c1 z2 c2 z3 c3 z4 c4 z5 c5 z6 c6))) w_419 w_421 ps_24 ⟨lk_24.1, lk_24.2.1, lk_24.2.2, by decide, by decide⟩ rfl (rx4_g2 hH) rfl (by simp [Value.category]) dd_22_187 (x4_wi1 hH hN h5 (by decide) (by decide) (by decide) (by omega)) ?_
  show am_Good mi_22 190 [some (.ref 2), some (.retAddr 109), some (.ref 4)] [.retAddr 1] (rx4 h tx N nr mi go z1 c1 z2 c2 z3 c3 z4 c4 z5 c5 z6 c6) _
  refine g_if_eq_f (t := 211) dd_22_190 (by decide) (by decide) ?_
  refine g_aload_n (i := 2) dd_22_193 rfl ?_
  refine g_getfield (k := 1) am_ck1 (by decide) (Or.inr ⟨_, w_88⟩) dd_22_194 (rx4_g4 hH) rfl ?_
  refine g_aload_n (i := 0) dd_22_197 rfl ?_
  refine g_getfield (k := 0) am_ck6 (by decide) (Or.inl w_36) dd_22_198 (rx4_g2 hH) rfl ?_
  refine g_virtual (M' := mi_26) (n := 1) (ci := 8) (b := 7) (as := [.ref 3]) (st := []) (r1 := (some (.retAddr 1), (rx4 h tx N nr mi go z1 c1 (z2 + 1) (am_cp nr c2 0 (z2 * 5) 5) z3 c3 z4 c4 z5 c5 z6 c6))) w_427 w_428 w_429 ⟨lk_26.1, lk_26.2.1, lk_26.2.2, by decide, by decide⟩ rfl (rx4_g7 hH) rfl (by simp [Value.category]) dd_22_201 (x4_ad11 hH (by omega)) ?_
  show am_Good mi_22 204 [some (.ref 2), some (.retAddr 109), some (.ref 4)] [.retAddr 1] (rx4 h tx N nr mi go z1 c1 (z2 + 1) (am_cp nr c2 0 (z2 * 5) 5) z3 c3 z4 c4 z5 c5 z6 c6) _
  refine g_if_eq_f (t := 211) dd_22_204 (by decide) (by decide) ?_
  refine g_iconst dd_22_207 ic_1 ?_
  refine g_goto (t := 212) dd_22_208 (by decide) ?_
  exact g_zreturn rfl (by first | decide | omega) dd_22_212
theorem x4_t109_0 {h : am_H} {tx N nr mi go z1 c1 z2 c2 z3 c3 z4 c4 z5 c5 z6 c6 : Nat} (hH : rx4_ok h) (hN : N ≤ 5) (h5 : ∀ j, j < 5 → am_ag nr j ≤ 99) (hz1 : z1 ≤ 4) (hz2 : z2 ≤ 9) (hz3 : z3 ≤ 6) (hz4 : z4 ≤ 4) (hz5 : z5 ≤ 6) (hz6 : z6 ≤ 4) (hc : ¬ (N = 5 ∧ (am_ag nr 0 < z1 ∧ am_ag nr 1 ≤ 59 ∧ am_ag nr 2 ≤ 59 ∧ am_ag nr 1 ≤ am_ag nr 2) ∧ am_ag nr 3 ≤ 9 ∧ am_ag nr 4 ≤ 8 ∧ z2 < 9)) : am_EG mi_22 [.ref 2, .retAddr 109, .ref 4] (rx4 h tx N nr mi go z1 c1 z2 c2 z3 c3 z4 c4 z5 c5 z6 c6) (some (.retAddr 0), (rx4 h tx N nr mi go z1 c1 z2 c2 z3 c3 z4 c4 z5 c5 z6 c6)) := by
  refine am_enter (n := 0) tk_22.2.1 (by simp [Value.category]) (Nat.le_of_ble_eq_true rfl) ?_
  show am_Good mi_22 0 [some (.ref 2), some (.retAddr 109), some (.ref 4)] [] (rx4 h tx N nr mi go z1 c1 z2 c2 z3 c3 z4 c4 z5 c5 z6 c6) _
  have hb0 := h5 0 (by decide)
  have hb1 := h5 1 (by decide)
  have hb2 := h5 2 (by decide)
  have hb3 := h5 3 (by decide)
  have hb4 := h5 4 (by decide)
  refine g_iload_n (i := 1) dd_22_0 rfl ?_
  refine g_tableIn (a := 109) (off := 154) (t := 155) dd_22_1 (by decide) (by decide) (by decide) rfl (by decide) ?_
  refine g_aload_n (i := 0) dd_22_155 rfl ?_
  refine g_getfield (k := 1) am_ck6 (by decide) (Or.inl w_37) dd_22_156 (rx4_g2 hH) rfl ?_
  refine g_iconst dd_22_159 ic_5 ?_
  by_cases hNn : N = 5
  · refine g_icmp_ne_f (t := 211) dd_22_160 (by decide) (tk_ne_f (by omega)) ?_
    refine g_aload_n (i := 0) dd_22_163 rfl ?_
    refine g_aload_n (i := 2) dd_22_164 rfl ?_
    by_cases hsp : (2 < N ∧ am_ag nr 0 < z1 ∧ am_ag nr 1 ≤ 59 ∧ am_ag nr 2 ≤ 59 ∧ am_ag nr 1 ≤ am_ag nr 2)
    · refine g_virtual (M' := mi_27) (n := 1) (ci := 6) (b := 2) (as := [.ref 4]) (st := []) (r1 := (some (.retAddr 1), (rx4 h tx N nr mi go z1 c1 z2 c2 z3 c3 z4 c4 z5 c5 z6 c6))) w_434 w_436 ps_27 ⟨lk_27.1, lk_27.2.1, lk_27.2.2, by decide, by decide⟩ rfl (rx4_g2 hH) rfl (by simp [Value.category]) dd_22_165 (x4_sp1 hH hN h5 hz1 hsp) ?_
      show am_Good mi_22 168 [some (.ref 2), some (.retAddr 109), some (.ref 4)] [.retAddr 1] (rx4 h tx N nr mi go z1 c1 z2 c2 z3 c3 z4 c4 z5 c5 z6 c6) _
      refine g_if_eq_f (t := 211) dd_22_168 (by decide) (by decide) ?_
      refine g_aload_n (i := 0) dd_22_171 rfl ?_
      refine g_iconst dd_22_172 ic_3 ?_
      refine g_iconst dd_22_173 ic_0 ?_
      refine g_bipush dd_22_174 bi_9 ?_
      by_cases hw3 : 3 < N ∧ 0 ≤ am_ag nr 3 ∧ am_ag nr 3 ≤ 9
      · refine g_virtual (M' := mi_24) (n := 3) (ci := 6) (b := 2) (as := [.retAddr 3, .retAddr 0, .retAddr 9]) (st := []) (r1 := (some (.retAddr 1), (rx4 h tx N nr mi go z1 c1 z2 c2 z3 c3 z4 c4 z5 c5 z6 c6))) w_419 w_421 ps_24 ⟨lk_24.1, lk_24.2.1, lk_24.2.2, by decide, by decide⟩ rfl (rx4_g2 hH) rfl (by simp [Value.category]) dd_22_176 (x4_wi1 hH hN h5 (by decide) (by decide) (by decide) hw3) ?_
        show am_Good mi_22 179 [some (.ref 2), some (.retAddr 109), some (.ref 4)] [.retAddr 1] (rx4 h tx N nr mi go z1 c1 z2 c2 z3 c3 z4 c4 z5 c5 z6 c6) _
        refine g_if_eq_f (t := 211) dd_22_179 (by decide) (by decide) ?_
        refine g_aload_n (i := 0) dd_22_182 rfl ?_
        refine g_iconst dd_22_183 ic_4 ?_
        refine g_iconst dd_22_184 ic_0 ?_
        refine g_bipush dd_22_185 bi_8 ?_
        by_cases hw4 : 4 < N ∧ 0 ≤ am_ag nr 4 ∧ am_ag nr 4 ≤ 8
        · refine g_virtual (M' := mi_24) (n := 3) (ci := 6) (b := 2) (as := [.retAddr 4, .retAddr 0, .retAddr 8]) (st := []) (r1 := (some (.retAddr 1), (rx4 h tx N nr mi go z1 c1 z2 c2 z3 c3 z4 c4 z5 c5 z6 c6))) w_419 w_421 ps_24 ⟨lk_24.1, lk_24.2.1, lk_24.2.2, by decide, by decide⟩ rfl (rx4_g2 hH) rfl (by simp [Value.category]) dd_22_187 (x4_wi1 hH hN h5 (by decide) (by decide) (by decide) hw4) ?_
          show am_Good mi_22 190 [some (.ref 2), some (.retAddr 109), some (.ref 4)] [.retAddr 1] (rx4 h tx N nr mi go z1 c1 z2 c2 z3 c3 z4 c4 z5 c5 z6 c6) _
          refine g_if_eq_f (t := 211) dd_22_190 (by decide) (by decide) ?_
          refine g_aload_n (i := 2) dd_22_193 rfl ?_
          refine g_getfield (k := 1) am_ck1 (by decide) (Or.inr ⟨_, w_88⟩) dd_22_194 (rx4_g4 hH) rfl ?_
          refine g_aload_n (i := 0) dd_22_197 rfl ?_
          refine g_getfield (k := 0) am_ck6 (by decide) (Or.inl w_36) dd_22_198 (rx4_g2 hH) rfl ?_
          by_cases had : z2 < 9
          · exfalso
            omega
          · refine g_virtual (M' := mi_26) (n := 1) (ci := 8) (b := 7) (as := [.ref 3]) (st := []) (r1 := (some (.retAddr 0), (rx4 h tx N nr mi go z1 c1 z2 c2 z3 c3 z4 c4 z5 c5 z6 c6))) w_427 w_428 w_429 ⟨lk_26.1, lk_26.2.1, lk_26.2.2, by decide, by decide⟩ rfl (rx4_g7 hH) rfl (by simp [Value.category]) dd_22_201 (x4_ad10 hH had (by omega)) ?_
            show am_Good mi_22 204 [some (.ref 2), some (.retAddr 109), some (.ref 4)] [.retAddr 0] (rx4 h tx N nr mi go z1 c1 z2 c2 z3 c3 z4 c4 z5 c5 z6 c6) _
            refine g_if_eq_t (t := 211) dd_22_204 (by decide) (by decide) ?_
            refine g_iconst dd_22_211 ic_0 ?_
            exact g_zreturn rfl (by first | decide | omega) dd_22_212
        · refine g_virtual (M' := mi_24) (n := 3) (ci := 6) (b := 2) (as := [.retAddr 4, .retAddr 0, .retAddr 8]) (st := []) (r1 := (some (.retAddr 0), (rx4 h tx N nr mi go z1 c1 z2 c2 z3 c3 z4 c4 z5 c5 z6 c6))) w_419 w_421 ps_24 ⟨lk_24.1, lk_24.2.1, lk_24.2.2, by decide, by decide⟩ rfl (rx4_g2 hH) rfl (by simp [Value.category]) dd_22_187 (x4_wi0 hH hN h5 (by decide) (by decide) (by decide) hw4) ?_
          show am_Good mi_22 190 [some (.ref 2), some (.retAddr 109), some (.ref 4)] [.retAddr 0] (rx4 h tx N nr mi go z1 c1 z2 c2 z3 c3 z4 c4 z5 c5 z6 c6) _
          refine g_if_eq_t (t := 211) dd_22_190 (by decide) (by decide) ?_
          refine g_iconst dd_22_211 ic_0 ?_
          exact g_zreturn rfl (by first | decide | omega) dd_22_212
      · refine g_virtual (M' := mi_24) (n := 3) (ci := 6) (b := 2) (as := [.retAddr 3, .retAddr 0, .retAddr 9]) (st := []) (r1 := (some (.retAddr 0), (rx4 h tx N nr mi go z1 c1 z2 c2 z3 c3 z4 c4 z5 c5 z6 c6))) w_419 w_421 ps_24 ⟨lk_24.1, lk_24.2.1, lk_24.2.2, by decide, by decide⟩ rfl (rx4_g2 hH) rfl (by simp [Value.category]) dd_22_176 (x4_wi0 hH hN h5 (by decide) (by decide) (by decide) hw3) ?_
        show am_Good mi_22 179 [some (.ref 2), some (.retAddr 109), some (.ref 4)] [.retAddr 0] (rx4 h tx N nr mi go z1 c1 z2 c2 z3 c3 z4 c4 z5 c5 z6 c6) _
        refine g_if_eq_t (t := 211) dd_22_179 (by decide) (by decide) ?_
        refine g_iconst dd_22_211 ic_0 ?_
        exact g_zreturn rfl (by first | decide | omega) dd_22_212
    · refine g_virtual (M' := mi_27) (n := 1) (ci := 6) (b := 2) (as := [.ref 4]) (st := []) (r1 := (some (.retAddr 0), (rx4 h tx N nr mi go z1 c1 z2 c2 z3 c3 z4 c4 z5 c5 z6 c6))) w_434 w_436 ps_27 ⟨lk_27.1, lk_27.2.1, lk_27.2.2, by decide, by decide⟩ rfl (rx4_g2 hH) rfl (by simp [Value.category]) dd_22_165 (x4_sp0 hH hN h5 hz1 hsp) ?_
      show am_Good mi_22 168 [some (.ref 2), some (.retAddr 109), some (.ref 4)] [.retAddr 0] (rx4 h tx N nr mi go z1 c1 z2 c2 z3 c3 z4 c4 z5 c5 z6 c6) _
      refine g_if_eq_t (t := 211) dd_22_168 (by decide) (by decide) ?_
      refine g_iconst dd_22_211 ic_0 ?_
      exact g_zreturn rfl (by first | decide | omega) dd_22_212
  · refine g_icmp_ne_t (t := 211) dd_22_160 (by decide) (tk_ne_t (by omega)) ?_
    refine g_iconst dd_22_211 ic_0 ?_
    exact g_zreturn rfl (by first | decide | omega) dd_22_212
theorem x4_t98_1 {h : am_H} {tx N nr mi go z1 c1 z2 c2 z3 c3 z4 c4 z5 c5 z6 c6 : Nat} (hH : rx4_ok h) (hN : N ≤ 5) (h5 : ∀ j, j < 5 → am_ag nr j ≤ 99) (hz1 : z1 ≤ 4) (hz2 : z2 ≤ 9) (hz3 : z3 ≤ 6) (hz4 : z4 ≤ 4) (hz5 : z5 ≤ 6) (hz6 : z6 ≤ 4) (hc : (N = 3 ∧ (am_ag nr 0 < z1 ∧ am_ag nr 1 ≤ 59 ∧ am_ag nr 2 ≤ 59 ∧ am_ag nr 1 ≤ am_ag nr 2) ∧ z3 < 6)) : am_EG mi_22 [.ref 2, .retAddr 98, .ref 4] (rx4 h tx N nr mi go z1 c1 z2 c2 z3 c3 z4 c4 z5 c5 z6 c6) (some (.retAddr 1), (rx4 h tx N nr mi go z1 c1 z2 c2 (z3 + 1) (am_cp nr c3 0 (z3 * 3) 3) z4 c4 z5 c5 z6 c6)) := by
  refine am_enter (n := 0) tk_22.2.1 (by simp [Value.category]) (Nat.le_of_ble_eq_true rfl) ?_
  show am_Good mi_22 0 [some (.ref 2), some (.retAddr 98), some (.ref 4)] [] (rx4 h tx N nr mi go z1 c1 z2 c2 z3 c3 z4 c4 z5 c5 z6 c6) _
  have hb0 := h5 0 (by decide)
  have hb1 := h5 1 (by decide)
  have hb2 := h5 2 (by decide)
  have hb3 := h5 3 (by decide)
  have hb4 := h5 4 (by decide)
  refine g_iload_n (i := 1) dd_22_0 rfl ?_
  refine g_tableIn (a := 98) (off := 212) (t := 213) dd_22_1 (by decide) (by decide) (by decide) rfl (by decide) ?_
  refine g_aload_n (i := 0) dd_22_213 rfl ?_
  refine g_getfield (k := 1) am_ck6 (by decide) (Or.inl w_37) dd_22_214 (rx4_g2 hH) rfl ?_
  refine g_iconst dd_22_217 ic_3 ?_
  refine g_icmp_ne_f (t := 247) dd_22_218 (by decide) (tk_ne_f (by omega)) ?_
  refine g_aload_n (i := 0) dd_22_221 rfl ?_
  refine g_aload_n (i := 2) dd_22_222 rfl ?_
  refine g_virtual (M' := mi_27) (n := 1) (ci := 6) (b := 2) (as := [.ref 4]) (st := []) (r1 := (some (.retAddr 1), (rx4 h tx N nr mi go z1 c1 z2 c2 z3 c3 z4 c4 z5 c5 z6 c6))) w_434 w_436 ps_27 ⟨lk_27.1, lk_27.2.1, lk_27.2.2, by decide, by decide⟩ rfl (rx4_g2 hH) rfl (by simp [Value.category]) dd_22_223 (x4_sp1 hH hN h5 hz1 (by omega)) ?_
  show am_Good mi_22 226 [some (.ref 2), some (.retAddr 98), some (.ref 4)] [.retAddr 1] (rx4 h tx N nr mi go z1 c1 z2 c2 z3 c3 z4 c4 z5 c5 z6 c6) _
  refine g_if_eq_f (t := 247) dd_22_226 (by decide) (by decide) ?_
  refine g_aload_n (i := 2) dd_22_229 rfl ?_
  refine g_getfield (k := 2) am_ck1 (by decide) (Or.inr ⟨_, w_92⟩) dd_22_230 (rx4_g4 hH) rfl ?_
  refine g_aload_n (i := 0) dd_22_233 rfl ?_
  refine g_getfield (k := 0) am_ck6 (by decide) (Or.inl w_36) dd_22_234 (rx4_g2 hH) rfl ?_
  refine g_virtual (M' := mi_26) (n := 1) (ci := 8) (b := 9) (as := [.ref 3]) (st := []) (r1 := (some (.retAddr 1), (rx4 h tx N nr mi go z1 c1 z2 c2 (z3 + 1) (am_cp nr c3 0 (z3 * 3) 3) z4 c4 z5 c5 z6 c6))) w_427 w_428 w_429 ⟨lk_26.1, lk_26.2.1, lk_26.2.2, by decide, by decide⟩ rfl (rx4_g9 hH) rfl (by simp [Value.category]) dd_22_237 (x4_ad21 hH (by omega)) ?_
  show am_Good mi_22 240 [some (.ref 2), some (.retAddr 98), some (.ref 4)] [.retAddr 1] (rx4 h tx N nr mi go z1 c1 z2 c2 (z3 + 1) (am_cp nr c3 0 (z3 * 3) 3) z4 c4 z5 c5 z6 c6) _
  refine g_if_eq_f (t := 247) dd_22_240 (by decide) (by decide) ?_
  refine g_iconst dd_22_243 ic_1 ?_
  refine g_goto (t := 248) dd_22_244 (by decide) ?_
  exact g_zreturn rfl (by first | decide | omega) dd_22_248
theorem x4_t98_0 {h : am_H} {tx N nr mi go z1 c1 z2 c2 z3 c3 z4 c4 z5 c5 z6 c6 : Nat} (hH : rx4_ok h) (hN : N ≤ 5) (h5 : ∀ j, j < 5 → am_ag nr j ≤ 99) (hz1 : z1 ≤ 4) (hz2 : z2 ≤ 9) (hz3 : z3 ≤ 6) (hz4 : z4 ≤ 4) (hz5 : z5 ≤ 6) (hz6 : z6 ≤ 4) (hc : ¬ (N = 3 ∧ (am_ag nr 0 < z1 ∧ am_ag nr 1 ≤ 59 ∧ am_ag nr 2 ≤ 59 ∧ am_ag nr 1 ≤ am_ag nr 2) ∧ z3 < 6)) : am_EG mi_22 [.ref 2, .retAddr 98, .ref 4] (rx4 h tx N nr mi go z1 c1 z2 c2 z3 c3 z4 c4 z5 c5 z6 c6) (some (.retAddr 0), (rx4 h tx N nr mi go z1 c1 z2 c2 z3 c3 z4 c4 z5 c5 z6 c6)) := by
  refine am_enter (n := 0) tk_22.2.1 (by simp [Value.category]) (Nat.le_of_ble_eq_true rfl) ?_
  show am_Good mi_22 0 [some (.ref 2), some (.retAddr 98), some (.ref 4)] [] (rx4 h tx N nr mi go z1 c1 z2 c2 z3 c3 z4 c4 z5 c5 z6 c6) _
  have hb0 := h5 0 (by decide)
  have hb1 := h5 1 (by decide)
  have hb2 := h5 2 (by decide)
  have hb3 := h5 3 (by decide)
  have hb4 := h5 4 (by decide)
  refine g_iload_n (i := 1) dd_22_0 rfl ?_
  refine g_tableIn (a := 98) (off := 212) (t := 213) dd_22_1 (by decide) (by decide) (by decide) rfl (by decide) ?_
  refine g_aload_n (i := 0) dd_22_213 rfl ?_
  refine g_getfield (k := 1) am_ck6 (by decide) (Or.inl w_37) dd_22_214 (rx4_g2 hH) rfl ?_
  refine g_iconst dd_22_217 ic_3 ?_
  by_cases hNn : N = 3
  · refine g_icmp_ne_f (t := 247) dd_22_218 (by decide) (tk_ne_f (by omega)) ?_
    refine g_aload_n (i := 0) dd_22_221 rfl ?_
    refine g_aload_n (i := 2) dd_22_222 rfl ?_
    by_cases hsp : (2 < N ∧ am_ag nr 0 < z1 ∧ am_ag nr 1 ≤ 59 ∧ am_ag nr 2 ≤ 59 ∧ am_ag nr 1 ≤ am_ag nr 2)
    · refine g_virtual (M' := mi_27) (n := 1) (ci := 6) (b := 2) (as := [.ref 4]) (st := []) (r1 := (some (.retAddr 1), (rx4 h tx N nr mi go z1 c1 z2 c2 z3 c3 z4 c4 z5 c5 z6 c6))) w_434 w_436 ps_27 ⟨lk_27.1, lk_27.2.1, lk_27.2.2, by decide, by decide⟩ rfl (rx4_g2 hH) rfl (by simp [Value.category]) dd_22_223 (x4_sp1 hH hN h5 hz1 hsp) ?_
      show am_Good mi_22 226 [some (.ref 2), some (.retAddr 98), some (.ref 4)] [.retAddr 1] (rx4 h tx N nr mi go z1 c1 z2 c2 z3 c3 z4 c4 z5 c5 z6 c6) _
      refine g_if_eq_f (t := 247) dd_22_226 (by decide) (by decide) ?_
      refine g_aload_n (i := 2) dd_22_229 rfl ?_
      refine g_getfield (k := 2) am_ck1 (by decide) (Or.inr ⟨_, w_92⟩) dd_22_230 (rx4_g4 hH) rfl ?_
      refine g_aload_n (i := 0) dd_22_233 rfl ?_
      refine g_getfield (k := 0) am_ck6 (by decide) (Or.inl w_36) dd_22_234 (rx4_g2 hH) rfl ?_
      by_cases had : z3 < 6
      · exfalso
        omega
      · refine g_virtual (M' := mi_26) (n := 1) (ci := 8) (b := 9) (as := [.ref 3]) (st := []) (r1 := (some (.retAddr 0), (rx4 h tx N nr mi go z1 c1 z2 c2 z3 c3 z4 c4 z5 c5 z6 c6))) w_427 w_428 w_429 ⟨lk_26.1, lk_26.2.1, lk_26.2.2, by decide, by decide⟩ rfl (rx4_g9 hH) rfl (by simp [Value.category]) dd_22_237 (x4_ad20 hH had (by omega)) ?_
        show am_Good mi_22 240 [some (.ref 2), some (.retAddr 98), some (.ref 4)] [.retAddr 0] (rx4 h tx N nr mi go z1 c1 z2 c2 z3 c3 z4 c4 z5 c5 z6 c6) _
        refine g_if_eq_t (t := 247) dd_22_240 (by decide) (by decide) ?_
        refine g_iconst dd_22_247 ic_0 ?_
        exact g_zreturn rfl (by first | decide | omega) dd_22_248
    · refine g_virtual (M' := mi_27) (n := 1) (ci := 6) (b := 2) (as := [.ref 4]) (st := []) (r1 := (some (.retAddr 0), (rx4 h tx N nr mi go z1 c1 z2 c2 z3 c3 z4 c4 z5 c5 z6 c6))) w_434 w_436 ps_27 ⟨lk_27.1, lk_27.2.1, lk_27.2.2, by decide, by decide⟩ rfl (rx4_g2 hH) rfl (by simp [Value.category]) dd_22_223 (x4_sp0 hH hN h5 hz1 hsp) ?_
      show am_Good mi_22 226 [some (.ref 2), some (.retAddr 98), some (.ref 4)] [.retAddr 0] (rx4 h tx N nr mi go z1 c1 z2 c2 z3 c3 z4 c4 z5 c5 z6 c6) _
      refine g_if_eq_t (t := 247) dd_22_226 (by decide) (by decide) ?_
      refine g_iconst dd_22_247 ic_0 ?_
      exact g_zreturn rfl (by first | decide | omega) dd_22_248
  · refine g_icmp_ne_t (t := 247) dd_22_218 (by decide) (tk_ne_t (by omega)) ?_
    refine g_iconst dd_22_247 ic_0 ?_
    exact g_zreturn rfl (by first | decide | omega) dd_22_248
theorem x4_t117_1 {h : am_H} {tx N nr mi go z1 c1 z2 c2 z3 c3 z4 c4 z5 c5 z6 c6 : Nat} (hH : rx4_ok h) (hN : N ≤ 5) (h5 : ∀ j, j < 5 → am_ag nr j ≤ 99) (hz1 : z1 ≤ 4) (hz2 : z2 ≤ 9) (hz3 : z3 ≤ 6) (hz4 : z4 ≤ 4) (hz5 : z5 ≤ 6) (hz6 : z6 ≤ 4) (hc : (N = 4 ∧ (am_ag nr 0 < z1 ∧ am_ag nr 1 ≤ 59 ∧ am_ag nr 2 ≤ 59 ∧ am_ag nr 1 ≤ am_ag nr 2) ∧ am_ag nr 3 ≤ 10 ∧ z4 < 4)) : am_EG mi_22 [.ref 2, .retAddr 117, .ref 4] (rx4 h tx N nr mi go z1 c1 z2 c2 z3 c3 z4 c4 z5 c5 z6 c6) (some (.retAddr 1), (rx4 h tx N nr mi go z1 c1 z2 c2 z3 c3 (z4 + 1) (am_cp nr c4 0 (z4 * 4) 4) z5 c5 z6 c6)) := by
  refine am_enter (n := 0) tk_22.2.1 (by simp [Value.category]) (Nat.le_of_ble_eq_true rfl) ?_
  show am_Good mi_22 0 [some (.ref 2), some (.retAddr 117), some (.ref 4)] [] (rx4 h tx N nr mi go z1 c1 z2 c2 z3 c3 z4 c4 z5 c5 z6 c6) _
  have hb0 := h5 0 (by decide)
  have hb1 := h5 1 (by decide)
  have hb2 := h5 2 (by decide)
  have hb3 := h5 3 (by decide)
  have hb4 := h5 4 (by decide)
  refine g_iload_n (i := 1) dd_22_0 rfl ?_
  refine g_tableIn (a := 117) (off := 248) (t := 249) dd_22_1 (by decide) (by decide) (by decide) rfl (by decide) ?_
  refine g_aload_n (i := 0) dd_22_249 rfl ?_
  refine g_getfield (k := 1) am_ck6 (by decide) (Or.inl w_37) dd_22_250 (rx4_g2 hH) rfl ?_
  refine g_iconst dd_22_253 ic_4 ?_
  refine g_icmp_ne_f (t := 294) dd_22_254 (by decide) (tk_ne_f (by omega)) ?_
  refine g_aload_n (i := 0) dd_22_257 rfl ?_
  refine g_aload_n (i := 2) dd_22_258 rfl ?_
  refine g_virtual (M' := mi_27) (n := 1) (ci := 6) (b := 2) (as := [.ref 4]) (st := []) (r1 := (some (.retAddr 1), (rx4 h tx N nr mi go z1 c1 z2 c2 z3 c3 z4 c4 z5 c5 z6 c6))) w_434 w_436 ps_27 ⟨lk_27.1, lk_27.2.1, lk_27.2.2, by decide, by decide⟩ rfl (rx4_g2 hH) rfl (by simp [Value.category]) dd_22_259 (x4_sp1 hH hN h5 hz1 (by omega)) ?_
  show am_Good mi_22 262 [some (.ref 2), some (.retAddr 117), some (.ref 4)] [.retAddr 1] (rx4 h tx N nr mi go z1 c1 z2 c2 z3 c3 z4 c4 z5 c5 z6 c6) _
  refine g_if_eq_f (t := 294) dd_22_262 (by decide) (by decide) ?_
  refine g_aload_n (i := 0) dd_22_265 rfl ?_
  refine g_iconst dd_22_266 ic_3 ?_
  refine g_iconst dd_22_267 ic_0 ?_
  refine g_bipush dd_22_268 bi_10 ?_
  refine g_virtual (M' := mi_24) (n := 3) (ci := 6) (b := 2) (as := [.retAddr 3, .retAddr 0, .retAddr 10]) (st := []) (r1 := (some (.retAddr 1), (rx4 h tx N nr mi go z1 c1 z2 c2 z3 c3 z4 c4 z5 c5 z6 c6))) w_419 w_421 ps_24 ⟨lk_24.1, lk_24.2.1, lk_24.2.2, by decide, by decide⟩ rfl (rx4_g2 hH) rfl (by simp [Value.category]) dd_22_270 (x4_wi1 hH hN h5 (by decide) (by decide) (by decide) (by omega)) ?_
  show am_Good mi_22 273 [some (.ref 2), some (.retAddr 117), some (.ref 4)] [.retAddr 1] (rx4 h tx N nr mi go z1 c1 z2 c2 z3 c3 z4 c4 z5 c5 z6 c6) _
  refine g_if_eq_f (t := 294) dd_22_273 (by decide) (by decide) ?_
  refine g_aload_n (i := 2) dd_22_276 rfl ?_
  refine g_getfield (k := 3) am_ck1 (by decide) (Or.inr ⟨_, w_96⟩) dd_22_277 (rx4_g4 hH) rfl ?_
  refine g_aload_n (i := 0) dd_22_280 rfl ?_
  refine g_getfield (k := 0) am_ck6 (by decide) (Or.inl w_36) dd_22_281 (rx4_g2 hH) rfl ?_
  refine g_virtual (M' := mi_26) (n := 1) (ci := 8) (b := 11) (as := [.ref 3]) (st := []) (r1 := (some (.retAddr 1), (rx4 h tx N nr mi go z1 c1 z2 c2 z3 c3 (z4 + 1) (am_cp nr c4 0 (z4 * 4) 4) z5 c5 z6 c6))) w_427 w_428 w_429 ⟨lk_26.1, lk_26.2.1, lk_26.2.2, by decide, by decide⟩ rfl (rx4_g11 hH) rfl (by simp [Value.category]) dd_22_284 (x4_ad31 hH (by omega)) ?_
  show am_Good mi_22 287 [some (.ref 2), some (.retAddr 117), some (.ref 4)] [.retAddr 1] (rx4 h tx N nr mi go z1 c1 z2 c2 z3 c3 (z4 + 1) (am_cp nr c4 0 (z4 * 4) 4) z5 c5 z6 c6) _
  refine g_if_eq_f (t := 294) dd_22_287 (by decide) (by decide) ?_
  refine g_iconst dd_22_290 ic_1 ?_
  refine g_goto (t := 295) dd_22_291 (by decide) ?_
  exact g_zreturn rfl (by first | decide | omega) dd_22_295
theorem x4_t117_0 {h : am_H} {tx N nr mi go z1 c1 z2 c2 z3 c3 z4 c4 z5 c5 z6 c6 : Nat} (hH : rx4_ok h) (hN : N ≤ 5) (h5 : ∀ j, j < 5 → am_ag nr j ≤ 99) (hz1 : z1 ≤ 4) (hz2 : z2 ≤ 9) (hz3 : z3 ≤ 6) (hz4 : z4 ≤ 4) (hz5 : z5 ≤ 6) (hz6 : z6 ≤ 4) (hc : ¬ (N = 4 ∧ (am_ag nr 0 < z1 ∧ am_ag nr 1 ≤ 59 ∧ am_ag nr 2 ≤ 59 ∧ am_ag nr 1 ≤ am_ag nr 2) ∧ am_ag nr 3 ≤ 10 ∧ z4 < 4)) : am_EG mi_22 [.ref 2, .retAddr 117, .ref 4] (rx4 h tx N nr mi go z1 c1 z2 c2 z3 c3 z4 c4 z5 c5 z6 c6) (some (.retAddr 0), (rx4 h tx N nr mi go z1 c1 z2 c2 z3 c3 z4 c4 z5 c5 z6 c6)) := by
  refine am_enter (n := 0) tk_22.2.1 (by simp [Value.category]) (Nat.le_of_ble_eq_true rfl) ?_
  show am_Good mi_22 0 [some (.ref 2), some (.retAddr 117), some (.ref 4)] [] (rx4 h tx N nr mi go z1 c1 z2 c2 z3 c3 z4 c4 z5 c5 z6 c6) _
  have hb0 := h5 0 (by decide)
  have hb1 := h5 1 (by decide)
  have hb2 := h5 2 (by decide)
  have hb3 := h5 3 (by decide)
  have hb4 := h5 4 (by decide)
  refine g_iload_n (i := 1) dd_22_0 rfl ?_
  refine g_tableIn (a := 117) (off := 248) (t := 249) dd_22_1 (by decide) (by decide) (by decide) rfl (by decide) ?_
  refine g_aload_n (i := 0) dd_22_249 rfl ?_
  refine g_getfield (k := 1) am_ck6 (by decide) (Or.inl w_37) dd_22_250 (rx4_g2 hH) rfl ?_
  refine g_iconst dd_22_253 ic_4 ?_
  by_cases hNn : N = 4
  · refine g_icmp_ne_f (t := 294) dd_22_254 (by decide) (tk_ne_f (by omega)) ?_
    refine g_aload_n (i := 0) dd_22_257 rfl ?_
    refine g_aload_n (i := 2) dd_22_258 rfl ?_
    by_cases hsp : (2 < N ∧ am_ag nr 0 < z1 ∧ am_ag nr 1 ≤ 59 ∧ am_ag nr 2 ≤ 59 ∧ am_ag nr 1 ≤ am_ag nr 2)
    · refine g_virtual (M' := mi_27) (n := 1) (ci := 6) (b := 2) (as := [.ref 4]) (st := []) (r1 := (some (.retAddr 1), (rx4 h tx N nr mi go z1 c1 z2 c2 z3 c3 z4 c4 z5 c5 z6 c6))) w_434 w_436 ps_27 ⟨lk_27.1, lk_27.2.1, lk_27.2.2, by decide, by decide⟩ rfl (rx4_g2 hH) rfl (by simp [Value.category]) dd_22_259 (x4_sp1 hH hN h5 hz1 hsp) ?_
      show am_Good mi_22 262 [some (.ref 2), some (.retAddr 117), some (.ref 4)] [.retAddr 1] (rx4 h tx N nr mi go z1 c1 z2 c2 z3 c3 z4 c4 z5 c5 z6 c6) _
      refine g_if_eq_f (t := 294) dd_22_262 (by decide) (by decide) ?_
      refine g_aload_n (i := 0) dd_22_265 rfl ?_
      refine g_iconst dd_22_266 ic_3 ?_
      refine g_iconst dd_22_267 ic_0 ?_
      refine g_bipush dd_22_268 bi_10 ?_
      by_cases hw3 : 3 < N ∧ 0 ≤ am_ag nr 3 ∧ am_ag nr 3 ≤ 10
      · refine g_virtual (M' := mi_24) (n := 3) (ci := 6) (b := 2) (as := [.retAddr 3, .retAddr 0, .retAddr 10]) (st := []) (r1 := (some (.retAddr 1), (rx4 h tx N nr mi go z1 c1 z2 c2 z3 c3 z4 c4 z5 c5 z6 c6))) w_419 w_421 ps_24 ⟨lk_24.1, lk_24.2.1, lk_24.2.2, by decide, by decide⟩ rfl (rx4_g2 hH) rfl (by simp [Value.category]) dd_22_270 (x4_wi1 hH hN h5 (by decide) (by decide) (by decide) hw3) ?_
        show am_Good mi_22 273 [some (.ref 2), some (.retAddr 117), some (.ref 4)] [.retAddr 1] (rx4 h tx N nr mi go z1 c1 z2 c2 z3 c3 z4 c4 z5 c5 z6 c6) _
        refine g_if_eq_f (t := 294) dd_22_273 (by decide) (by decide) ?_
        refine g_aload_n (i := 2) dd_22_276 rfl ?_
        refine g_getfield (k := 3) am_ck1 (by decide) (Or.inr ⟨_, w_96⟩) dd_22_277 (rx4_g4 hH) rfl ?_
        refine g_aload_n (i := 0) dd_22_280 rfl ?_
        refine g_getfield (k := 0) am_ck6 (by decide) (Or.inl w_36) dd_22_281 (rx4_g2 hH) rfl ?_
        by_cases had : z4 < 4
        · exfalso
          omega
        · refine g_virtual (M' := mi_26) (n := 1) (ci := 8) (b := 11) (as := [.ref 3]) (st := []) (r1 := (some (.retAddr 0), (rx4 h tx N nr mi go z1 c1 z2 c2 z3 c3 z4 c4 z5 c5 z6 c6))) w_427 w_428 w_429 ⟨lk_26.1, lk_26.2.1, lk_26.2.2, by decide, by decide⟩ rfl (rx4_g11 hH) rfl (by simp [Value.category]) dd_22_284 (x4_ad30 hH had (by omega)) ?_
          show am_Good mi_22 287 [some (.ref 2), some (.retAddr 117), some (.ref 4)] [.retAddr 0] (rx4 h tx N nr mi go z1 c1 z2 c2 z3 c3 z4 c4 z5 c5 z6 c6) _
          refine g_if_eq_t (t := 294) dd_22_287 (by decide) (by decide) ?_
          refine g_iconst dd_22_294 ic_0 ?_
          exact g_zreturn rfl (by first | decide | omega) dd_22_295
      · refine g_virtual (M' := mi_24) (n := 3) (ci := 6) (b := 2) (as := [.retAddr 3, .retAddr 0, .retAddr 10]) (st := []) (r1 := (some (.retAddr 0), (rx4 h tx N nr mi go z1 c1 z2 c2 z3 c3 z4 c4 z5 c5 z6 c6))) w_419 w_421 ps_24 ⟨lk_24.1, lk_24.2.1, lk_24.2.2, by decide, by decide⟩ rfl (rx4_g2 hH) rfl (by simp [Value.category]) dd_22_270 (x4_wi0 hH hN h5 (by decide) (by decide) (by decide) hw3) ?_
        show am_Good mi_22 273 [some (.ref 2), some (.retAddr 117), some (.ref 4)] [.retAddr 0] (rx4 h tx N nr mi go z1 c1 z2 c2 z3 c3 z4 c4 z5 c5 z6 c6) _
        refine g_if_eq_t (t := 294) dd_22_273 (by decide) (by decide) ?_
        refine g_iconst dd_22_294 ic_0 ?_
        exact g_zreturn rfl (by first | decide | omega) dd_22_295
    · refine g_virtual (M' := mi_27) (n := 1) (ci := 6) (b := 2) (as := [.ref 4]) (st := []) (r1 := (some (.retAddr 0), (rx4 h tx N nr mi go z1 c1 z2 c2 z3 c3 z4 c4 z5 c5 z6 c6))) w_434 w_436 ps_27 ⟨lk_27.1, lk_27.2.1, lk_27.2.2, by decide, by decide⟩ rfl (rx4_g2 hH) rfl (by simp [Value.category]) dd_22_259 (x4_sp0 hH hN h5 hz1 hsp) ?_
      show am_Good mi_22 262 [some (.ref 2), some (.retAddr 117), some (.ref 4)] [.retAddr 0] (rx4 h tx N nr mi go z1 c1 z2 c2 z3 c3 z4 c4 z5 c5 z6 c6) _
      refine g_if_eq_t (t := 294) dd_22_262 (by decide) (by decide) ?_
      refine g_iconst dd_22_294 ic_0 ?_
      exact g_zreturn rfl (by first | decide | omega) dd_22_295
  · refine g_icmp_ne_t (t := 294) dd_22_254 (by decide) (tk_ne_t (by omega)) ?_
    refine g_iconst dd_22_294 ic_0 ?_
    exact g_zreturn rfl (by first | decide | omega) dd_22_295
theorem x4_t102_1 {h : am_H} {tx N nr mi go z1 c1 z2 c2 z3 c3 z4 c4 z5 c5 z6 c6 : Nat} (hH : rx4_ok h) (hN : N ≤ 5) (h5 : ∀ j, j < 5 → am_ag nr j ≤ 99) (hz1 : z1 ≤ 4) (hz2 : z2 ≤ 9) (hz3 : z3 ≤ 6) (hz4 : z4 ≤ 4) (hz5 : z5 ≤ 6) (hz6 : z6 ≤ 4) (hc : (N = 3 ∧ am_ag nr 0 ≤ 7 ∧ am_ag nr 1 ≤ 7 ∧ am_ag nr 2 ≤ 7 ∧ z5 < 6)) : am_EG mi_22 [.ref 2, .retAddr 102, .ref 4] (rx4 h tx N nr mi go z1 c1 z2 c2 z3 c3 z4 c4 z5 c5 z6 c6) (some (.retAddr 1), (rx4 h tx N nr mi go z1 c1 z2 c2 z3 c3 z4 c4 (z5 + 1) (am_cp nr c5 0 (z5 * 3) 3) z6 c6)) := by
  refine am_enter (n := 0) tk_22.2.1 (by simp [Value.category]) (Nat.le_of_ble_eq_true rfl) ?_
  show am_Good mi_22 0 [some (.ref 2), some (.retAddr 102), some (.ref 4)] [] (rx4 h tx N nr mi go z1 c1 z2 c2 z3 c3 z4 c4 z5 c5 z6 c6) _
  have hb0 := h5 0 (by decide)
  have hb1 := h5 1 (by decide)
  have hb2 := h5 2 (by decide)
  have hb3 := h5 3 (by decide)
  have hb4 := h5 4 (by decide)
  refine g_iload_n (i := 1) dd_22_0 rfl ?_
  refine g_tableIn (a := 102) (off := 295) (t := 296) dd_22_1 (by decide) (by decide) (by decide) rfl (by decide) ?_
  refine g_aload_n (i := 0) dd_22_296 rfl ?_
  refine g_getfield (k := 1) am_ck6 (by decide) (Or.inl w_37) dd_22_297 (rx4_g2 hH) rfl ?_
  refine g_iconst dd_22_300 ic_3 ?_
  refine g_icmp_ne_f (t := 355) dd_22_301 (by decide) (tk_ne_f (by omega)) ?_
  refine g_aload_n (i := 0) dd_22_304 rfl ?_
  refine g_iconst dd_22_305 ic_0 ?_
  refine g_iconst dd_22_306 ic_0 ?_
  refine g_bipush dd_22_307 bi_7 ?_
  refine g_virtual (M' := mi_24) (n := 3) (ci := 6) (b := 2) (as := [.retAddr 0, .retAddr 0, .retAddr 7]) (st := []) (r1 := (some (.retAddr 1), (rx4 h tx N nr mi go z1 c1 z2 c2 z3 c3 z4 c4 z5 c5 z6 c6))) w_419 w_421 ps_24 ⟨lk_24.1, lk_24.2.1, lk_24.2.2, by decide, by decide⟩ rfl (rx4_g2 hH) rfl (by simp [Value.category]) dd_22_309 (x4_wi1 hH hN h5 (by decide) (by decide) (by decide) (by omega)) ?_
  show am_Good mi_22 312 [some (.ref 2), some (.retAddr 102), some (.ref 4)] [.retAddr 1] (rx4 h tx N nr mi go z1 c1 z2 c2 z3 c3 z4 c4 z5 c5 z6 c6) _
  refine g_if_eq_f (t := 355) dd_22_312 (by decide) (by decide) ?_
  refine g_aload_n (i := 0) dd_22_315 rfl ?_
  refine g_iconst dd_22_316 ic_1 ?_
  refine g_iconst dd_22_317 ic_0 ?_
  refine g_bipush dd_22_318 bi_7 ?_
  refine g_virtual (M' := mi_24) (n := 3) (ci := 6) (b := 2) (as := [.retAddr 1, .retAddr 0, .retAddr 7]) (st := []) (r1 := (some (.retAddr 1), (rx4 h tx N nr mi go z1 c1 z2 c2 z3 c3 z4 c4 z5 c5 z6 c6))) w_419 w_421 ps_24 ⟨lk_24.1, lk_24.2.1, lk_24.2.2, by decide, by decide⟩ rfl (rx4_g2 hH) rfl (by simp [Value.category]) dd_22_320 (x4_wi1 hH hN h5 (by decide) (by decide) (by decide) (by omega)) ?_
  show am_Good mi_22 323 [some (.ref 2), some (.retAddr 102), some (.ref 4)] [.retAddr 1] (rx4 h tx N nr mi go z1 c1 z2 c2 z3 c3 z4 c4 z5 c5 z6 c6) _
  refine g_if_eq_f (t := 355) dd_22_323 (by decide) (by decide) ?_
  refine g_aload_n (i := 0) dd_22_326 rfl ?_
  refine g_iconst dd_22_327 ic_2 ?_
  refine g_iconst dd_22_328 ic_0 ?_
  refine g_bipush dd_22_329 bi_7 ?_
  refine g_virtual (M' := mi_24) (n := 3) (ci := 6) (b := 2) (as := [.retAddr 2, .retAddr 0, .retAddr 7]) (st := []) (r1 := (some (.retAddr 1), (rx4 h tx N nr mi go z1 c1 z2 c2 z3 c3 z4 c4 z5 c5 z6 c6))) w_419 w_421 ps_24 ⟨lk_24.1, lk_24.2.1, lk_24.2.2, by decide, by decide⟩ rfl (rx4_g2 hH) rfl (by simp [Value.category]) dd_22_331 (x4_wi1 hH hN h5 (by decide) (by decide) (by decide) (by omega)) ?_
  show am_Good mi_22 334 [some (.ref 2), some (.retAddr 102), some (.ref 4)] [.retAddr 1] (rx4 h tx N nr mi go z1 c1 z2 c2 z3 c3 z4 c4 z5 c5 z6 c6) _
  refine g_if_eq_f (t := 355) dd_22_334 (by decide) (by decide) ?_
  refine g_aload_n (i := 2) dd_22_337 rfl ?_
  refine g_getfield (k := 4) am_ck1 (by decide) (Or.inr ⟨_, w_100⟩) dd_22_338 (rx4_g4 hH) rfl ?_
  refine g_aload_n (i := 0) dd_22_341 rfl ?_
  refine g_getfield (k := 0) am_ck6 (by decide) (Or.inl w_36) dd_22_342 (rx4_g2 hH) rfl ?_
  refine g_virtual (M' := mi_26) (n := 1) (ci := 8) (b := 13) (as := [.ref 3]) (st := []) (r1 := (some (.retAddr 1), (rx4 h tx N nr mi go z1 c1 z2 c2 z3 c3 z4 c4 (z5 + 1) (am_cp nr c5 0 (z5 * 3) 3) z6 c6))) w_427 w_428 w_429 ⟨lk_26.1, lk_26.2.1, lk_26.2.2, by decide, by decide⟩ rfl (rx4_g13 hH) rfl (by simp [Value.category]) dd_22_345 (x4_ad41 hH (by omega)) ?_
  show am_Good mi_22 348 [some (.ref 2), some (.retAddr 102), some (.ref 4)] [.retAddr 1] (rx4 h tx N nr mi go z1 c1 z2 c2 z3 c3 z4 c4 (z5 + 1) (am_cp nr c5 0 (z5 * 3) 3) z6 c6) _
  refine g_if_eq_f (t := 355) dd_22_348 (by decide) (by decide) ?_
  refine g_iconst dd_22_351 ic_1 ?_
  refine g_goto (t := 356) dd_22_352 (by decide) ?_
  exact g_zreturn rfl (by first | decide | omega) dd_22_356
theorem x4_t102_0 {h : am_H} {tx N nr mi go z1 c1 z2 c2 z3 c3 z4 c4 z5 c5 z6 c6 : Nat} (hH : rx4_ok h) (hN : N ≤ 5) (h5 : ∀ j, j < 5 → am_ag nr j ≤ 99) (hz1 : z1 ≤ 4) (hz2 : z2 ≤ 9) (hz3 : z3 ≤ 6) (hz4 : z4 ≤ 4) (hz5 : z5 ≤ 6) (hz6 : z6 ≤ 4) (hc : ¬ (N = 3 ∧ am_ag nr 0 ≤ 7 ∧ am_ag nr 1 ≤ 7 ∧ am_ag nr 2 ≤ 7 ∧ z5 < 6)) : am_EG mi_22 [.ref 2, .retAddr 102, .ref 4] (rx4 h tx N nr mi go z1 c1 z2 c2 z3 c3 z4 c4 z5 c5 z6 c6) (some (.retAddr 0), (rx4 h tx N nr mi go z1 c1 z2 c2 z3 c3 z4 c4 z5 c5 z6 c6)) := by
  refine am_enter (n := 0) tk_22.2.1 (by simp [Value.category]) (Nat.le_of_ble_eq_true rfl) ?_
  show am_Good mi_22 0 [some (.ref 2), some (.retAddr 102), some (.ref 4)] [] (rx4 h tx N nr mi go z1 c1 z2 c2 z3 c3 z4 c4 z5 c5 z6 c6) _
  have hb0 := h5 0 (by decide)
  have hb1 := h5 1 (by decide)
  have hb2 := h5 2 (by decide)
  have hb3 := h5 3 (by decide)
  have hb4 := h5 4 (by decide)
  refine g_iload_n (i := 1) dd_22_0 rfl ?_
  refine g_tableIn (a := 102) (off := 295) (t := 296) dd_22_1 (by decide) (by decide) (by decide) rfl (by decide) ?_
  refine g_aload_n (i := 0) dd_22_296 rfl ?_
  refine g_getfield (k := 1) am_ck6 (by decide) (Or.inl w_37) dd_22_297 (rx4_g2 hH) rfl ?_
  refine g_iconst dd_22_300 ic_3 ?_
  by_cases hNn : N = 3
  · refine g_icmp_ne_f (t := 355) dd_22_301 (by decide) (tk_ne_f (by omega)) ?_
    refine g_aload_n (i := 0) dd_22_304 rfl ?_
    refine g_iconst dd_22_305 ic_0 ?_
    refine g_iconst dd_22_306 ic_0 ?_
    refine g_bipush dd_22_307 bi_7 ?_
    by_cases hw0 : 0 < N ∧ 0 ≤ am_ag nr 0 ∧ am_ag nr 0 ≤ 7
    · refine g_virtual (M' := mi_24) (n := 3) (ci := 6) (b := 2) (as := [.retAddr 0, .retAddr 0, .retAddr 7]) (st := []) (r1 := (some (.retAddr 1), (rx4 h tx N nr mi go z1 c1 z2 c2 z3 c3 z4 c4 z5 c5 z6 c6))) w_419 w_421 ps_24 ⟨lk_24.1, lk_24.2.1, lk_24.2.2, by decide, by decide⟩ rfl (rx4_g2 hH) rfl (by simp [Value.category]) dd_22_309 (x4_wi1 hH hN h5 (by decide) (by decide) (by decide) hw0) ?_
      show am_Good mi_22 312 [some (.ref 2), some (.retAddr 102), some (.ref 4)] [.retAddr 1] (rx4 h tx N nr mi go z1 c1 z2 c2 z3 c3 z4 c4 z5 c5 z6 c6) _
      refine g_if_eq_f (t := 355) dd_22_312 (by decide) (by decide) ?_
      refine g_aload_n (i := 0) dd_22_315 rfl ?_
      refine g_iconst dd_22_316 ic_1 ?_
      refine g_iconst dd_22_317 ic_0 ?_
      refine g_bipush dd_22_318 bi_7 ?_
      by_cases hw1 : 1 < N ∧ 0 ≤ am_ag nr 1 ∧ am_ag nr 1 ≤ 7
      · refine g_virtual (M' := mi_24) (n := 3) (ci := 6) (b := 2) (as := [.retAddr 1, .retAddr 0, .retAddr 7]) (st := []) (r1 := (some (.retAddr 1), (rx4 h tx N nr mi go z1 c1 z2 c2 z3 c3 z4 c4 z5 c5 z6 c6))) w_419 w_421 ps_24 ⟨lk_24.1, lk_24.2.1, lk_24.2.2, by decide, by decide⟩ rfl (rx4_g2 hH) rfl (by simp [Value.category]) dd_22_320 (x4_wi1 hH hN h5 (by decide) (by decide) (by decide) hw1) ?_
        show am_Good mi_22 323 [some (.ref 2), some (.retAddr 102), some (.ref 4)] [.retAddr 1] (rx4 h tx N nr mi go z1 c1 z2 c2 z3 c3 z4 c4 z5 c5 z6 c6) _
        refine g_if_eq_f (t := 355) dd_22_323 (by decide) (by decide) ?_
        refine g_aload_n (i := 0) dd_22_326 rfl ?_
        refine g_iconst dd_22_327 ic_2 ?_
        refine g_iconst dd_22_328 ic_0 ?_
        refine g_bipush dd_22_329 bi_7 ?_
        by_cases hw2 : 2 < N ∧ 0 ≤ am_ag nr 2 ∧ am_ag nr 2 ≤ 7
        · refine g_virtual (M' := mi_24) (n := 3) (ci := 6) (b := 2) (as := [.retAddr 2, .retAddr 0, .retAddr 7]) (st := []) (r1 := (some (.retAddr 1), (rx4 h tx N nr mi go z1 c1 z2 c2 z3 c3 z4 c4 z5 c5 z6 c6))) w_419 w_421 ps_24 ⟨lk_24.1, lk_24.2.1, lk_24.2.2, by decide, by decide⟩ rfl (rx4_g2 hH) rfl (by simp [Value.category]) dd_22_331 (x4_wi1 hH hN h5 (by decide) (by decide) (by decide) hw2) ?_
          show am_Good mi_22 334 [some (.ref 2), some (.retAddr 102), some (.ref 4)] [.retAddr 1] (rx4 h tx N nr mi go z1 c1 z2 c2 z3 c3 z4 c4 z5 c5 z6 c6) _
          refine g_if_eq_f (t := 355) dd_22_334 (by decide) (by decide) ?_
          refine g_aload_n (i := 2) dd_22_337 rfl ?_
          refine g_getfield (k := 4) am_ck1 (by decide) (Or.inr ⟨_, w_100⟩) dd_22_338 (rx4_g4 hH) rfl ?_
          refine g_aload_n (i := 0) dd_22_341 rfl ?_
          refine g_getfield (k := 0) am_ck6 (by decide) (Or.inl w_36) dd_22_342 (rx4_g2 hH) rfl ?_
          by_cases had : z5 < 6
          · exfalso
            omega
          · refine g_virtual (M' := mi_26) (n := 1) (ci := 8) (b := 13) (as := [.ref 3]) (st := []) (r1 := (some (.retAddr 0), (rx4 h tx N nr mi go z1 c1 z2 c2 z3 c3 z4 c4 z5 c5 z6 c6))) w_427 w_428 w_429 ⟨lk_26.1, lk_26.2.1, lk_26.2.2, by decide, by decide⟩ rfl (rx4_g13 hH) rfl (by simp [Value.category]) dd_22_345 (x4_ad40 hH had (by omega)) ?_
            show am_Good mi_22 348 [some (.ref 2), some (.retAddr 102), some (.ref 4)] [.retAddr 0] (rx4 h tx N nr mi go z1 c1 z2 c2 z3 c3 z4 c4 z5 c5 z6 c6) _
            refine g_if_eq_t (t := 355) dd_22_348 (by decide) (by decide) ?_
            refine g_iconst dd_22_355 ic_0 ?_
            exact g_zreturn rfl (by first | decide | omega) dd_22_356
        · refine g_virtual (M' := mi_24) (n := 3) (ci := 6) (b := 2) (as := [.retAddr 2, .retAddr 0, .retAddr 7]) (st := []) (r1 := (some (.retAddr 0), (rx4 h tx N nr mi go z1 c1 z2 c2 z3 c3 z4 c4 z5 c5 z6 c6))) w_419 w_421 ps_24 ⟨lk_24.1, lk_24.2.1, lk_24.2.2, by decide, by decide⟩ rfl (rx4_g2 hH) rfl (by simp [Value.category]) dd_22_331 (x4_wi0 hH hN h5 (by decide) (by decide) (by decide) hw2) ?_
          show am_Good mi_22 334 [some (.ref 2), some (.retAddr 102), some (.ref 4)] [.retAddr 0] (rx4 h tx N nr mi go z1 c1 z2 c2 z3 c3 z4 c4 z5 c5 z6 c6) _
          refine g_if_eq_t (t := 355) dd_22_334 (by decide) (by decide) ?_
          refine g_iconst dd_22_355 ic_0 ?_
          exact g_zreturn rfl (by first | decide | omega) dd_22_356
      · refine g_virtual (M' := mi_24) (n := 3) (ci := 6) (b := 2) (as := [.retAddr 1, .retAddr 0, .retAddr 7]) (st := []) (r1 := (some (.retAddr 0), (rx4 h tx N nr mi go z1 c1 z2 c2 z3 c3 z4 c4 z5 c5 z6 c6))) w_419 w_421 ps_24 ⟨lk_24.1, lk_24.2.1, lk_24.2.2, by decide, by decide⟩ rfl (rx4_g2 hH) rfl (by simp [Value.category]) dd_22_320 (x4_wi0 hH hN h5 (by decide) (by decide) (by decide) hw1) ?_
        show am_Good mi_22 323 [some (.ref 2), some (.retAddr 102), some (.ref 4)] [.retAddr 0] (rx4 h tx N nr mi go z1 c1 z2 c2 z3 c3 z4 c4 z5 c5 z6 c6) _
        refine g_if_eq_t (t := 355) dd_22_323 (by decide) (by decide) ?_
        refine g_iconst dd_22_355 ic_0 ?_
        exact g_zreturn rfl (by first | decide | omega) dd_22_356
    · refine g_virtual (M' := mi_24) (n := 3) (ci := 6) (b := 2) (as := [.retAddr 0, .retAddr 0, .retAddr 7]) (st := []) (r1 := (some (.retAddr 0), (rx4 h tx N nr mi go z1 c1 z2 c2 z3 c3 z4 c4 z5 c5 z6 c6))) w_419 w_421 ps_24 ⟨lk_24.1, lk_24.2.1, lk_24.2.2, by decide, by decide⟩ rfl (rx4_g2 hH) rfl (by simp [Value.category]) dd_22_309 (x4_wi0 hH hN h5 (by decide) (by decide) (by decide) hw0) ?_
      show am_Good mi_22 312 [some (.ref 2), some (.retAddr 102), some (.ref 4)] [.retAddr 0] (rx4 h tx N nr mi go z1 c1 z2 c2 z3 c3 z4 c4 z5 c5 z6 c6) _
      refine g_if_eq_t (t := 355) dd_22_312 (by decide) (by decide) ?_
      refine g_iconst dd_22_355 ic_0 ?_
      exact g_zreturn rfl (by first | decide | omega) dd_22_356
  · refine g_icmp_ne_t (t := 355) dd_22_301 (by decide) (tk_ne_t (by omega)) ?_
    refine g_iconst dd_22_355 ic_0 ?_
    exact g_zreturn rfl (by first | decide | omega) dd_22_356
theorem x4_t119_1 {h : am_H} {tx N nr mi go z1 c1 z2 c2 z3 c3 z4 c4 z5 c5 z6 c6 : Nat} (hH : rx4_ok h) (hN : N ≤ 5) (h5 : ∀ j, j < 5 → am_ag nr j ≤ 99) (hz1 : z1 ≤ 4) (hz2 : z2 ≤ 9) (hz3 : z3 ≤ 6) (hz4 : z4 ≤ 4) (hz5 : z5 ≤ 6) (hz6 : z6 ≤ 4) (hc : (N = 2 ∧ am_ag nr 0 ≤ 3 ∧ am_ag nr 1 < z1 ∧ z6 < 4)) : am_EG mi_22 [.ref 2, .retAddr 119, .ref 4] (rx4 h tx N nr mi go z1 c1 z2 c2 z3 c3 z4 c4 z5 c5 z6 c6) (some (.retAddr 1), (rx4 h tx N nr mi go z1 c1 z2 c2 z3 c3 z4 c4 z5 c5 (z6 + 1) (am_cp nr c6 0 (z6 * 2) 2))) := by
  refine am_enter (n := 0) tk_22.2.1 (by simp [Value.category]) (Nat.le_of_ble_eq_true rfl) ?_
  show am_Good mi_22 0 [some (.ref 2), some (.retAddr 119), some (.ref 4)] [] (rx4 h tx N nr mi go z1 c1 z2 c2 z3 c3 z4 c4 z5 c5 z6 c6) _
  have hb0 := h5 0 (by decide)
  have hb1 := h5 1 (by decide)
  have hb2 := h5 2 (by decide)
  have hb3 := h5 3 (by decide)
  have hb4 := h5 4 (by decide)
  refine g_iload_n (i := 1) dd_22_0 rfl ?_
  refine g_tableIn (a := 119) (off := 356) (t := 357) dd_22_1 (by decide) (by decide) (by decide) rfl (by decide) ?_
  refine g_aload_n (i := 0) dd_22_357 rfl ?_
  refine g_getfield (k := 1) am_ck6 (by decide) (Or.inl w_37) dd_22_358 (rx4_g2 hH) rfl ?_
  refine g_iconst dd_22_361 ic_2 ?_
  refine g_icmp_ne_f (t := 411) dd_22_362 (by decide) (tk_ne_f (by omega)) ?_
  refine g_aload_n (i := 0) dd_22_365 rfl ?_
  refine g_iconst dd_22_366 ic_0 ?_
  refine g_iconst dd_22_367 ic_0 ?_
  refine g_iconst dd_22_368 ic_3 ?_
  refine g_virtual (M' := mi_24) (n := 3) (ci := 6) (b := 2) (as := [.retAddr 0, .retAddr 0, .retAddr 3]) (st := []) (r1 := (some (.retAddr 1), (rx4 h tx N nr mi go z1 c1 z2 c2 z3 c3 z4 c4 z5 c5 z6 c6))) w_419 w_421 ps_24 ⟨lk_24.1, lk_24.2.1, lk_24.2.2, by decide, by decide⟩ rfl (rx4_g2 hH) rfl (by simp [Value.category]) dd_22_369 (x4_wi1 hH hN h5 (by decide) (by decide) (by decide) (by omega)) ?_
  show am_Good mi_22 372 [some (.ref 2), some (.retAddr 119), some (.ref 4)] [.retAddr 1] (rx4 h tx N nr mi go z1 c1 z2 c2 z3 c3 z4 c4 z5 c5 z6 c6) _
  refine g_if_eq_f (t := 411) dd_22_372 (by decide) (by decide) ?_
  refine g_aload_n (i := 0) dd_22_375 rfl ?_
  refine g_iconst dd_22_376 ic_1 ?_
  refine g_iconst dd_22_377 ic_0 ?_
  refine g_aload_n (i := 2) dd_22_378 rfl ?_
  refine g_getfield (k := 0) am_ck1 (by decide) (Or.inr ⟨_, w_85⟩) dd_22_379 (rx4_g4 hH) rfl ?_
  refine g_getfield (k := 3) am_ck8 (by decide) (Or.inr ⟨_, w_69⟩) dd_22_382 (rx4_g5 hH) rfl ?_
  refine g_iconst dd_22_385 ic_1 ?_
  refine e_isub (v := (z1 + 4294967295) % 4294967296) dd_22_386 (by omega) ?_
  refine g_virtual (M' := mi_24) (n := 3) (ci := 6) (b := 2) (as := [.retAddr 1, .retAddr 0, .retAddr ((z1 + 4294967295) % 4294967296)]) (st := []) (r1 := (some (.retAddr 1), (rx4 h tx N nr mi go z1 c1 z2 c2 z3 c3 z4 c4 z5 c5 z6 c6))) w_419 w_421 ps_24 ⟨lk_24.1, lk_24.2.1, lk_24.2.2, by decide, by decide⟩ rfl (rx4_g2 hH) rfl (by simp [Value.category]) dd_22_387 (x4_wz1 hH hN h5 hz1 (by decide) (by decide) (by omega)) ?_
  show am_Good mi_22 390 [some (.ref 2), some (.retAddr 119), some (.ref 4)] [.retAddr 1] (rx4 h tx N nr mi go z1 c1 z2 c2 z3 c3 z4 c4 z5 c5 z6 c6) _
  refine g_if_eq_f (t := 411) dd_22_390 (by decide) (by decide) ?_
  refine g_aload_n (i := 2) dd_22_393 rfl ?_
  refine g_getfield (k := 5) am_ck1 (by decide) (Or.inr ⟨_, w_103⟩) dd_22_394 (rx4_g4 hH) rfl ?_
  refine g_aload_n (i := 0) dd_22_397 rfl ?_
  refine g_getfield (k := 0) am_ck6 (by decide) (Or.inl w_36) dd_22_398 (rx4_g2 hH) rfl ?_
  refine g_virtual (M' := mi_26) (n := 1) (ci := 8) (b := 15) (as := [.ref 3]) (st := []) (r1 := (some (.retAddr 1), (rx4 h tx N nr mi go z1 c1 z2 c2 z3 c3 z4 c4 z5 c5 (z6 + 1) (am_cp nr c6 0 (z6 * 2) 2)))) w_427 w_428 w_429 ⟨lk_26.1, lk_26.2.1, lk_26.2.2, by decide, by decide⟩ rfl (rx4_g15 hH) rfl (by simp [Value.category]) dd_22_401 (x4_ad51 hH (by omega)) ?_
  show am_Good mi_22 404 [some (.ref 2), some (.retAddr 119), some (.ref 4)] [.retAddr 1] (rx4 h tx N nr mi go z1 c1 z2 c2 z3 c3 z4 c4 z5 c5 (z6 + 1) (am_cp nr c6 0 (z6 * 2) 2)) _
  refine g_if_eq_f (t := 411) dd_22_404 (by decide) (by decide) ?_
  refine g_iconst dd_22_407 ic_1 ?_
  refine g_goto (t := 412) dd_22_408 (by decide) ?_
  exact g_zreturn rfl (by first | decide | omega) dd_22_412
theorem x4_t119_0 {h : am_H} {tx N nr mi go z1 c1 z2 c2 z3 c3 z4 c4 z5 c5 z6 c6 : Nat} (hH : rx4_ok h) (hN : N ≤ 5) (h5 : ∀ j, j < 5 → am_ag nr j ≤ 99) (hz1 : z1 ≤ 4) (hz2 : z2 ≤ 9) (hz3 : z3 ≤ 6) (hz4 : z4 ≤ 4) (hz5 : z5 ≤ 6) (hz6 : z6 ≤ 4) (hc : ¬ (N = 2 ∧ am_ag nr 0 ≤ 3 ∧ am_ag nr 1 < z1 ∧ z6 < 4)) : am_EG mi_22 [.ref 2, .retAddr 119, .ref 4] (rx4 h tx N nr mi go z1 c1 z2 c2 z3 c3 z4 c4 z5 c5 z6 c6) (some (.retAddr 0), (rx4 h tx N nr mi go z1 c1 z2 c2 z3 c3 z4 c4 z5 c5 z6 c6)) := by
  refine am_enter (n := 0) tk_22.2.1 (by simp [Value.category]) (Nat.le_of_ble_eq_true rfl) ?_
  show am_Good mi_22 0 [some (.ref 2), some (.retAddr 119), some (.ref 4)] [] (rx4 h tx N nr mi go z1 c1 z2 c2 z3 c3 z4 c4 z5 c5 z6 c6) _
  have hb0 := h5 0 (by decide)
  have hb1 := h5 1 (by decide)
  have hb2 := h5 2 (by decide)
  have hb3 := h5 3 (by decide)
  have hb4 := h5 4 (by decide)
  refine g_iload_n (i := 1) dd_22_0 rfl ?_
  refine g_tableIn (a := 119) (off := 356) (t := 357) dd_22_1 (by decide) (by decide) (by decide) rfl (by decide) ?_
  refine g_aload_n (i := 0) dd_22_357 rfl ?_
  refine g_getfield (k := 1) am_ck6 (by decide) (Or.inl w_37) dd_22_358 (rx4_g2 hH) rfl ?_
  refine g_iconst dd_22_361 ic_2 ?_
  by_cases hNn : N = 2
  · refine g_icmp_ne_f (t := 411) dd_22_362 (by decide) (tk_ne_f (by omega)) ?_
    refine g_aload_n (i := 0) dd_22_365 rfl ?_
    refine g_iconst dd_22_366 ic_0 ?_
    refine g_iconst dd_22_367 ic_0 ?_
    refine g_iconst dd_22_368 ic_3 ?_
    by_cases hw0 : 0 < N ∧ 0 ≤ am_ag nr 0 ∧ am_ag nr 0 ≤ 3
    · refine g_virtual (M' := mi_24) (n := 3) (ci := 6) (b := 2) (as := [.retAddr 0, .retAddr 0, .retAddr 3]) (st := []) (r1 := (some (.retAddr 1), (rx4 h tx N nr mi go z1 c1 z2 c2 z3 c3 z4 c4 z5 c5 z6 c6))) w_419 w_421 ps_24 ⟨lk_24.1, lk_24.2.1, lk_24.2.2, by decide, by decide⟩ rfl (rx4_g2 hH) rfl (by simp [Value.category]) dd_22_369 (x4_wi1 hH hN h5 (by decide) (by decide) (by decide) hw0) ?_
      show am_Good mi_22 372 [some (.ref 2), some (.retAddr 119), some (.ref 4)] [.retAddr 1] (rx4 h tx N nr mi go z1 c1 z2 c2 z3 c3 z4 c4 z5 c5 z6 c6) _
      refine g_if_eq_f (t := 411) dd_22_372 (by decide) (by decide) ?_
      refine g_aload_n (i := 0) dd_22_375 rfl ?_
      refine g_iconst dd_22_376 ic_1 ?_
      refine g_iconst dd_22_377 ic_0 ?_
      refine g_aload_n (i := 2) dd_22_378 rfl ?_
      refine g_getfield (k := 0) am_ck1 (by decide) (Or.inr ⟨_, w_85⟩) dd_22_379 (rx4_g4 hH) rfl ?_
      refine g_getfield (k := 3) am_ck8 (by decide) (Or.inr ⟨_, w_69⟩) dd_22_382 (rx4_g5 hH) rfl ?_
      refine g_iconst dd_22_385 ic_1 ?_
      refine e_isub (v := (z1 + 4294967295) % 4294967296) dd_22_386 (by omega) ?_
      by_cases hw1 : 1 < N ∧ 0 ≤ am_ag nr 1 ∧ am_ag nr 1 < z1
      · refine g_virtual (M' := mi_24) (n := 3) (ci := 6) (b := 2) (as := [.retAddr 1, .retAddr 0, .retAddr ((z1 + 4294967295) % 4294967296)]) (st := []) (r1 := (some (.retAddr 1), (rx4 h tx N nr mi go z1 c1 z2 c2 z3 c3 z4 c4 z5 c5 z6 c6))) w_419 w_421 ps_24 ⟨lk_24.1, lk_24.2.1, lk_24.2.2, by decide, by decide⟩ rfl (rx4_g2 hH) rfl (by simp [Value.category]) dd_22_387 (x4_wz1 hH hN h5 hz1 (by decide) (by decide) hw1) ?_
        show am_Good mi_22 390 [some (.ref 2), some (.retAddr 119), some (.ref 4)] [.retAddr 1] (rx4 h tx N nr mi go z1 c1 z2 c2 z3 c3 z4 c4 z5 c5 z6 c6) _
        refine g_if_eq_f (t := 411) dd_22_390 (by decide) (by decide) ?_
        refine g_aload_n (i := 2) dd_22_393 rfl ?_
        refine g_getfield (k := 5) am_ck1 (by decide) (Or.inr ⟨_, w_103⟩) dd_22_394 (rx4_g4 hH) rfl ?_
        refine g_aload_n (i := 0) dd_22_397 rfl ?_
        refine g_getfield (k := 0) am_ck6 (by decide) (Or.inl w_36) dd_22_398 (rx4_g2 hH) rfl ?_
        by_cases had : z6 < 4
        · exfalso
          omega
        · refine g_virtual (M' := mi_26) (n := 1) (ci := 8) (b := 15) (as := [.ref 3]) (st := []) (r1 := (some (.retAddr 0), (rx4 h tx N nr mi go z1 c1 z2 c2 z3 c3 z4 c4 z5 c5 z6 c6))) w_427 w_428 w_429 ⟨lk_26.1, lk_26.2.1, lk_26.2.2, by decide, by decide⟩ rfl (rx4_g15 hH) rfl (by simp [Value.category]) dd_22_401 (x4_ad50 hH had (by omega)) ?_
          show am_Good mi_22 404 [some (.ref 2), some (.retAddr 119), some (.ref 4)] [.retAddr 0] (rx4 h tx N nr mi go z1 c1 z2 c2 z3 c3 z4 c4 z5 c5 z6 c6) _
          refine g_if_eq_t (t := 411) dd_22_404 (by decide) (by decide) ?_
          refine g_iconst dd_22_411 ic_0 ?_
          exact g_zreturn rfl (by first | decide | omega) dd_22_412
      · refine g_virtual (M' := mi_24) (n := 3) (ci := 6) (b := 2) (as := [.retAddr 1, .retAddr 0, .retAddr ((z1 + 4294967295) % 4294967296)]) (st := []) (r1 := (some (.retAddr 0), (rx4 h tx N nr mi go z1 c1 z2 c2 z3 c3 z4 c4 z5 c5 z6 c6))) w_419 w_421 ps_24 ⟨lk_24.1, lk_24.2.1, lk_24.2.2, by decide, by decide⟩ rfl (rx4_g2 hH) rfl (by simp [Value.category]) dd_22_387 (x4_wz0 hH hN h5 hz1 (by decide) (by decide) hw1) ?_
        show am_Good mi_22 390 [some (.ref 2), some (.retAddr 119), some (.ref 4)] [.retAddr 0] (rx4 h tx N nr mi go z1 c1 z2 c2 z3 c3 z4 c4 z5 c5 z6 c6) _
        refine g_if_eq_t (t := 411) dd_22_390 (by decide) (by decide) ?_
        refine g_iconst dd_22_411 ic_0 ?_
        exact g_zreturn rfl (by first | decide | omega) dd_22_412
    · refine g_virtual (M' := mi_24) (n := 3) (ci := 6) (b := 2) (as := [.retAddr 0, .retAddr 0, .retAddr 3]) (st := []) (r1 := (some (.retAddr 0), (rx4 h tx N nr mi go z1 c1 z2 c2 z3 c3 z4 c4 z5 c5 z6 c6))) w_419 w_421 ps_24 ⟨lk_24.1, lk_24.2.1, lk_24.2.2, by decide, by decide⟩ rfl (rx4_g2 hH) rfl (by simp [Value.category]) dd_22_369 (x4_wi0 hH hN h5 (by decide) (by decide) (by decide) hw0) ?_
      show am_Good mi_22 372 [some (.ref 2), some (.retAddr 119), some (.ref 4)] [.retAddr 0] (rx4 h tx N nr mi go z1 c1 z2 c2 z3 c3 z4 c4 z5 c5 z6 c6) _
      refine g_if_eq_t (t := 411) dd_22_372 (by decide) (by decide) ?_
      refine g_iconst dd_22_411 ic_0 ?_
      exact g_zreturn rfl (by first | decide | omega) dd_22_412
  · refine g_icmp_ne_t (t := 411) dd_22_362 (by decide) (tk_ne_t (by omega)) ?_
    refine g_iconst dd_22_411 ic_0 ?_
    exact g_zreturn rfl (by first | decide | omega) dd_22_412
theorem x4_t99 {h : am_H} {tx N nr mi go z1 c1 z2 c2 z3 c3 z4 c4 z5 c5 z6 c6 : Nat} (hH : rx4_ok h) : am_EG mi_22 [.ref 2, .retAddr 99, .ref 4] (rx4 h tx N nr mi go z1 c1 z2 c2 z3 c3 z4 c4 z5 c5 z6 c6) (some (.retAddr 0), (rx4 h tx N nr mi go z1 c1 z2 c2 z3 c3 z4 c4 z5 c5 z6 c6)) := by
  refine am_enter (n := 0) tk_22.2.1 (by simp [Value.category]) (Nat.le_of_ble_eq_true rfl) ?_
  show am_Good mi_22 0 [some (.ref 2), some (.retAddr 99), some (.ref 4)] [] (rx4 h tx N nr mi go z1 c1 z2 c2 z3 c3 z4 c4 z5 c5 z6 c6) _
  refine g_iload_n (i := 1) dd_22_0 rfl ?_
  refine g_tableIn (a := 99) (off := 412) (t := 413) dd_22_1 (by decide) (by decide) (by decide) rfl (by decide) ?_
  refine g_iconst dd_22_413 ic_0 ?_
  exact g_zreturn rfl (by first | decide | omega) dd_22_414
theorem x4_t100 {h : am_H} {tx N nr mi go z1 c1 z2 c2 z3 c3 z4 c4 z5 c5 z6 c6 : Nat} (hH : rx4_ok h) : am_EG mi_22 [.ref 2, .retAddr 100, .ref 4] (rx4 h tx N nr mi go z1 c1 z2 c2 z3 c3 z4 c4 z5 c5 z6 c6) (some (.retAddr 0), (rx4 h tx N nr mi go z1 c1 z2 c2 z3 c3 z4 c4 z5 c5 z6 c6)) := by
  refine am_enter (n := 0) tk_22.2.1 (by simp [Value.category]) (Nat.le_of_ble_eq_true rfl) ?_
  show am_Good mi_22 0 [some (.ref 2), some (.retAddr 100), some (.ref 4)] [] (rx4 h tx N nr mi go z1 c1 z2 c2 z3 c3 z4 c4 z5 c5 z6 c6) _
  refine g_iload_n (i := 1) dd_22_0 rfl ?_
  refine g_tableIn (a := 100) (off := 412) (t := 413) dd_22_1 (by decide) (by decide) (by decide) rfl (by decide) ?_
  refine g_iconst dd_22_413 ic_0 ?_
  exact g_zreturn rfl (by first | decide | omega) dd_22_414
theorem x4_t101 {h : am_H} {tx N nr mi go z1 c1 z2 c2 z3 c3 z4 c4 z5 c5 z6 c6 : Nat} (hH : rx4_ok h) : am_EG mi_22 [.ref 2, .retAddr 101, .ref 4] (rx4 h tx N nr mi go z1 c1 z2 c2 z3 c3 z4 c4 z5 c5 z6 c6) (some (.retAddr 0), (rx4 h tx N nr mi go z1 c1 z2 c2 z3 c3 z4 c4 z5 c5 z6 c6)) := by
  refine am_enter (n := 0) tk_22.2.1 (by simp [Value.category]) (Nat.le_of_ble_eq_true rfl) ?_
  show am_Good mi_22 0 [some (.ref 2), some (.retAddr 101), some (.ref 4)] [] (rx4 h tx N nr mi go z1 c1 z2 c2 z3 c3 z4 c4 z5 c5 z6 c6) _
  refine g_iload_n (i := 1) dd_22_0 rfl ?_
  refine g_tableIn (a := 101) (off := 412) (t := 413) dd_22_1 (by decide) (by decide) (by decide) rfl (by decide) ?_
  refine g_iconst dd_22_413 ic_0 ?_
  exact g_zreturn rfl (by first | decide | omega) dd_22_414
theorem x4_t104 {h : am_H} {tx N nr mi go z1 c1 z2 c2 z3 c3 z4 c4 z5 c5 z6 c6 : Nat} (hH : rx4_ok h) : am_EG mi_22 [.ref 2, .retAddr 104, .ref 4] (rx4 h tx N nr mi go z1 c1 z2 c2 z3 c3 z4 c4 z5 c5 z6 c6) (some (.retAddr 0), (rx4 h tx N nr mi go z1 c1 z2 c2 z3 c3 z4 c4 z5 c5 z6 c6)) := by
  refine am_enter (n := 0) tk_22.2.1 (by simp [Value.category]) (Nat.le_of_ble_eq_true rfl) ?_
  show am_Good mi_22 0 [some (.ref 2), some (.retAddr 104), some (.ref 4)] [] (rx4 h tx N nr mi go z1 c1 z2 c2 z3 c3 z4 c4 z5 c5 z6 c6) _
  refine g_iload_n (i := 1) dd_22_0 rfl ?_
  refine g_tableIn (a := 104) (off := 412) (t := 413) dd_22_1 (by decide) (by decide) (by decide) rfl (by decide) ?_
  refine g_iconst dd_22_413 ic_0 ?_
  exact g_zreturn rfl (by first | decide | omega) dd_22_414
theorem x4_t105 {h : am_H} {tx N nr mi go z1 c1 z2 c2 z3 c3 z4 c4 z5 c5 z6 c6 : Nat} (hH : rx4_ok h) : am_EG mi_22 [.ref 2, .retAddr 105, .ref 4] (rx4 h tx N nr mi go z1 c1 z2 c2 z3 c3 z4 c4 z5 c5 z6 c6) (some (.retAddr 0), (rx4 h tx N nr mi go z1 c1 z2 c2 z3 c3 z4 c4 z5 c5 z6 c6)) := by
  refine am_enter (n := 0) tk_22.2.1 (by simp [Value.category]) (Nat.le_of_ble_eq_true rfl) ?_
  show am_Good mi_22 0 [some (.ref 2), some (.retAddr 105), some (.ref 4)] [] (rx4 h tx N nr mi go z1 c1 z2 c2 z3 c3 z4 c4 z5 c5 z6 c6) _
  refine g_iload_n (i := 1) dd_22_0 rfl ?_
  refine g_tableIn (a := 105) (off := 412) (t := 413) dd_22_1 (by decide) (by decide) (by decide) rfl (by decide) ?_
  refine g_iconst dd_22_413 ic_0 ?_
  exact g_zreturn rfl (by first | decide | omega) dd_22_414
theorem x4_t106 {h : am_H} {tx N nr mi go z1 c1 z2 c2 z3 c3 z4 c4 z5 c5 z6 c6 : Nat} (hH : rx4_ok h) : am_EG mi_22 [.ref 2, .retAddr 106, .ref 4] (rx4 h tx N nr mi go z1 c1 z2 c2 z3 c3 z4 c4 z5 c5 z6 c6) (some (.retAddr 0), (rx4 h tx N nr mi go z1 c1 z2 c2 z3 c3 z4 c4 z5 c5 z6 c6)) := by
  refine am_enter (n := 0) tk_22.2.1 (by simp [Value.category]) (Nat.le_of_ble_eq_true rfl) ?_
  show am_Good mi_22 0 [some (.ref 2), some (.retAddr 106), some (.ref 4)] [] (rx4 h tx N nr mi go z1 c1 z2 c2 z3 c3 z4 c4 z5 c5 z6 c6) _
  refine g_iload_n (i := 1) dd_22_0 rfl ?_
  refine g_tableIn (a := 106) (off := 412) (t := 413) dd_22_1 (by decide) (by decide) (by decide) rfl (by decide) ?_
  refine g_iconst dd_22_413 ic_0 ?_
  exact g_zreturn rfl (by first | decide | omega) dd_22_414
theorem x4_t107 {h : am_H} {tx N nr mi go z1 c1 z2 c2 z3 c3 z4 c4 z5 c5 z6 c6 : Nat} (hH : rx4_ok h) : am_EG mi_22 [.ref 2, .retAddr 107, .ref 4] (rx4 h tx N nr mi go z1 c1 z2 c2 z3 c3 z4 c4 z5 c5 z6 c6) (some (.retAddr 0), (rx4 h tx N nr mi go z1 c1 z2 c2 z3 c3 z4 c4 z5 c5 z6 c6)) := by
  refine am_enter (n := 0) tk_22.2.1 (by simp [Value.category]) (Nat.le_of_ble_eq_true rfl) ?_
  show am_Good mi_22 0 [some (.ref 2), some (.retAddr 107), some (.ref 4)] [] (rx4 h tx N nr mi go z1 c1 z2 c2 z3 c3 z4 c4 z5 c5 z6 c6) _
  refine g_iload_n (i := 1) dd_22_0 rfl ?_
  refine g_tableIn (a := 107) (off := 412) (t := 413) dd_22_1 (by decide) (by decide) (by decide) rfl (by decide) ?_
  refine g_iconst dd_22_413 ic_0 ?_
  exact g_zreturn rfl (by first | decide | omega) dd_22_414
theorem x4_t108 {h : am_H} {tx N nr mi go z1 c1 z2 c2 z3 c3 z4 c4 z5 c5 z6 c6 : Nat} (hH : rx4_ok h) : am_EG mi_22 [.ref 2, .retAddr 108, .ref 4] (rx4 h tx N nr mi go z1 c1 z2 c2 z3 c3 z4 c4 z5 c5 z6 c6) (some (.retAddr 0), (rx4 h tx N nr mi go z1 c1 z2 c2 z3 c3 z4 c4 z5 c5 z6 c6)) := by
  refine am_enter (n := 0) tk_22.2.1 (by simp [Value.category]) (Nat.le_of_ble_eq_true rfl) ?_
  show am_Good mi_22 0 [some (.ref 2), some (.retAddr 108), some (.ref 4)] [] (rx4 h tx N nr mi go z1 c1 z2 c2 z3 c3 z4 c4 z5 c5 z6 c6) _
  refine g_iload_n (i := 1) dd_22_0 rfl ?_
  refine g_tableIn (a := 108) (off := 412) (t := 413) dd_22_1 (by decide) (by decide) (by decide) rfl (by decide) ?_
  refine g_iconst dd_22_413 ic_0 ?_
  exact g_zreturn rfl (by first | decide | omega) dd_22_414
theorem x4_t111 {h : am_H} {tx N nr mi go z1 c1 z2 c2 z3 c3 z4 c4 z5 c5 z6 c6 : Nat} (hH : rx4_ok h) : am_EG mi_22 [.ref 2, .retAddr 111, .ref 4] (rx4 h tx N nr mi go z1 c1 z2 c2 z3 c3 z4 c4 z5 c5 z6 c6) (some (.retAddr 0), (rx4 h tx N nr mi go z1 c1 z2 c2 z3 c3 z4 c4 z5 c5 z6 c6)) := by
  refine am_enter (n := 0) tk_22.2.1 (by simp [Value.category]) (Nat.le_of_ble_eq_true rfl) ?_
  show am_Good mi_22 0 [some (.ref 2), some (.retAddr 111), some (.ref 4)] [] (rx4 h tx N nr mi go z1 c1 z2 c2 z3 c3 z4 c4 z5 c5 z6 c6) _
  refine g_iload_n (i := 1) dd_22_0 rfl ?_
  refine g_tableIn (a := 111) (off := 412) (t := 413) dd_22_1 (by decide) (by decide) (by decide) rfl (by decide) ?_
  refine g_iconst dd_22_413 ic_0 ?_
  exact g_zreturn rfl (by first | decide | omega) dd_22_414
theorem x4_t112 {h : am_H} {tx N nr mi go z1 c1 z2 c2 z3 c3 z4 c4 z5 c5 z6 c6 : Nat} (hH : rx4_ok h) : am_EG mi_22 [.ref 2, .retAddr 112, .ref 4] (rx4 h tx N nr mi go z1 c1 z2 c2 z3 c3 z4 c4 z5 c5 z6 c6) (some (.retAddr 0), (rx4 h tx N nr mi go z1 c1 z2 c2 z3 c3 z4 c4 z5 c5 z6 c6)) := by
  refine am_enter (n := 0) tk_22.2.1 (by simp [Value.category]) (Nat.le_of_ble_eq_true rfl) ?_
  show am_Good mi_22 0 [some (.ref 2), some (.retAddr 112), some (.ref 4)] [] (rx4 h tx N nr mi go z1 c1 z2 c2 z3 c3 z4 c4 z5 c5 z6 c6) _
  refine g_iload_n (i := 1) dd_22_0 rfl ?_
  refine g_tableIn (a := 112) (off := 412) (t := 413) dd_22_1 (by decide) (by decide) (by decide) rfl (by decide) ?_
  refine g_iconst dd_22_413 ic_0 ?_
  exact g_zreturn rfl (by first | decide | omega) dd_22_414
theorem x4_t113 {h : am_H} {tx N nr mi go z1 c1 z2 c2 z3 c3 z4 c4 z5 c5 z6 c6 : Nat} (hH : rx4_ok h) : am_EG mi_22 [.ref 2, .retAddr 113, .ref 4] (rx4 h tx N nr mi go z1 c1 z2 c2 z3 c3 z4 c4 z5 c5 z6 c6) (some (.retAddr 0), (rx4 h tx N nr mi go z1 c1 z2 c2 z3 c3 z4 c4 z5 c5 z6 c6)) := by
  refine am_enter (n := 0) tk_22.2.1 (by simp [Value.category]) (Nat.le_of_ble_eq_true rfl) ?_
  show am_Good mi_22 0 [some (.ref 2), some (.retAddr 113), some (.ref 4)] [] (rx4 h tx N nr mi go z1 c1 z2 c2 z3 c3 z4 c4 z5 c5 z6 c6) _
  refine g_iload_n (i := 1) dd_22_0 rfl ?_
  refine g_tableIn (a := 113) (off := 412) (t := 413) dd_22_1 (by decide) (by decide) (by decide) rfl (by decide) ?_
  refine g_iconst dd_22_413 ic_0 ?_
  exact g_zreturn rfl (by first | decide | omega) dd_22_414
theorem x4_t114 {h : am_H} {tx N nr mi go z1 c1 z2 c2 z3 c3 z4 c4 z5 c5 z6 c6 : Nat} (hH : rx4_ok h) : am_EG mi_22 [.ref 2, .retAddr 114, .ref 4] (rx4 h tx N nr mi go z1 c1 z2 c2 z3 c3 z4 c4 z5 c5 z6 c6) (some (.retAddr 0), (rx4 h tx N nr mi go z1 c1 z2 c2 z3 c3 z4 c4 z5 c5 z6 c6)) := by
  refine am_enter (n := 0) tk_22.2.1 (by simp [Value.category]) (Nat.le_of_ble_eq_true rfl) ?_
  show am_Good mi_22 0 [some (.ref 2), some (.retAddr 114), some (.ref 4)] [] (rx4 h tx N nr mi go z1 c1 z2 c2 z3 c3 z4 c4 z5 c5 z6 c6) _
  refine g_iload_n (i := 1) dd_22_0 rfl ?_
  refine g_tableIn (a := 114) (off := 412) (t := 413) dd_22_1 (by decide) (by decide) (by decide) rfl (by decide) ?_
  refine g_iconst dd_22_413 ic_0 ?_
  exact g_zreturn rfl (by first | decide | omega) dd_22_414
theorem x4_t116 {h : am_H} {tx N nr mi go z1 c1 z2 c2 z3 c3 z4 c4 z5 c5 z6 c6 : Nat} (hH : rx4_ok h) : am_EG mi_22 [.ref 2, .retAddr 116, .ref 4] (rx4 h tx N nr mi go z1 c1 z2 c2 z3 c3 z4 c4 z5 c5 z6 c6) (some (.retAddr 0), (rx4 h tx N nr mi go z1 c1 z2 c2 z3 c3 z4 c4 z5 c5 z6 c6)) := by
  refine am_enter (n := 0) tk_22.2.1 (by simp [Value.category]) (Nat.le_of_ble_eq_true rfl) ?_
  show am_Good mi_22 0 [some (.ref 2), some (.retAddr 116), some (.ref 4)] [] (rx4 h tx N nr mi go z1 c1 z2 c2 z3 c3 z4 c4 z5 c5 z6 c6) _
  refine g_iload_n (i := 1) dd_22_0 rfl ?_
  refine g_tableIn (a := 116) (off := 412) (t := 413) dd_22_1 (by decide) (by decide) (by decide) rfl (by decide) ?_
  refine g_iconst dd_22_413 ic_0 ?_
  exact g_zreturn rfl (by first | decide | omega) dd_22_414
theorem x4_t118 {h : am_H} {tx N nr mi go z1 c1 z2 c2 z3 c3 z4 c4 z5 c5 z6 c6 : Nat} (hH : rx4_ok h) : am_EG mi_22 [.ref 2, .retAddr 118, .ref 4] (rx4 h tx N nr mi go z1 c1 z2 c2 z3 c3 z4 c4 z5 c5 z6 c6) (some (.retAddr 0), (rx4 h tx N nr mi go z1 c1 z2 c2 z3 c3 z4 c4 z5 c5 z6 c6)) := by
  refine am_enter (n := 0) tk_22.2.1 (by simp [Value.category]) (Nat.le_of_ble_eq_true rfl) ?_
  show am_Good mi_22 0 [some (.ref 2), some (.retAddr 118), some (.ref 4)] [] (rx4 h tx N nr mi go z1 c1 z2 c2 z3 c3 z4 c4 z5 c5 z6 c6) _
  refine g_iload_n (i := 1) dd_22_0 rfl ?_
  refine g_tableIn (a := 118) (off := 412) (t := 413) dd_22_1 (by decide) (by decide) (by decide) rfl (by decide) ?_
  refine g_iconst dd_22_413 ic_0 ?_
  exact g_zreturn rfl (by first | decide | omega) dd_22_414
theorem x4_tout {h : am_H} {tx N nr mi go z1 c1 z2 c2 z3 c3 z4 c4 z5 c5 z6 c6 : Nat} (hH : rx4_ok h) {ch : Nat} (hc : ch < 98 ∨ 119 < ch) (hc2 : ch < 65536) : am_EG mi_22 [.ref 2, .retAddr ch, .ref 4] (rx4 h tx N nr mi go z1 c1 z2 c2 z3 c3 z4 c4 z5 c5 z6 c6) (some (.retAddr 0), (rx4 h tx N nr mi go z1 c1 z2 c2 z3 c3 z4 c4 z5 c5 z6 c6)) := by
  refine am_enter (n := 0) tk_22.2.1 (by simp [Value.category]) (Nat.le_of_ble_eq_true rfl) ?_
  show am_Good mi_22 0 [some (.ref 2), some (.retAddr ch), some (.ref 4)] [] (rx4 h tx N nr mi go z1 c1 z2 c2 z3 c3 z4 c4 z5 c5 z6 c6) _
  refine g_iload_n (i := 1) dd_22_0 rfl ?_
  refine g_tableOut (t := 413) dd_22_1 (by omega) (by decide) (by omega) (by decide) ?_
  refine g_iconst dd_22_413 ic_0 ?_
  exact g_zreturn rfl (by first | decide | omega) dd_22_414
theorem x4_tk1 {h : am_H} {tx N nr mi go : Nat} {Z X : Nat → Nat} (hH : rx4_ok h) (hN : N ≤ 5) (h5 : ∀ j, j < 5 → am_ag nr j ≤ 99) (hZ : ∀ k, k < 6 → Z k ≤ rd_l k) {ch : Nat} (hc : rd_ok ch N (am_ag nr) Z) : am_EG mi_22 [.ref 2, .retAddr ch, .ref 4] (rx4 h tx N nr mi go (Z 0) (X 0) (Z 1) (X 1) (Z 2) (X 2) (Z 3) (X 3) (Z 4) (X 4) (Z 5) (X 5)) (some (.retAddr 1), (rx4 h tx N nr (rd_mi ch (am_ag nr 0) mi) (rd_go ch (am_ag nr 0) go) (rd_Z ch Z 0) (rd_X ch nr Z X 0) (rd_Z ch Z 1) (rd_X ch nr Z X 1) (rd_Z ch Z 2) (rd_X ch nr Z X 2) (rd_Z ch Z 3) (rd_X ch nr Z X 3) (rd_Z ch Z 4) (rd_X ch nr Z X 4) (rd_Z ch Z 5) (rd_X ch nr Z X 5))) := by
  have z0 : Z 0 ≤ 4 := hZ 0 (by decide)
  have z1 : Z 1 ≤ 9 := hZ 1 (by decide)
  have z2 : Z 2 ≤ 6 := hZ 2 (by decide)
  have z3 : Z 3 ≤ 4 := hZ 3 (by decide)
  have z4 : Z 4 ≤ 6 := hZ 4 (by decide)
  have z5 : Z 5 ≤ 4 := hZ 5 (by decide)
  have hc' := hc
  unfold rd_ok rd_sn at hc'
  rcases hc' with ⟨rfl, q⟩ | ⟨rfl, q⟩ | ⟨rfl, q⟩ | ⟨rfl, q⟩ | ⟨rfl, q⟩ | ⟨rfl, q⟩ | ⟨rfl, q⟩ | ⟨rfl, q⟩
  · exact x4_t110_1 hH hN h5 z0 z1 z2 z3 z4 z5 q
  · exact x4_t103_1 hH hN h5 z0 z1 z2 z3 z4 z5 q
  · exact x4_t115_1 hH hN h5 z0 z1 z2 z3 z4 z5 q
  · exact x4_t109_1 hH hN h5 z0 z1 z2 z3 z4 z5 q
  · exact x4_t98_1 hH hN h5 z0 z1 z2 z3 z4 z5 q
  · exact x4_t117_1 hH hN h5 z0 z1 z2 z3 z4 z5 q
  · exact x4_t102_1 hH hN h5 z0 z1 z2 z3 z4 z5 q
  · exact x4_t119_1 hH hN h5 z0 z1 z2 z3 z4 z5 q
theorem x4_tk0 {h : am_H} {tx N nr mi go : Nat} {Z X : Nat → Nat} (hH : rx4_ok h) (hN : N ≤ 5) (h5 : ∀ j, j < 5 → am_ag nr j ≤ 99) (hZ : ∀ k, k < 6 → Z k ≤ rd_l k) {ch : Nat} (hch : ch < 65536) (hc : ¬ rd_ok ch N (am_ag nr) Z) : am_EG mi_22 [.ref 2, .retAddr ch, .ref 4] (rx4 h tx N nr mi go (Z 0) (X 0) (Z 1) (X 1) (Z 2) (X 2) (Z 3) (X 3) (Z 4) (X 4) (Z 5) (X 5)) (some (.retAddr 0), (rx4 h tx N nr mi go (Z 0) (X 0) (Z 1) (X 1) (Z 2) (X 2) (Z 3) (X 3) (Z 4) (X 4) (Z 5) (X 5))) := by
  have z0 : Z 0 ≤ 4 := hZ 0 (by decide)
  have z1 : Z 1 ≤ 9 := hZ 1 (by decide)
  have z2 : Z 2 ≤ 6 := hZ 2 (by decide)
  have z3 : Z 3 ≤ 4 := hZ 3 (by decide)
  have z4 : Z 4 ≤ 6 := hZ 4 (by decide)
  have z5 : Z 5 ≤ 4 := hZ 5 (by decide)
  unfold rd_ok rd_sn at hc
  by_cases h1 : ch < 98 ∨ 119 < ch
  · exact x4_tout hH h1 hch
  · have h2 : 98 ≤ ch ∧ ch ≤ 119 := by omega
    obtain ⟨k, rfl⟩ : ∃ k, ch = 98 + k := ⟨ch - 98, by omega⟩
    have h3 : k < 22 := by omega
    match k, h3 with
    | 0, _ => exact x4_t98_0 hH hN h5 z0 z1 z2 z3 z4 z5 (fun q => hc (Or.inr (Or.inr (Or.inr (Or.inr (Or.inl ⟨rfl, q⟩))))))
    | 1, _ => exact x4_t99 hH
    | 2, _ => exact x4_t100 hH
    | 3, _ => exact x4_t101 hH
    | 4, _ => exact x4_t102_0 hH hN h5 z0 z1 z2 z3 z4 z5 (fun q => hc (Or.inr (Or.inr (Or.inr (Or.inr (Or.inr (Or.inr (Or.inl ⟨rfl, q⟩))))))))
    | 5, _ => exact x4_t103_0 hH hN h5 z0 z1 z2 z3 z4 z5 (fun q => hc (Or.inr (Or.inl ⟨rfl, q⟩)))
    | 6, _ => exact x4_t104 hH
    | 7, _ => exact x4_t105 hH
    | 8, _ => exact x4_t106 hH
    | 9, _ => exact x4_t107 hH
    | 10, _ => exact x4_t108 hH
    | 11, _ => exact x4_t109_0 hH hN h5 z0 z1 z2 z3 z4 z5 (fun q => hc (Or.inr (Or.inr (Or.inr (Or.inl ⟨rfl, q⟩)))))
    | 12, _ => exact x4_t110_0 hH hN h5 z0 z1 z2 z3 z4 z5 (fun q => hc (Or.inl ⟨rfl, q⟩))
    | 13, _ => exact x4_t111 hH
    | 14, _ => exact x4_t112 hH
    | 15, _ => exact x4_t113 hH
    | 16, _ => exact x4_t114 hH
    | 17, _ => exact x4_t115_0 hH hN h5 z0 z1 z2 z3 z4 z5 (fun q => hc (Or.inr (Or.inr (Or.inl ⟨rfl, q⟩))))
    | 18, _ => exact x4_t116 hH
    | 19, _ => exact x4_t117_0 hH hN h5 z0 z1 z2 z3 z4 z5 (fun q => hc (Or.inr (Or.inr (Or.inr (Or.inr (Or.inr (Or.inl ⟨rfl, q⟩)))))))
    | 20, _ => exact x4_t118 hH
    | 21, _ => exact x4_t119_0 hH hN h5 z0 z1 z2 z3 z4 z5 (fun q => hc (Or.inr (Or.inr (Or.inr (Or.inr (Or.inr (Or.inr (Or.inr (⟨rfl, q⟩)))))))))
    | k + 22, h3 => exact absurd h3 (by omega)
theorem x4_cl0 {h : am_H} {tx N nr mi go z1 c1 z2 c2 z3 c3 z4 c4 z5 c5 z6 c6 : Nat} (hH : rx4_ok h) : am_EG mi_15 [.ref 5] (rx4 h tx N nr mi go z1 c1 z2 c2 z3 c3 z4 c4 z5 c5 z6 c6) (none, (rx4 h tx N nr mi go 0 c1 z2 c2 z3 c3 z4 c4 z5 c5 z6 c6)) := by
  refine am_enter (n := 0) tk_15.2.1 (by simp [Value.category]) (Nat.le_of_ble_eq_true rfl) ?_
  show am_Good mi_15 0 [some (.ref 5)] [] (rx4 h tx N nr mi go z1 c1 z2 c2 z3 c3 z4 c4 z5 c5 z6 c6) _
  refine g_aload_n (i := 0) dd_15_0 rfl ?_
  refine g_iconst dd_15_1 ic_0 ?_
  refine g_putfield (k := 3) am_ck8 (by decide) (Or.inl w_60) (Or.inl rfl) dd_15_2 (rx4_g5 hH) (Nat.le_of_ble_eq_true rfl) trivial ?_
  refine am_heq (rx4_u5 hH) ?_
  show am_Good mi_15 5 [some (.ref 5)] [] (rx4 h tx N nr mi go 0 c1 z2 c2 z3 c3 z4 c4 z5 c5 z6 c6) _
  exact g_return rfl dd_15_5
theorem x4_cl1 {h : am_H} {tx N nr mi go z1 c1 z2 c2 z3 c3 z4 c4 z5 c5 z6 c6 : Nat} (hH : rx4_ok h) : am_EG mi_15 [.ref 7] (rx4 h tx N nr mi go z1 c1 z2 c2 z3 c3 z4 c4 z5 c5 z6 c6) (none, (rx4 h tx N nr mi go z1 c1 0 c2 z3 c3 z4 c4 z5 c5 z6 c6)) := by
  refine am_enter (n := 0) tk_15.2.1 (by simp [Value.category]) (Nat.le_of_ble_eq_true rfl) ?_
  show am_Good mi_15 0 [some (.ref 7)] [] (rx4 h tx N nr mi go z1 c1 z2 c2 z3 c3 z4 c4 z5 c5 z6 c6) _
  refine g_aload_n (i := 0) dd_15_0 rfl ?_
  refine g_iconst dd_15_1 ic_0 ?_
  refine g_putfield (k := 3) am_ck8 (by decide) (Or.inl w_60) (Or.inl rfl) dd_15_2 (rx4_g7 hH) (Nat.le_of_ble_eq_true rfl) trivial ?_
  refine am_heq (rx4_u7 hH) ?_
  show am_Good mi_15 5 [some (.ref 7)] [] (rx4 h tx N nr mi go z1 c1 0 c2 z3 c3 z4 c4 z5 c5 z6 c6) _
  exact g_return rfl dd_15_5
theorem x4_cl2 {h : am_H} {tx N nr mi go z1 c1 z2 c2 z3 c3 z4 c4 z5 c5 z6 c6 : Nat} (hH : rx4_ok h) : am_EG mi_15 [.ref 9] (rx4 h tx N nr mi go z1 c1 z2 c2 z3 c3 z4 c4 z5 c5 z6 c6) (none, (rx4 h tx N nr mi go z1 c1 z2 c2 0 c3 z4 c4 z5 c5 z6 c6)) := by
  refine am_enter (n := 0) tk_15.2.1 (by simp [Value.category]) (Nat.le_of_ble_eq_true rfl) ?_
  show am_Good mi_15 0 [some (.ref 9)] [] (rx4 h tx N nr mi go z1 c1 z2 c2 z3 c3 z4 c4 z5 c5 z6 c6) _
  refine g_aload_n (i := 0) dd_15_0 rfl ?_
  refine g_iconst dd_15_1 ic_0 ?_
  refine g_putfield (k := 3) am_ck8 (by decide) (Or.inl w_60) (Or.inl rfl) dd_15_2 (rx4_g9 hH) (Nat.le_of_ble_eq_true rfl) trivial ?_
  refine am_heq (rx4_u9 hH) ?_
  show am_Good mi_15 5 [some (.ref 9)] [] (rx4 h tx N nr mi go z1 c1 z2 c2 0 c3 z4 c4 z5 c5 z6 c6) _
  exact g_return rfl dd_15_5
theorem x4_cl3 {h : am_H} {tx N nr mi go z1 c1 z2 c2 z3 c3 z4 c4 z5 c5 z6 c6 : Nat} (hH : rx4_ok h) : am_EG mi_15 [.ref 11] (rx4 h tx N nr mi go z1 c1 z2 c2 z3 c3 z4 c4 z5 c5 z6 c6) (none, (rx4 h tx N nr mi go z1 c1 z2 c2 z3 c3 0 c4 z5 c5 z6 c6)) := by
  refine am_enter (n := 0) tk_15.2.1 (by simp [Value.category]) (Nat.le_of_ble_eq_true rfl) ?_
  show am_Good mi_15 0 [some (.ref 11)] [] (rx4 h tx N nr mi go z1 c1 z2 c2 z3 c3 z4 c4 z5 c5 z6 c6) _
  refine g_aload_n (i := 0) dd_15_0 rfl ?_
  refine g_iconst dd_15_1 ic_0 ?_
  refine g_putfield (k := 3) am_ck8 (by decide) (Or.inl w_60) (Or.inl rfl) dd_15_2 (rx4_g11 hH) (Nat.le_of_ble_eq_true rfl) trivial ?_
  refine am_heq (rx4_u11 hH) ?_
  show am_Good mi_15 5 [some (.ref 11)] [] (rx4 h tx N nr mi go z1 c1 z2 c2 z3 c3 0 c4 z5 c5 z6 c6) _
  exact g_return rfl dd_15_5
theorem x4_cl4 {h : am_H} {tx N nr mi go z1 c1 z2 c2 z3 c3 z4 c4 z5 c5 z6 c6 : Nat} (hH : rx4_ok h) : am_EG mi_15 [.ref 13] (rx4 h tx N nr mi go z1 c1 z2 c2 z3 c3 z4 c4 z5 c5 z6 c6) (none, (rx4 h tx N nr mi go z1 c1 z2 c2 z3 c3 z4 c4 0 c5 z6 c6)) := by
  refine am_enter (n := 0) tk_15.2.1 (by simp [Value.category]) (Nat.le_of_ble_eq_true rfl) ?_
  show am_Good mi_15 0 [some (.ref 13)] [] (rx4 h tx N nr mi go z1 c1 z2 c2 z3 c3 z4 c4 z5 c5 z6 c6) _
  refine g_aload_n (i := 0) dd_15_0 rfl ?_
  refine g_iconst dd_15_1 ic_0 ?_
  refine g_putfield (k := 3) am_ck8 (by decide) (Or.inl w_60) (Or.inl rfl) dd_15_2 (rx4_g13 hH) (Nat.le_of_ble_eq_true rfl) trivial ?_
  refine am_heq (rx4_u13 hH) ?_
  show am_Good mi_15 5 [some (.ref 13)] [] (rx4 h tx N nr mi go z1 c1 z2 c2 z3 c3 z4 c4 0 c5 z6 c6) _
  exact g_return rfl dd_15_5
theorem x4_cl5 {h : am_H} {tx N nr mi go z1 c1 z2 c2 z3 c3 z4 c4 z5 c5 z6 c6 : Nat} (hH : rx4_ok h) : am_EG mi_15 [.ref 15] (rx4 h tx N nr mi go z1 c1 z2 c2 z3 c3 z4 c4 z5 c5 z6 c6) (none, (rx4 h tx N nr mi go z1 c1 z2 c2 z3 c3 z4 c4 z5 c5 0 c6)) := by
  refine am_enter (n := 0) tk_15.2.1 (by simp [Value.category]) (Nat.le_of_ble_eq_true rfl) ?_
  show am_Good mi_15 0 [some (.ref 15)] [] (rx4 h tx N nr mi go z1 c1 z2 c2 z3 c3 z4 c4 z5 c5 z6 c6) _
  refine g_aload_n (i := 0) dd_15_0 rfl ?_
  refine g_iconst dd_15_1 ic_0 ?_
  refine g_putfield (k := 3) am_ck8 (by decide) (Or.inl w_60) (Or.inl rfl) dd_15_2 (rx4_g15 hH) (Nat.le_of_ble_eq_true rfl) trivial ?_
  refine am_heq (rx4_u15 hH) ?_
  show am_Good mi_15 5 [some (.ref 15)] [] (rx4 h tx N nr mi go z1 c1 z2 c2 z3 c3 z4 c4 z5 c5 0 c6) _
  exact g_return rfl dd_15_5
theorem x4_clear {h : am_H} {tx N nr mi go z1 c1 z2 c2 z3 c3 z4 c4 z5 c5 z6 c6 : Nat} (hH : rx4_ok h) : am_EG mi_14 [.ref 4] (rx4 h tx N nr mi go z1 c1 z2 c2 z3 c3 z4 c4 z5 c5 z6 c6) (none, (rx4 h tx N nr 30 1 0 c1 0 c2 0 c3 0 c4 0 c5 0 c6)) := by
  refine am_enter (n := 0) tk_14.2.1 (by simp [Value.category]) (Nat.le_of_ble_eq_true rfl) ?_
  show am_Good mi_14 0 [some (.ref 4)] [] (rx4 h tx N nr mi go z1 c1 z2 c2 z3 c3 z4 c4 z5 c5 z6 c6) _
  refine g_aload_n (i := 0) dd_14_0 rfl ?_
  refine g_getfield (k := 0) am_ck1 (by decide) (Or.inl w_79) dd_14_1 (rx4_g4 hH) rfl ?_
  refine g_virtual (M' := mi_15) (n := 0) (ci := 8) (b := 5) (as := []) (st := []) (r1 := (none, (rx4 h tx N nr mi go 0 c1 z2 c2 z3 c3 z4 c4 z5 c5 z6 c6))) w_388 w_389 w_390 ⟨lk_15.1, lk_15.2.1, lk_15.2.2, by decide, by decide⟩ rfl (rx4_g5 hH) rfl (by simp [Value.category]) dd_14_4 (x4_cl0 hH) ?_
  show am_Good mi_14 7 [some (.ref 4)] [] (rx4 h tx N nr mi go 0 c1 z2 c2 z3 c3 z4 c4 z5 c5 z6 c6) _
  refine g_aload_n (i := 0) dd_14_7 rfl ?_
  refine g_getfield (k := 1) am_ck1 (by decide) (Or.inl w_86) dd_14_8 (rx4_g4 hH) rfl ?_
  refine g_virtual (M' := mi_15) (n := 0) (ci := 8) (b := 7) (as := []) (st := []) (r1 := (none, (rx4 h tx N nr mi go 0 c1 0 c2 z3 c3 z4 c4 z5 c5 z6 c6))) w_388 w_389 w_390 ⟨lk_15.1, lk_15.2.1, lk_15.2.2, by decide, by decide⟩ rfl (rx4_g7 hH) rfl (by simp [Value.category]) dd_14_11 (x4_cl1 hH) ?_
  show am_Good mi_14 14 [some (.ref 4)] [] (rx4 h tx N nr mi go 0 c1 0 c2 z3 c3 z4 c4 z5 c5 z6 c6) _
  refine g_aload_n (i := 0) dd_14_14 rfl ?_
  refine g_getfield (k := 2) am_ck1 (by decide) (Or.inl w_90) dd_14_15 (rx4_g4 hH) rfl ?_
  refine g_virtual (M' := mi_15) (n := 0) (ci := 8) (b := 9) (as := []) (st := []) (r1 := (none, (rx4 h tx N nr mi go 0 c1 0 c2 0 c3 z4 c4 z5 c5 z6 c6))) w_388 w_389 w_390 ⟨lk_15.1, lk_15.2.1, lk_15.2.2, by decide, by decide⟩ rfl (rx4_g9 hH) rfl (by simp [Value.category]) dd_14_18 (x4_cl2 hH) ?_
  show am_Good mi_14 21 [some (.ref 4)] [] (rx4 h tx N nr mi go 0 c1 0 c2 0 c3 z4 c4 z5 c5 z6 c6) _
  refine g_aload_n (i := 0) dd_14_21 rfl ?_
  refine g_getfield (k := 3) am_ck1 (by decide) (Or.inl w_94) dd_14_22 (rx4_g4 hH) rfl ?_
  refine g_virtual (M' := mi_15) (n := 0) (ci := 8) (b := 11) (as := []) (st := []) (r1 := (none, (rx4 h tx N nr mi go 0 c1 0 c2 0 c3 0 c4 z5 c5 z6 c6))) w_388 w_389 w_390 ⟨lk_15.1, lk_15.2.1, lk_15.2.2, by decide, by decide⟩ rfl (rx4_g11 hH) rfl (by simp [Value.category]) dd_14_25 (x4_cl3 hH) ?_
  show am_Good mi_14 28 [some (.ref 4)] [] (rx4 h tx N nr mi go 0 c1 0 c2 0 c3 0 c4 z5 c5 z6 c6) _
  refine g_aload_n (i := 0) dd_14_28 rfl ?_
  refine g_getfield (k := 4) am_ck1 (by decide) (Or.inl w_98) dd_14_29 (rx4_g4 hH) rfl ?_
  refine g_virtual (M' := mi_15) (n := 0) (ci := 8) (b := 13) (as := []) (st := []) (r1 := (none, (rx4 h tx N nr mi go 0 c1 0 c2 0 c3 0 c4 0 c5 z6 c6))) w_388 w_389 w_390 ⟨lk_15.1, lk_15.2.1, lk_15.2.2, by decide, by decide⟩ rfl (rx4_g13 hH) rfl (by simp [Value.category]) dd_14_32 (x4_cl4 hH) ?_
  show am_Good mi_14 35 [some (.ref 4)] [] (rx4 h tx N nr mi go 0 c1 0 c2 0 c3 0 c4 0 c5 z6 c6) _
  refine g_aload_n (i := 0) dd_14_35 rfl ?_
  refine g_getfield (k := 5) am_ck1 (by decide) (Or.inl w_101) dd_14_36 (rx4_g4 hH) rfl ?_
  refine g_virtual (M' := mi_15) (n := 0) (ci := 8) (b := 15) (as := []) (st := []) (r1 := (none, (rx4 h tx N nr mi go 0 c1 0 c2 0 c3 0 c4 0 c5 0 c6))) w_388 w_389 w_390 ⟨lk_15.1, lk_15.2.1, lk_15.2.2, by decide, by decide⟩ rfl (rx4_g15 hH) rfl (by simp [Value.category]) dd_14_39 (x4_cl5 hH) ?_
  show am_Good mi_14 42 [some (.ref 4)] [] (rx4 h tx N nr mi go 0 c1 0 c2 0 c3 0 c4 0 c5 0 c6) _
  refine g_aload_n (i := 0) dd_14_42 rfl ?_
  refine g_bipush dd_14_43 bi_30 ?_
  refine g_putfield (k := 6) am_ck1 (by decide) (Or.inl w_105) (Or.inl rfl) dd_14_45 (rx4_g4 hH) (Nat.le_of_ble_eq_true rfl) trivial ?_
  refine am_heq (rx4_u4 hH) ?_
  show am_Good mi_14 48 [some (.ref 4)] [] (rx4 h tx N nr 30 go 0 c1 0 c2 0 c3 0 c4 0 c5 0 c6) _
  refine g_aload_n (i := 0) dd_14_48 rfl ?_
  refine g_iconst dd_14_49 ic_1 ?_
  refine g_putfield (k := 7) am_ck1 (by decide) (Or.inl w_113) (Or.inl rfl) dd_14_50 (rx4_g4 hH) (Nat.le_of_ble_eq_true rfl) trivial ?_
  refine am_heq (rx4_u4 hH) ?_
  show am_Good mi_14 53 [some (.ref 4)] [] (rx4 h tx N nr 30 1 0 c1 0 c2 0 c3 0 c4 0 c5 0 c6) _
  exact g_return rfl dd_14_53
theorem x4_rb {h : am_H} {tx N nr mi go z1 c1 z2 c2 z3 c3 z4 c4 z5 c5 z6 c6 : Nat} (hH : rx4_ok h) {nr' N' len p res : Nat} {v6 : Option Value} (hlen : len ≤ 200) (hp : p < len) (hrn : am_EG mi_17 [.ref 2, .ref 1, .retAddr len, .retAddr (p + 1)] (rx4 h tx N nr mi go z1 c1 z2 c2 z3 c3 z4 c4 z5 c5 z6 c6) (some (.retAddr res), (rx4 h tx (N') (nr') mi go z1 c1 z2 c2 z3 c3 z4 c4 z5 c5 z6 c6))) (hres : res = 4294967295) : am_Good mi_13 15 [some (.ref 2), some (.ref 1), some (.retAddr len), some (.ref 4), some (.retAddr len), some (.retAddr p), v6] [] (rx4 h tx N nr mi go z1 c1 z2 c2 z3 c3 z4 c4 z5 c5 z6 c6) (some (.retAddr p), (rx4 h tx (N') (nr') mi go z1 c1 z2 c2 z3 c3 z4 c4 z5 c5 z6 c6)) := by
  refine g_iload dd_13_15 rfl ?_
  refine g_iload dd_13_17 rfl ?_
  refine g_icmp_ge_f (t := 64) dd_13_19 (by decide) (by first | exact sk_ge_f (by omega) (by omega) | exact tk_ge_f (by omega)) ?_
  refine g_aload_n (i := 0) dd_13_22 rfl ?_
  refine g_aload_n (i := 1) dd_13_23 rfl ?_
  refine g_iload dd_13_24 rfl ?_
  refine g_iload dd_13_26 rfl ?_
  refine g_iconst dd_13_28 ic_1 ?_
  refine e_iadd (v := p + 1) dd_13_29 (by omega) ?_
  refine g_virtual (M' := mi_17) (n := 3) (ci := 6) (b := 2) (as := [.ref 1, .retAddr len, .retAddr (p + 1)]) (st := []) (r1 := (some (.retAddr res), (rx4 h tx (N') (nr') mi go z1 c1 z2 c2 z3 c3 z4 c4 z5 c5 z6 c6))) w_395 w_397 ps_17 ⟨lk_17.1, lk_17.2.1, lk_17.2.2, by decide, by decide⟩ rfl (rx4_g2 hH) rfl (by simp [Value.category]) dd_13_30 (hrn) ?_
  show am_Good mi_13 33 [some (.ref 2), some (.ref 1), some (.retAddr len), some (.ref 4), some (.retAddr len), some (.retAddr p), v6] [.retAddr res] (rx4 h tx (N') (nr') mi go z1 c1 z2 c2 z3 c3 z4 c4 z5 c5 z6 c6) _
  refine g_istore dd_13_33 (am_nlb_ok rfl) (by decide) ?_
  refine g_iload dd_13_35 rfl ?_
  refine g_iload dd_13_37 rfl ?_
  refine g_icmp_le_t (t := 54) dd_13_39 (by decide) (by first | exact sk_le_t (by omega) (by omega) | exact tk_le_t (by omega)) ?_
  refine g_iload dd_13_54 rfl ?_
  exact g_ireturn rfl dd_13_56
theorem x4_rn {h : am_H} {tx N nr mi go z1 c1 z2 c2 z3 c3 z4 c4 z5 c5 z6 c6 : Nat} (hH : rx4_ok h) {nr' N' len p res : Nat} {v6 : Option Value} (hlen : len ≤ 200) (hp : p < len) (hrn : am_EG mi_17 [.ref 2, .ref 1, .retAddr len, .retAddr (p + 1)] (rx4 h tx N nr mi go z1 c1 z2 c2 z3 c3 z4 c4 z5 c5 z6 c6) (some (.retAddr res), (rx4 h tx (N') (nr') mi go z1 c1 z2 c2 z3 c3 z4 c4 z5 c5 z6 c6))) (hres : p < res ∧ res ≤ 200) {h2 : am_H} (htk : am_EG mi_22 [.ref 2, .retAddr (am_ag tx p), .ref 4] (rx4 h tx (N') (nr') mi go z1 c1 z2 c2 z3 c3 z4 c4 z5 c5 z6 c6) (some (.retAddr 0), h2)) : am_Good mi_13 15 [some (.ref 2), some (.ref 1), some (.retAddr len), some (.ref 4), some (.retAddr len), some (.retAddr p), v6] [] (rx4 h tx N nr mi go z1 c1 z2 c2 z3 c3 z4 c4 z5 c5 z6 c6) (some (.retAddr p), h2) := by
  refine g_iload dd_13_15 rfl ?_
  refine g_iload dd_13_17 rfl ?_
  refine g_icmp_ge_f (t := 64) dd_13_19 (by decide) (by first | exact sk_ge_f (by omega) (by omega) | exact tk_ge_f (by omega)) ?_
  refine g_aload_n (i := 0) dd_13_22 rfl ?_
  refine g_aload_n (i := 1) dd_13_23 rfl ?_
  refine g_iload dd_13_24 rfl ?_
  refine g_iload dd_13_26 rfl ?_
  refine g_iconst dd_13_28 ic_1 ?_
  refine e_iadd (v := p + 1) dd_13_29 (by omega) ?_
  refine g_virtual (M' := mi_17) (n := 3) (ci := 6) (b := 2) (as := [.ref 1, .retAddr len, .retAddr (p + 1)]) (st := []) (r1 := (some (.retAddr res), (rx4 h tx (N') (nr') mi go z1 c1 z2 c2 z3 c3 z4 c4 z5 c5 z6 c6))) w_395 w_397 ps_17 ⟨lk_17.1, lk_17.2.1, lk_17.2.2, by decide, by decide⟩ rfl (rx4_g2 hH) rfl (by simp [Value.category]) dd_13_30 (hrn) ?_
  show am_Good mi_13 33 [some (.ref 2), some (.ref 1), some (.retAddr len), some (.ref 4), some (.retAddr len), some (.retAddr p), v6] [.retAddr res] (rx4 h tx (N') (nr') mi go z1 c1 z2 c2 z3 c3 z4 c4 z5 c5 z6 c6) _
  refine g_istore dd_13_33 (am_nlb_ok rfl) (by decide) ?_
  refine g_iload dd_13_35 rfl ?_
  refine g_iload dd_13_37 rfl ?_
  refine g_icmp_le_f (t := 54) dd_13_39 (by decide) (by first | exact sk_le_f (by omega) (by omega) | exact tk_le_f (by omega)) ?_
  refine g_aload_n (i := 0) dd_13_42 rfl ?_
  refine g_aload_n (i := 1) dd_13_43 rfl ?_
  refine g_iload dd_13_44 rfl ?_
  refine g_caload dd_13_46 (rx4_g1 hH) (by omega) (by decide) ?_
  have hl_1 := am_ag_lt tx p
  refine g_aload_n (i := 3) dd_13_47 rfl ?_
  refine g_virtual (M' := mi_22) (n := 2) (ci := 6) (b := 2) (as := [.retAddr (am_ag tx p), .ref 4]) (st := []) (r1 := (some (.retAddr 0), h2)) w_411 w_413 ps_22 ⟨lk_22.1, lk_22.2.1, lk_22.2.2, by decide, by decide⟩ rfl (rx4_g2 hH) rfl (by simp [Value.category]) dd_13_48 (htk) ?_
  show am_Good mi_13 51 [some (.ref 2), some (.ref 1), some (.retAddr len), some (.ref 4), some (.retAddr len), some (.retAddr p), some (.retAddr res)] [.retAddr 0] h2 _
  refine g_if_ne_f (t := 57) dd_13_51 (by decide) (by decide) ?_
  refine g_iload dd_13_54 rfl ?_
  exact g_ireturn rfl dd_13_56
theorem x4_ry {h : am_H} {tx N nr mi go z1 c1 z2 c2 z3 c3 z4 c4 z5 c5 z6 c6 : Nat} (hH : rx4_ok h) {nr' N' len p res : Nat} {v6 : Option Value} (hlen : len ≤ 200) (hp : p < len) (hrn : am_EG mi_17 [.ref 2, .ref 1, .retAddr len, .retAddr (p + 1)] (rx4 h tx N nr mi go z1 c1 z2 c2 z3 c3 z4 c4 z5 c5 z6 c6) (some (.retAddr res), (rx4 h tx (N') (nr') mi go z1 c1 z2 c2 z3 c3 z4 c4 z5 c5 z6 c6))) (hres : p < res ∧ res ≤ 200) {h2 : am_H} (htk : am_EG mi_22 [.ref 2, .retAddr (am_ag tx p), .ref 4] (rx4 h tx (N') (nr') mi go z1 c1 z2 c2 z3 c3 z4 c4 z5 c5 z6 c6) (some (.retAddr 1), h2)) {r : am_R} (hg : am_Good mi_13 15 [some (.ref 2), some (.ref 1), some (.retAddr len), some (.ref 4), some (.retAddr len), some (.retAddr res), some (.retAddr res)] [] h2 r) : am_Good mi_13 15 [some (.ref 2), some (.ref 1), some (.retAddr len), some (.ref 4), some (.retAddr len), some (.retAddr p), v6] [] (rx4 h tx N nr mi go z1 c1 z2 c2 z3 c3 z4 c4 z5 c5 z6 c6) r := by
  refine g_iload dd_13_15 rfl ?_
  refine g_iload dd_13_17 rfl ?_
  refine g_icmp_ge_f (t := 64) dd_13_19 (by decide) (by first | exact sk_ge_f (by omega) (by omega) | exact tk_ge_f (by omega)) ?_
  refine g_aload_n (i := 0) dd_13_22 rfl ?_
  refine g_aload_n (i := 1) dd_13_23 rfl ?_
  refine g_iload dd_13_24 rfl ?_
  refine g_iload dd_13_26 rfl ?_
  refine g_iconst dd_13_28 ic_1 ?_
  refine e_iadd (v := p + 1) dd_13_29 (by omega) ?_
  refine g_virtual (M' := mi_17) (n := 3) (ci := 6) (b := 2) (as := [.ref 1, .retAddr len, .retAddr (p + 1)]) (st := []) (r1 := (some (.retAddr res), (rx4 h tx (N') (nr') mi go z1 c1 z2 c2 z3 c3 z4 c4 z5 c5 z6 c6))) w_395 w_397 ps_17 ⟨lk_17.1, lk_17.2.1, lk_17.2.2, by decide, by decide⟩ rfl (rx4_g2 hH) rfl (by simp [Value.category]) dd_13_30 (hrn) ?_
  show am_Good mi_13 33 [some (.ref 2), some (.ref 1), some (.retAddr len), some (.ref 4), some (.retAddr len), some (.retAddr p), v6] [.retAddr res] (rx4 h tx (N') (nr') mi go z1 c1 z2 c2 z3 c3 z4 c4 z5 c5 z6 c6) _
  refine g_istore dd_13_33 (am_nlb_ok rfl) (by decide) ?_
  refine g_iload dd_13_35 rfl ?_
  refine g_iload dd_13_37 rfl ?_
  refine g_icmp_le_f (t := 54) dd_13_39 (by decide) (by first | exact sk_le_f (by omega) (by omega) | exact tk_le_f (by omega)) ?_
  refine g_aload_n (i := 0) dd_13_42 rfl ?_
  refine g_aload_n (i := 1) dd_13_43 rfl ?_
  refine g_iload dd_13_44 rfl ?_
  refine g_caload dd_13_46 (rx4_g1 hH) (by omega) (by decide) ?_
  have hl_1 := am_ag_lt tx p
  refine g_aload_n (i := 3) dd_13_47 rfl ?_
  refine g_virtual (M' := mi_22) (n := 2) (ci := 6) (b := 2) (as := [.retAddr (am_ag tx p), .ref 4]) (st := []) (r1 := (some (.retAddr 1), h2)) w_411 w_413 ps_22 ⟨lk_22.1, lk_22.2.1, lk_22.2.2, by decide, by decide⟩ rfl (rx4_g2 hH) rfl (by simp [Value.category]) dd_13_48 (htk) ?_
  show am_Good mi_13 51 [some (.ref 2), some (.ref 1), some (.retAddr len), some (.ref 4), some (.retAddr len), some (.retAddr p), some (.retAddr res)] [.retAddr 1] h2 _
  refine g_if_ne_t (t := 57) dd_13_51 (by decide) (by decide) ?_
  refine g_iload dd_13_57 rfl ?_
  refine g_istore dd_13_59 (am_nlb_ok rfl) (by decide) ?_
  refine g_goto (t := 15) dd_13_61 (by decide) ?_
  exact hg
theorem x4_re {h : am_H} {tx N nr mi go z1 c1 z2 c2 z3 c3 z4 c4 z5 c5 z6 c6 : Nat} (hH : rx4_ok h) {len p : Nat} {v6 : Option Value} (hlen : len ≤ 200) (hp : p = len) : am_Good mi_13 15 [some (.ref 2), some (.ref 1), some (.retAddr len), some (.ref 4), some (.retAddr len), some (.retAddr p), v6] [] (rx4 h tx N nr mi go z1 c1 z2 c2 z3 c3 z4 c4 z5 c5 z6 c6) (some (.retAddr 4294967292), (rx4 h tx N nr mi go z1 c1 z2 c2 z3 c3 z4 c4 z5 c5 z6 c6)) := by
  refine g_iload dd_13_15 rfl ?_
  refine g_iload dd_13_17 rfl ?_
  refine g_icmp_ge_t (t := 64) dd_13_19 (by decide) (by first | exact sk_ge_t (by omega) (by omega) | exact tk_ge_t (by omega)) ?_
  refine g_bipush dd_13_64 bi_m4 ?_
  exact g_ireturn rfl dd_13_66
theorem x4_r0 {h : am_H} {tx N nr mi go z1 c1 z2 c2 z3 c3 z4 c4 z5 c5 z6 c6 : Nat} (hH : rx4_ok h) {len : Nat} (hlen : len ≤ 200) {r : am_R} (hg : am_Good mi_13 15 [some (.ref 2), some (.ref 1), some (.retAddr len), some (.ref 4), some (.retAddr len), some (.retAddr 0), none] [] (rx4 h tx N nr 30 1 0 c1 0 c2 0 c3 0 c4 0 c5 0 c6) r) : am_EG mi_13 [.ref 2, .ref 1, .retAddr len, .ref 4] (rx4 h tx N nr mi go z1 c1 z2 c2 z3 c3 z4 c4 z5 c5 z6 c6) r := by
  refine am_enter (n := 3) tk_13.2.1 (by simp [Value.category]) (Nat.le_of_ble_eq_true rfl) ?_
  show am_Good mi_13 0 [some (.ref 2), some (.ref 1), some (.retAddr len), some (.ref 4), none, none, none] [] (rx4 h tx N nr mi go z1 c1 z2 c2 z3 c3 z4 c4 z5 c5 z6 c6) _
  refine g_aload_n (i := 3) dd_13_0 rfl ?_
  refine g_virtual (M' := mi_14) (n := 0) (ci := 1) (b := 4) (as := []) (st := []) (r1 := (none, (rx4 h tx N nr 30 1 0 c1 0 c2 0 c3 0 c4 0 c5 0 c6))) w_384 w_385 w_386 ⟨lk_14.1, lk_14.2.1, lk_14.2.2, by decide, by decide⟩ rfl (rx4_g4 hH) rfl (by simp [Value.category]) dd_13_1 (x4_clear hH) ?_
  show am_Good mi_13 4 [some (.ref 2), some (.ref 1), some (.retAddr len), some (.ref 4), none, none, none] [] (rx4 h tx N nr 30 1 0 c1 0 c2 0 c3 0 c4 0 c5 0 c6) _
  refine g_iload_n (i := 2) dd_13_4 rfl ?_
  refine g_aload_n (i := 1) dd_13_5 rfl ?_
  refine g_alen dd_13_6 (rx4_g1 hH) (by decide) ?_
  refine g_mmin w_392 w_393 w_18 w_394 ⟨by decide, by decide⟩ (by simp [Value.category]) dd_13_7 ?_
  rw [show (bif am_tlt 200 len then 200 else len) = len from rd_mn hlen]
  refine g_istore dd_13_10 (am_nlb_ok rfl) (by decide) ?_
  refine g_iconst dd_13_12 ic_0 ?_
  refine g_istore dd_13_13 (am_nlb_ok rfl) (by decide) ?_
  exact hg
