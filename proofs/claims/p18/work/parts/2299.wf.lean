/-! ===== write, wipe, fault: both ===== -/
def wx (h : am_H) (f : Nat → Value) (len tx : Nat) : am_H := am_ups h [(0, .inr (11, [.ref 1, .retAddr len, f 2, f 3, f 4, f 5, f 6, f 7, f 8, f 9, f 10, f 11, f 12, f 13, f 14, f 15, f 16])), (1, .inl (1, 200, tx))]
def wx_ok (h : am_H) : Prop := am_ke h [0, 1]
theorem wx_g0 {h : am_H} {f : Nat → Value} {len tx : Nat} (hH : wx_ok h) : am_get (wx h f len tx) 0 = some (.inr (11, [.ref 1, .retAddr len, f 2, f 3, f 4, f 5, f 6, f 7, f 8, f 9, f 10, f 11, f 12, f 13, f 14, f 15, f 16])) := am_ups_g hH rfl
theorem wx_u0 {h : am_H} {f : Nat → Value} {len tx : Nat} (hH : wx_ok h) {len' : Nat} : am_upd (wx h f len tx) 0 (.inr (11, [.ref 1, .retAddr len', f 2, f 3, f 4, f 5, f 6, f 7, f 8, f 9, f 10, f 11, f 12, f 13, f 14, f 15, f 16])) = (wx h f len' tx) := by
  unfold wx
  refine am_upd_ups ?_ ⟨rfl, rfl⟩
  exact hH
theorem wx_g1 {h : am_H} {f : Nat → Value} {len tx : Nat} (hH : wx_ok h) : am_get (wx h f len tx) 1 = some (.inl (1, 200, tx)) := am_ups_g hH rfl
theorem wx_u1 {h : am_H} {f : Nat → Value} {len tx : Nat} (hH : wx_ok h) {tx' : Nat} : am_upd (wx h f len tx) 1 (.inl (1, 200, tx')) = (wx h f len tx') := by
  unfold wx
  refine am_upd_ups ?_ ⟨rfl, rfl⟩
  exact hH
theorem wx_o {h : am_H} {f : Nat → Value} {len tx : Nat} (hH : wx_ok h) {a : Nat} (ha : am_lk [(0, am_e0), (1, am_e0)] a = none) : am_get (wx h f len tx) a = am_get h a := by
  unfold wx
  refine am_ups_n ?_ ?_
  · exact hH
  · exact (am_lk_k (by rfl)).mp ha
theorem wx_a {h : am_H} {f : Nat → Value} {len tx u : Nat} (hH : wx_ok h) (hlen : len ≤ 200) (hu : u < 4294967296) (hc : ¬ (32 ≤ u ∧ u ≤ 126)) : am_EG mi_46 [.ref 0, .retAddr u] (wx h f len tx) (some (.retAddr 4294967295), (wx h f len tx)) := by
  refine am_enter (n := 0) tk_46.2.1 (by simp [Value.category]) (Nat.le_of_ble_eq_true rfl) ?_
  show am_Good mi_46 0 [some (.ref 0), some (.retAddr u)] [] (wx h f len tx) _
  refine g_iload_n (i := 1) dd_46_0 rfl ?_
  refine g_bipush dd_46_1 bi_32 ?_
  by_cases hq : u < 32 ∨ 2147483648 ≤ u
  · refine g_icmp_lt_t (t := 12) dd_46_3 (by decide) (by first | exact sk_lt_t (by omega) (by omega) | exact tk_lt_t (by omega)) ?_
    refine g_iconst dd_46_12 ic_m1 ?_
    exact g_ireturn rfl dd_46_13
  · refine g_icmp_lt_f (t := 12) dd_46_3 (by decide) (by first | exact sk_lt_f (by omega) (by omega) | exact tk_lt_f (by omega)) ?_
    refine g_iload_n (i := 1) dd_46_6 rfl ?_
    refine g_bipush dd_46_7 bi_126 ?_
    refine g_icmp_le_f (t := 14) dd_46_9 (by decide) (by first | exact sk_le_f (by omega) (by omega) | exact tk_le_f (by omega)) ?_
    refine g_iconst dd_46_12 ic_m1 ?_
    exact g_ireturn rfl dd_46_13
theorem wx_b {h : am_H} {f : Nat → Value} {len tx u : Nat} (hH : wx_ok h) (hlen : len ≤ 200) (hu : u < 4294967296) (hc : 32 ≤ u ∧ u ≤ 126) (hl : len = 200) : am_EG mi_46 [.ref 0, .retAddr u] (wx h f len tx) (some (.retAddr 4294967293), (wx h f len tx)) := by
  refine am_enter (n := 0) tk_46.2.1 (by simp [Value.category]) (Nat.le_of_ble_eq_true rfl) ?_
  show am_Good mi_46 0 [some (.ref 0), some (.retAddr u)] [] (wx h f len tx) _
  refine g_iload_n (i := 1) dd_46_0 rfl ?_
  refine g_bipush dd_46_1 bi_32 ?_
  refine g_icmp_lt_f (t := 12) dd_46_3 (by decide) (by first | exact sk_lt_f (by omega) (by omega) | exact tk_lt_f (by omega)) ?_
  refine g_iload_n (i := 1) dd_46_6 rfl ?_
  refine g_bipush dd_46_7 bi_126 ?_
  refine g_icmp_le_t (t := 14) dd_46_9 (by decide) (by first | exact sk_le_t (by omega) (by omega) | exact tk_le_t (by omega)) ?_
  refine g_aload_n (i := 0) dd_46_14 rfl ?_
  refine g_getfield (k := 1) am_ck11 (by decide) (Or.inl w_512) dd_46_15 (wx_g0 hH) rfl ?_
  refine g_if_lt_f (t := 33) dd_46_18 (by decide) (by first | exact sk_lt_f (by omega) (by omega) | exact tk_lt_f (by omega)) ?_
  refine g_aload_n (i := 0) dd_46_21 rfl ?_
  refine g_getfield (k := 1) am_ck11 (by decide) (Or.inl w_512) dd_46_22 (wx_g0 hH) rfl ?_
  refine g_aload_n (i := 0) dd_46_25 rfl ?_
  refine g_getfield (k := 0) am_ck11 (by decide) (Or.inl w_511) dd_46_26 (wx_g0 hH) rfl ?_
  refine g_alen dd_46_29 (wx_g1 hH) (by decide) ?_
  refine g_icmp_lt_f (t := 36) dd_46_30 (by decide) (by first | exact sk_lt_f (by omega) (by omega) | exact tk_lt_f (by omega)) ?_
  refine g_bipush dd_46_33 bi_m3 ?_
  exact g_ireturn rfl dd_46_35
theorem wx_c {h : am_H} {f : Nat → Value} {len tx u : Nat} (hH : wx_ok h) (hlen : len ≤ 200) (hu : u < 4294967296) (hc : 32 ≤ u ∧ u ≤ 126) (hl : len < 200) : am_EG mi_46 [.ref 0, .retAddr u] (wx h f len tx) (some (.retAddr (len + 1)), (wx h f (len + 1) (am_as tx len u))) := by
  refine am_enter (n := 0) tk_46.2.1 (by simp [Value.category]) (Nat.le_of_ble_eq_true rfl) ?_
  show am_Good mi_46 0 [some (.ref 0), some (.retAddr u)] [] (wx h f len tx) _
  refine g_iload_n (i := 1) dd_46_0 rfl ?_
  refine g_bipush dd_46_1 bi_32 ?_
  refine g_icmp_lt_f (t := 12) dd_46_3 (by decide) (by first | exact sk_lt_f (by omega) (by omega) | exact tk_lt_f (by omega)) ?_
  refine g_iload_n (i := 1) dd_46_6 rfl ?_
  refine g_bipush dd_46_7 bi_126 ?_
  refine g_icmp_le_t (t := 14) dd_46_9 (by decide) (by first | exact sk_le_t (by omega) (by omega) | exact tk_le_t (by omega)) ?_
  refine g_aload_n (i := 0) dd_46_14 rfl ?_
  refine g_getfield (k := 1) am_ck11 (by decide) (Or.inl w_512) dd_46_15 (wx_g0 hH) rfl ?_
  refine g_if_lt_f (t := 33) dd_46_18 (by decide) (by first | exact sk_lt_f (by omega) (by omega) | exact tk_lt_f (by omega)) ?_
  refine g_aload_n (i := 0) dd_46_21 rfl ?_
  refine g_getfield (k := 1) am_ck11 (by decide) (Or.inl w_512) dd_46_22 (wx_g0 hH) rfl ?_
  refine g_aload_n (i := 0) dd_46_25 rfl ?_
  refine g_getfield (k := 0) am_ck11 (by decide) (Or.inl w_511) dd_46_26 (wx_g0 hH) rfl ?_
  refine g_alen dd_46_29 (wx_g1 hH) (by decide) ?_
  refine g_icmp_lt_t (t := 36) dd_46_30 (by decide) (by first | exact sk_lt_t (by omega) (by omega) | exact tk_lt_t (by omega)) ?_
  refine g_aload_n (i := 0) dd_46_36 rfl ?_
  refine g_getfield (k := 0) am_ck11 (by decide) (Or.inl w_511) dd_46_37 (wx_g0 hH) rfl ?_
  refine g_aload_n (i := 0) dd_46_40 rfl ?_
  refine g_getfield (k := 1) am_ck11 (by decide) (Or.inl w_512) dd_46_41 (wx_g0 hH) rfl ?_
  refine g_iload_n (i := 1) dd_46_44 rfl ?_
  refine g_i2c dd_46_45 ?_
  rw [show u % 65536 = u from by omega]
  refine g_castore dd_46_46 (wx_g1 hH) (by omega) (by decide) ?_
  rw [show u % 65536 = u from by omega]
  refine am_heq (wx_u1 hH) ?_
  show am_Good mi_46 47 [some (.ref 0), some (.retAddr u)] [] (wx h f len (am_as tx len u)) _
  refine g_aload_n (i := 0) dd_46_47 rfl ?_
  refine g_dup dd_46_48 rfl ?_
  refine g_getfield (k := 1) am_ck11 (by decide) (Or.inl w_512) dd_46_49 (wx_g0 hH) rfl ?_
  refine g_iconst dd_46_52 ic_1 ?_
  refine e_iadd (v := len + 1) dd_46_53 (by omega) ?_
  refine g_putfield (k := 1) am_ck11 (by decide) (Or.inl w_512) (Or.inl rfl) dd_46_54 (wx_g0 hH) (Nat.le_of_ble_eq_true rfl) trivial ?_
  refine am_heq (wx_u0 hH) ?_
  show am_Good mi_46 57 [some (.ref 0), some (.retAddr u)] [] (wx h f (len + 1) (am_as tx len u)) _
  refine g_aload_n (i := 0) dd_46_57 rfl ?_
  refine g_getfield (k := 1) am_ck11 (by decide) (Or.inl w_512) dd_46_58 (wx_g0 hH) rfl ?_
  exact g_ireturn rfl dd_46_61
theorem wx_i {h : am_H} {f : Nat → Value} {len tx : Nat} (hH : wx_ok h) : am_EG mi_47 [.ref 0] (wx h f len tx) (some (.retAddr len), (wx h f 0 tx)) := by
  refine am_enter (n := 1) tk_47.2.1 (by simp [Value.category]) (Nat.le_of_ble_eq_true rfl) ?_
  show am_Good mi_47 0 [some (.ref 0), none] [] (wx h f len tx) _
  refine g_aload_n (i := 0) dd_47_0 rfl ?_
  refine g_getfield (k := 1) am_ck11 (by decide) (Or.inl w_512) dd_47_1 (wx_g0 hH) rfl ?_
  refine g_istore_n (i := 1) dd_47_4 (am_nlb_ok rfl) (by decide) ?_
  refine g_aload_n (i := 0) dd_47_5 rfl ?_
  refine g_iconst dd_47_6 ic_0 ?_
  refine g_putfield (k := 1) am_ck11 (by decide) (Or.inl w_512) (Or.inl rfl) dd_47_7 (wx_g0 hH) (Nat.le_of_ble_eq_true rfl) trivial ?_
  refine am_heq (wx_u0 hH) ?_
  show am_Good mi_47 10 [some (.ref 0), some (.retAddr len)] [] (wx h f 0 tx) _
  refine g_iload_n (i := 1) dd_47_10 rfl ?_
  exact g_ireturn rfl dd_47_11
theorem rinn {h : am_H} {x lo hi : Nat} (hlo : lo < 2147483648) (hx : 2147483648 ≤ x) (hx2 : x < 4294967296) : am_EG mi_133 [.retAddr x, .retAddr lo, .retAddr hi] h (some (.retAddr 0), h) := by
  refine am_enter (n := 0) tk_133.2.1 (by simp [Value.category]) (Nat.le_of_ble_eq_true rfl) ?_
  show am_Good mi_133 0 [some (.retAddr x), some (.retAddr lo), some (.retAddr hi)] [] h _
  refine g_iload_n (i := 0) dd_133_0 rfl ?_
  refine g_iload_n (i := 1) dd_133_1 rfl ?_
  refine g_icmp_lt_t (t := 14) dd_133_2 (by decide) (by first | exact sk_lt_t (by omega) (by omega) | exact tk_lt_t (by omega)) ?_
  refine g_iconst dd_133_14 ic_0 ?_
  exact g_zreturn rfl (by first | decide | omega) dd_133_15
theorem rin_u {h : am_H} {u : Nat} (hu : u < 4294967296) (hc : ¬ (32 ≤ u ∧ u ≤ 126)) : am_EG mi_133 [.retAddr u, .retAddr 32, .retAddr 126] h (some (.retAddr 0), h) := by
  by_cases q : u < 2147483648
  · exact rin0 (by decide) hc q
  · exact rinn (by decide) (by omega) hu
theorem mw_a {h : am_H} {f : Nat → Value} {len at_ rl rg z1 z2 z3 z4 z5 z6 tm td y1 y2 y3 y4 y5 y6 u : Nat} (hH : rm_ok h) (hlen : len ≤ 200) (hu : u < 4294967296) (hc : ¬ (32 ≤ u ∧ u ≤ 126)) : am_EG mi_132 [.ref 66, .retAddr u] (rm h f len at_ rl rg z1 z2 z3 z4 z5 z6 tm td y1 y2 y3 y4 y5 y6) (some (.retAddr 4294967295), (rm h f len at_ rl rg z1 z2 z3 z4 z5 z6 tm td y1 y2 y3 y4 y5 y6)) := by
  refine am_enter (n := 0) tk_132.2.1 (by simp [Value.category]) (Nat.le_of_ble_eq_true rfl) ?_
  show am_Good mi_132 0 [some (.ref 66), some (.retAddr u)] [] (rm h f len at_ rl rg z1 z2 z3 z4 z5 z6 tm td y1 y2 y3 y4 y5 y6) _
  refine g_iload_n (i := 1) dd_132_0 rfl ?_
  refine g_bipush dd_132_1 bi_32 ?_
  refine g_bipush dd_132_3 bi_126 ?_
  refine g_static (M' := mi_133) (n := 3) (as := [.retAddr u, .retAddr 32, .retAddr 126]) (st := []) (r1 := (some (.retAddr 0), (rm h f len at_ rl rg z1 z2 z3 z4 z5 z6 tm td y1 y2 y3 y4 y5 y6))) w_1106 w_1107 ⟨lk_133.1, lk_133.2.1, lk_133.2.2, by decide, by decide⟩ rfl (by simp [Value.category]) dd_132_5 (rin_u hu hc) ?_
  show am_Good mi_132 8 [some (.ref 66), some (.retAddr u)] [.retAddr 0] (rm h f len at_ rl rg z1 z2 z3 z4 z5 z6 tm td y1 y2 y3 y4 y5 y6) _
  refine g_if_ne_f (t := 13) dd_132_8 (by decide) (by decide) ?_
  refine g_iconst dd_132_11 ic_m1 ?_
  exact g_ireturn rfl dd_132_12
theorem mw_b {h : am_H} {f : Nat → Value} {len at_ rl rg z1 z2 z3 z4 z5 z6 tm td y1 y2 y3 y4 y5 y6 u : Nat} (hH : rm_ok h) (hlen : len ≤ 200) (hu : u < 4294967296) (hc : 32 ≤ u ∧ u ≤ 126) (hl : len = 200) : am_EG mi_132 [.ref 66, .retAddr u] (rm h f len at_ rl rg z1 z2 z3 z4 z5 z6 tm td y1 y2 y3 y4 y5 y6) (some (.retAddr 4294967293), (rm h f len at_ rl rg z1 z2 z3 z4 z5 z6 tm td y1 y2 y3 y4 y5 y6)) := by
  refine am_enter (n := 0) tk_132.2.1 (by simp [Value.category]) (Nat.le_of_ble_eq_true rfl) ?_
  show am_Good mi_132 0 [some (.ref 66), some (.retAddr u)] [] (rm h f len at_ rl rg z1 z2 z3 z4 z5 z6 tm td y1 y2 y3 y4 y5 y6) _
  refine g_iload_n (i := 1) dd_132_0 rfl ?_
  refine g_bipush dd_132_1 bi_32 ?_
  refine g_bipush dd_132_3 bi_126 ?_
  refine g_static (M' := mi_133) (n := 3) (as := [.retAddr u, .retAddr 32, .retAddr 126]) (st := []) (r1 := (some (.retAddr 1), (rm h f len at_ rl rg z1 z2 z3 z4 z5 z6 tm td y1 y2 y3 y4 y5 y6))) w_1106 w_1107 ⟨lk_133.1, lk_133.2.1, lk_133.2.2, by decide, by decide⟩ rfl (by simp [Value.category]) dd_132_5 (rin1 (by decide) hc (by decide)) ?_
  show am_Good mi_132 8 [some (.ref 66), some (.retAddr u)] [.retAddr 1] (rm h f len at_ rl rg z1 z2 z3 z4 z5 z6 tm td y1 y2 y3 y4 y5 y6) _
  refine g_if_ne_t (t := 13) dd_132_8 (by decide) (by decide) ?_
  refine g_aload_n (i := 0) dd_132_13 rfl ?_
  refine g_getfield (k := 15) am_ck12 (by decide) (Or.inl w_950) dd_132_14 (rm_g66 hH) rfl ?_
  refine g_sipush dd_132_17 si_200 ?_
  refine g_icmp_ne_f (t := 26) dd_132_20 (by decide) (tk_ne_f (by omega)) ?_
  refine g_bipush dd_132_23 bi_m3 ?_
  exact g_ireturn rfl dd_132_25
theorem mw_c {h : am_H} {f : Nat → Value} {len at_ rl rg z1 z2 z3 z4 z5 z6 tm td y1 y2 y3 y4 y5 y6 u : Nat} (hH : rm_ok h) (hlen : len ≤ 200) (hu : u < 4294967296) (hc : 32 ≤ u ∧ u ≤ 126) (hl : len < 200) : am_EG mi_132 [.ref 66, .retAddr u] (rm h f len at_ rl rg z1 z2 z3 z4 z5 z6 tm td y1 y2 y3 y4 y5 y6) (some (.retAddr (len + 1)), (rm h f (len + 1) at_ rl rg z1 z2 z3 z4 z5 z6 (am_as tm len u) td y1 y2 y3 y4 y5 y6)) := by
  refine am_enter (n := 0) tk_132.2.1 (by simp [Value.category]) (Nat.le_of_ble_eq_true rfl) ?_
  show am_Good mi_132 0 [some (.ref 66), some (.retAddr u)] [] (rm h f len at_ rl rg z1 z2 z3 z4 z5 z6 tm td y1 y2 y3 y4 y5 y6) _
  refine g_iload_n (i := 1) dd_132_0 rfl ?_
  refine g_bipush dd_132_1 bi_32 ?_
  refine g_bipush dd_132_3 bi_126 ?_
  refine g_static (M' := mi_133) (n := 3) (as := [.retAddr u, .retAddr 32, .retAddr 126]) (st := []) (r1 := (some (.retAddr 1), (rm h f len at_ rl rg z1 z2 z3 z4 z5 z6 tm td y1 y2 y3 y4 y5 y6))) w_1106 w_1107 ⟨lk_133.1, lk_133.2.1, lk_133.2.2, by decide, by decide⟩ rfl (by simp [Value.category]) dd_132_5 (rin1 (by decide) hc (by decide)) ?_
  show am_Good mi_132 8 [some (.ref 66), some (.retAddr u)] [.retAddr 1] (rm h f len at_ rl rg z1 z2 z3 z4 z5 z6 tm td y1 y2 y3 y4 y5 y6) _
  refine g_if_ne_t (t := 13) dd_132_8 (by decide) (by decide) ?_
  refine g_aload_n (i := 0) dd_132_13 rfl ?_
  refine g_getfield (k := 15) am_ck12 (by decide) (Or.inl w_950) dd_132_14 (rm_g66 hH) rfl ?_
  refine g_sipush dd_132_17 si_200 ?_
  refine g_icmp_ne_t (t := 26) dd_132_20 (by decide) (tk_ne_t (by omega)) ?_
  refine g_aload_n (i := 0) dd_132_26 rfl ?_
  refine g_getfield (k := 14) am_ck12 (by decide) (Or.inl w_949) dd_132_27 (rm_g66 hH) rfl ?_
  refine g_aload_n (i := 0) dd_132_30 rfl ?_
  refine g_getfield (k := 15) am_ck12 (by decide) (Or.inl w_950) dd_132_31 (rm_g66 hH) rfl ?_
  refine g_iload_n (i := 1) dd_132_34 rfl ?_
  refine g_iastore dd_132_35 (rm_g73 hH) (by omega) (by decide) ?_
  refine am_heq (rm_u73 hH) ?_
  show am_Good mi_132 36 [some (.ref 66), some (.retAddr u)] [] (rm h f len at_ rl rg z1 z2 z3 z4 z5 z6 (am_as tm len u) td y1 y2 y3 y4 y5 y6) _
  refine g_aload_n (i := 0) dd_132_36 rfl ?_
  refine g_dup dd_132_37 rfl ?_
  refine g_getfield (k := 15) am_ck12 (by decide) (Or.inl w_950) dd_132_38 (rm_g66 hH) rfl ?_
  refine g_iconst dd_132_41 ic_1 ?_
  refine e_iadd (v := len + 1) dd_132_42 (by omega) ?_
  refine g_putfield (k := 15) am_ck12 (by decide) (Or.inl w_950) (Or.inl rfl) dd_132_43 (rm_g66 hH) (Nat.le_of_ble_eq_true rfl) trivial ?_
  refine am_heq (rm_u66 hH) ?_
  show am_Good mi_132 46 [some (.ref 66), some (.retAddr u)] [] (rm h f (len + 1) at_ rl rg z1 z2 z3 z4 z5 z6 (am_as tm len u) td y1 y2 y3 y4 y5 y6) _
  refine g_aload_n (i := 0) dd_132_46 rfl ?_
  refine g_getfield (k := 15) am_ck12 (by decide) (Or.inl w_950) dd_132_47 (rm_g66 hH) rfl ?_
  exact g_ireturn rfl dd_132_50
theorem mw_i {h : am_H} {f : Nat → Value} {len at_ rl rg z1 z2 z3 z4 z5 z6 tm td y1 y2 y3 y4 y5 y6 : Nat} (hH : rm_ok h) : am_EG mi_134 [.ref 66] (rm h f len at_ rl rg z1 z2 z3 z4 z5 z6 tm td y1 y2 y3 y4 y5 y6) (some (.retAddr len), (rm h f 0 at_ rl rg z1 z2 z3 z4 z5 z6 tm td y1 y2 y3 y4 y5 y6)) := by
  refine am_enter (n := 1) tk_134.2.1 (by simp [Value.category]) (Nat.le_of_ble_eq_true rfl) ?_
  show am_Good mi_134 0 [some (.ref 66), none] [] (rm h f len at_ rl rg z1 z2 z3 z4 z5 z6 tm td y1 y2 y3 y4 y5 y6) _
  refine g_aload_n (i := 0) dd_134_0 rfl ?_
  refine g_getfield (k := 15) am_ck12 (by decide) (Or.inl w_950) dd_134_1 (rm_g66 hH) rfl ?_
  refine g_istore_n (i := 1) dd_134_4 (am_nlb_ok rfl) (by decide) ?_
  refine g_aload_n (i := 0) dd_134_5 rfl ?_
  refine g_iconst dd_134_6 ic_0 ?_
  refine g_putfield (k := 15) am_ck12 (by decide) (Or.inl w_950) (Or.inl rfl) dd_134_7 (rm_g66 hH) (Nat.le_of_ble_eq_true rfl) trivial ?_
  refine am_heq (rm_u66 hH) ?_
  show am_Good mi_134 10 [some (.ref 66), some (.retAddr len)] [] (rm h f 0 at_ rl rg z1 z2 z3 z4 z5 z6 tm td y1 y2 y3 y4 y5 y6) _
  refine g_iload_n (i := 1) dd_134_10 rfl ?_
  exact g_ireturn rfl dd_134_11
theorem ow0_c0 {h : am_H} (hI : ax_I sb0 h) : am_get h 0 = some (.inr (11, [.ref 1, .retAddr (fldv h 0 1), valv h 0 2, valv h 0 3, valv h 0 4, valv h 0 5, valv h 0 6, valv h 0 7, valv h 0 8, valv h 0 9, valv h 0 10, valv h 0 11, valv h 0 12, valv h 0 13, valv h 0 14, valv h 0 15, valv h 0 16])) := by
  refine obj_ls hI rfl rfl (fun k hk => ?_)
  match k, hk with
  | 0, _ => exact ref_in hI rfl rfl
  | 1, _ => exact (fld_in hI rfl rfl).1
  | 2, _ => exact val_in hI rfl (Nat.le_of_ble_eq_true rfl)
  | 3, _ => exact val_in hI rfl (Nat.le_of_ble_eq_true rfl)
  | 4, _ => exact val_in hI rfl (Nat.le_of_ble_eq_true rfl)
  | 5, _ => exact val_in hI rfl (Nat.le_of_ble_eq_true rfl)
  | 6, _ => exact val_in hI rfl (Nat.le_of_ble_eq_true rfl)
  | 7, _ => exact val_in hI rfl (Nat.le_of_ble_eq_true rfl)
  | 8, _ => exact val_in hI rfl (Nat.le_of_ble_eq_true rfl)
  | 9, _ => exact val_in hI rfl (Nat.le_of_ble_eq_true rfl)
  | 10, _ => exact val_in hI rfl (Nat.le_of_ble_eq_true rfl)
  | 11, _ => exact val_in hI rfl (Nat.le_of_ble_eq_true rfl)
  | 12, _ => exact val_in hI rfl (Nat.le_of_ble_eq_true rfl)
  | 13, _ => exact val_in hI rfl (Nat.le_of_ble_eq_true rfl)
  | 14, _ => exact val_in hI rfl (Nat.le_of_ble_eq_true rfl)
  | 15, _ => exact val_in hI rfl (Nat.le_of_ble_eq_true rfl)
  | 16, _ => exact val_in hI rfl (Nat.le_of_ble_eq_true rfl)
  | k + 17, hk => exact absurd hk (Nat.not_lt.mpr (Nat.le_add_left _ _))
theorem ow0_c1 {h : am_H} (hI : ax_I sb0 h) : am_get h 1 = some (.inl (1, 200, rowv h 1)) := (row_in hI rfl).1
theorem ow0_ok {h : am_H} (hI : ax_I sb0 h) : wx_ok h := ⟨⟨_, ow0_c0 hI⟩, ⟨_, ow0_c1 hI⟩, trivial⟩
theorem ow0_own {h : am_H} (hI : ax_I sb0 h) : wx h (valv h 0) (fldv h 0 1) (rowv h 1) = h := by
  unfold wx
  exact am_ups_00 ⟨ow0_c0 hI, ow0_c1 hI, trivial⟩
theorem ow0_I {h : am_H} (hI : ax_I sb0 h) {len tx : Nat} (hl : len ≤ 200) (ht : ∀ i, i < 200 → am_ag tx i ≤ 126) : ax_I sb0 (wx h (valv h 0) len tx) := by
  have k0 := ow0_ok hI
  unfold wx
  refine ax_I_ups hI ?_ ⟨ok_at rfl (ok_set (k := 1) (ok_own hI rfl (ow0_c0 hI)) rfl (ax_in_1 (by omega) (Nat.zero_le _) hl)), ok_at rfl (ok_row1 (by decide) ht), trivial⟩
  exact k0
theorem ow0_M {h : am_H} (hI : ax_I sb0 h) (hm : ax_I sbm h) {f : Nat → Value} {len tx : Nat} : ax_I sbm (wx h f len tx) := by
  have k0 := ow0_ok hI
  unfold wx
  refine ax_I_ups hm ?_ ⟨ok_none rfl, ok_none rfl, trivial⟩
  exact k0
theorem ow1_c0 {h : am_H} (hI : ax_I sb1 h) : am_get h 0 = some (.inr (11, [.ref 1, .retAddr (fldv h 0 1), valv h 0 2, valv h 0 3, valv h 0 4, valv h 0 5, valv h 0 6, valv h 0 7, valv h 0 8, valv h 0 9, valv h 0 10, valv h 0 11, valv h 0 12, valv h 0 13, valv h 0 14, valv h 0 15, valv h 0 16])) := by
  refine obj_ls hI rfl rfl (fun k hk => ?_)
  match k, hk with
  | 0, _ => exact ref_in hI rfl rfl
  | 1, _ => exact (fld_in hI rfl rfl).1
  | 2, _ => exact val_in hI rfl (Nat.le_of_ble_eq_true rfl)
  | 3, _ => exact val_in hI rfl (Nat.le_of_ble_eq_true rfl)
  | 4, _ => exact val_in hI rfl (Nat.le_of_ble_eq_true rfl)
  | 5, _ => exact val_in hI rfl (Nat.le_of_ble_eq_true rfl)
  | 6, _ => exact val_in hI rfl (Nat.le_of_ble_eq_true rfl)
  | 7, _ => exact val_in hI rfl (Nat.le_of_ble_eq_true rfl)
  | 8, _ => exact val_in hI rfl (Nat.le_of_ble_eq_true rfl)
  | 9, _ => exact val_in hI rfl (Nat.le_of_ble_eq_true rfl)
  | 10, _ => exact val_in hI rfl (Nat.le_of_ble_eq_true rfl)
  | 11, _ => exact val_in hI rfl (Nat.le_of_ble_eq_true rfl)
  | 12, _ => exact val_in hI rfl (Nat.le_of_ble_eq_true rfl)
  | 13, _ => exact val_in hI rfl (Nat.le_of_ble_eq_true rfl)
  | 14, _ => exact val_in hI rfl (Nat.le_of_ble_eq_true rfl)
  | 15, _ => exact val_in hI rfl (Nat.le_of_ble_eq_true rfl)
  | 16, _ => exact val_in hI rfl (Nat.le_of_ble_eq_true rfl)
  | k + 17, hk => exact absurd hk (Nat.not_lt.mpr (Nat.le_add_left _ _))
theorem ow1_c1 {h : am_H} (hI : ax_I sb1 h) : am_get h 1 = some (.inl (1, 200, rowv h 1)) := (row_in hI rfl).1
theorem ow1_ok {h : am_H} (hI : ax_I sb1 h) : wx_ok h := ⟨⟨_, ow1_c0 hI⟩, ⟨_, ow1_c1 hI⟩, trivial⟩
theorem ow1_own {h : am_H} (hI : ax_I sb1 h) : wx h (valv h 0) (fldv h 0 1) (rowv h 1) = h := by
  unfold wx
  exact am_ups_00 ⟨ow1_c0 hI, ow1_c1 hI, trivial⟩
theorem ow1_I {h : am_H} (hI : ax_I sb1 h) {len tx : Nat} (hl : len ≤ 200) (ht : ∀ i, i < 200 → am_ag tx i ≤ 126) : ax_I sb1 (wx h (valv h 0) len tx) := by
  have k0 := ow1_ok hI
  unfold wx
  refine ax_I_ups hI ?_ ⟨ok_at rfl (ok_set (k := 1) (ok_own hI rfl (ow1_c0 hI)) rfl (ax_in_1 (by omega) (Nat.zero_le _) hl)), ok_at rfl (ok_row1 (by decide) ht), trivial⟩
  exact k0
theorem ow1_M {h : am_H} (hI : ax_I sb1 h) (hm : ax_I sbm h) {f : Nat → Value} {len tx : Nat} : ax_I sbm (wx h f len tx) := by
  have k0 := ow1_ok hI
  unfold wx
  refine ax_I_ups hm ?_ ⟨ok_none rfl, ok_none rfl, trivial⟩
  exact k0
theorem om_W {h : am_H} (hI : ax_I sbm h) {len tm : Nat} (hl : len ≤ 200) (ht : ∀ i, i < 200 → am_ag tm i ≤ 126) : ax_I sbm (rm h (valv h 66) len (fldv h 66 16) (fldv h 66 18) (fldv h 66 19) (fldv h 66 20) (fldv h 66 22) (fldv h 66 24) (fldv h 66 26) (fldv h 66 28) (fldv h 66 30) tm (rowv h 74) (rowv h 75) (rowv h 76) (rowv h 77) (rowv h 78) (rowv h 79) (rowv h 80)) := by
  have k0 := om_ok hI
  unfold rm
  refine ax_I_ups hI ?_ ⟨ok_at rfl (ok_set (k := 15) (ok_own hI rfl (om_c66 hI)) rfl (ax_in_1 (by omega) (Nat.zero_le _) hl)), ok_at rfl (ok_row1 (by decide) ht), ok_at rfl (ok_own hI rfl (om_c74 hI)), ok_at rfl (ok_own hI rfl (om_c75 hI)), ok_at rfl (ok_own hI rfl (om_c76 hI)), ok_at rfl (ok_own hI rfl (om_c77 hI)), ok_at rfl (ok_own hI rfl (om_c78 hI)), ok_at rfl (ok_own hI rfl (om_c79 hI)), ok_at rfl (ok_own hI rfl (om_c80 hI)), trivial⟩
  exact k0
theorem jq_rm {g g' : am_H} (hQ : jv_Q g') {len at_ rl rg z1 z2 z3 z4 z5 z6 tm td y1 y2 y3 y4 y5 y6 : Nat} (hm : ax_I sbm g) (e66 : am_get g 66 = am_get g' 66) (e86 : am_get g 86 = am_get g' 86) : jv_Q (rm g (valv g 66) len at_ rl rg z1 z2 z3 z4 z5 z6 tm td y1 y2 y3 y4 y5 y6) := by
  obtain ⟨a, k, x, q1, q2, q3, q4⟩ := hQ
  have hM := om_ok hm
  refine ⟨a, k, x, ?_, ?_, ?_, q4⟩
  · unfold ax_fv
    rw [rm_g66 hM]
    show some (valv g 66 42) = _
    rw [valv_fv (v := .retAddr a) (by rw [ax_fv_get e66]; exact q1)]
  · unfold ax_fv
    rw [rm_g66 hM]
    show some (valv g 66 40) = _
    rw [valv_fv (v := .retAddr k) (by rw [ax_fv_get e66]; exact q2)]
  · rw [rm_o hM rfl, e86]
    exact q3
theorem jt_0 {h : am_H} (hI : ax_I sb0 h) (hm : ax_I sbm h) {n : Nat} (t1 : ax_fv h 0 1 = some (.retAddr n)) (t2 : ax_fv h 66 15 = some (.retAddr n)) (hQ : jv_Q h) (hK : jv_K h) {jx jm v n' tx' tm' : Nat} {as : List Value} (hn : n' ≤ 200) (hx : ∀ i, i < 200 → am_ag tx' i ≤ 126) (hm' : ∀ i, i < 200 → am_ag tm' i ≤ 126) (al : ∀ i, i < n' → am_ag tx' i = am_ag tm' i) (ex : am_EG (am_mi jx) (.ref 0 :: as) (wx h (valv h 0) n (rowv h 1)) (some (.retAddr v), wx h (valv h 0) n' tx')) (em : ∀ {g : am_H} {f : Nat → Value} {at_ rl rg z1 z2 z3 z4 z5 z6 td y1 y2 y3 y4 y5 y6 : Nat}, rm_ok g → am_EG (am_mi jm) (.ref 66 :: as) (rm g f n at_ rl rg z1 z2 z3 z4 z5 z6 (rowv h 73) td y1 y2 y3 y4 y5 y6) (some (.retAddr v), (rm g f (n') at_ rl rg z1 z2 z3 z4 z5 z6 (tm') td y1 y2 y3 y4 y5 y6))) : ∃ v h1 w h2, am_EG (am_mi jx) (.ref 0 :: as) h (some (.retAddr v), h1) ∧ am_EG (am_mi jm) (.ref 66 :: as) h1 (some (.retAddr w), h2) ∧ (true = true → v = w) ∧ Jv h2 ∧ (∃ fs, am_get h 0 = some (.inr (11, fs))) ∧ (∃ fs, am_get h1 66 = some (.inr (12, fs))) ∧ (h1.1 = h.1 ∧ h1.2.1 = h.2.1) ∧ h2.1 = h1.1 ∧ h2.2.1 = h1.2.1 := by
  have hX := ow0_ok hI
  have own := ow0_own hI
  rw [fldv_fv t1] at own
  rw [own] at ex
  have i1 := ow0_I hI hn hx
  have m1 : ax_I sbm (wx h (valv h 0) n' tx') := ow0_M hI hm
  have o66 : am_get (wx h (valv h 0) n' tx') 66 = am_get h 66 := wx_o hX rfl
  have o73 : am_get (wx h (valv h 0) n' tx') 73 = am_get h 73 := wx_o hX rfl
  have o86 : am_get (wx h (valv h 0) n' tx') 86 = am_get h 86 := wx_o hX rfl
  have s0 : (wx h (valv h 0) n' tx').1 = h.1 ∧ (wx h (valv h 0) n' tx').2.1 = h.2.1 := by unfold wx; exact am_ups_1 _
  have g0 : am_get (wx h (valv h 0) n' tx') 0 = _ := wx_g0 hX
  have g1 : am_get (wx h (valv h 0) n' tx') 1 = _ := wx_g1 hX
  have kp1 : kp h (wx h (valv h 0) n' tx') 4 := kp_ck [0, 1] (fun a ha => wx_o hX ha) (by decide) (fun k _ => ax_fv_get o66 k)
  generalize wx h (valv h 0) n' tx' = h1 at ex i1 m1 o66 o73 o86 s0 g0 g1 kp1
  have hM := om_ok m1
  have own2 := om_own m1
  rw [fldv_fv (h := h1) (a := 66) (k := 15) (n := n) (by rw [ax_fv_get o66]; exact t2), rowv_get o73] at own2
  have e2 := em (g := h1) (f := valv h1 66) (at_ := (fldv h1 66 16)) (rl := (fldv h1 66 18)) (rg := (fldv h1 66 19)) (z1 := (fldv h1 66 20)) (z2 := (fldv h1 66 22)) (z3 := (fldv h1 66 24)) (z4 := (fldv h1 66 26)) (z5 := (fldv h1 66 28)) (z6 := (fldv h1 66 30)) (td := (rowv h1 74)) (y1 := (rowv h1 75)) (y2 := (rowv h1 76)) (y3 := (rowv h1 77)) (y4 := (rowv h1 78)) (y5 := (rowv h1 79)) (y6 := (rowv h1 80)) hM
  rw [own2] at e2
  have m2 := om_W m1 hn hm'
  have x2 : ax_I sb0 (rm h1 (valv h1 66) (n') (fldv h1 66 16) (fldv h1 66 18) (fldv h1 66 19) (fldv h1 66 20) (fldv h1 66 22) (fldv h1 66 24) (fldv h1 66 26) (fldv h1 66 28) (fldv h1 66 30) (tm') (rowv h1 74) (rowv h1 75) (rowv h1 76) (rowv h1 77) (rowv h1 78) (rowv h1 79) (rowv h1 80)) := om_X0 m1 i1
  have q2 : jv_Q (rm h1 (valv h1 66) (n') (fldv h1 66 16) (fldv h1 66 18) (fldv h1 66 19) (fldv h1 66 20) (fldv h1 66 22) (fldv h1 66 24) (fldv h1 66 26) (fldv h1 66 28) (fldv h1 66 30) (tm') (rowv h1 74) (rowv h1 75) (rowv h1 76) (rowv h1 77) (rowv h1 78) (rowv h1 79) (rowv h1 80)) := jq_rm hQ m1 o66 o86
  refine ⟨v, h1, v, _, ex, e2, fun _ => rfl, ⟨⟨Or.inl x2, m2⟩, ⟨n', ?_, ?_, tx', tm', ?_, rm_g73 hM, al, ?_⟩, q2⟩, ⟨_, ow0_c0 hI⟩, ⟨_, om_c66 m1⟩, s0, ?_⟩
  · unfold ax_fv
    rw [rm_o hM rfl, g0]
    rfl
  · unfold ax_fv
    rw [rm_g66 hM]
    rfl
  · rw [rm_o hM rfl, g1]
  · obtain ⟨⟨k, y1, y2⟩, hE⟩ := hK
    refine ⟨⟨k, ?_, ?_⟩, jv_E_0 i1 x2 (kp_ck [66, 73, 74, 75, 76, 77, 78, 79, 80] (fun a ha => rm_o hM ha) (by decide) (om_fm m1)) (jv_E_0 hI i1 kp1 hE)⟩
    · unfold ax_fv
      rw [rm_o hM rfl, g0]
      show some (valv h 0 16) = _
      rw [valv_fv y1]
    · unfold ax_fv
      rw [rm_g66 hM]
      show some (valv h1 66 53) = _
      rw [valv_fv (v := .retAddr k) (by rw [ax_fv_get o66]; exact y2)]
  · unfold rm
    exact am_ups_1 _
theorem jt_1 {h : am_H} (hI : ax_I sb1 h) (hm : ax_I sbm h) {n : Nat} (t1 : ax_fv h 0 1 = some (.retAddr n)) (t2 : ax_fv h 66 15 = some (.retAddr n)) (hQ : jv_Q h) (hK : jv_K h) {jx jm v n' tx' tm' : Nat} {as : List Value} (hn : n' ≤ 200) (hx : ∀ i, i < 200 → am_ag tx' i ≤ 126) (hm' : ∀ i, i < 200 → am_ag tm' i ≤ 126) (al : ∀ i, i < n' → am_ag tx' i = am_ag tm' i) (ex : am_EG (am_mi jx) (.ref 0 :: as) (wx h (valv h 0) n (rowv h 1)) (some (.retAddr v), wx h (valv h 0) n' tx')) (em : ∀ {g : am_H} {f : Nat → Value} {at_ rl rg z1 z2 z3 z4 z5 z6 td y1 y2 y3 y4 y5 y6 : Nat}, rm_ok g → am_EG (am_mi jm) (.ref 66 :: as) (rm g f n at_ rl rg z1 z2 z3 z4 z5 z6 (rowv h 73) td y1 y2 y3 y4 y5 y6) (some (.retAddr v), (rm g f (n') at_ rl rg z1 z2 z3 z4 z5 z6 (tm') td y1 y2 y3 y4 y5 y6))) : ∃ v h1 w h2, am_EG (am_mi jx) (.ref 0 :: as) h (some (.retAddr v), h1) ∧ am_EG (am_mi jm) (.ref 66 :: as) h1 (some (.retAddr w), h2) ∧ (true = true → v = w) ∧ Jv h2 ∧ (∃ fs, am_get h 0 = some (.inr (11, fs))) ∧ (∃ fs, am_get h1 66 = some (.inr (12, fs))) ∧ (h1.1 = h.1 ∧ h1.2.1 = h.2.1) ∧ h2.1 = h1.1 ∧ h2.2.1 = h1.2.1 := by
  have hX := ow1_ok hI
  have own := ow1_own hI
  rw [fldv_fv t1] at own
  rw [own] at ex
  have i1 := ow1_I hI hn hx
  have m1 : ax_I sbm (wx h (valv h 0) n' tx') := ow1_M hI hm
  have o66 : am_get (wx h (valv h 0) n' tx') 66 = am_get h 66 := wx_o hX rfl
  have o73 : am_get (wx h (valv h 0) n' tx') 73 = am_get h 73 := wx_o hX rfl
  have o86 : am_get (wx h (valv h 0) n' tx') 86 = am_get h 86 := wx_o hX rfl
  have s0 : (wx h (valv h 0) n' tx').1 = h.1 ∧ (wx h (valv h 0) n' tx').2.1 = h.2.1 := by unfold wx; exact am_ups_1 _
  have g0 : am_get (wx h (valv h 0) n' tx') 0 = _ := wx_g0 hX
  have g1 : am_get (wx h (valv h 0) n' tx') 1 = _ := wx_g1 hX
  have kp1 : kp h (wx h (valv h 0) n' tx') 17 := kp_ck [0, 1] (fun a ha => wx_o hX ha) (by decide) (fun k _ => ax_fv_get o66 k)
  generalize wx h (valv h 0) n' tx' = h1 at ex i1 m1 o66 o73 o86 s0 g0 g1 kp1
  have hM := om_ok m1
  have own2 := om_own m1
  rw [fldv_fv (h := h1) (a := 66) (k := 15) (n := n) (by rw [ax_fv_get o66]; exact t2), rowv_get o73] at own2
  have e2 := em (g := h1) (f := valv h1 66) (at_ := (fldv h1 66 16)) (rl := (fldv h1 66 18)) (rg := (fldv h1 66 19)) (z1 := (fldv h1 66 20)) (z2 := (fldv h1 66 22)) (z3 := (fldv h1 66 24)) (z4 := (fldv h1 66 26)) (z5 := (fldv h1 66 28)) (z6 := (fldv h1 66 30)) (td := (rowv h1 74)) (y1 := (rowv h1 75)) (y2 := (rowv h1 76)) (y3 := (rowv h1 77)) (y4 := (rowv h1 78)) (y5 := (rowv h1 79)) (y6 := (rowv h1 80)) hM
  rw [own2] at e2
  have m2 := om_W m1 hn hm'
  have x2 : ax_I sb1 (rm h1 (valv h1 66) (n') (fldv h1 66 16) (fldv h1 66 18) (fldv h1 66 19) (fldv h1 66 20) (fldv h1 66 22) (fldv h1 66 24) (fldv h1 66 26) (fldv h1 66 28) (fldv h1 66 30) (tm') (rowv h1 74) (rowv h1 75) (rowv h1 76) (rowv h1 77) (rowv h1 78) (rowv h1 79) (rowv h1 80)) := om_X1 m1 i1
  have q2 : jv_Q (rm h1 (valv h1 66) (n') (fldv h1 66 16) (fldv h1 66 18) (fldv h1 66 19) (fldv h1 66 20) (fldv h1 66 22) (fldv h1 66 24) (fldv h1 66 26) (fldv h1 66 28) (fldv h1 66 30) (tm') (rowv h1 74) (rowv h1 75) (rowv h1 76) (rowv h1 77) (rowv h1 78) (rowv h1 79) (rowv h1 80)) := jq_rm hQ m1 o66 o86
  refine ⟨v, h1, v, _, ex, e2, fun _ => rfl, ⟨⟨Or.inr x2, m2⟩, ⟨n', ?_, ?_, tx', tm', ?_, rm_g73 hM, al, ?_⟩, q2⟩, ⟨_, ow1_c0 hI⟩, ⟨_, om_c66 m1⟩, s0, ?_⟩
  · unfold ax_fv
    rw [rm_o hM rfl, g0]
    rfl
  · unfold ax_fv
    rw [rm_g66 hM]
    rfl
  · rw [rm_o hM rfl, g1]
  · obtain ⟨⟨k, y1, y2⟩, hE⟩ := hK
    refine ⟨⟨k, ?_, ?_⟩, jv_E_1 i1 x2 (kp_ck [66, 73, 74, 75, 76, 77, 78, 79, 80] (fun a ha => rm_o hM ha) (by decide) (om_fm m1)) (jv_E_1 hI i1 kp1 hE)⟩
    · unfold ax_fv
      rw [rm_o hM rfl, g0]
      show some (valv h 0 16) = _
      rw [valv_fv y1]
    · unfold ax_fv
      rw [rm_g66 hM]
      show some (valv h1 66 53) = _
      rw [valv_fv (v := .retAddr k) (by rw [ax_fv_get o66]; exact y2)]
  · unfold rm
    exact am_ups_1 _
theorem jt_as {x b u n : Nat} (hu : u ≤ b) (hb : b < 4294967296) (h : ∀ i, i < 200 → am_ag x i ≤ b) : ∀ i, i < 200 → am_ag (am_as x n u) i ≤ b := fun i hi => by
  rw [am_ag_as]
  by_cases q : i = n
  · rw [if_pos q, Nat.mod_eq_of_lt (by omega)]; exact hu
  · rw [if_neg q]; exact h i hi
theorem jt_al {x y u n : Nat} (h : ∀ i, i < n → am_ag x i = am_ag y i) : ∀ i, i < n + 1 → am_ag (am_as x n u) i = am_ag (am_as y n u) i := fun i hi => by
  rw [am_ag_as, am_ag_as]
  by_cases q : i = n
  · rw [if_pos q, if_pos q]
  · rw [if_neg q, if_neg q]; exact h i (by omega)
theorem jb_write (u : Nat) (hu : u < 4294967296) : am_B2 Jv true 46 132 [.retAddr u] := by
  intro h hJ
  obtain ⟨⟨hI, hm⟩, ⟨n, t1, t2, t3⟩, hQ⟩ := hJ
  have hn := jw_200 ⟨hI, hm⟩ t2
  rcases hI with hI | hI
  · obtain ⟨tx, tm, x1, x2, x3, hK⟩ := t3
    have e1 : rowv h 1 = tx := by unfold rowv; rw [x1]
    have e2 : rowv h 73 = tm := by unfold rowv; rw [x2]
    have b1 : ∀ i, i < 200 → am_ag (rowv h 1) i ≤ 126 := row1_le hI rfl
    have b2 : ∀ i, i < 200 → am_ag (rowv h 73) i ≤ 126 := row1_le hm rfl
    have al : ∀ i, i < n → am_ag (rowv h 1) i = am_ag (rowv h 73) i := by rw [e1, e2]; exact x3
    have hX := ow0_ok hI
    by_cases hc : 32 ≤ u ∧ u ≤ 126
    · by_cases h2 : n = 200
      · exact jt_0 hI hm t1 t2 hQ hK hn b1 b2 al (wx_b hX hn hu hc h2) (fun hM => mw_b hM hn hu hc h2)
      · exact jt_0 hI hm t1 t2 hQ hK (by omega) (jt_as hc.2 (by decide) b1) (jt_as hc.2 (by decide) b2) (jt_al al) (wx_c hX hn hu hc (by omega)) (fun hM => mw_c hM hn hu hc (by omega))
    · exact jt_0 hI hm t1 t2 hQ hK hn b1 b2 al (wx_a hX hn hu hc) (fun hM => mw_a hM hn hu hc)
  · obtain ⟨tx, tm, x1, x2, x3, hK⟩ := t3
    have e1 : rowv h 1 = tx := by unfold rowv; rw [x1]
    have e2 : rowv h 73 = tm := by unfold rowv; rw [x2]
    have b1 : ∀ i, i < 200 → am_ag (rowv h 1) i ≤ 126 := row1_le hI rfl
    have b2 : ∀ i, i < 200 → am_ag (rowv h 73) i ≤ 126 := row1_le hm rfl
    have al : ∀ i, i < n → am_ag (rowv h 1) i = am_ag (rowv h 73) i := by rw [e1, e2]; exact x3
    have hX := ow1_ok hI
    by_cases hc : 32 ≤ u ∧ u ≤ 126
    · by_cases h2 : n = 200
      · exact jt_1 hI hm t1 t2 hQ hK hn b1 b2 al (wx_b hX hn hu hc h2) (fun hM => mw_b hM hn hu hc h2)
      · exact jt_1 hI hm t1 t2 hQ hK (by omega) (jt_as hc.2 (by decide) b1) (jt_as hc.2 (by decide) b2) (jt_al al) (wx_c hX hn hu hc (by omega)) (fun hM => mw_c hM hn hu hc (by omega))
    · exact jt_1 hI hm t1 t2 hQ hK hn b1 b2 al (wx_a hX hn hu hc) (fun hM => mw_a hM hn hu hc)
theorem jb_wipe : am_B2 Jv true 47 134 [] := by
  intro h hJ
  obtain ⟨⟨hI, hm⟩, ⟨n, t1, t2, t3⟩, hQ⟩ := hJ
  rcases hI with hI | hI
  · obtain ⟨tx, tm, x1, x2, x3, hK⟩ := t3
    have e1 : rowv h 1 = tx := by unfold rowv; rw [x1]
    have e2 : rowv h 73 = tm := by unfold rowv; rw [x2]
    have b1 : ∀ i, i < 200 → am_ag (rowv h 1) i ≤ 126 := row1_le hI rfl
    have b2 : ∀ i, i < 200 → am_ag (rowv h 73) i ≤ 126 := row1_le hm rfl
    have al : ∀ i, i < n → am_ag (rowv h 1) i = am_ag (rowv h 73) i := by rw [e1, e2]; exact x3
    have hX := ow0_ok hI
    exact jt_0 hI hm t1 t2 hQ hK (Nat.zero_le _) b1 b2 (fun i hi => absurd hi (Nat.not_lt_zero _)) (wx_i hX) (fun hM => mw_i hM)
  · obtain ⟨tx, tm, x1, x2, x3, hK⟩ := t3
    have e1 : rowv h 1 = tx := by unfold rowv; rw [x1]
    have e2 : rowv h 73 = tm := by unfold rowv; rw [x2]
    have b1 : ∀ i, i < 200 → am_ag (rowv h 1) i ≤ 126 := row1_le hI rfl
    have b2 : ∀ i, i < 200 → am_ag (rowv h 73) i ≤ 126 := row1_le hm rfl
    have al : ∀ i, i < n → am_ag (rowv h 1) i = am_ag (rowv h 73) i := by rw [e1, e2]; exact x3
    have hX := ow1_ok hI
    exact jt_1 hI hm t1 t2 hQ hK (Nat.zero_le _) b1 b2 (fun i hi => absurd hi (Nat.not_lt_zero _)) (wx_i hX) (fun hM => mw_i hM)
theorem ov17_c0 {h : am_H} (hI : ax_I sb0 h) : am_get h 0 = some (.inr (11, [.ref 1, .retAddr (fldv h 0 1), .ref 2, valv h 0 3, .ref 17, valv h 0 5, valv h 0 6, valv h 0 7, valv h 0 8, valv h 0 9, valv h 0 10, valv h 0 11, valv h 0 12, valv h 0 13, valv h 0 14, valv h 0 15, valv h 0 16])) := by
  refine obj_ls hI rfl rfl (fun k hk => ?_)
  match k, hk with
  | 0, _ => exact ref_in hI rfl rfl
  | 1, _ => exact (fld_in hI rfl rfl).1
  | 2, _ => exact ref_in hI rfl rfl
  | 3, _ => exact val_in hI rfl (Nat.le_of_ble_eq_true rfl)
  | 4, _ => exact ref_in hI rfl rfl
  | 5, _ => exact val_in hI rfl (Nat.le_of_ble_eq_true rfl)
  | 6, _ => exact val_in hI rfl (Nat.le_of_ble_eq_true rfl)
  | 7, _ => exact val_in hI rfl (Nat.le_of_ble_eq_true rfl)
  | 8, _ => exact val_in hI rfl (Nat.le_of_ble_eq_true rfl)
  | 9, _ => exact val_in hI rfl (Nat.le_of_ble_eq_true rfl)
  | 10, _ => exact val_in hI rfl (Nat.le_of_ble_eq_true rfl)
  | 11, _ => exact val_in hI rfl (Nat.le_of_ble_eq_true rfl)
  | 12, _ => exact val_in hI rfl (Nat.le_of_ble_eq_true rfl)
  | 13, _ => exact val_in hI rfl (Nat.le_of_ble_eq_true rfl)
  | 14, _ => exact val_in hI rfl (Nat.le_of_ble_eq_true rfl)
  | 15, _ => exact val_in hI rfl (Nat.le_of_ble_eq_true rfl)
  | 16, _ => exact val_in hI rfl (Nat.le_of_ble_eq_true rfl)
  | k + 17, hk => exact absurd hk (Nat.not_lt.mpr (Nat.le_add_left _ _))
theorem x17_flt {h : am_H} {tx N nr mi go z1 c1 z2 c2 z3 c3 z4 c4 z5 c5 z6 c6 res : Nat} {h2 : am_H} (hI : ax_I sb0 h) (e : am_EG mi_13 [.ref 2, .ref 1, .retAddr (fldv h 0 1), .ref 17] (rx17 h tx N nr mi go z1 c1 z2 c2 z3 c3 z4 c4 z5 c5 z6 c6) (some (.retAddr res), h2)) : am_EG mi_48 [.ref 0] (rx17 h tx N nr mi go z1 c1 z2 c2 z3 c3 z4 c4 z5 c5 z6 c6) (some (.retAddr res), h2) := by
  refine am_enter (n := 0) tk_48.2.1 (by simp [Value.category]) (Nat.le_of_ble_eq_true rfl) ?_
  show am_Good mi_48 0 [some (.ref 0)] [] (rx17 h tx N nr mi go z1 c1 z2 c2 z3 c3 z4 c4 z5 c5 z6 c6) _
  have hX := o17_ok hI
  have g0 : am_get (rx17 h tx N nr mi go z1 c1 z2 c2 z3 c3 z4 c4 z5 c5 z6 c6) 0 = some (.inr (11, [.ref 1, .retAddr (fldv h 0 1), .ref 2, valv h 0 3, .ref 17, valv h 0 5, valv h 0 6, valv h 0 7, valv h 0 8, valv h 0 9, valv h 0 10, valv h 0 11, valv h 0 12, valv h 0 13, valv h 0 14, valv h 0 15, valv h 0 16])) := by rw [rx17_o hX rfl]; exact ov17_c0 hI
  refine g_aload_n (i := 0) dd_48_0 rfl ?_
  refine g_getfield (k := 2) am_ck11 (by decide) (Or.inl w_513) dd_48_1 g0 rfl ?_
  refine g_aload_n (i := 0) dd_48_4 rfl ?_
  refine g_getfield (k := 0) am_ck11 (by decide) (Or.inl w_511) dd_48_5 g0 rfl ?_
  refine g_aload_n (i := 0) dd_48_8 rfl ?_
  refine g_getfield (k := 1) am_ck11 (by decide) (Or.inl w_512) dd_48_9 g0 rfl ?_
  refine g_aload_n (i := 0) dd_48_12 rfl ?_
  refine g_getfield (k := 4) am_ck11 (by decide) (Or.inl w_515) dd_48_13 g0 rfl ?_
  refine g_virtual (M' := mi_13) (n := 3) (ci := 6) (b := 2) (as := [.ref 1, .retAddr (fldv h 0 1), .ref 17]) (st := []) (r1 := (some (.retAddr res), h2)) w_380 w_381 w_382 ⟨lk_13.1, lk_13.2.1, lk_13.2.2, by decide, by decide⟩ rfl (rx17_g2 hX) rfl (by simp [Value.category]) dd_48_16 (e) ?_
  show am_Good mi_48 19 [some (.ref 0)] [.retAddr res] h2 _
  exact g_ireturn rfl dd_48_19
theorem jf_17 {h : am_H} (hI : ax_I sb0 h) (hm : ax_I sbm h) {n : Nat} (t1 : ax_fv h 0 1 = some (.retAddr n)) (t2 : ax_fv h 66 15 = some (.retAddr n)) (t3 : jv_X h n) (hQ : jv_Q h) : ∃ v h1 w h2, am_EG (am_mi 48) [.ref 0] h (some (.retAddr v), h1) ∧ am_EG (am_mi 135) [.ref 66] h1 (some (.retAddr w), h2) ∧ (true = true → v = w) ∧ Jv h2 ∧ (∃ fs, am_get h 0 = some (.inr (11, fs))) ∧ (∃ fs, am_get h1 66 = some (.inr (12, fs))) ∧ (h1.1 = h.1 ∧ h1.2.1 = h.2.1) ∧ h2.1 = h1.1 ∧ h2.2.1 = h1.2.1 := by
  obtain ⟨tx, tm, x1, x2, x3, hK⟩ := t3
  have e1 : rowv h 1 = tx := by unfold rowv; rw [x1]
  have e2 : rowv h 73 = tm := by unfold rowv; rw [x2]
  have b1 : ∀ i, i < 200 → am_ag (rowv h 1) i ≤ 126 := row1_le hI rfl
  have b2 : ∀ i, i < 200 → am_ag (rowv h 73) i ≤ 126 := row1_le hm rfl
  have al : ∀ i, i < n → am_ag (rowv h 1) i = am_ag (rowv h 73) i := by rw [e1, e2]; exact x3
  have hn := jw_200 ⟨Or.inl hI, hm⟩ t2
  have hX := o17_ok hI
  obtain ⟨res, mi', go', N', nr', td', at', Z', X', Y', k1, k2, k3, k4⟩ := x17_both (h := h) (len := n) (tx := rowv h 1) (tm := rowv h 73) (mi := fldv h 17 6) (go := fldv h 17 7) (Z := fun k => fldv h (18 + 2 * k) 3) hX hn (fun i hi => by have := b1 i hi; omega) b2 al (o17_V hI hm)
  have f1 := fldv_fv t1
  rw [← f1] at k1
  have ef := x17_flt hI k1
  have ef2 := Eq.mp (congrArg (fun g => am_EG mi_48 [.ref 0] g (some (.retAddr res), (rx17 h (rowv h 1) (N') (nr') (mi') (go') (Z' 0) (X' 0) (Z' 1) (X' 1) (Z' 2) (X' 2) (Z' 3) (X' 3) (Z' 4) (X' 4) (Z' 5) (X' 5)))) (o17_own hI)) ef
  have i1 := o17_I hI k3
  have m1 : ax_I sbm (rx17 h (rowv h 1) (N') (nr') (mi') (go') (Z' 0) (X' 0) (Z' 1) (X' 1) (Z' 2) (X' 2) (Z' 3) (X' 3) (Z' 4) (X' 4) (Z' 5) (X' 5)) := o17_M hI hm
  have og : ∀ {a}, am_lk [(1, am_e0), (2, am_e0), (3, am_e0), (17, am_e0), (18, am_e0), (19, am_e0), (20, am_e0), (21, am_e0), (22, am_e0), (23, am_e0), (24, am_e0), (25, am_e0), (26, am_e0), (27, am_e0), (28, am_e0), (29, am_e0)] a = none → am_get (rx17 h (rowv h 1) (N') (nr') (mi') (go') (Z' 0) (X' 0) (Z' 1) (X' 1) (Z' 2) (X' 2) (Z' 3) (X' 3) (Z' 4) (X' 4) (Z' 5) (X' 5)) a = am_get h a := fun ha => rx17_o hX ha
  have o0 := og (a := 0) rfl
  have o66 := og (a := 66) rfl
  have o73 := og (a := 73) rfl
  have o86 := og (a := 86) rfl
  have r74 := rowv_get (og (a := 74) rfl)
  have r75 := rowv_get (og (a := 75) rfl)
  have r76 := rowv_get (og (a := 76) rfl)
  have r77 := rowv_get (og (a := 77) rfl)
  have r78 := rowv_get (og (a := 78) rfl)
  have r79 := rowv_get (og (a := 79) rfl)
  have r80 := rowv_get (og (a := 80) rfl)
  have s0 : ((rx17 h (rowv h 1) (N') (nr') (mi') (go') (Z' 0) (X' 0) (Z' 1) (X' 1) (Z' 2) (X' 2) (Z' 3) (X' 3) (Z' 4) (X' 4) (Z' 5) (X' 5))).1 = h.1 ∧ ((rx17 h (rowv h 1) (N') (nr') (mi') (go') (Z' 0) (X' 0) (Z' 1) (X' 1) (Z' 2) (X' 2) (Z' 3) (X' 3) (Z' 4) (X' 4) (Z' 5) (X' 5))).2.1 = h.2.1 := by unfold rx17; exact am_ups_1 _
  have g1 : am_get (rx17 h (rowv h 1) (N') (nr') (mi') (go') (Z' 0) (X' 0) (Z' 1) (X' 1) (Z' 2) (X' 2) (Z' 3) (X' 3) (Z' 4) (X' 4) (Z' 5) (X' 5)) 1 = _ := rx17_g1 hX
  have kp1 : kp h (rx17 h (rowv h 1) (N') (nr') (mi') (go') (Z' 0) (X' 0) (Z' 1) (X' 1) (Z' 2) (X' 2) (Z' 3) (X' 3) (Z' 4) (X' 4) (Z' 5) (X' 5)) 4 := kp_ck [1, 2, 3, 17, 18, 19, 20, 21, 22, 23, 24, 25, 26, 27, 28, 29] (fun a ha => og ha) (by decide) (fun k _ => ax_fv_get o66 k)
  clear og
  generalize (rx17 h (rowv h 1) (N') (nr') (mi') (go') (Z' 0) (X' 0) (Z' 1) (X' 1) (Z' 2) (X' 2) (Z' 3) (X' 3) (Z' 4) (X' 4) (Z' 5) (X' 5)) = h1 at ef2 i1 m1 o0 o66 o73 o86 r74 r75 r76 r77 r78 r79 r80 s0 g1 kp1
  have hM := om_ok m1
  have own2 := om_own m1
  have fl : fldv h1 66 15 = n := fldv_fv (by rw [ax_fv_get o66]; exact t2)
  have r73 := rowv_get o73
  rw [fl, r73, r74, r75, r76, r77, r78, r79, r80] at own2
  have em := Eq.mp (congrArg (fun g => am_EG mi_135 [.ref 66] g (some (.retAddr res), (rm h1 (valv h1 66) n (at') (mi') (go') (Z' 0) (Z' 1) (Z' 2) (Z' 3) (Z' 4) (Z' 5) (rowv h 73) (td') (Y' 0) (Y' 1) (Y' 2) (Y' 3) (Y' 4) (Y' 5)))) own2) (k2 h1 (valv h1 66) (fldv h1 66 16) (fldv h1 66 18) (fldv h1 66 19) (fun k => fldv h1 66 (20 + 2 * k)) hM)
  have m2 := om_I (at_ := at') m1 (by omega) k3
  rw [fl, r73] at m2
  have x2' : ax_I sb0 (rm h1 (valv h1 66) n (at') (mi') (go') (Z' 0) (Z' 1) (Z' 2) (Z' 3) (Z' 4) (Z' 5) (rowv h 73) (td') (Y' 0) (Y' 1) (Y' 2) (Y' 3) (Y' 4) (Y' 5)) := om_X0 m1 i1
  have q2 : jv_Q (rm h1 (valv h1 66) n (at') (mi') (go') (Z' 0) (Z' 1) (Z' 2) (Z' 3) (Z' 4) (Z' 5) (rowv h 73) (td') (Y' 0) (Y' 1) (Y' 2) (Y' 3) (Y' 4) (Y' 5)) := jq_rm hQ m1 o66 o86
  refine ⟨res, h1, res, _, ef2, em, fun _ => rfl, ⟨⟨Or.inl x2', m2⟩, ⟨n, ?_, ?_, rowv h 1, rowv h 73, ?_, rm_g73 hM, al, ?_⟩, q2⟩, ⟨_, ov17_c0 hI⟩, ⟨_, om_c66 m1⟩, s0, ?_⟩
  · rw [ax_fv_get (rm_o hM rfl), ax_fv_get o0]
    exact t1
  · unfold ax_fv
    rw [rm_g66 hM]
    rfl
  · rw [rm_o hM rfl, g1]
  · obtain ⟨⟨k, y1, y2⟩, hE⟩ := hK
    refine ⟨⟨k, ?_, ?_⟩, jv_E_0 i1 x2' (kp_ck [66, 73, 74, 75, 76, 77, 78, 79, 80] (fun a ha => rm_o hM ha) (by decide) (om_fm m1)) (jv_E_0 hI i1 kp1 hE)⟩
    · rw [ax_fv_get (rm_o hM rfl), ax_fv_get o0]
      exact y1
    · unfold ax_fv
      rw [rm_g66 hM]
      show some (valv h1 66 53) = _
      rw [valv_fv (v := .retAddr k) (by rw [ax_fv_get o66]; exact y2)]
  · unfold rm
    exact am_ups_1 _
theorem ov4_c0 {h : am_H} (hI : ax_I sb1 h) : am_get h 0 = some (.inr (11, [.ref 1, .retAddr (fldv h 0 1), .ref 2, valv h 0 3, .ref 4, valv h 0 5, valv h 0 6, valv h 0 7, valv h 0 8, valv h 0 9, valv h 0 10, valv h 0 11, valv h 0 12, valv h 0 13, valv h 0 14, valv h 0 15, valv h 0 16])) := by
  refine obj_ls hI rfl rfl (fun k hk => ?_)
  match k, hk with
  | 0, _ => exact ref_in hI rfl rfl
  | 1, _ => exact (fld_in hI rfl rfl).1
  | 2, _ => exact ref_in hI rfl rfl
  | 3, _ => exact val_in hI rfl (Nat.le_of_ble_eq_true rfl)
  | 4, _ => exact ref_in hI rfl rfl
  | 5, _ => exact val_in hI rfl (Nat.le_of_ble_eq_true rfl)
  | 6, _ => exact val_in hI rfl (Nat.le_of_ble_eq_true rfl)
  | 7, _ => exact val_in hI rfl (Nat.le_of_ble_eq_true rfl)
  | 8, _ => exact val_in hI rfl (Nat.le_of_ble_eq_true rfl)
  | 9, _ => exact val_in hI rfl (Nat.le_of_ble_eq_true rfl)
  | 10, _ => exact val_in hI rfl (Nat.le_of_ble_eq_true rfl)
  | 11, _ => exact val_in hI rfl (Nat.le_of_ble_eq_true rfl)
  | 12, _ => exact val_in hI rfl (Nat.le_of_ble_eq_true rfl)
  | 13, _ => exact val_in hI rfl (Nat.le_of_ble_eq_true rfl)
  | 14, _ => exact val_in hI rfl (Nat.le_of_ble_eq_true rfl)
  | 15, _ => exact val_in hI rfl (Nat.le_of_ble_eq_true rfl)
  | 16, _ => exact val_in hI rfl (Nat.le_of_ble_eq_true rfl)
  | k + 17, hk => exact absurd hk (Nat.not_lt.mpr (Nat.le_add_left _ _))
theorem x4_flt {h : am_H} {tx N nr mi go z1 c1 z2 c2 z3 c3 z4 c4 z5 c5 z6 c6 res : Nat} {h2 : am_H} (hI : ax_I sb1 h) (e : am_EG mi_13 [.ref 2, .ref 1, .retAddr (fldv h 0 1), .ref 4] (rx4 h tx N nr mi go z1 c1 z2 c2 z3 c3 z4 c4 z5 c5 z6 c6) (some (.retAddr res), h2)) : am_EG mi_48 [.ref 0] (rx4 h tx N nr mi go z1 c1 z2 c2 z3 c3 z4 c4 z5 c5 z6 c6) (some (.retAddr res), h2) := by
  refine am_enter (n := 0) tk_48.2.1 (by simp [Value.category]) (Nat.le_of_ble_eq_true rfl) ?_
  show am_Good mi_48 0 [some (.ref 0)] [] (rx4 h tx N nr mi go z1 c1 z2 c2 z3 c3 z4 c4 z5 c5 z6 c6) _
  have hX := o4_ok hI
  have g0 : am_get (rx4 h tx N nr mi go z1 c1 z2 c2 z3 c3 z4 c4 z5 c5 z6 c6) 0 = some (.inr (11, [.ref 1, .retAddr (fldv h 0 1), .ref 2, valv h 0 3, .ref 4, valv h 0 5, valv h 0 6, valv h 0 7, valv h 0 8, valv h 0 9, valv h 0 10, valv h 0 11, valv h 0 12, valv h 0 13, valv h 0 14, valv h 0 15, valv h 0 16])) := by rw [rx4_o hX rfl]; exact ov4_c0 hI
  refine g_aload_n (i := 0) dd_48_0 rfl ?_
  refine g_getfield (k := 2) am_ck11 (by decide) (Or.inl w_513) dd_48_1 g0 rfl ?_
  refine g_aload_n (i := 0) dd_48_4 rfl ?_
  refine g_getfield (k := 0) am_ck11 (by decide) (Or.inl w_511) dd_48_5 g0 rfl ?_
  refine g_aload_n (i := 0) dd_48_8 rfl ?_
  refine g_getfield (k := 1) am_ck11 (by decide) (Or.inl w_512) dd_48_9 g0 rfl ?_
  refine g_aload_n (i := 0) dd_48_12 rfl ?_
  refine g_getfield (k := 4) am_ck11 (by decide) (Or.inl w_515) dd_48_13 g0 rfl ?_
  refine g_virtual (M' := mi_13) (n := 3) (ci := 6) (b := 2) (as := [.ref 1, .retAddr (fldv h 0 1), .ref 4]) (st := []) (r1 := (some (.retAddr res), h2)) w_380 w_381 w_382 ⟨lk_13.1, lk_13.2.1, lk_13.2.2, by decide, by decide⟩ rfl (rx4_g2 hX) rfl (by simp [Value.category]) dd_48_16 (e) ?_
  show am_Good mi_48 19 [some (.ref 0)] [.retAddr res] h2 _
  exact g_ireturn rfl dd_48_19
theorem jf_4 {h : am_H} (hI : ax_I sb1 h) (hm : ax_I sbm h) {n : Nat} (t1 : ax_fv h 0 1 = some (.retAddr n)) (t2 : ax_fv h 66 15 = some (.retAddr n)) (t3 : jv_X h n) (hQ : jv_Q h) : ∃ v h1 w h2, am_EG (am_mi 48) [.ref 0] h (some (.retAddr v), h1) ∧ am_EG (am_mi 135) [.ref 66] h1 (some (.retAddr w), h2) ∧ (true = true → v = w) ∧ Jv h2 ∧ (∃ fs, am_get h 0 = some (.inr (11, fs))) ∧ (∃ fs, am_get h1 66 = some (.inr (12, fs))) ∧ (h1.1 = h.1 ∧ h1.2.1 = h.2.1) ∧ h2.1 = h1.1 ∧ h2.2.1 = h1.2.1 := by
  obtain ⟨tx, tm, x1, x2, x3, hK⟩ := t3
  have e1 : rowv h 1 = tx := by unfold rowv; rw [x1]
  have e2 : rowv h 73 = tm := by unfold rowv; rw [x2]
  have b1 : ∀ i, i < 200 → am_ag (rowv h 1) i ≤ 126 := row1_le hI rfl
  have b2 : ∀ i, i < 200 → am_ag (rowv h 73) i ≤ 126 := row1_le hm rfl
  have al : ∀ i, i < n → am_ag (rowv h 1) i = am_ag (rowv h 73) i := by rw [e1, e2]; exact x3
  have hn := jw_200 ⟨Or.inr hI, hm⟩ t2
  have hX := o4_ok hI
  obtain ⟨res, mi', go', N', nr', td', at', Z', X', Y', k1, k2, k3, k4⟩ := x4_both (h := h) (len := n) (tx := rowv h 1) (tm := rowv h 73) (mi := fldv h 4 6) (go := fldv h 4 7) (Z := fun k => fldv h (5 + 2 * k) 3) hX hn (fun i hi => by have := b1 i hi; omega) b2 al (o4_V hI hm)
  have f1 := fldv_fv t1
  rw [← f1] at k1
  have ef := x4_flt hI k1
  have ef2 := Eq.mp (congrArg (fun g => am_EG mi_48 [.ref 0] g (some (.retAddr res), (rx4 h (rowv h 1) (N') (nr') (mi') (go') (Z' 0) (X' 0) (Z' 1) (X' 1) (Z' 2) (X' 2) (Z' 3) (X' 3) (Z' 4) (X' 4) (Z' 5) (X' 5)))) (o4_own hI)) ef
  have i1 := o4_I hI k3
  have m1 : ax_I sbm (rx4 h (rowv h 1) (N') (nr') (mi') (go') (Z' 0) (X' 0) (Z' 1) (X' 1) (Z' 2) (X' 2) (Z' 3) (X' 3) (Z' 4) (X' 4) (Z' 5) (X' 5)) := o4_M hI hm
  have og : ∀ {a}, am_lk [(1, am_e0), (2, am_e0), (3, am_e0), (4, am_e0), (5, am_e0), (6, am_e0), (7, am_e0), (8, am_e0), (9, am_e0), (10, am_e0), (11, am_e0), (12, am_e0), (13, am_e0), (14, am_e0), (15, am_e0), (16, am_e0)] a = none → am_get (rx4 h (rowv h 1) (N') (nr') (mi') (go') (Z' 0) (X' 0) (Z' 1) (X' 1) (Z' 2) (X' 2) (Z' 3) (X' 3) (Z' 4) (X' 4) (Z' 5) (X' 5)) a = am_get h a := fun ha => rx4_o hX ha
  have o0 := og (a := 0) rfl
  have o66 := og (a := 66) rfl
  have o73 := og (a := 73) rfl
  have o86 := og (a := 86) rfl
  have r74 := rowv_get (og (a := 74) rfl)
  have r75 := rowv_get (og (a := 75) rfl)
  have r76 := rowv_get (og (a := 76) rfl)
  have r77 := rowv_get (og (a := 77) rfl)
  have r78 := rowv_get (og (a := 78) rfl)
  have r79 := rowv_get (og (a := 79) rfl)
  have r80 := rowv_get (og (a := 80) rfl)
  have s0 : ((rx4 h (rowv h 1) (N') (nr') (mi') (go') (Z' 0) (X' 0) (Z' 1) (X' 1) (Z' 2) (X' 2) (Z' 3) (X' 3) (Z' 4) (X' 4) (Z' 5) (X' 5))).1 = h.1 ∧ ((rx4 h (rowv h 1) (N') (nr') (mi') (go') (Z' 0) (X' 0) (Z' 1) (X' 1) (Z' 2) (X' 2) (Z' 3) (X' 3) (Z' 4) (X' 4) (Z' 5) (X' 5))).2.1 = h.2.1 := by unfold rx4; exact am_ups_1 _
  have g1 : am_get (rx4 h (rowv h 1) (N') (nr') (mi') (go') (Z' 0) (X' 0) (Z' 1) (X' 1) (Z' 2) (X' 2) (Z' 3) (X' 3) (Z' 4) (X' 4) (Z' 5) (X' 5)) 1 = _ := rx4_g1 hX
  have kp1 : kp h (rx4 h (rowv h 1) (N') (nr') (mi') (go') (Z' 0) (X' 0) (Z' 1) (X' 1) (Z' 2) (X' 2) (Z' 3) (X' 3) (Z' 4) (X' 4) (Z' 5) (X' 5)) 17 := kp_ck [1, 2, 3, 4, 5, 6, 7, 8, 9, 10, 11, 12, 13, 14, 15, 16] (fun a ha => og ha) (by decide) (fun k _ => ax_fv_get o66 k)
  clear og
  generalize (rx4 h (rowv h 1) (N') (nr') (mi') (go') (Z' 0) (X' 0) (Z' 1) (X' 1) (Z' 2) (X' 2) (Z' 3) (X' 3) (Z' 4) (X' 4) (Z' 5) (X' 5)) = h1 at ef2 i1 m1 o0 o66 o73 o86 r74 r75 r76 r77 r78 r79 r80 s0 g1 kp1
  have hM := om_ok m1
  have own2 := om_own m1
  have fl : fldv h1 66 15 = n := fldv_fv (by rw [ax_fv_get o66]; exact t2)
  have r73 := rowv_get o73
  rw [fl, r73, r74, r75, r76, r77, r78, r79, r80] at own2
  have em := Eq.mp (congrArg (fun g => am_EG mi_135 [.ref 66] g (some (.retAddr res), (rm h1 (valv h1 66) n (at') (mi') (go') (Z' 0) (Z' 1) (Z' 2) (Z' 3) (Z' 4) (Z' 5) (rowv h 73) (td') (Y' 0) (Y' 1) (Y' 2) (Y' 3) (Y' 4) (Y' 5)))) own2) (k2 h1 (valv h1 66) (fldv h1 66 16) (fldv h1 66 18) (fldv h1 66 19) (fun k => fldv h1 66 (20 + 2 * k)) hM)
  have m2 := om_I (at_ := at') m1 (by omega) k3
  rw [fl, r73] at m2
  have x2' : ax_I sb1 (rm h1 (valv h1 66) n (at') (mi') (go') (Z' 0) (Z' 1) (Z' 2) (Z' 3) (Z' 4) (Z' 5) (rowv h 73) (td') (Y' 0) (Y' 1) (Y' 2) (Y' 3) (Y' 4) (Y' 5)) := om_X1 m1 i1
  have q2 : jv_Q (rm h1 (valv h1 66) n (at') (mi') (go') (Z' 0) (Z' 1) (Z' 2) (Z' 3) (Z' 4) (Z' 5) (rowv h 73) (td') (Y' 0) (Y' 1) (Y' 2) (Y' 3) (Y' 4) (Y' 5)) := jq_rm hQ m1 o66 o86
  refine ⟨res, h1, res, _, ef2, em, fun _ => rfl, ⟨⟨Or.inr x2', m2⟩, ⟨n, ?_, ?_, rowv h 1, rowv h 73, ?_, rm_g73 hM, al, ?_⟩, q2⟩, ⟨_, ov4_c0 hI⟩, ⟨_, om_c66 m1⟩, s0, ?_⟩
  · rw [ax_fv_get (rm_o hM rfl), ax_fv_get o0]
    exact t1
  · unfold ax_fv
    rw [rm_g66 hM]
    rfl
  · rw [rm_o hM rfl, g1]
  · obtain ⟨⟨k, y1, y2⟩, hE⟩ := hK
    refine ⟨⟨k, ?_, ?_⟩, jv_E_1 i1 x2' (kp_ck [66, 73, 74, 75, 76, 77, 78, 79, 80] (fun a ha => rm_o hM ha) (by decide) (om_fm m1)) (jv_E_1 hI i1 kp1 hE)⟩
    · rw [ax_fv_get (rm_o hM rfl), ax_fv_get o0]
      exact y1
    · unfold ax_fv
      rw [rm_g66 hM]
      show some (valv h1 66 53) = _
      rw [valv_fv (v := .retAddr k) (by rw [ax_fv_get o66]; exact y2)]
  · unfold rm
    exact am_ups_1 _
theorem jb_fault : am_B2 Jv true 48 135 [] := by
  intro h hJ
  obtain ⟨⟨hI, hm⟩, ⟨n, t1, t2, t3⟩, hQ⟩ := hJ
  rcases hI with hI | hI
  · exact jf_17 hI hm t1 t2 t3 hQ
  · exact jf_4 hI hm t1 t2 t3 hQ
