/-! ===== the reader of the reference ===== -/
def rm (h : am_H) (f : Nat → Value) (len at_ rl rg z1 z2 z3 z4 z5 z6 tm td y1 y2 y3 y4 y5 y6 : Nat) : am_H := am_ups h [(66, .inr (12, [f 0, f 1, f 2, .ref 67, f 4, .ref 68, f 6, .ref 69, f 8, .ref 70, f 10, .ref 71, f 12, .ref 72, .ref 73, .retAddr len, .retAddr at_, .ref 74, .retAddr rl, .retAddr rg, .retAddr z1, .ref 75, .retAddr z2, .ref 76, .retAddr z3, .ref 77, .retAddr z4, .ref 78, .retAddr z5, .ref 79, .retAddr z6, .ref 80, .ref 81, .ref 82, .ref 83, .ref 84, f 36, f 37, f 38, f 39, f 40, .ref 85, f 42, .ref 86, f 44, .ref 87, .ref 88, .ref 89, f 48, f 49, f 50, .ref 90, .ref 91, f 53, .ref 92])), (73, .inl (0, 200, tm)), (74, .inl (0, 5, td)), (75, .inl (0, 4, y1)), (76, .inl (0, 45, y2)), (77, .inl (0, 18, y3)), (78, .inl (0, 16, y4)), (79, .inl (0, 18, y5)), (80, .inl (0, 8, y6))]
def rm_ok (h : am_H) : Prop := am_ke h [66, 73, 74, 75, 76, 77, 78, 79, 80]
theorem rm_g66 {h : am_H} {f : Nat → Value} {len at_ rl rg z1 z2 z3 z4 z5 z6 tm td y1 y2 y3 y4 y5 y6 : Nat} (hH : rm_ok h) : am_get (rm h f len at_ rl rg z1 z2 z3 z4 z5 z6 tm td y1 y2 y3 y4 y5 y6) 66 = some (.inr (12, [f 0, f 1, f 2, .ref 67, f 4, .ref 68, f 6, .ref 69, f 8, .ref 70, f 10, .ref 71, f 12, .ref 72, .ref 73, .retAddr len, .retAddr at_, .ref 74, .retAddr rl, .retAddr rg, .retAddr z1, .ref 75, .retAddr z2, .ref 76, .retAddr z3, .ref 77, .retAddr z4, .ref 78, .retAddr z5, .ref 79, .retAddr z6, .ref 80, .ref 81, .ref 82, .ref 83, .ref 84, f 36, f 37, f 38, f 39, f 40, .ref 85, f 42, .ref 86, f 44, .ref 87, .ref 88, .ref 89, f 48, f 49, f 50, .ref 90, .ref 91, f 53, .ref 92])) := am_ups_g hH rfl
theorem rm_u66 {h : am_H} {f : Nat → Value} {len at_ rl rg z1 z2 z3 z4 z5 z6 tm td y1 y2 y3 y4 y5 y6 : Nat} (hH : rm_ok h) {len' at_' rl' rg' z1' z2' z3' z4' z5' z6' : Nat} : am_upd (rm h f len at_ rl rg z1 z2 z3 z4 z5 z6 tm td y1 y2 y3 y4 y5 y6) 66 (.inr (12, [f 0, f 1, f 2, .ref 67, f 4, .ref 68, f 6, .ref 69, f 8, .ref 70, f 10, .ref 71, f 12, .ref 72, .ref 73, .retAddr len', .retAddr at_', .ref 74, .retAddr rl', .retAddr rg', .retAddr z1', .ref 75, .retAddr z2', .ref 76, .retAddr z3', .ref 77, .retAddr z4', .ref 78, .retAddr z5', .ref 79, .retAddr z6', .ref 80, .ref 81, .ref 82, .ref 83, .ref 84, f 36, f 37, f 38, f 39, f 40, .ref 85, f 42, .ref 86, f 44, .ref 87, .ref 88, .ref 89, f 48, f 49, f 50, .ref 90, .ref 91, f 53, .ref 92])) = (rm h f len' at_' rl' rg' z1' z2' z3' z4' z5' z6' tm td y1 y2 y3 y4 y5 y6) := by
  unfold rm
  refine am_upd_ups ?_ ⟨rfl, rfl⟩
  exact hH
theorem rm_g73 {h : am_H} {f : Nat → Value} {len at_ rl rg z1 z2 z3 z4 z5 z6 tm td y1 y2 y3 y4 y5 y6 : Nat} (hH : rm_ok h) : am_get (rm h f len at_ rl rg z1 z2 z3 z4 z5 z6 tm td y1 y2 y3 y4 y5 y6) 73 = some (.inl (0, 200, tm)) := am_ups_g hH rfl
theorem rm_u73 {h : am_H} {f : Nat → Value} {len at_ rl rg z1 z2 z3 z4 z5 z6 tm td y1 y2 y3 y4 y5 y6 : Nat} (hH : rm_ok h) {tm' : Nat} : am_upd (rm h f len at_ rl rg z1 z2 z3 z4 z5 z6 tm td y1 y2 y3 y4 y5 y6) 73 (.inl (0, 200, tm')) = (rm h f len at_ rl rg z1 z2 z3 z4 z5 z6 tm' td y1 y2 y3 y4 y5 y6) := by
  unfold rm
  refine am_upd_ups ?_ ⟨rfl, rfl⟩
  exact hH
theorem rm_g74 {h : am_H} {f : Nat → Value} {len at_ rl rg z1 z2 z3 z4 z5 z6 tm td y1 y2 y3 y4 y5 y6 : Nat} (hH : rm_ok h) : am_get (rm h f len at_ rl rg z1 z2 z3 z4 z5 z6 tm td y1 y2 y3 y4 y5 y6) 74 = some (.inl (0, 5, td)) := am_ups_g hH rfl
theorem rm_u74 {h : am_H} {f : Nat → Value} {len at_ rl rg z1 z2 z3 z4 z5 z6 tm td y1 y2 y3 y4 y5 y6 : Nat} (hH : rm_ok h) {td' : Nat} : am_upd (rm h f len at_ rl rg z1 z2 z3 z4 z5 z6 tm td y1 y2 y3 y4 y5 y6) 74 (.inl (0, 5, td')) = (rm h f len at_ rl rg z1 z2 z3 z4 z5 z6 tm td' y1 y2 y3 y4 y5 y6) := by
  unfold rm
  refine am_upd_ups ?_ ⟨rfl, rfl⟩
  exact hH
theorem rm_g75 {h : am_H} {f : Nat → Value} {len at_ rl rg z1 z2 z3 z4 z5 z6 tm td y1 y2 y3 y4 y5 y6 : Nat} (hH : rm_ok h) : am_get (rm h f len at_ rl rg z1 z2 z3 z4 z5 z6 tm td y1 y2 y3 y4 y5 y6) 75 = some (.inl (0, 4, y1)) := am_ups_g hH rfl
theorem rm_u75 {h : am_H} {f : Nat → Value} {len at_ rl rg z1 z2 z3 z4 z5 z6 tm td y1 y2 y3 y4 y5 y6 : Nat} (hH : rm_ok h) {y1' : Nat} : am_upd (rm h f len at_ rl rg z1 z2 z3 z4 z5 z6 tm td y1 y2 y3 y4 y5 y6) 75 (.inl (0, 4, y1')) = (rm h f len at_ rl rg z1 z2 z3 z4 z5 z6 tm td y1' y2 y3 y4 y5 y6) := by
  unfold rm
  refine am_upd_ups ?_ ⟨rfl, rfl⟩
  exact hH
theorem rm_g76 {h : am_H} {f : Nat → Value} {len at_ rl rg z1 z2 z3 z4 z5 z6 tm td y1 y2 y3 y4 y5 y6 : Nat} (hH : rm_ok h) : am_get (rm h f len at_ rl rg z1 z2 z3 z4 z5 z6 tm td y1 y2 y3 y4 y5 y6) 76 = some (.inl (0, 45, y2)) := am_ups_g hH rfl
theorem rm_u76 {h : am_H} {f : Nat → Value} {len at_ rl rg z1 z2 z3 z4 z5 z6 tm td y1 y2 y3 y4 y5 y6 : Nat} (hH : rm_ok h) {y2' : Nat} : am_upd (rm h f len at_ rl rg z1 z2 z3 z4 z5 z6 tm td y1 y2 y3 y4 y5 y6) 76 (.inl (0, 45, y2')) = (rm h f len at_ rl rg z1 z2 z3 z4 z5 z6 tm td y1 y2' y3 y4 y5 y6) := by
  unfold rm
  refine am_upd_ups ?_ ⟨rfl, rfl⟩
  exact hH
theorem rm_g77 {h : am_H} {f : Nat → Value} {len at_ rl rg z1 z2 z3 z4 z5 z6 tm td y1 y2 y3 y4 y5 y6 : Nat} (hH : rm_ok h) : am_get (rm h f len at_ rl rg z1 z2 z3 z4 z5 z6 tm td y1 y2 y3 y4 y5 y6) 77 = some (.inl (0, 18, y3)) := am_ups_g hH rfl
theorem rm_u77 {h : am_H} {f : Nat → Value} {len at_ rl rg z1 z2 z3 z4 z5 z6 tm td y1 y2 y3 y4 y5 y6 : Nat} (hH : rm_ok h) {y3' : Nat} : am_upd (rm h f len at_ rl rg z1 z2 z3 z4 z5 z6 tm td y1 y2 y3 y4 y5 y6) 77 (.inl (0, 18, y3')) = (rm h f len at_ rl rg z1 z2 z3 z4 z5 z6 tm td y1 y2 y3' y4 y5 y6) := by
  unfold rm
  refine am_upd_ups ?_ ⟨rfl, rfl⟩
  exact hH
theorem rm_g78 {h : am_H} {f : Nat → Value} {len at_ rl rg z1 z2 z3 z4 z5 z6 tm td y1 y2 y3 y4 y5 y6 : Nat} (hH : rm_ok h) : am_get (rm h f len at_ rl rg z1 z2 z3 z4 z5 z6 tm td y1 y2 y3 y4 y5 y6) 78 = some (.inl (0, 16, y4)) := am_ups_g hH rfl
theorem rm_u78 {h : am_H} {f : Nat → Value} {len at_ rl rg z1 z2 z3 z4 z5 z6 tm td y1 y2 y3 y4 y5 y6 : Nat} (hH : rm_ok h) {y4' : Nat} : am_upd (rm h f len at_ rl rg z1 z2 z3 z4 z5 z6 tm td y1 y2 y3 y4 y5 y6) 78 (.inl (0, 16, y4')) = (rm h f len at_ rl rg z1 z2 z3 z4 z5 z6 tm td y1 y2 y3 y4' y5 y6) := by
  unfold rm
  refine am_upd_ups ?_ ⟨rfl, rfl⟩
  exact hH
theorem rm_g79 {h : am_H} {f : Nat → Value} {len at_ rl rg z1 z2 z3 z4 z5 z6 tm td y1 y2 y3 y4 y5 y6 : Nat} (hH : rm_ok h) : am_get (rm h f len at_ rl rg z1 z2 z3 z4 z5 z6 tm td y1 y2 y3 y4 y5 y6) 79 = some (.inl (0, 18, y5)) := am_ups_g hH rfl
theorem rm_u79 {h : am_H} {f : Nat → Value} {len at_ rl rg z1 z2 z3 z4 z5 z6 tm td y1 y2 y3 y4 y5 y6 : Nat} (hH : rm_ok h) {y5' : Nat} : am_upd (rm h f len at_ rl rg z1 z2 z3 z4 z5 z6 tm td y1 y2 y3 y4 y5 y6) 79 (.inl (0, 18, y5')) = (rm h f len at_ rl rg z1 z2 z3 z4 z5 z6 tm td y1 y2 y3 y4 y5' y6) := by
  unfold rm
  refine am_upd_ups ?_ ⟨rfl, rfl⟩
  exact hH
theorem rm_g80 {h : am_H} {f : Nat → Value} {len at_ rl rg z1 z2 z3 z4 z5 z6 tm td y1 y2 y3 y4 y5 y6 : Nat} (hH : rm_ok h) : am_get (rm h f len at_ rl rg z1 z2 z3 z4 z5 z6 tm td y1 y2 y3 y4 y5 y6) 80 = some (.inl (0, 8, y6)) := am_ups_g hH rfl
theorem rm_u80 {h : am_H} {f : Nat → Value} {len at_ rl rg z1 z2 z3 z4 z5 z6 tm td y1 y2 y3 y4 y5 y6 : Nat} (hH : rm_ok h) {y6' : Nat} : am_upd (rm h f len at_ rl rg z1 z2 z3 z4 z5 z6 tm td y1 y2 y3 y4 y5 y6) 80 (.inl (0, 8, y6')) = (rm h f len at_ rl rg z1 z2 z3 z4 z5 z6 tm td y1 y2 y3 y4 y5 y6') := by
  unfold rm
  refine am_upd_ups ?_ ⟨rfl, rfl⟩
  exact hH
theorem rm_o {h : am_H} {f : Nat → Value} {len at_ rl rg z1 z2 z3 z4 z5 z6 tm td y1 y2 y3 y4 y5 y6 : Nat} (hH : rm_ok h) {a : Nat} (ha : am_lk [(66, am_e0), (73, am_e0), (74, am_e0), (75, am_e0), (76, am_e0), (77, am_e0), (78, am_e0), (79, am_e0), (80, am_e0)] a = none) : am_get (rm h f len at_ rl rg z1 z2 z3 z4 z5 z6 tm td y1 y2 y3 y4 y5 y6) a = am_get h a := by
  unfold rm
  refine am_ups_n ?_ ?_
  · exact hH
  · exact (am_lk_k (by rfl)).mp ha
theorem rin1 {h : am_H} {x lo hi : Nat} (hlo : lo < 2147483648) (hc : lo ≤ x ∧ x ≤ hi) (hh : hi < 2147483648) : am_EG mi_133 [.retAddr x, .retAddr lo, .retAddr hi] h (some (.retAddr 1), h) := by
  refine am_enter (n := 0) tk_133.2.1 (by simp [Value.category]) (Nat.le_of_ble_eq_true rfl) ?_
  show am_Good mi_133 0 [some (.retAddr x), some (.retAddr lo), some (.retAddr hi)] [] h _
  refine g_iload_n (i := 0) dd_133_0 rfl ?_
  refine g_iload_n (i := 1) dd_133_1 rfl ?_
  refine g_icmp_lt_f (t := 14) dd_133_2 (by decide) (by first | exact sk_lt_f (by omega) (by omega) | exact tk_lt_f (by omega)) ?_
  refine g_iload_n (i := 0) dd_133_5 rfl ?_
  refine g_iload_n (i := 2) dd_133_6 rfl ?_
  refine g_icmp_gt_f (t := 14) dd_133_7 (by decide) (by first | exact sk_gt_f (by omega) (by omega) | exact tk_gt_f (by omega)) ?_
  refine g_iconst dd_133_10 ic_1 ?_
  refine g_goto (t := 15) dd_133_11 (by decide) ?_
  exact g_zreturn rfl (by first | decide | omega) dd_133_15
theorem rin0 {h : am_H} {x lo hi : Nat} (hlo : lo < 2147483648) (hc : ¬ (lo ≤ x ∧ x ≤ hi)) (hx : x < 2147483648) : am_EG mi_133 [.retAddr x, .retAddr lo, .retAddr hi] h (some (.retAddr 0), h) := by
  refine am_enter (n := 0) tk_133.2.1 (by simp [Value.category]) (Nat.le_of_ble_eq_true rfl) ?_
  show am_Good mi_133 0 [some (.retAddr x), some (.retAddr lo), some (.retAddr hi)] [] h _
  refine g_iload_n (i := 0) dd_133_0 rfl ?_
  refine g_iload_n (i := 1) dd_133_1 rfl ?_
  by_cases hq : x < lo
  · refine g_icmp_lt_t (t := 14) dd_133_2 (by decide) (by first | exact sk_lt_t (by omega) (by omega) | exact tk_lt_t (by omega)) ?_
    refine g_iconst dd_133_14 ic_0 ?_
    exact g_zreturn rfl (by first | decide | omega) dd_133_15
  · refine g_icmp_lt_f (t := 14) dd_133_2 (by decide) (by first | exact sk_lt_f (by omega) (by omega) | exact tk_lt_f (by omega)) ?_
    refine g_iload_n (i := 0) dd_133_5 rfl ?_
    refine g_iload_n (i := 2) dd_133_6 rfl ?_
    refine g_icmp_gt_t (t := 14) dd_133_7 (by decide) (by first | exact sk_gt_t (by omega) (by omega) | exact tk_gt_t (by omega)) ?_
    refine g_iconst dd_133_14 ic_0 ?_
    exact g_zreturn rfl (by first | decide | omega) dd_133_15
theorem rinm {h : am_H} {x lo hi : Nat} (hlo : lo < 2147483648) (hx : x = 4294967295) : am_EG mi_133 [.retAddr x, .retAddr lo, .retAddr hi] h (some (.retAddr 0), h) := by
  refine am_enter (n := 0) tk_133.2.1 (by simp [Value.category]) (Nat.le_of_ble_eq_true rfl) ?_
  show am_Good mi_133 0 [some (.retAddr x), some (.retAddr lo), some (.retAddr hi)] [] h _
  refine g_iload_n (i := 0) dd_133_0 rfl ?_
  refine g_iload_n (i := 1) dd_133_1 rfl ?_
  refine g_icmp_lt_t (t := 14) dd_133_2 (by decide) (by first | exact sk_lt_t (by omega) (by omega) | exact tk_lt_t (by omega)) ?_
  refine g_iconst dd_133_14 ic_0 ?_
  exact g_zreturn rfl (by first | decide | omega) dd_133_15
theorem rinz1 {h : am_H} {x lo z : Nat} (hlo : lo < 2147483648) (hx : x < 2147483648) (hz : z ≤ 4) (hc : lo ≤ x ∧ x < z) : am_EG mi_133 [.retAddr x, .retAddr lo, .retAddr ((z + 4294967295) % 4294967296)] h (some (.retAddr 1), h) := by
  refine am_enter (n := 0) tk_133.2.1 (by simp [Value.category]) (Nat.le_of_ble_eq_true rfl) ?_
  show am_Good mi_133 0 [some (.retAddr x), some (.retAddr lo), some (.retAddr ((z + 4294967295) % 4294967296))] [] h _
  refine g_iload_n (i := 0) dd_133_0 rfl ?_
  refine g_iload_n (i := 1) dd_133_1 rfl ?_
  refine g_icmp_lt_f (t := 14) dd_133_2 (by decide) (by first | exact sk_lt_f (by omega) (by omega) | exact tk_lt_f (by omega)) ?_
  refine g_iload_n (i := 0) dd_133_5 rfl ?_
  refine g_iload_n (i := 2) dd_133_6 rfl ?_
  refine g_icmp_gt_f (t := 14) dd_133_7 (by decide) (by first | exact sk_gt_f (by omega) (by omega) | exact tk_gt_f (by omega)) ?_
  refine g_iconst dd_133_10 ic_1 ?_
  refine g_goto (t := 15) dd_133_11 (by decide) ?_
  exact g_zreturn rfl (by first | decide | omega) dd_133_15
theorem rinz0 {h : am_H} {x lo z : Nat} (hlo : lo < 2147483648) (hx : x < 2147483648) (hz : z ≤ 4) (hc : ¬ (lo ≤ x ∧ x < z)) : am_EG mi_133 [.retAddr x, .retAddr lo, .retAddr ((z + 4294967295) % 4294967296)] h (some (.retAddr 0), h) := by
  refine am_enter (n := 0) tk_133.2.1 (by simp [Value.category]) (Nat.le_of_ble_eq_true rfl) ?_
  show am_Good mi_133 0 [some (.retAddr x), some (.retAddr lo), some (.retAddr ((z + 4294967295) % 4294967296))] [] h _
  refine g_iload_n (i := 0) dd_133_0 rfl ?_
  refine g_iload_n (i := 1) dd_133_1 rfl ?_
  by_cases hq : x < lo
  · refine g_icmp_lt_t (t := 14) dd_133_2 (by decide) (by first | exact sk_lt_t (by omega) (by omega) | exact tk_lt_t (by omega)) ?_
    refine g_iconst dd_133_14 ic_0 ?_
    exact g_zreturn rfl (by first | decide | omega) dd_133_15
  · refine g_icmp_lt_f (t := 14) dd_133_2 (by decide) (by first | exact sk_lt_f (by omega) (by omega) | exact tk_lt_f (by omega)) ?_
    refine g_iload_n (i := 0) dd_133_5 rfl ?_
    refine g_iload_n (i := 2) dd_133_6 rfl ?_
    refine g_icmp_gt_t (t := 14) dd_133_7 (by decide) (by first | exact sk_gt_t (by omega) (by omega) | exact tk_gt_t (by omega)) ?_
    refine g_iconst dd_133_14 ic_0 ?_
    exact g_zreturn rfl (by first | decide | omega) dd_133_15
theorem rif1 {h : am_H} {x : Nat} (hc : 48 ≤ x ∧ x ≤ 57) : am_EG mi_140 [.retAddr x] h (some (.retAddr 1), h) := by
  refine am_enter (n := 0) tk_140.2.1 (by simp [Value.category]) (Nat.le_of_ble_eq_true rfl) ?_
  show am_Good mi_140 0 [some (.retAddr x)] [] h _
  refine g_iload_n (i := 0) dd_140_0 rfl ?_
  refine g_bipush dd_140_1 bi_48 ?_
  refine g_bipush dd_140_3 bi_57 ?_
  refine g_static (M' := mi_133) (n := 3) (as := [.retAddr x, .retAddr 48, .retAddr 57]) (st := []) (r1 := (some (.retAddr 1), h)) w_1106 w_1107 ⟨lk_133.1, lk_133.2.1, lk_133.2.2, by decide, by decide⟩ rfl (by simp [Value.category]) dd_140_5 (rin1 (by decide) hc (by decide)) ?_
  show am_Good mi_140 8 [some (.retAddr x)] [.retAddr 1] h _
  exact g_zreturn rfl (by first | decide | omega) dd_140_8
theorem rif0 {h : am_H} {x : Nat} (hc : ¬ (48 ≤ x ∧ x ≤ 57)) (hx : x < 2147483648) : am_EG mi_140 [.retAddr x] h (some (.retAddr 0), h) := by
  refine am_enter (n := 0) tk_140.2.1 (by simp [Value.category]) (Nat.le_of_ble_eq_true rfl) ?_
  show am_Good mi_140 0 [some (.retAddr x)] [] h _
  refine g_iload_n (i := 0) dd_140_0 rfl ?_
  refine g_bipush dd_140_1 bi_48 ?_
  refine g_bipush dd_140_3 bi_57 ?_
  refine g_static (M' := mi_133) (n := 3) (as := [.retAddr x, .retAddr 48, .retAddr 57]) (st := []) (r1 := (some (.retAddr 0), h)) w_1106 w_1107 ⟨lk_133.1, lk_133.2.1, lk_133.2.2, by decide, by decide⟩ rfl (by simp [Value.category]) dd_140_5 (rin0 (by decide) hc hx) ?_
  show am_Good mi_140 8 [some (.retAddr x)] [.retAddr 0] h _
  exact g_zreturn rfl (by first | decide | omega) dd_140_8
theorem rifm {h : am_H} {x : Nat} (hx : x = 4294967295) : am_EG mi_140 [.retAddr x] h (some (.retAddr 0), h) := by
  refine am_enter (n := 0) tk_140.2.1 (by simp [Value.category]) (Nat.le_of_ble_eq_true rfl) ?_
  show am_Good mi_140 0 [some (.retAddr x)] [] h _
  refine g_iload_n (i := 0) dd_140_0 rfl ?_
  refine g_bipush dd_140_1 bi_48 ?_
  refine g_bipush dd_140_3 bi_57 ?_
  refine g_static (M' := mi_133) (n := 3) (as := [.retAddr x, .retAddr 48, .retAddr 57]) (st := []) (r1 := (some (.retAddr 0), h)) w_1106 w_1107 ⟨lk_133.1, lk_133.2.1, lk_133.2.2, by decide, by decide⟩ rfl (by simp [Value.category]) dd_140_5 (rinm (by decide) hx) ?_
  show am_Good mi_140 8 [some (.retAddr x)] [.retAddr 0] h _
  exact g_zreturn rfl (by first | decide | omega) dd_140_8
theorem m_la1 {h : am_H} {f : Nat → Value} {len at_ rl rg z1 z2 z3 z4 z5 z6 tm td y1 y2 y3 y4 y5 y6 : Nat} (hH : rm_ok h) {p : Nat} (hp : p < len) (hlen : len ≤ 200) : am_EG mi_137 [.ref 66, .retAddr p] (rm h f len at_ rl rg z1 z2 z3 z4 z5 z6 tm td y1 y2 y3 y4 y5 y6) (some (.retAddr (am_ag tm p)), (rm h f len at_ rl rg z1 z2 z3 z4 z5 z6 tm td y1 y2 y3 y4 y5 y6)) := by
  refine am_enter (n := 0) tk_137.2.1 (by simp [Value.category]) (Nat.le_of_ble_eq_true rfl) ?_
  show am_Good mi_137 0 [some (.ref 66), some (.retAddr p)] [] (rm h f len at_ rl rg z1 z2 z3 z4 z5 z6 tm td y1 y2 y3 y4 y5 y6) _
  refine g_iload_n (i := 1) dd_137_0 rfl ?_
  refine g_aload_n (i := 0) dd_137_1 rfl ?_
  refine g_getfield (k := 15) am_ck12 (by decide) (Or.inl w_950) dd_137_2 (rm_g66 hH) rfl ?_
  refine g_icmp_ge_f (t := 17) dd_137_5 (by decide) (by first | exact sk_ge_f (by omega) (by omega) | exact tk_ge_f (by omega)) ?_
  refine g_aload_n (i := 0) dd_137_8 rfl ?_
  refine g_getfield (k := 14) am_ck12 (by decide) (Or.inl w_949) dd_137_9 (rm_g66 hH) rfl ?_
  refine g_iload_n (i := 1) dd_137_12 rfl ?_
  refine g_iaload dd_137_13 (rm_g73 hH) (by omega) (by decide) ?_
  have hl_1 := am_ag_lt tm p
  refine g_goto (t := 18) dd_137_14 (by decide) ?_
  exact g_ireturn rfl dd_137_18
theorem m_la0 {h : am_H} {f : Nat → Value} {len at_ rl rg z1 z2 z3 z4 z5 z6 tm td y1 y2 y3 y4 y5 y6 : Nat} (hH : rm_ok h) {p : Nat} (hp : ¬ p < len) (hp2 : p ≤ 200) : am_EG mi_137 [.ref 66, .retAddr p] (rm h f len at_ rl rg z1 z2 z3 z4 z5 z6 tm td y1 y2 y3 y4 y5 y6) (some (.retAddr 4294967295), (rm h f len at_ rl rg z1 z2 z3 z4 z5 z6 tm td y1 y2 y3 y4 y5 y6)) := by
  refine am_enter (n := 0) tk_137.2.1 (by simp [Value.category]) (Nat.le_of_ble_eq_true rfl) ?_
  show am_Good mi_137 0 [some (.ref 66), some (.retAddr p)] [] (rm h f len at_ rl rg z1 z2 z3 z4 z5 z6 tm td y1 y2 y3 y4 y5 y6) _
  refine g_iload_n (i := 1) dd_137_0 rfl ?_
  refine g_aload_n (i := 0) dd_137_1 rfl ?_
  refine g_getfield (k := 15) am_ck12 (by decide) (Or.inl w_950) dd_137_2 (rm_g66 hH) rfl ?_
  refine g_icmp_ge_t (t := 17) dd_137_5 (by decide) (by first | exact sk_ge_t (by omega) (by omega) | exact tk_ge_t (by omega)) ?_
  refine g_iconst dd_137_17 ic_m1 ?_
  exact g_ireturn rfl dd_137_18
theorem m_z1 {h : am_H} {f : Nat → Value} {len rl rg z1 z2 z3 z4 z5 z6 tm td y1 y2 y3 y4 y5 y6 : Nat} (hH : rm_ok h) {n k p : Nat} (hlen : len ≤ 200) (hn : n ≤ 5) (h126 : ∀ i, i < 200 → am_ag tm i ≤ 126) (hl : ¬ p < len) (hl2 : p ≤ len) (hk : k < n) : am_Good mi_139 2 [some (.ref 66), some (.retAddr n), some (.retAddr k)] [] (rm h f len p rl rg z1 z2 z3 z4 z5 z6 tm td y1 y2 y3 y4 y5 y6) (some (.retAddr 0), (rm h f len p rl rg z1 z2 z3 z4 z5 z6 tm td y1 y2 y3 y4 y5 y6)) := by
  have hx0 := am_ag_lt tm p
  have hx1 := am_ag_lt tm (p + 1)
  have hx2 := am_ag_lt tm (p + 2)
  have hy0 : p < len → am_ag tm p ≤ 126 := fun q => h126 p (by omega)
  have hy1 : p + 1 < len → am_ag tm (p + 1) ≤ 126 := fun q => h126 (p + 1) (by omega)
  have hy2 : p + 2 < len → am_ag tm (p + 2) ≤ 126 := fun q => h126 (p + 2) (by omega)
  refine g_iload_n (i := 2) dd_139_2 rfl ?_
  refine g_iload_n (i := 1) dd_139_3 rfl ?_
  refine g_icmp_ge_f (t := 144) dd_139_4 (by decide) (by first | exact sk_ge_f (by omega) (by omega) | exact tk_ge_f (by omega)) ?_
  refine g_aload_n (i := 0) dd_139_7 rfl ?_
  refine g_aload_n (i := 0) dd_139_8 rfl ?_
  refine g_getfield (k := 16) am_ck12 (by decide) (Or.inl w_951) dd_139_9 (rm_g66 hH) rfl ?_
  refine g_virtual (M' := mi_137) (n := 1) (ci := 12) (b := 66) (as := [.retAddr p]) (st := []) (r1 := (some (.retAddr 4294967295), (rm h f len p rl rg z1 z2 z3 z4 z5 z6 tm td y1 y2 y3 y4 y5 y6))) w_1121 w_1123 ps_137 ⟨lk_137.1, lk_137.2.1, lk_137.2.2, by decide, by decide⟩ rfl (rm_g66 hH) rfl (by simp [Value.category]) dd_139_12 (m_la0 hH (by omega) (by omega)) ?_
  show am_Good mi_139 15 [some (.ref 66), some (.retAddr n), some (.retAddr k)] [.retAddr 4294967295] (rm h f len p rl rg z1 z2 z3 z4 z5 z6 tm td y1 y2 y3 y4 y5 y6) _
  refine g_static (M' := mi_140) (n := 1) (as := [.retAddr 4294967295]) (st := []) (r1 := (some (.retAddr 0), (rm h f len p rl rg z1 z2 z3 z4 z5 z6 tm td y1 y2 y3 y4 y5 y6))) w_1133 w_1134 ⟨lk_140.1, lk_140.2.1, lk_140.2.2, by decide, by decide⟩ rfl (by simp [Value.category]) dd_139_15 (rifm rfl) ?_
  show am_Good mi_139 18 [some (.ref 66), some (.retAddr n), some (.retAddr k)] [.retAddr 0] (rm h f len p rl rg z1 z2 z3 z4 z5 z6 tm td y1 y2 y3 y4 y5 y6) _
  refine g_if_ne_f (t := 23) dd_139_18 (by decide) (by decide) ?_
  refine g_iconst dd_139_21 ic_0 ?_
  exact g_zreturn rfl (by first | decide | omega) dd_139_22
theorem m_z2 {h : am_H} {f : Nat → Value} {len rl rg z1 z2 z3 z4 z5 z6 tm td y1 y2 y3 y4 y5 y6 : Nat} (hH : rm_ok h) {n k p : Nat} (hlen : len ≤ 200) (hn : n ≤ 5) (h126 : ∀ i, i < 200 → am_ag tm i ≤ 126) (hf0 : ¬ (48 ≤ am_ag tm p ∧ am_ag tm p ≤ 57)) (hl : p < len) (hk : k < n) : am_Good mi_139 2 [some (.ref 66), some (.retAddr n), some (.retAddr k)] [] (rm h f len p rl rg z1 z2 z3 z4 z5 z6 tm td y1 y2 y3 y4 y5 y6) (some (.retAddr 0), (rm h f len p rl rg z1 z2 z3 z4 z5 z6 tm td y1 y2 y3 y4 y5 y6)) := by
  have hx0 := am_ag_lt tm p
  have hx1 := am_ag_lt tm (p + 1)
  have hx2 := am_ag_lt tm (p + 2)
  have hy0 : p < len → am_ag tm p ≤ 126 := fun q => h126 p (by omega)
  have hy1 : p + 1 < len → am_ag tm (p + 1) ≤ 126 := fun q => h126 (p + 1) (by omega)
  have hy2 : p + 2 < len → am_ag tm (p + 2) ≤ 126 := fun q => h126 (p + 2) (by omega)
  refine g_iload_n (i := 2) dd_139_2 rfl ?_
  refine g_iload_n (i := 1) dd_139_3 rfl ?_
  refine g_icmp_ge_f (t := 144) dd_139_4 (by decide) (by first | exact sk_ge_f (by omega) (by omega) | exact tk_ge_f (by omega)) ?_
  refine g_aload_n (i := 0) dd_139_7 rfl ?_
  refine g_aload_n (i := 0) dd_139_8 rfl ?_
  refine g_getfield (k := 16) am_ck12 (by decide) (Or.inl w_951) dd_139_9 (rm_g66 hH) rfl ?_
  refine g_virtual (M' := mi_137) (n := 1) (ci := 12) (b := 66) (as := [.retAddr p]) (st := []) (r1 := (some (.retAddr (am_ag tm p)), (rm h f len p rl rg z1 z2 z3 z4 z5 z6 tm td y1 y2 y3 y4 y5 y6))) w_1121 w_1123 ps_137 ⟨lk_137.1, lk_137.2.1, lk_137.2.2, by decide, by decide⟩ rfl (rm_g66 hH) rfl (by simp [Value.category]) dd_139_12 (m_la1 hH (by omega) hlen) ?_
  show am_Good mi_139 15 [some (.ref 66), some (.retAddr n), some (.retAddr k)] [.retAddr (am_ag tm p)] (rm h f len p rl rg z1 z2 z3 z4 z5 z6 tm td y1 y2 y3 y4 y5 y6) _
  refine g_static (M' := mi_140) (n := 1) (as := [.retAddr (am_ag tm p)]) (st := []) (r1 := (some (.retAddr 0), (rm h f len p rl rg z1 z2 z3 z4 z5 z6 tm td y1 y2 y3 y4 y5 y6))) w_1133 w_1134 ⟨lk_140.1, lk_140.2.1, lk_140.2.2, by decide, by decide⟩ rfl (by simp [Value.category]) dd_139_15 (rif0 hf0 (by omega)) ?_
  show am_Good mi_139 18 [some (.ref 66), some (.retAddr n), some (.retAddr k)] [.retAddr 0] (rm h f len p rl rg z1 z2 z3 z4 z5 z6 tm td y1 y2 y3 y4 y5 y6) _
  refine g_if_ne_f (t := 23) dd_139_18 (by decide) (by decide) ?_
  refine g_iconst dd_139_21 ic_0 ?_
  exact g_zreturn rfl (by first | decide | omega) dd_139_22
theorem m_n10e {h : am_H} {f : Nat → Value} {len rl rg z1 z2 z3 z4 z5 z6 tm td y1 y2 y3 y4 y5 y6 : Nat} (hH : rm_ok h) {n k p : Nat} (hlen : len ≤ 200) (hn : n ≤ 5) (h126 : ∀ i, i < 200 → am_ag tm i ≤ 126) (hf0 : 48 ≤ am_ag tm p ∧ am_ag tm p ≤ 57) (hl : ¬ p + 1 < len) (hl2 : p + 1 ≤ len) (hk : k + 1 < n) : am_Good mi_139 2 [some (.ref 66), some (.retAddr n), some (.retAddr k)] [] (rm h f len p rl rg z1 z2 z3 z4 z5 z6 tm td y1 y2 y3 y4 y5 y6) (some (.retAddr 0), (rm h f len (p + 1) rl rg z1 z2 z3 z4 z5 z6 tm (am_as td k (am_ag tm p - 48)) y1 y2 y3 y4 y5 y6)) := by
  have hx0 := am_ag_lt tm p
  have hx1 := am_ag_lt tm (p + 1)
  have hx2 := am_ag_lt tm (p + 2)
  have hy0 : p < len → am_ag tm p ≤ 126 := fun q => h126 p (by omega)
  have hy1 : p + 1 < len → am_ag tm (p + 1) ≤ 126 := fun q => h126 (p + 1) (by omega)
  have hy2 : p + 2 < len → am_ag tm (p + 2) ≤ 126 := fun q => h126 (p + 2) (by omega)
  refine g_iload_n (i := 2) dd_139_2 rfl ?_
  refine g_iload_n (i := 1) dd_139_3 rfl ?_
  refine g_icmp_ge_f (t := 144) dd_139_4 (by decide) (by first | exact sk_ge_f (by omega) (by omega) | exact tk_ge_f (by omega)) ?_
  refine g_aload_n (i := 0) dd_139_7 rfl ?_
  refine g_aload_n (i := 0) dd_139_8 rfl ?_
  refine g_getfield (k := 16) am_ck12 (by decide) (Or.inl w_951) dd_139_9 (rm_g66 hH) rfl ?_
  refine g_virtual (M' := mi_137) (n := 1) (ci := 12) (b := 66) (as := [.retAddr p]) (st := []) (r1 := (some (.retAddr (am_ag tm p)), (rm h f len p rl rg z1 z2 z3 z4 z5 z6 tm td y1 y2 y3 y4 y5 y6))) w_1121 w_1123 ps_137 ⟨lk_137.1, lk_137.2.1, lk_137.2.2, by decide, by decide⟩ rfl (rm_g66 hH) rfl (by simp [Value.category]) dd_139_12 (m_la1 hH (by omega) hlen) ?_
  show am_Good mi_139 15 [some (.ref 66), some (.retAddr n), some (.retAddr k)] [.retAddr (am_ag tm p)] (rm h f len p rl rg z1 z2 z3 z4 z5 z6 tm td y1 y2 y3 y4 y5 y6) _
  refine g_static (M' := mi_140) (n := 1) (as := [.retAddr (am_ag tm p)]) (st := []) (r1 := (some (.retAddr 1), (rm h f len p rl rg z1 z2 z3 z4 z5 z6 tm td y1 y2 y3 y4 y5 y6))) w_1133 w_1134 ⟨lk_140.1, lk_140.2.1, lk_140.2.2, by decide, by decide⟩ rfl (by simp [Value.category]) dd_139_15 (rif1 hf0) ?_
  show am_Good mi_139 18 [some (.ref 66), some (.retAddr n), some (.retAddr k)] [.retAddr 1] (rm h f len p rl rg z1 z2 z3 z4 z5 z6 tm td y1 y2 y3 y4 y5 y6) _
  refine g_if_ne_t (t := 23) dd_139_18 (by decide) (by decide) ?_
  refine g_aload_n (i := 0) dd_139_23 rfl ?_
  refine g_getfield (k := 17) am_ck12 (by decide) (Or.inl w_952) dd_139_24 (rm_g66 hH) rfl ?_
  refine g_iload_n (i := 2) dd_139_27 rfl ?_
  refine g_aload_n (i := 0) dd_139_28 rfl ?_
  refine g_aload_n (i := 0) dd_139_29 rfl ?_
  refine g_getfield (k := 16) am_ck12 (by decide) (Or.inl w_951) dd_139_30 (rm_g66 hH) rfl ?_
  refine g_virtual (M' := mi_137) (n := 1) (ci := 12) (b := 66) (as := [.retAddr p]) (st := [.retAddr k, .ref 74]) (r1 := (some (.retAddr (am_ag tm p)), (rm h f len p rl rg z1 z2 z3 z4 z5 z6 tm td y1 y2 y3 y4 y5 y6))) w_1121 w_1123 ps_137 ⟨lk_137.1, lk_137.2.1, lk_137.2.2, by decide, by decide⟩ rfl (rm_g66 hH) rfl (by simp [Value.category]) dd_139_33 (m_la1 hH (by omega) hlen) ?_
  show am_Good mi_139 36 [some (.ref 66), some (.retAddr n), some (.retAddr k)] [.retAddr (am_ag tm p), .retAddr k, .ref 74] (rm h f len p rl rg z1 z2 z3 z4 z5 z6 tm td y1 y2 y3 y4 y5 y6) _
  refine g_bipush dd_139_36 bi_48 ?_
  refine e_isub (v := (am_ag tm p) - 48) dd_139_38 (by omega) ?_
  refine g_iastore dd_139_39 (rm_g74 hH) (by omega) (by decide) ?_
  refine am_heq (rm_u74 hH) ?_
  show am_Good mi_139 40 [some (.ref 66), some (.retAddr n), some (.retAddr k)] [] (rm h f len p rl rg z1 z2 z3 z4 z5 z6 tm (am_as td k ((am_ag tm p) - 48)) y1 y2 y3 y4 y5 y6) _
  refine g_aload_n (i := 0) dd_139_40 rfl ?_
  refine g_dup dd_139_41 rfl ?_
  refine g_getfield (k := 16) am_ck12 (by decide) (Or.inl w_951) dd_139_42 (rm_g66 hH) rfl ?_
  refine g_iconst dd_139_45 ic_1 ?_
  refine e_iadd (v := p + 1) dd_139_46 (by omega) ?_
  refine g_putfield (k := 16) am_ck12 (by decide) (Or.inl w_951) (Or.inl rfl) dd_139_47 (rm_g66 hH) (Nat.le_of_ble_eq_true rfl) trivial ?_
  refine am_heq (rm_u66 hH) ?_
  show am_Good mi_139 50 [some (.ref 66), some (.retAddr n), some (.retAddr k)] [] (rm h f len (p + 1) rl rg z1 z2 z3 z4 z5 z6 tm (am_as td k ((am_ag tm p) - 48)) y1 y2 y3 y4 y5 y6) _
  refine g_aload_n (i := 0) dd_139_50 rfl ?_
  refine g_aload_n (i := 0) dd_139_51 rfl ?_
  refine g_getfield (k := 16) am_ck12 (by decide) (Or.inl w_951) dd_139_52 (rm_g66 hH) rfl ?_
  refine g_virtual (M' := mi_137) (n := 1) (ci := 12) (b := 66) (as := [.retAddr (p + 1)]) (st := []) (r1 := (some (.retAddr 4294967295), (rm h f len (p + 1) rl rg z1 z2 z3 z4 z5 z6 tm (am_as td k ((am_ag tm p) - 48)) y1 y2 y3 y4 y5 y6))) w_1121 w_1123 ps_137 ⟨lk_137.1, lk_137.2.1, lk_137.2.2, by decide, by decide⟩ rfl (rm_g66 hH) rfl (by simp [Value.category]) dd_139_55 (m_la0 hH (by omega) (by omega)) ?_
  show am_Good mi_139 58 [some (.ref 66), some (.retAddr n), some (.retAddr k)] [.retAddr 4294967295] (rm h f len (p + 1) rl rg z1 z2 z3 z4 z5 z6 tm (am_as td k ((am_ag tm p) - 48)) y1 y2 y3 y4 y5 y6) _
  refine g_static (M' := mi_140) (n := 1) (as := [.retAddr 4294967295]) (st := []) (r1 := (some (.retAddr 0), (rm h f len (p + 1) rl rg z1 z2 z3 z4 z5 z6 tm (am_as td k ((am_ag tm p) - 48)) y1 y2 y3 y4 y5 y6))) w_1133 w_1134 ⟨lk_140.1, lk_140.2.1, lk_140.2.2, by decide, by decide⟩ rfl (by simp [Value.category]) dd_139_58 (rifm rfl) ?_
  show am_Good mi_139 61 [some (.ref 66), some (.retAddr n), some (.retAddr k)] [.retAddr 0] (rm h f len (p + 1) rl rg z1 z2 z3 z4 z5 z6 tm (am_as td k ((am_ag tm p) - 48)) y1 y2 y3 y4 y5 y6) _
  refine g_if_eq_t (t := 101) dd_139_61 (by decide) (by decide) ?_
  refine g_aload_n (i := 0) dd_139_101 rfl ?_
  refine g_aload_n (i := 0) dd_139_102 rfl ?_
  refine g_getfield (k := 16) am_ck12 (by decide) (Or.inl w_951) dd_139_103 (rm_g66 hH) rfl ?_
  refine g_virtual (M' := mi_137) (n := 1) (ci := 12) (b := 66) (as := [.retAddr (p + 1)]) (st := []) (r1 := (some (.retAddr 4294967295), (rm h f len (p + 1) rl rg z1 z2 z3 z4 z5 z6 tm (am_as td k ((am_ag tm p) - 48)) y1 y2 y3 y4 y5 y6))) w_1121 w_1123 ps_137 ⟨lk_137.1, lk_137.2.1, lk_137.2.2, by decide, by decide⟩ rfl (rm_g66 hH) rfl (by simp [Value.category]) dd_139_106 (m_la0 hH (by omega) (by omega)) ?_
  show am_Good mi_139 109 [some (.ref 66), some (.retAddr n), some (.retAddr k)] [.retAddr 4294967295] (rm h f len (p + 1) rl rg z1 z2 z3 z4 z5 z6 tm (am_as td k ((am_ag tm p) - 48)) y1 y2 y3 y4 y5 y6) _
  refine g_iload_n (i := 2) dd_139_109 rfl ?_
  refine g_iload_n (i := 1) dd_139_110 rfl ?_
  refine g_iconst dd_139_111 ic_1 ?_
  refine e_isub (v := n - 1) dd_139_112 (by omega) ?_
  refine g_icmp_ge_f (t := 121) dd_139_113 (by decide) (by first | exact sk_ge_f (by omega) (by omega) | exact tk_ge_f (by omega)) ?_
  refine g_bipush dd_139_116 bi_44 ?_
  refine g_goto (t := 123) dd_139_118 (by decide) ?_
  refine g_icmp_eq_f (t := 128) dd_139_123 (by decide) (by decide) ?_
  refine g_iconst dd_139_126 ic_0 ?_
  exact g_zreturn rfl (by first | decide | omega) dd_139_127
theorem m_n10x {h : am_H} {f : Nat → Value} {len rl rg z1 z2 z3 z4 z5 z6 tm td y1 y2 y3 y4 y5 y6 : Nat} (hH : rm_ok h) {n k p : Nat} (hlen : len ≤ 200) (hn : n ≤ 5) (h126 : ∀ i, i < 200 → am_ag tm i ≤ 126) (hf0 : 48 ≤ am_ag tm p ∧ am_ag tm p ≤ 57) (hf1 : ¬ (48 ≤ am_ag tm (p + 1) ∧ am_ag tm (p + 1) ≤ 57)) (hl : p + 1 < len) (hk : k + 1 < n) (hs : am_ag tm (p + 1) ≠ 44) : am_Good mi_139 2 [some (.ref 66), some (.retAddr n), some (.retAddr k)] [] (rm h f len p rl rg z1 z2 z3 z4 z5 z6 tm td y1 y2 y3 y4 y5 y6) (some (.retAddr 0), (rm h f len (p + 1) rl rg z1 z2 z3 z4 z5 z6 tm (am_as td k (am_ag tm p - 48)) y1 y2 y3 y4 y5 y6)) := by
  have hx0 := am_ag_lt tm p
  have hx1 := am_ag_lt tm (p + 1)
  have hx2 := am_ag_lt tm (p + 2)
  have hy0 : p < len → am_ag tm p ≤ 126 := fun q => h126 p (by omega)
  have hy1 : p + 1 < len → am_ag tm (p + 1) ≤ 126 := fun q => h126 (p + 1) (by omega)
  have hy2 : p + 2 < len → am_ag tm (p + 2) ≤ 126 := fun q => h126 (p + 2) (by omega)
  refine g_iload_n (i := 2) dd_139_2 rfl ?_
  refine g_iload_n (i := 1) dd_139_3 rfl ?_
  refine g_icmp_ge_f (t := 144) dd_139_4 (by decide) (by first | exact sk_ge_f (by omega) (by omega) | exact tk_ge_f (by omega)) ?_
  refine g_aload_n (i := 0) dd_139_7 rfl ?_
  refine g_aload_n (i := 0) dd_139_8 rfl ?_
  refine g_getfield (k := 16) am_ck12 (by decide) (Or.inl w_951) dd_139_9 (rm_g66 hH) rfl ?_
  refine g_virtual (M' := mi_137) (n := 1) (ci := 12) (b := 66) (as := [.retAddr p]) (st := []) (r1 := (some (.retAddr (am_ag tm p)), (rm h f len p rl rg z1 z2 z3 z4 z5 z6 tm td y1 y2 y3 y4 y5 y6))) w_1121 w_1123 ps_137 ⟨lk_137.1, lk_137.2.1, lk_137.2.2, by decide, by decide⟩ rfl (rm_g66 hH) rfl (by simp [Value.category]) dd_139_12 (m_la1 hH (by omega) hlen) ?_
  show am_Good mi_139 15 [some (.ref 66), some (.retAddr n), some (.retAddr k)] [.retAddr (am_ag tm p)] (rm h f len p rl rg z1 z2 z3 z4 z5 z6 tm td y1 y2 y3 y4 y5 y6) _
  refine g_static (M' := mi_140) (n := 1) (as := [.retAddr (am_ag tm p)]) (st := []) (r1 := (some (.retAddr 1), (rm h f len p rl rg z1 z2 z3 z4 z5 z6 tm td y1 y2 y3 y4 y5 y6))) w_1133 w_1134 ⟨lk_140.1, lk_140.2.1, lk_140.2.2, by decide, by decide⟩ rfl (by simp [Value.category]) dd_139_15 (rif1 hf0) ?_
  show am_Good mi_139 18 [some (.ref 66), some (.retAddr n), some (.retAddr k)] [.retAddr 1] (rm h f len p rl rg z1 z2 z3 z4 z5 z6 tm td y1 y2 y3 y4 y5 y6) _
  refine g_if_ne_t (t := 23) dd_139_18 (by decide) (by decide) ?_
  refine g_aload_n (i := 0) dd_139_23 rfl ?_
  refine g_getfield (k := 17) am_ck12 (by decide) (Or.inl w_952) dd_139_24 (rm_g66 hH) rfl ?_
  refine g_iload_n (i := 2) dd_139_27 rfl ?_
  refine g_aload_n (i := 0) dd_139_28 rfl ?_
  refine g_aload_n (i := 0) dd_139_29 rfl ?_
  refine g_getfield (k := 16) am_ck12 (by decide) (Or.inl w_951) dd_139_30 (rm_g66 hH) rfl ?_
  refine g_virtual (M' := mi_137) (n := 1) (ci := 12) (b := 66) (as := [.retAddr p]) (st := [.retAddr k, .ref 74]) (r1 := (some (.retAddr (am_ag tm p)), (rm h f len p rl rg z1 z2 z3 z4 z5 z6 tm td y1 y2 y3 y4 y5 y6))) w_1121 w_1123 ps_137 ⟨lk_137.1, lk_137.2.1, lk_137.2.2, by decide, by decide⟩ rfl (rm_g66 hH) rfl (by simp [Value.category]) dd_139_33 (m_la1 hH (by omega) hlen) ?_
  show am_Good mi_139 36 [some (.ref 66), some (.retAddr n), some (.retAddr k)] [.retAddr (am_ag tm p), .retAddr k, .ref 74] (rm h f len p rl rg z1 z2 z3 z4 z5 z6 tm td y1 y2 y3 y4 y5 y6) _
  refine g_bipush dd_139_36 bi_48 ?_
  refine e_isub (v := (am_ag tm p) - 48) dd_139_38 (by omega) ?_
  refine g_iastore dd_139_39 (rm_g74 hH) (by omega) (by decide) ?_
  refine am_heq (rm_u74 hH) ?_
  show am_Good mi_139 40 [some (.ref 66), some (.retAddr n), some (.retAddr k)] [] (rm h f len p rl rg z1 z2 z3 z4 z5 z6 tm (am_as td k ((am_ag tm p) - 48)) y1 y2 y3 y4 y5 y6) _
  refine g_aload_n (i := 0) dd_139_40 rfl ?_
  refine g_dup dd_139_41 rfl ?_
  refine g_getfield (k := 16) am_ck12 (by decide) (Or.inl w_951) dd_139_42 (rm_g66 hH) rfl ?_
  refine g_iconst dd_139_45 ic_1 ?_
  refine e_iadd (v := p + 1) dd_139_46 (by omega) ?_
  refine g_putfield (k := 16) am_ck12 (by decide) (Or.inl w_951) (Or.inl rfl) dd_139_47 (rm_g66 hH) (Nat.le_of_ble_eq_true rfl) trivial ?_
  refine am_heq (rm_u66 hH) ?_
  show am_Good mi_139 50 [some (.ref 66), some (.retAddr n), some (.retAddr k)] [] (rm h f len (p + 1) rl rg z1 z2 z3 z4 z5 z6 tm (am_as td k ((am_ag tm p) - 48)) y1 y2 y3 y4 y5 y6) _
  refine g_aload_n (i := 0) dd_139_50 rfl ?_
  refine g_aload_n (i := 0) dd_139_51 rfl ?_
  refine g_getfield (k := 16) am_ck12 (by decide) (Or.inl w_951) dd_139_52 (rm_g66 hH) rfl ?_
  refine g_virtual (M' := mi_137) (n := 1) (ci := 12) (b := 66) (as := [.retAddr (p + 1)]) (st := []) (r1 := (some (.retAddr (am_ag tm (p + 1))), (rm h f len (p + 1) rl rg z1 z2 z3 z4 z5 z6 tm (am_as td k ((am_ag tm p) - 48)) y1 y2 y3 y4 y5 y6))) w_1121 w_1123 ps_137 ⟨lk_137.1, lk_137.2.1, lk_137.2.2, by decide, by decide⟩ rfl (rm_g66 hH) rfl (by simp [Value.category]) dd_139_55 (m_la1 hH (by omega) hlen) ?_
  show am_Good mi_139 58 [some (.ref 66), some (.retAddr n), some (.retAddr k)] [.retAddr (am_ag tm (p + 1))] (rm h f len (p + 1) rl rg z1 z2 z3 z4 z5 z6 tm (am_as td k ((am_ag tm p) - 48)) y1 y2 y3 y4 y5 y6) _
  refine g_static (M' := mi_140) (n := 1) (as := [.retAddr (am_ag tm (p + 1))]) (st := []) (r1 := (some (.retAddr 0), (rm h f len (p + 1) rl rg z1 z2 z3 z4 z5 z6 tm (am_as td k ((am_ag tm p) - 48)) y1 y2 y3 y4 y5 y6))) w_1133 w_1134 ⟨lk_140.1, lk_140.2.1, lk_140.2.2, by decide, by decide⟩ rfl (by simp [Value.category]) dd_139_58 (rif0 hf1 (by omega)) ?_
  show am_Good mi_139 61 [some (.ref 66), some (.retAddr n), some (.retAddr k)] [.retAddr 0] (rm h f len (p + 1) rl rg z1 z2 z3 z4 z5 z6 tm (am_as td k ((am_ag tm p) - 48)) y1 y2 y3 y4 y5 y6) _
  refine g_if_eq_t (t := 101) dd_139_61 (by decide) (by decide) ?_
  refine g_aload_n (i := 0) dd_139_101 rfl ?_
  refine g_aload_n (i := 0) dd_139_102 rfl ?_
  refine g_getfield (k := 16) am_ck12 (by decide) (Or.inl w_951) dd_139_103 (rm_g66 hH) rfl ?_
  refine g_virtual (M' := mi_137) (n := 1) (ci := 12) (b := 66) (as := [.retAddr (p + 1)]) (st := []) (r1 := (some (.retAddr (am_ag tm (p + 1))), (rm h f len (p + 1) rl rg z1 z2 z3 z4 z5 z6 tm (am_as td k ((am_ag tm p) - 48)) y1 y2 y3 y4 y5 y6))) w_1121 w_1123 ps_137 ⟨lk_137.1, lk_137.2.1, lk_137.2.2, by decide, by decide⟩ rfl (rm_g66 hH) rfl (by simp [Value.category]) dd_139_106 (m_la1 hH (by omega) hlen) ?_
  show am_Good mi_139 109 [some (.ref 66), some (.retAddr n), some (.retAddr k)] [.retAddr (am_ag tm (p + 1))] (rm h f len (p + 1) rl rg z1 z2 z3 z4 z5 z6 tm (am_as td k ((am_ag tm p) - 48)) y1 y2 y3 y4 y5 y6) _
  refine g_iload_n (i := 2) dd_139_109 rfl ?_
  refine g_iload_n (i := 1) dd_139_110 rfl ?_
  refine g_iconst dd_139_111 ic_1 ?_
  refine e_isub (v := n - 1) dd_139_112 (by omega) ?_
  refine g_icmp_ge_f (t := 121) dd_139_113 (by decide) (by first | exact sk_ge_f (by omega) (by omega) | exact tk_ge_f (by omega)) ?_
  refine g_bipush dd_139_116 bi_44 ?_
  refine g_goto (t := 123) dd_139_118 (by decide) ?_
  refine g_icmp_eq_f (t := 128) dd_139_123 (by decide) (tk_eq_f (by omega)) ?_
  refine g_iconst dd_139_126 ic_0 ?_
  exact g_zreturn rfl (by first | decide | omega) dd_139_127
theorem m_n10g {h : am_H} {f : Nat → Value} {len rl rg z1 z2 z3 z4 z5 z6 tm td y1 y2 y3 y4 y5 y6 : Nat} (hH : rm_ok h) {n k p : Nat} (hlen : len ≤ 200) (hn : n ≤ 5) (h126 : ∀ i, i < 200 → am_ag tm i ≤ 126) (hf0 : 48 ≤ am_ag tm p ∧ am_ag tm p ≤ 57) (hf1 : ¬ (48 ≤ am_ag tm (p + 1) ∧ am_ag tm (p + 1) ≤ 57)) (hl : p + 1 < len) (hk : k + 1 < n) (hs : am_ag tm (p + 1) = 44) {r : am_R} (hg : am_Good mi_139 2 [some (.ref 66), some (.retAddr n), some (.retAddr (k + 1))] [] (rm h f len (p + 2) rl rg z1 z2 z3 z4 z5 z6 tm (am_as td k (am_ag tm p - 48)) y1 y2 y3 y4 y5 y6) r) : am_Good mi_139 2 [some (.ref 66), some (.retAddr n), some (.retAddr k)] [] (rm h f len p rl rg z1 z2 z3 z4 z5 z6 tm td y1 y2 y3 y4 y5 y6) r := by
  have hx0 := am_ag_lt tm p
  have hx1 := am_ag_lt tm (p + 1)
  have hx2 := am_ag_lt tm (p + 2)
  have hy0 : p < len → am_ag tm p ≤ 126 := fun q => h126 p (by omega)
  have hy1 : p + 1 < len → am_ag tm (p + 1) ≤ 126 := fun q => h126 (p + 1) (by omega)
  have hy2 : p + 2 < len → am_ag tm (p + 2) ≤ 126 := fun q => h126 (p + 2) (by omega)
  refine g_iload_n (i := 2) dd_139_2 rfl ?_
  refine g_iload_n (i := 1) dd_139_3 rfl ?_
  refine g_icmp_ge_f (t := 144) dd_139_4 (by decide) (by first | exact sk_ge_f (by omega) (by omega) | exact tk_ge_f (by omega)) ?_
  refine g_aload_n (i := 0) dd_139_7 rfl ?_
  refine g_aload_n (i := 0) dd_139_8 rfl ?_
  refine g_getfield (k := 16) am_ck12 (by decide) (Or.inl w_951) dd_139_9 (rm_g66 hH) rfl ?_
  refine g_virtual (M' := mi_137) (n := 1) (ci := 12) (b := 66) (as := [.retAddr p]) (st := []) (r1 := (some (.retAddr (am_ag tm p)), (rm h f len p rl rg z1 z2 z3 z4 z5 z6 tm td y1 y2 y3 y4 y5 y6))) w_1121 w_1123 ps_137 ⟨lk_137.1, lk_137.2.1, lk_137.2.2, by decide, by decide⟩ rfl (rm_g66 hH) rfl (by simp [Value.category]) dd_139_12 (m_la1 hH (by omega) hlen) ?_
  show am_Good mi_139 15 [some (.ref 66), some (.retAddr n), some (.retAddr k)] [.retAddr (am_ag tm p)] (rm h f len p rl rg z1 z2 z3 z4 z5 z6 tm td y1 y2 y3 y4 y5 y6) _
  refine g_static (M' := mi_140) (n := 1) (as := [.retAddr (am_ag tm p)]) (st := []) (r1 := (some (.retAddr 1), (rm h f len p rl rg z1 z2 z3 z4 z5 z6 tm td y1 y2 y3 y4 y5 y6))) w_1133 w_1134 ⟨lk_140.1, lk_140.2.1, lk_140.2.2, by decide, by decide⟩ rfl (by simp [Value.category]) dd_139_15 (rif1 hf0) ?_
  show am_Good mi_139 18 [some (.ref 66), some (.retAddr n), some (.retAddr k)] [.retAddr 1] (rm h f len p rl rg z1 z2 z3 z4 z5 z6 tm td y1 y2 y3 y4 y5 y6) _
  refine g_if_ne_t (t := 23) dd_139_18 (by decide) (by decide) ?_
  refine g_aload_n (i := 0) dd_139_23 rfl ?_
  refine g_getfield (k := 17) am_ck12 (by decide) (Or.inl w_952) dd_139_24 (rm_g66 hH) rfl ?_
  refine g_iload_n (i := 2) dd_139_27 rfl ?_
  refine g_aload_n (i := 0) dd_139_28 rfl ?_
  refine g_aload_n (i := 0) dd_139_29 rfl ?_
  refine g_getfield (k := 16) am_ck12 (by decide) (Or.inl w_951) dd_139_30 (rm_g66 hH) rfl ?_
  refine g_virtual (M' := mi_137) (n := 1) (ci := 12) (b := 66) (as := [.retAddr p]) (st := [.retAddr k, .ref 74]) (r1 := (some (.retAddr (am_ag tm p)), (rm h f len p rl rg z1 z2 z3 z4 z5 z6 tm td y1 y2 y3 y4 y5 y6))) w_1121 w_1123 ps_137 ⟨lk_137.1, lk_137.2.1, lk_137.2.2, by decide, by decide⟩ rfl (rm_g66 hH) rfl (by simp [Value.category]) dd_139_33 (m_la1 hH (by omega) hlen) ?_
  show am_Good mi_139 36 [some (.ref 66), some (.retAddr n), some (.retAddr k)] [.retAddr (am_ag tm p), .retAddr k, .ref 74] (rm h f len p rl rg z1 z2 z3 z4 z5 z6 tm td y1 y2 y3 y4 y5 y6) _
  refine g_bipush dd_139_36 bi_48 ?_
  refine e_isub (v := (am_ag tm p) - 48) dd_139_38 (by omega) ?_
  refine g_iastore dd_139_39 (rm_g74 hH) (by omega) (by decide) ?_
  refine am_heq (rm_u74 hH) ?_
  show am_Good mi_139 40 [some (.ref 66), some (.retAddr n), some (.retAddr k)] [] (rm h f len p rl rg z1 z2 z3 z4 z5 z6 tm (am_as td k ((am_ag tm p) - 48)) y1 y2 y3 y4 y5 y6) _
  refine g_aload_n (i := 0) dd_139_40 rfl ?_
  refine g_dup dd_139_41 rfl ?_
  refine g_getfield (k := 16) am_ck12 (by decide) (Or.inl w_951) dd_139_42 (rm_g66 hH) rfl ?_
  refine g_iconst dd_139_45 ic_1 ?_
  refine e_iadd (v := p + 1) dd_139_46 (by omega) ?_
  refine g_putfield (k := 16) am_ck12 (by decide) (Or.inl w_951) (Or.inl rfl) dd_139_47 (rm_g66 hH) (Nat.le_of_ble_eq_true rfl) trivial ?_
  refine am_heq (rm_u66 hH) ?_
  show am_Good mi_139 50 [some (.ref 66), some (.retAddr n), some (.retAddr k)] [] (rm h f len (p + 1) rl rg z1 z2 z3 z4 z5 z6 tm (am_as td k ((am_ag tm p) - 48)) y1 y2 y3 y4 y5 y6) _
  refine g_aload_n (i := 0) dd_139_50 rfl ?_
  refine g_aload_n (i := 0) dd_139_51 rfl ?_
  refine g_getfield (k := 16) am_ck12 (by decide) (Or.inl w_951) dd_139_52 (rm_g66 hH) rfl ?_
  refine g_virtual (M' := mi_137) (n := 1) (ci := 12) (b := 66) (as := [.retAddr (p + 1)]) (st := []) (r1 := (some (.retAddr (am_ag tm (p + 1))), (rm h f len (p + 1) rl rg z1 z2 z3 z4 z5 z6 tm (am_as td k ((am_ag tm p) - 48)) y1 y2 y3 y4 y5 y6))) w_1121 w_1123 ps_137 ⟨lk_137.1, lk_137.2.1, lk_137.2.2, by decide, by decide⟩ rfl (rm_g66 hH) rfl (by simp [Value.category]) dd_139_55 (m_la1 hH (by omega) hlen) ?_
  show am_Good mi_139 58 [some (.ref 66), some (.retAddr n), some (.retAddr k)] [.retAddr (am_ag tm (p + 1))] (rm h f len (p + 1) rl rg z1 z2 z3 z4 z5 z6 tm (am_as td k ((am_ag tm p) - 48)) y1 y2 y3 y4 y5 y6) _
  refine g_static (M' := mi_140) (n := 1) (as := [.retAddr (am_ag tm (p + 1))]) (st := []) (r1 := (some (.retAddr 0), (rm h f len (p + 1) rl rg z1 z2 z3 z4 z5 z6 tm (am_as td k ((am_ag tm p) - 48)) y1 y2 y3 y4 y5 y6))) w_1133 w_1134 ⟨lk_140.1, lk_140.2.1, lk_140.2.2, by decide, by decide⟩ rfl (by simp [Value.category]) dd_139_58 (rif0 hf1 (by omega)) ?_
  show am_Good mi_139 61 [some (.ref 66), some (.retAddr n), some (.retAddr k)] [.retAddr 0] (rm h f len (p + 1) rl rg z1 z2 z3 z4 z5 z6 tm (am_as td k ((am_ag tm p) - 48)) y1 y2 y3 y4 y5 y6) _
  refine g_if_eq_t (t := 101) dd_139_61 (by decide) (by decide) ?_
  refine g_aload_n (i := 0) dd_139_101 rfl ?_
  refine g_aload_n (i := 0) dd_139_102 rfl ?_
  refine g_getfield (k := 16) am_ck12 (by decide) (Or.inl w_951) dd_139_103 (rm_g66 hH) rfl ?_
  refine g_virtual (M' := mi_137) (n := 1) (ci := 12) (b := 66) (as := [.retAddr (p + 1)]) (st := []) (r1 := (some (.retAddr (am_ag tm (p + 1))), (rm h f len (p + 1) rl rg z1 z2 z3 z4 z5 z6 tm (am_as td k ((am_ag tm p) - 48)) y1 y2 y3 y4 y5 y6))) w_1121 w_1123 ps_137 ⟨lk_137.1, lk_137.2.1, lk_137.2.2, by decide, by decide⟩ rfl (rm_g66 hH) rfl (by simp [Value.category]) dd_139_106 (m_la1 hH (by omega) hlen) ?_
  show am_Good mi_139 109 [some (.ref 66), some (.retAddr n), some (.retAddr k)] [.retAddr (am_ag tm (p + 1))] (rm h f len (p + 1) rl rg z1 z2 z3 z4 z5 z6 tm (am_as td k ((am_ag tm p) - 48)) y1 y2 y3 y4 y5 y6) _
  refine g_iload_n (i := 2) dd_139_109 rfl ?_
  refine g_iload_n (i := 1) dd_139_110 rfl ?_
  refine g_iconst dd_139_111 ic_1 ?_
  refine e_isub (v := n - 1) dd_139_112 (by omega) ?_
  refine g_icmp_ge_f (t := 121) dd_139_113 (by decide) (by first | exact sk_ge_f (by omega) (by omega) | exact tk_ge_f (by omega)) ?_
  refine g_bipush dd_139_116 bi_44 ?_
  refine g_goto (t := 123) dd_139_118 (by decide) ?_
  refine g_icmp_eq_t (t := 128) dd_139_123 (by decide) (tk_eq_t (by omega)) ?_
  refine g_aload_n (i := 0) dd_139_128 rfl ?_
  refine g_dup dd_139_129 rfl ?_
  refine g_getfield (k := 16) am_ck12 (by decide) (Or.inl w_951) dd_139_130 (rm_g66 hH) rfl ?_
  refine g_iconst dd_139_133 ic_1 ?_
  refine e_iadd (v := p + 2) dd_139_134 (by omega) ?_
  refine g_putfield (k := 16) am_ck12 (by decide) (Or.inl w_951) (Or.inl rfl) dd_139_135 (rm_g66 hH) (Nat.le_of_ble_eq_true rfl) trivial ?_
  refine am_heq (rm_u66 hH) ?_
  show am_Good mi_139 138 [some (.ref 66), some (.retAddr n), some (.retAddr k)] [] (rm h f len (p + 2) rl rg z1 z2 z3 z4 z5 z6 tm (am_as td k ((am_ag tm p) - 48)) y1 y2 y3 y4 y5 y6) _
  refine e_iinc (v := 1) (w := k + 1) dd_139_138 rfl ic_1 (am_nlb_ok rfl) (by decide) (by omega) ?_
  refine g_goto (t := 2) dd_139_141 (by decide) ?_
  exact hg
theorem m_n11e {h : am_H} {f : Nat → Value} {len rl rg z1 z2 z3 z4 z5 z6 tm td y1 y2 y3 y4 y5 y6 : Nat} (hH : rm_ok h) {n k p : Nat} (hlen : len ≤ 200) (hn : n ≤ 5) (h126 : ∀ i, i < 200 → am_ag tm i ≤ 126) (hf0 : 48 ≤ am_ag tm p ∧ am_ag tm p ≤ 57) (hl : ¬ p + 1 < len) (hl2 : p + 1 ≤ len) (hk : k + 1 = n) : am_Good mi_139 2 [some (.ref 66), some (.retAddr n), some (.retAddr k)] [] (rm h f len p rl rg z1 z2 z3 z4 z5 z6 tm td y1 y2 y3 y4 y5 y6) (some (.retAddr 0), (rm h f len (p + 1) rl rg z1 z2 z3 z4 z5 z6 tm (am_as td k (am_ag tm p - 48)) y1 y2 y3 y4 y5 y6)) := by
  have hx0 := am_ag_lt tm p
  have hx1 := am_ag_lt tm (p + 1)
  have hx2 := am_ag_lt tm (p + 2)
  have hy0 : p < len → am_ag tm p ≤ 126 := fun q => h126 p (by omega)
  have hy1 : p + 1 < len → am_ag tm (p + 1) ≤ 126 := fun q => h126 (p + 1) (by omega)
  have hy2 : p + 2 < len → am_ag tm (p + 2) ≤ 126 := fun q => h126 (p + 2) (by omega)
  refine g_iload_n (i := 2) dd_139_2 rfl ?_
  refine g_iload_n (i := 1) dd_139_3 rfl ?_
  refine g_icmp_ge_f (t := 144) dd_139_4 (by decide) (by first | exact sk_ge_f (by omega) (by omega) | exact tk_ge_f (by omega)) ?_
  refine g_aload_n (i := 0) dd_139_7 rfl ?_
  refine g_aload_n (i := 0) dd_139_8 rfl ?_
  refine g_getfield (k := 16) am_ck12 (by decide) (Or.inl w_951) dd_139_9 (rm_g66 hH) rfl ?_
  refine g_virtual (M' := mi_137) (n := 1) (ci := 12) (b := 66) (as := [.retAddr p]) (st := []) (r1 := (some (.retAddr (am_ag tm p)), (rm h f len p rl rg z1 z2 z3 z4 z5 z6 tm td y1 y2 y3 y4 y5 y6))) w_1121 w_1123 ps_137 ⟨lk_137.1, lk_137.2.1, lk_137.2.2, by decide, by decide⟩ rfl (rm_g66 hH) rfl (by simp [Value.category]) dd_139_12 (m_la1 hH (by omega) hlen) ?_
  show am_Good mi_139 15 [some (.ref 66), some (.retAddr n), some (.retAddr k)] [.retAddr (am_ag tm p)] (rm h f len p rl rg z1 z2 z3 z4 z5 z6 tm td y1 y2 y3 y4 y5 y6) _
  refine g_static (M' := mi_140) (n := 1) (as := [.retAddr (am_ag tm p)]) (st := []) (r1 := (some (.retAddr 1), (rm h f len p rl rg z1 z2 z3 z4 z5 z6 tm td y1 y2 y3 y4 y5 y6))) w_1133 w_1134 ⟨lk_140.1, lk_140.2.1, lk_140.2.2, by decide, by decide⟩ rfl (by simp [Value.category]) dd_139_15 (rif1 hf0) ?_
  show am_Good mi_139 18 [some (.ref 66), some (.retAddr n), some (.retAddr k)] [.retAddr 1] (rm h f len p rl rg z1 z2 z3 z4 z5 z6 tm td y1 y2 y3 y4 y5 y6) _
  refine g_if_ne_t (t := 23) dd_139_18 (by decide) (by decide) ?_
  refine g_aload_n (i := 0) dd_139_23 rfl ?_
  refine g_getfield (k := 17) am_ck12 (by decide) (Or.inl w_952) dd_139_24 (rm_g66 hH) rfl ?_
  refine g_iload_n (i := 2) dd_139_27 rfl ?_
  refine g_aload_n (i := 0) dd_139_28 rfl ?_
  refine g_aload_n (i := 0) dd_139_29 rfl ?_
  refine g_getfield (k := 16) am_ck12 (by decide) (Or.inl w_951) dd_139_30 (rm_g66 hH) rfl ?_
  refine g_virtual (M' := mi_137) (n := 1) (ci := 12) (b := 66) (as := [.retAddr p]) (st := [.retAddr k, .ref 74]) (r1 := (some (.retAddr (am_ag tm p)), (rm h f len p rl rg z1 z2 z3 z4 z5 z6 tm td y1 y2 y3 y4 y5 y6))) w_1121 w_1123 ps_137 ⟨lk_137.1, lk_137.2.1, lk_137.2.2, by decide, by decide⟩ rfl (rm_g66 hH) rfl (by simp [Value.category]) dd_139_33 (m_la1 hH (by omega) hlen) ?_
  show am_Good mi_139 36 [some (.ref 66), some (.retAddr n), some (.retAddr k)] [.retAddr (am_ag tm p), .retAddr k, .ref 74] (rm h f len p rl rg z1 z2 z3 z4 z5 z6 tm td y1 y2 y3 y4 y5 y6) _
  refine g_bipush dd_139_36 bi_48 ?_
  refine e_isub (v := (am_ag tm p) - 48) dd_139_38 (by omega) ?_
  refine g_iastore dd_139_39 (rm_g74 hH) (by omega) (by decide) ?_
  refine am_heq (rm_u74 hH) ?_
  show am_Good mi_139 40 [some (.ref 66), some (.retAddr n), some (.retAddr k)] [] (rm h f len p rl rg z1 z2 z3 z4 z5 z6 tm (am_as td k ((am_ag tm p) - 48)) y1 y2 y3 y4 y5 y6) _
  refine g_aload_n (i := 0) dd_139_40 rfl ?_
  refine g_dup dd_139_41 rfl ?_
  refine g_getfield (k := 16) am_ck12 (by decide) (Or.inl w_951) dd_139_42 (rm_g66 hH) rfl ?_
  refine g_iconst dd_139_45 ic_1 ?_
  refine e_iadd (v := p + 1) dd_139_46 (by omega) ?_
  refine g_putfield (k := 16) am_ck12 (by decide) (Or.inl w_951) (Or.inl rfl) dd_139_47 (rm_g66 hH) (Nat.le_of_ble_eq_true rfl) trivial ?_
  refine am_heq (rm_u66 hH) ?_
  show am_Good mi_139 50 [some (.ref 66), some (.retAddr n), some (.retAddr k)] [] (rm h f len (p + 1) rl rg z1 z2 z3 z4 z5 z6 tm (am_as td k ((am_ag tm p) - 48)) y1 y2 y3 y4 y5 y6) _
  refine g_aload_n (i := 0) dd_139_50 rfl ?_
  refine g_aload_n (i := 0) dd_139_51 rfl ?_
  refine g_getfield (k := 16) am_ck12 (by decide) (Or.inl w_951) dd_139_52 (rm_g66 hH) rfl ?_
  refine g_virtual (M' := mi_137) (n := 1) (ci := 12) (b := 66) (as := [.retAddr (p + 1)]) (st := []) (r1 := (some (.retAddr 4294967295), (rm h f len (p + 1) rl rg z1 z2 z3 z4 z5 z6 tm (am_as td k ((am_ag tm p) - 48)) y1 y2 y3 y4 y5 y6))) w_1121 w_1123 ps_137 ⟨lk_137.1, lk_137.2.1, lk_137.2.2, by decide, by decide⟩ rfl (rm_g66 hH) rfl (by simp [Value.category]) dd_139_55 (m_la0 hH (by omega) (by omega)) ?_
  show am_Good mi_139 58 [some (.ref 66), some (.retAddr n), some (.retAddr k)] [.retAddr 4294967295] (rm h f len (p + 1) rl rg z1 z2 z3 z4 z5 z6 tm (am_as td k ((am_ag tm p) - 48)) y1 y2 y3 y4 y5 y6) _
  refine g_static (M' := mi_140) (n := 1) (as := [.retAddr 4294967295]) (st := []) (r1 := (some (.retAddr 0), (rm h f len (p + 1) rl rg z1 z2 z3 z4 z5 z6 tm (am_as td k ((am_ag tm p) - 48)) y1 y2 y3 y4 y5 y6))) w_1133 w_1134 ⟨lk_140.1, lk_140.2.1, lk_140.2.2, by decide, by decide⟩ rfl (by simp [Value.category]) dd_139_58 (rifm rfl) ?_
  show am_Good mi_139 61 [some (.ref 66), some (.retAddr n), some (.retAddr k)] [.retAddr 0] (rm h f len (p + 1) rl rg z1 z2 z3 z4 z5 z6 tm (am_as td k ((am_ag tm p) - 48)) y1 y2 y3 y4 y5 y6) _
  refine g_if_eq_t (t := 101) dd_139_61 (by decide) (by decide) ?_
  refine g_aload_n (i := 0) dd_139_101 rfl ?_
  refine g_aload_n (i := 0) dd_139_102 rfl ?_
  refine g_getfield (k := 16) am_ck12 (by decide) (Or.inl w_951) dd_139_103 (rm_g66 hH) rfl ?_
  refine g_virtual (M' := mi_137) (n := 1) (ci := 12) (b := 66) (as := [.retAddr (p + 1)]) (st := []) (r1 := (some (.retAddr 4294967295), (rm h f len (p + 1) rl rg z1 z2 z3 z4 z5 z6 tm (am_as td k ((am_ag tm p) - 48)) y1 y2 y3 y4 y5 y6))) w_1121 w_1123 ps_137 ⟨lk_137.1, lk_137.2.1, lk_137.2.2, by decide, by decide⟩ rfl (rm_g66 hH) rfl (by simp [Value.category]) dd_139_106 (m_la0 hH (by omega) (by omega)) ?_
  show am_Good mi_139 109 [some (.ref 66), some (.retAddr n), some (.retAddr k)] [.retAddr 4294967295] (rm h f len (p + 1) rl rg z1 z2 z3 z4 z5 z6 tm (am_as td k ((am_ag tm p) - 48)) y1 y2 y3 y4 y5 y6) _
  refine g_iload_n (i := 2) dd_139_109 rfl ?_
  refine g_iload_n (i := 1) dd_139_110 rfl ?_
  refine g_iconst dd_139_111 ic_1 ?_
  refine e_isub (v := n - 1) dd_139_112 (by omega) ?_
  refine g_icmp_ge_t (t := 121) dd_139_113 (by decide) (by first | exact sk_ge_t (by omega) (by omega) | exact tk_ge_t (by omega)) ?_
  refine g_bipush dd_139_121 bi_59 ?_
  refine g_icmp_eq_f (t := 128) dd_139_123 (by decide) (by decide) ?_
  refine g_iconst dd_139_126 ic_0 ?_
  exact g_zreturn rfl (by first | decide | omega) dd_139_127
theorem m_n11x {h : am_H} {f : Nat → Value} {len rl rg z1 z2 z3 z4 z5 z6 tm td y1 y2 y3 y4 y5 y6 : Nat} (hH : rm_ok h) {n k p : Nat} (hlen : len ≤ 200) (hn : n ≤ 5) (h126 : ∀ i, i < 200 → am_ag tm i ≤ 126) (hf0 : 48 ≤ am_ag tm p ∧ am_ag tm p ≤ 57) (hf1 : ¬ (48 ≤ am_ag tm (p + 1) ∧ am_ag tm (p + 1) ≤ 57)) (hl : p + 1 < len) (hk : k + 1 = n) (hs : am_ag tm (p + 1) ≠ 59) : am_Good mi_139 2 [some (.ref 66), some (.retAddr n), some (.retAddr k)] [] (rm h f len p rl rg z1 z2 z3 z4 z5 z6 tm td y1 y2 y3 y4 y5 y6) (some (.retAddr 0), (rm h f len (p + 1) rl rg z1 z2 z3 z4 z5 z6 tm (am_as td k (am_ag tm p - 48)) y1 y2 y3 y4 y5 y6)) := by
  have hx0 := am_ag_lt tm p
  have hx1 := am_ag_lt tm (p + 1)
  have hx2 := am_ag_lt tm (p + 2)
  have hy0 : p < len → am_ag tm p ≤ 126 := fun q => h126 p (by omega)
  have hy1 : p + 1 < len → am_ag tm (p + 1) ≤ 126 := fun q => h126 (p + 1) (by omega)
  have hy2 : p + 2 < len → am_ag tm (p + 2) ≤ 126 := fun q => h126 (p + 2) (by omega)
  refine g_iload_n (i := 2) dd_139_2 rfl ?_
  refine g_iload_n (i := 1) dd_139_3 rfl ?_
  refine g_icmp_ge_f (t := 144) dd_139_4 (by decide) (by first | exact sk_ge_f (by omega) (by omega) | exact tk_ge_f (by omega)) ?_
  refine g_aload_n (i := 0) dd_139_7 rfl ?_
  refine g_aload_n (i := 0) dd_139_8 rfl ?_
  refine g_getfield (k := 16) am_ck12 (by decide) (Or.inl w_951) dd_139_9 (rm_g66 hH) rfl ?_
  refine g_virtual (M' := mi_137) (n := 1) (ci := 12) (b := 66) (as := [.retAddr p]) (st := []) (r1 := (some (.retAddr (am_ag tm p)), (rm h f len p rl rg z1 z2 z3 z4 z5 z6 tm td y1 y2 y3 y4 y5 y6))) w_1121 w_1123 ps_137 ⟨lk_137.1, lk_137.2.1, lk_137.2.2, by decide, by decide⟩ rfl (rm_g66 hH) rfl (by simp [Value.category]) dd_139_12 (m_la1 hH (by omega) hlen) ?_
  show am_Good mi_139 15 [some (.ref 66), some (.retAddr n), some (.retAddr k)] [.retAddr (am_ag tm p)] (rm h f len p rl rg z1 z2 z3 z4 z5 z6 tm td y1 y2 y3 y4 y5 y6) _
  refine g_static (M' := mi_140) (n := 1) (as := [.retAddr (am_ag tm p)]) (st := []) (r1 := (some (.retAddr 1), (rm h f len p rl rg z1 z2 z3 z4 z5 z6 tm td y1 y2 y3 y4 y5 y6))) w_1133 w_1134 ⟨lk_140.1, lk_140.2.1, lk_140.2.2, by decide, by decide⟩ rfl (by simp [Value.category]) dd_139_15 (rif1 hf0) ?_
  show am_Good mi_139 18 [some (.ref 66), some (.retAddr n), some (.retAddr k)] [.retAddr 1] (rm h f len p rl rg z1 z2 z3 z4 z5 z6 tm td y1 y2 y3 y4 y5 y6) _
  refine g_if_ne_t (t := 23) dd_139_18 (by decide) (by decide) ?_
  refine g_aload_n (i := 0) dd_139_23 rfl ?_
  refine g_getfield (k := 17) am_ck12 (by decide) (Or.inl w_952) dd_139_24 (rm_g66 hH) rfl ?_
  refine g_iload_n (i := 2) dd_139_27 rfl ?_
  refine g_aload_n (i := 0) dd_139_28 rfl ?_
  refine g_aload_n (i := 0) dd_139_29 rfl ?_
  refine g_getfield (k := 16) am_ck12 (by decide) (Or.inl w_951) dd_139_30 (rm_g66 hH) rfl ?_
  refine g_virtual (M' := mi_137) (n := 1) (ci := 12) (b := 66) (as := [.retAddr p]) (st := [.retAddr k, .ref 74]) (r1 := (some (.retAddr (am_ag tm p)), (rm h f len p rl rg z1 z2 z3 z4 z5 z6 tm td y1 y2 y3 y4 y5 y6))) w_1121 w_1123 ps_137 ⟨lk_137.1, lk_137.2.1, lk_137.2.2, by decide, by decide⟩ rfl (rm_g66 hH) rfl (by simp [Value.category]) dd_139_33 (m_la1 hH (by omega) hlen) ?_
  show am_Good mi_139 36 [some (.ref 66), some (.retAddr n), some (.retAddr k)] [.retAddr (am_ag tm p), .retAddr k, .ref 74] (rm h f len p rl rg z1 z2 z3 z4 z5 z6 tm td y1 y2 y3 y4 y5 y6) _
  refine g_bipush dd_139_36 bi_48 ?_
  refine e_isub (v := (am_ag tm p) - 48) dd_139_38 (by omega) ?_
  refine g_iastore dd_139_39 (rm_g74 hH) (by omega) (by decide) ?_
  refine am_heq (rm_u74 hH) ?_
  show am_Good mi_139 40 [some (.ref 66), some (.retAddr n), some (.retAddr k)] [] (rm h f len p rl rg z1 z2 z3 z4 z5 z6 tm (am_as td k ((am_ag tm p) - 48)) y1 y2 y3 y4 y5 y6) _
  refine g_aload_n (i := 0) dd_139_40 rfl ?_
  refine g_dup dd_139_41 rfl ?_
  refine g_getfield (k := 16) am_ck12 (by decide) (Or.inl w_951) dd_139_42 (rm_g66 hH) rfl ?_
  refine g_iconst dd_139_45 ic_1 ?_
  refine e_iadd (v := p + 1) dd_139_46 (by omega) ?_
  refine g_putfield (k := 16) am_ck12 (by decide) (Or.inl w_951) (Or.inl rfl) dd_139_47 (rm_g66 hH) (Nat.le_of_ble_eq_true rfl) trivial ?_
  refine am_heq (rm_u66 hH) ?_
  show am_Good mi_139 50 [some (.ref 66), some (.retAddr n), some (.retAddr k)] [] (rm h f len (p + 1) rl rg z1 z2 z3 z4 z5 z6 tm (am_as td k ((am_ag tm p) - 48)) y1 y2 y3 y4 y5 y6) _
  refine g_aload_n (i := 0) dd_139_50 rfl ?_
  refine g_aload_n (i := 0) dd_139_51 rfl ?_
  refine g_getfield (k := 16) am_ck12 (by decide) (Or.inl w_951) dd_139_52 (rm_g66 hH) rfl ?_
  refine g_virtual (M' := mi_137) (n := 1) (ci := 12) (b := 66) (as := [.retAddr (p + 1)]) (st := []) (r1 := (some (.retAddr (am_ag tm (p + 1))), (rm h f len (p + 1) rl rg z1 z2 z3 z4 z5 z6 tm (am_as td k ((am_ag tm p) - 48)) y1 y2 y3 y4 y5 y6))) w_1121 w_1123 ps_137 ⟨lk_137.1, lk_137.2.1, lk_137.2.2, by decide, by decide⟩ rfl (rm_g66 hH) rfl (by simp [Value.category]) dd_139_55 (m_la1 hH (by omega) hlen) ?_
  show am_Good mi_139 58 [some (.ref 66), some (.retAddr n), some (.retAddr k)] [.retAddr (am_ag tm (p + 1))] (rm h f len (p + 1) rl rg z1 z2 z3 z4 z5 z6 tm (am_as td k ((am_ag tm p) - 48)) y1 y2 y3 y4 y5 y6) _
  refine g_static (M' := mi_140) (n := 1) (as := [.retAddr (am_ag tm (p + 1))]) (st := []) (r1 := (some (.retAddr 0), (rm h f len (p + 1) rl rg z1 z2 z3 z4 z5 z6 tm (am_as td k ((am_ag tm p) - 48)) y1 y2 y3 y4 y5 y6))) w_1133 w_1134 ⟨lk_140.1, lk_140.2.1, lk_140.2.2, by decide, by decide⟩ rfl (by simp [Value.category]) dd_139_58 (rif0 hf1 (by omega)) ?_
  show am_Good mi_139 61 [some (.ref 66), some (.retAddr n), some (.retAddr k)] [.retAddr 0] (rm h f len (p + 1) rl rg z1 z2 z3 z4 z5 z6 tm (am_as td k ((am_ag tm p) - 48)) y1 y2 y3 y4 y5 y6) _
  refine g_if_eq_t (t := 101) dd_139_61 (by decide) (by decide) ?_
  refine g_aload_n (i := 0) dd_139_101 rfl ?_
  refine g_aload_n (i := 0) dd_139_102 rfl ?_
  refine g_getfield (k := 16) am_ck12 (by decide) (Or.inl w_951) dd_139_103 (rm_g66 hH) rfl ?_
  refine g_virtual (M' := mi_137) (n := 1) (ci := 12) (b := 66) (as := [.retAddr (p + 1)]) (st := []) (r1 := (some (.retAddr (am_ag tm (p + 1))), (rm h f len (p + 1) rl rg z1 z2 z3 z4 z5 z6 tm (am_as td k ((am_ag tm p) - 48)) y1 y2 y3 y4 y5 y6))) w_1121 w_1123 ps_137 ⟨lk_137.1, lk_137.2.1, lk_137.2.2, by decide, by decide⟩ rfl (rm_g66 hH) rfl (by simp [Value.category]) dd_139_106 (m_la1 hH (by omega) hlen) ?_
  show am_Good mi_139 109 [some (.ref 66), some (.retAddr n), some (.retAddr k)] [.retAddr (am_ag tm (p + 1))] (rm h f len (p + 1) rl rg z1 z2 z3 z4 z5 z6 tm (am_as td k ((am_ag tm p) - 48)) y1 y2 y3 y4 y5 y6) _
  refine g_iload_n (i := 2) dd_139_109 rfl ?_
  refine g_iload_n (i := 1) dd_139_110 rfl ?_
  refine g_iconst dd_139_111 ic_1 ?_
  refine e_isub (v := n - 1) dd_139_112 (by omega) ?_
  refine g_icmp_ge_t (t := 121) dd_139_113 (by decide) (by first | exact sk_ge_t (by omega) (by omega) | exact tk_ge_t (by omega)) ?_
  refine g_bipush dd_139_121 bi_59 ?_
  refine g_icmp_eq_f (t := 128) dd_139_123 (by decide) (tk_eq_f (by omega)) ?_
  refine g_iconst dd_139_126 ic_0 ?_
  exact g_zreturn rfl (by first | decide | omega) dd_139_127
theorem m_n11g {h : am_H} {f : Nat → Value} {len rl rg z1 z2 z3 z4 z5 z6 tm td y1 y2 y3 y4 y5 y6 : Nat} (hH : rm_ok h) {n k p : Nat} (hlen : len ≤ 200) (hn : n ≤ 5) (h126 : ∀ i, i < 200 → am_ag tm i ≤ 126) (hf0 : 48 ≤ am_ag tm p ∧ am_ag tm p ≤ 57) (hf1 : ¬ (48 ≤ am_ag tm (p + 1) ∧ am_ag tm (p + 1) ≤ 57)) (hl : p + 1 < len) (hk : k + 1 = n) (hs : am_ag tm (p + 1) = 59) {r : am_R} (hg : am_Good mi_139 2 [some (.ref 66), some (.retAddr n), some (.retAddr (k + 1))] [] (rm h f len (p + 2) rl rg z1 z2 z3 z4 z5 z6 tm (am_as td k (am_ag tm p - 48)) y1 y2 y3 y4 y5 y6) r) : am_Good mi_139 2 [some (.ref 66), some (.retAddr n), some (.retAddr k)] [] (rm h f len p rl rg z1 z2 z3 z4 z5 z6 tm td y1 y2 y3 y4 y5 y6) r := by
  have hx0 := am_ag_lt tm p
  have hx1 := am_ag_lt tm (p + 1)
  have hx2 := am_ag_lt tm (p + 2)
  have hy0 : p < len → am_ag tm p ≤ 126 := fun q => h126 p (by omega)
  have hy1 : p + 1 < len → am_ag tm (p + 1) ≤ 126 := fun q => h126 (p + 1) (by omega)
  have hy2 : p + 2 < len → am_ag tm (p + 2) ≤ 126 := fun q => h126 (p + 2) (by omega)
  refine g_iload_n (i := 2) dd_139_2 rfl ?_
  refine g_iload_n (i := 1) dd_139_3 rfl ?_
  refine g_icmp_ge_f (t := 144) dd_139_4 (by decide) (by first | exact sk_ge_f (by omega) (by omega) | exact tk_ge_f (by omega)) ?_
  refine g_aload_n (i := 0) dd_139_7 rfl ?_
  refine g_aload_n (i := 0) dd_139_8 rfl ?_
  refine g_getfield (k := 16) am_ck12 (by decide) (Or.inl w_951) dd_139_9 (rm_g66 hH) rfl ?_
  refine g_virtual (M' := mi_137) (n := 1) (ci := 12) (b := 66) (as := [.retAddr p]) (st := []) (r1 := (some (.retAddr (am_ag tm p)), (rm h f len p rl rg z1 z2 z3 z4 z5 z6 tm td y1 y2 y3 y4 y5 y6))) w_1121 w_1123 ps_137 ⟨lk_137.1, lk_137.2.1, lk_137.2.2, by decide, by decide⟩ rfl (rm_g66 hH) rfl (by simp [Value.category]) dd_139_12 (m_la1 hH (by omega) hlen) ?_
  show am_Good mi_139 15 [some (.ref 66), some (.retAddr n), some (.retAddr k)] [.retAddr (am_ag tm p)] (rm h f len p rl rg z1 z2 z3 z4 z5 z6 tm td y1 y2 y3 y4 y5 y6) _
  refine g_static (M' := mi_140) (n := 1) (as := [.retAddr (am_ag tm p)]) (st := []) (r1 := (some (.retAddr 1), (rm h f len p rl rg z1 z2 z3 z4 z5 z6 tm td y1 y2 y3 y4 y5 y6))) w_1133 w_1134 ⟨lk_140.1, lk_140.2.1, lk_140.2.2, by decide, by decide⟩ rfl (by simp [Value.category]) dd_139_15 (rif1 hf0) ?_
  show am_Good mi_139 18 [some (.ref 66), some (.retAddr n), some (.retAddr k)] [.retAddr 1] (rm h f len p rl rg z1 z2 z3 z4 z5 z6 tm td y1 y2 y3 y4 y5 y6) _
  refine g_if_ne_t (t := 23) dd_139_18 (by decide) (by decide) ?_
  refine g_aload_n (i := 0) dd_139_23 rfl ?_
  refine g_getfield (k := 17) am_ck12 (by decide) (Or.inl w_952) dd_139_24 (rm_g66 hH) rfl ?_
  refine g_iload_n (i := 2) dd_139_27 rfl ?_
  refine g_aload_n (i := 0) dd_139_28 rfl ?_
  refine g_aload_n (i := 0) dd_139_29 rfl ?_
  refine g_getfield (k := 16) am_ck12 (by decide) (Or.inl w_951) dd_139_30 (rm_g66 hH) rfl ?_
  refine g_virtual (M' := mi_137) (n := 1) (ci := 12) (b := 66) (as := [.retAddr p]) (st := [.retAddr k, .ref 74]) (r1 := (some (.retAddr (am_ag tm p)), (rm h f len p rl rg z1 z2 z3 z4 z5 z6 tm td y1 y2 y3 y4 y5 y6))) w_1121 w_1123 ps_137 ⟨lk_137.1, lk_137.2.1, lk_137.2.2, by decide, by decide⟩ rfl (rm_g66 hH) rfl (by simp [Value.category]) dd_139_33 (m_la1 hH (by omega) hlen) ?_
  show am_Good mi_139 36 [some (.ref 66), some (.retAddr n), some (.retAddr k)] [.retAddr (am_ag tm p), .retAddr k, .ref 74] (rm h f len p rl rg z1 z2 z3 z4 z5 z6 tm td y1 y2 y3 y4 y5 y6) _
  refine g_bipush dd_139_36 bi_48 ?_
  refine e_isub (v := (am_ag tm p) - 48) dd_139_38 (by omega) ?_
  refine g_iastore dd_139_39 (rm_g74 hH) (by omega) (by decide) ?_
  refine am_heq (rm_u74 hH) ?_
  show am_Good mi_139 40 [some (.ref 66), some (.retAddr n), some (.retAddr k)] [] (rm h f len p rl rg z1 z2 z3 z4 z5 z6 tm (am_as td k ((am_ag tm p) - 48)) y1 y2 y3 y4 y5 y6) _
  refine g_aload_n (i := 0) dd_139_40 rfl ?_
  refine g_dup dd_139_41 rfl ?_
  refine g_getfield (k := 16) am_ck12 (by decide) (Or.inl w_951) dd_139_42 (rm_g66 hH) rfl ?_
  refine g_iconst dd_139_45 ic_1 ?_
  refine e_iadd (v := p + 1) dd_139_46 (by omega) ?_
  refine g_putfield (k := 16) am_ck12 (by decide) (Or.inl w_951) (Or.inl rfl) dd_139_47 (rm_g66 hH) (Nat.le_of_ble_eq_true rfl) trivial ?_
  refine am_heq (rm_u66 hH) ?_
  show am_Good mi_139 50 [some (.ref 66), some (.retAddr n), some (.retAddr k)] [] (rm h f len (p + 1) rl rg z1 z2 z3 z4 z5 z6 tm (am_as td k ((am_ag tm p) - 48)) y1 y2 y3 y4 y5 y6) _
  refine g_aload_n (i := 0) dd_139_50 rfl ?_
  refine g_aload_n (i := 0) dd_139_51 rfl ?_
  refine g_getfield (k := 16) am_ck12 (by decide) (Or.inl w_951) dd_139_52 (rm_g66 hH) rfl ?_
  refine g_virtual (M' := mi_137) (n := 1) (ci := 12) (b := 66) (as := [.retAddr (p + 1)]) (st := []) (r1 := (some (.retAddr (am_ag tm (p + 1))), (rm h f len (p + 1) rl rg z1 z2 z3 z4 z5 z6 tm (am_as td k ((am_ag tm p) - 48)) y1 y2 y3 y4 y5 y6))) w_1121 w_1123 ps_137 ⟨lk_137.1, lk_137.2.1, lk_137.2.2, by decide, by decide⟩ rfl (rm_g66 hH) rfl (by simp [Value.category]) dd_139_55 (m_la1 hH (by omega) hlen) ?_
  show am_Good mi_139 58 [some (.ref 66), some (.retAddr n), some (.retAddr k)] [.retAddr (am_ag tm (p + 1))] (rm h f len (p + 1) rl rg z1 z2 z3 z4 z5 z6 tm (am_as td k ((am_ag tm p) - 48)) y1 y2 y3 y4 y5 y6) _
  refine g_static (M' := mi_140) (n := 1) (as := [.retAddr (am_ag tm (p + 1))]) (st := []) (r1 := (some (.retAddr 0), (rm h f len (p + 1) rl rg z1 z2 z3 z4 z5 z6 tm (am_as td k ((am_ag tm p) - 48)) y1 y2 y3 y4 y5 y6))) w_1133 w_1134 ⟨lk_140.1, lk_140.2.1, lk_140.2.2, by decide, by decide⟩ rfl (by simp [Value.category]) dd_139_58 (rif0 hf1 (by omega)) ?_
  show am_Good mi_139 61 [some (.ref 66), some (.retAddr n), some (.retAddr k)] [.retAddr 0] (rm h f len (p + 1) rl rg z1 z2 z3 z4 z5 z6 tm (am_as td k ((am_ag tm p) - 48)) y1 y2 y3 y4 y5 y6) _
  refine g_if_eq_t (t := 101) dd_139_61 (by decide) (by decide) ?_
  refine g_aload_n (i := 0) dd_139_101 rfl ?_
  refine g_aload_n (i := 0) dd_139_102 rfl ?_
  refine g_getfield (k := 16) am_ck12 (by decide) (Or.inl w_951) dd_139_103 (rm_g66 hH) rfl ?_
  refine g_virtual (M' := mi_137) (n := 1) (ci := 12) (b := 66) (as := [.retAddr (p + 1)]) (st := []) (r1 := (some (.retAddr (am_ag tm (p + 1))), (rm h f len (p + 1) rl rg z1 z2 z3 z4 z5 z6 tm (am_as td k ((am_ag tm p) - 48)) y1 y2 y3 y4 y5 y6))) w_1121 w_1123 ps_137 ⟨lk_137.1, lk_137.2.1, lk_137.2.2, by decide, by decide⟩ rfl (rm_g66 hH) rfl (by simp [Value.category]) dd_139_106 (m_la1 hH (by omega) hlen) ?_
  show am_Good mi_139 109 [some (.ref 66), some (.retAddr n), some (.retAddr k)] [.retAddr (am_ag tm (p + 1))] (rm h f len (p + 1) rl rg z1 z2 z3 z4 z5 z6 tm (am_as td k ((am_ag tm p) - 48)) y1 y2 y3 y4 y5 y6) _
  refine g_iload_n (i := 2) dd_139_109 rfl ?_
  refine g_iload_n (i := 1) dd_139_110 rfl ?_
  refine g_iconst dd_139_111 ic_1 ?_
  refine e_isub (v := n - 1) dd_139_112 (by omega) ?_
  refine g_icmp_ge_t (t := 121) dd_139_113 (by decide) (by first | exact sk_ge_t (by omega) (by omega) | exact tk_ge_t (by omega)) ?_
  refine g_bipush dd_139_121 bi_59 ?_
  refine g_icmp_eq_t (t := 128) dd_139_123 (by decide) (tk_eq_t (by omega)) ?_
  refine g_aload_n (i := 0) dd_139_128 rfl ?_
  refine g_dup dd_139_129 rfl ?_
  refine g_getfield (k := 16) am_ck12 (by decide) (Or.inl w_951) dd_139_130 (rm_g66 hH) rfl ?_
  refine g_iconst dd_139_133 ic_1 ?_
  refine e_iadd (v := p + 2) dd_139_134 (by omega) ?_
  refine g_putfield (k := 16) am_ck12 (by decide) (Or.inl w_951) (Or.inl rfl) dd_139_135 (rm_g66 hH) (Nat.le_of_ble_eq_true rfl) trivial ?_
  refine am_heq (rm_u66 hH) ?_
  show am_Good mi_139 138 [some (.ref 66), some (.retAddr n), some (.retAddr k)] [] (rm h f len (p + 2) rl rg z1 z2 z3 z4 z5 z6 tm (am_as td k ((am_ag tm p) - 48)) y1 y2 y3 y4 y5 y6) _
  refine e_iinc (v := 1) (w := k + 1) dd_139_138 rfl ic_1 (am_nlb_ok rfl) (by decide) (by omega) ?_
  refine g_goto (t := 2) dd_139_141 (by decide) ?_
  exact hg
theorem m_n20e {h : am_H} {f : Nat → Value} {len rl rg z1 z2 z3 z4 z5 z6 tm td y1 y2 y3 y4 y5 y6 : Nat} (hH : rm_ok h) {n k p : Nat} (hlen : len ≤ 200) (hn : n ≤ 5) (h126 : ∀ i, i < 200 → am_ag tm i ≤ 126) (hf0 : 48 ≤ am_ag tm p ∧ am_ag tm p ≤ 57) (hf1 : 48 ≤ am_ag tm (p + 1) ∧ am_ag tm (p + 1) ≤ 57) (hl : ¬ p + 2 < len) (hl2 : p + 2 ≤ len) (hk : k + 1 < n) : am_Good mi_139 2 [some (.ref 66), some (.retAddr n), some (.retAddr k)] [] (rm h f len p rl rg z1 z2 z3 z4 z5 z6 tm td y1 y2 y3 y4 y5 y6) (some (.retAddr 0), (rm h f len (p + 2) rl rg z1 z2 z3 z4 z5 z6 tm (am_as (am_as td k (am_ag tm p - 48)) k (10 * (am_ag tm p - 48) + am_ag tm (p + 1) - 48)) y1 y2 y3 y4 y5 y6)) := by
  have hx0 := am_ag_lt tm p
  have hx1 := am_ag_lt tm (p + 1)
  have hx2 := am_ag_lt tm (p + 2)
  have hy0 : p < len → am_ag tm p ≤ 126 := fun q => h126 p (by omega)
  have hy1 : p + 1 < len → am_ag tm (p + 1) ≤ 126 := fun q => h126 (p + 1) (by omega)
  have hy2 : p + 2 < len → am_ag tm (p + 2) ≤ 126 := fun q => h126 (p + 2) (by omega)
  refine g_iload_n (i := 2) dd_139_2 rfl ?_
  refine g_iload_n (i := 1) dd_139_3 rfl ?_
  refine g_icmp_ge_f (t := 144) dd_139_4 (by decide) (by first | exact sk_ge_f (by omega) (by omega) | exact tk_ge_f (by omega)) ?_
  refine g_aload_n (i := 0) dd_139_7 rfl ?_
  refine g_aload_n (i := 0) dd_139_8 rfl ?_
  refine g_getfield (k := 16) am_ck12 (by decide) (Or.inl w_951) dd_139_9 (rm_g66 hH) rfl ?_
  refine g_virtual (M' := mi_137) (n := 1) (ci := 12) (b := 66) (as := [.retAddr p]) (st := []) (r1 := (some (.retAddr (am_ag tm p)), (rm h f len p rl rg z1 z2 z3 z4 z5 z6 tm td y1 y2 y3 y4 y5 y6))) w_1121 w_1123 ps_137 ⟨lk_137.1, lk_137.2.1, lk_137.2.2, by decide, by decide⟩ rfl (rm_g66 hH) rfl (by simp [Value.category]) dd_139_12 (m_la1 hH (by omega) hlen) ?_
  show am_Good mi_139 15 [some (.ref 66), some (.retAddr n), some (.retAddr k)] [.retAddr (am_ag tm p)] (rm h f len p rl rg z1 z2 z3 z4 z5 z6 tm td y1 y2 y3 y4 y5 y6) _
  refine g_static (M' := mi_140) (n := 1) (as := [.retAddr (am_ag tm p)]) (st := []) (r1 := (some (.retAddr 1), (rm h f len p rl rg z1 z2 z3 z4 z5 z6 tm td y1 y2 y3 y4 y5 y6))) w_1133 w_1134 ⟨lk_140.1, lk_140.2.1, lk_140.2.2, by decide, by decide⟩ rfl (by simp [Value.category]) dd_139_15 (rif1 hf0) ?_
  show am_Good mi_139 18 [some (.ref 66), some (.retAddr n), some (.retAddr k)] [.retAddr 1] (rm h f len p rl rg z1 z2 z3 z4 z5 z6 tm td y1 y2 y3 y4 y5 y6) _
  refine g_if_ne_t (t := 23) dd_139_18 (by decide) (by decide) ?_
  refine g_aload_n (i := 0) dd_139_23 rfl ?_
  refine g_getfield (k := 17) am_ck12 (by decide) (Or.inl w_952) dd_139_24 (rm_g66 hH) rfl ?_
  refine g_iload_n (i := 2) dd_139_27 rfl ?_
  refine g_aload_n (i := 0) dd_139_28 rfl ?_
  refine g_aload_n (i := 0) dd_139_29 rfl ?_
  refine g_getfield (k := 16) am_ck12 (by decide) (Or.inl w_951) dd_139_30 (rm_g66 hH) rfl ?_
  refine g_virtual (M' := mi_137) (n := 1) (ci := 12) (b := 66) (as := [.retAddr p]) (st := [.retAddr k, .ref 74]) (r1 := (some (.retAddr (am_ag tm p)), (rm h f len p rl rg z1 z2 z3 z4 z5 z6 tm td y1 y2 y3 y4 y5 y6))) w_1121 w_1123 ps_137 ⟨lk_137.1, lk_137.2.1, lk_137.2.2, by decide, by decide⟩ rfl (rm_g66 hH) rfl (by simp [Value.category]) dd_139_33 (m_la1 hH (by omega) hlen) ?_
  show am_Good mi_139 36 [some (.ref 66), some (.retAddr n), some (.retAddr k)] [.retAddr (am_ag tm p), .retAddr k, .ref 74] (rm h f len p rl rg z1 z2 z3 z4 z5 z6 tm td y1 y2 y3 y4 y5 y6) _
  refine g_bipush dd_139_36 bi_48 ?_
  refine e_isub (v := (am_ag tm p) - 48) dd_139_38 (by omega) ?_
  refine g_iastore dd_139_39 (rm_g74 hH) (by omega) (by decide) ?_
  refine am_heq (rm_u74 hH) ?_
  show am_Good mi_139 40 [some (.ref 66), some (.retAddr n), some (.retAddr k)] [] (rm h f len p rl rg z1 z2 z3 z4 z5 z6 tm (am_as td k ((am_ag tm p) - 48)) y1 y2 y3 y4 y5 y6) _
  refine g_aload_n (i := 0) dd_139_40 rfl ?_
  refine g_dup dd_139_41 rfl ?_
  refine g_getfield (k := 16) am_ck12 (by decide) (Or.inl w_951) dd_139_42 (rm_g66 hH) rfl ?_
  refine g_iconst dd_139_45 ic_1 ?_
  refine e_iadd (v := p + 1) dd_139_46 (by omega) ?_
  refine g_putfield (k := 16) am_ck12 (by decide) (Or.inl w_951) (Or.inl rfl) dd_139_47 (rm_g66 hH) (Nat.le_of_ble_eq_true rfl) trivial ?_
  refine am_heq (rm_u66 hH) ?_
  show am_Good mi_139 50 [some (.ref 66), some (.retAddr n), some (.retAddr k)] [] (rm h f len (p + 1) rl rg z1 z2 z3 z4 z5 z6 tm (am_as td k ((am_ag tm p) - 48)) y1 y2 y3 y4 y5 y6) _
  refine g_aload_n (i := 0) dd_139_50 rfl ?_
  refine g_aload_n (i := 0) dd_139_51 rfl ?_
  refine g_getfield (k := 16) am_ck12 (by decide) (Or.inl w_951) dd_139_52 (rm_g66 hH) rfl ?_
  refine g_virtual (M' := mi_137) (n := 1) (ci := 12) (b := 66) (as := [.retAddr (p + 1)]) (st := []) (r1 := (some (.retAddr (am_ag tm (p + 1))), (rm h f len (p + 1) rl rg z1 z2 z3 z4 z5 z6 tm (am_as td k ((am_ag tm p) - 48)) y1 y2 y3 y4 y5 y6))) w_1121 w_1123 ps_137 ⟨lk_137.1, lk_137.2.1, lk_137.2.2, by decide, by decide⟩ rfl (rm_g66 hH) rfl (by simp [Value.category]) dd_139_55 (m_la1 hH (by omega) hlen) ?_
  show am_Good mi_139 58 [some (.ref 66), some (.retAddr n), some (.retAddr k)] [.retAddr (am_ag tm (p + 1))] (rm h f len (p + 1) rl rg z1 z2 z3 z4 z5 z6 tm (am_as td k ((am_ag tm p) - 48)) y1 y2 y3 y4 y5 y6) _
  refine g_static (M' := mi_140) (n := 1) (as := [.retAddr (am_ag tm (p + 1))]) (st := []) (r1 := (some (.retAddr 1), (rm h f len (p + 1) rl rg z1 z2 z3 z4 z5 z6 tm (am_as td k ((am_ag tm p) - 48)) y1 y2 y3 y4 y5 y6))) w_1133 w_1134 ⟨lk_140.1, lk_140.2.1, lk_140.2.2, by decide, by decide⟩ rfl (by simp [Value.category]) dd_139_58 (rif1 hf1) ?_
  show am_Good mi_139 61 [some (.ref 66), some (.retAddr n), some (.retAddr k)] [.retAddr 1] (rm h f len (p + 1) rl rg z1 z2 z3 z4 z5 z6 tm (am_as td k ((am_ag tm p) - 48)) y1 y2 y3 y4 y5 y6) _
  refine g_if_eq_f (t := 101) dd_139_61 (by decide) (by decide) ?_
  refine g_aload_n (i := 0) dd_139_64 rfl ?_
  refine g_getfield (k := 17) am_ck12 (by decide) (Or.inl w_952) dd_139_65 (rm_g66 hH) rfl ?_
  refine g_iload_n (i := 2) dd_139_68 rfl ?_
  refine g_bipush dd_139_69 bi_10 ?_
  refine g_aload_n (i := 0) dd_139_71 rfl ?_
  refine g_getfield (k := 17) am_ck12 (by decide) (Or.inl w_952) dd_139_72 (rm_g66 hH) rfl ?_
  refine g_iload_n (i := 2) dd_139_75 rfl ?_
  refine g_iaload dd_139_76 (rm_g74 hH) (by omega) (by decide) ?_
  have hl_1 := am_ag_lt (am_as td k ((am_ag tm p) - 48)) k
  rw [show am_ag (am_as td k ((am_ag tm p) - 48)) k = am_ag tm p - 48 from by rw [am_ag_as, if_pos rfl, Nat.mod_eq_of_lt (by omega)]]
  rw [show am_ag (am_as td k ((am_ag tm p) - 48)) k = am_ag tm p - 48 from by rw [am_ag_as, if_pos rfl, Nat.mod_eq_of_lt (by omega)]] at hl_1
  refine e_imul (v := 10 * (am_ag tm p - 48)) dd_139_77 (by omega) ?_
  refine g_aload_n (i := 0) dd_139_78 rfl ?_
  refine g_aload_n (i := 0) dd_139_79 rfl ?_
  refine g_getfield (k := 16) am_ck12 (by decide) (Or.inl w_951) dd_139_80 (rm_g66 hH) rfl ?_
  refine g_virtual (M' := mi_137) (n := 1) (ci := 12) (b := 66) (as := [.retAddr (p + 1)]) (st := [.retAddr (10 * (am_ag tm p - 48)), .retAddr k, .ref 74]) (r1 := (some (.retAddr (am_ag tm (p + 1))), (rm h f len (p + 1) rl rg z1 z2 z3 z4 z5 z6 tm (am_as td k ((am_ag tm p) - 48)) y1 y2 y3 y4 y5 y6))) w_1121 w_1123 ps_137 ⟨lk_137.1, lk_137.2.1, lk_137.2.2, by decide, by decide⟩ rfl (rm_g66 hH) rfl (by simp [Value.category]) dd_139_83 (m_la1 hH (by omega) hlen) ?_
  show am_Good mi_139 86 [some (.ref 66), some (.retAddr n), some (.retAddr k)] [.retAddr (am_ag tm (p + 1)), .retAddr (10 * (am_ag tm p - 48)), .retAddr k, .ref 74] (rm h f len (p + 1) rl rg z1 z2 z3 z4 z5 z6 tm (am_as td k ((am_ag tm p) - 48)) y1 y2 y3 y4 y5 y6) _
  refine e_iadd (v := (10 * (am_ag tm p - 48)) + (am_ag tm (p + 1))) dd_139_86 (by omega) ?_
  refine g_bipush dd_139_87 bi_48 ?_
  refine e_isub (v := ((10 * (am_ag tm p - 48)) + (am_ag tm (p + 1))) - 48) dd_139_89 (by omega) ?_
  refine g_iastore dd_139_90 (rm_g74 hH) (by omega) (by decide) ?_
  refine am_heq (rm_u74 hH) ?_
  show am_Good mi_139 91 [some (.ref 66), some (.retAddr n), some (.retAddr k)] [] (rm h f len (p + 1) rl rg z1 z2 z3 z4 z5 z6 tm (am_as (am_as td k ((am_ag tm p) - 48)) k (((10 * (am_ag tm p - 48)) + (am_ag tm (p + 1))) - 48)) y1 y2 y3 y4 y5 y6) _
  refine g_aload_n (i := 0) dd_139_91 rfl ?_
  refine g_dup dd_139_92 rfl ?_
  refine g_getfield (k := 16) am_ck12 (by decide) (Or.inl w_951) dd_139_93 (rm_g66 hH) rfl ?_
  refine g_iconst dd_139_96 ic_1 ?_
  refine e_iadd (v := p + 2) dd_139_97 (by omega) ?_
  refine g_putfield (k := 16) am_ck12 (by decide) (Or.inl w_951) (Or.inl rfl) dd_139_98 (rm_g66 hH) (Nat.le_of_ble_eq_true rfl) trivial ?_
  refine am_heq (rm_u66 hH) ?_
  show am_Good mi_139 101 [some (.ref 66), some (.retAddr n), some (.retAddr k)] [] (rm h f len (p + 2) rl rg z1 z2 z3 z4 z5 z6 tm (am_as (am_as td k ((am_ag tm p) - 48)) k (((10 * (am_ag tm p - 48)) + (am_ag tm (p + 1))) - 48)) y1 y2 y3 y4 y5 y6) _
  refine g_aload_n (i := 0) dd_139_101 rfl ?_
  refine g_aload_n (i := 0) dd_139_102 rfl ?_
  refine g_getfield (k := 16) am_ck12 (by decide) (Or.inl w_951) dd_139_103 (rm_g66 hH) rfl ?_
  refine g_virtual (M' := mi_137) (n := 1) (ci := 12) (b := 66) (as := [.retAddr (p + 2)]) (st := []) (r1 := (some (.retAddr 4294967295), (rm h f len (p + 2) rl rg z1 z2 z3 z4 z5 z6 tm (am_as (am_as td k ((am_ag tm p) - 48)) k (((10 * (am_ag tm p - 48)) + (am_ag tm (p + 1))) - 48)) y1 y2 y3 y4 y5 y6))) w_1121 w_1123 ps_137 ⟨lk_137.1, lk_137.2.1, lk_137.2.2, by decide, by decide⟩ rfl (rm_g66 hH) rfl (by simp [Value.category]) dd_139_106 (m_la0 hH (by omega) (by omega)) ?_
  show am_Good mi_139 109 [some (.ref 66), some (.retAddr n), some (.retAddr k)] [.retAddr 4294967295] (rm h f len (p + 2) rl rg z1 z2 z3 z4 z5 z6 tm (am_as (am_as td k ((am_ag tm p) - 48)) k (((10 * (am_ag tm p - 48)) + (am_ag tm (p + 1))) - 48)) y1 y2 y3 y4 y5 y6) _
  refine g_iload_n (i := 2) dd_139_109 rfl ?_
  refine g_iload_n (i := 1) dd_139_110 rfl ?_
  refine g_iconst dd_139_111 ic_1 ?_
  refine e_isub (v := n - 1) dd_139_112 (by omega) ?_
  refine g_icmp_ge_f (t := 121) dd_139_113 (by decide) (by first | exact sk_ge_f (by omega) (by omega) | exact tk_ge_f (by omega)) ?_
  refine g_bipush dd_139_116 bi_44 ?_
  refine g_goto (t := 123) dd_139_118 (by decide) ?_
  refine g_icmp_eq_f (t := 128) dd_139_123 (by decide) (by decide) ?_
  refine g_iconst dd_139_126 ic_0 ?_
  exact g_zreturn rfl (by first | decide | omega) dd_139_127
theorem m_n20x {h : am_H} {f : Nat → Value} {len rl rg z1 z2 z3 z4 z5 z6 tm td y1 y2 y3 y4 y5 y6 : Nat} (hH : rm_ok h) {n k p : Nat} (hlen : len ≤ 200) (hn : n ≤ 5) (h126 : ∀ i, i < 200 → am_ag tm i ≤ 126) (hf0 : 48 ≤ am_ag tm p ∧ am_ag tm p ≤ 57) (hf1 : 48 ≤ am_ag tm (p + 1) ∧ am_ag tm (p + 1) ≤ 57) (hl : p + 2 < len) (hk : k + 1 < n) (hs : am_ag tm (p + 2) ≠ 44) : am_Good mi_139 2 [some (.ref 66), some (.retAddr n), some (.retAddr k)] [] (rm h f len p rl rg z1 z2 z3 z4 z5 z6 tm td y1 y2 y3 y4 y5 y6) (some (.retAddr 0), (rm h f len (p + 2) rl rg z1 z2 z3 z4 z5 z6 tm (am_as (am_as td k (am_ag tm p - 48)) k (10 * (am_ag tm p - 48) + am_ag tm (p + 1) - 48)) y1 y2 y3 y4 y5 y6)) := by
  have hx0 := am_ag_lt tm p
  have hx1 := am_ag_lt tm (p + 1)
  have hx2 := am_ag_lt tm (p + 2)
  have hy0 : p < len → am_ag tm p ≤ 126 := fun q => h126 p (by omega)
  have hy1 : p + 1 < len → am_ag tm (p + 1) ≤ 126 := fun q => h126 (p + 1) (by omega)
  have hy2 : p + 2 < len → am_ag tm (p + 2) ≤ 126 := fun q => h126 (p + 2) (by omega)
  refine g_iload_n (i := 2) dd_139_2 rfl ?_
  refine g_iload_n (i := 1) dd_139_3 rfl ?_
  refine g_icmp_ge_f (t := 144) dd_139_4 (by decide) (by first | exact sk_ge_f (by omega) (by omega) | exact tk_ge_f (by omega)) ?_
  refine g_aload_n (i := 0) dd_139_7 rfl ?_
  refine g_aload_n (i := 0) dd_139_8 rfl ?_
  refine g_getfield (k := 16) am_ck12 (by decide) (Or.inl w_951) dd_139_9 (rm_g66 hH) rfl ?_
  refine g_virtual (M' := mi_137) (n := 1) (ci := 12) (b := 66) (as := [.retAddr p]) (st := []) (r1 := (some (.retAddr (am_ag tm p)), (rm h f len p rl rg z1 z2 z3 z4 z5 z6 tm td y1 y2 y3 y4 y5 y6))) w_1121 w_1123 ps_137 ⟨lk_137.1, lk_137.2.1, lk_137.2.2, by decide, by decide⟩ rfl (rm_g66 hH) rfl (by simp [Value.category]) dd_139_12 (m_la1 hH (by omega) hlen) ?_
  show am_Good mi_139 15 [some (.ref 66), some (.retAddr n), some (.retAddr k)] [.retAddr (am_ag tm p)] (rm h f len p rl rg z1 z2 z3 z4 z5 z6 tm td y1 y2 y3 y4 y5 y6) _
  refine g_static (M' := mi_140) (n := 1) (as := [.retAddr (am_ag tm p)]) (st := []) (r1 := (some (.retAddr 1), (rm h f len p rl rg z1 z2 z3 z4 z5 z6 tm td y1 y2 y3 y4 y5 y6))) w_1133 w_1134 ⟨lk_140.1, lk_140.2.1, lk_140.2.2, by decide, by decide⟩ rfl (by simp [Value.category]) dd_139_15 (rif1 hf0) ?_
  show am_Good mi_139 18 [some (.ref 66), some (.retAddr n), some (.retAddr k)] [.retAddr 1] (rm h f len p rl rg z1 z2 z3 z4 z5 z6 tm td y1 y2 y3 y4 y5 y6) _
  refine g_if_ne_t (t := 23) dd_139_18 (by decide) (by decide) ?_
  refine g_aload_n (i := 0) dd_139_23 rfl ?_
  refine g_getfield (k := 17) am_ck12 (by decide) (Or.inl w_952) dd_139_24 (rm_g66 hH) rfl ?_
  refine g_iload_n (i := 2) dd_139_27 rfl ?_
  refine g_aload_n (i := 0) dd_139_28 rfl ?_
  refine g_aload_n (i := 0) dd_139_29 rfl ?_
  refine g_getfield (k := 16) am_ck12 (by decide) (Or.inl w_951) dd_139_30 (rm_g66 hH) rfl ?_
  refine g_virtual (M' := mi_137) (n := 1) (ci := 12) (b := 66) (as := [.retAddr p]) (st := [.retAddr k, .ref 74]) (r1 := (some (.retAddr (am_ag tm p)), (rm h f len p rl rg z1 z2 z3 z4 z5 z6 tm td y1 y2 y3 y4 y5 y6))) w_1121 w_1123 ps_137 ⟨lk_137.1, lk_137.2.1, lk_137.2.2, by decide, by decide⟩ rfl (rm_g66 hH) rfl (by simp [Value.category]) dd_139_33 (m_la1 hH (by omega) hlen) ?_
  show am_Good mi_139 36 [some (.ref 66), some (.retAddr n), some (.retAddr k)] [.retAddr (am_ag tm p), .retAddr k, .ref 74] (rm h f len p rl rg z1 z2 z3 z4 z5 z6 tm td y1 y2 y3 y4 y5 y6) _
  refine g_bipush dd_139_36 bi_48 ?_
  refine e_isub (v := (am_ag tm p) - 48) dd_139_38 (by omega) ?_
  refine g_iastore dd_139_39 (rm_g74 hH) (by omega) (by decide) ?_
  refine am_heq (rm_u74 hH) ?_
  show am_Good mi_139 40 [some (.ref 66), some (.retAddr n), some (.retAddr k)] [] (rm h f len p rl rg z1 z2 z3 z4 z5 z6 tm (am_as td k ((am_ag tm p) - 48)) y1 y2 y3 y4 y5 y6) _
  refine g_aload_n (i := 0) dd_139_40 rfl ?_
  refine g_dup dd_139_41 rfl ?_
  refine g_getfield (k := 16) am_ck12 (by decide) (Or.inl w_951) dd_139_42 (rm_g66 hH) rfl ?_
  refine g_iconst dd_139_45 ic_1 ?_
  refine e_iadd (v := p + 1) dd_139_46 (by omega) ?_
  refine g_putfield (k := 16) am_ck12 (by decide) (Or.inl w_951) (Or.inl rfl) dd_139_47 (rm_g66 hH) (Nat.le_of_ble_eq_true rfl) trivial ?_
  refine am_heq (rm_u66 hH) ?_
  show am_Good mi_139 50 [some (.ref 66), some (.retAddr n), some (.retAddr k)] [] (rm h f len (p + 1) rl rg z1 z2 z3 z4 z5 z6 tm (am_as td k ((am_ag tm p) - 48)) y1 y2 y3 y4 y5 y6) _
  refine g_aload_n (i := 0) dd_139_50 rfl ?_
  refine g_aload_n (i := 0) dd_139_51 rfl ?_
  refine g_getfield (k := 16) am_ck12 (by decide) (Or.inl w_951) dd_139_52 (rm_g66 hH) rfl ?_
  refine g_virtual (M' := mi_137) (n := 1) (ci := 12) (b := 66) (as := [.retAddr (p + 1)]) (st := []) (r1 := (some (.retAddr (am_ag tm (p + 1))), (rm h f len (p + 1) rl rg z1 z2 z3 z4 z5 z6 tm (am_as td k ((am_ag tm p) - 48)) y1 y2 y3 y4 y5 y6))) w_1121 w_1123 ps_137 ⟨lk_137.1, lk_137.2.1, lk_137.2.2, by decide, by decide⟩ rfl (rm_g66 hH) rfl (by simp [Value.category]) dd_139_55 (m_la1 hH (by omega) hlen) ?_
  show am_Good mi_139 58 [some (.ref 66), some (.retAddr n), some (.retAddr k)] [.retAddr (am_ag tm (p + 1))] (rm h f len (p + 1) rl rg z1 z2 z3 z4 z5 z6 tm (am_as td k ((am_ag tm p) - 48)) y1 y2 y3 y4 y5 y6) _
  refine g_static (M' := mi_140) (n := 1) (as := [.retAddr (am_ag tm (p + 1))]) (st := []) (r1 := (some (.retAddr 1), (rm h f len (p + 1) rl rg z1 z2 z3 z4 z5 z6 tm (am_as td k ((am_ag tm p) - 48)) y1 y2 y3 y4 y5 y6))) w_1133 w_1134 ⟨lk_140.1, lk_140.2.1, lk_140.2.2, by decide, by decide⟩ rfl (by simp [Value.category]) dd_139_58 (rif1 hf1) ?_
  show am_Good mi_139 61 [some (.ref 66), some (.retAddr n), some (.retAddr k)] [.retAddr 1] (rm h f len (p + 1) rl rg z1 z2 z3 z4 z5 z6 tm (am_as td k ((am_ag tm p) - 48)) y1 y2 y3 y4 y5 y6) _
  refine g_if_eq_f (t := 101) dd_139_61 (by decide) (by decide) ?_
  refine g_aload_n (i := 0) dd_139_64 rfl ?_
  refine g_getfield (k := 17) am_ck12 (by decide) (Or.inl w_952) dd_139_65 (rm_g66 hH) rfl ?_
  refine g_iload_n (i := 2) dd_139_68 rfl ?_
  refine g_bipush dd_139_69 bi_10 ?_
  refine g_aload_n (i := 0) dd_139_71 rfl ?_
  refine g_getfield (k := 17) am_ck12 (by decide) (Or.inl w_952) dd_139_72 (rm_g66 hH) rfl ?_
  refine g_iload_n (i := 2) dd_139_75 rfl ?_
  refine g_iaload dd_139_76 (rm_g74 hH) (by omega) (by decide) ?_
  have hl_1 := am_ag_lt (am_as td k ((am_ag tm p) - 48)) k
  rw [show am_ag (am_as td k ((am_ag tm p) - 48)) k = am_ag tm p - 48 from by rw [am_ag_as, if_pos rfl, Nat.mod_eq_of_lt (by omega)]]
  rw [show am_ag (am_as td k ((am_ag tm p) - 48)) k = am_ag tm p - 48 from by rw [am_ag_as, if_pos rfl, Nat.mod_eq_of_lt (by omega)]] at hl_1
  refine e_imul (v := 10 * (am_ag tm p - 48)) dd_139_77 (by omega) ?_
  refine g_aload_n (i := 0) dd_139_78 rfl ?_
  refine g_aload_n (i := 0) dd_139_79 rfl ?_
  refine g_getfield (k := 16) am_ck12 (by decide) (Or.inl w_951) dd_139_80 (rm_g66 hH) rfl ?_
  refine g_virtual (M' := mi_137) (n := 1) (ci := 12) (b := 66) (as := [.retAddr (p + 1)]) (st := [.retAddr (10 * (am_ag tm p - 48)), .retAddr k, .ref 74]) (r1 := (some (.retAddr (am_ag tm (p + 1))), (rm h f len (p + 1) rl rg z1 z2 z3 z4 z5 z6 tm (am_as td k ((am_ag tm p) - 48)) y1 y2 y3 y4 y5 y6))) w_1121 w_1123 ps_137 ⟨lk_137.1, lk_137.2.1, lk_137.2.2, by decide, by decide⟩ rfl (rm_g66 hH) rfl (by simp [Value.category]) dd_139_83 (m_la1 hH (by omega) hlen) ?_
  show am_Good mi_139 86 [some (.ref 66), some (.retAddr n), some (.retAddr k)] [.retAddr (am_ag tm (p + 1)), .retAddr (10 * (am_ag tm p - 48)), .retAddr k, .ref 74] (rm h f len (p + 1) rl rg z1 z2 z3 z4 z5 z6 tm (am_as td k ((am_ag tm p) - 48)) y1 y2 y3 y4 y5 y6) _
  refine e_iadd (v := (10 * (am_ag tm p - 48)) + (am_ag tm (p + 1))) dd_139_86 (by omega) ?_
  refine g_bipush dd_139_87 bi_48 ?_
  refine e_isub (v := ((10 * (am_ag tm p - 48)) + (am_ag tm (p + 1))) - 48) dd_139_89 (by omega) ?_
  refine g_iastore dd_139_90 (rm_g74 hH) (by omega) (by decide) ?_
  refine am_heq (rm_u74 hH) ?_
  show am_Good mi_139 91 [some (.ref 66), some (.retAddr n), some (.retAddr k)] [] (rm h f len (p + 1) rl rg z1 z2 z3 z4 z5 z6 tm (am_as (am_as td k ((am_ag tm p) - 48)) k (((10 * (am_ag tm p - 48)) + (am_ag tm (p + 1))) - 48)) y1 y2 y3 y4 y5 y6) _
  refine g_aload_n (i := 0) dd_139_91 rfl ?_
  refine g_dup dd_139_92 rfl ?_
  refine g_getfield (k := 16) am_ck12 (by decide) (Or.inl w_951) dd_139_93 (rm_g66 hH) rfl ?_
  refine g_iconst dd_139_96 ic_1 ?_
  refine e_iadd (v := p + 2) dd_139_97 (by omega) ?_
  refine g_putfield (k := 16) am_ck12 (by decide) (Or.inl w_951) (Or.inl rfl) dd_139_98 (rm_g66 hH) (Nat.le_of_ble_eq_true rfl) trivial ?_
  refine am_heq (rm_u66 hH) ?_
  show am_Good mi_139 101 [some (.ref 66), some (.retAddr n), some (.retAddr k)] [] (rm h f len (p + 2) rl rg z1 z2 z3 z4 z5 z6 tm (am_as (am_as td k ((am_ag tm p) - 48)) k (((10 * (am_ag tm p - 48)) + (am_ag tm (p + 1))) - 48)) y1 y2 y3 y4 y5 y6) _
  refine g_aload_n (i := 0) dd_139_101 rfl ?_
  refine g_aload_n (i := 0) dd_139_102 rfl ?_
  refine g_getfield (k := 16) am_ck12 (by decide) (Or.inl w_951) dd_139_103 (rm_g66 hH) rfl ?_
  refine g_virtual (M' := mi_137) (n := 1) (ci := 12) (b := 66) (as := [.retAddr (p + 2)]) (st := []) (r1 := (some (.retAddr (am_ag tm (p + 2))), (rm h f len (p + 2) rl rg z1 z2 z3 z4 z5 z6 tm (am_as (am_as td k ((am_ag tm p) - 48)) k (((10 * (am_ag tm p - 48)) + (am_ag tm (p + 1))) - 48)) y1 y2 y3 y4 y5 y6))) w_1121 w_1123 ps_137 ⟨lk_137.1, lk_137.2.1, lk_137.2.2, by decide, by decide⟩ rfl (rm_g66 hH) rfl (by simp [Value.category]) dd_139_106 (m_la1 hH (by omega) hlen) ?_
  show am_Good mi_139 109 [some (.ref 66), some (.retAddr n), some (.retAddr k)] [.retAddr (am_ag tm (p + 2))] (rm h f len (p + 2) rl rg z1 z2 z3 z4 z5 z6 tm (am_as (am_as td k ((am_ag tm p) - 48)) k (((10 * (am_ag tm p - 48)) + (am_ag tm (p + 1))) - 48)) y1 y2 y3 y4 y5 y6) _
  refine g_iload_n (i := 2) dd_139_109 rfl ?_
  refine g_iload_n (i := 1) dd_139_110 rfl ?_
  refine g_iconst dd_139_111 ic_1 ?_
  refine e_isub (v := n - 1) dd_139_112 (by omega) ?_
  refine g_icmp_ge_f (t := 121) dd_139_113 (by decide) (by first | exact sk_ge_f (by omega) (by omega) | exact tk_ge_f (by omega)) ?_
  refine g_bipush dd_139_116 bi_44 ?_
  refine g_goto (t := 123) dd_139_118 (by decide) ?_
  refine g_icmp_eq_f (t := 128) dd_139_123 (by decide) (tk_eq_f (by omega)) ?_
  refine g_iconst dd_139_126 ic_0 ?_
  exact g_zreturn rfl (by first | decide | omega) dd_139_127
theorem m_n20g {h : am_H} {f : Nat → Value} {len rl rg z1 z2 z3 z4 z5 z6 tm td y1 y2 y3 y4 y5 y6 : Nat} (hH : rm_ok h) {n k p : Nat} (hlen : len ≤ 200) (hn : n ≤ 5) (h126 : ∀ i, i < 200 → am_ag tm i ≤ 126) (hf0 : 48 ≤ am_ag tm p ∧ am_ag tm p ≤ 57) (hf1 : 48 ≤ am_ag tm (p + 1) ∧ am_ag tm (p + 1) ≤ 57) (hl : p + 2 < len) (hk : k + 1 < n) (hs : am_ag tm (p + 2) = 44) {r : am_R} (hg : am_Good mi_139 2 [some (.ref 66), some (.retAddr n), some (.retAddr (k + 1))] [] (rm h f len (p + 3) rl rg z1 z2 z3 z4 z5 z6 tm (am_as (am_as td k (am_ag tm p - 48)) k (10 * (am_ag tm p - 48) + am_ag tm (p + 1) - 48)) y1 y2 y3 y4 y5 y6) r) : am_Good mi_139 2 [some (.ref 66), some (.retAddr n), some (.retAddr k)] [] (rm h f len p rl rg z1 z2 z3 z4 z5 z6 tm td y1 y2 y3 y4 y5 y6) r := by
  have hx0 := am_ag_lt tm p
  have hx1 := am_ag_lt tm (p + 1)
  have hx2 := am_ag_lt tm (p + 2)
  have hy0 : p < len → am_ag tm p ≤ 126 := fun q => h126 p (by omega)
  have hy1 : p + 1 < len → am_ag tm (p + 1) ≤ 126 := fun q => h126 (p + 1) (by omega)
  have hy2 : p + 2 < len → am_ag tm (p + 2) ≤ 126 := fun q => h126 (p + 2) (by omega)
  refine g_iload_n (i := 2) dd_139_2 rfl ?_
  refine g_iload_n (i := 1) dd_139_3 rfl ?_
  refine g_icmp_ge_f (t := 144) dd_139_4 (by decide) (by first | exact sk_ge_f (by omega) (by omega) | exact tk_ge_f (by omega)) ?_
  refine g_aload_n (i := 0) dd_139_7 rfl ?_
  refine g_aload_n (i := 0) dd_139_8 rfl ?_
  refine g_getfield (k := 16) am_ck12 (by decide) (Or.inl w_951) dd_139_9 (rm_g66 hH) rfl ?_
  refine g_virtual (M' := mi_137) (n := 1) (ci := 12) (b := 66) (as := [.retAddr p]) (st := []) (r1 := (some (.retAddr (am_ag tm p)), (rm h f len p rl rg z1 z2 z3 z4 z5 z6 tm td y1 y2 y3 y4 y5 y6))) w_1121 w_1123 ps_137 ⟨lk_137.1, lk_137.2.1, lk_137.2.2, by decide, by decide⟩ rfl (rm_g66 hH) rfl (by simp [Value.category]) dd_139_12 (m_la1 hH (by omega) hlen) ?_
  show am_Good mi_139 15 [some (.ref 66), some (.retAddr n), some (.retAddr k)] [.retAddr (am_ag tm p)] (rm h f len p rl rg z1 z2 z3 z4 z5 z6 tm td y1 y2 y3 y4 y5 y6) _
  refine g_static (M' := mi_140) (n := 1) (as := [.retAddr (am_ag tm p)]) (st := []) (r1 := (some (.retAddr 1), (rm h f len p rl rg z1 z2 z3 z4 z5 z6 tm td y1 y2 y3 y4 y5 y6))) w_1133 w_1134 ⟨lk_140.1, lk_140.2.1, lk_140.2.2, by decide, by decide⟩ rfl (by simp [Value.category]) dd_139_15 (rif1 hf0) ?_
  show am_Good mi_139 18 [some (.ref 66), some (.retAddr n), some (.retAddr k)] [.retAddr 1] (rm h f len p rl rg z1 z2 z3 z4 z5 z6 tm td y1 y2 y3 y4 y5 y6) _
  refine g_if_ne_t (t := 23) dd_139_18 (by decide) (by decide) ?_
  refine g_aload_n (i := 0) dd_139_23 rfl ?_
  refine g_getfield (k := 17) am_ck12 (by decide) (Or.inl w_952) dd_139_24 (rm_g66 hH) rfl ?_
  refine g_iload_n (i := 2) dd_139_27 rfl ?_
  refine g_aload_n (i := 0) dd_139_28 rfl ?_
  refine g_aload_n (i := 0) dd_139_29 rfl ?_
  refine g_getfield (k := 16) am_ck12 (by decide) (Or.inl w_951) dd_139_30 (rm_g66 hH) rfl ?_
  refine g_virtual (M' := mi_137) (n := 1) (ci := 12) (b := 66) (as := [.retAddr p]) (st := [.retAddr k, .ref 74]) (r1 := (some (.retAddr (am_ag tm p)), (rm h f len p rl rg z1 z2 z3 z4 z5 z6 tm td y1 y2 y3 y4 y5 y6))) w_1121 w_1123 ps_137 ⟨lk_137.1, lk_137.2.1, lk_137.2.2, by decide, by decide⟩ rfl (rm_g66 hH) rfl (by simp [Value.category]) dd_139_33 (m_la1 hH (by omega) hlen) ?_
  show am_Good mi_139 36 [some (.ref 66), some (.retAddr n), some (.retAddr k)] [.retAddr (am_ag tm p), .retAddr k, .ref 74] (rm h f len p rl rg z1 z2 z3 z4 z5 z6 tm td y1 y2 y3 y4 y5 y6) _
  refine g_bipush dd_139_36 bi_48 ?_
  refine e_isub (v := (am_ag tm p) - 48) dd_139_38 (by omega) ?_
  refine g_iastore dd_139_39 (rm_g74 hH) (by omega) (by decide) ?_
  refine am_heq (rm_u74 hH) ?_
  show am_Good mi_139 40 [some (.ref 66), some (.retAddr n), some (.retAddr k)] [] (rm h f len p rl rg z1 z2 z3 z4 z5 z6 tm (am_as td k ((am_ag tm p) - 48)) y1 y2 y3 y4 y5 y6) _
  refine g_aload_n (i := 0) dd_139_40 rfl ?_
  refine g_dup dd_139_41 rfl ?_
  refine g_getfield (k := 16) am_ck12 (by decide) (Or.inl w_951) dd_139_42 (rm_g66 hH) rfl ?_
  refine g_iconst dd_139_45 ic_1 ?_
  refine e_iadd (v := p + 1) dd_139_46 (by omega) ?_
  refine g_putfield (k := 16) am_ck12 (by decide) (Or.inl w_951) (Or.inl rfl) dd_139_47 (rm_g66 hH) (Nat.le_of_ble_eq_true rfl) trivial ?_
  refine am_heq (rm_u66 hH) ?_
  show am_Good mi_139 50 [some (.ref 66), some (.retAddr n), some (.retAddr k)] [] (rm h f len (p + 1) rl rg z1 z2 z3 z4 z5 z6 tm (am_as td k ((am_ag tm p) - 48)) y1 y2 y3 y4 y5 y6) _
  refine g_aload_n (i := 0) dd_139_50 rfl ?_
  refine g_aload_n (i := 0) dd_139_51 rfl ?_
  refine g_getfield (k := 16) am_ck12 (by decide) (Or.inl w_951) dd_139_52 (rm_g66 hH) rfl ?_
  refine g_virtual (M' := mi_137) (n := 1) (ci := 12) (b := 66) (as := [.retAddr (p + 1)]) (st := []) (r1 := (some (.retAddr (am_ag tm (p + 1))), (rm h f len (p + 1) rl rg z1 z2 z3 z4 z5 z6 tm (am_as td k ((am_ag tm p) - 48)) y1 y2 y3 y4 y5 y6))) w_1121 w_1123 ps_137 ⟨lk_137.1, lk_137.2.1, lk_137.2.2, by decide, by decide⟩ rfl (rm_g66 hH) rfl (by simp [Value.category]) dd_139_55 (m_la1 hH (by omega) hlen) ?_
  show am_Good mi_139 58 [some (.ref 66), some (.retAddr n), some (.retAddr k)] [.retAddr (am_ag tm (p + 1))] (rm h f len (p + 1) rl rg z1 z2 z3 z4 z5 z6 tm (am_as td k ((am_ag tm p) - 48)) y1 y2 y3 y4 y5 y6) _
  refine g_static (M' := mi_140) (n := 1) (as := [.retAddr (am_ag tm (p + 1))]) (st := []) (r1 := (some (.retAddr 1), (rm h f len (p + 1) rl rg z1 z2 z3 z4 z5 z6 tm (am_as td k ((am_ag tm p) - 48)) y1 y2 y3 y4 y5 y6))) w_1133 w_1134 ⟨lk_140.1, lk_140.2.1, lk_140.2.2, by decide, by decide⟩ rfl (by simp [Value.category]) dd_139_58 (rif1 hf1) ?_
  show am_Good mi_139 61 [some (.ref 66), some (.retAddr n), some (.retAddr k)] [.retAddr 1] (rm h f len (p + 1) rl rg z1 z2 z3 z4 z5 z6 tm (am_as td k ((am_ag tm p) - 48)) y1 y2 y3 y4 y5 y6) _
  refine g_if_eq_f (t := 101) dd_139_61 (by decide) (by decide) ?_
  refine g_aload_n (i := 0) dd_139_64 rfl ?_
  refine g_getfield (k := 17) am_ck12 (by decide) (Or.inl w_952) dd_139_65 (rm_g66 hH) rfl ?_
  refine g_iload_n (i := 2) dd_139_68 rfl ?_
  refine g_bipush dd_139_69 bi_10 ?_
  refine g_aload_n (i := 0) dd_139_71 rfl ?_
  refine g_getfield (k := 17) am_ck12 (by decide) (Or.inl w_952) dd_139_72 (rm_g66 hH) rfl ?_
  refine g_iload_n (i := 2) dd_139_75 rfl ?_
  refine g_iaload dd_139_76 (rm_g74 hH) (by omega) (by decide) ?_
  have hl_1 := am_ag_lt (am_as td k ((am_ag tm p) - 48)) k
  rw [show am_ag (am_as td k ((am_ag tm p) - 48)) k = am_ag tm p - 48 from by rw [am_ag_as, if_pos rfl, Nat.mod_eq_of_lt (by omega)]]
  rw [show am_ag (am_as td k ((am_ag tm p) - 48)) k = am_ag tm p - 48 from by rw [am_ag_as, if_pos rfl, Nat.mod_eq_of_lt (by omega)]] at hl_1
  refine e_imul (v := 10 * (am_ag tm p - 48)) dd_139_77 (by omega) ?_
  refine g_aload_n (i := 0) dd_139_78 rfl ?_
  refine g_aload_n (i := 0) dd_139_79 rfl ?_
  refine g_getfield (k := 16) am_ck12 (by decide) (Or.inl w_951) dd_139_80 (rm_g66 hH) rfl ?_
  refine g_virtual (M' := mi_137) (n := 1) (ci := 12) (b := 66) (as := [.retAddr (p + 1)]) (st := [.retAddr (10 * (am_ag tm p - 48)), .retAddr k, .ref 74]) (r1 := (some (.retAddr (am_ag tm (p + 1))), (rm h f len (p + 1) rl rg z1 z2 z3 z4 z5 z6 tm (am_as td k ((am_ag tm p) - 48)) y1 y2 y3 y4 y5 y6))) w_1121 w_1123 ps_137 ⟨lk_137.1, lk_137.2.1, lk_137.2.2, by decide, by decide⟩ rfl (rm_g66 hH) rfl (by simp [Value.category]) dd_139_83 (m_la1 hH (by omega) hlen) ?_
  show am_Good mi_139 86 [some (.ref 66), some (.retAddr n), some (.retAddr k)] [.retAddr (am_ag tm (p + 1)), .retAddr (10 * (am_ag tm p - 48)), .retAddr k, .ref 74] (rm h f len (p + 1) rl rg z1 z2 z3 z4 z5 z6 tm (am_as td k ((am_ag tm p) - 48)) y1 y2 y3 y4 y5 y6) _
  refine e_iadd (v := (10 * (am_ag tm p - 48)) + (am_ag tm (p + 1))) dd_139_86 (by omega) ?_
  refine g_bipush dd_139_87 bi_48 ?_
  refine e_isub (v := ((10 * (am_ag tm p - 48)) + (am_ag tm (p + 1))) - 48) dd_139_89 (by omega) ?_
  refine g_iastore dd_139_90 (rm_g74 hH) (by omega) (by decide) ?_
  refine am_heq (rm_u74 hH) ?_
  show am_Good mi_139 91 [some (.ref 66), some (.retAddr n), some (.retAddr k)] [] (rm h f len (p + 1) rl rg z1 z2 z3 z4 z5 z6 tm (am_as (am_as td k ((am_ag tm p) - 48)) k (((10 * (am_ag tm p - 48)) + (am_ag tm (p + 1))) - 48)) y1 y2 y3 y4 y5 y6) _
  refine g_aload_n (i := 0) dd_139_91 rfl ?_
  refine g_dup dd_139_92 rfl ?_
  refine g_getfield (k := 16) am_ck12 (by decide) (Or.inl w_951) dd_139_93 (rm_g66 hH) rfl ?_
  refine g_iconst dd_139_96 ic_1 ?_
  refine e_iadd (v := p + 2) dd_139_97 (by omega) ?_
  refine g_putfield (k := 16) am_ck12 (by decide) (Or.inl w_951) (Or.inl rfl) dd_139_98 (rm_g66 hH) (Nat.le_of_ble_eq_true rfl) trivial ?_
  refine am_heq (rm_u66 hH) ?_
  show am_Good mi_139 101 [some (.ref 66), some (.retAddr n), some (.retAddr k)] [] (rm h f len (p + 2) rl rg z1 z2 z3 z4 z5 z6 tm (am_as (am_as td k ((am_ag tm p) - 48)) k (((10 * (am_ag tm p - 48)) + (am_ag tm (p + 1))) - 48)) y1 y2 y3 y4 y5 y6) _
  refine g_aload_n (i := 0) dd_139_101 rfl ?_
  refine g_aload_n (i := 0) dd_139_102 rfl ?_
  refine g_getfield (k := 16) am_ck12 (by decide) (Or.inl w_951) dd_139_103 (rm_g66 hH) rfl ?_
  refine g_virtual (M' := mi_137) (n := 1) (ci := 12) (b := 66) (as := [.retAddr (p + 2)]) (st := []) (r1 := (some (.retAddr (am_ag tm (p + 2))), (rm h f len (p + 2) rl rg z1 z2 z3 z4 z5 z6 tm (am_as (am_as td k ((am_ag tm p) - 48)) k (((10 * (am_ag tm p - 48)) + (am_ag tm (p + 1))) - 48)) y1 y2 y3 y4 y5 y6))) w_1121 w_1123 ps_137 ⟨lk_137.1, lk_137.2.1, lk_137.2.2, by decide, by decide⟩ rfl (rm_g66 hH) rfl (by simp [Value.category]) dd_139_106 (m_la1 hH (by omega) hlen) ?_
  show am_Good mi_139 109 [some (.ref 66), some (.retAddr n), some (.retAddr k)] [.retAddr (am_ag tm (p + 2))] (rm h f len (p + 2) rl rg z1 z2 z3 z4 z5 z6 tm (am_as (am_as td k ((am_ag tm p) - 48)) k (((10 * (am_ag tm p - 48)) + (am_ag tm (p + 1))) - 48)) y1 y2 y3 y4 y5 y6) _
  refine g_iload_n (i := 2) dd_139_109 rfl ?_
  refine g_iload_n (i := 1) dd_139_110 rfl ?_
  refine g_iconst dd_139_111 ic_1 ?_
  refine e_isub (v := n - 1) dd_139_112 (by omega) ?_
  refine g_icmp_ge_f (t := 121) dd_139_113 (by decide) (by first | exact sk_ge_f (by omega) (by omega) | exact tk_ge_f (by omega)) ?_
  refine g_bipush dd_139_116 bi_44 ?_
  refine g_goto (t := 123) dd_139_118 (by decide) ?_
  refine g_icmp_eq_t (t := 128) dd_139_123 (by decide) (tk_eq_t (by omega)) ?_
  refine g_aload_n (i := 0) dd_139_128 rfl ?_
  refine g_dup dd_139_129 rfl ?_
  refine g_getfield (k := 16) am_ck12 (by decide) (Or.inl w_951) dd_139_130 (rm_g66 hH) rfl ?_
  refine g_iconst dd_139_133 ic_1 ?_
  refine e_iadd (v := p + 3) dd_139_134 (by omega) ?_
  refine g_putfield (k := 16) am_ck12 (by decide) (Or.inl w_951) (Or.inl rfl) dd_139_135 (rm_g66 hH) (Nat.le_of_ble_eq_true rfl) trivial ?_
  refine am_heq (rm_u66 hH) ?_
  show am_Good mi_139 138 [some (.ref 66), some (.retAddr n), some (.retAddr k)] [] (rm h f len (p + 3) rl rg z1 z2 z3 z4 z5 z6 tm (am_as (am_as td k ((am_ag tm p) - 48)) k (((10 * (am_ag tm p - 48)) + (am_ag tm (p + 1))) - 48)) y1 y2 y3 y4 y5 y6) _
  refine e_iinc (v := 1) (w := k + 1) dd_139_138 rfl ic_1 (am_nlb_ok rfl) (by decide) (by omega) ?_
  refine g_goto (t := 2) dd_139_141 (by decide) ?_
  exact hg
theorem m_n21e {h : am_H} {f : Nat → Value} {len rl rg z1 z2 z3 z4 z5 z6 tm td y1 y2 y3 y4 y5 y6 : Nat} (hH : rm_ok h) {n k p : Nat} (hlen : len ≤ 200) (hn : n ≤ 5) (h126 : ∀ i, i < 200 → am_ag tm i ≤ 126) (hf0 : 48 ≤ am_ag tm p ∧ am_ag tm p ≤ 57) (hf1 : 48 ≤ am_ag tm (p + 1) ∧ am_ag tm (p + 1) ≤ 57) (hl : ¬ p + 2 < len) (hl2 : p + 2 ≤ len) (hk : k + 1 = n) : am_Good mi_139 2 [some (.ref 66), some (.retAddr n), some (.retAddr k)] [] (rm h f len p rl rg z1 z2 z3 z4 z5 z6 tm td y1 y2 y3 y4 y5 y6) (some (.retAddr 0), (rm h f len (p + 2) rl rg z1 z2 z3 z4 z5 z6 tm (am_as (am_as td k (am_ag tm p - 48)) k (10 * (am_ag tm p - 48) + am_ag tm (p + 1) - 48)) y1 y2 y3 y4 y5 y6)) := by
  have hx0 := am_ag_lt tm p
  have hx1 := am_ag_lt tm (p + 1)
  have hx2 := am_ag_lt tm (p + 2)
  have hy0 : p < len → am_ag tm p ≤ 126 := fun q => h126 p (by omega)
  have hy1 : p + 1 < len → am_ag tm (p + 1) ≤ 126 := fun q => h126 (p + 1) (by omega)
  have hy2 : p + 2 < len → am_ag tm (p + 2) ≤ 126 := fun q => h126 (p + 2) (by omega)
  refine g_iload_n (i := 2) dd_139_2 rfl ?_
  refine g_iload_n (i := 1) dd_139_3 rfl ?_
  refine g_icmp_ge_f (t := 144) dd_139_4 (by decide) (by first | exact sk_ge_f (by omega) (by omega) | exact tk_ge_f (by omega)) ?_
  refine g_aload_n (i := 0) dd_139_7 rfl ?_
  refine g_aload_n (i := 0) dd_139_8 rfl ?_
  refine g_getfield (k := 16) am_ck12 (by decide) (Or.inl w_951) dd_139_9 (rm_g66 hH) rfl ?_
  refine g_virtual (M' := mi_137) (n := 1) (ci := 12) (b := 66) (as := [.retAddr p]) (st := []) (r1 := (some (.retAddr (am_ag tm p)), (rm h f len p rl rg z1 z2 z3 z4 z5 z6 tm td y1 y2 y3 y4 y5 y6))) w_1121 w_1123 ps_137 ⟨lk_137.1, lk_137.2.1, lk_137.2.2, by decide, by decide⟩ rfl (rm_g66 hH) rfl (by simp [Value.category]) dd_139_12 (m_la1 hH (by omega) hlen) ?_
  show am_Good mi_139 15 [some (.ref 66), some (.retAddr n), some (.retAddr k)] [.retAddr (am_ag tm p)] (rm h f len p rl rg z1 z2 z3 z4 z5 z6 tm td y1 y2 y3 y4 y5 y6) _
  refine g_static (M' := mi_140) (n := 1) (as := [.retAddr (am_ag tm p)]) (st := []) (r1 := (some (.retAddr 1), (rm h f len p rl rg z1 z2 z3 z4 z5 z6 tm td y1 y2 y3 y4 y5 y6))) w_1133 w_1134 ⟨lk_140.1, lk_140.2.1, lk_140.2.2, by decide, by decide⟩ rfl (by simp [Value.category]) dd_139_15 (rif1 hf0) ?_
  show am_Good mi_139 18 [some (.ref 66), some (.retAddr n), some (.retAddr k)] [.retAddr 1] (rm h f len p rl rg z1 z2 z3 z4 z5 z6 tm td y1 y2 y3 y4 y5 y6) _
  refine g_if_ne_t (t := 23) dd_139_18 (by decide) (by decide) ?_
  refine g_aload_n (i := 0) dd_139_23 rfl ?_
  refine g_getfield (k := 17) am_ck12 (by decide) (Or.inl w_952) dd_139_24 (rm_g66 hH) rfl ?_
  refine g_iload_n (i := 2) dd_139_27 rfl ?_
  refine g_aload_n (i := 0) dd_139_28 rfl ?_
  refine g_aload_n (i := 0) dd_139_29 rfl ?_
  refine g_getfield (k := 16) am_ck12 (by decide) (Or.inl w_951) dd_139_30 (rm_g66 hH) rfl ?_
  refine g_virtual (M' := mi_137) (n := 1) (ci := 12) (b := 66) (as := [.retAddr p]) (st := [.retAddr k, .ref 74]) (r1 := (some (.retAddr (am_ag tm p)), (rm h f len p rl rg z1 z2 z3 z4 z5 z6 tm td y1 y2 y3 y4 y5 y6))) w_1121 w_1123 ps_137 ⟨lk_137.1, lk_137.2.1, lk_137.2.2, by decide, by decide⟩ rfl (rm_g66 hH) rfl (by simp [Value.category]) dd_139_33 (m_la1 hH (by omega) hlen) ?_
  show am_Good mi_139 36 [some (.ref 66), some (.retAddr n), some (.retAddr k)] [.retAddr (am_ag tm p), .retAddr k, .ref 74] (rm h f len p rl rg z1 z2 z3 z4 z5 z6 tm td y1 y2 y3 y4 y5 y6) _
  refine g_bipush dd_139_36 bi_48 ?_
  refine e_isub (v := (am_ag tm p) - 48) dd_139_38 (by omega) ?_
  refine g_iastore dd_139_39 (rm_g74 hH) (by omega) (by decide) ?_
  refine am_heq (rm_u74 hH) ?_
  show am_Good mi_139 40 [some (.ref 66), some (.retAddr n), some (.retAddr k)] [] (rm h f len p rl rg z1 z2 z3 z4 z5 z6 tm (am_as td k ((am_ag tm p) - 48)) y1 y2 y3 y4 y5 y6) _
  refine g_aload_n (i := 0) dd_139_40 rfl ?_
  refine g_dup dd_139_41 rfl ?_
  refine g_getfield (k := 16) am_ck12 (by decide) (Or.inl w_951) dd_139_42 (rm_g66 hH) rfl ?_
  refine g_iconst dd_139_45 ic_1 ?_
  refine e_iadd (v := p + 1) dd_139_46 (by omega) ?_
  refine g_putfield (k := 16) am_ck12 (by decide) (Or.inl w_951) (Or.inl rfl) dd_139_47 (rm_g66 hH) (Nat.le_of_ble_eq_true rfl) trivial ?_
  refine am_heq (rm_u66 hH) ?_
  show am_Good mi_139 50 [some (.ref 66), some (.retAddr n), some (.retAddr k)] [] (rm h f len (p + 1) rl rg z1 z2 z3 z4 z5 z6 tm (am_as td k ((am_ag tm p) - 48)) y1 y2 y3 y4 y5 y6) _
  refine g_aload_n (i := 0) dd_139_50 rfl ?_
  refine g_aload_n (i := 0) dd_139_51 rfl ?_
  refine g_getfield (k := 16) am_ck12 (by decide) (Or.inl w_951) dd_139_52 (rm_g66 hH) rfl ?_
  refine g_virtual (M' := mi_137) (n := 1) (ci := 12) (b := 66) (as := [.retAddr (p + 1)]) (st := []) (r1 := (some (.retAddr (am_ag tm (p + 1))), (rm h f len (p + 1) rl rg z1 z2 z3 z4 z5 z6 tm (am_as td k ((am_ag tm p) - 48)) y1 y2 y3 y4 y5 y6))) w_1121 w_1123 ps_137 ⟨lk_137.1, lk_137.2.1, lk_137.2.2, by decide, by decide⟩ rfl (rm_g66 hH) rfl (by simp [Value.category]) dd_139_55 (m_la1 hH (by omega) hlen) ?_
  show am_Good mi_139 58 [some (.ref 66), some (.retAddr n), some (.retAddr k)] [.retAddr (am_ag tm (p + 1))] (rm h f len (p + 1) rl rg z1 z2 z3 z4 z5 z6 tm (am_as td k ((am_ag tm p) - 48)) y1 y2 y3 y4 y5 y6) _
  refine g_static (M' := mi_140) (n := 1) (as := [.retAddr (am_ag tm (p + 1))]) (st := []) (r1 := (some (.retAddr 1), (rm h f len (p + 1) rl rg z1 z2 z3 z4 z5 z6 tm (am_as td k ((am_ag tm p) - 48)) y1 y2 y3 y4 y5 y6))) w_1133 w_1134 ⟨lk_140.1, lk_140.2.1, lk_140.2.2, by decide, by decide⟩ rfl (by simp [Value.category]) dd_139_58 (rif1 hf1) ?_
  show am_Good mi_139 61 [some (.ref 66), some (.retAddr n), some (.retAddr k)] [.retAddr 1] (rm h f len (p + 1) rl rg z1 z2 z3 z4 z5 z6 tm (am_as td k ((am_ag tm p) - 48)) y1 y2 y3 y4 y5 y6) _
  refine g_if_eq_f (t := 101) dd_139_61 (by decide) (by decide) ?_
  refine g_aload_n (i := 0) dd_139_64 rfl ?_
  refine g_getfield (k := 17) am_ck12 (by decide) (Or.inl w_952) dd_139_65 (rm_g66 hH) rfl ?_
  refine g_iload_n (i := 2) dd_139_68 rfl ?_
  refine g_bipush dd_139_69 bi_10 ?_
  refine g_aload_n (i := 0) dd_139_71 rfl ?_
  refine g_getfield (k := 17) am_ck12 (by decide) (Or.inl w_952) dd_139_72 (rm_g66 hH) rfl ?_
  refine g_iload_n (i := 2) dd_139_75 rfl ?_
  refine g_iaload dd_139_76 (rm_g74 hH) (by omega) (by decide) ?_
  have hl_1 := am_ag_lt (am_as td k ((am_ag tm p) - 48)) k
  rw [show am_ag (am_as td k ((am_ag tm p) - 48)) k = am_ag tm p - 48 from by rw [am_ag_as, if_pos rfl, Nat.mod_eq_of_lt (by omega)]]
  rw [show am_ag (am_as td k ((am_ag tm p) - 48)) k = am_ag tm p - 48 from by rw [am_ag_as, if_pos rfl, Nat.mod_eq_of_lt (by omega)]] at hl_1
  refine e_imul (v := 10 * (am_ag tm p - 48)) dd_139_77 (by omega) ?_
  refine g_aload_n (i := 0) dd_139_78 rfl ?_
  refine g_aload_n (i := 0) dd_139_79 rfl ?_
  refine g_getfield (k := 16) am_ck12 (by decide) (Or.inl w_951) dd_139_80 (rm_g66 hH) rfl ?_
  refine g_virtual (M' := mi_137) (n := 1) (ci := 12) (b := 66) (as := [.retAddr (p + 1)]) (st := [.retAddr (10 * (am_ag tm p - 48)), .retAddr k, .ref 74]) (r1 := (some (.retAddr (am_ag tm (p + 1))), (rm h f len (p + 1) rl rg z1 z2 z3 z4 z5 z6 tm (am_as td k ((am_ag tm p) - 48)) y1 y2 y3 y4 y5 y6))) w_1121 w_1123 ps_137 ⟨lk_137.1, lk_137.2.1, lk_137.2.2, by decide, by decide⟩ rfl (rm_g66 hH) rfl (by simp [Value.category]) dd_139_83 (m_la1 hH (by omega) hlen) ?_
  show am_Good mi_139 86 [some (.ref 66), some (.retAddr n), some (.retAddr k)] [.retAddr (am_ag tm (p + 1)), .retAddr (10 * (am_ag tm p - 48)), .retAddr k, .ref 74] (rm h f len (p + 1) rl rg z1 z2 z3 z4 z5 z6 tm (am_as td k ((am_ag tm p) - 48)) y1 y2 y3 y4 y5 y6) _
  refine e_iadd (v := (10 * (am_ag tm p - 48)) + (am_ag tm (p + 1))) dd_139_86 (by omega) ?_
  refine g_bipush dd_139_87 bi_48 ?_
  refine e_isub (v := ((10 * (am_ag tm p - 48)) + (am_ag tm (p + 1))) - 48) dd_139_89 (by omega) ?_
  refine g_iastore dd_139_90 (rm_g74 hH) (by omega) (by decide) ?_
  refine am_heq (rm_u74 hH) ?_
  show am_Good mi_139 91 [some (.ref 66), some (.retAddr n), some (.retAddr k)] [] (rm h f len (p + 1) rl rg z1 z2 z3 z4 z5 z6 tm (am_as (am_as td k ((am_ag tm p) - 48)) k (((10 * (am_ag tm p - 48)) + (am_ag tm (p + 1))) - 48)) y1 y2 y3 y4 y5 y6) _
  refine g_aload_n (i := 0) dd_139_91 rfl ?_
  refine g_dup dd_139_92 rfl ?_
  refine g_getfield (k := 16) am_ck12 (by decide) (Or.inl w_951) dd_139_93 (rm_g66 hH) rfl ?_
  refine g_iconst dd_139_96 ic_1 ?_
  refine e_iadd (v := p + 2) dd_139_97 (by omega) ?_
  refine g_putfield (k := 16) am_ck12 (by decide) (Or.inl w_951) (Or.inl rfl) dd_139_98 (rm_g66 hH) (Nat.le_of_ble_eq_true rfl) trivial ?_
  refine am_heq (rm_u66 hH) ?_
  show am_Good mi_139 101 [some (.ref 66), some (.retAddr n), some (.retAddr k)] [] (rm h f len (p + 2) rl rg z1 z2 z3 z4 z5 z6 tm (am_as (am_as td k ((am_ag tm p) - 48)) k (((10 * (am_ag tm p - 48)) + (am_ag tm (p + 1))) - 48)) y1 y2 y3 y4 y5 y6) _
  refine g_aload_n (i := 0) dd_139_101 rfl ?_
  refine g_aload_n (i := 0) dd_139_102 rfl ?_
  refine g_getfield (k := 16) am_ck12 (by decide) (Or.inl w_951) dd_139_103 (rm_g66 hH) rfl ?_
  refine g_virtual (M' := mi_137) (n := 1) (ci := 12) (b := 66) (as := [.retAddr (p + 2)]) (st := []) (r1 := (some (.retAddr 4294967295), (rm h f len (p + 2) rl rg z1 z2 z3 z4 z5 z6 tm (am_as (am_as td k ((am_ag tm p) - 48)) k (((10 * (am_ag tm p - 48)) + (am_ag tm (p + 1))) - 48)) y1 y2 y3 y4 y5 y6))) w_1121 w_1123 ps_137 ⟨lk_137.1, lk_137.2.1, lk_137.2.2, by decide, by decide⟩ rfl (rm_g66 hH) rfl (by simp [Value.category]) dd_139_106 (m_la0 hH (by omega) (by omega)) ?_
  show am_Good mi_139 109 [some (.ref 66), some (.retAddr n), some (.retAddr k)] [.retAddr 4294967295] (rm h f len (p + 2) rl rg z1 z2 z3 z4 z5 z6 tm (am_as (am_as td k ((am_ag tm p) - 48)) k (((10 * (am_ag tm p - 48)) + (am_ag tm (p + 1))) - 48)) y1 y2 y3 y4 y5 y6) _
  refine g_iload_n (i := 2) dd_139_109 rfl ?_
  refine g_iload_n (i := 1) dd_139_110 rfl ?_
  refine g_iconst dd_139_111 ic_1 ?_
  refine e_isub (v := n - 1) dd_139_112 (by omega) ?_
  refine g_icmp_ge_t (t := 121) dd_139_113 (by decide) (by first | exact sk_ge_t (by omega) (by omega) | exact tk_ge_t (by omega)) ?_
  refine g_bipush dd_139_121 bi_59 ?_
  refine g_icmp_eq_f (t := 128) dd_139_123 (by decide) (by decide) ?_
  refine g_iconst dd_139_126 ic_0 ?_
  exact g_zreturn rfl (by first | decide | omega) dd_139_127
theorem m_n21x {h : am_H} {f : Nat → Value} {len rl rg z1 z2 z3 z4 z5 z6 tm td y1 y2 y3 y4 y5 y6 : Nat} (hH : rm_ok h) {n k p : Nat} (hlen : len ≤ 200) (hn : n ≤ 5) (h126 : ∀ i, i < 200 → am_ag tm i ≤ 126) (hf0 : 48 ≤ am_ag tm p ∧ am_ag tm p ≤ 57) (hf1 : 48 ≤ am_ag tm (p + 1) ∧ am_ag tm (p + 1) ≤ 57) (hl : p + 2 < len) (hk : k + 1 = n) (hs : am_ag tm (p + 2) ≠ 59) : am_Good mi_139 2 [some (.ref 66), some (.retAddr n), some (.retAddr k)] [] (rm h f len p rl rg z1 z2 z3 z4 z5 z6 tm td y1 y2 y3 y4 y5 y6) (some (.retAddr 0), (rm h f len (p + 2) rl rg z1 z2 z3 z4 z5 z6 tm (am_as (am_as td k (am_ag tm p - 48)) k (10 * (am_ag tm p - 48) + am_ag tm (p + 1) - 48)) y1 y2 y3 y4 y5 y6)) := by
  have hx0 := am_ag_lt tm p
  have hx1 := am_ag_lt tm (p + 1)
  have hx2 := am_ag_lt tm (p + 2)
  have hy0 : p < len → am_ag tm p ≤ 126 := fun q => h126 p (by omega)
  have hy1 : p + 1 < len → am_ag tm (p + 1) ≤ 126 := fun q => h126 (p + 1) (by omega)
  have hy2 : p + 2 < len → am_ag tm (p + 2) ≤ 126 := fun q => h126 (p + 2) (by omega)
  refine g_iload_n (i := 2) dd_139_2 rfl ?_
  refine g_iload_n (i := 1) dd_139_3 rfl ?_
  refine g_icmp_ge_f (t := 144) dd_139_4 (by decide) (by first | exact sk_ge_f (by omega) (by omega) | exact tk_ge_f (by omega)) ?_
  refine g_aload_n (i := 0) dd_139_7 rfl ?_
  refine g_aload_n (i := 0) dd_139_8 rfl ?_
  refine g_getfield (k := 16) am_ck12 (by decide) (Or.inl w_951) dd_139_9 (rm_g66 hH) rfl ?_
  refine g_virtual (M' := mi_137) (n := 1) (ci := 12) (b := 66) (as := [.retAddr p]) (st := []) (r1 := (some (.retAddr (am_ag tm p)), (rm h f len p rl rg z1 z2 z3 z4 z5 z6 tm td y1 y2 y3 y4 y5 y6))) w_1121 w_1123 ps_137 ⟨lk_137.1, lk_137.2.1, lk_137.2.2, by decide, by decide⟩ rfl (rm_g66 hH) rfl (by simp [Value.category]) dd_139_12 (m_la1 hH (by omega) hlen) ?_
  show am_Good mi_139 15 [some (.ref 66), some (.retAddr n), some (.retAddr k)] [.retAddr (am_ag tm p)] (rm h f len p rl rg z1 z2 z3 z4 z5 z6 tm td y1 y2 y3 y4 y5 y6) _
  refine g_static (M' := mi_140) (n := 1) (as := [.retAddr (am_ag tm p)]) (st := []) (r1 := (some (.retAddr 1), (rm h f len p rl rg z1 z2 z3 z4 z5 z6 tm td y1 y2 y3 y4 y5 y6))) w_1133 w_1134 ⟨lk_140.1, lk_140.2.1, lk_140.2.2, by decide, by decide⟩ rfl (by simp [Value.category]) dd_139_15 (rif1 hf0) ?_
  show am_Good mi_139 18 [some (.ref 66), some (.retAddr n), some (.retAddr k)] [.retAddr 1] (rm h f len p rl rg z1 z2 z3 z4 z5 z6 tm td y1 y2 y3 y4 y5 y6) _
  refine g_if_ne_t (t := 23) dd_139_18 (by decide) (by decide) ?_
  refine g_aload_n (i := 0) dd_139_23 rfl ?_
  refine g_getfield (k := 17) am_ck12 (by decide) (Or.inl w_952) dd_139_24 (rm_g66 hH) rfl ?_
  refine g_iload_n (i := 2) dd_139_27 rfl ?_
  refine g_aload_n (i := 0) dd_139_28 rfl ?_
  refine g_aload_n (i := 0) dd_139_29 rfl ?_
  refine g_getfield (k := 16) am_ck12 (by decide) (Or.inl w_951) dd_139_30 (rm_g66 hH) rfl ?_
  refine g_virtual (M' := mi_137) (n := 1) (ci := 12) (b := 66) (as := [.retAddr p]) (st := [.retAddr k, .ref 74]) (r1 := (some (.retAddr (am_ag tm p)), (rm h f len p rl rg z1 z2 z3 z4 z5 z6 tm td y1 y2 y3 y4 y5 y6))) w_1121 w_1123 ps_137 ⟨lk_137.1, lk_137.2.1, lk_137.2.2, by decide, by decide⟩ rfl (rm_g66 hH) rfl (by simp [Value.category]) dd_139_33 (m_la1 hH (by omega) hlen) ?_
  show am_Good mi_139 36 [some (.ref 66), some (.retAddr n), some (.retAddr k)] [.retAddr (am_ag tm p), .retAddr k, .ref 74] (rm h f len p rl rg z1 z2 z3 z4 z5 z6 tm td y1 y2 y3 y4 y5 y6) _
  refine g_bipush dd_139_36 bi_48 ?_
  refine e_isub (v := (am_ag tm p) - 48) dd_139_38 (by omega) ?_
  refine g_iastore dd_139_39 (rm_g74 hH) (by omega) (by decide) ?_
  refine am_heq (rm_u74 hH) ?_
  show am_Good mi_139 40 [some (.ref 66), some (.retAddr n), some (.retAddr k)] [] (rm h f len p rl rg z1 z2 z3 z4 z5 z6 tm (am_as td k ((am_ag tm p) - 48)) y1 y2 y3 y4 y5 y6) _
  refine g_aload_n (i := 0) dd_139_40 rfl ?_
  refine g_dup dd_139_41 rfl ?_
  refine g_getfield (k := 16) am_ck12 (by decide) (Or.inl w_951) dd_139_42 (rm_g66 hH) rfl ?_
  refine g_iconst dd_139_45 ic_1 ?_
  refine e_iadd (v := p + 1) dd_139_46 (by omega) ?_
  refine g_putfield (k := 16) am_ck12 (by decide) (Or.inl w_951) (Or.inl rfl) dd_139_47 (rm_g66 hH) (Nat.le_of_ble_eq_true rfl) trivial ?_
  refine am_heq (rm_u66 hH) ?_
  show am_Good mi_139 50 [some (.ref 66), some (.retAddr n), some (.retAddr k)] [] (rm h f len (p + 1) rl rg z1 z2 z3 z4 z5 z6 tm (am_as td k ((am_ag tm p) - 48)) y1 y2 y3 y4 y5 y6) _
  refine g_aload_n (i := 0) dd_139_50 rfl ?_
  refine g_aload_n (i := 0) dd_139_51 rfl ?_
  refine g_getfield (k := 16) am_ck12 (by decide) (Or.inl w_951) dd_139_52 (rm_g66 hH) rfl ?_
  refine g_virtual (M' := mi_137) (n := 1) (ci := 12) (b := 66) (as := [.retAddr (p + 1)]) (st := []) (r1 := (some (.retAddr (am_ag tm (p + 1))), (rm h f len (p + 1) rl rg z1 z2 z3 z4 z5 z6 tm (am_as td k ((am_ag tm p) - 48)) y1 y2 y3 y4 y5 y6))) w_1121 w_1123 ps_137 ⟨lk_137.1, lk_137.2.1, lk_137.2.2, by decide, by decide⟩ rfl (rm_g66 hH) rfl (by simp [Value.category]) dd_139_55 (m_la1 hH (by omega) hlen) ?_
  show am_Good mi_139 58 [some (.ref 66), some (.retAddr n), some (.retAddr k)] [.retAddr (am_ag tm (p + 1))] (rm h f len (p + 1) rl rg z1 z2 z3 z4 z5 z6 tm (am_as td k ((am_ag tm p) - 48)) y1 y2 y3 y4 y5 y6) _
  refine g_static (M' := mi_140) (n := 1) (as := [.retAddr (am_ag tm (p + 1))]) (st := []) (r1 := (some (.retAddr 1), (rm h f len (p + 1) rl rg z1 z2 z3 z4 z5 z6 tm (am_as td k ((am_ag tm p) - 48)) y1 y2 y3 y4 y5 y6))) w_1133 w_1134 ⟨lk_140.1, lk_140.2.1, lk_140.2.2, by decide, by decide⟩ rfl (by simp [Value.category]) dd_139_58 (rif1 hf1) ?_
  show am_Good mi_139 61 [some (.ref 66), some (.retAddr n), some (.retAddr k)] [.retAddr 1] (rm h f len (p + 1) rl rg z1 z2 z3 z4 z5 z6 tm (am_as td k ((am_ag tm p) - 48)) y1 y2 y3 y4 y5 y6) _
  refine g_if_eq_f (t := 101) dd_139_61 (by decide) (by decide) ?_
  refine g_aload_n (i := 0) dd_139_64 rfl ?_
  refine g_getfield (k := 17) am_ck12 (by decide) (Or.inl w_952) dd_139_65 (rm_g66 hH) rfl ?_
  refine g_iload_n (i := 2) dd_139_68 rfl ?_
  refine g_bipush dd_139_69 bi_10 ?_
  refine g_aload_n (i := 0) dd_139_71 rfl ?_
  refine g_getfield (k := 17) am_ck12 (by decide) (Or.inl w_952) dd_139_72 (rm_g66 hH) rfl ?_
  refine g_iload_n (i := 2) dd_139_75 rfl ?_
  refine g_iaload dd_139_76 (rm_g74 hH) (by omega) (by decide) ?_
  have hl_1 := am_ag_lt (am_as td k ((am_ag tm p) - 48)) k
  rw [show am_ag (am_as td k ((am_ag tm p) - 48)) k = am_ag tm p - 48 from by rw [am_ag_as, if_pos rfl, Nat.mod_eq_of_lt (by omega)]]
  rw [show am_ag (am_as td k ((am_ag tm p) - 48)) k = am_ag tm p - 48 from by rw [am_ag_as, if_pos rfl, Nat.mod_eq_of_lt (by omega)]] at hl_1
  refine e_imul (v := 10 * (am_ag tm p - 48)) dd_139_77 (by omega) ?_
  refine g_aload_n (i := 0) dd_139_78 rfl ?_
  refine g_aload_n (i := 0) dd_139_79 rfl ?_
  refine g_getfield (k := 16) am_ck12 (by decide) (Or.inl w_951) dd_139_80 (rm_g66 hH) rfl ?_
  refine g_virtual (M' := mi_137) (n := 1) (ci := 12) (b := 66) (as := [.retAddr (p + 1)]) (st := [.retAddr (10 * (am_ag tm p - 48)), .retAddr k, .ref 74]) (r1 := (some (.retAddr (am_ag tm (p + 1))), (rm h f len (p + 1) rl rg z1 z2 z3 z4 z5 z6 tm (am_as td k ((am_ag tm p) - 48)) y1 y2 y3 y4 y5 y6))) w_1121 w_1123 ps_137 ⟨lk_137.1, lk_137.2.1, lk_137.2.2, by decide, by decide⟩ rfl (rm_g66 hH) rfl (by simp [Value.category]) dd_139_83 (m_la1 hH (by omega) hlen) ?_
  show am_Good mi_139 86 [some (.ref 66), some (.retAddr n), some (.retAddr k)] [.retAddr (am_ag tm (p + 1)), .retAddr (10 * (am_ag tm p - 48)), .retAddr k, .ref 74] (rm h f len (p + 1) rl rg z1 z2 z3 z4 z5 z6 tm (am_as td k ((am_ag tm p) - 48)) y1 y2 y3 y4 y5 y6) _
  refine e_iadd (v := (10 * (am_ag tm p - 48)) + (am_ag tm (p + 1))) dd_139_86 (by omega) ?_
  refine g_bipush dd_139_87 bi_48 ?_
  refine e_isub (v := ((10 * (am_ag tm p - 48)) + (am_ag tm (p + 1))) - 48) dd_139_89 (by omega) ?_
  refine g_iastore dd_139_90 (rm_g74 hH) (by omega) (by decide) ?_
  refine am_heq (rm_u74 hH) ?_
  show am_Good mi_139 91 [some (.ref 66), some (.retAddr n), some (.retAddr k)] [] (rm h f len (p + 1) rl rg z1 z2 z3 z4 z5 z6 tm (am_as (am_as td k ((am_ag tm p) - 48)) k (((10 * (am_ag tm p - 48)) + (am_ag tm (p + 1))) - 48)) y1 y2 y3 y4 y5 y6) _
  refine g_aload_n (i := 0) dd_139_91 rfl ?_
  refine g_dup dd_139_92 rfl ?_
  refine g_getfield (k := 16) am_ck12 (by decide) (Or.inl w_951) dd_139_93 (rm_g66 hH) rfl ?_
  refine g_iconst dd_139_96 ic_1 ?_
  refine e_iadd (v := p + 2) dd_139_97 (by omega) ?_
  refine g_putfield (k := 16) am_ck12 (by decide) (Or.inl w_951) (Or.inl rfl) dd_139_98 (rm_g66 hH) (Nat.le_of_ble_eq_true rfl) trivial ?_
  refine am_heq (rm_u66 hH) ?_
  show am_Good mi_139 101 [some (.ref 66), some (.retAddr n), some (.retAddr k)] [] (rm h f len (p + 2) rl rg z1 z2 z3 z4 z5 z6 tm (am_as (am_as td k ((am_ag tm p) - 48)) k (((10 * (am_ag tm p - 48)) + (am_ag tm (p + 1))) - 48)) y1 y2 y3 y4 y5 y6) _
  refine g_aload_n (i := 0) dd_139_101 rfl ?_
  refine g_aload_n (i := 0) dd_139_102 rfl ?_
  refine g_getfield (k := 16) am_ck12 (by decide) (Or.inl w_951) dd_139_103 (rm_g66 hH) rfl ?_
  refine g_virtual (M' := mi_137) (n := 1) (ci := 12) (b := 66) (as := [.retAddr (p + 2)]) (st := []) (r1 := (some (.retAddr (am_ag tm (p + 2))), (rm h f len (p + 2) rl rg z1 z2 z3 z4 z5 z6 tm (am_as (am_as td k ((am_ag tm p) - 48)) k (((10 * (am_ag tm p - 48)) + (am_ag tm (p + 1))) - 48)) y1 y2 y3 y4 y5 y6))) w_1121 w_1123 ps_137 ⟨lk_137.1, lk_137.2.1, lk_137.2.2, by decide, by decide⟩ rfl (rm_g66 hH) rfl (by simp [Value.category]) dd_139_106 (m_la1 hH (by omega) hlen) ?_
  show am_Good mi_139 109 [some (.ref 66), some (.retAddr n), some (.retAddr k)] [.retAddr (am_ag tm (p + 2))] (rm h f len (p + 2) rl rg z1 z2 z3 z4 z5 z6 tm (am_as (am_as td k ((am_ag tm p) - 48)) k (((10 * (am_ag tm p - 48)) + (am_ag tm (p + 1))) - 48)) y1 y2 y3 y4 y5 y6) _
  refine g_iload_n (i := 2) dd_139_109 rfl ?_
  refine g_iload_n (i := 1) dd_139_110 rfl ?_
  refine g_iconst dd_139_111 ic_1 ?_
  refine e_isub (v := n - 1) dd_139_112 (by omega) ?_
  refine g_icmp_ge_t (t := 121) dd_139_113 (by decide) (by first | exact sk_ge_t (by omega) (by omega) | exact tk_ge_t (by omega)) ?_
  refine g_bipush dd_139_121 bi_59 ?_
  refine g_icmp_eq_f (t := 128) dd_139_123 (by decide) (tk_eq_f (by omega)) ?_
  refine g_iconst dd_139_126 ic_0 ?_
  exact g_zreturn rfl (by first | decide | omega) dd_139_127
theorem m_n21g {h : am_H} {f : Nat → Value} {len rl rg z1 z2 z3 z4 z5 z6 tm td y1 y2 y3 y4 y5 y6 : Nat} (hH : rm_ok h) {n k p : Nat} (hlen : len ≤ 200) (hn : n ≤ 5) (h126 : ∀ i, i < 200 → am_ag tm i ≤ 126) (hf0 : 48 ≤ am_ag tm p ∧ am_ag tm p ≤ 57) (hf1 : 48 ≤ am_ag tm (p + 1) ∧ am_ag tm (p + 1) ≤ 57) (hl : p + 2 < len) (hk : k + 1 = n) (hs : am_ag tm (p + 2) = 59) {r : am_R} (hg : am_Good mi_139 2 [some (.ref 66), some (.retAddr n), some (.retAddr (k + 1))] [] (rm h f len (p + 3) rl rg z1 z2 z3 z4 z5 z6 tm (am_as (am_as td k (am_ag tm p - 48)) k (10 * (am_ag tm p - 48) + am_ag tm (p + 1) - 48)) y1 y2 y3 y4 y5 y6) r) : am_Good mi_139 2 [some (.ref 66), some (.retAddr n), some (.retAddr k)] [] (rm h f len p rl rg z1 z2 z3 z4 z5 z6 tm td y1 y2 y3 y4 y5 y6) r := by
  have hx0 := am_ag_lt tm p
  have hx1 := am_ag_lt tm (p + 1)
  have hx2 := am_ag_lt tm (p + 2)
  have hy0 : p < len → am_ag tm p ≤ 126 := fun q => h126 p (by omega)
  have hy1 : p + 1 < len → am_ag tm (p + 1) ≤ 126 := fun q => h126 (p + 1) (by omega)
  have hy2 : p + 2 < len → am_ag tm (p + 2) ≤ 126 := fun q => h126 (p + 2) (by omega)
  refine g_iload_n (i := 2) dd_139_2 rfl ?_
  refine g_iload_n (i := 1) dd_139_3 rfl ?_
  refine g_icmp_ge_f (t := 144) dd_139_4 (by decide) (by first | exact sk_ge_f (by omega) (by omega) | exact tk_ge_f (by omega)) ?_
  refine g_aload_n (i := 0) dd_139_7 rfl ?_
  refine g_aload_n (i := 0) dd_139_8 rfl ?_
  refine g_getfield (k := 16) am_ck12 (by decide) (Or.inl w_951) dd_139_9 (rm_g66 hH) rfl ?_
  refine g_virtual (M' := mi_137) (n := 1) (ci := 12) (b := 66) (as := [.retAddr p]) (st := []) (r1 := (some (.retAddr (am_ag tm p)), (rm h f len p rl rg z1 z2 z3 z4 z5 z6 tm td y1 y2 y3 y4 y5 y6))) w_1121 w_1123 ps_137 ⟨lk_137.1, lk_137.2.1, lk_137.2.2, by decide, by decide⟩ rfl (rm_g66 hH) rfl (by simp [Value.category]) dd_139_12 (m_la1 hH (by omega) hlen) ?_
  show am_Good mi_139 15 [some (.ref 66), some (.retAddr n), some (.retAddr k)] [.retAddr (am_ag tm p)] (rm h f len p rl rg z1 z2 z3 z4 z5 z6 tm td y1 y2 y3 y4 y5 y6) _
  refine g_static (M' := mi_140) (n := 1) (as := [.retAddr (am_ag tm p)]) (st := []) (r1 := (some (.retAddr 1), (rm h f len p rl rg z1 z2 z3 z4 z5 z6 tm td y1 y2 y3 y4 y5 y6))) w_1133 w_1134 ⟨lk_140.1, lk_140.2.1, lk_140.2.2, by decide, by decide⟩ rfl (by simp [Value.category]) dd_139_15 (rif1 hf0) ?_
  show am_Good mi_139 18 [some (.ref 66), some (.retAddr n), some (.retAddr k)] [.retAddr 1] (rm h f len p rl rg z1 z2 z3 z4 z5 z6 tm td y1 y2 y3 y4 y5 y6) _
  refine g_if_ne_t (t := 23) dd_139_18 (by decide) (by decide) ?_
  refine g_aload_n (i := 0) dd_139_23 rfl ?_
  refine g_getfield (k := 17) am_ck12 (by decide) (Or.inl w_952) dd_139_24 (rm_g66 hH) rfl ?_
  refine g_iload_n (i := 2) dd_139_27 rfl ?_
  refine g_aload_n (i := 0) dd_139_28 rfl ?_
  refine g_aload_n (i := 0) dd_139_29 rfl ?_
  refine g_getfield (k := 16) am_ck12 (by decide) (Or.inl w_951) dd_139_30 (rm_g66 hH) rfl ?_
  refine g_virtual (M' := mi_137) (n := 1) (ci := 12) (b := 66) (as := [.retAddr p]) (st := [.retAddr k, .ref 74]) (r1 := (some (.retAddr (am_ag tm p)), (rm h f len p rl rg z1 z2 z3 z4 z5 z6 tm td y1 y2 y3 y4 y5 y6))) w_1121 w_1123 ps_137 ⟨lk_137.1, lk_137.2.1, lk_137.2.2, by decide, by decide⟩ rfl (rm_g66 hH) rfl (by simp [Value.category]) dd_139_33 (m_la1 hH (by omega) hlen) ?_
  show am_Good mi_139 36 [some (.ref 66), some (.retAddr n), some (.retAddr k)] [.retAddr (am_ag tm p), .retAddr k, .ref 74] (rm h f len p rl rg z1 z2 z3 z4 z5 z6 tm td y1 y2 y3 y4 y5 y6) _
  refine g_bipush dd_139_36 bi_48 ?_
  refine e_isub (v := (am_ag tm p) - 48) dd_139_38 (by omega) ?_
  refine g_iastore dd_139_39 (rm_g74 hH) (by omega) (by decide) ?_
  refine am_heq (rm_u74 hH) ?_
  show am_Good mi_139 40 [some (.ref 66), some (.retAddr n), some (.retAddr k)] [] (rm h f len p rl rg z1 z2 z3 z4 z5 z6 tm (am_as td k ((am_ag tm p) - 48)) y1 y2 y3 y4 y5 y6) _
  refine g_aload_n (i := 0) dd_139_40 rfl ?_
  refine g_dup dd_139_41 rfl ?_
  refine g_getfield (k := 16) am_ck12 (by decide) (Or.inl w_951) dd_139_42 (rm_g66 hH) rfl ?_
  refine g_iconst dd_139_45 ic_1 ?_
  refine e_iadd (v := p + 1) dd_139_46 (by omega) ?_
  refine g_putfield (k := 16) am_ck12 (by decide) (Or.inl w_951) (Or.inl rfl) dd_139_47 (rm_g66 hH) (Nat.le_of_ble_eq_true rfl) trivial ?_
  refine am_heq (rm_u66 hH) ?_
  show am_Good mi_139 50 [some (.ref 66), some (.retAddr n), some (.retAddr k)] [] (rm h f len (p + 1) rl rg z1 z2 z3 z4 z5 z6 tm (am_as td k ((am_ag tm p) - 48)) y1 y2 y3 y4 y5 y6) _
  refine g_aload_n (i := 0) dd_139_50 rfl ?_
  refine g_aload_n (i := 0) dd_139_51 rfl ?_
  refine g_getfield (k := 16) am_ck12 (by decide) (Or.inl w_951) dd_139_52 (rm_g66 hH) rfl ?_
  refine g_virtual (M' := mi_137) (n := 1) (ci := 12) (b := 66) (as := [.retAddr (p + 1)]) (st := []) (r1 := (some (.retAddr (am_ag tm (p + 1))), (rm h f len (p + 1) rl rg z1 z2 z3 z4 z5 z6 tm (am_as td k ((am_ag tm p) - 48)) y1 y2 y3 y4 y5 y6))) w_1121 w_1123 ps_137 ⟨lk_137.1, lk_137.2.1, lk_137.2.2, by decide, by decide⟩ rfl (rm_g66 hH) rfl (by simp [Value.category]) dd_139_55 (m_la1 hH (by omega) hlen) ?_
  show am_Good mi_139 58 [some (.ref 66), some (.retAddr n), some (.retAddr k)] [.retAddr (am_ag tm (p + 1))] (rm h f len (p + 1) rl rg z1 z2 z3 z4 z5 z6 tm (am_as td k ((am_ag tm p) - 48)) y1 y2 y3 y4 y5 y6) _
  refine g_static (M' := mi_140) (n := 1) (as := [.retAddr (am_ag tm (p + 1))]) (st := []) (r1 := (some (.retAddr 1), (rm h f len (p + 1) rl rg z1 z2 z3 z4 z5 z6 tm (am_as td k ((am_ag tm p) - 48)) y1 y2 y3 y4 y5 y6))) w_1133 w_1134 ⟨lk_140.1, lk_140.2.1, lk_140.2.2, by decide, by decide⟩ rfl (by simp [Value.category]) dd_139_58 (rif1 hf1) ?_
  show am_Good mi_139 61 [some (.ref 66), some (.retAddr n), some (.retAddr k)] [.retAddr 1] (rm h f len (p + 1) rl rg z1 z2 z3 z4 z5 z6 tm (am_as td k ((am_ag tm p) - 48)) y1 y2 y3 y4 y5 y6) _
  refine g_if_eq_f (t := 101) dd_139_61 (by decide) (by decide) ?_
  refine g_aload_n (i := 0) dd_139_64 rfl ?_
  refine g_getfield (k := 17) am_ck12 (by decide) (Or.inl w_952) dd_139_65 (rm_g66 hH) rfl ?_
  refine g_iload_n (i := 2) dd_139_68 rfl ?_
  refine g_bipush dd_139_69 bi_10 ?_
  refine g_aload_n (i := 0) dd_139_71 rfl ?_
  refine g_getfield (k := 17) am_ck12 (by decide) (Or.inl w_952) dd_139_72 (rm_g66 hH) rfl ?_
  refine g_iload_n (i := 2) dd_139_75 rfl ?_
  refine g_iaload dd_139_76 (rm_g74 hH) (by omega) (by decide) ?_
  have hl_1 := am_ag_lt (am_as td k ((am_ag tm p) - 48)) k
  rw [show am_ag (am_as td k ((am_ag tm p) - 48)) k = am_ag tm p - 48 from by rw [am_ag_as, if_pos rfl, Nat.mod_eq_of_lt (by omega)]]
  rw [show am_ag (am_as td k ((am_ag tm p) - 48)) k = am_ag tm p - 48 from by rw [am_ag_as, if_pos rfl, Nat.mod_eq_of_lt (by omega)]] at hl_1
  refine e_imul (v := 10 * (am_ag tm p - 48)) dd_139_77 (by omega) ?_
  refine g_aload_n (i := 0) dd_139_78 rfl ?_
  refine g_aload_n (i := 0) dd_139_79 rfl ?_
  refine g_getfield (k := 16) am_ck12 (by decide) (Or.inl w_951) dd_139_80 (rm_g66 hH) rfl ?_
  refine g_virtual (M' := mi_137) (n := 1) (ci := 12) (b := 66) (as := [.retAddr (p + 1)]) (st := [.retAddr (10 * (am_ag tm p - 48)), .retAddr k, .ref 74]) (r1 := (some (.retAddr (am_ag tm (p + 1))), (rm h f len (p + 1) rl rg z1 z2 z3 z4 z5 z6 tm (am_as td k ((am_ag tm p) - 48)) y1 y2 y3 y4 y5 y6))) w_1121 w_1123 ps_137 ⟨lk_137.1, lk_137.2.1, lk_137.2.2, by decide, by decide⟩ rfl (rm_g66 hH) rfl (by simp [Value.category]) dd_139_83 (m_la1 hH (by omega) hlen) ?_
  show am_Good mi_139 86 [some (.ref 66), some (.retAddr n), some (.retAddr k)] [.retAddr (am_ag tm (p + 1)), .retAddr (10 * (am_ag tm p - 48)), .retAddr k, .ref 74] (rm h f len (p + 1) rl rg z1 z2 z3 z4 z5 z6 tm (am_as td k ((am_ag tm p) - 48)) y1 y2 y3 y4 y5 y6) _
  refine e_iadd (v := (10 * (am_ag tm p - 48)) + (am_ag tm (p + 1))) dd_139_86 (by omega) ?_
  refine g_bipush dd_139_87 bi_48 ?_
  refine e_isub (v := ((10 * (am_ag tm p - 48)) + (am_ag tm (p + 1))) - 48) dd_139_89 (by omega) ?_
  refine g_iastore dd_139_90 (rm_g74 hH) (by omega) (by decide) ?_
  refine am_heq (rm_u74 hH) ?_
  show am_Good mi_139 91 [some (.ref 66), some (.retAddr n), some (.retAddr k)] [] (rm h f len (p + 1) rl rg z1 z2 z3 z4 z5 z6 tm (am_as (am_as td k ((am_ag tm p) - 48)) k (((10 * (am_ag tm p - 48)) + (am_ag tm (p + 1))) - 48)) y1 y2 y3 y4 y5 y6) _
  refine g_aload_n (i := 0) dd_139_91 rfl ?_
  refine g_dup dd_139_92 rfl ?_
  refine g_getfield (k := 16) am_ck12 (by decide) (Or.inl w_951) dd_139_93 (rm_g66 hH) rfl ?_
  refine g_iconst dd_139_96 ic_1 ?_
  refine e_iadd (v := p + 2) dd_139_97 (by omega) ?_
  refine g_putfield (k := 16) am_ck12 (by decide) (Or.inl w_951) (Or.inl rfl) dd_139_98 (rm_g66 hH) (Nat.le_of_ble_eq_true rfl) trivial ?_
  refine am_heq (rm_u66 hH) ?_
  show am_Good mi_139 101 [some (.ref 66), some (.retAddr n), some (.retAddr k)] [] (rm h f len (p + 2) rl rg z1 z2 z3 z4 z5 z6 tm (am_as (am_as td k ((am_ag tm p) - 48)) k (((10 * (am_ag tm p - 48)) + (am_ag tm (p + 1))) - 48)) y1 y2 y3 y4 y5 y6) _
  refine g_aload_n (i := 0) dd_139_101 rfl ?_
  refine g_aload_n (i := 0) dd_139_102 rfl ?_
  refine g_getfield (k := 16) am_ck12 (by decide) (Or.inl w_951) dd_139_103 (rm_g66 hH) rfl ?_
  refine g_virtual (M' := mi_137) (n := 1) (ci := 12) (b := 66) (as := [.retAddr (p + 2)]) (st := []) (r1 := (some (.retAddr (am_ag tm (p + 2))), (rm h f len (p + 2) rl rg z1 z2 z3 z4 z5 z6 tm (am_as (am_as td k ((am_ag tm p) - 48)) k (((10 * (am_ag tm p - 48)) + (am_ag tm (p + 1))) - 48)) y1 y2 y3 y4 y5 y6))) w_1121 w_1123 ps_137 ⟨lk_137.1, lk_137.2.1, lk_137.2.2, by decide, by decide⟩ rfl (rm_g66 hH) rfl (by simp [Value.category]) dd_139_106 (m_la1 hH (by omega) hlen) ?_
  show am_Good mi_139 109 [some (.ref 66), some (.retAddr n), some (.retAddr k)] [.retAddr (am_ag tm (p + 2))] (rm h f len (p + 2) rl rg z1 z2 z3 z4 z5 z6 tm (am_as (am_as td k ((am_ag tm p) - 48)) k (((10 * (am_ag tm p - 48)) + (am_ag tm (p + 1))) - 48)) y1 y2 y3 y4 y5 y6) _
  refine g_iload_n (i := 2) dd_139_109 rfl ?_
  refine g_iload_n (i := 1) dd_139_110 rfl ?_
  refine g_iconst dd_139_111 ic_1 ?_
  refine e_isub (v := n - 1) dd_139_112 (by omega) ?_
  refine g_icmp_ge_t (t := 121) dd_139_113 (by decide) (by first | exact sk_ge_t (by omega) (by omega) | exact tk_ge_t (by omega)) ?_
  refine g_bipush dd_139_121 bi_59 ?_
  refine g_icmp_eq_t (t := 128) dd_139_123 (by decide) (tk_eq_t (by omega)) ?_
  refine g_aload_n (i := 0) dd_139_128 rfl ?_
  refine g_dup dd_139_129 rfl ?_
  refine g_getfield (k := 16) am_ck12 (by decide) (Or.inl w_951) dd_139_130 (rm_g66 hH) rfl ?_
  refine g_iconst dd_139_133 ic_1 ?_
  refine e_iadd (v := p + 3) dd_139_134 (by omega) ?_
  refine g_putfield (k := 16) am_ck12 (by decide) (Or.inl w_951) (Or.inl rfl) dd_139_135 (rm_g66 hH) (Nat.le_of_ble_eq_true rfl) trivial ?_
  refine am_heq (rm_u66 hH) ?_
  show am_Good mi_139 138 [some (.ref 66), some (.retAddr n), some (.retAddr k)] [] (rm h f len (p + 3) rl rg z1 z2 z3 z4 z5 z6 tm (am_as (am_as td k ((am_ag tm p) - 48)) k (((10 * (am_ag tm p - 48)) + (am_ag tm (p + 1))) - 48)) y1 y2 y3 y4 y5 y6) _
  refine e_iinc (v := 1) (w := k + 1) dd_139_138 rfl ic_1 (am_nlb_ok rfl) (by decide) (by omega) ?_
  refine g_goto (t := 2) dd_139_141 (by decide) ?_
  exact hg
theorem m_n_ {h : am_H} {f : Nat → Value} {len at_ rl rg z1 z2 z3 z4 z5 z6 tm td y1 y2 y3 y4 y5 y6 : Nat} (hH : rm_ok h) {n : Nat} (hn : n ≤ 5) : am_Good mi_139 2 [some (.ref 66), some (.retAddr n), some (.retAddr n)] [] (rm h f len at_ rl rg z1 z2 z3 z4 z5 z6 tm td y1 y2 y3 y4 y5 y6) (some (.retAddr 1), (rm h f len at_ rl rg z1 z2 z3 z4 z5 z6 tm td y1 y2 y3 y4 y5 y6)) := by
  refine g_iload_n (i := 2) dd_139_2 rfl ?_
  refine g_iload_n (i := 1) dd_139_3 rfl ?_
  refine g_icmp_ge_t (t := 144) dd_139_4 (by decide) (by first | exact sk_ge_t (by omega) (by omega) | exact tk_ge_t (by omega)) ?_
  refine g_iconst dd_139_144 ic_1 ?_
  exact g_zreturn rfl (by first | decide | omega) dd_139_145
/-- what is told behind readNumbers of the reference -/
def rd_rm (c : Nat → Nat) (len fr n b at_ td : Nat) : Prop := ((b = 1 ∧ rd_A c fr n ∧ at_ = rd_ps c fr n ∧ ∀ j, j < n → am_ag td j = rd_vl c (rd_ps c fr j)) ∨ (b = 0 ∧ ¬ rd_A c fr n)) ∧ (∀ j, j < 5 → am_ag td j ≤ 99) ∧ at_ ≤ len
theorem rd_noA1 {c : Nat → Nat} {p n k : Nat} (hk : k + 1 < n) (h : ¬ rd_Q c p 44 k) : ¬ rd_A c p n := fun q => h (q.1 k hk)
theorem rd_noA2 {c : Nat → Nat} {p n k : Nat} (hk : k + 1 = n) (h : ¬ rd_Q c p 59 k) : ¬ rd_A c p n := fun q => h (by have := q.2; rw [show n - 1 = k by omega] at this; exact this)
theorem m_nl {len rl rg z1 z2 z3 z4 z5 z6 tm y1 y2 y3 y4 y5 y6 : Nat} {n fr : Nat} (hlen : len ≤ 200) (hn : n ≤ 5) (hn1 : 1 ≤ n) (h126 : ∀ i, i < 200 → am_ag tm i ≤ 126) : ∀ (r k td : Nat), k + r = n → rd_ps (rd_c tm len) fr k ≤ len → (∀ j, j < k → (if j + 1 < n then rd_Q (rd_c tm len) fr 44 j else rd_Q (rd_c tm len) fr 59 j) ∧ am_ag td j = rd_vl (rd_c tm len) (rd_ps (rd_c tm len) fr j)) → (∀ j, j < 5 → am_ag td j ≤ 99) → ∃ b at' td', (∀ (h : am_H) (f : Nat → Value), rm_ok h → am_Good mi_139 2 [some (.ref 66), some (.retAddr n), some (.retAddr k)] [] (rm h f len (rd_ps (rd_c tm len) fr k) rl rg z1 z2 z3 z4 z5 z6 tm td y1 y2 y3 y4 y5 y6) (some (.retAddr b), (rm h f len (at') rl rg z1 z2 z3 z4 z5 z6 tm (td') y1 y2 y3 y4 y5 y6))) ∧ rd_rm (rd_c tm len) len fr n b at' td' := by
  intro r
  induction r with
  | zero =>
    intro k td e hl hQ h5
    have e' : k = n := by omega
    subst e'
    refine ⟨_, _, _, fun h f hH => m_n_ hH hn, Or.inl ⟨rfl, ⟨fun j hj => ?_, ?_⟩, rfl, fun j hj => (hQ j hj).2⟩, h5, hl⟩
    · have := (hQ j (by omega)).1
      rw [if_pos hj] at this
      exact this
    · have := (hQ (k - 1) (by omega)).1
      rw [if_neg (by omega)] at this
      exact this
  | succ r ih =>
    intro k td e hl hQ h5
    generalize hp : rd_ps (rd_c tm len) fr k = p at hl
    have Q0 : ∀ {s}, rd_Q (rd_c tm len) fr s k → rd_fg (rd_c tm len) p ∧ (rd_c tm len) (p + rd_nf (rd_c tm len) p) = s := fun q => by
      have q1 := q.1
      have q2 := q.2
      rw [hp] at q1 q2
      exact ⟨q1, q2⟩
    by_cases hf : rd_fg (rd_c tm len) p
    · have f0 := rd_fg_iff.mp hf
      have key : ∀ (fg v td1 : Nat), rd_nf (rd_c tm len) p = fg → rd_vl (rd_c tm len) p = v → v < 4294967296 → (∀ j, am_ag td1 j = if j = k then v else am_ag td j) → p + fg ≤ len →
          (¬ p + fg < len → ∃ at', (∀ (h : am_H) (f : Nat → Value), rm_ok h → am_Good mi_139 2 [some (.ref 66), some (.retAddr n), some (.retAddr k)] [] (rm h f len p rl rg z1 z2 z3 z4 z5 z6 tm td y1 y2 y3 y4 y5 y6) (some (.retAddr 0), (rm h f len (at') rl rg z1 z2 z3 z4 z5 z6 tm td1 y1 y2 y3 y4 y5 y6))) ∧ at' ≤ len) →
          (∀ s, p + fg < len → (k + 1 < n ∧ s = 44 ∨ k + 1 = n ∧ s = 59) → am_ag tm (p + fg) ≠ s → ∃ at', (∀ (h : am_H) (f : Nat → Value), rm_ok h → am_Good mi_139 2 [some (.ref 66), some (.retAddr n), some (.retAddr k)] [] (rm h f len p rl rg z1 z2 z3 z4 z5 z6 tm td y1 y2 y3 y4 y5 y6) (some (.retAddr 0), (rm h f len (at') rl rg z1 z2 z3 z4 z5 z6 tm td1 y1 y2 y3 y4 y5 y6))) ∧ at' ≤ len) →
          (∀ s (h : am_H) (f : Nat → Value) rr, rm_ok h → p + fg < len → (k + 1 < n ∧ s = 44 ∨ k + 1 = n ∧ s = 59) → am_ag tm (p + fg) = s → am_Good mi_139 2 [some (.ref 66), some (.retAddr n), some (.retAddr (k + 1))] [] (rm h f len (p + fg + 1) rl rg z1 z2 z3 z4 z5 z6 tm td1 y1 y2 y3 y4 y5 y6) rr → am_Good mi_139 2 [some (.ref 66), some (.retAddr n), some (.retAddr k)] [] (rm h f len p rl rg z1 z2 z3 z4 z5 z6 tm td y1 y2 y3 y4 y5 y6) rr) →
          ∃ b at' td', (∀ (h : am_H) (f : Nat → Value), rm_ok h → am_Good mi_139 2 [some (.ref 66), some (.retAddr n), some (.retAddr k)] [] (rm h f len p rl rg z1 z2 z3 z4 z5 z6 tm td y1 y2 y3 y4 y5 y6) (some (.retAddr b), (rm h f len (at') rl rg z1 z2 z3 z4 z5 z6 tm (td') y1 y2 y3 y4 y5 y6))) ∧ rd_rm (rd_c tm len) len fr n b at' td' := by
        intro fg v td1 hfg hv hv2 htd hle c1 c2 c3
        have h99 := rd_vl_99 hf
        have t5 : ∀ j, j < 5 → am_ag td1 j ≤ 99 := fun j hj => by
          rw [htd]
          by_cases q : j = k
          · rw [if_pos q]; omega
          · rw [if_neg q]; exact h5 j hj
        have bad : ∀ s, (k + 1 < n ∧ s = 44 ∨ k + 1 = n ∧ s = 59) → (rd_c tm len) (p + fg) ≠ s → ¬ rd_A (rd_c tm len) fr n := fun s hs hne => by
          rcases hs with ⟨q1, rfl⟩ | ⟨q1, rfl⟩
          · exact rd_noA1 q1 (fun q => hne (by have := (Q0 q).2; rw [hfg] at this; exact this))
          · exact rd_noA2 q1 (fun q => hne (by have := (Q0 q).2; rw [hfg] at this; exact this))
        obtain ⟨s, hs⟩ : ∃ s, (k + 1 < n ∧ s = 44 ∨ k + 1 = n ∧ s = 59) := by
          by_cases q : k + 1 < n
          · exact ⟨44, Or.inl ⟨q, rfl⟩⟩
          · exact ⟨59, Or.inr ⟨by omega, rfl⟩⟩
        by_cases hs1 : p + fg < len
        · have hc := rd_c_lt (tx := tm) hs1
          by_cases hs2 : am_ag tm (p + fg) = s
          · have pn : rd_ps (rd_c tm len) fr (k + 1) = p + fg + 1 := by
              show rd_ps (rd_c tm len) fr k + rd_nf (rd_c tm len) (rd_ps (rd_c tm len) fr k) + 1 = _
              rw [hp, hfg]
            obtain ⟨b, at', td', g1, g2⟩ := ih (k + 1) td1 (by omega) (by rw [pn]; omega) (fun j hj => by
              by_cases q : j = k
              · subst q
                refine ⟨?_, by rw [htd, if_pos rfl, hp]; exact hv.symm⟩
                have Qs : rd_Q (rd_c tm len) fr s j := by
                  refine ⟨by rw [hp]; exact hf, ?_⟩
                  rw [hp, hfg, hc]
                  exact hs2
                rcases hs with ⟨q1, rfl⟩ | ⟨q1, rfl⟩
                · rw [if_pos q1]; exact Qs
                · rw [if_neg (by omega)]; exact Qs
              · refine ⟨(hQ j (by omega)).1, ?_⟩
                rw [htd, if_neg q]
                exact (hQ j (by omega)).2) t5
            simp only [pn] at g1
            exact ⟨b, at', td', fun h f hH => c3 s h f _ hH hs1 hs hs2 (g1 h f hH), g2⟩
          · obtain ⟨at', g1, g2⟩ := c2 s hs1 hs hs2
            exact ⟨_, _, _, g1, Or.inr ⟨rfl, bad s hs (by rw [hc]; exact hs2)⟩, t5, g2⟩
        · obtain ⟨at', g1, g2⟩ := c1 hs1
          refine ⟨_, _, _, g1, Or.inr ⟨rfl, bad s hs ?_⟩, t5, g2⟩
          rw [rd_c_ge hs1]
          rcases hs with ⟨q1, rfl⟩ | ⟨q1, rfl⟩ <;> decide
      by_cases hf1 : rd_fg (rd_c tm len) (p + 1)
      · have f1 := rd_fg_iff.mp hf1
        refine key 2 (10 * (am_ag tm p - 48) + am_ag tm (p + 1) - 48) (am_as (am_as td k (am_ag tm p - 48)) k (10 * (am_ag tm p - 48) + am_ag tm (p + 1) - 48)) (rd_nf_2 hf hf1) ?_ (by omega) (fun j => ?_) (by omega) (fun q => ?_) (fun s q hs hne => ?_) (fun s h f rr hH q hs he g => ?_)
        · unfold rd_vl
          rw [if_pos hf1, rd_c_lt f0.1, rd_c_lt f1.1]
          omega
        · rw [am_ag_as]
          by_cases q : j = k
          · rw [if_pos q, if_pos q, Nat.mod_eq_of_lt (by omega)]
          · rw [if_neg q, if_neg q, am_ag_as, if_neg q]
        · by_cases kk : k + 1 < n
          · exact ⟨_, fun h f hH => m_n20e hH hlen hn h126 f0.2 f1.2 q (by omega) kk, by omega⟩
          · exact ⟨_, fun h f hH => m_n21e hH hlen hn h126 f0.2 f1.2 q (by omega) (by omega), by omega⟩
        · rcases hs with ⟨q1, rfl⟩ | ⟨q1, rfl⟩
          · exact ⟨_, fun h f hH => m_n20x hH hlen hn h126 f0.2 f1.2 q q1 hne, by omega⟩
          · exact ⟨_, fun h f hH => m_n21x hH hlen hn h126 f0.2 f1.2 q q1 hne, by omega⟩
        · rcases hs with ⟨q1, rfl⟩ | ⟨q1, rfl⟩
          · exact m_n20g hH hlen hn h126 f0.2 f1.2 q q1 he g
          · exact m_n21g hH hlen hn h126 f0.2 f1.2 q q1 he g
      · refine key 1 (am_ag tm p - 48) (am_as td k (am_ag tm p - 48)) (rd_nf_1 hf hf1) ?_ (by omega) (fun j => ?_) (by omega) (fun q => ?_) (fun s q hs hne => ?_) (fun s h f rr hH q hs he g => ?_)
        · unfold rd_vl
          rw [if_neg hf1, rd_c_lt f0.1]
        · rw [am_ag_as]
          by_cases q : j = k
          · rw [if_pos q, if_pos q, Nat.mod_eq_of_lt (by omega)]
          · rw [if_neg q, if_neg q]
        · by_cases kk : k + 1 < n
          · exact ⟨_, fun h f hH => m_n10e hH hlen hn h126 f0.2 q (by omega) kk, by omega⟩
          · exact ⟨_, fun h f hH => m_n11e hH hlen hn h126 f0.2 q (by omega) (by omega), by omega⟩
        · have n1 : ¬ (48 ≤ am_ag tm (p + 1) ∧ am_ag tm (p + 1) ≤ 57) := fun z => hf1 (rd_fg_iff.mpr ⟨q, z⟩)
          rcases hs with ⟨q1, rfl⟩ | ⟨q1, rfl⟩
          · exact ⟨_, fun h f hH => m_n10x hH hlen hn h126 f0.2 n1 q q1 hne, by omega⟩
          · exact ⟨_, fun h f hH => m_n11x hH hlen hn h126 f0.2 n1 q q1 hne, by omega⟩
        · have n1 : ¬ (48 ≤ am_ag tm (p + 1) ∧ am_ag tm (p + 1) ≤ 57) := fun z => hf1 (rd_fg_iff.mpr ⟨q, z⟩)
          rcases hs with ⟨q1, rfl⟩ | ⟨q1, rfl⟩
          · exact m_n10g hH hlen hn h126 f0.2 n1 q q1 he g
          · exact m_n11g hH hlen hn h126 f0.2 n1 q q1 he g
    · have nA : ¬ rd_A (rd_c tm len) fr n := by
        by_cases kk : k + 1 < n
        · exact rd_noA1 kk (fun q => hf (Q0 q).1)
        · exact rd_noA2 (by omega) (fun q => hf (Q0 q).1)
      by_cases hs : p < len
      · have n1 : ¬ (48 ≤ am_ag tm p ∧ am_ag tm p ≤ 57) := fun z => hf (rd_fg_iff.mpr ⟨hs, z⟩)
        exact ⟨_, _, _, fun h f hH => m_z2 hH hlen hn h126 n1 hs (by omega), Or.inr ⟨rfl, nA⟩, h5, hl⟩
      · exact ⟨_, _, _, fun h f hH => m_z1 hH hlen hn h126 hs hl (by omega), Or.inr ⟨rfl, nA⟩, h5, hl⟩
theorem m_rn {len at_ rl rg z1 z2 z3 z4 z5 z6 tm td y1 y2 y3 y4 y5 y6 : Nat} {n : Nat} (hlen : len ≤ 200) (hn : n ≤ 5) (hn1 : 1 ≤ n) (h126 : ∀ i, i < 200 → am_ag tm i ≤ 126) (hat : at_ ≤ len) (h5 : ∀ j, j < 5 → am_ag td j ≤ 99) : ∃ b at' td', (∀ (h : am_H) (f : Nat → Value), rm_ok h → am_EG mi_139 [.ref 66, .retAddr n] (rm h f len at_ rl rg z1 z2 z3 z4 z5 z6 tm td y1 y2 y3 y4 y5 y6) (some (.retAddr b), (rm h f len (at') rl rg z1 z2 z3 z4 z5 z6 tm (td') y1 y2 y3 y4 y5 y6))) ∧ rd_rm (rd_c tm len) len at_ n b at' td' := by
  obtain ⟨b, at', td', q, g⟩ := m_nl (fr := at_) (rl := rl) (rg := rg) (z1 := z1) (z2 := z2) (z3 := z3) (z4 := z4) (z5 := z5) (z6 := z6) (y1 := y1) (y2 := y2) (y3 := y3) (y4 := y4) (y5 := y5) (y6 := y6) hlen hn hn1 h126 n 0 td (by omega) hat (fun j hj => absurd hj (Nat.not_lt_zero _)) h5
  refine ⟨b, at', td', fun h f hH => ?_, g⟩
  have q := q h f hH
  refine am_enter (n := 1) tk_139.2.1 (by simp [Value.category]) (Nat.le_of_ble_eq_true rfl) ?_
  show am_Good mi_139 0 [some (.ref 66), some (.retAddr n), none] [] (rm h f len at_ rl rg z1 z2 z3 z4 z5 z6 tm td y1 y2 y3 y4 y5 y6) _
  refine g_iconst dd_139_0 ic_0 ?_
  refine g_istore_n (i := 2) dd_139_1 (am_nlb_ok rfl) (by decide) ?_
  exact q
