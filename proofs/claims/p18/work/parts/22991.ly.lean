/-! ===== lay: both ===== -/
theorem put_ga {h : am_H} {a la x x' : Nat} (ha : am_get h a = some (.inl (0, la, x))) : am_get (am_upd h a (.inl (0, la, x'))) a = some (.inl (0, la, x')) := by rw [am_get_upd ha, if_pos rfl]
theorem put_gb {h : am_H} {a b la lb x x' y : Nat} (ha : am_get h a = some (.inl (0, la, x))) (hb : am_get h b = some (.inl (0, lb, y))) (ne : a ≠ b) : am_get (am_upd h a (.inl (0, la, x'))) b = some (.inl (0, lb, y)) := by rw [am_get_upd ha, if_neg (Ne.symm ne)]; exact hb
theorem put_s {h : am_H} {a b la lb x y n : Nat} (ha : am_get h a = some (.inl (0, la, x))) (hb : am_get h b = some (.inl (0, lb, y))) (ne : a ≠ b) (hla : la ≤ 1000) (hlb : lb ≤ 1000) (hn : n ≤ la) (hn2 : n ≤ lb) {X k : Nat} (hk : k < n) {r : am_R} (hg : am_Good mi_145 3 [some (.ref a), some (.retAddr 0), some (.ref b), some (.retAddr n), some (.retAddr (k + 1))] [] (am_upd h a (.inl (0, la, am_as X k (am_ag y k)))) r) : am_Good mi_145 3 [some (.ref a), some (.retAddr 0), some (.ref b), some (.retAddr n), some (.retAddr k)] [] (am_upd h a (.inl (0, la, X))) r := by
  refine g_iload dd_145_3 rfl ?_
  refine g_iload_n (i := 3) dd_145_5 rfl ?_
  refine g_icmp_ge_f (t := 25) dd_145_6 (by decide) (by first | exact sk_ge_f (by omega) (by omega) | exact tk_ge_f (by omega)) ?_
  refine g_aload_n (i := 0) dd_145_9 rfl ?_
  refine g_iload_n (i := 1) dd_145_10 rfl ?_
  refine g_iload dd_145_11 rfl ?_
  refine e_iadd (v := k) dd_145_13 (by omega) ?_
  refine g_aload_n (i := 2) dd_145_14 rfl ?_
  refine g_iload dd_145_15 rfl ?_
  refine g_iaload dd_145_17 (put_gb ha hb ne) (by omega) (by omega) ?_
  have hl_1 := am_ag_lt y k
  refine g_iastore dd_145_18 (put_ga ha) (by omega) (by omega) ?_
  refine am_heq (jm_upd_upd ha) ?_
  show am_Good mi_145 19 [some (.ref a), some (.retAddr 0), some (.ref b), some (.retAddr n), some (.retAddr k)] [] (am_upd h a (.inl (0, la, am_as X k (am_ag y k)))) _
  refine e_iinc (v := 1) (w := k + 1) dd_145_19 rfl ic_1 (am_nlb_ok rfl) (by decide) (by omega) ?_
  refine g_goto (t := 3) dd_145_22 (by decide) ?_
  exact hg
theorem put_e {h : am_H} {a b la lb x y n : Nat} (ha : am_get h a = some (.inl (0, la, x))) (hb : am_get h b = some (.inl (0, lb, y))) (ne : a ≠ b) (hla : la ≤ 1000) (hlb : lb ≤ 1000) (hn : n ≤ la) (hn2 : n ≤ lb) {X : Nat} : am_Good mi_145 3 [some (.ref a), some (.retAddr 0), some (.ref b), some (.retAddr n), some (.retAddr n)] [] (am_upd h a (.inl (0, la, X))) (none, (am_upd h a (.inl (0, la, X)))) := by
  refine g_iload dd_145_3 rfl ?_
  refine g_iload_n (i := 3) dd_145_5 rfl ?_
  refine g_icmp_ge_t (t := 25) dd_145_6 (by decide) (by first | exact sk_ge_t (by omega) (by omega) | exact tk_ge_t (by omega)) ?_
  exact g_return rfl dd_145_25
theorem put_l {h : am_H} {a b la lb x y n : Nat} (ha : am_get h a = some (.inl (0, la, x))) (hb : am_get h b = some (.inl (0, lb, y))) (ne : a ≠ b) (hla : la ≤ 1000) (hlb : lb ≤ 1000) (hn : n ≤ la) (hn2 : n ≤ lb) : ∀ (r k : Nat), k + r = n → am_Good mi_145 3 [some (.ref a), some (.retAddr 0), some (.ref b), some (.retAddr n), some (.retAddr k)] [] (am_upd h a (.inl (0, la, rd_pt x y 0 k))) (none, am_upd h a (.inl (0, la, rd_pt x y 0 n)))
  | 0, k, e => by
    have e' : k = n := by omega
    subst e'
    exact put_e ha hb ne hla hlb hn hn2
  | r + 1, k, e => by
    have q := put_l ha hb ne hla hlb hn hn2 r (k + 1) (by omega)
    rw [show rd_pt x y 0 (k + 1) = am_as (rd_pt x y 0 k) k (am_ag y k) from by show am_as _ (0 + k) _ = _; rw [Nat.zero_add]] at q
    exact put_s ha hb ne hla hlb hn hn2 (by omega) q
theorem put_g {h : am_H} {a b la lb x y n : Nat} (ha : am_get h a = some (.inl (0, la, x))) (hb : am_get h b = some (.inl (0, lb, y))) (ne : a ≠ b) (hla : la ≤ 1000) (hlb : lb ≤ 1000) (hn : n ≤ la) (hn2 : n ≤ lb) : am_EG mi_145 [.ref a, .retAddr 0, .ref b, .retAddr n] h (none, am_upd h a (.inl (0, la, rd_pt x y 0 n))) := by
  have q := put_l ha hb ne hla hlb hn hn2 n 0 (by omega)
  rw [show rd_pt x y 0 0 = x from rfl, jm_upd_self ha] at q
  refine am_enter (n := 1) tk_145.2.1 (by simp [Value.category]) (Nat.le_of_ble_eq_true rfl) ?_
  show am_Good mi_145 0 [some (.ref a), some (.retAddr 0), some (.ref b), some (.retAddr n), none] [] h _
  refine g_iconst dd_145_0 ic_0 ?_
  refine g_istore dd_145_1 (am_nlb_ok rfl) (by decide) ?_
  exact q
def rl (h : am_H) (f : Nat → Value) (l0 l1 l2 l4 l6 l8 l10 l12 rl_ rg z1 z2 z3 z4 z5 z6 fm gs ac kp w1 w2 w3 w4 w5 w6 y1 y2 y3 y4 y5 y6 : Nat) : am_H := am_ups h [(66, .inr (12, [.retAddr l0, .retAddr l1, .retAddr l2, .ref 67, .retAddr l4, .ref 68, .retAddr l6, .ref 69, .retAddr l8, .ref 70, .retAddr l10, .ref 71, .retAddr l12, .ref 72, .ref 73, f 15, f 16, .ref 74, .retAddr rl_, .retAddr rg, .retAddr z1, .ref 75, .retAddr z2, .ref 76, .retAddr z3, .ref 77, .retAddr z4, .ref 78, .retAddr z5, .ref 79, .retAddr z6, .ref 80, .ref 81, .ref 82, .ref 83, .ref 84, f 36, f 37, f 38, .retAddr fm, .retAddr gs, .ref 85, .retAddr ac, .ref 86, f 44, .ref 87, .ref 88, .ref 89, f 48, f 49, f 50, .ref 90, .ref 91, .retAddr kp, .ref 92])), (67, .inl (0, 4, w1)), (68, .inl (0, 45, w2)), (69, .inl (0, 18, w3)), (70, .inl (0, 16, w4)), (71, .inl (0, 18, w5)), (72, .inl (0, 8, w6)), (75, .inl (0, 4, y1)), (76, .inl (0, 45, y2)), (77, .inl (0, 18, y3)), (78, .inl (0, 16, y4)), (79, .inl (0, 18, y5)), (80, .inl (0, 8, y6))]
def rl_ok (h : am_H) : Prop := am_ke h [66, 67, 68, 69, 70, 71, 72, 75, 76, 77, 78, 79, 80]
theorem rl_g66 {h : am_H} {f : Nat → Value} {l0 l1 l2 l4 l6 l8 l10 l12 rl_ rg z1 z2 z3 z4 z5 z6 fm gs ac kp w1 w2 w3 w4 w5 w6 y1 y2 y3 y4 y5 y6 : Nat} (hH : rl_ok h) : am_get (rl h f l0 l1 l2 l4 l6 l8 l10 l12 rl_ rg z1 z2 z3 z4 z5 z6 fm gs ac kp w1 w2 w3 w4 w5 w6 y1 y2 y3 y4 y5 y6) 66 = some (.inr (12, [.retAddr l0, .retAddr l1, .retAddr l2, .ref 67, .retAddr l4, .ref 68, .retAddr l6, .ref 69, .retAddr l8, .ref 70, .retAddr l10, .ref 71, .retAddr l12, .ref 72, .ref 73, f 15, f 16, .ref 74, .retAddr rl_, .retAddr rg, .retAddr z1, .ref 75, .retAddr z2, .ref 76, .retAddr z3, .ref 77, .retAddr z4, .ref 78, .retAddr z5, .ref 79, .retAddr z6, .ref 80, .ref 81, .ref 82, .ref 83, .ref 84, f 36, f 37, f 38, .retAddr fm, .retAddr gs, .ref 85, .retAddr ac, .ref 86, f 44, .ref 87, .ref 88, .ref 89, f 48, f 49, f 50, .ref 90, .ref 91, .retAddr kp, .ref 92])) := am_ups_g hH rfl
theorem rl_u66 {h : am_H} {f : Nat → Value} {l0 l1 l2 l4 l6 l8 l10 l12 rl_ rg z1 z2 z3 z4 z5 z6 fm gs ac kp w1 w2 w3 w4 w5 w6 y1 y2 y3 y4 y5 y6 : Nat} (hH : rl_ok h) {l0' l1' l2' l4' l6' l8' l10' l12' rl_' rg' z1' z2' z3' z4' z5' z6' fm' gs' ac' kp' : Nat} : am_upd (rl h f l0 l1 l2 l4 l6 l8 l10 l12 rl_ rg z1 z2 z3 z4 z5 z6 fm gs ac kp w1 w2 w3 w4 w5 w6 y1 y2 y3 y4 y5 y6) 66 (.inr (12, [.retAddr l0', .retAddr l1', .retAddr l2', .ref 67, .retAddr l4', .ref 68, .retAddr l6', .ref 69, .retAddr l8', .ref 70, .retAddr l10', .ref 71, .retAddr l12', .ref 72, .ref 73, f 15, f 16, .ref 74, .retAddr rl_', .retAddr rg', .retAddr z1', .ref 75, .retAddr z2', .ref 76, .retAddr z3', .ref 77, .retAddr z4', .ref 78, .retAddr z5', .ref 79, .retAddr z6', .ref 80, .ref 81, .ref 82, .ref 83, .ref 84, f 36, f 37, f 38, .retAddr fm', .retAddr gs', .ref 85, .retAddr ac', .ref 86, f 44, .ref 87, .ref 88, .ref 89, f 48, f 49, f 50, .ref 90, .ref 91, .retAddr kp', .ref 92])) = (rl h f l0' l1' l2' l4' l6' l8' l10' l12' rl_' rg' z1' z2' z3' z4' z5' z6' fm' gs' ac' kp' w1 w2 w3 w4 w5 w6 y1 y2 y3 y4 y5 y6) := by
  unfold rl
  refine am_upd_ups ?_ ⟨rfl, rfl⟩
  exact hH
theorem rl_g67 {h : am_H} {f : Nat → Value} {l0 l1 l2 l4 l6 l8 l10 l12 rl_ rg z1 z2 z3 z4 z5 z6 fm gs ac kp w1 w2 w3 w4 w5 w6 y1 y2 y3 y4 y5 y6 : Nat} (hH : rl_ok h) : am_get (rl h f l0 l1 l2 l4 l6 l8 l10 l12 rl_ rg z1 z2 z3 z4 z5 z6 fm gs ac kp w1 w2 w3 w4 w5 w6 y1 y2 y3 y4 y5 y6) 67 = some (.inl (0, 4, w1)) := am_ups_g hH rfl
theorem rl_u67 {h : am_H} {f : Nat → Value} {l0 l1 l2 l4 l6 l8 l10 l12 rl_ rg z1 z2 z3 z4 z5 z6 fm gs ac kp w1 w2 w3 w4 w5 w6 y1 y2 y3 y4 y5 y6 : Nat} (hH : rl_ok h) {w1' : Nat} : am_upd (rl h f l0 l1 l2 l4 l6 l8 l10 l12 rl_ rg z1 z2 z3 z4 z5 z6 fm gs ac kp w1 w2 w3 w4 w5 w6 y1 y2 y3 y4 y5 y6) 67 (.inl (0, 4, w1')) = (rl h f l0 l1 l2 l4 l6 l8 l10 l12 rl_ rg z1 z2 z3 z4 z5 z6 fm gs ac kp w1' w2 w3 w4 w5 w6 y1 y2 y3 y4 y5 y6) := by
  unfold rl
  refine am_upd_ups ?_ ⟨rfl, rfl⟩
  exact hH
theorem rl_g68 {h : am_H} {f : Nat → Value} {l0 l1 l2 l4 l6 l8 l10 l12 rl_ rg z1 z2 z3 z4 z5 z6 fm gs ac kp w1 w2 w3 w4 w5 w6 y1 y2 y3 y4 y5 y6 : Nat} (hH : rl_ok h) : am_get (rl h f l0 l1 l2 l4 l6 l8 l10 l12 rl_ rg z1 z2 z3 z4 z5 z6 fm gs ac kp w1 w2 w3 w4 w5 w6 y1 y2 y3 y4 y5 y6) 68 = some (.inl (0, 45, w2)) := am_ups_g hH rfl
theorem rl_u68 {h : am_H} {f : Nat → Value} {l0 l1 l2 l4 l6 l8 l10 l12 rl_ rg z1 z2 z3 z4 z5 z6 fm gs ac kp w1 w2 w3 w4 w5 w6 y1 y2 y3 y4 y5 y6 : Nat} (hH : rl_ok h) {w2' : Nat} : am_upd (rl h f l0 l1 l2 l4 l6 l8 l10 l12 rl_ rg z1 z2 z3 z4 z5 z6 fm gs ac kp w1 w2 w3 w4 w5 w6 y1 y2 y3 y4 y5 y6) 68 (.inl (0, 45, w2')) = (rl h f l0 l1 l2 l4 l6 l8 l10 l12 rl_ rg z1 z2 z3 z4 z5 z6 fm gs ac kp w1 w2' w3 w4 w5 w6 y1 y2 y3 y4 y5 y6) := by
  unfold rl
  refine am_upd_ups ?_ ⟨rfl, rfl⟩
  exact hH
theorem rl_g69 {h : am_H} {f : Nat → Value} {l0 l1 l2 l4 l6 l8 l10 l12 rl_ rg z1 z2 z3 z4 z5 z6 fm gs ac kp w1 w2 w3 w4 w5 w6 y1 y2 y3 y4 y5 y6 : Nat} (hH : rl_ok h) : am_get (rl h f l0 l1 l2 l4 l6 l8 l10 l12 rl_ rg z1 z2 z3 z4 z5 z6 fm gs ac kp w1 w2 w3 w4 w5 w6 y1 y2 y3 y4 y5 y6) 69 = some (.inl (0, 18, w3)) := am_ups_g hH rfl
theorem rl_u69 {h : am_H} {f : Nat → Value} {l0 l1 l2 l4 l6 l8 l10 l12 rl_ rg z1 z2 z3 z4 z5 z6 fm gs ac kp w1 w2 w3 w4 w5 w6 y1 y2 y3 y4 y5 y6 : Nat} (hH : rl_ok h) {w3' : Nat} : am_upd (rl h f l0 l1 l2 l4 l6 l8 l10 l12 rl_ rg z1 z2 z3 z4 z5 z6 fm gs ac kp w1 w2 w3 w4 w5 w6 y1 y2 y3 y4 y5 y6) 69 (.inl (0, 18, w3')) = (rl h f l0 l1 l2 l4 l6 l8 l10 l12 rl_ rg z1 z2 z3 z4 z5 z6 fm gs ac kp w1 w2 w3' w4 w5 w6 y1 y2 y3 y4 y5 y6) := by
  unfold rl
  refine am_upd_ups ?_ ⟨rfl, rfl⟩
  exact hH
theorem rl_g70 {h : am_H} {f : Nat → Value} {l0 l1 l2 l4 l6 l8 l10 l12 rl_ rg z1 z2 z3 z4 z5 z6 fm gs ac kp w1 w2 w3 w4 w5 w6 y1 y2 y3 y4 y5 y6 : Nat} (hH : rl_ok h) : am_get (rl h f l0 l1 l2 l4 l6 l8 l10 l12 rl_ rg z1 z2 z3 z4 z5 z6 fm gs ac kp w1 w2 w3 w4 w5 w6 y1 y2 y3 y4 y5 y6) 70 = some (.inl (0, 16, w4)) := am_ups_g hH rfl
theorem rl_u70 {h : am_H} {f : Nat → Value} {l0 l1 l2 l4 l6 l8 l10 l12 rl_ rg z1 z2 z3 z4 z5 z6 fm gs ac kp w1 w2 w3 w4 w5 w6 y1 y2 y3 y4 y5 y6 : Nat} (hH : rl_ok h) {w4' : Nat} : am_upd (rl h f l0 l1 l2 l4 l6 l8 l10 l12 rl_ rg z1 z2 z3 z4 z5 z6 fm gs ac kp w1 w2 w3 w4 w5 w6 y1 y2 y3 y4 y5 y6) 70 (.inl (0, 16, w4')) = (rl h f l0 l1 l2 l4 l6 l8 l10 l12 rl_ rg z1 z2 z3 z4 z5 z6 fm gs ac kp w1 w2 w3 w4' w5 w6 y1 y2 y3 y4 y5 y6) := by
  unfold rl
  refine am_upd_ups ?_ ⟨rfl, rfl⟩
  exact hH
theorem rl_g71 {h : am_H} {f : Nat → Value} {l0 l1 l2 l4 l6 l8 l10 l12 rl_ rg z1 z2 z3 z4 z5 z6 fm gs ac kp w1 w2 w3 w4 w5 w6 y1 y2 y3 y4 y5 y6 : Nat} (hH : rl_ok h) : am_get (rl h f l0 l1 l2 l4 l6 l8 l10 l12 rl_ rg z1 z2 z3 z4 z5 z6 fm gs ac kp w1 w2 w3 w4 w5 w6 y1 y2 y3 y4 y5 y6) 71 = some (.inl (0, 18, w5)) := am_ups_g hH rfl
theorem rl_u71 {h : am_H} {f : Nat → Value} {l0 l1 l2 l4 l6 l8 l10 l12 rl_ rg z1 z2 z3 z4 z5 z6 fm gs ac kp w1 w2 w3 w4 w5 w6 y1 y2 y3 y4 y5 y6 : Nat} (hH : rl_ok h) {w5' : Nat} : am_upd (rl h f l0 l1 l2 l4 l6 l8 l10 l12 rl_ rg z1 z2 z3 z4 z5 z6 fm gs ac kp w1 w2 w3 w4 w5 w6 y1 y2 y3 y4 y5 y6) 71 (.inl (0, 18, w5')) = (rl h f l0 l1 l2 l4 l6 l8 l10 l12 rl_ rg z1 z2 z3 z4 z5 z6 fm gs ac kp w1 w2 w3 w4 w5' w6 y1 y2 y3 y4 y5 y6) := by
  unfold rl
  refine am_upd_ups ?_ ⟨rfl, rfl⟩
  exact hH
theorem rl_g72 {h : am_H} {f : Nat → Value} {l0 l1 l2 l4 l6 l8 l10 l12 rl_ rg z1 z2 z3 z4 z5 z6 fm gs ac kp w1 w2 w3 w4 w5 w6 y1 y2 y3 y4 y5 y6 : Nat} (hH : rl_ok h) : am_get (rl h f l0 l1 l2 l4 l6 l8 l10 l12 rl_ rg z1 z2 z3 z4 z5 z6 fm gs ac kp w1 w2 w3 w4 w5 w6 y1 y2 y3 y4 y5 y6) 72 = some (.inl (0, 8, w6)) := am_ups_g hH rfl
theorem rl_u72 {h : am_H} {f : Nat → Value} {l0 l1 l2 l4 l6 l8 l10 l12 rl_ rg z1 z2 z3 z4 z5 z6 fm gs ac kp w1 w2 w3 w4 w5 w6 y1 y2 y3 y4 y5 y6 : Nat} (hH : rl_ok h) {w6' : Nat} : am_upd (rl h f l0 l1 l2 l4 l6 l8 l10 l12 rl_ rg z1 z2 z3 z4 z5 z6 fm gs ac kp w1 w2 w3 w4 w5 w6 y1 y2 y3 y4 y5 y6) 72 (.inl (0, 8, w6')) = (rl h f l0 l1 l2 l4 l6 l8 l10 l12 rl_ rg z1 z2 z3 z4 z5 z6 fm gs ac kp w1 w2 w3 w4 w5 w6' y1 y2 y3 y4 y5 y6) := by
  unfold rl
  refine am_upd_ups ?_ ⟨rfl, rfl⟩
  exact hH
theorem rl_g75 {h : am_H} {f : Nat → Value} {l0 l1 l2 l4 l6 l8 l10 l12 rl_ rg z1 z2 z3 z4 z5 z6 fm gs ac kp w1 w2 w3 w4 w5 w6 y1 y2 y3 y4 y5 y6 : Nat} (hH : rl_ok h) : am_get (rl h f l0 l1 l2 l4 l6 l8 l10 l12 rl_ rg z1 z2 z3 z4 z5 z6 fm gs ac kp w1 w2 w3 w4 w5 w6 y1 y2 y3 y4 y5 y6) 75 = some (.inl (0, 4, y1)) := am_ups_g hH rfl
theorem rl_u75 {h : am_H} {f : Nat → Value} {l0 l1 l2 l4 l6 l8 l10 l12 rl_ rg z1 z2 z3 z4 z5 z6 fm gs ac kp w1 w2 w3 w4 w5 w6 y1 y2 y3 y4 y5 y6 : Nat} (hH : rl_ok h) {y1' : Nat} : am_upd (rl h f l0 l1 l2 l4 l6 l8 l10 l12 rl_ rg z1 z2 z3 z4 z5 z6 fm gs ac kp w1 w2 w3 w4 w5 w6 y1 y2 y3 y4 y5 y6) 75 (.inl (0, 4, y1')) = (rl h f l0 l1 l2 l4 l6 l8 l10 l12 rl_ rg z1 z2 z3 z4 z5 z6 fm gs ac kp w1 w2 w3 w4 w5 w6 y1' y2 y3 y4 y5 y6) := by
  unfold rl
  refine am_upd_ups ?_ ⟨rfl, rfl⟩
  exact hH
theorem rl_g76 {h : am_H} {f : Nat → Value} {l0 l1 l2 l4 l6 l8 l10 l12 rl_ rg z1 z2 z3 z4 z5 z6 fm gs ac kp w1 w2 w3 w4 w5 w6 y1 y2 y3 y4 y5 y6 : Nat} (hH : rl_ok h) : am_get (rl h f l0 l1 l2 l4 l6 l8 l10 l12 rl_ rg z1 z2 z3 z4 z5 z6 fm gs ac kp w1 w2 w3 w4 w5 w6 y1 y2 y3 y4 y5 y6) 76 = some (.inl (0, 45, y2)) := am_ups_g hH rfl
theorem rl_u76 {h : am_H} {f : Nat → Value} {l0 l1 l2 l4 l6 l8 l10 l12 rl_ rg z1 z2 z3 z4 z5 z6 fm gs ac kp w1 w2 w3 w4 w5 w6 y1 y2 y3 y4 y5 y6 : Nat} (hH : rl_ok h) {y2' : Nat} : am_upd (rl h f l0 l1 l2 l4 l6 l8 l10 l12 rl_ rg z1 z2 z3 z4 z5 z6 fm gs ac kp w1 w2 w3 w4 w5 w6 y1 y2 y3 y4 y5 y6) 76 (.inl (0, 45, y2')) = (rl h f l0 l1 l2 l4 l6 l8 l10 l12 rl_ rg z1 z2 z3 z4 z5 z6 fm gs ac kp w1 w2 w3 w4 w5 w6 y1 y2' y3 y4 y5 y6) := by
  unfold rl
  refine am_upd_ups ?_ ⟨rfl, rfl⟩
  exact hH
theorem rl_g77 {h : am_H} {f : Nat → Value} {l0 l1 l2 l4 l6 l8 l10 l12 rl_ rg z1 z2 z3 z4 z5 z6 fm gs ac kp w1 w2 w3 w4 w5 w6 y1 y2 y3 y4 y5 y6 : Nat} (hH : rl_ok h) : am_get (rl h f l0 l1 l2 l4 l6 l8 l10 l12 rl_ rg z1 z2 z3 z4 z5 z6 fm gs ac kp w1 w2 w3 w4 w5 w6 y1 y2 y3 y4 y5 y6) 77 = some (.inl (0, 18, y3)) := am_ups_g hH rfl
theorem rl_u77 {h : am_H} {f : Nat → Value} {l0 l1 l2 l4 l6 l8 l10 l12 rl_ rg z1 z2 z3 z4 z5 z6 fm gs ac kp w1 w2 w3 w4 w5 w6 y1 y2 y3 y4 y5 y6 : Nat} (hH : rl_ok h) {y3' : Nat} : am_upd (rl h f l0 l1 l2 l4 l6 l8 l10 l12 rl_ rg z1 z2 z3 z4 z5 z6 fm gs ac kp w1 w2 w3 w4 w5 w6 y1 y2 y3 y4 y5 y6) 77 (.inl (0, 18, y3')) = (rl h f l0 l1 l2 l4 l6 l8 l10 l12 rl_ rg z1 z2 z3 z4 z5 z6 fm gs ac kp w1 w2 w3 w4 w5 w6 y1 y2 y3' y4 y5 y6) := by
  unfold rl
  refine am_upd_ups ?_ ⟨rfl, rfl⟩
  exact hH
theorem rl_g78 {h : am_H} {f : Nat → Value} {l0 l1 l2 l4 l6 l8 l10 l12 rl_ rg z1 z2 z3 z4 z5 z6 fm gs ac kp w1 w2 w3 w4 w5 w6 y1 y2 y3 y4 y5 y6 : Nat} (hH : rl_ok h) : am_get (rl h f l0 l1 l2 l4 l6 l8 l10 l12 rl_ rg z1 z2 z3 z4 z5 z6 fm gs ac kp w1 w2 w3 w4 w5 w6 y1 y2 y3 y4 y5 y6) 78 = some (.inl (0, 16, y4)) := am_ups_g hH rfl
theorem rl_u78 {h : am_H} {f : Nat → Value} {l0 l1 l2 l4 l6 l8 l10 l12 rl_ rg z1 z2 z3 z4 z5 z6 fm gs ac kp w1 w2 w3 w4 w5 w6 y1 y2 y3 y4 y5 y6 : Nat} (hH : rl_ok h) {y4' : Nat} : am_upd (rl h f l0 l1 l2 l4 l6 l8 l10 l12 rl_ rg z1 z2 z3 z4 z5 z6 fm gs ac kp w1 w2 w3 w4 w5 w6 y1 y2 y3 y4 y5 y6) 78 (.inl (0, 16, y4')) = (rl h f l0 l1 l2 l4 l6 l8 l10 l12 rl_ rg z1 z2 z3 z4 z5 z6 fm gs ac kp w1 w2 w3 w4 w5 w6 y1 y2 y3 y4' y5 y6) := by
  unfold rl
  refine am_upd_ups ?_ ⟨rfl, rfl⟩
  exact hH
theorem rl_g79 {h : am_H} {f : Nat → Value} {l0 l1 l2 l4 l6 l8 l10 l12 rl_ rg z1 z2 z3 z4 z5 z6 fm gs ac kp w1 w2 w3 w4 w5 w6 y1 y2 y3 y4 y5 y6 : Nat} (hH : rl_ok h) : am_get (rl h f l0 l1 l2 l4 l6 l8 l10 l12 rl_ rg z1 z2 z3 z4 z5 z6 fm gs ac kp w1 w2 w3 w4 w5 w6 y1 y2 y3 y4 y5 y6) 79 = some (.inl (0, 18, y5)) := am_ups_g hH rfl
theorem rl_u79 {h : am_H} {f : Nat → Value} {l0 l1 l2 l4 l6 l8 l10 l12 rl_ rg z1 z2 z3 z4 z5 z6 fm gs ac kp w1 w2 w3 w4 w5 w6 y1 y2 y3 y4 y5 y6 : Nat} (hH : rl_ok h) {y5' : Nat} : am_upd (rl h f l0 l1 l2 l4 l6 l8 l10 l12 rl_ rg z1 z2 z3 z4 z5 z6 fm gs ac kp w1 w2 w3 w4 w5 w6 y1 y2 y3 y4 y5 y6) 79 (.inl (0, 18, y5')) = (rl h f l0 l1 l2 l4 l6 l8 l10 l12 rl_ rg z1 z2 z3 z4 z5 z6 fm gs ac kp w1 w2 w3 w4 w5 w6 y1 y2 y3 y4 y5' y6) := by
  unfold rl
  refine am_upd_ups ?_ ⟨rfl, rfl⟩
  exact hH
theorem rl_g80 {h : am_H} {f : Nat → Value} {l0 l1 l2 l4 l6 l8 l10 l12 rl_ rg z1 z2 z3 z4 z5 z6 fm gs ac kp w1 w2 w3 w4 w5 w6 y1 y2 y3 y4 y5 y6 : Nat} (hH : rl_ok h) : am_get (rl h f l0 l1 l2 l4 l6 l8 l10 l12 rl_ rg z1 z2 z3 z4 z5 z6 fm gs ac kp w1 w2 w3 w4 w5 w6 y1 y2 y3 y4 y5 y6) 80 = some (.inl (0, 8, y6)) := am_ups_g hH rfl
theorem rl_u80 {h : am_H} {f : Nat → Value} {l0 l1 l2 l4 l6 l8 l10 l12 rl_ rg z1 z2 z3 z4 z5 z6 fm gs ac kp w1 w2 w3 w4 w5 w6 y1 y2 y3 y4 y5 y6 : Nat} (hH : rl_ok h) {y6' : Nat} : am_upd (rl h f l0 l1 l2 l4 l6 l8 l10 l12 rl_ rg z1 z2 z3 z4 z5 z6 fm gs ac kp w1 w2 w3 w4 w5 w6 y1 y2 y3 y4 y5 y6) 80 (.inl (0, 8, y6')) = (rl h f l0 l1 l2 l4 l6 l8 l10 l12 rl_ rg z1 z2 z3 z4 z5 z6 fm gs ac kp w1 w2 w3 w4 w5 w6 y1 y2 y3 y4 y5 y6') := by
  unfold rl
  refine am_upd_ups ?_ ⟨rfl, rfl⟩
  exact hH
theorem rl_o {h : am_H} {f : Nat → Value} {l0 l1 l2 l4 l6 l8 l10 l12 rl_ rg z1 z2 z3 z4 z5 z6 fm gs ac kp w1 w2 w3 w4 w5 w6 y1 y2 y3 y4 y5 y6 : Nat} (hH : rl_ok h) {a : Nat} (ha : am_lk [(66, am_e0), (67, am_e0), (68, am_e0), (69, am_e0), (70, am_e0), (71, am_e0), (72, am_e0), (75, am_e0), (76, am_e0), (77, am_e0), (78, am_e0), (79, am_e0), (80, am_e0)] a = none) : am_get (rl h f l0 l1 l2 l4 l6 l8 l10 l12 rl_ rg z1 z2 z3 z4 z5 z6 fm gs ac kp w1 w2 w3 w4 w5 w6 y1 y2 y3 y4 y5 y6) a = am_get h a := by
  unfold rl
  refine am_ups_n ?_ ?_
  · exact hH
  · exact (am_lk_k (by rfl)).mp ha
theorem ml_y {h : am_H} {f : Nat → Value} {l0 l1 l2 l4 l6 l8 l10 l12 rl_ rg z1 z2 z3 z4 z5 z6 fm gs ac kp w1 w2 w3 w4 w5 w6 y1 y2 y3 y4 y5 y6 res : Nat} (hH : rl_ok h) (hv : am_tc .ne res 4294967292 = false) (hz : am_tc .ne z1 0 = true) : am_Good mi_151 4 [some (.ref 66)] [.retAddr res] (rl h f l0 l1 l2 l4 l6 l8 l10 l12 rl_ rg z1 z2 z3 z4 z5 z6 fm gs ac kp w1 w2 w3 w4 w5 w6 y1 y2 y3 y4 y5 y6) (some (.retAddr z1), (rl h f rl_ rg z1 z2 z3 z4 z5 z6 rl_ rg z1 z2 z3 z4 z5 z6 0 0 0 0 (rd_pt w1 y1 0 4) (rd_pt w2 y2 0 45) (rd_pt w3 y3 0 18) (rd_pt w4 y4 0 16) (rd_pt w5 y5 0 18) (rd_pt w6 y6 0 8) y1 y2 y3 y4 y5 y6)) := by
  refine g_bipush dd_151_4 bi_m4 ?_
  refine g_icmp_ne_f (t := 16) dd_151_6 (by decide) hv ?_
  refine g_aload_n (i := 0) dd_151_9 rfl ?_
  refine g_getfield (k := 20) am_ck12 (by decide) (Or.inl w_955) dd_151_10 (rl_g66 hH) rfl ?_
  refine g_if_ne_t (t := 19) dd_151_13 (by decide) hz ?_
  refine g_aload_n (i := 0) dd_151_19 rfl ?_
  refine g_aload_n (i := 0) dd_151_20 rfl ?_
  refine g_getfield (k := 18) am_ck12 (by decide) (Or.inl w_953) dd_151_21 (rl_g66 hH) rfl ?_
  refine g_putfield (k := 0) am_ck12 (by decide) (Or.inl w_935) (Or.inl rfl) dd_151_24 (rl_g66 hH) (Nat.le_of_ble_eq_true rfl) trivial ?_
  refine am_heq (rl_u66 hH) ?_
  show am_Good mi_151 27 [some (.ref 66)] [] (rl h f rl_ l1 l2 l4 l6 l8 l10 l12 rl_ rg z1 z2 z3 z4 z5 z6 fm gs ac kp w1 w2 w3 w4 w5 w6 y1 y2 y3 y4 y5 y6) _
  refine g_aload_n (i := 0) dd_151_27 rfl ?_
  refine g_aload_n (i := 0) dd_151_28 rfl ?_
  refine g_getfield (k := 19) am_ck12 (by decide) (Or.inl w_954) dd_151_29 (rl_g66 hH) rfl ?_
  refine g_putfield (k := 1) am_ck12 (by decide) (Or.inl w_936) (Or.inl rfl) dd_151_32 (rl_g66 hH) (Nat.le_of_ble_eq_true rfl) trivial ?_
  refine am_heq (rl_u66 hH) ?_
  show am_Good mi_151 35 [some (.ref 66)] [] (rl h f rl_ rg l2 l4 l6 l8 l10 l12 rl_ rg z1 z2 z3 z4 z5 z6 fm gs ac kp w1 w2 w3 w4 w5 w6 y1 y2 y3 y4 y5 y6) _
  refine g_aload_n (i := 0) dd_151_35 rfl ?_
  refine g_aload_n (i := 0) dd_151_36 rfl ?_
  refine g_getfield (k := 20) am_ck12 (by decide) (Or.inl w_955) dd_151_37 (rl_g66 hH) rfl ?_
  refine g_putfield (k := 2) am_ck12 (by decide) (Or.inl w_937) (Or.inl rfl) dd_151_40 (rl_g66 hH) (Nat.le_of_ble_eq_true rfl) trivial ?_
  refine am_heq (rl_u66 hH) ?_
  show am_Good mi_151 43 [some (.ref 66)] [] (rl h f rl_ rg z1 l4 l6 l8 l10 l12 rl_ rg z1 z2 z3 z4 z5 z6 fm gs ac kp w1 w2 w3 w4 w5 w6 y1 y2 y3 y4 y5 y6) _
  refine g_aload_n (i := 0) dd_151_43 rfl ?_
  refine g_aload_n (i := 0) dd_151_44 rfl ?_
  refine g_getfield (k := 22) am_ck12 (by decide) (Or.inl w_957) dd_151_45 (rl_g66 hH) rfl ?_
  refine g_putfield (k := 4) am_ck12 (by decide) (Or.inl w_939) (Or.inl rfl) dd_151_48 (rl_g66 hH) (Nat.le_of_ble_eq_true rfl) trivial ?_
  refine am_heq (rl_u66 hH) ?_
  show am_Good mi_151 51 [some (.ref 66)] [] (rl h f rl_ rg z1 z2 l6 l8 l10 l12 rl_ rg z1 z2 z3 z4 z5 z6 fm gs ac kp w1 w2 w3 w4 w5 w6 y1 y2 y3 y4 y5 y6) _
  refine g_aload_n (i := 0) dd_151_51 rfl ?_
  refine g_aload_n (i := 0) dd_151_52 rfl ?_
  refine g_getfield (k := 24) am_ck12 (by decide) (Or.inl w_959) dd_151_53 (rl_g66 hH) rfl ?_
  refine g_putfield (k := 6) am_ck12 (by decide) (Or.inl w_941) (Or.inl rfl) dd_151_56 (rl_g66 hH) (Nat.le_of_ble_eq_true rfl) trivial ?_
  refine am_heq (rl_u66 hH) ?_
  show am_Good mi_151 59 [some (.ref 66)] [] (rl h f rl_ rg z1 z2 z3 l8 l10 l12 rl_ rg z1 z2 z3 z4 z5 z6 fm gs ac kp w1 w2 w3 w4 w5 w6 y1 y2 y3 y4 y5 y6) _
  refine g_aload_n (i := 0) dd_151_59 rfl ?_
  refine g_aload_n (i := 0) dd_151_60 rfl ?_
  refine g_getfield (k := 26) am_ck12 (by decide) (Or.inl w_961) dd_151_61 (rl_g66 hH) rfl ?_
  refine g_putfield (k := 8) am_ck12 (by decide) (Or.inl w_943) (Or.inl rfl) dd_151_64 (rl_g66 hH) (Nat.le_of_ble_eq_true rfl) trivial ?_
  refine am_heq (rl_u66 hH) ?_
  show am_Good mi_151 67 [some (.ref 66)] [] (rl h f rl_ rg z1 z2 z3 z4 l10 l12 rl_ rg z1 z2 z3 z4 z5 z6 fm gs ac kp w1 w2 w3 w4 w5 w6 y1 y2 y3 y4 y5 y6) _
  refine g_aload_n (i := 0) dd_151_67 rfl ?_
  refine g_aload_n (i := 0) dd_151_68 rfl ?_
  refine g_getfield (k := 28) am_ck12 (by decide) (Or.inl w_963) dd_151_69 (rl_g66 hH) rfl ?_
  refine g_putfield (k := 10) am_ck12 (by decide) (Or.inl w_945) (Or.inl rfl) dd_151_72 (rl_g66 hH) (Nat.le_of_ble_eq_true rfl) trivial ?_
  refine am_heq (rl_u66 hH) ?_
  show am_Good mi_151 75 [some (.ref 66)] [] (rl h f rl_ rg z1 z2 z3 z4 z5 l12 rl_ rg z1 z2 z3 z4 z5 z6 fm gs ac kp w1 w2 w3 w4 w5 w6 y1 y2 y3 y4 y5 y6) _
  refine g_aload_n (i := 0) dd_151_75 rfl ?_
  refine g_aload_n (i := 0) dd_151_76 rfl ?_
  refine g_getfield (k := 30) am_ck12 (by decide) (Or.inl w_965) dd_151_77 (rl_g66 hH) rfl ?_
  refine g_putfield (k := 12) am_ck12 (by decide) (Or.inl w_947) (Or.inl rfl) dd_151_80 (rl_g66 hH) (Nat.le_of_ble_eq_true rfl) trivial ?_
  refine am_heq (rl_u66 hH) ?_
  show am_Good mi_151 83 [some (.ref 66)] [] (rl h f rl_ rg z1 z2 z3 z4 z5 z6 rl_ rg z1 z2 z3 z4 z5 z6 fm gs ac kp w1 w2 w3 w4 w5 w6 y1 y2 y3 y4 y5 y6) _
  refine g_aload_n (i := 0) dd_151_83 rfl ?_
  refine g_getfield (k := 3) am_ck12 (by decide) (Or.inl w_938) dd_151_84 (rl_g66 hH) rfl ?_
  refine g_iconst dd_151_87 ic_0 ?_
  refine g_aload_n (i := 0) dd_151_88 rfl ?_
  refine g_getfield (k := 21) am_ck12 (by decide) (Or.inl w_956) dd_151_89 (rl_g66 hH) rfl ?_
  refine g_iconst dd_151_92 ic_4 ?_
  refine g_static (M' := mi_145) (n := 4) (as := [.ref 67, .retAddr 0, .ref 75, .retAddr 4]) (st := []) (r1 := (none, (rl h f rl_ rg z1 z2 z3 z4 z5 z6 rl_ rg z1 z2 z3 z4 z5 z6 fm gs ac kp (rd_pt w1 y1 0 4) w2 w3 w4 w5 w6 y1 y2 y3 y4 y5 y6))) w_1152 w_1153 ⟨lk_145.1, lk_145.2.1, lk_145.2.2, by decide, by decide⟩ rfl (by simp [Value.category]) dd_151_93 (by rw [← rl_u67 (w1' := rd_pt w1 y1 0 4) hH]; exact put_g (rl_g67 hH) (rl_g75 hH) (by decide) (by decide) (by decide) (by decide) (by decide)) ?_
  show am_Good mi_151 96 [some (.ref 66)] [] (rl h f rl_ rg z1 z2 z3 z4 z5 z6 rl_ rg z1 z2 z3 z4 z5 z6 fm gs ac kp (rd_pt w1 y1 0 4) w2 w3 w4 w5 w6 y1 y2 y3 y4 y5 y6) _
  refine g_aload_n (i := 0) dd_151_96 rfl ?_
  refine g_getfield (k := 5) am_ck12 (by decide) (Or.inl w_940) dd_151_97 (rl_g66 hH) rfl ?_
  refine g_iconst dd_151_100 ic_0 ?_
  refine g_aload_n (i := 0) dd_151_101 rfl ?_
  refine g_getfield (k := 23) am_ck12 (by decide) (Or.inl w_958) dd_151_102 (rl_g66 hH) rfl ?_
  refine g_bipush dd_151_105 bi_45 ?_
  refine g_static (M' := mi_145) (n := 4) (as := [.ref 68, .retAddr 0, .ref 76, .retAddr 45]) (st := []) (r1 := (none, (rl h f rl_ rg z1 z2 z3 z4 z5 z6 rl_ rg z1 z2 z3 z4 z5 z6 fm gs ac kp (rd_pt w1 y1 0 4) (rd_pt w2 y2 0 45) w3 w4 w5 w6 y1 y2 y3 y4 y5 y6))) w_1152 w_1153 ⟨lk_145.1, lk_145.2.1, lk_145.2.2, by decide, by decide⟩ rfl (by simp [Value.category]) dd_151_107 (by rw [← rl_u68 (w2' := rd_pt w2 y2 0 45) hH]; exact put_g (rl_g68 hH) (rl_g76 hH) (by decide) (by decide) (by decide) (by decide) (by decide)) ?_
  show am_Good mi_151 110 [some (.ref 66)] [] (rl h f rl_ rg z1 z2 z3 z4 z5 z6 rl_ rg z1 z2 z3 z4 z5 z6 fm gs ac kp (rd_pt w1 y1 0 4) (rd_pt w2 y2 0 45) w3 w4 w5 w6 y1 y2 y3 y4 y5 y6) _
  refine g_aload_n (i := 0) dd_151_110 rfl ?_
  refine g_getfield (k := 7) am_ck12 (by decide) (Or.inl w_942) dd_151_111 (rl_g66 hH) rfl ?_
  refine g_iconst dd_151_114 ic_0 ?_
  refine g_aload_n (i := 0) dd_151_115 rfl ?_
  refine g_getfield (k := 25) am_ck12 (by decide) (Or.inl w_960) dd_151_116 (rl_g66 hH) rfl ?_
  refine g_bipush dd_151_119 bi_18 ?_
  refine g_static (M' := mi_145) (n := 4) (as := [.ref 69, .retAddr 0, .ref 77, .retAddr 18]) (st := []) (r1 := (none, (rl h f rl_ rg z1 z2 z3 z4 z5 z6 rl_ rg z1 z2 z3 z4 z5 z6 fm gs ac kp (rd_pt w1 y1 0 4) (rd_pt w2 y2 0 45) (rd_pt w3 y3 0 18) w4 w5 w6 y1 y2 y3 y4 y5 y6))) w_1152 w_1153 ⟨lk_145.1, lk_145.2.1, lk_145.2.2, by decide, by decide⟩ rfl (by simp [Value.category]) dd_151_121 (by rw [← rl_u69 (w3' := rd_pt w3 y3 0 18) hH]; exact put_g (rl_g69 hH) (rl_g77 hH) (by decide) (by decide) (by decide) (by decide) (by decide)) ?_
  show am_Good mi_151 124 [some (.ref 66)] [] (rl h f rl_ rg z1 z2 z3 z4 z5 z6 rl_ rg z1 z2 z3 z4 z5 z6 fm gs ac kp (rd_pt w1 y1 0 4) (rd_pt w2 y2 0 45) (rd_pt w3 y3 0 18) w4 w5 w6 y1 y2 y3 y4 y5 y6) _
  refine g_aload_n (i := 0) dd_151_124 rfl ?_
  refine g_getfield (k := 9) am_ck12 (by decide) (Or.inl w_944) dd_151_125 (rl_g66 hH) rfl ?_
  refine g_iconst dd_151_128 ic_0 ?_
  refine g_aload_n (i := 0) dd_151_129 rfl ?_
  refine g_getfield (k := 27) am_ck12 (by decide) (Or.inl w_962) dd_151_130 (rl_g66 hH) rfl ?_
  refine g_bipush dd_151_133 bi_16 ?_
  refine g_static (M' := mi_145) (n := 4) (as := [.ref 70, .retAddr 0, .ref 78, .retAddr 16]) (st := []) (r1 := (none, (rl h f rl_ rg z1 z2 z3 z4 z5 z6 rl_ rg z1 z2 z3 z4 z5 z6 fm gs ac kp (rd_pt w1 y1 0 4) (rd_pt w2 y2 0 45) (rd_pt w3 y3 0 18) (rd_pt w4 y4 0 16) w5 w6 y1 y2 y3 y4 y5 y6))) w_1152 w_1153 ⟨lk_145.1, lk_145.2.1, lk_145.2.2, by decide, by decide⟩ rfl (by simp [Value.category]) dd_151_135 (by rw [← rl_u70 (w4' := rd_pt w4 y4 0 16) hH]; exact put_g (rl_g70 hH) (rl_g78 hH) (by decide) (by decide) (by decide) (by decide) (by decide)) ?_
  show am_Good mi_151 138 [some (.ref 66)] [] (rl h f rl_ rg z1 z2 z3 z4 z5 z6 rl_ rg z1 z2 z3 z4 z5 z6 fm gs ac kp (rd_pt w1 y1 0 4) (rd_pt w2 y2 0 45) (rd_pt w3 y3 0 18) (rd_pt w4 y4 0 16) w5 w6 y1 y2 y3 y4 y5 y6) _
  refine g_aload_n (i := 0) dd_151_138 rfl ?_
  refine g_getfield (k := 11) am_ck12 (by decide) (Or.inl w_946) dd_151_139 (rl_g66 hH) rfl ?_
  refine g_iconst dd_151_142 ic_0 ?_
  refine g_aload_n (i := 0) dd_151_143 rfl ?_
  refine g_getfield (k := 29) am_ck12 (by decide) (Or.inl w_964) dd_151_144 (rl_g66 hH) rfl ?_
  refine g_bipush dd_151_147 bi_18 ?_
  refine g_static (M' := mi_145) (n := 4) (as := [.ref 71, .retAddr 0, .ref 79, .retAddr 18]) (st := []) (r1 := (none, (rl h f rl_ rg z1 z2 z3 z4 z5 z6 rl_ rg z1 z2 z3 z4 z5 z6 fm gs ac kp (rd_pt w1 y1 0 4) (rd_pt w2 y2 0 45) (rd_pt w3 y3 0 18) (rd_pt w4 y4 0 16) (rd_pt w5 y5 0 18) w6 y1 y2 y3 y4 y5 y6))) w_1152 w_1153 ⟨lk_145.1, lk_145.2.1, lk_145.2.2, by decide, by decide⟩ rfl (by simp [Value.category]) dd_151_149 (by rw [← rl_u71 (w5' := rd_pt w5 y5 0 18) hH]; exact put_g (rl_g71 hH) (rl_g79 hH) (by decide) (by decide) (by decide) (by decide) (by decide)) ?_
  show am_Good mi_151 152 [some (.ref 66)] [] (rl h f rl_ rg z1 z2 z3 z4 z5 z6 rl_ rg z1 z2 z3 z4 z5 z6 fm gs ac kp (rd_pt w1 y1 0 4) (rd_pt w2 y2 0 45) (rd_pt w3 y3 0 18) (rd_pt w4 y4 0 16) (rd_pt w5 y5 0 18) w6 y1 y2 y3 y4 y5 y6) _
  refine g_aload_n (i := 0) dd_151_152 rfl ?_
  refine g_getfield (k := 13) am_ck12 (by decide) (Or.inl w_948) dd_151_153 (rl_g66 hH) rfl ?_
  refine g_iconst dd_151_156 ic_0 ?_
  refine g_aload_n (i := 0) dd_151_157 rfl ?_
  refine g_getfield (k := 31) am_ck12 (by decide) (Or.inl w_966) dd_151_158 (rl_g66 hH) rfl ?_
  refine g_bipush dd_151_161 bi_8 ?_
  refine g_static (M' := mi_145) (n := 4) (as := [.ref 72, .retAddr 0, .ref 80, .retAddr 8]) (st := []) (r1 := (none, (rl h f rl_ rg z1 z2 z3 z4 z5 z6 rl_ rg z1 z2 z3 z4 z5 z6 fm gs ac kp (rd_pt w1 y1 0 4) (rd_pt w2 y2 0 45) (rd_pt w3 y3 0 18) (rd_pt w4 y4 0 16) (rd_pt w5 y5 0 18) (rd_pt w6 y6 0 8) y1 y2 y3 y4 y5 y6))) w_1152 w_1153 ⟨lk_145.1, lk_145.2.1, lk_145.2.2, by decide, by decide⟩ rfl (by simp [Value.category]) dd_151_163 (by rw [← rl_u72 (w6' := rd_pt w6 y6 0 8) hH]; exact put_g (rl_g72 hH) (rl_g80 hH) (by decide) (by decide) (by decide) (by decide) (by decide)) ?_
  show am_Good mi_151 166 [some (.ref 66)] [] (rl h f rl_ rg z1 z2 z3 z4 z5 z6 rl_ rg z1 z2 z3 z4 z5 z6 fm gs ac kp (rd_pt w1 y1 0 4) (rd_pt w2 y2 0 45) (rd_pt w3 y3 0 18) (rd_pt w4 y4 0 16) (rd_pt w5 y5 0 18) (rd_pt w6 y6 0 8) y1 y2 y3 y4 y5 y6) _
  refine g_aload_n (i := 0) dd_151_166 rfl ?_
  refine g_iconst dd_151_167 ic_0 ?_
  refine g_putfield (k := 39) am_ck12 (by decide) (Or.inl w_974) (Or.inl rfl) dd_151_168 (rl_g66 hH) (Nat.le_of_ble_eq_true rfl) trivial ?_
  refine am_heq (rl_u66 hH) ?_
  show am_Good mi_151 171 [some (.ref 66)] [] (rl h f rl_ rg z1 z2 z3 z4 z5 z6 rl_ rg z1 z2 z3 z4 z5 z6 0 gs ac kp (rd_pt w1 y1 0 4) (rd_pt w2 y2 0 45) (rd_pt w3 y3 0 18) (rd_pt w4 y4 0 16) (rd_pt w5 y5 0 18) (rd_pt w6 y6 0 8) y1 y2 y3 y4 y5 y6) _
  refine g_aload_n (i := 0) dd_151_171 rfl ?_
  refine g_iconst dd_151_172 ic_0 ?_
  refine g_putfield (k := 40) am_ck12 (by decide) (Or.inl w_975) (Or.inl rfl) dd_151_173 (rl_g66 hH) (Nat.le_of_ble_eq_true rfl) trivial ?_
  refine am_heq (rl_u66 hH) ?_
  show am_Good mi_151 176 [some (.ref 66)] [] (rl h f rl_ rg z1 z2 z3 z4 z5 z6 rl_ rg z1 z2 z3 z4 z5 z6 0 0 ac kp (rd_pt w1 y1 0 4) (rd_pt w2 y2 0 45) (rd_pt w3 y3 0 18) (rd_pt w4 y4 0 16) (rd_pt w5 y5 0 18) (rd_pt w6 y6 0 8) y1 y2 y3 y4 y5 y6) _
  refine g_aload_n (i := 0) dd_151_176 rfl ?_
  refine g_iconst dd_151_177 ic_0 ?_
  refine g_putfield (k := 42) am_ck12 (by decide) (Or.inl w_977) (Or.inl rfl) dd_151_178 (rl_g66 hH) (Nat.le_of_ble_eq_true rfl) trivial ?_
  refine am_heq (rl_u66 hH) ?_
  show am_Good mi_151 181 [some (.ref 66)] [] (rl h f rl_ rg z1 z2 z3 z4 z5 z6 rl_ rg z1 z2 z3 z4 z5 z6 0 0 0 kp (rd_pt w1 y1 0 4) (rd_pt w2 y2 0 45) (rd_pt w3 y3 0 18) (rd_pt w4 y4 0 16) (rd_pt w5 y5 0 18) (rd_pt w6 y6 0 8) y1 y2 y3 y4 y5 y6) _
  refine g_aload_n (i := 0) dd_151_181 rfl ?_
  refine g_iconst dd_151_182 ic_0 ?_
  refine g_putfield (k := 53) am_ck12 (by decide) (Or.inl w_988) (Or.inl rfl) dd_151_183 (rl_g66 hH) (Nat.le_of_ble_eq_true rfl) trivial ?_
  refine am_heq (rl_u66 hH) ?_
  show am_Good mi_151 186 [some (.ref 66)] [] (rl h f rl_ rg z1 z2 z3 z4 z5 z6 rl_ rg z1 z2 z3 z4 z5 z6 0 0 0 0 (rd_pt w1 y1 0 4) (rd_pt w2 y2 0 45) (rd_pt w3 y3 0 18) (rd_pt w4 y4 0 16) (rd_pt w5 y5 0 18) (rd_pt w6 y6 0 8) y1 y2 y3 y4 y5 y6) _
  refine g_aload_n (i := 0) dd_151_186 rfl ?_
  refine g_getfield (k := 2) am_ck12 (by decide) (Or.inl w_937) dd_151_187 (rl_g66 hH) rfl ?_
  exact g_ireturn rfl dd_151_190
theorem ml_n1 {h : am_H} {res : Nat} (hv : am_tc .ne res 4294967292 = true) : am_Good mi_151 4 [some (.ref 66)] [.retAddr res] h (some (.retAddr 4294967294), h) := by
  refine g_bipush dd_151_4 bi_m4 ?_
  refine g_icmp_ne_t (t := 16) dd_151_6 (by decide) hv ?_
  refine g_bipush dd_151_16 bi_m2 ?_
  exact g_ireturn rfl dd_151_18
theorem ml_n2 {h : am_H} {f : Nat → Value} {l0 l1 l2 l4 l6 l8 l10 l12 rl_ rg z1 z2 z3 z4 z5 z6 fm gs ac kp w1 w2 w3 w4 w5 w6 y1 y2 y3 y4 y5 y6 res : Nat} (hH : rl_ok h) (hv : am_tc .ne res 4294967292 = false) (hz : am_tc .ne z1 0 = false) : am_Good mi_151 4 [some (.ref 66)] [.retAddr res] (rl h f l0 l1 l2 l4 l6 l8 l10 l12 rl_ rg z1 z2 z3 z4 z5 z6 fm gs ac kp w1 w2 w3 w4 w5 w6 y1 y2 y3 y4 y5 y6) (some (.retAddr 4294967294), (rl h f l0 l1 l2 l4 l6 l8 l10 l12 rl_ rg z1 z2 z3 z4 z5 z6 fm gs ac kp w1 w2 w3 w4 w5 w6 y1 y2 y3 y4 y5 y6)) := by
  refine g_bipush dd_151_4 bi_m4 ?_
  refine g_icmp_ne_f (t := 16) dd_151_6 (by decide) hv ?_
  refine g_aload_n (i := 0) dd_151_9 rfl ?_
  refine g_getfield (k := 20) am_ck12 (by decide) (Or.inl w_955) dd_151_10 (rl_g66 hH) rfl ?_
  refine g_if_ne_f (t := 19) dd_151_13 (by decide) hz ?_
  refine g_bipush dd_151_16 bi_m2 ?_
  exact g_ireturn rfl dd_151_18
theorem mly_0 {h h2 : am_H} {fs : List Value} {res : Nat} (g66 : am_get h 66 = some (.inr (12, fs))) (e : am_EG mi_135 [.ref 66] h (some (.retAddr res), h2)) {r : am_R} (hg : am_Good mi_151 4 [some (.ref 66)] [.retAddr res] h2 r) : am_EG mi_151 [.ref 66] h r := by
  refine am_enter (n := 0) tk_151.2.1 (by simp [Value.category]) (Nat.le_of_ble_eq_true rfl) ?_
  show am_Good mi_151 0 [some (.ref 66)] [] h _
  refine g_aload_n (i := 0) dd_151_0 rfl ?_
  refine g_virtual (M' := mi_135) (n := 0) (ci := 12) (b := 66) (as := []) (st := []) (r1 := (some (.retAddr res), h2)) w_1179 w_1114 w_1115 ⟨lk_135.1, lk_135.2.1, lk_135.2.2, by decide, by decide⟩ rfl g66 rfl (by simp [Value.category]) dd_151_1 (e) ?_
  show am_Good mi_151 4 [some (.ref 66)] [.retAddr res] h2 _
  exact hg
theorem ol_c66 {h : am_H} (hI : ax_I sbm h) : am_get h 66 = some (.inr (12, [.retAddr (fldv h 66 0), .retAddr (fldv h 66 1), .retAddr (fldv h 66 2), .ref 67, .retAddr (fldv h 66 4), .ref 68, .retAddr (fldv h 66 6), .ref 69, .retAddr (fldv h 66 8), .ref 70, .retAddr (fldv h 66 10), .ref 71, .retAddr (fldv h 66 12), .ref 72, .ref 73, valv h 66 15, valv h 66 16, .ref 74, .retAddr (fldv h 66 18), .retAddr (fldv h 66 19), .retAddr (fldv h 66 20), .ref 75, .retAddr (fldv h 66 22), .ref 76, .retAddr (fldv h 66 24), .ref 77, .retAddr (fldv h 66 26), .ref 78, .retAddr (fldv h 66 28), .ref 79, .retAddr (fldv h 66 30), .ref 80, .ref 81, .ref 82, .ref 83, .ref 84, valv h 66 36, valv h 66 37, valv h 66 38, .retAddr (fldv h 66 39), .retAddr (fldv h 66 40), .ref 85, .retAddr (fldv h 66 42), .ref 86, valv h 66 44, .ref 87, .ref 88, .ref 89, valv h 66 48, valv h 66 49, valv h 66 50, .ref 90, .ref 91, .retAddr (fldv h 66 53), .ref 92])) := by
  refine obj_ls hI rfl rfl (fun k hk => ?_)
  match k, hk with
  | 0, _ => exact (fld_in hI rfl rfl).1
  | 1, _ => exact (fld_in hI rfl rfl).1
  | 2, _ => exact (fld_in hI rfl rfl).1
  | 3, _ => exact ref_in hI rfl rfl
  | 4, _ => exact (fld_in hI rfl rfl).1
  | 5, _ => exact ref_in hI rfl rfl
  | 6, _ => exact (fld_in hI rfl rfl).1
  | 7, _ => exact ref_in hI rfl rfl
  | 8, _ => exact (fld_in hI rfl rfl).1
  | 9, _ => exact ref_in hI rfl rfl
  | 10, _ => exact (fld_in hI rfl rfl).1
  | 11, _ => exact ref_in hI rfl rfl
  | 12, _ => exact (fld_in hI rfl rfl).1
  | 13, _ => exact ref_in hI rfl rfl
  | 14, _ => exact ref_in hI rfl rfl
  | 15, _ => exact val_in hI rfl (Nat.le_of_ble_eq_true rfl)
  | 16, _ => exact val_in hI rfl (Nat.le_of_ble_eq_true rfl)
  | 17, _ => exact ref_in hI rfl rfl
  | 18, _ => exact (fld_in hI rfl rfl).1
  | 19, _ => exact (fld_in hI rfl rfl).1
  | 20, _ => exact (fld_in hI rfl rfl).1
  | 21, _ => exact ref_in hI rfl rfl
  | 22, _ => exact (fld_in hI rfl rfl).1
  | 23, _ => exact ref_in hI rfl rfl
  | 24, _ => exact (fld_in hI rfl rfl).1
  | 25, _ => exact ref_in hI rfl rfl
  | 26, _ => exact (fld_in hI rfl rfl).1
  | 27, _ => exact ref_in hI rfl rfl
  | 28, _ => exact (fld_in hI rfl rfl).1
  | 29, _ => exact ref_in hI rfl rfl
  | 30, _ => exact (fld_in hI rfl rfl).1
  | 31, _ => exact ref_in hI rfl rfl
  | 32, _ => exact ref_in hI rfl rfl
  | 33, _ => exact ref_in hI rfl rfl
  | 34, _ => exact ref_in hI rfl rfl
  | 35, _ => exact ref_in hI rfl rfl
  | 36, _ => exact val_in hI rfl (Nat.le_of_ble_eq_true rfl)
  | 37, _ => exact val_in hI rfl (Nat.le_of_ble_eq_true rfl)
  | 38, _ => exact val_in hI rfl (Nat.le_of_ble_eq_true rfl)
  | 39, _ => exact (fld_in hI rfl rfl).1
  | 40, _ => exact (fld_in hI rfl rfl).1
  | 41, _ => exact ref_in hI rfl rfl
  | 42, _ => exact (fld_in hI rfl rfl).1
  | 43, _ => exact ref_in hI rfl rfl
  | 44, _ => exact val_in hI rfl (Nat.le_of_ble_eq_true rfl)
  | 45, _ => exact ref_in hI rfl rfl
  | 46, _ => exact ref_in hI rfl rfl
  | 47, _ => exact ref_in hI rfl rfl
  | 48, _ => exact val_in hI rfl (Nat.le_of_ble_eq_true rfl)
  | 49, _ => exact val_in hI rfl (Nat.le_of_ble_eq_true rfl)
  | 50, _ => exact val_in hI rfl (Nat.le_of_ble_eq_true rfl)
  | 51, _ => exact ref_in hI rfl rfl
  | 52, _ => exact ref_in hI rfl rfl
  | 53, _ => exact (fld_in hI rfl rfl).1
  | 54, _ => exact ref_in hI rfl rfl
  | k + 55, hk => exact absurd hk (Nat.not_lt.mpr (Nat.le_add_left _ _))
theorem ol_c67 {h : am_H} (hI : ax_I sbm h) : am_get h 67 = some (.inl (0, 4, rowv h 67)) := (row_in hI rfl).1
theorem ol_c68 {h : am_H} (hI : ax_I sbm h) : am_get h 68 = some (.inl (0, 45, rowv h 68)) := (row_in hI rfl).1
theorem ol_c69 {h : am_H} (hI : ax_I sbm h) : am_get h 69 = some (.inl (0, 18, rowv h 69)) := (row_in hI rfl).1
theorem ol_c70 {h : am_H} (hI : ax_I sbm h) : am_get h 70 = some (.inl (0, 16, rowv h 70)) := (row_in hI rfl).1
theorem ol_c71 {h : am_H} (hI : ax_I sbm h) : am_get h 71 = some (.inl (0, 18, rowv h 71)) := (row_in hI rfl).1
theorem ol_c72 {h : am_H} (hI : ax_I sbm h) : am_get h 72 = some (.inl (0, 8, rowv h 72)) := (row_in hI rfl).1
theorem ol_c75 {h : am_H} (hI : ax_I sbm h) : am_get h 75 = some (.inl (0, 4, rowv h 75)) := (row_in hI rfl).1
theorem ol_c76 {h : am_H} (hI : ax_I sbm h) : am_get h 76 = some (.inl (0, 45, rowv h 76)) := (row_in hI rfl).1
theorem ol_c77 {h : am_H} (hI : ax_I sbm h) : am_get h 77 = some (.inl (0, 18, rowv h 77)) := (row_in hI rfl).1
theorem ol_c78 {h : am_H} (hI : ax_I sbm h) : am_get h 78 = some (.inl (0, 16, rowv h 78)) := (row_in hI rfl).1
theorem ol_c79 {h : am_H} (hI : ax_I sbm h) : am_get h 79 = some (.inl (0, 18, rowv h 79)) := (row_in hI rfl).1
theorem ol_c80 {h : am_H} (hI : ax_I sbm h) : am_get h 80 = some (.inl (0, 8, rowv h 80)) := (row_in hI rfl).1
theorem ol_ok {h : am_H} (hI : ax_I sbm h) : rl_ok h := ⟨⟨_, ol_c66 hI⟩, ⟨_, ol_c67 hI⟩, ⟨_, ol_c68 hI⟩, ⟨_, ol_c69 hI⟩, ⟨_, ol_c70 hI⟩, ⟨_, ol_c71 hI⟩, ⟨_, ol_c72 hI⟩, ⟨_, ol_c75 hI⟩, ⟨_, ol_c76 hI⟩, ⟨_, ol_c77 hI⟩, ⟨_, ol_c78 hI⟩, ⟨_, ol_c79 hI⟩, ⟨_, ol_c80 hI⟩, trivial⟩
theorem ol_own {h : am_H} (hI : ax_I sbm h) : (rl h (valv h 66) (fldv h 66 0) (fldv h 66 1) (fldv h 66 2) (fldv h 66 4) (fldv h 66 6) (fldv h 66 8) (fldv h 66 10) (fldv h 66 12) (fldv h 66 18) (fldv h 66 19) (fldv h 66 20) (fldv h 66 22) (fldv h 66 24) (fldv h 66 26) (fldv h 66 28) (fldv h 66 30) (fldv h 66 39) (fldv h 66 40) (fldv h 66 42) (fldv h 66 53) (rowv h 67) (rowv h 68) (rowv h 69) (rowv h 70) (rowv h 71) (rowv h 72) (rowv h 75) (rowv h 76) (rowv h 77) (rowv h 78) (rowv h 79) (rowv h 80)) = h := by
  unfold rl
  exact am_ups_00 ⟨ol_c66 hI, ol_c67 hI, ol_c68 hI, ol_c69 hI, ol_c70 hI, ol_c71 hI, ol_c72 hI, ol_c75 hI, ol_c76 hI, ol_c77 hI, ol_c78 hI, ol_c79 hI, ol_c80 hI, trivial⟩
theorem ol_pt {x y n : Nat} {b : Nat → Nat} (h : ∀ i, i < n → am_ag y i ≤ b i) : ∀ i, i < n → am_ag (rd_pt x y 0 n) i ≤ b i := fun i hi => by
  rw [rd_pt_ag, if_pos ⟨Nat.zero_le _, by omega⟩, Nat.sub_zero]
  exact h i hi
theorem ol_I {h : am_H} (hI : ax_I sbm h) (h18 : 1 ≤ fldv h 66 18) (h20 : 1 ≤ fldv h 66 20) : ax_I sbm (rl h (valv h 66) (fldv h 66 18) (fldv h 66 19) (fldv h 66 20) (fldv h 66 22) (fldv h 66 24) (fldv h 66 26) (fldv h 66 28) (fldv h 66 30) (fldv h 66 18) (fldv h 66 19) (fldv h 66 20) (fldv h 66 22) (fldv h 66 24) (fldv h 66 26) (fldv h 66 28) (fldv h 66 30) 0 0 0 0 (rd_pt (rowv h 67) (rowv h 75) 0 4) (rd_pt (rowv h 68) (rowv h 76) 0 45) (rd_pt (rowv h 69) (rowv h 77) 0 18) (rd_pt (rowv h 70) (rowv h 78) 0 16) (rd_pt (rowv h 71) (rowv h 79) 0 18) (rd_pt (rowv h 72) (rowv h 80) 0 8) (rowv h 75) (rowv h 76) (rowv h 77) (rowv h 78) (rowv h 79) (rowv h 80)) := by
  have k0 := ol_ok hI
  have b18 := (jm_in1 (fld_in (k := 18) hI (a := 66) rfl rfl).2).2
  have b20 := (jm_in1 (fld_in (k := 20) hI (a := 66) rfl rfl).2).2
  unfold rl
  refine ax_I_ups hI ?_ ⟨ok_at rfl (ok_set (k := 53) (ok_set (k := 42) (ok_set (k := 40) (ok_set (k := 39) (ok_set (k := 12) (ok_set (k := 10) (ok_set (k := 8) (ok_set (k := 6) (ok_set (k := 4) (ok_set (k := 2) (ok_set (k := 1) (ok_set (k := 0) (ok_own hI rfl (ol_c66 hI)) rfl (ax_in_1 (by omega) h18 (jm_in1 (fld_in (k := 18) hI (a := 66) rfl rfl).2).2)) rfl (fld_in (k := 19) hI (a := 66) rfl rfl).2) rfl (ax_in_1 (by omega) h20 (jm_in1 (fld_in (k := 20) hI (a := 66) rfl rfl).2).2)) rfl (fld_in (k := 22) hI (a := 66) rfl rfl).2) rfl (fld_in (k := 24) hI (a := 66) rfl rfl).2) rfl (fld_in (k := 26) hI (a := 66) rfl rfl).2) rfl (fld_in (k := 28) hI (a := 66) rfl rfl).2) rfl (fld_in (k := 30) hI (a := 66) rfl rfl).2) rfl (ax_in_1 (by decide) (Nat.le_refl _) (Nat.zero_le _))) rfl (ax_in_1 (by decide) (Nat.le_refl _) (Nat.zero_le _))) rfl (ax_in_1 (by decide) (Nat.le_refl _) (Nat.zero_le _))) rfl (ax_in_1 (by decide) (Nat.le_refl _) (Nat.zero_le _))), ok_at rfl (ok_row1 (by decide) (ol_pt (b := fun _ => 9) (row1_le hI rfl))), ok_at rfl (ok_rowc1 (ol_pt (rowc1_le hI rfl))), ok_at rfl (ok_rowc2 (ol_pt (rowc2_le hI rfl))), ok_at rfl (ok_rowc3 (ol_pt (rowc3_le hI rfl))), ok_at rfl (ok_row1 (by decide) (ol_pt (b := fun _ => 7) (row1_le hI rfl))), ok_at rfl (ok_row1 (by decide) (ol_pt (b := fun _ => 3) (row1_le hI rfl))), ok_at rfl (ok_own hI rfl (ol_c75 hI)), ok_at rfl (ok_own hI rfl (ol_c76 hI)), ok_at rfl (ok_own hI rfl (ol_c77 hI)), ok_at rfl (ok_own hI rfl (ol_c78 hI)), ok_at rfl (ok_own hI rfl (ol_c79 hI)), ok_at rfl (ok_own hI rfl (ol_c80 hI)), trivial⟩
  exact k0
theorem ol_X0 {h : am_H} {f : Nat → Value} (hI : ax_I sbm h) (hx : ax_I sb0 h) {l0 l1 l2 l4 l6 l8 l10 l12 rl_ rg z1 z2 z3 z4 z5 z6 fm gs ac kp w1 w2 w3 w4 w5 w6 y1 y2 y3 y4 y5 y6 : Nat} : ax_I sb0 (rl h f l0 l1 l2 l4 l6 l8 l10 l12 rl_ rg z1 z2 z3 z4 z5 z6 fm gs ac kp w1 w2 w3 w4 w5 w6 y1 y2 y3 y4 y5 y6) := by
  have k0 := ol_ok hI
  unfold rl
  refine ax_I_ups hx ?_ ⟨ok_none rfl, ok_none rfl, ok_none rfl, ok_none rfl, ok_none rfl, ok_none rfl, ok_none rfl, ok_none rfl, ok_none rfl, ok_none rfl, ok_none rfl, ok_none rfl, ok_none rfl, trivial⟩
  exact k0
theorem ol_X1 {h : am_H} {f : Nat → Value} (hI : ax_I sbm h) (hx : ax_I sb1 h) {l0 l1 l2 l4 l6 l8 l10 l12 rl_ rg z1 z2 z3 z4 z5 z6 fm gs ac kp w1 w2 w3 w4 w5 w6 y1 y2 y3 y4 y5 y6 : Nat} : ax_I sb1 (rl h f l0 l1 l2 l4 l6 l8 l10 l12 rl_ rg z1 z2 z3 z4 z5 z6 fm gs ac kp w1 w2 w3 w4 w5 w6 y1 y2 y3 y4 y5 y6) := by
  have k0 := ol_ok hI
  unfold rl
  refine ax_I_ups hx ?_ ⟨ok_none rfl, ok_none rfl, ok_none rfl, ok_none rfl, ok_none rfl, ok_none rfl, ok_none rfl, ok_none rfl, ok_none rfl, ok_none rfl, ok_none rfl, ok_none rfl, ok_none rfl, trivial⟩
  exact k0
def jv_N (g : am_H) (mi go : Nat) (Z X : Nat → Nat) : Prop := (ax_I sb0 g ∧ je_x g 4 mi go Z X ∧ je_T0 g mi go Z X) ∨ (ax_I sb1 g ∧ je_x g 17 mi go Z X ∧ je_T0 g mi go Z X)
theorem je_T_cg {h : am_H} {mi go : Nat} {Z X Y : Nat → Nat} (hz : ∀ k, k < 6 → Z k ≤ rd_l k) (hc : ∀ k, k < 6 → ∀ i, i < Z k * rd_w k → am_ag (X k) i = am_ag (Y k) i) (hT : je_T0 h mi go Z X) : je_T h mi go Z Y := by
  obtain ⟨⟨cc, c1, c2⟩, ⟨W, F, B, s1, s2, s3, s4⟩, ⟨G, r1, r2, r3⟩, r4, r5⟩ := hT
  refine ⟨⟨cc, c1, fun s hs => by rw [c2 s hs, cl_k_congr (hc 4 (by decide))]⟩, ⟨W, F, B, s1, s2, s3, fun s hs t ht => ?_⟩, ⟨G, r1, r2, rt_R_cg (fun t ht s hs => sc_W_cg (hc 0 (by decide)) (hc 1 (by decide)) (hc 2 (by decide)) (hc 3 (by decide)) 0 4294967292 s t hs) r3⟩, Or.inl r4, r5⟩
  rw [← sc_W_cg (hc 0 (by decide)) (hc 1 (by decide)) (hc 2 (by decide)) (hc 3 (by decide)) 0 4294967292 s t hs, ← sc_F_cg (hc 1 (by decide)) (hc 2 (by decide)) (hc 3 (by decide)) 0 4294967292 s t, ← sc_B_cg (hc 2 (by decide)) (hc 3 (by decide)) 0 s t]
  exact s4 s hs t ht
theorem je_T_lo {h h' : am_H} {mi go : Nat} {Z X : Nat → Nat} (lo : ∀ a, a < 66 → am_get h' a = am_get h a) (hT : je_T0 h mi go Z X) : je_T0 h' mi go Z X := by
  obtain ⟨⟨cc, c1, c2⟩, ⟨W, F, B, s1, s2, s3, s4⟩, ⟨G, r1, r2, r3⟩, r4, r5⟩ := hT
  exact ⟨⟨cc, by rw [lo 31 (by decide)]; exact c1, c2⟩, ⟨W, F, B, by rw [lo 33 (by decide)]; exact s1, by rw [lo 34 (by decide)]; exact s2, by rw [lo 35 (by decide)]; exact s3, s4⟩, ⟨G, by rw [lo 44 (by decide)]; exact r1, by rw [ax_fv_get (lo 43 (by decide))]; exact r2, r3⟩, by rw [ax_fv_get (lo 47 (by decide))]; exact r4, je_L_get (lo 46 (by decide)) r5⟩
theorem jl_D {E : Nat} (hE : E < 53) (h0 : E ≠ 0) {g h4 : am_H} {mi go N nr td : Nat} {Z X Y : Nat → Nat} (k3 : rd_V mi go N nr td Z X Y) (z0 : 1 ≤ Z 0) (lo : ∀ a, a < 66 → am_get h4 a = am_get g a) (hx : je_x g E mi go Z X) (hT : je_T0 g mi go Z X) (me : ax_fv h4 66 0 = some (.retAddr mi) ∧ ax_fv h4 66 1 = some (.retAddr go) ∧ ∀ k, k < 6 → ax_fv h4 66 (2 + 2 * k) = some (.retAddr (Z k)) ∧ ∃ y, am_get h4 (67 + k) = some (.inl (0, je_l k, y)) ∧ ∀ i, i < je_l k → am_ag y i = am_ag (Y k) i) : jv_D h4 E := by
  obtain ⟨⟨v1, v2, v3, -, -⟩, -, -, vZ, -, vY, vC, vO⟩ := k3
  have r : ∀ k, k < 6 → am_get h4 (67 + k) = some (.inl (0, je_l k, rowv h4 (67 + k))) ∧ ∀ i, i < je_l k → am_ag (rowv h4 (67 + k)) i = am_ag (Y k) i := fun k hk => by
    obtain ⟨-, y, y1, y2⟩ := me.2.2 k hk
    have e : rowv h4 (67 + k) = y := by unfold rowv; rw [y1]
    rw [e]
    exact ⟨y1, y2⟩
  have zl : ∀ k, k < 6 → Z k * rd_w k ≤ je_l k := fun k hk => by
    have := vZ k hk
    match k, hk, this with
    | 0, _, q => show Z 0 * 1 ≤ 4; have q : Z 0 ≤ 4 := q; omega
    | 1, _, q => show Z 1 * 5 ≤ 45; have q : Z 1 ≤ 9 := q; omega
    | 2, _, q => show Z 2 * 3 ≤ 18; have q : Z 2 ≤ 6 := q; omega
    | 3, _, q => show Z 3 * 4 ≤ 16; have q : Z 3 ≤ 4 := q; omega
    | 4, _, q => show Z 4 * 3 ≤ 18; have q : Z 4 ≤ 6 := q; omega
    | 5, _, q => show Z 5 * 2 ≤ 8; have q : Z 5 ≤ 4 := q; omega
    | k + 6, hk, _ => exact absurd hk (by omega)
  have al : ∀ k, k < 6 → ∀ i, i < Z k * rd_w k → am_ag (X k) i = am_ag (rowv h4 (67 + k)) i := fun k hk i hi => by
    rw [(r k hk).2 i (Nat.lt_of_lt_of_le hi (zl k hk))]
    exact vC k hk i hi
  have kpx : je_x h4 E mi go Z X := je_x_lo hE (fun a _ ha => lo a ha) h0 hx
  refine ⟨mi, go, Z, X, fun k => rowv h4 (67 + k), kpx, ⟨me.1, me.2.1, fun k hk => ⟨(me.2.2 k hk).1, (r k hk).1⟩⟩, ⟨⟨v1, v2, v3, z0⟩, vZ, fun k hk i hi => ?_, al, fun i hi => ?_⟩, ?_⟩
  · rw [(r k hk).2 i hi]
    exact vY k hk i hi
  · show am_ag (rowv h4 (67 + 5)) (2 * i + 1) < Z 0
    rw [(r 5 (by decide)).2 (2 * i + 1) (by have z5 : Z 5 ≤ 4 := vZ 5 (by decide); show 2 * i + 1 < 8; omega)]
    exact vO i hi
  · refine je_T_cg vZ al (je_T_lo lo hT)
theorem jl_ref {g : am_H} (hx : ax_I sb0 g ∨ ax_I sb1 g) (hm : ax_I sbm g) (hQ : jv_Q g) {n T td res mi' go' N' nr' td' at' : Nat} {Y Z' X' Y' : Nat → Nat} (hn : n ≤ 200) (t1 : ax_fv g 0 1 = some (.retAddr n)) (t2 : ax_fv g 66 15 = some (.retAddr n)) {tx : Nat} (x1 : am_get g 1 = some (.inl (1, 200, tx))) (r73 : rowv g 73 = T) (al : ∀ i, i < n → am_ag tx i = am_ag T i) (r74 : rowv g 74 = td) (rY : ∀ k, k < 6 → rowv g (75 + k) = Y k) (k2 : ∀ (g : am_H) (f : Nat → Value) (at_ rl_ rg : Nat) (Zm : Nat → Nat), rm_ok g → am_EG mi_135 [.ref 66] (rm g f n at_ rl_ rg (Zm 0) (Zm 1) (Zm 2) (Zm 3) (Zm 4) (Zm 5) T td (Y 0) (Y 1) (Y 2) (Y 3) (Y 4) (Y 5)) (some (.retAddr res), (rm g f n (at') (mi') (go') (Z' 0) (Z' 1) (Z' 2) (Z' 3) (Z' 4) (Z' 5) T (td') (Y' 0) (Y' 1) (Y' 2) (Y' 3) (Y' 4) (Y' 5)))) (k3 : rd_V mi' go' N' nr' td' Z' X' Y') (k4 : at' ≤ n) (hK : if am_tc .ne res 4294967292 = false ∧ am_tc .ne (Z' 0) 0 = true then (ax_fv g 0 16 = some (.retAddr 0) ∧ jv_N g mi' go' Z' X') else jv_K g) : ∃ h3, am_EG (am_mi 151) [.ref 66] g (some (.retAddr (if am_tc .ne res 4294967292 = false ∧ am_tc .ne (Z' 0) 0 = true then Z' 0 else 4294967294)), h3) ∧ Jv h3 ∧ h3.1 = g.1 ∧ h3.2.1 = g.2.1 := by
  have hM := om_ok hm
  have own2 := om_own hm
  have fl : fldv g 66 15 = n := fldv_fv t2
  have y0 : rowv g 75 = Y 0 := rY 0 (by decide)
  have y1 : rowv g 76 = Y 1 := rY 1 (by decide)
  have y2 : rowv g 77 = Y 2 := rY 2 (by decide)
  have y3 : rowv g 78 = Y 3 := rY 3 (by decide)
  have y4 : rowv g 79 = Y 4 := rY 4 (by decide)
  have y5 : rowv g 80 = Y 5 := rY 5 (by decide)
  rw [fl, r73, r74, y0, y1, y2, y3, y4, y5] at own2
  have em := Eq.mp (congrArg (fun q => am_EG mi_135 [.ref 66] q (some (.retAddr res), (rm g (valv g 66) n (at') (mi') (go') (Z' 0) (Z' 1) (Z' 2) (Z' 3) (Z' 4) (Z' 5) T (td') (Y' 0) (Y' 1) (Y' 2) (Y' 3) (Y' 4) (Y' 5)))) own2) (k2 g (valv g 66) (fldv g 66 16) (fldv g 66 18) (fldv g 66 19) (fun k => fldv g 66 (20 + 2 * k)) hM)
  have m2 := om_I (at_ := at') hm (by omega) k3
  rw [fl, r73] at m2
  have q2 : jv_Q (rm g (valv g 66) n (at') (mi') (go') (Z' 0) (Z' 1) (Z' 2) (Z' 3) (Z' 4) (Z' 5) T (td') (Y' 0) (Y' 1) (Y' 2) (Y' 3) (Y' 4) (Y' 5)) := jq_rm hQ hm rfl rfl
  have x2 : ax_I sb0 (rm g (valv g 66) n (at') (mi') (go') (Z' 0) (Z' 1) (Z' 2) (Z' 3) (Z' 4) (Z' 5) T (td') (Y' 0) (Y' 1) (Y' 2) (Y' 3) (Y' 4) (Y' 5)) ∨ ax_I sb1 (rm g (valv g 66) n (at') (mi') (go') (Z' 0) (Z' 1) (Z' 2) (Z' 3) (Z' 4) (Z' 5) T (td') (Y' 0) (Y' 1) (Y' 2) (Y' 3) (Y' 4) (Y' 5)) := by
    rcases hx with hx | hx
    · exact Or.inl (om_X0 hm hx)
    · exact Or.inr (om_X1 hm hx)
  have f18 : ax_fv (rm g (valv g 66) n (at') (mi') (go') (Z' 0) (Z' 1) (Z' 2) (Z' 3) (Z' 4) (Z' 5) T (td') (Y' 0) (Y' 1) (Y' 2) (Y' 3) (Y' 4) (Y' 5)) 66 18 = some (.retAddr mi') := by
    unfold ax_fv
    rw [rm_g66 hM]
    rfl
  have f20 : ax_fv (rm g (valv g 66) n (at') (mi') (go') (Z' 0) (Z' 1) (Z' 2) (Z' 3) (Z' 4) (Z' 5) T (td') (Y' 0) (Y' 1) (Y' 2) (Y' 3) (Y' 4) (Y' 5)) 66 20 = some (.retAddr (Z' 0)) := by
    unfold ax_fv
    rw [rm_g66 hM]
    rfl
  have f15 : ax_fv (rm g (valv g 66) n (at') (mi') (go') (Z' 0) (Z' 1) (Z' 2) (Z' 3) (Z' 4) (Z' 5) T (td') (Y' 0) (Y' 1) (Y' 2) (Y' 3) (Y' 4) (Y' 5)) 66 15 = some (.retAddr n) := by
    unfold ax_fv
    rw [rm_g66 hM]
    rfl
  have f53 : ∀ k, ax_fv g 66 53 = some (.retAddr k) → ax_fv (rm g (valv g 66) n (at') (mi') (go') (Z' 0) (Z' 1) (Z' 2) (Z' 3) (Z' 4) (Z' 5) T (td') (Y' 0) (Y' 1) (Y' 2) (Y' 3) (Y' 4) (Y' 5)) 66 53 = some (.retAddr k) := fun k y2 => by
    unfold ax_fv
    rw [rm_g66 hM]
    show some (valv g 66 53) = _
    rw [valv_fv y2]
  have g0 : am_get (rm g (valv g 66) n (at') (mi') (go') (Z' 0) (Z' 1) (Z' 2) (Z' 3) (Z' 4) (Z' 5) T (td') (Y' 0) (Y' 1) (Y' 2) (Y' 3) (Y' 4) (Y' 5)) 0 = am_get g 0 := rm_o hM rfl
  have g1 : am_get (rm g (valv g 66) n (at') (mi') (go') (Z' 0) (Z' 1) (Z' 2) (Z' 3) (Z' 4) (Z' 5) T (td') (Y' 0) (Y' 1) (Y' 2) (Y' 3) (Y' 4) (Y' 5)) 1 = am_get g 1 := rm_o hM rfl
  have g73 : am_get (rm g (valv g 66) n (at') (mi') (go') (Z' 0) (Z' 1) (Z' 2) (Z' 3) (Z' 4) (Z' 5) T (td') (Y' 0) (Y' 1) (Y' 2) (Y' 3) (Y' 4) (Y' 5)) 73 = _ := rm_g73 hM
  have sz : ((rm g (valv g 66) n (at') (mi') (go') (Z' 0) (Z' 1) (Z' 2) (Z' 3) (Z' 4) (Z' 5) T (td') (Y' 0) (Y' 1) (Y' 2) (Y' 3) (Y' 4) (Y' 5))).1 = g.1 ∧ ((rm g (valv g 66) n (at') (mi') (go') (Z' 0) (Z' 1) (Z' 2) (Z' 3) (Z' 4) (Z' 5) T (td') (Y' 0) (Y' 1) (Y' 2) (Y' 3) (Y' 4) (Y' 5))).2.1 = g.2.1 := by unfold rm; exact am_ups_1 _
  have x2a : ax_I sb0 g → ax_I sb0 (rm g (valv g 66) n (at') (mi') (go') (Z' 0) (Z' 1) (Z' 2) (Z' 3) (Z' 4) (Z' 5) T (td') (Y' 0) (Y' 1) (Y' 2) (Y' 3) (Y' 4) (Y' 5)) := fun q => om_X0 hm q
  have x2b : ax_I sb1 g → ax_I sb1 (rm g (valv g 66) n (at') (mi') (go') (Z' 0) (Z' 1) (Z' 2) (Z' 3) (Z' 4) (Z' 5) T (td') (Y' 0) (Y' 1) (Y' 2) (Y' 3) (Y' 4) (Y' 5)) := fun q => om_X1 hm q
  have lo : ∀ a, a < 66 → am_get (rm g (valv g 66) n (at') (mi') (go') (Z' 0) (Z' 1) (Z' 2) (Z' 3) (Z' 4) (Z' 5) T (td') (Y' 0) (Y' 1) (Y' 2) (Y' 3) (Y' 4) (Y' 5)) a = am_get g a := fun a ha => rm_o hM (am_lk_ct (ks := [66, 73, 74, 75, 76, 77, 78, 79, 80]) (by simp; omega))
  have jE : jv_E g → jv_E (rm g (valv g 66) n (at') (mi') (go') (Z' 0) (Z' 1) (Z' 2) (Z' 3) (Z' 4) (Z' 5) T (td') (Y' 0) (Y' 1) (Y' 2) (Y' 3) (Y' 4) (Y' 5)) := jv_E_b x2a x2b (kp_ck [66, 73, 74, 75, 76, 77, 78, 79, 80] (fun a ha => rm_o hM ha) (by decide) (om_fm hm)) (kp_ck [66, 73, 74, 75, 76, 77, 78, 79, 80] (fun a ha => rm_o hM ha) (by decide) (om_fm hm))
  have f19 : ax_fv (rm g (valv g 66) n (at') (mi') (go') (Z' 0) (Z' 1) (Z' 2) (Z' 3) (Z' 4) (Z' 5) T (td') (Y' 0) (Y' 1) (Y' 2) (Y' 3) (Y' 4) (Y' 5)) 66 19 = some (.retAddr go') := by
    unfold ax_fv
    rw [rm_g66 hM]
    rfl
  have fz : ∀ k, k < 6 → ax_fv (rm g (valv g 66) n (at') (mi') (go') (Z' 0) (Z' 1) (Z' 2) (Z' 3) (Z' 4) (Z' 5) T (td') (Y' 0) (Y' 1) (Y' 2) (Y' 3) (Y' 4) (Y' 5)) 66 (20 + 2 * k) = some (.retAddr (Z' k)) ∧ am_get (rm g (valv g 66) n (at') (mi') (go') (Z' 0) (Z' 1) (Z' 2) (Z' 3) (Z' 4) (Z' 5) T (td') (Y' 0) (Y' 1) (Y' 2) (Y' 3) (Y' 4) (Y' 5)) (75 + k) = some (.inl (0, rd_yl k, Y' k)) := fun k hk => by
    match k, hk with
    | 0, _ => exact ⟨by unfold ax_fv; rw [rm_g66 hM]; rfl, rm_g75 hM⟩
    | 1, _ => exact ⟨by unfold ax_fv; rw [rm_g66 hM]; rfl, rm_g76 hM⟩
    | 2, _ => exact ⟨by unfold ax_fv; rw [rm_g66 hM]; rfl, rm_g77 hM⟩
    | 3, _ => exact ⟨by unfold ax_fv; rw [rm_g66 hM]; rfl, rm_g78 hM⟩
    | 4, _ => exact ⟨by unfold ax_fv; rw [rm_g66 hM]; rfl, rm_g79 hM⟩
    | 5, _ => exact ⟨by unfold ax_fv; rw [rm_g66 hM]; rfl, rm_g80 hM⟩
    | k + 6, hk => exact absurd hk (by omega)
  have g66 := om_c66 hm
  generalize (rm g (valv g 66) n (at') (mi') (go') (Z' 0) (Z' 1) (Z' 2) (Z' 3) (Z' 4) (Z' 5) T (td') (Y' 0) (Y' 1) (Y' 2) (Y' 3) (Y' 4) (Y' 5)) = h2 at em m2 q2 x2 f18 f20 f15 f53 g0 g1 g73 sz x2a x2b lo jE f19 fz
  have v18 := fldv_fv f18
  have v20 := fldv_fv f20
  have own3 := ol_own m2
  have J2 : jv_K g → Jv h2 := fun ⟨⟨k, y1, y2⟩, hE⟩ => ⟨⟨x2, m2⟩, ⟨n, by rw [ax_fv_get g0]; exact t1, f15, tx, T, by rw [g1]; exact x1, g73, al, ⟨k, by rw [ax_fv_get g0]; exact y1, f53 k y2⟩, jE hE⟩, q2⟩
  have hR := ol_ok m2
  by_cases hv : am_tc .ne res 4294967292 = true
  · have nc : ¬ (am_tc .ne res 4294967292 = false ∧ am_tc .ne (Z' 0) 0 = true) := fun q => (by rw [hv] at q; exact Bool.noConfusion q.1)
    rw [if_neg nc] at hK
    refine ⟨h2, ?_, J2 hK, sz⟩
    rw [if_neg nc]
    refine mly_0 g66 em ?_
    exact ml_n1 hv
  have hv' : am_tc .ne res 4294967292 = false := by simpa using hv
  by_cases hz : am_tc .ne (Z' 0) 0 = true
  · rw [if_pos ⟨hv', hz⟩] at hK
    rw [if_pos ⟨hv', hz⟩]
    have e := ml_y (f := valv h2 66) (l0 := (fldv h2 66 0)) (l1 := (fldv h2 66 1)) (l2 := (fldv h2 66 2)) (l4 := (fldv h2 66 4)) (l6 := (fldv h2 66 6)) (l8 := (fldv h2 66 8)) (l10 := (fldv h2 66 10)) (l12 := (fldv h2 66 12)) (rl_ := (fldv h2 66 18)) (rg := (fldv h2 66 19)) (z1 := (fldv h2 66 20)) (z2 := (fldv h2 66 22)) (z3 := (fldv h2 66 24)) (z4 := (fldv h2 66 26)) (z5 := (fldv h2 66 28)) (z6 := (fldv h2 66 30)) (fm := (fldv h2 66 39)) (gs := (fldv h2 66 40)) (ac := (fldv h2 66 42)) (kp := (fldv h2 66 53)) (w1 := (rowv h2 67)) (w2 := (rowv h2 68)) (w3 := (rowv h2 69)) (w4 := (rowv h2 70)) (w5 := (rowv h2 71)) (w6 := (rowv h2 72)) (y1 := (rowv h2 75)) (y2 := (rowv h2 76)) (y3 := (rowv h2 77)) (y4 := (rowv h2 78)) (y5 := (rowv h2 79)) (y6 := (rowv h2 80)) hR hv' (by rw [v20]; exact hz)
    have e' := Eq.mp (congrArg (fun q => am_Good mi_151 4 [some (.ref 66)] [.retAddr res] q (some (.retAddr (fldv h2 66 20)), (rl h2 (valv h2 66) (fldv h2 66 18) (fldv h2 66 19) (fldv h2 66 20) (fldv h2 66 22) (fldv h2 66 24) (fldv h2 66 26) (fldv h2 66 28) (fldv h2 66 30) (fldv h2 66 18) (fldv h2 66 19) (fldv h2 66 20) (fldv h2 66 22) (fldv h2 66 24) (fldv h2 66 26) (fldv h2 66 28) (fldv h2 66 30) 0 0 0 0 (rd_pt (rowv h2 67) (rowv h2 75) 0 4) (rd_pt (rowv h2 68) (rowv h2 76) 0 45) (rd_pt (rowv h2 69) (rowv h2 77) 0 18) (rd_pt (rowv h2 70) (rowv h2 78) 0 16) (rd_pt (rowv h2 71) (rowv h2 79) 0 18) (rd_pt (rowv h2 72) (rowv h2 80) 0 8) (rowv h2 75) (rowv h2 76) (rowv h2 77) (rowv h2 78) (rowv h2 79) (rowv h2 80)))) own3) e
    have hz0 : 1 ≤ Z' 0 := by
      rcases Nat.eq_zero_or_pos (Z' 0) with q | q
      · rw [q] at hz
        exact absurd hz (by decide)
      · exact q
    have m3 := ol_I m2 (by rw [v18]; exact k3.1.1) (by rw [v20]; exact hz0)
    have x3 : ax_I sb0 (rl h2 (valv h2 66) (fldv h2 66 18) (fldv h2 66 19) (fldv h2 66 20) (fldv h2 66 22) (fldv h2 66 24) (fldv h2 66 26) (fldv h2 66 28) (fldv h2 66 30) (fldv h2 66 18) (fldv h2 66 19) (fldv h2 66 20) (fldv h2 66 22) (fldv h2 66 24) (fldv h2 66 26) (fldv h2 66 28) (fldv h2 66 30) 0 0 0 0 (rd_pt (rowv h2 67) (rowv h2 75) 0 4) (rd_pt (rowv h2 68) (rowv h2 76) 0 45) (rd_pt (rowv h2 69) (rowv h2 77) 0 18) (rd_pt (rowv h2 70) (rowv h2 78) 0 16) (rd_pt (rowv h2 71) (rowv h2 79) 0 18) (rd_pt (rowv h2 72) (rowv h2 80) 0 8) (rowv h2 75) (rowv h2 76) (rowv h2 77) (rowv h2 78) (rowv h2 79) (rowv h2 80)) ∨ ax_I sb1 (rl h2 (valv h2 66) (fldv h2 66 18) (fldv h2 66 19) (fldv h2 66 20) (fldv h2 66 22) (fldv h2 66 24) (fldv h2 66 26) (fldv h2 66 28) (fldv h2 66 30) (fldv h2 66 18) (fldv h2 66 19) (fldv h2 66 20) (fldv h2 66 22) (fldv h2 66 24) (fldv h2 66 26) (fldv h2 66 28) (fldv h2 66 30) 0 0 0 0 (rd_pt (rowv h2 67) (rowv h2 75) 0 4) (rd_pt (rowv h2 68) (rowv h2 76) 0 45) (rd_pt (rowv h2 69) (rowv h2 77) 0 18) (rd_pt (rowv h2 70) (rowv h2 78) 0 16) (rd_pt (rowv h2 71) (rowv h2 79) 0 18) (rd_pt (rowv h2 72) (rowv h2 80) 0 8) (rowv h2 75) (rowv h2 76) (rowv h2 77) (rowv h2 78) (rowv h2 79) (rowv h2 80)) := by
      rcases x2 with q | q
      · exact Or.inl (ol_X0 m2 q)
      · exact Or.inr (ol_X1 m2 q)
    rw [v20] at e' m3 x3
    rw [v18] at e' m3 x3
    have lo4 : ∀ a, a < 66 → am_get (rl h2 (valv h2 66) mi' (fldv h2 66 19) (Z' 0) (fldv h2 66 22) (fldv h2 66 24) (fldv h2 66 26) (fldv h2 66 28) (fldv h2 66 30) mi' (fldv h2 66 19) (Z' 0) (fldv h2 66 22) (fldv h2 66 24) (fldv h2 66 26) (fldv h2 66 28) (fldv h2 66 30) 0 0 0 0 (rd_pt (rowv h2 67) (rowv h2 75) 0 4) (rd_pt (rowv h2 68) (rowv h2 76) 0 45) (rd_pt (rowv h2 69) (rowv h2 77) 0 18) (rd_pt (rowv h2 70) (rowv h2 78) 0 16) (rd_pt (rowv h2 71) (rowv h2 79) 0 18) (rd_pt (rowv h2 72) (rowv h2 80) 0 8) (rowv h2 75) (rowv h2 76) (rowv h2 77) (rowv h2 78) (rowv h2 79) (rowv h2 80)) a = am_get g a := fun a ha => (rl_o hR (am_lk_ct (ks := [66, 67, 68, 69, 70, 71, 72, 75, 76, 77, 78, 79, 80]) (by simp; omega))).trans (lo a ha)
    have me : ax_fv (rl h2 (valv h2 66) mi' (fldv h2 66 19) (Z' 0) (fldv h2 66 22) (fldv h2 66 24) (fldv h2 66 26) (fldv h2 66 28) (fldv h2 66 30) mi' (fldv h2 66 19) (Z' 0) (fldv h2 66 22) (fldv h2 66 24) (fldv h2 66 26) (fldv h2 66 28) (fldv h2 66 30) 0 0 0 0 (rd_pt (rowv h2 67) (rowv h2 75) 0 4) (rd_pt (rowv h2 68) (rowv h2 76) 0 45) (rd_pt (rowv h2 69) (rowv h2 77) 0 18) (rd_pt (rowv h2 70) (rowv h2 78) 0 16) (rd_pt (rowv h2 71) (rowv h2 79) 0 18) (rd_pt (rowv h2 72) (rowv h2 80) 0 8) (rowv h2 75) (rowv h2 76) (rowv h2 77) (rowv h2 78) (rowv h2 79) (rowv h2 80)) 66 0 = some (.retAddr mi') ∧ ax_fv (rl h2 (valv h2 66) mi' (fldv h2 66 19) (Z' 0) (fldv h2 66 22) (fldv h2 66 24) (fldv h2 66 26) (fldv h2 66 28) (fldv h2 66 30) mi' (fldv h2 66 19) (Z' 0) (fldv h2 66 22) (fldv h2 66 24) (fldv h2 66 26) (fldv h2 66 28) (fldv h2 66 30) 0 0 0 0 (rd_pt (rowv h2 67) (rowv h2 75) 0 4) (rd_pt (rowv h2 68) (rowv h2 76) 0 45) (rd_pt (rowv h2 69) (rowv h2 77) 0 18) (rd_pt (rowv h2 70) (rowv h2 78) 0 16) (rd_pt (rowv h2 71) (rowv h2 79) 0 18) (rd_pt (rowv h2 72) (rowv h2 80) 0 8) (rowv h2 75) (rowv h2 76) (rowv h2 77) (rowv h2 78) (rowv h2 79) (rowv h2 80)) 66 1 = some (.retAddr go') ∧ ∀ k, k < 6 → ax_fv (rl h2 (valv h2 66) mi' (fldv h2 66 19) (Z' 0) (fldv h2 66 22) (fldv h2 66 24) (fldv h2 66 26) (fldv h2 66 28) (fldv h2 66 30) mi' (fldv h2 66 19) (Z' 0) (fldv h2 66 22) (fldv h2 66 24) (fldv h2 66 26) (fldv h2 66 28) (fldv h2 66 30) 0 0 0 0 (rd_pt (rowv h2 67) (rowv h2 75) 0 4) (rd_pt (rowv h2 68) (rowv h2 76) 0 45) (rd_pt (rowv h2 69) (rowv h2 77) 0 18) (rd_pt (rowv h2 70) (rowv h2 78) 0 16) (rd_pt (rowv h2 71) (rowv h2 79) 0 18) (rd_pt (rowv h2 72) (rowv h2 80) 0 8) (rowv h2 75) (rowv h2 76) (rowv h2 77) (rowv h2 78) (rowv h2 79) (rowv h2 80)) 66 (2 + 2 * k) = some (.retAddr (Z' k)) ∧ ∃ y, am_get (rl h2 (valv h2 66) mi' (fldv h2 66 19) (Z' 0) (fldv h2 66 22) (fldv h2 66 24) (fldv h2 66 26) (fldv h2 66 28) (fldv h2 66 30) mi' (fldv h2 66 19) (Z' 0) (fldv h2 66 22) (fldv h2 66 24) (fldv h2 66 26) (fldv h2 66 28) (fldv h2 66 30) 0 0 0 0 (rd_pt (rowv h2 67) (rowv h2 75) 0 4) (rd_pt (rowv h2 68) (rowv h2 76) 0 45) (rd_pt (rowv h2 69) (rowv h2 77) 0 18) (rd_pt (rowv h2 70) (rowv h2 78) 0 16) (rd_pt (rowv h2 71) (rowv h2 79) 0 18) (rd_pt (rowv h2 72) (rowv h2 80) 0 8) (rowv h2 75) (rowv h2 76) (rowv h2 77) (rowv h2 78) (rowv h2 79) (rowv h2 80)) (67 + k) = some (.inl (0, je_l k, y)) ∧ ∀ i, i < je_l k → am_ag y i = am_ag (Y' k) i := by
      have yr : ∀ k, k < 6 → rowv h2 (75 + k) = Y' k := fun k hk => by unfold rowv; rw [(fz k hk).2]
      have pt : ∀ k w, k < 6 → ∀ i, i < rd_yl k → am_ag (rd_pt w (rowv h2 (75 + k)) 0 (rd_yl k)) i = am_ag (Y' k) i := fun k w hk i hi => by rw [rd_pt_ag, if_pos ⟨Nat.zero_le _, by omega⟩, Nat.sub_zero, yr k hk]
      have fv : ∀ k, k < 6 → fldv h2 66 (20 + 2 * k) = Z' k := fun k hk => fldv_fv (fz k hk).1
      have v19 := fldv_fv f19
      refine ⟨?_, ?_, fun k hk => ?_⟩
      · unfold ax_fv
        rw [rl_g66 hR]
        rfl
      · unfold ax_fv
        rw [rl_g66 hR]
        show some (Value.retAddr (fldv h2 66 19)) = _
        rw [v19]
      · have q := fv k hk
        have z := pt k
        match k, hk, q, z with
        | 0, hk, q, z => exact ⟨by unfold ax_fv; rw [rl_g66 hR]; rfl, _, rl_g67 hR, z _ hk⟩
        | 1, hk, q, z => exact ⟨by rw [← q]; unfold ax_fv; rw [rl_g66 hR]; rfl, _, rl_g68 hR, z _ hk⟩
        | 2, hk, q, z => exact ⟨by rw [← q]; unfold ax_fv; rw [rl_g66 hR]; rfl, _, rl_g69 hR, z _ hk⟩
        | 3, hk, q, z => exact ⟨by rw [← q]; unfold ax_fv; rw [rl_g66 hR]; rfl, _, rl_g70 hR, z _ hk⟩
        | 4, hk, q, z => exact ⟨by rw [← q]; unfold ax_fv; rw [rl_g66 hR]; rfl, _, rl_g71 hR, z _ hk⟩
        | 5, hk, q, z => exact ⟨by rw [← q]; unfold ax_fv; rw [rl_g66 hR]; rfl, _, rl_g72 hR, z _ hk⟩
        | k + 6, hk, _, _ => exact absurd hk (by omega)
    have jE4 : jv_E (rl h2 (valv h2 66) mi' (fldv h2 66 19) (Z' 0) (fldv h2 66 22) (fldv h2 66 24) (fldv h2 66 26) (fldv h2 66 28) (fldv h2 66 30) mi' (fldv h2 66 19) (Z' 0) (fldv h2 66 22) (fldv h2 66 24) (fldv h2 66 26) (fldv h2 66 28) (fldv h2 66 30) 0 0 0 0 (rd_pt (rowv h2 67) (rowv h2 75) 0 4) (rd_pt (rowv h2 68) (rowv h2 76) 0 45) (rd_pt (rowv h2 69) (rowv h2 77) 0 18) (rd_pt (rowv h2 70) (rowv h2 78) 0 16) (rd_pt (rowv h2 71) (rowv h2 79) 0 18) (rd_pt (rowv h2 72) (rowv h2 80) 0 8) (rowv h2 75) (rowv h2 76) (rowv h2 77) (rowv h2 78) (rowv h2 79) (rowv h2 80)) := by
      rcases hK.2 with ⟨i, d1, d2⟩ | ⟨i, d1, d2⟩
      · have i4 := ol_X0 (f := valv h2 66) (l0 := (fldv h2 66 18)) (l1 := (fldv h2 66 19)) (l2 := (fldv h2 66 20)) (l4 := (fldv h2 66 22)) (l6 := (fldv h2 66 24)) (l8 := (fldv h2 66 26)) (l10 := (fldv h2 66 28)) (l12 := (fldv h2 66 30)) (rl_ := (fldv h2 66 18)) (rg := (fldv h2 66 19)) (z1 := (fldv h2 66 20)) (z2 := (fldv h2 66 22)) (z3 := (fldv h2 66 24)) (z4 := (fldv h2 66 26)) (z5 := (fldv h2 66 28)) (z6 := (fldv h2 66 30)) (fm := 0) (gs := 0) (ac := 0) (kp := 0) (w1 := (rd_pt (rowv h2 67) (rowv h2 75) 0 4)) (w2 := (rd_pt (rowv h2 68) (rowv h2 76) 0 45)) (w3 := (rd_pt (rowv h2 69) (rowv h2 77) 0 18)) (w4 := (rd_pt (rowv h2 70) (rowv h2 78) 0 16)) (w5 := (rd_pt (rowv h2 71) (rowv h2 79) 0 18)) (w6 := (rd_pt (rowv h2 72) (rowv h2 80) 0 8)) (y1 := (rowv h2 75)) (y2 := (rowv h2 76)) (y3 := (rowv h2 77)) (y4 := (rowv h2 78)) (y5 := (rowv h2 79)) (y6 := (rowv h2 80)) m2 (x2a i)
        rw [v20, v18] at i4
        exact Or.inl ⟨i4, jl_D (by decide) (by decide) k3 hz0 lo4 d1 d2 me⟩
      · have i4 := ol_X1 (f := valv h2 66) (l0 := (fldv h2 66 18)) (l1 := (fldv h2 66 19)) (l2 := (fldv h2 66 20)) (l4 := (fldv h2 66 22)) (l6 := (fldv h2 66 24)) (l8 := (fldv h2 66 26)) (l10 := (fldv h2 66 28)) (l12 := (fldv h2 66 30)) (rl_ := (fldv h2 66 18)) (rg := (fldv h2 66 19)) (z1 := (fldv h2 66 20)) (z2 := (fldv h2 66 22)) (z3 := (fldv h2 66 24)) (z4 := (fldv h2 66 26)) (z5 := (fldv h2 66 28)) (z6 := (fldv h2 66 30)) (fm := 0) (gs := 0) (ac := 0) (kp := 0) (w1 := (rd_pt (rowv h2 67) (rowv h2 75) 0 4)) (w2 := (rd_pt (rowv h2 68) (rowv h2 76) 0 45)) (w3 := (rd_pt (rowv h2 69) (rowv h2 77) 0 18)) (w4 := (rd_pt (rowv h2 70) (rowv h2 78) 0 16)) (w5 := (rd_pt (rowv h2 71) (rowv h2 79) 0 18)) (w6 := (rd_pt (rowv h2 72) (rowv h2 80) 0 8)) (y1 := (rowv h2 75)) (y2 := (rowv h2 76)) (y3 := (rowv h2 77)) (y4 := (rowv h2 78)) (y5 := (rowv h2 79)) (y6 := (rowv h2 80)) m2 (x2b i)
        rw [v20, v18] at i4
        exact Or.inr ⟨i4, jl_D (by decide) (by decide) k3 hz0 lo4 d1 d2 me⟩
    have hK := hK.1
    refine ⟨_, mly_0 g66 em e', ⟨⟨x3, m3⟩, ⟨n, ?_, ?_, tx, T, ?_, ?_, al, ⟨0, ?_, ?_⟩, jE4⟩, ?_⟩, ?_⟩
    · rw [ax_fv_get (rl_o hR rfl), ax_fv_get g0]
      exact t1
    · unfold ax_fv
      rw [rl_g66 hR]
      show some (valv h2 66 15) = _
      rw [valv_fv f15]
    · rw [rl_o hR rfl, g1]
      exact x1
    · rw [rl_o hR rfl, g73]
    · rw [ax_fv_get (rl_o hR rfl), ax_fv_get g0]
      exact hK
    · unfold ax_fv
      rw [rl_g66 hR]
      rfl
    · obtain ⟨a, k, x, -, -, q3, -⟩ := q2
      refine ⟨0, 0, x, ?_, ?_, ?_, Nat.zero_le _⟩
      · unfold ax_fv
        rw [rl_g66 hR]
        rfl
      · unfold ax_fv
        rw [rl_g66 hR]
        rfl
      · rw [rl_o hR rfl]
        exact q3
    · have := am_ups_1 (h := h2)
      unfold rl
      exact ⟨(am_ups_1 _).1.trans sz.1, (am_ups_1 _).2.trans sz.2⟩
  · have hz' : am_tc .ne (Z' 0) 0 = false := by simpa using hz
    rw [if_neg (fun q => hz q.2)] at hK
    refine ⟨h2, ?_, J2 hK, sz⟩
    rw [if_neg (fun q => hz q.2)]
    refine mly_0 g66 em ?_
    have e := ml_n2 (f := valv h2 66) (l0 := (fldv h2 66 0)) (l1 := (fldv h2 66 1)) (l2 := (fldv h2 66 2)) (l4 := (fldv h2 66 4)) (l6 := (fldv h2 66 6)) (l8 := (fldv h2 66 8)) (l10 := (fldv h2 66 10)) (l12 := (fldv h2 66 12)) (rl_ := (fldv h2 66 18)) (rg := (fldv h2 66 19)) (z1 := (fldv h2 66 20)) (z2 := (fldv h2 66 22)) (z3 := (fldv h2 66 24)) (z4 := (fldv h2 66 26)) (z5 := (fldv h2 66 28)) (z6 := (fldv h2 66 30)) (fm := (fldv h2 66 39)) (gs := (fldv h2 66 40)) (ac := (fldv h2 66 42)) (kp := (fldv h2 66 53)) (w1 := (rowv h2 67)) (w2 := (rowv h2 68)) (w3 := (rowv h2 69)) (w4 := (rowv h2 70)) (w5 := (rowv h2 71)) (w6 := (rowv h2 72)) (y1 := (rowv h2 75)) (y2 := (rowv h2 76)) (y3 := (rowv h2 77)) (y4 := (rowv h2 78)) (y5 := (rowv h2 79)) (y6 := (rowv h2 80)) hR hv' (by rw [v20]; exact hz')
    exact Eq.mp (congrArg (fun q => am_Good mi_151 4 [some (.ref 66)] [.retAddr res] q (some (.retAddr 4294967294), q)) own3) e
