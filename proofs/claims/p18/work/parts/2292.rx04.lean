/-- what the class's numbers are behind readNumbers -/
def rd_rx (c : Nat → Nat) (fr res nr N : Nat) : Prop := ((res = 4294967295 ∧ ∀ n, 1 ≤ n → n ≤ 5 → ¬ rd_A c fr n) ∨ (1 ≤ N ∧ N ≤ 5 ∧ rd_A c fr N ∧ res = rd_ps c fr N ∧ ∀ j, j < N → am_ag nr j = rd_vl c (rd_ps c fr j))) ∧ (∀ j, j < 5 → am_ag nr j ≤ 99) ∧ 1 ≤ N ∧ N ≤ 5
theorem rd_mx {q : Nat} (h : q < 2147483648) : (bif am_tlt 0 q then q else 0) = q := by
  by_cases q0 : q = 0
  · subst q0
    rw [show am_tlt 0 0 = false from rfl, cond_false]
  · rw [show am_tlt 0 q = true from tc_lt_t (by omega), cond_true]
/-! ===== the reader of the class, evening 4 ===== -/
def rx4 (h : am_H)  (tx N nr mi go z1 c1 z2 c2 z3 c3 z4 c4 z5 c5 z6 c6 : Nat) : am_H := am_ups h [(1, .inl (1, 200, tx)), (2, .inr (6, [.ref 3, .retAddr N])), (3, .inl (0, 5, nr)), (4, .inr (1, [.ref 5, .ref 7, .ref 9, .ref 11, .ref 13, .ref 15, .retAddr mi, .retAddr go])), (5, .inr (8, [.ref 6, .retAddr 1, .retAddr 4, .retAddr z1])), (6, .inl (0, 45, c1)), (7, .inr (8, [.ref 8, .retAddr 5, .retAddr 9, .retAddr z2])), (8, .inl (0, 45, c2)), (9, .inr (8, [.ref 10, .retAddr 3, .retAddr 6, .retAddr z3])), (10, .inl (0, 45, c3)), (11, .inr (8, [.ref 12, .retAddr 4, .retAddr 4, .retAddr z4])), (12, .inl (0, 45, c4)), (13, .inr (8, [.ref 14, .retAddr 3, .retAddr 6, .retAddr z5])), (14, .inl (0, 45, c5)), (15, .inr (8, [.ref 16, .retAddr 2, .retAddr 4, .retAddr z6])), (16, .inl (0, 45, c6))]
def rx4_ok (h : am_H) : Prop := am_ke h [1, 2, 3, 4, 5, 6, 7, 8, 9, 10, 11, 12, 13, 14, 15, 16]
theorem rx4_g1 {h : am_H}  {tx N nr mi go z1 c1 z2 c2 z3 c3 z4 c4 z5 c5 z6 c6 : Nat} (hH : rx4_ok h) : am_get (rx4 h  tx N nr mi go z1 c1 z2 c2 z3 c3 z4 c4 z5 c5 z6 c6) 1 = some (.inl (1, 200, tx)) := am_ups_g hH rfl
theorem rx4_u1 {h : am_H}  {tx N nr mi go z1 c1 z2 c2 z3 c3 z4 c4 z5 c5 z6 c6 : Nat} (hH : rx4_ok h) {tx' : Nat} : am_upd (rx4 h  tx N nr mi go z1 c1 z2 c2 z3 c3 z4 c4 z5 c5 z6 c6) 1 (.inl (1, 200, tx')) = (rx4 h  tx' N nr mi go z1 c1 z2 c2 z3 c3 z4 c4 z5 c5 z6 c6) := by
  unfold rx4
  refine am_upd_ups ?_ ⟨rfl, rfl⟩
  exact hH
theorem rx4_g2 {h : am_H}  {tx N nr mi go z1 c1 z2 c2 z3 c3 z4 c4 z5 c5 z6 c6 : Nat} (hH : rx4_ok h) : am_get (rx4 h  tx N nr mi go z1 c1 z2 c2 z3 c3 z4 c4 z5 c5 z6 c6) 2 = some (.inr (6, [.ref 3, .retAddr N])) := am_ups_g hH rfl
theorem rx4_u2 {h : am_H}  {tx N nr mi go z1 c1 z2 c2 z3 c3 z4 c4 z5 c5 z6 c6 : Nat} (hH : rx4_ok h) {N' : Nat} : am_upd (rx4 h  tx N nr mi go z1 c1 z2 c2 z3 c3 z4 c4 z5 c5 z6 c6) 2 (.inr (6, [.ref 3, .retAddr N'])) = (rx4 h  tx N' nr mi go z1 c1 z2 c2 z3 c3 z4 c4 z5 c5 z6 c6) := by
  unfold rx4
  refine am_upd_ups ?_ ⟨rfl, rfl⟩
  exact hH
theorem rx4_g3 {h : am_H}  {tx N nr mi go z1 c1 z2 c2 z3 c3 z4 c4 z5 c5 z6 c6 : Nat} (hH : rx4_ok h) : am_get (rx4 h  tx N nr mi go z1 c1 z2 c2 z3 c3 z4 c4 z5 c5 z6 c6) 3 = some (.inl (0, 5, nr)) := am_ups_g hH rfl
theorem rx4_u3 {h : am_H}  {tx N nr mi go z1 c1 z2 c2 z3 c3 z4 c4 z5 c5 z6 c6 : Nat} (hH : rx4_ok h) {nr' : Nat} : am_upd (rx4 h  tx N nr mi go z1 c1 z2 c2 z3 c3 z4 c4 z5 c5 z6 c6) 3 (.inl (0, 5, nr')) = (rx4 h  tx N nr' mi go z1 c1 z2 c2 z3 c3 z4 c4 z5 c5 z6 c6) := by
  unfold rx4
  refine am_upd_ups ?_ ⟨rfl, rfl⟩
  exact hH
theorem rx4_g4 {h : am_H}  {tx N nr mi go z1 c1 z2 c2 z3 c3 z4 c4 z5 c5 z6 c6 : Nat} (hH : rx4_ok h) : am_get (rx4 h  tx N nr mi go z1 c1 z2 c2 z3 c3 z4 c4 z5 c5 z6 c6) 4 = some (.inr (1, [.ref 5, .ref 7, .ref 9, .ref 11, .ref 13, .ref 15, .retAddr mi, .retAddr go])) := am_ups_g hH rfl
theorem rx4_u4 {h : am_H}  {tx N nr mi go z1 c1 z2 c2 z3 c3 z4 c4 z5 c5 z6 c6 : Nat} (hH : rx4_ok h) {mi' go' : Nat} : am_upd (rx4 h  tx N nr mi go z1 c1 z2 c2 z3 c3 z4 c4 z5 c5 z6 c6) 4 (.inr (1, [.ref 5, .ref 7, .ref 9, .ref 11, .ref 13, .ref 15, .retAddr mi', .retAddr go'])) = (rx4 h  tx N nr mi' go' z1 c1 z2 c2 z3 c3 z4 c4 z5 c5 z6 c6) := by
  unfold rx4
  refine am_upd_ups ?_ ⟨rfl, rfl⟩
  exact hH
theorem rx4_g5 {h : am_H}  {tx N nr mi go z1 c1 z2 c2 z3 c3 z4 c4 z5 c5 z6 c6 : Nat} (hH : rx4_ok h) : am_get (rx4 h  tx N nr mi go z1 c1 z2 c2 z3 c3 z4 c4 z5 c5 z6 c6) 5 = some (.inr (8, [.ref 6, .retAddr 1, .retAddr 4, .retAddr z1])) := am_ups_g hH rfl
theorem rx4_u5 {h : am_H}  {tx N nr mi go z1 c1 z2 c2 z3 c3 z4 c4 z5 c5 z6 c6 : Nat} (hH : rx4_ok h) {z1' : Nat} : am_upd (rx4 h  tx N nr mi go z1 c1 z2 c2 z3 c3 z4 c4 z5 c5 z6 c6) 5 (.inr (8, [.ref 6, .retAddr 1, .retAddr 4, .retAddr z1'])) = (rx4 h  tx N nr mi go z1' c1 z2 c2 z3 c3 z4 c4 z5 c5 z6 c6) := by
  unfold rx4
  refine am_upd_ups ?_ ⟨rfl, rfl⟩
  exact hH
theorem rx4_g6 {h : am_H}  {tx N nr mi go z1 c1 z2 c2 z3 c3 z4 c4 z5 c5 z6 c6 : Nat} (hH : rx4_ok h) : am_get (rx4 h  tx N nr mi go z1 c1 z2 c2 z3 c3 z4 c4 z5 c5 z6 c6) 6 = some (.inl (0, 45, c1)) := am_ups_g hH rfl
theorem rx4_u6 {h : am_H}  {tx N nr mi go z1 c1 z2 c2 z3 c3 z4 c4 z5 c5 z6 c6 : Nat} (hH : rx4_ok h) {c1' : Nat} : am_upd (rx4 h  tx N nr mi go z1 c1 z2 c2 z3 c3 z4 c4 z5 c5 z6 c6) 6 (.inl (0, 45, c1')) = (rx4 h  tx N nr mi go z1 c1' z2 c2 z3 c3 z4 c4 z5 c5 z6 c6) := by
  unfold rx4
  refine am_upd_ups ?_ ⟨rfl, rfl⟩
  exact hH
theorem rx4_g7 {h : am_H}  {tx N nr mi go z1 c1 z2 c2 z3 c3 z4 c4 z5 c5 z6 c6 : Nat} (hH : rx4_ok h) : am_get (rx4 h  tx N nr mi go z1 c1 z2 c2 z3 c3 z4 c4 z5 c5 z6 c6) 7 = some (.inr (8, [.ref 8, .retAddr 5, .retAddr 9, .retAddr z2])) := am_ups_g hH rfl
theorem rx4_u7 {h : am_H}  {tx N nr mi go z1 c1 z2 c2 z3 c3 z4 c4 z5 c5 z6 c6 : Nat} (hH : rx4_ok h) {z2' : Nat} : am_upd (rx4 h  tx N nr mi go z1 c1 z2 c2 z3 c3 z4 c4 z5 c5 z6 c6) 7 (.inr (8, [.ref 8, .retAddr 5, .retAddr 9, .retAddr z2'])) = (rx4 h  tx N nr mi go z1 c1 z2' c2 z3 c3 z4 c4 z5 c5 z6 c6) := by
  unfold rx4
  refine am_upd_ups ?_ ⟨rfl, rfl⟩
  exact hH
theorem rx4_g8 {h : am_H}  {tx N nr mi go z1 c1 z2 c2 z3 c3 z4 c4 z5 c5 z6 c6 : Nat} (hH : rx4_ok h) : am_get (rx4 h  tx N nr mi go z1 c1 z2 c2 z3 c3 z4 c4 z5 c5 z6 c6) 8 = some (.inl (0, 45, c2)) := am_ups_g hH rfl
theorem rx4_u8 {h : am_H}  {tx N nr mi go z1 c1 z2 c2 z3 c3 z4 c4 z5 c5 z6 c6 : Nat} (hH : rx4_ok h) {c2' : Nat} : am_upd (rx4 h  tx N nr mi go z1 c1 z2 c2 z3 c3 z4 c4 z5 c5 z6 c6) 8 (.inl (0, 45, c2')) = (rx4 h  tx N nr mi go z1 c1 z2 c2' z3 c3 z4 c4 z5 c5 z6 c6) := by
  unfold rx4
  refine am_upd_ups ?_ ⟨rfl, rfl⟩
  exact hH
theorem rx4_g9 {h : am_H}  {tx N nr mi go z1 c1 z2 c2 z3 c3 z4 c4 z5 c5 z6 c6 : Nat} (hH : rx4_ok h) : am_get (rx4 h  tx N nr mi go z1 c1 z2 c2 z3 c3 z4 c4 z5 c5 z6 c6) 9 = some (.inr (8, [.ref 10, .retAddr 3, .retAddr 6, .retAddr z3])) := am_ups_g hH rfl
theorem rx4_u9 {h : am_H}  {tx N nr mi go z1 c1 z2 c2 z3 c3 z4 c4 z5 c5 z6 c6 : Nat} (hH : rx4_ok h) {z3' : Nat} : am_upd (rx4 h  tx N nr mi go z1 c1 z2 c2 z3 c3 z4 c4 z5 c5 z6 c6) 9 (.inr (8, [.ref 10, .retAddr 3, .retAddr 6, .retAddr z3'])) = (rx4 h  tx N nr mi go z1 c1 z2 c2 z3' c3 z4 c4 z5 c5 z6 c6) := by
  unfold rx4
  refine am_upd_ups ?_ ⟨rfl, rfl⟩
  exact hH
theorem rx4_g10 {h : am_H}  {tx N nr mi go z1 c1 z2 c2 z3 c3 z4 c4 z5 c5 z6 c6 : Nat} (hH : rx4_ok h) : am_get (rx4 h  tx N nr mi go z1 c1 z2 c2 z3 c3 z4 c4 z5 c5 z6 c6) 10 = some (.inl (0, 45, c3)) := am_ups_g hH rfl
theorem rx4_u10 {h : am_H}  {tx N nr mi go z1 c1 z2 c2 z3 c3 z4 c4 z5 c5 z6 c6 : Nat} (hH : rx4_ok h) {c3' : Nat} : am_upd (rx4 h  tx N nr mi go z1 c1 z2 c2 z3 c3 z4 c4 z5 c5 z6 c6) 10 (.inl (0, 45, c3')) = (rx4 h  tx N nr mi go z1 c1 z2 c2 z3 c3' z4 c4 z5 c5 z6 c6) := by
  unfold rx4
  refine am_upd_ups ?_ ⟨rfl, rfl⟩
  exact hH
theorem rx4_g11 {h : am_H}  {tx N nr mi go z1 c1 z2 c2 z3 c3 z4 c4 z5 c5 z6 c6 : Nat} (hH : rx4_ok h) : am_get (rx4 h  tx N nr mi go z1 c1 z2 c2 z3 c3 z4 c4 z5 c5 z6 c6) 11 = some (.inr (8, [.ref 12, .retAddr 4, .retAddr 4, .retAddr z4])) := am_ups_g hH rfl
theorem rx4_u11 {h : am_H}  {tx N nr mi go z1 c1 z2 c2 z3 c3 z4 c4 z5 c5 z6 c6 : Nat} (hH : rx4_ok h) {z4' : Nat} : am_upd (rx4 h  tx N nr mi go z1 c1 z2 c2 z3 c3 z4 c4 z5 c5 z6 c6) 11 (.inr (8, [.ref 12, .retAddr 4, .retAddr 4, .retAddr z4'])) = (rx4 h  tx N nr mi go z1 c1 z2 c2 z3 c3 z4' c4 z5 c5 z6 c6) := by
  unfold rx4
  refine am_upd_ups ?_ ⟨rfl, rfl⟩
  exact hH
theorem rx4_g12 {h : am_H}  {tx N nr mi go z1 c1 z2 c2 z3 c3 z4 c4 z5 c5 z6 c6 : Nat} (hH : rx4_ok h) : am_get (rx4 h  tx N nr mi go z1 c1 z2 c2 z3 c3 z4 c4 z5 c5 z6 c6) 12 = some (.inl (0, 45, c4)) := am_ups_g hH rfl
theorem rx4_u12 {h : am_H}  {tx N nr mi go z1 c1 z2 c2 z3 c3 z4 c4 z5 c5 z6 c6 : Nat} (hH : rx4_ok h) {c4' : Nat} : am_upd (rx4 h  tx N nr mi go z1 c1 z2 c2 z3 c3 z4 c4 z5 c5 z6 c6) 12 (.inl (0, 45, c4')) = (rx4 h  tx N nr mi go z1 c1 z2 c2 z3 c3 z4 c4' z5 c5 z6 c6) := by
  unfold rx4
  refine am_upd_ups ?_ ⟨rfl, rfl⟩
  exact hH
theorem rx4_g13 {h : am_H}  {tx N nr mi go z1 c1 z2 c2 z3 c3 z4 c4 z5 c5 z6 c6 : Nat} (hH : rx4_ok h) : am_get (rx4 h  tx N nr mi go z1 c1 z2 c2 z3 c3 z4 c4 z5 c5 z6 c6) 13 = some (.inr (8, [.ref 14, .retAddr 3, .retAddr 6, .retAddr z5])) := am_ups_g hH rfl
theorem rx4_u13 {h : am_H}  {tx N nr mi go z1 c1 z2 c2 z3 c3 z4 c4 z5 c5 z6 c6 : Nat} (hH : rx4_ok h) {z5' : Nat} : am_upd (rx4 h  tx N nr mi go z1 c1 z2 c2 z3 c3 z4 c4 z5 c5 z6 c6) 13 (.inr (8, [.ref 14, .retAddr 3, .retAddr 6, .retAddr z5'])) = (rx4 h  tx N nr mi go z1 c1 z2 c2 z3 c3 z4 c4 z5' c5 z6 c6) := by
  unfold rx4
  refine am_upd_ups ?_ ⟨rfl, rfl⟩
  exact hH
theorem rx4_g14 {h : am_H}  {tx N nr mi go z1 c1 z2 c2 z3 c3 z4 c4 z5 c5 z6 c6 : Nat} (hH : rx4_ok h) : am_get (rx4 h  tx N nr mi go z1 c1 z2 c2 z3 c3 z4 c4 z5 c5 z6 c6) 14 = some (.inl (0, 45, c5)) := am_ups_g hH rfl
theorem rx4_u14 {h : am_H}  {tx N nr mi go z1 c1 z2 c2 z3 c3 z4 c4 z5 c5 z6 c6 : Nat} (hH : rx4_ok h) {c5' : Nat} : am_upd (rx4 h  tx N nr mi go z1 c1 z2 c2 z3 c3 z4 c4 z5 c5 z6 c6) 14 (.inl (0, 45, c5')) = (rx4 h  tx N nr mi go z1 c1 z2 c2 z3 c3 z4 c4 z5 c5' z6 c6) := by
  unfold rx4
  refine am_upd_ups ?_ ⟨rfl, rfl⟩
  exact hH
theorem rx4_g15 {h : am_H}  {tx N nr mi go z1 c1 z2 c2 z3 c3 z4 c4 z5 c5 z6 c6 : Nat} (hH : rx4_ok h) : am_get (rx4 h  tx N nr mi go z1 c1 z2 c2 z3 c3 z4 c4 z5 c5 z6 c6) 15 = some (.inr (8, [.ref 16, .retAddr 2, .retAddr 4, .retAddr z6])) := am_ups_g hH rfl
theorem rx4_u15 {h : am_H}  {tx N nr mi go z1 c1 z2 c2 z3 c3 z4 c4 z5 c5 z6 c6 : Nat} (hH : rx4_ok h) {z6' : Nat} : am_upd (rx4 h  tx N nr mi go z1 c1 z2 c2 z3 c3 z4 c4 z5 c5 z6 c6) 15 (.inr (8, [.ref 16, .retAddr 2, .retAddr 4, .retAddr z6'])) = (rx4 h  tx N nr mi go z1 c1 z2 c2 z3 c3 z4 c4 z5 c5 z6' c6) := by
  unfold rx4
  refine am_upd_ups ?_ ⟨rfl, rfl⟩
  exact hH
theorem rx4_g16 {h : am_H}  {tx N nr mi go z1 c1 z2 c2 z3 c3 z4 c4 z5 c5 z6 c6 : Nat} (hH : rx4_ok h) : am_get (rx4 h  tx N nr mi go z1 c1 z2 c2 z3 c3 z4 c4 z5 c5 z6 c6) 16 = some (.inl (0, 45, c6)) := am_ups_g hH rfl
theorem rx4_u16 {h : am_H}  {tx N nr mi go z1 c1 z2 c2 z3 c3 z4 c4 z5 c5 z6 c6 : Nat} (hH : rx4_ok h) {c6' : Nat} : am_upd (rx4 h  tx N nr mi go z1 c1 z2 c2 z3 c3 z4 c4 z5 c5 z6 c6) 16 (.inl (0, 45, c6')) = (rx4 h  tx N nr mi go z1 c1 z2 c2 z3 c3 z4 c4 z5 c5 z6 c6') := by
  unfold rx4
  refine am_upd_ups ?_ ⟨rfl, rfl⟩
  exact hH
theorem rx4_o {h : am_H}  {tx N nr mi go z1 c1 z2 c2 z3 c3 z4 c4 z5 c5 z6 c6 : Nat} (hH : rx4_ok h) {a : Nat} (ha : am_lk [(1, am_e0), (2, am_e0), (3, am_e0), (4, am_e0), (5, am_e0), (6, am_e0), (7, am_e0), (8, am_e0), (9, am_e0), (10, am_e0), (11, am_e0), (12, am_e0), (13, am_e0), (14, am_e0), (15, am_e0), (16, am_e0)] a = none) : am_get (rx4 h  tx N nr mi go z1 c1 z2 c2 z3 c3 z4 c4 z5 c5 z6 c6) a = am_get h a := by
  unfold rx4
  refine am_ups_n ?_ ?_
  · exact hH
  · exact (am_lk_k (by rfl)).mp ha
theorem rd_if1 {h : am_H} {x : Nat} (hx : x < 65536) (hc : 48 ≤ x ∧ x ≤ 57) : am_EG mi_19 [.retAddr x] h (some (.retAddr 1), h) := by
  refine am_enter (n := 0) tk_19.2.1 (by simp [Value.category]) (Nat.le_of_ble_eq_true rfl) ?_
  show am_Good mi_19 0 [some (.retAddr x)] [] h _
  refine g_iload_n (i := 0) dd_19_0 rfl ?_
  refine g_bipush dd_19_1 bi_48 ?_
  refine g_icmp_lt_f (t := 16) dd_19_3 (by decide) (by first | exact sk_lt_f (by omega) (by omega) | exact tk_lt_f (by omega)) ?_
  refine g_iload_n (i := 0) dd_19_6 rfl ?_
  refine g_bipush dd_19_7 bi_57 ?_
  refine g_icmp_gt_f (t := 16) dd_19_9 (by decide) (by first | exact sk_gt_f (by omega) (by omega) | exact tk_gt_f (by omega)) ?_
  refine g_iconst dd_19_12 ic_1 ?_
  refine g_goto (t := 17) dd_19_13 (by decide) ?_
  exact g_zreturn rfl (by first | decide | omega) dd_19_17
theorem rd_if0 {h : am_H} {x : Nat} (hx : x < 65536) (hc : ¬ (48 ≤ x ∧ x ≤ 57)) : am_EG mi_19 [.retAddr x] h (some (.retAddr 0), h) := by
  refine am_enter (n := 0) tk_19.2.1 (by simp [Value.category]) (Nat.le_of_ble_eq_true rfl) ?_
  show am_Good mi_19 0 [some (.retAddr x)] [] h _
  refine g_iload_n (i := 0) dd_19_0 rfl ?_
  refine g_bipush dd_19_1 bi_48 ?_
  by_cases hq : x < 48
  · refine g_icmp_lt_t (t := 16) dd_19_3 (by decide) (by first | exact sk_lt_t (by omega) (by omega) | exact tk_lt_t (by omega)) ?_
    refine g_iconst dd_19_16 ic_0 ?_
    exact g_zreturn rfl (by first | decide | omega) dd_19_17
  · refine g_icmp_lt_f (t := 16) dd_19_3 (by decide) (by first | exact sk_lt_f (by omega) (by omega) | exact tk_lt_f (by omega)) ?_
    refine g_iload_n (i := 0) dd_19_6 rfl ?_
    refine g_bipush dd_19_7 bi_57 ?_
    refine g_icmp_gt_t (t := 16) dd_19_9 (by decide) (by first | exact sk_gt_t (by omega) (by omega) | exact tk_gt_t (by omega)) ?_
    refine g_iconst dd_19_16 ic_0 ?_
    exact g_zreturn rfl (by first | decide | omega) dd_19_17
theorem x4_fa {h : am_H} {tx N nr mi go z1 c1 z2 c2 z3 c3 z4 c4 z5 c5 z6 c6 : Nat} (hH : rx4_ok h) {len p : Nat} (hch : ∀ i, i < 200 → am_ag tx i < 65536) (hlen : len ≤ 200) (hp : p ≤ len) : am_EG mi_18 [.ref 1, .retAddr len, .retAddr p] (rx4 h tx N nr mi go z1 c1 z2 c2 z3 c3 z4 c4 z5 c5 z6 c6) (some (.retAddr (rd_nf (rd_c tx len) p)), (rx4 h tx N nr mi go z1 c1 z2 c2 z3 c3 z4 c4 z5 c5 z6 c6)) := by
  refine am_enter (n := 1) tk_18.2.1 (by simp [Value.category]) (Nat.le_of_ble_eq_true rfl) ?_
  show am_Good mi_18 0 [some (.ref 1), some (.retAddr len), some (.retAddr p), none] [] (rx4 h tx N nr mi go z1 c1 z2 c2 z3 c3 z4 c4 z5 c5 z6 c6) _
  refine g_iconst dd_18_0 ic_0 ?_
  refine g_istore_n (i := 3) dd_18_1 (am_nlb_ok rfl) (by decide) ?_
  refine g_iload_n (i := 3) dd_18_2 rfl ?_
  refine g_iconst dd_18_3 ic_2 ?_
  refine g_icmp_ge_f (t := 31) dd_18_4 (by decide) (by decide) ?_
  refine g_iload_n (i := 2) dd_18_7 rfl ?_
  refine g_iload_n (i := 3) dd_18_8 rfl ?_
  refine e_iadd (v := p) dd_18_9 (by omega) ?_
  refine g_iload_n (i := 1) dd_18_10 rfl ?_
  by_cases hl0 : len ≤ p
  · refine g_icmp_ge_t (t := 31) dd_18_11 (by decide) (by first | exact sk_ge_t (by omega) (by omega) | exact tk_ge_t (by omega)) ?_
    refine g_iload_n (i := 3) dd_18_31 rfl ?_
    rw [rd_nf_0 (c := (rd_c tx len)) (p := p) (fun q => by have := rd_fg_iff.mp q; omega)]
    exact g_ireturn rfl dd_18_32
  · refine g_icmp_ge_f (t := 31) dd_18_11 (by decide) (by first | exact sk_ge_f (by omega) (by omega) | exact tk_ge_f (by omega)) ?_
    refine g_aload_n (i := 0) dd_18_14 rfl ?_
    refine g_iload_n (i := 2) dd_18_15 rfl ?_
    refine g_iload_n (i := 3) dd_18_16 rfl ?_
    refine e_iadd (v := p) dd_18_17 (by omega) ?_
    refine g_caload dd_18_18 (rx4_g1 hH) (by omega) (by decide) ?_
    have hl_1 := am_ag_lt tx p
    by_cases hf0 : 48 ≤ am_ag tx p ∧ am_ag tx p ≤ 57
    · refine g_static (M' := mi_19) (n := 1) (as := [.retAddr (am_ag tx p)]) (st := []) (r1 := (some (.retAddr 1), (rx4 h tx N nr mi go z1 c1 z2 c2 z3 c3 z4 c4 z5 c5 z6 c6))) w_402 w_403 ⟨lk_19.1, lk_19.2.1, lk_19.2.2, by decide, by decide⟩ rfl (by simp [Value.category]) dd_18_19 (rd_if1 (hch p (by omega)) hf0) ?_
      show am_Good mi_18 22 [some (.ref 1), some (.retAddr len), some (.retAddr p), some (.retAddr 0)] [.retAddr 1] (rx4 h tx N nr mi go z1 c1 z2 c2 z3 c3 z4 c4 z5 c5 z6 c6) _
      refine g_if_eq_f (t := 31) dd_18_22 (by decide) (by decide) ?_
      refine e_iinc (v := 1) (w := 1) dd_18_25 rfl ic_1 (am_nlb_ok rfl) (by decide) (by omega) ?_
      refine g_goto (t := 2) dd_18_28 (by decide) ?_
      refine g_iload_n (i := 3) dd_18_2 rfl ?_
      refine g_iconst dd_18_3 ic_2 ?_
      refine g_icmp_ge_f (t := 31) dd_18_4 (by decide) (by decide) ?_
      refine g_iload_n (i := 2) dd_18_7 rfl ?_
      refine g_iload_n (i := 3) dd_18_8 rfl ?_
      refine e_iadd (v := p + 1) dd_18_9 (by omega) ?_
      refine g_iload_n (i := 1) dd_18_10 rfl ?_
      by_cases hl1 : len ≤ p + 1
      · refine g_icmp_ge_t (t := 31) dd_18_11 (by decide) (by first | exact sk_ge_t (by omega) (by omega) | exact tk_ge_t (by omega)) ?_
        refine g_iload_n (i := 3) dd_18_31 rfl ?_
        rw [rd_nf_1 (c := (rd_c tx len)) (p := p) (rd_fg_iff.mpr ⟨by omega, hf0⟩) (fun q => by have := rd_fg_iff.mp q; omega)]
        exact g_ireturn rfl dd_18_32
      · refine g_icmp_ge_f (t := 31) dd_18_11 (by decide) (by first | exact sk_ge_f (by omega) (by omega) | exact tk_ge_f (by omega)) ?_
        refine g_aload_n (i := 0) dd_18_14 rfl ?_
        refine g_iload_n (i := 2) dd_18_15 rfl ?_
        refine g_iload_n (i := 3) dd_18_16 rfl ?_
        refine e_iadd (v := p + 1) dd_18_17 (by omega) ?_
        refine g_caload dd_18_18 (rx4_g1 hH) (by omega) (by decide) ?_
        have hl_2 := am_ag_lt tx (p + 1)
        by_cases hf1 : 48 ≤ am_ag tx (p + 1) ∧ am_ag tx (p + 1) ≤ 57
        · refine g_static (M' := mi_19) (n := 1) (as := [.retAddr (am_ag tx (p + 1))]) (st := []) (r1 := (some (.retAddr 1), (rx4 h tx N nr mi go z1 c1 z2 c2 z3 c3 z4 c4 z5 c5 z6 c6))) w_402 w_403 ⟨lk_19.1, lk_19.2.1, lk_19.2.2, by decide, by decide⟩ rfl (by simp [Value.category]) dd_18_19 (rd_if1 (hch (p + 1) (by omega)) hf1) ?_
          show am_Good mi_18 22 [some (.ref 1), some (.retAddr len), some (.retAddr p), some (.retAddr 1)] [.retAddr 1] (rx4 h tx N nr mi go z1 c1 z2 c2 z3 c3 z4 c4 z5 c5 z6 c6) _
          refine g_if_eq_f (t := 31) dd_18_22 (by decide) (by decide) ?_
          refine e_iinc (v := 1) (w := 2) dd_18_25 rfl ic_1 (am_nlb_ok rfl) (by decide) (by omega) ?_
          refine g_goto (t := 2) dd_18_28 (by decide) ?_
          refine g_iload_n (i := 3) dd_18_2 rfl ?_
          refine g_iconst dd_18_3 ic_2 ?_
          refine g_icmp_ge_t (t := 31) dd_18_4 (by decide) (by decide) ?_
          refine g_iload_n (i := 3) dd_18_31 rfl ?_
          rw [rd_nf_2 (c := (rd_c tx len)) (p := p) (rd_fg_iff.mpr ⟨by omega, hf0⟩) (rd_fg_iff.mpr ⟨by omega, hf1⟩)]
          exact g_ireturn rfl dd_18_32
        · refine g_static (M' := mi_19) (n := 1) (as := [.retAddr (am_ag tx (p + 1))]) (st := []) (r1 := (some (.retAddr 0), (rx4 h tx N nr mi go z1 c1 z2 c2 z3 c3 z4 c4 z5 c5 z6 c6))) w_402 w_403 ⟨lk_19.1, lk_19.2.1, lk_19.2.2, by decide, by decide⟩ rfl (by simp [Value.category]) dd_18_19 (rd_if0 (hch (p + 1) (by omega)) hf1) ?_
          show am_Good mi_18 22 [some (.ref 1), some (.retAddr len), some (.retAddr p), some (.retAddr 1)] [.retAddr 0] (rx4 h tx N nr mi go z1 c1 z2 c2 z3 c3 z4 c4 z5 c5 z6 c6) _
          refine g_if_eq_t (t := 31) dd_18_22 (by decide) (by decide) ?_
          refine g_iload_n (i := 3) dd_18_31 rfl ?_
          rw [rd_nf_1 (c := (rd_c tx len)) (p := p) (rd_fg_iff.mpr ⟨by omega, hf0⟩) (fun q => by have := rd_fg_iff.mp q; omega)]
          exact g_ireturn rfl dd_18_32
    · refine g_static (M' := mi_19) (n := 1) (as := [.retAddr (am_ag tx p)]) (st := []) (r1 := (some (.retAddr 0), (rx4 h tx N nr mi go z1 c1 z2 c2 z3 c3 z4 c4 z5 c5 z6 c6))) w_402 w_403 ⟨lk_19.1, lk_19.2.1, lk_19.2.2, by decide, by decide⟩ rfl (by simp [Value.category]) dd_18_19 (rd_if0 (hch p (by omega)) hf0) ?_
      show am_Good mi_18 22 [some (.ref 1), some (.retAddr len), some (.retAddr p), some (.retAddr 0)] [.retAddr 0] (rx4 h tx N nr mi go z1 c1 z2 c2 z3 c3 z4 c4 z5 c5 z6 c6) _
      refine g_if_eq_t (t := 31) dd_18_22 (by decide) (by decide) ?_
      refine g_iload_n (i := 3) dd_18_31 rfl ?_
      rw [rd_nf_0 (c := (rd_c tx len)) (p := p) (fun q => by have := rd_fg_iff.mp q; omega)]
      exact g_ireturn rfl dd_18_32
theorem x4_va1 {h : am_H} {tx N nr mi go z1 c1 z2 c2 z3 c3 z4 c4 z5 c5 z6 c6 : Nat} (hH : rx4_ok h) {q : Nat} (hq : q + 1 ≤ 200) (hd0 : 48 ≤ am_ag tx q ∧ am_ag tx q ≤ 57) : am_EG mi_20 [.ref 1, .retAddr (q + 1), .retAddr 1] (rx4 h tx N nr mi go z1 c1 z2 c2 z3 c3 z4 c4 z5 c5 z6 c6) (some (.retAddr (am_ag tx q - 48)), (rx4 h tx N nr mi go z1 c1 z2 c2 z3 c3 z4 c4 z5 c5 z6 c6)) := by
  refine am_enter (n := 2) tk_20.2.1 (by simp [Value.category]) (Nat.le_of_ble_eq_true rfl) ?_
  show am_Good mi_20 0 [some (.ref 1), some (.retAddr (q + 1)), some (.retAddr 1), none, none] [] (rx4 h tx N nr mi go z1 c1 z2 c2 z3 c3 z4 c4 z5 c5 z6 c6) _
  refine g_iconst dd_20_0 ic_0 ?_
  refine g_istore_n (i := 3) dd_20_1 (am_nlb_ok rfl) (by decide) ?_
  refine g_iconst dd_20_2 ic_0 ?_
  refine g_iload_n (i := 1) dd_20_3 rfl ?_
  refine g_iload_n (i := 2) dd_20_4 rfl ?_
  refine e_isub (v := q) dd_20_5 (by omega) ?_
  refine g_mmax w_408 w_409 w_18 w_410 ⟨by decide, by decide⟩ (by simp [Value.category]) dd_20_6 ?_
  rw [show (bif am_tlt 0 q then q else 0) = q from rd_mx (by omega)]
  refine g_istore dd_20_9 (am_nlb_ok rfl) (by decide) ?_
  refine g_iload dd_20_11 rfl ?_
  refine g_iload_n (i := 1) dd_20_13 rfl ?_
  refine g_icmp_ge_f (t := 43) dd_20_14 (by decide) (by first | exact sk_ge_f (by omega) (by omega) | exact tk_ge_f (by omega)) ?_
  refine g_iload dd_20_17 rfl ?_
  refine g_aload_n (i := 0) dd_20_19 rfl ?_
  refine g_alen dd_20_20 (rx4_g1 hH) (by decide) ?_
  refine g_icmp_ge_f (t := 43) dd_20_21 (by decide) (by first | exact sk_ge_f (by omega) (by omega) | exact tk_ge_f (by omega)) ?_
  refine g_bipush dd_20_24 bi_10 ?_
  refine g_iload_n (i := 3) dd_20_26 rfl ?_
  refine e_imul (v := 0) dd_20_27 (by decide) ?_
  refine g_aload_n (i := 0) dd_20_28 rfl ?_
  refine g_iload dd_20_29 rfl ?_
  refine g_caload dd_20_31 (rx4_g1 hH) (by omega) (by decide) ?_
  have hl_1 := am_ag_lt tx q
  refine e_iadd (v := am_ag tx q) dd_20_32 (by omega) ?_
  refine g_bipush dd_20_33 bi_48 ?_
  refine e_isub (v := (am_ag tx q) - 48) dd_20_35 (by omega) ?_
  refine g_istore_n (i := 3) dd_20_36 (am_nlb_ok rfl) (by decide) ?_
  refine e_iinc (v := 1) (w := q + 1) dd_20_37 rfl ic_1 (am_nlb_ok rfl) (by decide) (by omega) ?_
  refine g_goto (t := 11) dd_20_40 (by decide) ?_
  refine g_iload dd_20_11 rfl ?_
  refine g_iload_n (i := 1) dd_20_13 rfl ?_
  refine g_icmp_ge_t (t := 43) dd_20_14 (by decide) (by first | exact sk_ge_t (by omega) (by omega) | exact tk_ge_t (by omega)) ?_
  refine g_iload_n (i := 3) dd_20_43 rfl ?_
  exact g_ireturn rfl dd_20_44
theorem x4_va2 {h : am_H} {tx N nr mi go z1 c1 z2 c2 z3 c3 z4 c4 z5 c5 z6 c6 : Nat} (hH : rx4_ok h) {q : Nat} (hq : q + 2 ≤ 200) (hd0 : 48 ≤ am_ag tx q ∧ am_ag tx q ≤ 57) (hd1 : 48 ≤ am_ag tx (q + 1) ∧ am_ag tx (q + 1) ≤ 57) : am_EG mi_20 [.ref 1, .retAddr (q + 2), .retAddr 2] (rx4 h tx N nr mi go z1 c1 z2 c2 z3 c3 z4 c4 z5 c5 z6 c6) (some (.retAddr (10 * (am_ag tx q - 48) + am_ag tx (q + 1) - 48)), (rx4 h tx N nr mi go z1 c1 z2 c2 z3 c3 z4 c4 z5 c5 z6 c6)) := by
  refine am_enter (n := 2) tk_20.2.1 (by simp [Value.category]) (Nat.le_of_ble_eq_true rfl) ?_
  show am_Good mi_20 0 [some (.ref 1), some (.retAddr (q + 2)), some (.retAddr 2), none, none] [] (rx4 h tx N nr mi go z1 c1 z2 c2 z3 c3 z4 c4 z5 c5 z6 c6) _
  refine g_iconst dd_20_0 ic_0 ?_
  refine g_istore_n (i := 3) dd_20_1 (am_nlb_ok rfl) (by decide) ?_
  refine g_iconst dd_20_2 ic_0 ?_
  refine g_iload_n (i := 1) dd_20_3 rfl ?_
  refine g_iload_n (i := 2) dd_20_4 rfl ?_
  refine e_isub (v := q) dd_20_5 (by omega) ?_
  refine g_mmax w_408 w_409 w_18 w_410 ⟨by decide, by decide⟩ (by simp [Value.category]) dd_20_6 ?_
  rw [show (bif am_tlt 0 q then q else 0) = q from rd_mx (by omega)]
  refine g_istore dd_20_9 (am_nlb_ok rfl) (by decide) ?_
  refine g_iload dd_20_11 rfl ?_
  refine g_iload_n (i := 1) dd_20_13 rfl ?_
  refine g_icmp_ge_f (t := 43) dd_20_14 (by decide) (by first | exact sk_ge_f (by omega) (by omega) | exact tk_ge_f (by omega)) ?_
  refine g_iload dd_20_17 rfl ?_
  refine g_aload_n (i := 0) dd_20_19 rfl ?_
  refine g_alen dd_20_20 (rx4_g1 hH) (by decide) ?_
  refine g_icmp_ge_f (t := 43) dd_20_21 (by decide) (by first | exact sk_ge_f (by omega) (by omega) | exact tk_ge_f (by omega)) ?_
  refine g_bipush dd_20_24 bi_10 ?_
  refine g_iload_n (i := 3) dd_20_26 rfl ?_
  refine e_imul (v := 0) dd_20_27 (by decide) ?_
  refine g_aload_n (i := 0) dd_20_28 rfl ?_
  refine g_iload dd_20_29 rfl ?_
  refine g_caload dd_20_31 (rx4_g1 hH) (by omega) (by decide) ?_
  have hl_1 := am_ag_lt tx q
  refine e_iadd (v := am_ag tx q) dd_20_32 (by omega) ?_
  refine g_bipush dd_20_33 bi_48 ?_
  refine e_isub (v := (am_ag tx q) - 48) dd_20_35 (by omega) ?_
  refine g_istore_n (i := 3) dd_20_36 (am_nlb_ok rfl) (by decide) ?_
  refine e_iinc (v := 1) (w := q + 1) dd_20_37 rfl ic_1 (am_nlb_ok rfl) (by decide) (by omega) ?_
  refine g_goto (t := 11) dd_20_40 (by decide) ?_
  refine g_iload dd_20_11 rfl ?_
  refine g_iload_n (i := 1) dd_20_13 rfl ?_
  refine g_icmp_ge_f (t := 43) dd_20_14 (by decide) (by first | exact sk_ge_f (by omega) (by omega) | exact tk_ge_f (by omega)) ?_
  refine g_iload dd_20_17 rfl ?_
  refine g_aload_n (i := 0) dd_20_19 rfl ?_
  refine g_alen dd_20_20 (rx4_g1 hH) (by decide) ?_
  refine g_icmp_ge_f (t := 43) dd_20_21 (by decide) (by first | exact sk_ge_f (by omega) (by omega) | exact tk_ge_f (by omega)) ?_
  refine g_bipush dd_20_24 bi_10 ?_
  refine g_iload_n (i := 3) dd_20_26 rfl ?_
  refine e_imul (v := 10 * ((am_ag tx q) - 48)) dd_20_27 (by omega) ?_
  refine g_aload_n (i := 0) dd_20_28 rfl ?_
  refine g_iload dd_20_29 rfl ?_
  refine g_caload dd_20_31 (rx4_g1 hH) (by omega) (by decide) ?_
  have hl_2 := am_ag_lt tx (q + 1)
  refine e_iadd (v := (10 * ((am_ag tx q) - 48)) + (am_ag tx (q + 1))) dd_20_32 (by omega) ?_
  refine g_bipush dd_20_33 bi_48 ?_
  refine e_isub (v := ((10 * ((am_ag tx q) - 48)) + (am_ag tx (q + 1))) - 48) dd_20_35 (by omega) ?_
  refine g_istore_n (i := 3) dd_20_36 (am_nlb_ok rfl) (by decide) ?_
  refine e_iinc (v := 1) (w := q + 2) dd_20_37 rfl ic_1 (am_nlb_ok rfl) (by decide) (by omega) ?_
  refine g_goto (t := 11) dd_20_40 (by decide) ?_
  refine g_iload dd_20_11 rfl ?_
  refine g_iload_n (i := 1) dd_20_13 rfl ?_
  refine g_icmp_ge_t (t := 43) dd_20_14 (by decide) (by first | exact sk_ge_t (by omega) (by omega) | exact tk_ge_t (by omega)) ?_
  refine g_iload_n (i := 3) dd_20_43 rfl ?_
  exact g_ireturn rfl dd_20_44
theorem x4_va {h : am_H} {tx N nr mi go z1 c1 z2 c2 z3 c3 z4 c4 z5 c5 z6 c6 : Nat} (hH : rx4_ok h) {len p : Nat} (hlen : len ≤ 200) (hf : rd_fg (rd_c tx len) p) : am_EG mi_20 [.ref 1, .retAddr (p + rd_nf (rd_c tx len) p), .retAddr (rd_nf (rd_c tx len) p)] (rx4 h tx N nr mi go z1 c1 z2 c2 z3 c3 z4 c4 z5 c5 z6 c6) (some (.retAddr (rd_vl (rd_c tx len) p)), (rx4 h tx N nr mi go z1 c1 z2 c2 z3 c3 z4 c4 z5 c5 z6 c6)) := by
  have h0 := rd_fg_iff.mp hf
  by_cases h1 : rd_fg (rd_c tx len) (p + 1)
  · have h2 := rd_fg_iff.mp h1
    rw [rd_nf_2 hf h1, show rd_vl (rd_c tx len) p = 10 * (am_ag tx p - 48) + am_ag tx (p + 1) - 48 from by unfold rd_vl; rw [if_pos h1, rd_c_lt h0.1, rd_c_lt h2.1]; omega]
    exact x4_va2 hH (by omega) h0.2 h2.2
  · rw [rd_nf_1 hf h1, show rd_vl (rd_c tx len) p = am_ag tx p - 48 from by unfold rd_vl; rw [if_neg h1, rd_c_lt h0.1]]
    exact x4_va1 hH (by omega) h0.2
theorem x4_nz {h : am_H} {tx N nr mi go z1 c1 z2 c2 z3 c3 z4 c4 z5 c5 z6 c6 : Nat} (hH : rx4_ok h) {len p fr k nf : Nat} {v6 v7 : Option Value} (hch : ∀ i, i < 200 → am_ag tx i < 65536) (hlen : len ≤ 200) (hp : p ≤ len) (hk : k < 5) (hnf : rd_nf (rd_c tx len) p = nf) (hnf2 : nf ≤ 2) (hn0 : nf = 0) : am_Good mi_17 6 [some (.ref 2), some (.ref 1), some (.retAddr len), some (.retAddr fr), some (.retAddr p), some (.retAddr k), v6, v7] [] (rx4 h tx N nr mi go z1 c1 z2 c2 z3 c3 z4 c4 z5 c5 z6 c6) (some (.retAddr 4294967295), (rx4 h tx N nr mi go z1 c1 z2 c2 z3 c3 z4 c4 z5 c5 z6 c6)) := by
  refine g_iload dd_17_6 rfl ?_
  refine g_iconst dd_17_8 ic_5 ?_
  refine g_icmp_ge_f (t := 98) dd_17_9 (by decide) (by first | exact sk_ge_f (by omega) (by omega) | exact tk_ge_f (by omega)) ?_
  refine g_aload_n (i := 1) dd_17_12 rfl ?_
  refine g_iload_n (i := 2) dd_17_13 rfl ?_
  refine g_iload dd_17_14 rfl ?_
  refine g_static (M' := mi_18) (n := 3) (as := [.ref 1, .retAddr len, .retAddr p]) (st := []) (r1 := (some (.retAddr nf), (rx4 h tx N nr mi go z1 c1 z2 c2 z3 c3 z4 c4 z5 c5 z6 c6))) w_399 w_400 ⟨lk_18.1, lk_18.2.1, lk_18.2.2, by decide, by decide⟩ rfl (by simp [Value.category]) dd_17_16 (by rw [← hnf]; exact x4_fa hH hch hlen hp) ?_
  show am_Good mi_17 19 [some (.ref 2), some (.ref 1), some (.retAddr len), some (.retAddr fr), some (.retAddr p), some (.retAddr k), v6, v7] [.retAddr nf] (rx4 h tx N nr mi go z1 c1 z2 c2 z3 c3 z4 c4 z5 c5 z6 c6) _
  refine g_istore dd_17_19 (am_nlb_ok rfl) (by decide) ?_
  refine g_iload dd_17_21 rfl ?_
  refine g_iload dd_17_23 rfl ?_
  refine e_iadd (v := p + nf) dd_17_25 (by omega) ?_
  refine g_istore dd_17_26 (am_nlb_ok rfl) (by decide) ?_
  refine g_iload dd_17_28 rfl ?_
  refine g_if_eq_t (t := 39) dd_17_30 (by decide) (tk_eq_t (by omega)) ?_
  refine g_iconst dd_17_39 ic_m1 ?_
  exact g_ireturn rfl dd_17_40
theorem x4_ne {h : am_H} {tx N nr mi go z1 c1 z2 c2 z3 c3 z4 c4 z5 c5 z6 c6 : Nat} (hH : rx4_ok h) {len p fr k nf : Nat} {v6 v7 : Option Value} (hch : ∀ i, i < 200 → am_ag tx i < 65536) (hlen : len ≤ 200) (hp : p ≤ len) (hk : k < 5) (hnf : rd_nf (rd_c tx len) p = nf) (hnf2 : nf ≤ 2) (hn0 : nf ≠ 0) (hsl : ¬ p + nf < len) : am_Good mi_17 6 [some (.ref 2), some (.ref 1), some (.retAddr len), some (.retAddr fr), some (.retAddr p), some (.retAddr k), v6, v7] [] (rx4 h tx N nr mi go z1 c1 z2 c2 z3 c3 z4 c4 z5 c5 z6 c6) (some (.retAddr 4294967295), (rx4 h tx N nr mi go z1 c1 z2 c2 z3 c3 z4 c4 z5 c5 z6 c6)) := by
  refine g_iload dd_17_6 rfl ?_
  refine g_iconst dd_17_8 ic_5 ?_
  refine g_icmp_ge_f (t := 98) dd_17_9 (by decide) (by first | exact sk_ge_f (by omega) (by omega) | exact tk_ge_f (by omega)) ?_
  refine g_aload_n (i := 1) dd_17_12 rfl ?_
  refine g_iload_n (i := 2) dd_17_13 rfl ?_
  refine g_iload dd_17_14 rfl ?_
  refine g_static (M' := mi_18) (n := 3) (as := [.ref 1, .retAddr len, .retAddr p]) (st := []) (r1 := (some (.retAddr nf), (rx4 h tx N nr mi go z1 c1 z2 c2 z3 c3 z4 c4 z5 c5 z6 c6))) w_399 w_400 ⟨lk_18.1, lk_18.2.1, lk_18.2.2, by decide, by decide⟩ rfl (by simp [Value.category]) dd_17_16 (by rw [← hnf]; exact x4_fa hH hch hlen hp) ?_
  show am_Good mi_17 19 [some (.ref 2), some (.ref 1), some (.retAddr len), some (.retAddr fr), some (.retAddr p), some (.retAddr k), v6, v7] [.retAddr nf] (rx4 h tx N nr mi go z1 c1 z2 c2 z3 c3 z4 c4 z5 c5 z6 c6) _
  refine g_istore dd_17_19 (am_nlb_ok rfl) (by decide) ?_
  refine g_iload dd_17_21 rfl ?_
  refine g_iload dd_17_23 rfl ?_
  refine e_iadd (v := p + nf) dd_17_25 (by omega) ?_
  refine g_istore dd_17_26 (am_nlb_ok rfl) (by decide) ?_
  refine g_iload dd_17_28 rfl ?_
  refine g_if_eq_f (t := 39) dd_17_30 (by decide) (tk_eq_f (by omega)) ?_
  refine g_iload dd_17_33 rfl ?_
  refine g_iload_n (i := 2) dd_17_35 rfl ?_
  refine g_icmp_lt_f (t := 41) dd_17_36 (by decide) (by first | exact sk_lt_f (by omega) (by omega) | exact tk_lt_f (by omega)) ?_
  refine g_iconst dd_17_39 ic_m1 ?_
  exact g_ireturn rfl dd_17_40
theorem x4_ns {h : am_H} {tx N nr mi go z1 c1 z2 c2 z3 c3 z4 c4 z5 c5 z6 c6 : Nat} (hH : rx4_ok h) {len p fr k nf : Nat} {v6 v7 : Option Value} (hch : ∀ i, i < 200 → am_ag tx i < 65536) (hlen : len ≤ 200) (hp : p ≤ len) (hk : k < 5) (hnf : rd_nf (rd_c tx len) p = nf) (hnf2 : nf ≤ 2) {vl : Nat} (hfg : rd_fg (rd_c tx len) p) (hvl : rd_vl (rd_c tx len) p = vl) (hn0 : nf ≠ 0) (hsl : p + nf < len) (hb : am_ag tx (p + nf) = 59) : am_Good mi_17 6 [some (.ref 2), some (.ref 1), some (.retAddr len), some (.retAddr fr), some (.retAddr p), some (.retAddr k), v6, v7] [] (rx4 h tx N nr mi go z1 c1 z2 c2 z3 c3 z4 c4 z5 c5 z6 c6) (some (.retAddr (p + nf + 1)), (rx4 h tx (k + 1) (am_as nr k vl) mi go z1 c1 z2 c2 z3 c3 z4 c4 z5 c5 z6 c6)) := by
  refine g_iload dd_17_6 rfl ?_
  refine g_iconst dd_17_8 ic_5 ?_
  refine g_icmp_ge_f (t := 98) dd_17_9 (by decide) (by first | exact sk_ge_f (by omega) (by omega) | exact tk_ge_f (by omega)) ?_
  refine g_aload_n (i := 1) dd_17_12 rfl ?_
  refine g_iload_n (i := 2) dd_17_13 rfl ?_
  refine g_iload dd_17_14 rfl ?_
  refine g_static (M' := mi_18) (n := 3) (as := [.ref 1, .retAddr len, .retAddr p]) (st := []) (r1 := (some (.retAddr nf), (rx4 h tx N nr mi go z1 c1 z2 c2 z3 c3 z4 c4 z5 c5 z6 c6))) w_399 w_400 ⟨lk_18.1, lk_18.2.1, lk_18.2.2, by decide, by decide⟩ rfl (by simp [Value.category]) dd_17_16 (by rw [← hnf]; exact x4_fa hH hch hlen hp) ?_
  show am_Good mi_17 19 [some (.ref 2), some (.ref 1), some (.retAddr len), some (.retAddr fr), some (.retAddr p), some (.retAddr k), v6, v7] [.retAddr nf] (rx4 h tx N nr mi go z1 c1 z2 c2 z3 c3 z4 c4 z5 c5 z6 c6) _
  refine g_istore dd_17_19 (am_nlb_ok rfl) (by decide) ?_
  refine g_iload dd_17_21 rfl ?_
  refine g_iload dd_17_23 rfl ?_
  refine e_iadd (v := p + nf) dd_17_25 (by omega) ?_
  refine g_istore dd_17_26 (am_nlb_ok rfl) (by decide) ?_
  refine g_iload dd_17_28 rfl ?_
  refine g_if_eq_f (t := 39) dd_17_30 (by decide) (tk_eq_f (by omega)) ?_
  refine g_iload dd_17_33 rfl ?_
  refine g_iload_n (i := 2) dd_17_35 rfl ?_
  refine g_icmp_lt_t (t := 41) dd_17_36 (by decide) (by first | exact sk_lt_t (by omega) (by omega) | exact tk_lt_t (by omega)) ?_
  refine g_aload_n (i := 0) dd_17_41 rfl ?_
  refine g_getfield (k := 0) am_ck6 (by decide) (Or.inl w_36) dd_17_42 (rx4_g2 hH) rfl ?_
  refine g_iload dd_17_45 rfl ?_
  refine g_aload_n (i := 1) dd_17_47 rfl ?_
  refine g_iload dd_17_48 rfl ?_
  refine g_iload dd_17_50 rfl ?_
  refine g_static (M' := mi_20) (n := 3) (as := [.ref 1, .retAddr (p + nf), .retAddr nf]) (st := [.retAddr k, .ref 3]) (r1 := (some (.retAddr vl), (rx4 h tx N nr mi go z1 c1 z2 c2 z3 c3 z4 c4 z5 c5 z6 c6))) w_405 w_406 ⟨lk_20.1, lk_20.2.1, lk_20.2.2, by decide, by decide⟩ rfl (by simp [Value.category]) dd_17_52 (by rw [← hvl, ← hnf]; exact x4_va hH hlen hfg) ?_
  show am_Good mi_17 55 [some (.ref 2), some (.ref 1), some (.retAddr len), some (.retAddr fr), some (.retAddr (p + nf)), some (.retAddr k), some (.retAddr nf), v7] [.retAddr vl, .retAddr k, .ref 3] (rx4 h tx N nr mi go z1 c1 z2 c2 z3 c3 z4 c4 z5 c5 z6 c6) _
  refine g_iastore dd_17_55 (rx4_g3 hH) (by omega) (by decide) ?_
  refine am_heq (rx4_u3 hH) ?_
  show am_Good mi_17 56 [some (.ref 2), some (.ref 1), some (.retAddr len), some (.retAddr fr), some (.retAddr (p + nf)), some (.retAddr k), some (.retAddr nf), v7] [] (rx4 h tx N (am_as nr k vl) mi go z1 c1 z2 c2 z3 c3 z4 c4 z5 c5 z6 c6) _
  refine g_aload_n (i := 0) dd_17_56 rfl ?_
  refine g_iload dd_17_57 rfl ?_
  refine g_iconst dd_17_59 ic_1 ?_
  refine e_iadd (v := k + 1) dd_17_60 (by omega) ?_
  refine g_putfield (k := 1) am_ck6 (by decide) (Or.inl w_37) (Or.inl rfl) dd_17_61 (rx4_g2 hH) (Nat.le_of_ble_eq_true rfl) trivial ?_
  refine am_heq (rx4_u2 hH) ?_
  show am_Good mi_17 64 [some (.ref 2), some (.ref 1), some (.retAddr len), some (.retAddr fr), some (.retAddr (p + nf)), some (.retAddr k), some (.retAddr nf), v7] [] (rx4 h tx (k + 1) (am_as nr k vl) mi go z1 c1 z2 c2 z3 c3 z4 c4 z5 c5 z6 c6) _
  refine g_aload_n (i := 1) dd_17_64 rfl ?_
  refine g_iload dd_17_65 rfl ?_
  refine g_caload dd_17_67 (rx4_g1 hH) (by omega) (by decide) ?_
  have hl_1 := am_ag_lt tx (p + nf)
  refine g_istore dd_17_68 (am_nlb_ok rfl) (by decide) ?_
  refine e_iinc (v := 1) (w := p + nf + 1) dd_17_70 rfl ic_1 (am_nlb_ok rfl) (by decide) (by omega) ?_
  refine g_iload dd_17_73 rfl ?_
  refine g_bipush dd_17_75 bi_59 ?_
  refine g_icmp_ne_f (t := 83) dd_17_77 (by decide) (tk_ne_f (by omega)) ?_
  refine g_iload dd_17_80 rfl ?_
  exact g_ireturn rfl dd_17_82
theorem x4_no {h : am_H} {tx N nr mi go z1 c1 z2 c2 z3 c3 z4 c4 z5 c5 z6 c6 : Nat} (hH : rx4_ok h) {len p fr k nf : Nat} {v6 v7 : Option Value} (hch : ∀ i, i < 200 → am_ag tx i < 65536) (hlen : len ≤ 200) (hp : p ≤ len) (hk : k < 5) (hnf : rd_nf (rd_c tx len) p = nf) (hnf2 : nf ≤ 2) {vl : Nat} (hfg : rd_fg (rd_c tx len) p) (hvl : rd_vl (rd_c tx len) p = vl) (hn0 : nf ≠ 0) (hsl : p + nf < len) (hb : am_ag tx (p + nf) ≠ 59) (hb2 : am_ag tx (p + nf) ≠ 44) : am_Good mi_17 6 [some (.ref 2), some (.ref 1), some (.retAddr len), some (.retAddr fr), some (.retAddr p), some (.retAddr k), v6, v7] [] (rx4 h tx N nr mi go z1 c1 z2 c2 z3 c3 z4 c4 z5 c5 z6 c6) (some (.retAddr 4294967295), (rx4 h tx (k + 1) (am_as nr k vl) mi go z1 c1 z2 c2 z3 c3 z4 c4 z5 c5 z6 c6)) := by
  refine g_iload dd_17_6 rfl ?_
  refine g_iconst dd_17_8 ic_5 ?_
  refine g_icmp_ge_f (t := 98) dd_17_9 (by decide) (by first | exact sk_ge_f (by omega) (by omega) | exact tk_ge_f (by omega)) ?_
  refine g_aload_n (i := 1) dd_17_12 rfl ?_
  refine g_iload_n (i := 2) dd_17_13 rfl ?_
  refine g_iload dd_17_14 rfl ?_
  refine g_static (M' := mi_18) (n := 3) (as := [.ref 1, .retAddr len, .retAddr p]) (st := []) (r1 := (some (.retAddr nf), (rx4 h tx N nr mi go z1 c1 z2 c2 z3 c3 z4 c4 z5 c5 z6 c6))) w_399 w_400 ⟨lk_18.1, lk_18.2.1, lk_18.2.2, by decide, by decide⟩ rfl (by simp [Value.category]) dd_17_16 (by rw [← hnf]; exact x4_fa hH hch hlen hp) ?_
  show am_Good mi_17 19 [some (.ref 2), some (.ref 1), some (.retAddr len), some (.retAddr fr), some (.retAddr p), some (.retAddr k), v6, v7] [.retAddr nf] (rx4 h tx N nr mi go z1 c1 z2 c2 z3 c3 z4 c4 z5 c5 z6 c6) _
  refine g_istore dd_17_19 (am_nlb_ok rfl) (by decide) ?_
  refine g_iload dd_17_21 rfl ?_
  refine g_iload dd_17_23 rfl ?_
  refine e_iadd (v := p + nf) dd_17_25 (by omega) ?_
  refine g_istore dd_17_26 (am_nlb_ok rfl) (by decide) ?_
  refine g_iload dd_17_28 rfl ?_
  refine g_if_eq_f (t := 39) dd_17_30 (by decide) (tk_eq_f (by omega)) ?_
  refine g_iload dd_17_33 rfl ?_
  refine g_iload_n (i := 2) dd_17_35 rfl ?_
  refine g_icmp_lt_t (t := 41) dd_17_36 (by decide) (by first | exact sk_lt_t (by omega) (by omega) | exact tk_lt_t (by omega)) ?_
  refine g_aload_n (i := 0) dd_17_41 rfl ?_
  refine g_getfield (k := 0) am_ck6 (by decide) (Or.inl w_36) dd_17_42 (rx4_g2 hH) rfl ?_
  refine g_iload dd_17_45 rfl ?_
  refine g_aload_n (i := 1) dd_17_47 rfl ?_
  refine g_iload dd_17_48 rfl ?_
  refine g_iload dd_17_50 rfl ?_
  refine g_static (M' := mi_20) (n := 3) (as := [.ref 1, .retAddr (p + nf), .retAddr nf]) (st := [.retAddr k, .ref 3]) (r1 := (some (.retAddr vl), (rx4 h tx N nr mi go z1 c1 z2 c2 z3 c3 z4 c4 z5 c5 z6 c6))) w_405 w_406 ⟨lk_20.1, lk_20.2.1, lk_20.2.2, by decide, by decide⟩ rfl (by simp [Value.category]) dd_17_52 (by rw [← hvl, ← hnf]; exact x4_va hH hlen hfg) ?_
  show am_Good mi_17 55 [some (.ref 2), some (.ref 1), some (.retAddr len), some (.retAddr fr), some (.retAddr (p + nf)), some (.retAddr k), some (.retAddr nf), v7] [.retAddr vl, .retAddr k, .ref 3] (rx4 h tx N nr mi go z1 c1 z2 c2 z3 c3 z4 c4 z5 c5 z6 c6) _
  refine g_iastore dd_17_55 (rx4_g3 hH) (by omega) (by decide) ?_
  refine am_heq (rx4_u3 hH) ?_
  show am_Good mi_17 56 [some (.ref 2), some (.ref 1), some (.retAddr len), some (.retAddr fr), some (.retAddr (p + nf)), some (.retAddr k), some (.retAddr nf), v7] [] (rx4 h tx N (am_as nr k vl) mi go z1 c1 z2 c2 z3 c3 z4 c4 z5 c5 z6 c6) _
  refine g_aload_n (i := 0) dd_17_56 rfl ?_
  refine g_iload dd_17_57 rfl ?_
  refine g_iconst dd_17_59 ic_1 ?_
  refine e_iadd (v := k + 1) dd_17_60 (by omega) ?_
  refine g_putfield (k := 1) am_ck6 (by decide) (Or.inl w_37) (Or.inl rfl) dd_17_61 (rx4_g2 hH) (Nat.le_of_ble_eq_true rfl) trivial ?_
  refine am_heq (rx4_u2 hH) ?_
  show am_Good mi_17 64 [some (.ref 2), some (.ref 1), some (.retAddr len), some (.retAddr fr), some (.retAddr (p + nf)), some (.retAddr k), some (.retAddr nf), v7] [] (rx4 h tx (k + 1) (am_as nr k vl) mi go z1 c1 z2 c2 z3 c3 z4 c4 z5 c5 z6 c6) _
  refine g_aload_n (i := 1) dd_17_64 rfl ?_
  refine g_iload dd_17_65 rfl ?_
  refine g_caload dd_17_67 (rx4_g1 hH) (by omega) (by decide) ?_
  have hl_1 := am_ag_lt tx (p + nf)
  refine g_istore dd_17_68 (am_nlb_ok rfl) (by decide) ?_
  refine e_iinc (v := 1) (w := p + nf + 1) dd_17_70 rfl ic_1 (am_nlb_ok rfl) (by decide) (by omega) ?_
  refine g_iload dd_17_73 rfl ?_
  refine g_bipush dd_17_75 bi_59 ?_
  refine g_icmp_ne_t (t := 83) dd_17_77 (by decide) (tk_ne_t (by omega)) ?_
  refine g_iload dd_17_83 rfl ?_
  refine g_bipush dd_17_85 bi_44 ?_
  refine g_icmp_eq_f (t := 92) dd_17_87 (by decide) (tk_eq_f (by omega)) ?_
  refine g_iconst dd_17_90 ic_m1 ?_
  exact g_ireturn rfl dd_17_91
theorem x4_nc {h : am_H} {tx N nr mi go z1 c1 z2 c2 z3 c3 z4 c4 z5 c5 z6 c6 : Nat} (hH : rx4_ok h) {len p fr k nf : Nat} {v6 v7 : Option Value} (hch : ∀ i, i < 200 → am_ag tx i < 65536) (hlen : len ≤ 200) (hp : p ≤ len) (hk : k < 5) (hnf : rd_nf (rd_c tx len) p = nf) (hnf2 : nf ≤ 2) {vl : Nat} (hfg : rd_fg (rd_c tx len) p) (hvl : rd_vl (rd_c tx len) p = vl) (hn0 : nf ≠ 0) (hsl : p + nf < len) (hb : am_ag tx (p + nf) = 44) {r : am_R} (hg : am_Good mi_17 6 [some (.ref 2), some (.ref 1), some (.retAddr len), some (.retAddr fr), some (.retAddr (p + nf + 1)), some (.retAddr (k + 1)), some (.retAddr nf), some (.retAddr (am_ag tx (p + nf)))] [] (rx4 h tx (k + 1) (am_as nr k vl) mi go z1 c1 z2 c2 z3 c3 z4 c4 z5 c5 z6 c6) r) : am_Good mi_17 6 [some (.ref 2), some (.ref 1), some (.retAddr len), some (.retAddr fr), some (.retAddr p), some (.retAddr k), v6, v7] [] (rx4 h tx N nr mi go z1 c1 z2 c2 z3 c3 z4 c4 z5 c5 z6 c6) r := by
  refine g_iload dd_17_6 rfl ?_
  refine g_iconst dd_17_8 ic_5 ?_
  refine g_icmp_ge_f (t := 98) dd_17_9 (by decide) (by first | exact sk_ge_f (by omega) (by omega) | exact tk_ge_f (by omega)) ?_
  refine g_aload_n (i := 1) dd_17_12 rfl ?_
  refine g_iload_n (i := 2) dd_17_13 rfl ?_
  refine g_iload dd_17_14 rfl ?_
  refine g_static (M' := mi_18) (n := 3) (as := [.ref 1, .retAddr len, .retAddr p]) (st := []) (r1 := (some (.retAddr nf), (rx4 h tx N nr mi go z1 c1 z2 c2 z3 c3 z4 c4 z5 c5 z6 c6))) w_399 w_400 ⟨lk_18.1, lk_18.2.1, lk_18.2.2, by decide, by decide⟩ rfl (by simp [Value.category]) dd_17_16 (by rw [← hnf]; exact x4_fa hH hch hlen hp) ?_
  show am_Good mi_17 19 [some (.ref 2), some (.ref 1), some (.retAddr len), some (.retAddr fr), some (.retAddr p), some (.retAddr k), v6, v7] [.retAddr nf] (rx4 h tx N nr mi go z1 c1 z2 c2 z3 c3 z4 c4 z5 c5 z6 c6) _
  refine g_istore dd_17_19 (am_nlb_ok rfl) (by decide) ?_
  refine g_iload dd_17_21 rfl ?_
  refine g_iload dd_17_23 rfl ?_
  refine e_iadd (v := p + nf) dd_17_25 (by omega) ?_
  refine g_istore dd_17_26 (am_nlb_ok rfl) (by decide) ?_
  refine g_iload dd_17_28 rfl ?_
  refine g_if_eq_f (t := 39) dd_17_30 (by decide) (tk_eq_f (by omega)) ?_
  refine g_iload dd_17_33 rfl ?_
  refine g_iload_n (i := 2) dd_17_35 rfl ?_
  refine g_icmp_lt_t (t := 41) dd_17_36 (by decide) (by first | exact sk_lt_t (by omega) (by omega) | exact tk_lt_t (by omega)) ?_
  refine g_aload_n (i := 0) dd_17_41 rfl ?_
  refine g_getfield (k := 0) am_ck6 (by decide) (Or.inl w_36) dd_17_42 (rx4_g2 hH) rfl ?_
  refine g_iload dd_17_45 rfl ?_
  refine g_aload_n (i := 1) dd_17_47 rfl ?_
  refine g_iload dd_17_48 rfl ?_
  refine g_iload dd_17_50 rfl ?_
  refine g_static (M' := mi_20) (n := 3) (as := [.ref 1, .retAddr (p + nf), .retAddr nf]) (st := [.retAddr k, .ref 3]) (r1 := (some (.retAddr vl), (rx4 h tx N nr mi go z1 c1 z2 c2 z3 c3 z4 c4 z5 c5 z6 c6))) w_405 w_406 ⟨lk_20.1, lk_20.2.1, lk_20.2.2, by decide, by decide⟩ rfl (by simp [Value.category]) dd_17_52 (by rw [← hvl, ← hnf]; exact x4_va hH hlen hfg) ?_
  show am_Good mi_17 55 [some (.ref 2), some (.ref 1), some (.retAddr len), some (.retAddr fr), some (.retAddr (p + nf)), some (.retAddr k), some (.retAddr nf), v7] [.retAddr vl, .retAddr k, .ref 3] (rx4 h tx N nr mi go z1 c1 z2 c2 z3 c3 z4 c4 z5 c5 z6 c6) _
  refine g_iastore dd_17_55 (rx4_g3 hH) (by omega) (by decide) ?_
  refine am_heq (rx4_u3 hH) ?_
  show am_Good mi_17 56 [some (.ref 2), some (.ref 1), some (.retAddr len), some (.retAddr fr), some (.retAddr (p + nf)), some (.retAddr k), some (.retAddr nf), v7] [] (rx4 h tx N (am_as nr k vl) mi go z1 c1 z2 c2 z3 c3 z4 c4 z5 c5 z6 c6) _
  refine g_aload_n (i := 0) dd_17_56 rfl ?_
  refine g_iload dd_17_57 rfl ?_
  refine g_iconst dd_17_59 ic_1 ?_
  refine e_iadd (v := k + 1) dd_17_60 (by omega) ?_
  refine g_putfield (k := 1) am_ck6 (by decide) (Or.inl w_37) (Or.inl rfl) dd_17_61 (rx4_g2 hH) (Nat.le_of_ble_eq_true rfl) trivial ?_
  refine am_heq (rx4_u2 hH) ?_
  show am_Good mi_17 64 [some (.ref 2), some (.ref 1), some (.retAddr len), some (.retAddr fr), some (.retAddr (p + nf)), some (.retAddr k), some (.retAddr nf), v7] [] (rx4 h tx (k + 1) (am_as nr k vl) mi go z1 c1 z2 c2 z3 c3 z4 c4 z5 c5 z6 c6) _
  refine g_aload_n (i := 1) dd_17_64 rfl ?_
  refine g_iload dd_17_65 rfl ?_
  refine g_caload dd_17_67 (rx4_g1 hH) (by omega) (by decide) ?_
  have hl_1 := am_ag_lt tx (p + nf)
  refine g_istore dd_17_68 (am_nlb_ok rfl) (by decide) ?_
  refine e_iinc (v := 1) (w := p + nf + 1) dd_17_70 rfl ic_1 (am_nlb_ok rfl) (by decide) (by omega) ?_
  refine g_iload dd_17_73 rfl ?_
  refine g_bipush dd_17_75 bi_59 ?_
  refine g_icmp_ne_t (t := 83) dd_17_77 (by decide) (tk_ne_t (by omega)) ?_
  refine g_iload dd_17_83 rfl ?_
  refine g_bipush dd_17_85 bi_44 ?_
  refine g_icmp_eq_t (t := 92) dd_17_87 (by decide) (tk_eq_t (by omega)) ?_
  refine e_iinc (v := 1) (w := k + 1) dd_17_92 rfl ic_1 (am_nlb_ok rfl) (by decide) (by omega) ?_
  refine g_goto (t := 6) dd_17_95 (by decide) ?_
  exact hg
theorem x4_n5 {h : am_H} {tx N nr mi go z1 c1 z2 c2 z3 c3 z4 c4 z5 c5 z6 c6 : Nat} (hH : rx4_ok h) {len p fr : Nat} {v6 v7 : Option Value} : am_Good mi_17 6 [some (.ref 2), some (.ref 1), some (.retAddr len), some (.retAddr fr), some (.retAddr p), some (.retAddr 5), v6, v7] [] (rx4 h tx N nr mi go z1 c1 z2 c2 z3 c3 z4 c4 z5 c5 z6 c6) (some (.retAddr 4294967295), (rx4 h tx N nr mi go z1 c1 z2 c2 z3 c3 z4 c4 z5 c5 z6 c6)) := by
  refine g_iload dd_17_6 rfl ?_
  refine g_iconst dd_17_8 ic_5 ?_
  refine g_icmp_ge_t (t := 98) dd_17_9 (by decide) (by decide) ?_
  refine g_iconst dd_17_98 ic_m1 ?_
  exact g_ireturn rfl dd_17_99
theorem x4_nl {h : am_H} {tx mi go z1 c1 z2 c2 z3 c3 z4 c4 z5 c5 z6 c6 : Nat} (hH : rx4_ok h) {len fr : Nat} (hch : ∀ i, i < 200 → am_ag tx i < 65536) (hlen : len ≤ 200) (hfr : fr ≤ len) : ∀ (r k nr N : Nat) (v6 v7 : Option Value), k + r = 5 → rd_ps (rd_c tx len) fr k ≤ len → (∀ j, j < k → rd_Q (rd_c tx len) fr 44 j ∧ am_ag nr j = rd_vl (rd_c tx len) (rd_ps (rd_c tx len) fr j)) → (∀ j, j < 5 → am_ag nr j ≤ 99) → 1 ≤ N → N ≤ 5 → ∃ res nr' N', am_Good mi_17 6 [some (.ref 2), some (.ref 1), some (.retAddr len), some (.retAddr fr), some (.retAddr (rd_ps (rd_c tx len) fr k)), some (.retAddr k), v6, v7] [] (rx4 h tx N nr mi go z1 c1 z2 c2 z3 c3 z4 c4 z5 c5 z6 c6) (some (.retAddr res), (rx4 h tx (N') (nr') mi go z1 c1 z2 c2 z3 c3 z4 c4 z5 c5 z6 c6)) ∧ rd_rx (rd_c tx len) fr res nr' N' := by
  intro r
  induction r with
  | zero =>
    intro k nr N v6 v7 e hl hQ h5 hN1 hN5
    have e' : k = 5 := by omega
    subst e'
    exact ⟨_, _, _, x4_n5 hH, Or.inl ⟨rfl, fun n h1 h2 => rd_noA5 (fun j hj => (hQ j hj).1) h1 h2⟩, h5, hN1, hN5⟩
  | succ r ih =>
    intro k nr N v6 v7 e hl hQ h5 hN1 hN5
    generalize hp : rd_ps (rd_c tx len) fr k = p at hl
    have hq2 := rd_nf_le (rd_c tx len) p
    have hQ1 : ∀ j, j < k → rd_Q (rd_c tx len) fr 44 j := fun j hj => (hQ j hj).1
    by_cases hf : rd_fg (rd_c tx len) p
    · have hn0 := rd_nf_fg.mp hf
      by_cases hs : p + rd_nf (rd_c tx len) p < len
      · have hv := rd_vl_99 hf
        have hc := rd_c_lt (tx := tx) hs
        have n5 : ∀ j, j < 5 → am_ag (am_as nr k (rd_vl (rd_c tx len) p)) j ≤ 99 := fun j hj => by
          rw [am_ag_as]
          by_cases q : j = k
          · rw [if_pos q, Nat.mod_eq_of_lt (by omega)]; exact hv
          · rw [if_neg q]; exact h5 j hj
        have n6 : ∀ j, j < k + 1 → am_ag (am_as nr k (rd_vl (rd_c tx len) p)) j = rd_vl (rd_c tx len) (rd_ps (rd_c tx len) fr j) := fun j hj => by
          rw [am_ag_as]
          by_cases q : j = k
          · rw [if_pos q, Nat.mod_eq_of_lt (by omega), q, hp]
          · rw [if_neg q]; exact (hQ j (by omega)).2
        by_cases b1 : am_ag tx (p + rd_nf (rd_c tx len) p) = 59
        · refine ⟨_, _, _, x4_ns hH hch hlen hl (by omega) rfl hq2 hf rfl hn0 hs b1, Or.inr ⟨by omega, by omega, ⟨fun j hj => hQ1 j (by omega), ?_⟩, ?_, fun j hj => n6 j hj⟩, n5, by omega, by omega⟩
          · show rd_fg (rd_c tx len) (rd_ps (rd_c tx len) fr k) ∧ _ = _
            rw [show k + 1 - 1 = k from rfl, hp]
            exact ⟨hf, by rw [hc]; exact b1⟩
          · show _ = rd_ps (rd_c tx len) fr k + _ + 1
            rw [hp]
        · by_cases b2 : am_ag tx (p + rd_nf (rd_c tx len) p) = 44
          · have Qk : rd_Q (rd_c tx len) fr 44 k := by
              show rd_fg (rd_c tx len) (rd_ps (rd_c tx len) fr k) ∧ _ = _
              rw [hp]
              exact ⟨hf, by rw [hc]; exact b2⟩
            have pn : rd_ps (rd_c tx len) fr (k + 1) = p + rd_nf (rd_c tx len) p + 1 := by
              show rd_ps (rd_c tx len) fr k + rd_nf (rd_c tx len) (rd_ps (rd_c tx len) fr k) + 1 = _
              rw [hp]
            obtain ⟨res, nr', N', g1, g2⟩ := ih (k + 1) (am_as nr k (rd_vl (rd_c tx len) p)) (k + 1) _ _ (by omega) (by rw [pn]; omega) (fun j hj => ⟨by
              by_cases q : j = k
              · rw [q]; exact Qk
              · exact hQ1 j (by omega), n6 j hj⟩) n5 (by omega) (by omega)
            rw [pn] at g1
            exact ⟨res, nr', N', x4_nc hH hch hlen hl (by omega) rfl hq2 hf rfl hn0 hs b2 g1, g2⟩
          · refine ⟨_, _, _, x4_no hH hch hlen hl (by omega) rfl hq2 hf rfl hn0 hs b1 b2, Or.inl ⟨rfl, fun n h1 h2 => rd_noA hQ1 (fun q => ?_) (fun q => ?_) h1⟩, n5, by omega, by omega⟩
            · have := q.2
              rw [hp, hc] at this
              exact b2 this
            · have := q.2
              rw [hp, hc] at this
              exact b1 this
      · have hz := rd_c_ge (tx := tx) hs
        refine ⟨_, _, _, x4_ne hH hch hlen hl (by omega) rfl hq2 hn0 hs, Or.inl ⟨rfl, fun n h1 h2 => rd_noA hQ1 (fun q => ?_) (fun q => ?_) h1⟩, h5, hN1, hN5⟩
        · have := q.2
          rw [hp, hz] at this
          omega
        · have := q.2
          rw [hp, hz] at this
          omega
    · have hn0 := rd_nf_0 hf
      refine ⟨_, _, _, x4_nz hH hch hlen hl (by omega) rfl hq2 hn0, Or.inl ⟨rfl, fun n h1 h2 => rd_noA hQ1 (fun q => ?_) (fun q => ?_) h1⟩, h5, hN1, hN5⟩
      · have := q.1
        rw [hp] at this
        exact hf this
      · have := q.1
        rw [hp] at this
        exact hf this
