/-! ===== the class: rows, screens ===== -/
theorem th_1 {h : am_H} {s t : Nat} (hs : s < 4) (ht : t < 60) : am_EG mi_35 [.retAddr s, .retAddr t] h (some (.retAddr 1), h) := by
  refine am_enter (n := 0) tk_35.2.1 (by simp [Value.category]) (Nat.le_of_ble_eq_true rfl) ?_
  show am_Good mi_35 0 [some (.retAddr s), some (.retAddr t)] [] h _
  refine g_iload_n (i := 0) dd_35_0 rfl ?_
  refine g_if_lt_f (t := 23) dd_35_1 (by decide) (by first | exact sk_lt_f (by omega) (by omega) | exact tk_lt_f (by omega)) ?_
  refine g_iload_n (i := 0) dd_35_4 rfl ?_
  refine g_iconst dd_35_5 ic_4 ?_
  refine g_icmp_ge_f (t := 23) dd_35_6 (by decide) (by first | exact sk_ge_f (by omega) (by omega) | exact tk_ge_f (by omega)) ?_
  refine g_iload_n (i := 1) dd_35_9 rfl ?_
  refine g_if_lt_f (t := 23) dd_35_10 (by decide) (by first | exact sk_lt_f (by omega) (by omega) | exact tk_lt_f (by omega)) ?_
  refine g_iload_n (i := 1) dd_35_13 rfl ?_
  refine g_bipush dd_35_14 bi_60 ?_
  refine g_icmp_ge_f (t := 23) dd_35_16 (by decide) (by first | exact sk_ge_f (by omega) (by omega) | exact tk_ge_f (by omega)) ?_
  refine g_iconst dd_35_19 ic_1 ?_
  refine g_goto (t := 24) dd_35_20 (by decide) ?_
  exact g_zreturn rfl (by first | decide | omega) dd_35_24
theorem cw1 {h : am_H} {a b l n x : Nat} (qa : am_get h a = some (.inr (8, [.ref b, .retAddr 1, .retAddr l, .retAddr n]))) (qb : am_get h b = some (.inl (0, 45, x))) (hn : n ≤ 9) (hw : n * 1 ≤ 45) {r c : Nat} (hr : r < n) (hc : c < 1) : am_EG mi_31 [.ref a, .retAddr r, .retAddr c] h (some (.retAddr (am_ag x (1 * r + c))), h) := by
  refine am_enter (n := 0) tk_31.2.1 (by simp [Value.category]) (Nat.le_of_ble_eq_true rfl) ?_
  show am_Good mi_31 0 [some (.ref a), some (.retAddr r), some (.retAddr c)] [] h _
  refine g_iload_n (i := 1) dd_31_0 rfl ?_
  refine g_if_lt_f (t := 24) dd_31_1 (by decide) (by first | exact sk_lt_f (by omega) (by omega) | exact tk_lt_f (by omega)) ?_
  refine g_iload_n (i := 1) dd_31_4 rfl ?_
  refine g_aload_n (i := 0) dd_31_5 rfl ?_
  refine g_getfield (k := 3) am_ck8 (by decide) (Or.inl w_60) dd_31_6 qa rfl ?_
  refine g_icmp_ge_f (t := 24) dd_31_9 (by decide) (by first | exact sk_ge_f (by omega) (by omega) | exact tk_ge_f (by omega)) ?_
  refine g_iload_n (i := 2) dd_31_12 rfl ?_
  refine g_if_lt_f (t := 24) dd_31_13 (by decide) (by first | exact sk_lt_f (by omega) (by omega) | exact tk_lt_f (by omega)) ?_
  refine g_iload_n (i := 2) dd_31_16 rfl ?_
  refine g_aload_n (i := 0) dd_31_17 rfl ?_
  refine g_getfield (k := 1) am_ck8 (by decide) (Or.inl w_58) dd_31_18 qa rfl ?_
  refine g_icmp_lt_t (t := 26) dd_31_21 (by decide) (by first | exact sk_lt_t (by omega) (by omega) | exact tk_lt_t (by omega)) ?_
  refine g_aload_n (i := 0) dd_31_26 rfl ?_
  refine g_getfield (k := 0) am_ck8 (by decide) (Or.inl w_57) dd_31_27 qa rfl ?_
  refine g_iload_n (i := 1) dd_31_30 rfl ?_
  refine g_aload_n (i := 0) dd_31_31 rfl ?_
  refine g_getfield (k := 1) am_ck8 (by decide) (Or.inl w_58) dd_31_32 qa rfl ?_
  refine e_imul (v := 1 * r) dd_31_35 (by omega) ?_
  refine g_iload_n (i := 2) dd_31_36 rfl ?_
  refine e_iadd (v := 1 * r + c) dd_31_37 (by omega) ?_
  refine g_iaload dd_31_38 qb (by omega) (by decide) ?_
  have hl_1 := am_ag_lt x (1 * r + c)
  exact g_ireturn rfl dd_31_39
theorem cw2 {h : am_H} {a b l n x : Nat} (qa : am_get h a = some (.inr (8, [.ref b, .retAddr 2, .retAddr l, .retAddr n]))) (qb : am_get h b = some (.inl (0, 45, x))) (hn : n ≤ 9) (hw : n * 2 ≤ 45) {r c : Nat} (hr : r < n) (hc : c < 2) : am_EG mi_31 [.ref a, .retAddr r, .retAddr c] h (some (.retAddr (am_ag x (2 * r + c))), h) := by
  refine am_enter (n := 0) tk_31.2.1 (by simp [Value.category]) (Nat.le_of_ble_eq_true rfl) ?_
  show am_Good mi_31 0 [some (.ref a), some (.retAddr r), some (.retAddr c)] [] h _
  refine g_iload_n (i := 1) dd_31_0 rfl ?_
  refine g_if_lt_f (t := 24) dd_31_1 (by decide) (by first | exact sk_lt_f (by omega) (by omega) | exact tk_lt_f (by omega)) ?_
  refine g_iload_n (i := 1) dd_31_4 rfl ?_
  refine g_aload_n (i := 0) dd_31_5 rfl ?_
  refine g_getfield (k := 3) am_ck8 (by decide) (Or.inl w_60) dd_31_6 qa rfl ?_
  refine g_icmp_ge_f (t := 24) dd_31_9 (by decide) (by first | exact sk_ge_f (by omega) (by omega) | exact tk_ge_f (by omega)) ?_
  refine g_iload_n (i := 2) dd_31_12 rfl ?_
  refine g_if_lt_f (t := 24) dd_31_13 (by decide) (by first | exact sk_lt_f (by omega) (by omega) | exact tk_lt_f (by omega)) ?_
  refine g_iload_n (i := 2) dd_31_16 rfl ?_
  refine g_aload_n (i := 0) dd_31_17 rfl ?_
  refine g_getfield (k := 1) am_ck8 (by decide) (Or.inl w_58) dd_31_18 qa rfl ?_
  refine g_icmp_lt_t (t := 26) dd_31_21 (by decide) (by first | exact sk_lt_t (by omega) (by omega) | exact tk_lt_t (by omega)) ?_
  refine g_aload_n (i := 0) dd_31_26 rfl ?_
  refine g_getfield (k := 0) am_ck8 (by decide) (Or.inl w_57) dd_31_27 qa rfl ?_
  refine g_iload_n (i := 1) dd_31_30 rfl ?_
  refine g_aload_n (i := 0) dd_31_31 rfl ?_
  refine g_getfield (k := 1) am_ck8 (by decide) (Or.inl w_58) dd_31_32 qa rfl ?_
  refine e_imul (v := 2 * r) dd_31_35 (by omega) ?_
  refine g_iload_n (i := 2) dd_31_36 rfl ?_
  refine e_iadd (v := 2 * r + c) dd_31_37 (by omega) ?_
  refine g_iaload dd_31_38 qb (by omega) (by decide) ?_
  have hl_1 := am_ag_lt x (2 * r + c)
  exact g_ireturn rfl dd_31_39
theorem cw3 {h : am_H} {a b l n x : Nat} (qa : am_get h a = some (.inr (8, [.ref b, .retAddr 3, .retAddr l, .retAddr n]))) (qb : am_get h b = some (.inl (0, 45, x))) (hn : n ≤ 9) (hw : n * 3 ≤ 45) {r c : Nat} (hr : r < n) (hc : c < 3) : am_EG mi_31 [.ref a, .retAddr r, .retAddr c] h (some (.retAddr (am_ag x (3 * r + c))), h) := by
  refine am_enter (n := 0) tk_31.2.1 (by simp [Value.category]) (Nat.le_of_ble_eq_true rfl) ?_
  show am_Good mi_31 0 [some (.ref a), some (.retAddr r), some (.retAddr c)] [] h _
  refine g_iload_n (i := 1) dd_31_0 rfl ?_
  refine g_if_lt_f (t := 24) dd_31_1 (by decide) (by first | exact sk_lt_f (by omega) (by omega) | exact tk_lt_f (by omega)) ?_
  refine g_iload_n (i := 1) dd_31_4 rfl ?_
  refine g_aload_n (i := 0) dd_31_5 rfl ?_
  refine g_getfield (k := 3) am_ck8 (by decide) (Or.inl w_60) dd_31_6 qa rfl ?_
  refine g_icmp_ge_f (t := 24) dd_31_9 (by decide) (by first | exact sk_ge_f (by omega) (by omega) | exact tk_ge_f (by omega)) ?_
  refine g_iload_n (i := 2) dd_31_12 rfl ?_
  refine g_if_lt_f (t := 24) dd_31_13 (by decide) (by first | exact sk_lt_f (by omega) (by omega) | exact tk_lt_f (by omega)) ?_
  refine g_iload_n (i := 2) dd_31_16 rfl ?_
  refine g_aload_n (i := 0) dd_31_17 rfl ?_
  refine g_getfield (k := 1) am_ck8 (by decide) (Or.inl w_58) dd_31_18 qa rfl ?_
  refine g_icmp_lt_t (t := 26) dd_31_21 (by decide) (by first | exact sk_lt_t (by omega) (by omega) | exact tk_lt_t (by omega)) ?_
  refine g_aload_n (i := 0) dd_31_26 rfl ?_
  refine g_getfield (k := 0) am_ck8 (by decide) (Or.inl w_57) dd_31_27 qa rfl ?_
  refine g_iload_n (i := 1) dd_31_30 rfl ?_
  refine g_aload_n (i := 0) dd_31_31 rfl ?_
  refine g_getfield (k := 1) am_ck8 (by decide) (Or.inl w_58) dd_31_32 qa rfl ?_
  refine e_imul (v := 3 * r) dd_31_35 (by omega) ?_
  refine g_iload_n (i := 2) dd_31_36 rfl ?_
  refine e_iadd (v := 3 * r + c) dd_31_37 (by omega) ?_
  refine g_iaload dd_31_38 qb (by omega) (by decide) ?_
  have hl_1 := am_ag_lt x (3 * r + c)
  exact g_ireturn rfl dd_31_39
theorem cw4 {h : am_H} {a b l n x : Nat} (qa : am_get h a = some (.inr (8, [.ref b, .retAddr 4, .retAddr l, .retAddr n]))) (qb : am_get h b = some (.inl (0, 45, x))) (hn : n ≤ 9) (hw : n * 4 ≤ 45) {r c : Nat} (hr : r < n) (hc : c < 4) : am_EG mi_31 [.ref a, .retAddr r, .retAddr c] h (some (.retAddr (am_ag x (4 * r + c))), h) := by
  refine am_enter (n := 0) tk_31.2.1 (by simp [Value.category]) (Nat.le_of_ble_eq_true rfl) ?_
  show am_Good mi_31 0 [some (.ref a), some (.retAddr r), some (.retAddr c)] [] h _
  refine g_iload_n (i := 1) dd_31_0 rfl ?_
  refine g_if_lt_f (t := 24) dd_31_1 (by decide) (by first | exact sk_lt_f (by omega) (by omega) | exact tk_lt_f (by omega)) ?_
  refine g_iload_n (i := 1) dd_31_4 rfl ?_
  refine g_aload_n (i := 0) dd_31_5 rfl ?_
  refine g_getfield (k := 3) am_ck8 (by decide) (Or.inl w_60) dd_31_6 qa rfl ?_
  refine g_icmp_ge_f (t := 24) dd_31_9 (by decide) (by first | exact sk_ge_f (by omega) (by omega) | exact tk_ge_f (by omega)) ?_
  refine g_iload_n (i := 2) dd_31_12 rfl ?_
  refine g_if_lt_f (t := 24) dd_31_13 (by decide) (by first | exact sk_lt_f (by omega) (by omega) | exact tk_lt_f (by omega)) ?_
  refine g_iload_n (i := 2) dd_31_16 rfl ?_
  refine g_aload_n (i := 0) dd_31_17 rfl ?_
  refine g_getfield (k := 1) am_ck8 (by decide) (Or.inl w_58) dd_31_18 qa rfl ?_
  refine g_icmp_lt_t (t := 26) dd_31_21 (by decide) (by first | exact sk_lt_t (by omega) (by omega) | exact tk_lt_t (by omega)) ?_
  refine g_aload_n (i := 0) dd_31_26 rfl ?_
  refine g_getfield (k := 0) am_ck8 (by decide) (Or.inl w_57) dd_31_27 qa rfl ?_
  refine g_iload_n (i := 1) dd_31_30 rfl ?_
  refine g_aload_n (i := 0) dd_31_31 rfl ?_
  refine g_getfield (k := 1) am_ck8 (by decide) (Or.inl w_58) dd_31_32 qa rfl ?_
  refine e_imul (v := 4 * r) dd_31_35 (by omega) ?_
  refine g_iload_n (i := 2) dd_31_36 rfl ?_
  refine e_iadd (v := 4 * r + c) dd_31_37 (by omega) ?_
  refine g_iaload dd_31_38 qb (by omega) (by decide) ?_
  have hl_1 := am_ag_lt x (4 * r + c)
  exact g_ireturn rfl dd_31_39
theorem cw5 {h : am_H} {a b l n x : Nat} (qa : am_get h a = some (.inr (8, [.ref b, .retAddr 5, .retAddr l, .retAddr n]))) (qb : am_get h b = some (.inl (0, 45, x))) (hn : n ≤ 9) (hw : n * 5 ≤ 45) {r c : Nat} (hr : r < n) (hc : c < 5) : am_EG mi_31 [.ref a, .retAddr r, .retAddr c] h (some (.retAddr (am_ag x (5 * r + c))), h) := by
  refine am_enter (n := 0) tk_31.2.1 (by simp [Value.category]) (Nat.le_of_ble_eq_true rfl) ?_
  show am_Good mi_31 0 [some (.ref a), some (.retAddr r), some (.retAddr c)] [] h _
  refine g_iload_n (i := 1) dd_31_0 rfl ?_
  refine g_if_lt_f (t := 24) dd_31_1 (by decide) (by first | exact sk_lt_f (by omega) (by omega) | exact tk_lt_f (by omega)) ?_
  refine g_iload_n (i := 1) dd_31_4 rfl ?_
  refine g_aload_n (i := 0) dd_31_5 rfl ?_
  refine g_getfield (k := 3) am_ck8 (by decide) (Or.inl w_60) dd_31_6 qa rfl ?_
  refine g_icmp_ge_f (t := 24) dd_31_9 (by decide) (by first | exact sk_ge_f (by omega) (by omega) | exact tk_ge_f (by omega)) ?_
  refine g_iload_n (i := 2) dd_31_12 rfl ?_
  refine g_if_lt_f (t := 24) dd_31_13 (by decide) (by first | exact sk_lt_f (by omega) (by omega) | exact tk_lt_f (by omega)) ?_
  refine g_iload_n (i := 2) dd_31_16 rfl ?_
  refine g_aload_n (i := 0) dd_31_17 rfl ?_
  refine g_getfield (k := 1) am_ck8 (by decide) (Or.inl w_58) dd_31_18 qa rfl ?_
  refine g_icmp_lt_t (t := 26) dd_31_21 (by decide) (by first | exact sk_lt_t (by omega) (by omega) | exact tk_lt_t (by omega)) ?_
  refine g_aload_n (i := 0) dd_31_26 rfl ?_
  refine g_getfield (k := 0) am_ck8 (by decide) (Or.inl w_57) dd_31_27 qa rfl ?_
  refine g_iload_n (i := 1) dd_31_30 rfl ?_
  refine g_aload_n (i := 0) dd_31_31 rfl ?_
  refine g_getfield (k := 1) am_ck8 (by decide) (Or.inl w_58) dd_31_32 qa rfl ?_
  refine e_imul (v := 5 * r) dd_31_35 (by omega) ?_
  refine g_iload_n (i := 2) dd_31_36 rfl ?_
  refine e_iadd (v := 5 * r + c) dd_31_37 (by omega) ?_
  refine g_iaload dd_31_38 qb (by omega) (by decide) ?_
  have hl_1 := am_ag_lt x (5 * r + c)
  exact g_ireturn rfl dd_31_39
def sv32 (h : am_H)  (W F B : Nat) : am_H := am_ups h [(33, .inl (0, 240, W)), (34, .inl (0, 240, F)), (35, .inl (0, 240, B))]
def sv32_ok (h : am_H) : Prop := am_ke h [33, 34, 35]
theorem sv32_g33 {h : am_H}  {W F B : Nat} (hH : sv32_ok h) : am_get (sv32 h  W F B) 33 = some (.inl (0, 240, W)) := am_ups_g hH rfl
theorem sv32_u33 {h : am_H}  {W F B : Nat} (hH : sv32_ok h) {W' : Nat} : am_upd (sv32 h  W F B) 33 (.inl (0, 240, W')) = (sv32 h  W' F B) := by
  unfold sv32
  refine am_upd_ups ?_ ⟨rfl, rfl⟩
  exact hH
theorem sv32_g34 {h : am_H}  {W F B : Nat} (hH : sv32_ok h) : am_get (sv32 h  W F B) 34 = some (.inl (0, 240, F)) := am_ups_g hH rfl
theorem sv32_u34 {h : am_H}  {W F B : Nat} (hH : sv32_ok h) {F' : Nat} : am_upd (sv32 h  W F B) 34 (.inl (0, 240, F')) = (sv32 h  W F' B) := by
  unfold sv32
  refine am_upd_ups ?_ ⟨rfl, rfl⟩
  exact hH
theorem sv32_g35 {h : am_H}  {W F B : Nat} (hH : sv32_ok h) : am_get (sv32 h  W F B) 35 = some (.inl (0, 240, B)) := am_ups_g hH rfl
theorem sv32_u35 {h : am_H}  {W F B : Nat} (hH : sv32_ok h) {B' : Nat} : am_upd (sv32 h  W F B) 35 (.inl (0, 240, B')) = (sv32 h  W F B') := by
  unfold sv32
  refine am_upd_ups ?_ ⟨rfl, rfl⟩
  exact hH
theorem sv32_o {h : am_H}  {W F B : Nat} (hH : sv32_ok h) {a : Nat} (ha : am_lk [(33, am_e0), (34, am_e0), (35, am_e0)] a = none) : am_get (sv32 h  W F B) a = am_get h a := by
  unfold sv32
  refine am_ups_n ?_ ?_
  · exact hH
  · exact (am_lk_k (by rfl)).mp ha
theorem s32_put {h : am_H} {W F B : Nat} (hH : sv32_ok h) (qS : am_get h 32 = some (.inr (9, [.ref 33, .ref 34, .ref 35]))) {s t w f b : Nat} (hs : s < 4) (ht : t < 60) : am_EG mi_34 [.ref 32, .retAddr s, .retAddr t, .retAddr w, .retAddr f, .retAddr b] (sv32 h W F B) (none, (sv32 h (am_as W (60 * s + t) w) (am_as F (60 * s + t) f) (am_as B (60 * s + t) b))) := by
  refine am_enter (n := 1) tk_34.2.1 (by simp [Value.category]) (Nat.le_of_ble_eq_true rfl) ?_
  show am_Good mi_34 0 [some (.ref 32), some (.retAddr s), some (.retAddr t), some (.retAddr w), some (.retAddr f), some (.retAddr b), none] [] (sv32 h W F B) _
  refine g_iload_n (i := 1) dd_34_0 rfl ?_
  refine g_iload_n (i := 2) dd_34_1 rfl ?_
  refine g_static (M' := mi_35) (n := 2) (as := [.retAddr s, .retAddr t]) (st := []) (r1 := (some (.retAddr 1), (sv32 h W F B))) w_466 w_467 ⟨lk_35.1, lk_35.2.1, lk_35.2.2, by decide, by decide⟩ rfl (by simp [Value.category]) dd_34_2 (th_1 (by omega) (by omega)) ?_
  show am_Good mi_34 5 [some (.ref 32), some (.retAddr s), some (.retAddr t), some (.retAddr w), some (.retAddr f), some (.retAddr b), none] [.retAddr 1] (sv32 h W F B) _
  refine g_if_eq_f (t := 42) dd_34_5 (by decide) (by decide) ?_
  refine g_iload_n (i := 1) dd_34_8 rfl ?_
  refine g_bipush dd_34_9 bi_60 ?_
  refine e_imul (v := 60 * s) dd_34_11 (by omega) ?_
  refine g_iload_n (i := 2) dd_34_12 rfl ?_
  refine e_iadd (v := 60 * s + t) dd_34_13 (by omega) ?_
  refine g_istore dd_34_14 (am_nlb_ok rfl) (by decide) ?_
  refine g_aload_n (i := 0) dd_34_16 rfl ?_
  refine g_getfield (k := 0) am_ck9 (by decide) (Or.inl w_153) dd_34_17 ((sv32_o hH rfl).trans qS) rfl ?_
  refine g_iload dd_34_20 rfl ?_
  refine g_iload_n (i := 3) dd_34_22 rfl ?_
  refine g_iastore dd_34_23 (sv32_g33 hH) (by omega) (by decide) ?_
  refine am_heq (sv32_u33 hH) ?_
  show am_Good mi_34 24 [some (.ref 32), some (.retAddr s), some (.retAddr t), some (.retAddr w), some (.retAddr f), some (.retAddr b), some (.retAddr (60 * s + t))] [] (sv32 h (am_as W (60 * s + t) w) F B) _
  refine g_aload_n (i := 0) dd_34_24 rfl ?_
  refine g_getfield (k := 1) am_ck9 (by decide) (Or.inl w_154) dd_34_25 ((sv32_o hH rfl).trans qS) rfl ?_
  refine g_iload dd_34_28 rfl ?_
  refine g_iload dd_34_30 rfl ?_
  refine g_iastore dd_34_32 (sv32_g34 hH) (by omega) (by decide) ?_
  refine am_heq (sv32_u34 hH) ?_
  show am_Good mi_34 33 [some (.ref 32), some (.retAddr s), some (.retAddr t), some (.retAddr w), some (.retAddr f), some (.retAddr b), some (.retAddr (60 * s + t))] [] (sv32 h (am_as W (60 * s + t) w) (am_as F (60 * s + t) f) B) _
  refine g_aload_n (i := 0) dd_34_33 rfl ?_
  refine g_getfield (k := 2) am_ck9 (by decide) (Or.inl w_155) dd_34_34 ((sv32_o hH rfl).trans qS) rfl ?_
  refine g_iload dd_34_37 rfl ?_
  refine g_iload dd_34_39 rfl ?_
  refine g_iastore dd_34_41 (sv32_g35 hH) (by omega) (by decide) ?_
  refine am_heq (sv32_u35 hH) ?_
  show am_Good mi_34 42 [some (.ref 32), some (.retAddr s), some (.retAddr t), some (.retAddr w), some (.retAddr f), some (.retAddr b), some (.retAddr (60 * s + t))] [] (sv32 h (am_as W (60 * s + t) w) (am_as F (60 * s + t) f) (am_as B (60 * s + t) b)) _
  exact g_return rfl dd_34_42
theorem s32_ss1 {h : am_H} {W F B : Nat} (hH : sv32_ok h) (qS : am_get h 32 = some (.inr (9, [.ref 33, .ref 34, .ref 35]))) {a b l n y : Nat} (qa : ∀ W F B, am_get (sv32 h W F B) a = some (.inr (8, [.ref b, .retAddr 1, .retAddr l, .retAddr n]))) (hc : ∀ W F B r c, r < n → c < 1 → am_EG mi_31 [.ref a, .retAddr r, .retAddr c] (sv32 h W F B) (some (.retAddr (am_ag y (1 * r + c))), sv32 h W F B)) {r : am_R} {s t : Nat} (hn : n ≤ 4) (hs : s < n) (ht : t < 60) (hg : am_Good mi_33 12 [some (.ref 32), some (.ref a), some (.retAddr s), some (.retAddr (t + 1))] [] (sv32 h (am_as W (60 * s + t) (am_ag y (1 * s + 0))) (am_as F (60 * s + t) 8) (am_as B (60 * s + t) 0)) r) : am_Good mi_33 12 [some (.ref 32), some (.ref a), some (.retAddr s), some (.retAddr t)] [] (sv32 h W F B) r := by
  refine g_iload_n (i := 3) dd_33_12 rfl ?_
  refine g_bipush dd_33_13 bi_60 ?_
  refine g_icmp_ge_f (t := 39) dd_33_15 (by decide) (by first | exact sk_ge_f (by omega) (by omega) | exact tk_ge_f (by omega)) ?_
  refine g_aload_n (i := 0) dd_33_18 rfl ?_
  refine g_iload_n (i := 2) dd_33_19 rfl ?_
  refine g_iload_n (i := 3) dd_33_20 rfl ?_
  refine g_aload_n (i := 1) dd_33_21 rfl ?_
  refine g_iload_n (i := 2) dd_33_22 rfl ?_
  refine g_iconst dd_33_23 ic_0 ?_
  refine g_virtual (M' := mi_31) (n := 2) (ci := 8) (b := a) (as := [.retAddr s, .retAddr 0]) (st := [.retAddr t, .retAddr s, .ref 32]) (r1 := (some (.retAddr (am_ag y (1 * s + 0))), (sv32 h W F B))) w_461 w_450 w_451 ⟨lk_31.1, lk_31.2.1, lk_31.2.2, by decide, by decide⟩ rfl (qa _ _ _) rfl (by simp [Value.category]) dd_33_24 (hc _ _ _ _ _ (by omega) (by decide)) ?_
  show am_Good mi_33 27 [some (.ref 32), some (.ref a), some (.retAddr s), some (.retAddr t)] [.retAddr (am_ag y (1 * s + 0)), .retAddr t, .retAddr s, .ref 32] (sv32 h W F B) _
  refine g_bipush dd_33_27 bi_8 ?_
  refine g_iconst dd_33_29 ic_0 ?_
  refine g_virtual (M' := mi_34) (n := 5) (ci := 9) (b := 32) (as := [.retAddr s, .retAddr t, .retAddr (am_ag y (1 * s + 0)), .retAddr 8, .retAddr 0]) (st := []) (r1 := (none, (sv32 h (am_as W (60 * s + t) (am_ag y (1 * s + 0))) (am_as F (60 * s + t) 8) (am_as B (60 * s + t) 0)))) w_462 w_464 ps_34 ⟨lk_34.1, lk_34.2.1, lk_34.2.2, by decide, by decide⟩ rfl ((sv32_o hH rfl).trans qS) rfl (by simp [Value.category]) dd_33_30 (s32_put hH qS (by omega) (by omega)) ?_
  show am_Good mi_33 33 [some (.ref 32), some (.ref a), some (.retAddr s), some (.retAddr t)] [] (sv32 h (am_as W (60 * s + t) (am_ag y (1 * s + 0))) (am_as F (60 * s + t) 8) (am_as B (60 * s + t) 0)) _
  refine e_iinc (v := 1) (w := t + 1) dd_33_33 rfl ic_1 (am_nlb_ok rfl) (by decide) (by omega) ?_
  refine g_goto (t := 12) dd_33_36 (by decide) ?_
  exact hg
theorem s32_ss2 {h : am_H} {W F B : Nat} (hH : sv32_ok h) (qS : am_get h 32 = some (.inr (9, [.ref 33, .ref 34, .ref 35]))) {a b l n y : Nat} (qa : ∀ W F B, am_get (sv32 h W F B) a = some (.inr (8, [.ref b, .retAddr 1, .retAddr l, .retAddr n]))) (hc : ∀ W F B r c, r < n → c < 1 → am_EG mi_31 [.ref a, .retAddr r, .retAddr c] (sv32 h W F B) (some (.retAddr (am_ag y (1 * r + c))), sv32 h W F B)) {r : am_R} {s : Nat} (hn : n ≤ 4) (hs : s < n) (hg : am_Good mi_33 2 [some (.ref 32), some (.ref a), some (.retAddr (s + 1)), some (.retAddr 60)] [] (sv32 h W F B) r) : am_Good mi_33 12 [some (.ref 32), some (.ref a), some (.retAddr s), some (.retAddr 60)] [] (sv32 h W F B) r := by
  refine g_iload_n (i := 3) dd_33_12 rfl ?_
  refine g_bipush dd_33_13 bi_60 ?_
  refine g_icmp_ge_t (t := 39) dd_33_15 (by decide) (by decide) ?_
  refine e_iinc (v := 1) (w := s + 1) dd_33_39 rfl ic_1 (am_nlb_ok rfl) (by decide) (by omega) ?_
  refine g_goto (t := 2) dd_33_42 (by decide) ?_
  exact hg
theorem s32_ss3 {h : am_H} {W F B : Nat} (hH : sv32_ok h) (qS : am_get h 32 = some (.inr (9, [.ref 33, .ref 34, .ref 35]))) {a b l n y : Nat} (qa : ∀ W F B, am_get (sv32 h W F B) a = some (.inr (8, [.ref b, .retAddr 1, .retAddr l, .retAddr n]))) (hc : ∀ W F B r c, r < n → c < 1 → am_EG mi_31 [.ref a, .retAddr r, .retAddr c] (sv32 h W F B) (some (.retAddr (am_ag y (1 * r + c))), sv32 h W F B)) {r : am_R} {s : Nat} {v3 : Option Value} (hn : n ≤ 4) (hs : s < n) (hg : am_Good mi_33 12 [some (.ref 32), some (.ref a), some (.retAddr s), some (.retAddr 0)] [] (sv32 h W F B) r) : am_Good mi_33 2 [some (.ref 32), some (.ref a), some (.retAddr s), v3] [] (sv32 h W F B) r := by
  refine g_iload_n (i := 2) dd_33_2 rfl ?_
  refine g_aload_n (i := 1) dd_33_3 rfl ?_
  refine g_getfield (k := 3) am_ck8 (by decide) (Or.inr ⟨_, w_63⟩) dd_33_4 (qa _ _ _) rfl ?_
  refine g_icmp_ge_f (t := 45) dd_33_7 (by decide) (by first | exact sk_ge_f (by omega) (by omega) | exact tk_ge_f (by omega)) ?_
  refine g_iconst dd_33_10 ic_0 ?_
  refine g_istore_n (i := 3) dd_33_11 (am_nlb_ok rfl) (by decide) ?_
  exact hg
theorem s32_ss4 {h : am_H} {W F B : Nat} (hH : sv32_ok h) (qS : am_get h 32 = some (.inr (9, [.ref 33, .ref 34, .ref 35]))) {a b l n y : Nat} (qa : ∀ W F B, am_get (sv32 h W F B) a = some (.inr (8, [.ref b, .retAddr 1, .retAddr l, .retAddr n]))) (hc : ∀ W F B r c, r < n → c < 1 → am_EG mi_31 [.ref a, .retAddr r, .retAddr c] (sv32 h W F B) (some (.retAddr (am_ag y (1 * r + c))), sv32 h W F B)) {v3 : Option Value} (hn : n ≤ 4) : am_Good mi_33 2 [some (.ref 32), some (.ref a), some (.retAddr n), v3] [] (sv32 h W F B) (none, (sv32 h W F B)) := by
  refine g_iload_n (i := 2) dd_33_2 rfl ?_
  refine g_aload_n (i := 1) dd_33_3 rfl ?_
  refine g_getfield (k := 3) am_ck8 (by decide) (Or.inr ⟨_, w_63⟩) dd_33_4 (qa _ _ _) rfl ?_
  refine g_icmp_ge_t (t := 45) dd_33_7 (by decide) (by first | exact sk_ge_t (by omega) (by omega) | exact tk_ge_t (by omega)) ?_
  exact g_return rfl dd_33_45
theorem s32_ssl {h : am_H} {W F B : Nat} (hH : sv32_ok h) (qS : am_get h 32 = some (.inr (9, [.ref 33, .ref 34, .ref 35]))) {a b l n y : Nat} (qa : ∀ W F B, am_get (sv32 h W F B) a = some (.inr (8, [.ref b, .retAddr 1, .retAddr l, .retAddr n]))) (hc : ∀ W F B r c, r < n → c < 1 → am_EG mi_31 [.ref a, .retAddr r, .retAddr c] (sv32 h W F B) (some (.retAddr (am_ag y (1 * r + c))), sv32 h W F B)) {r : am_R} {s : Nat} (hn : n ≤ 4) (hs : s < n) (hg : am_Good mi_33 12 [some (.ref 32), some (.ref a), some (.retAddr s), some (.retAddr 60)] [] (sv32 h (fl W (60 * s) (am_ag y s) 60) (fl F (60 * s) 8 60) (fl B (60 * s) 0 60)) r) : ∀ (k t : Nat), t + k = 60 → am_Good mi_33 12 [some (.ref 32), some (.ref a), some (.retAddr s), some (.retAddr t)] [] (sv32 h (fl W (60 * s) (am_ag y s) t) (fl F (60 * s) 8 t) (fl B (60 * s) 0 t)) r
  | 0, t, e => by
    have e' : t = 60 := by omega
    subst e'
    exact hg
  | k + 1, t, e => by
    have q := s32_ssl hH qS qa hc hn hs hg k (t + 1) (by omega)
    refine s32_ss1 hH qS qa hc hn hs (by omega) ?_
    rw [show 1 * s + 0 = s by omega]
    exact q
theorem s32_ss {h : am_H} {W F B : Nat} (hH : sv32_ok h) (qS : am_get h 32 = some (.inr (9, [.ref 33, .ref 34, .ref 35]))) {a b l n y : Nat} (qa : ∀ W F B, am_get (sv32 h W F B) a = some (.inr (8, [.ref b, .retAddr 1, .retAddr l, .retAddr n]))) (hc : ∀ W F B r c, r < n → c < 1 → am_EG mi_31 [.ref a, .retAddr r, .retAddr c] (sv32 h W F B) (some (.retAddr (am_ag y (1 * r + c))), sv32 h W F B)) (hn : n ≤ 4) : ∀ (k s : Nat) (v3 : Option Value), s + k = n → am_Good mi_33 2 [some (.ref 32), some (.ref a), some (.retAddr s), v3] [] (sv32 h (ss 60 (am_ag y) W s) (ss 60 (fun _ => 8) F s) (ss 60 (fun _ => 0) B s)) (none, sv32 h (ss 60 (am_ag y) W n) (ss 60 (fun _ => 8) F n) (ss 60 (fun _ => 0) B n))
  | 0, s, v3, e => by
    have e' : s = n := by omega
    subst e'
    exact s32_ss4 hH qS qa hc hn
  | k + 1, s, v3, e => by
    refine s32_ss3 hH qS qa hc hn (by omega) ?_
    exact s32_ssl hH qS qa hc hn (by omega) (s32_ss2 hH qS qa hc hn (by omega) (s32_ss hH qS qa hc hn k (s + 1) _ (by omega))) 60 0 (by omega)
theorem s32_sst {h : am_H} {W F B : Nat} (hH : sv32_ok h) (qS : am_get h 32 = some (.inr (9, [.ref 33, .ref 34, .ref 35]))) {a b l n y : Nat} (qa : ∀ W F B, am_get (sv32 h W F B) a = some (.inr (8, [.ref b, .retAddr 1, .retAddr l, .retAddr n]))) (hc : ∀ W F B r c, r < n → c < 1 → am_EG mi_31 [.ref a, .retAddr r, .retAddr c] (sv32 h W F B) (some (.retAddr (am_ag y (1 * r + c))), sv32 h W F B)) (hn : n ≤ 4) : am_EG mi_33 [.ref 32, .ref a] (sv32 h W F B) (none, (sv32 h (ss 60 (am_ag y) W n) (ss 60 (fun _ => 8) F n) (ss 60 (fun _ => 0) B n))) := by
  refine am_enter (n := 2) tk_33.2.1 (by simp [Value.category]) (Nat.le_of_ble_eq_true rfl) ?_
  show am_Good mi_33 0 [some (.ref 32), some (.ref a), none, none] [] (sv32 h W F B) _
  refine g_iconst dd_33_0 ic_0 ?_
  refine g_istore_n (i := 2) dd_33_1 (am_nlb_ok rfl) (by decide) ?_
  exact s32_ss hH qS qa hc hn n 0 none (by omega)
theorem s32_m1 {h : am_H} {W F B : Nat} (hH : sv32_ok h) (qS : am_get h 32 = some (.inr (9, [.ref 33, .ref 34, .ref 35]))) {a b l n y : Nat} (qa : ∀ W F B, am_get (sv32 h W F B) a = some (.inr (8, [.ref b, .retAddr 5, .retAddr l, .retAddr n]))) (hc : ∀ W F B r c, r < n → c < 5 → am_EG mi_31 [.ref a, .retAddr r, .retAddr c] (sv32 h W F B) (some (.retAddr (am_ag y (5 * r + c))), sv32 h W F B)) (hn : n ≤ 9) (hb0 : ∀ i, i < n → am_ag y (5 * i) ≤ 3) (hb1 : ∀ i, i < n → am_ag y (5 * i + 1) ≤ 59) (hb2 : ∀ i, i < n → am_ag y (5 * i + 2) ≤ 59) {r : am_R} {m j : Nat} (hm : m < n) (ht : am_ag y (5 * m + 1) + j ≤ am_ag y (5 * m + 2)) (hg : am_Good mi_37 7 [some (.ref 32), some (.ref a), some (.retAddr m), some (.retAddr (am_ag y (5 * m + 1) + (j + 1)))] [] (sv32 h (am_as W (60 * am_ag y (5 * m + 0) + (am_ag y (5 * m + 1) + j)) (am_ag y (5 * m + 3))) (am_as F (60 * am_ag y (5 * m + 0) + (am_ag y (5 * m + 1) + j)) (am_ag y (5 * m + 4))) (am_as B (60 * am_ag y (5 * m + 0) + (am_ag y (5 * m + 1) + j)) 0)) r) : am_Good mi_37 7 [some (.ref 32), some (.ref a), some (.retAddr m), some (.retAddr (am_ag y (5 * m + 1) + j))] [] (sv32 h W F B) r := by
  have b0 := hb0 m hm
  have b1 := hb1 m hm
  have b2 := hb2 m hm
  have e0 : am_ag y (5 * m + 0) = am_ag y (5 * m) := rfl
  refine g_iload_n (i := 3) dd_37_7 rfl ?_
  refine g_aload_n (i := 1) dd_37_8 rfl ?_
  refine g_iload_n (i := 2) dd_37_9 rfl ?_
  refine g_iconst dd_37_10 ic_2 ?_
  refine g_virtual (M' := mi_31) (n := 2) (ci := 8) (b := a) (as := [.retAddr m, .retAddr 2]) (st := [.retAddr (am_ag y (5 * m + 1) + j)]) (r1 := (some (.retAddr (am_ag y (5 * m + 2))), (sv32 h W F B))) w_461 w_450 w_451 ⟨lk_31.1, lk_31.2.1, lk_31.2.2, by decide, by decide⟩ rfl (qa _ _ _) rfl (by simp [Value.category]) dd_37_11 (hc _ _ _ _ _ (by omega) (by decide)) ?_
  show am_Good mi_37 14 [some (.ref 32), some (.ref a), some (.retAddr m), some (.retAddr (am_ag y (5 * m + 1) + j))] [.retAddr (am_ag y (5 * m + 2)), .retAddr (am_ag y (5 * m + 1) + j)] (sv32 h W F B) _
  refine g_icmp_gt_f (t := 47) dd_37_14 (by decide) (by first | exact sk_gt_f (by omega) (by omega) | exact tk_gt_f (by omega)) ?_
  refine g_aload_n (i := 0) dd_37_17 rfl ?_
  refine g_aload_n (i := 1) dd_37_18 rfl ?_
  refine g_iload_n (i := 2) dd_37_19 rfl ?_
  refine g_iconst dd_37_20 ic_0 ?_
  refine g_virtual (M' := mi_31) (n := 2) (ci := 8) (b := a) (as := [.retAddr m, .retAddr 0]) (st := [.ref 32]) (r1 := (some (.retAddr (am_ag y (5 * m + 0))), (sv32 h W F B))) w_461 w_450 w_451 ⟨lk_31.1, lk_31.2.1, lk_31.2.2, by decide, by decide⟩ rfl (qa _ _ _) rfl (by simp [Value.category]) dd_37_21 (hc _ _ _ _ _ (by omega) (by decide)) ?_
  show am_Good mi_37 24 [some (.ref 32), some (.ref a), some (.retAddr m), some (.retAddr (am_ag y (5 * m + 1) + j))] [.retAddr (am_ag y (5 * m + 0)), .ref 32] (sv32 h W F B) _
  refine g_iload_n (i := 3) dd_37_24 rfl ?_
  refine g_aload_n (i := 1) dd_37_25 rfl ?_
  refine g_iload_n (i := 2) dd_37_26 rfl ?_
  refine g_iconst dd_37_27 ic_3 ?_
  refine g_virtual (M' := mi_31) (n := 2) (ci := 8) (b := a) (as := [.retAddr m, .retAddr 3]) (st := [.retAddr (am_ag y (5 * m + 1) + j), .retAddr (am_ag y (5 * m + 0)), .ref 32]) (r1 := (some (.retAddr (am_ag y (5 * m + 3))), (sv32 h W F B))) w_461 w_450 w_451 ⟨lk_31.1, lk_31.2.1, lk_31.2.2, by decide, by decide⟩ rfl (qa _ _ _) rfl (by simp [Value.category]) dd_37_28 (hc _ _ _ _ _ (by omega) (by decide)) ?_
  show am_Good mi_37 31 [some (.ref 32), some (.ref a), some (.retAddr m), some (.retAddr (am_ag y (5 * m + 1) + j))] [.retAddr (am_ag y (5 * m + 3)), .retAddr (am_ag y (5 * m + 1) + j), .retAddr (am_ag y (5 * m + 0)), .ref 32] (sv32 h W F B) _
  refine g_aload_n (i := 1) dd_37_31 rfl ?_
  refine g_iload_n (i := 2) dd_37_32 rfl ?_
  refine g_iconst dd_37_33 ic_4 ?_
  refine g_virtual (M' := mi_31) (n := 2) (ci := 8) (b := a) (as := [.retAddr m, .retAddr 4]) (st := [.retAddr (am_ag y (5 * m + 3)), .retAddr (am_ag y (5 * m + 1) + j), .retAddr (am_ag y (5 * m + 0)), .ref 32]) (r1 := (some (.retAddr (am_ag y (5 * m + 4))), (sv32 h W F B))) w_461 w_450 w_451 ⟨lk_31.1, lk_31.2.1, lk_31.2.2, by decide, by decide⟩ rfl (qa _ _ _) rfl (by simp [Value.category]) dd_37_34 (hc _ _ _ _ _ (by omega) (by decide)) ?_
  show am_Good mi_37 37 [some (.ref 32), some (.ref a), some (.retAddr m), some (.retAddr (am_ag y (5 * m + 1) + j))] [.retAddr (am_ag y (5 * m + 4)), .retAddr (am_ag y (5 * m + 3)), .retAddr (am_ag y (5 * m + 1) + j), .retAddr (am_ag y (5 * m + 0)), .ref 32] (sv32 h W F B) _
  refine g_iconst dd_37_37 ic_0 ?_
  refine g_virtual (M' := mi_34) (n := 5) (ci := 9) (b := 32) (as := [.retAddr (am_ag y (5 * m + 0)), .retAddr (am_ag y (5 * m + 1) + j), .retAddr (am_ag y (5 * m + 3)), .retAddr (am_ag y (5 * m + 4)), .retAddr 0]) (st := []) (r1 := (none, (sv32 h (am_as W (60 * (am_ag y (5 * m + 0)) + (am_ag y (5 * m + 1) + j)) (am_ag y (5 * m + 3))) (am_as F (60 * (am_ag y (5 * m + 0)) + (am_ag y (5 * m + 1) + j)) (am_ag y (5 * m + 4))) (am_as B (60 * (am_ag y (5 * m + 0)) + (am_ag y (5 * m + 1) + j)) 0)))) w_462 w_464 ps_34 ⟨lk_34.1, lk_34.2.1, lk_34.2.2, by decide, by decide⟩ rfl ((sv32_o hH rfl).trans qS) rfl (by simp [Value.category]) dd_37_38 (s32_put hH qS (by omega) (by omega)) ?_
  show am_Good mi_37 41 [some (.ref 32), some (.ref a), some (.retAddr m), some (.retAddr (am_ag y (5 * m + 1) + j))] [] (sv32 h (am_as W (60 * (am_ag y (5 * m + 0)) + (am_ag y (5 * m + 1) + j)) (am_ag y (5 * m + 3))) (am_as F (60 * (am_ag y (5 * m + 0)) + (am_ag y (5 * m + 1) + j)) (am_ag y (5 * m + 4))) (am_as B (60 * (am_ag y (5 * m + 0)) + (am_ag y (5 * m + 1) + j)) 0)) _
  refine e_iinc (v := 1) (w := am_ag y (5 * m + 1) + j + 1) dd_37_41 rfl ic_1 (am_nlb_ok rfl) (by decide) (by omega) ?_
  refine g_goto (t := 7) dd_37_44 (by decide) ?_
  exact hg
theorem s32_m2 {h : am_H} {W F B : Nat} (hH : sv32_ok h) (qS : am_get h 32 = some (.inr (9, [.ref 33, .ref 34, .ref 35]))) {a b l n y : Nat} (qa : ∀ W F B, am_get (sv32 h W F B) a = some (.inr (8, [.ref b, .retAddr 5, .retAddr l, .retAddr n]))) (hc : ∀ W F B r c, r < n → c < 5 → am_EG mi_31 [.ref a, .retAddr r, .retAddr c] (sv32 h W F B) (some (.retAddr (am_ag y (5 * r + c))), sv32 h W F B)) (hn : n ≤ 9) (hb0 : ∀ i, i < n → am_ag y (5 * i) ≤ 3) (hb1 : ∀ i, i < n → am_ag y (5 * i + 1) ≤ 59) (hb2 : ∀ i, i < n → am_ag y (5 * i + 2) ≤ 59) {m j : Nat} (hm : m < n) (hj : j ≤ 60) (ht : am_ag y (5 * m + 2) < am_ag y (5 * m + 1) + j) : am_Good mi_37 7 [some (.ref 32), some (.ref a), some (.retAddr m), some (.retAddr (am_ag y (5 * m + 1) + j))] [] (sv32 h W F B) (none, (sv32 h W F B)) := by
  have b0 := hb0 m hm
  have b1 := hb1 m hm
  have b2 := hb2 m hm
  have e0 : am_ag y (5 * m + 0) = am_ag y (5 * m) := rfl
  refine g_iload_n (i := 3) dd_37_7 rfl ?_
  refine g_aload_n (i := 1) dd_37_8 rfl ?_
  refine g_iload_n (i := 2) dd_37_9 rfl ?_
  refine g_iconst dd_37_10 ic_2 ?_
  refine g_virtual (M' := mi_31) (n := 2) (ci := 8) (b := a) (as := [.retAddr m, .retAddr 2]) (st := [.retAddr (am_ag y (5 * m + 1) + j)]) (r1 := (some (.retAddr (am_ag y (5 * m + 2))), (sv32 h W F B))) w_461 w_450 w_451 ⟨lk_31.1, lk_31.2.1, lk_31.2.2, by decide, by decide⟩ rfl (qa _ _ _) rfl (by simp [Value.category]) dd_37_11 (hc _ _ _ _ _ (by omega) (by decide)) ?_
  show am_Good mi_37 14 [some (.ref 32), some (.ref a), some (.retAddr m), some (.retAddr (am_ag y (5 * m + 1) + j))] [.retAddr (am_ag y (5 * m + 2)), .retAddr (am_ag y (5 * m + 1) + j)] (sv32 h W F B) _
  refine g_icmp_gt_t (t := 47) dd_37_14 (by decide) (by first | exact sk_gt_t (by omega) (by omega) | exact tk_gt_t (by omega)) ?_
  exact g_return rfl dd_37_47
theorem s32_ml {h : am_H} {W F B : Nat} (hH : sv32_ok h) (qS : am_get h 32 = some (.inr (9, [.ref 33, .ref 34, .ref 35]))) {a b l n y : Nat} (qa : ∀ W F B, am_get (sv32 h W F B) a = some (.inr (8, [.ref b, .retAddr 5, .retAddr l, .retAddr n]))) (hc : ∀ W F B r c, r < n → c < 5 → am_EG mi_31 [.ref a, .retAddr r, .retAddr c] (sv32 h W F B) (some (.retAddr (am_ag y (5 * r + c))), sv32 h W F B)) (hn : n ≤ 9) (hb0 : ∀ i, i < n → am_ag y (5 * i) ≤ 3) (hb1 : ∀ i, i < n → am_ag y (5 * i + 1) ≤ 59) (hb2 : ∀ i, i < n → am_ag y (5 * i + 2) ≤ 59) {m : Nat} (hm : m < n) : ∀ (k j : Nat), j + k = am_ag y (5 * m + 2) + 1 - am_ag y (5 * m + 1) → am_Good mi_37 7 [some (.ref 32), some (.ref a), some (.retAddr m), some (.retAddr (am_ag y (5 * m + 1) + j))] [] (sv32 h (fl W (60 * am_ag y (5 * m) + am_ag y (5 * m + 1)) (am_ag y (5 * m + 3)) j) (fl F (60 * am_ag y (5 * m) + am_ag y (5 * m + 1)) (am_ag y (5 * m + 4)) j) (fl B (60 * am_ag y (5 * m) + am_ag y (5 * m + 1)) 0 j)) (none, (sv32 h (fl W (60 * am_ag y (5 * m) + am_ag y (5 * m + 1)) (am_ag y (5 * m + 3)) (am_ag y (5 * m + 2) + 1 - am_ag y (5 * m + 1))) (fl F (60 * am_ag y (5 * m) + am_ag y (5 * m + 1)) (am_ag y (5 * m + 4)) (am_ag y (5 * m + 2) + 1 - am_ag y (5 * m + 1))) (fl B (60 * am_ag y (5 * m) + am_ag y (5 * m + 1)) 0 (am_ag y (5 * m + 2) + 1 - am_ag y (5 * m + 1)))))
  | 0, j, e => by
    have e' : j = am_ag y (5 * m + 2) + 1 - am_ag y (5 * m + 1) := by omega
    have b2 := hb2 m hm
    have b1 := hb1 m hm
    rw [← e']
    exact s32_m2 hH qS qa hc hn hb0 hb1 hb2 hm (by omega) (by omega)
  | k + 1, j, e => by
    have q := s32_ml (W := W) (F := F) (B := B) hH qS qa hc hn hb0 hb1 hb2 hm k (j + 1) (by omega)
    refine s32_m1 hH qS qa hc hn hb0 hb1 hb2 hm (by omega) ?_
    rw [show 60 * am_ag y (5 * m + 0) + (am_ag y (5 * m + 1) + j) = 60 * am_ag y (5 * m) + am_ag y (5 * m + 1) + j from by show 60 * am_ag y (5 * m) + _ = _; omega]
    exact q
theorem s32_m {h : am_H} {W F B : Nat} (hH : sv32_ok h) (qS : am_get h 32 = some (.inr (9, [.ref 33, .ref 34, .ref 35]))) {a b l n y : Nat} (qa : ∀ W F B, am_get (sv32 h W F B) a = some (.inr (8, [.ref b, .retAddr 5, .retAddr l, .retAddr n]))) (hc : ∀ W F B r c, r < n → c < 5 → am_EG mi_31 [.ref a, .retAddr r, .retAddr c] (sv32 h W F B) (some (.retAddr (am_ag y (5 * r + c))), sv32 h W F B)) (hn : n ≤ 9) (hb0 : ∀ i, i < n → am_ag y (5 * i) ≤ 3) (hb1 : ∀ i, i < n → am_ag y (5 * i + 1) ≤ 59) (hb2 : ∀ i, i < n → am_ag y (5 * i + 2) ≤ 59) {m : Nat} (hm : m < n) : am_EG mi_37 [.ref 32, .ref a, .retAddr m] (sv32 h W F B) (none, (sv32 h (fl W (60 * am_ag y (5 * m) + am_ag y (5 * m + 1)) (am_ag y (5 * m + 3)) (am_ag y (5 * m + 2) + 1 - am_ag y (5 * m + 1))) (fl F (60 * am_ag y (5 * m) + am_ag y (5 * m + 1)) (am_ag y (5 * m + 4)) (am_ag y (5 * m + 2) + 1 - am_ag y (5 * m + 1))) (fl B (60 * am_ag y (5 * m) + am_ag y (5 * m + 1)) 0 (am_ag y (5 * m + 2) + 1 - am_ag y (5 * m + 1))))) := by
  refine am_enter (n := 1) tk_37.2.1 (by simp [Value.category]) (Nat.le_of_ble_eq_true rfl) ?_
  show am_Good mi_37 0 [some (.ref 32), some (.ref a), some (.retAddr m), none] [] (sv32 h W F B) _
  refine g_aload_n (i := 1) dd_37_0 rfl ?_
  refine g_iload_n (i := 2) dd_37_1 rfl ?_
  refine g_iconst dd_37_2 ic_1 ?_
  refine g_virtual (M' := mi_31) (n := 2) (ci := 8) (b := a) (as := [.retAddr m, .retAddr 1]) (st := []) (r1 := (some (.retAddr (am_ag y (5 * m + 1))), (sv32 h W F B))) w_461 w_450 w_451 ⟨lk_31.1, lk_31.2.1, lk_31.2.2, by decide, by decide⟩ rfl (qa _ _ _) rfl (by simp [Value.category]) dd_37_3 (hc _ _ _ _ _ (by omega) (by decide)) ?_
  show am_Good mi_37 6 [some (.ref 32), some (.ref a), some (.retAddr m), none] [.retAddr (am_ag y (5 * m + 1))] (sv32 h W F B) _
  refine g_istore_n (i := 3) dd_37_6 (am_nlb_ok rfl) (by decide) ?_
  exact s32_ml hH qS qa hc hn hb0 hb1 hb2 hm (am_ag y (5 * m + 2) + 1 - am_ag y (5 * m + 1)) 0 (by omega)
theorem s32_b31 {h : am_H} {W F B : Nat} (hH : sv32_ok h) (qS : am_get h 32 = some (.inr (9, [.ref 33, .ref 34, .ref 35]))) {a b l n y : Nat} (qa : ∀ W F B, am_get (sv32 h W F B) a = some (.inr (8, [.ref b, .retAddr 3, .retAddr l, .retAddr n]))) (hc : ∀ W F B r c, r < n → c < 3 → am_EG mi_31 [.ref a, .retAddr r, .retAddr c] (sv32 h W F B) (some (.retAddr (am_ag y (3 * r + c))), sv32 h W F B)) (hn : n ≤ 6) (hb0 : ∀ i, i < n → am_ag y (3 * i) ≤ 3) (hb1 : ∀ i, i < n → am_ag y (3 * i + 1) ≤ 59) (hb2 : ∀ i, i < n → am_ag y (3 * i + 2) ≤ 59) {r : am_R} {m j : Nat} (hm : m < n) (ht : am_ag y (3 * m + 1) + j ≤ am_ag y (3 * m + 2)) (hg : am_Good mi_38 7 [some (.ref 32), some (.ref a), some (.retAddr m), some (.retAddr (am_ag y (3 * m + 1) + (j + 1)))] [] (sv32 h (am_as W (60 * am_ag y (3 * m + 0) + (am_ag y (3 * m + 1) + j)) 0) (am_as F (60 * am_ag y (3 * m + 0) + (am_ag y (3 * m + 1) + j)) 8) (am_as B (60 * am_ag y (3 * m + 0) + (am_ag y (3 * m + 1) + j)) 1)) r) : am_Good mi_38 7 [some (.ref 32), some (.ref a), some (.retAddr m), some (.retAddr (am_ag y (3 * m + 1) + j))] [] (sv32 h W F B) r := by
  have b0 := hb0 m hm
  have b1 := hb1 m hm
  have b2 := hb2 m hm
  have e0 : am_ag y (3 * m + 0) = am_ag y (3 * m) := rfl
  refine g_iload_n (i := 3) dd_38_7 rfl ?_
  refine g_aload_n (i := 1) dd_38_8 rfl ?_
  refine g_iload_n (i := 2) dd_38_9 rfl ?_
  refine g_iconst dd_38_10 ic_2 ?_
  refine g_virtual (M' := mi_31) (n := 2) (ci := 8) (b := a) (as := [.retAddr m, .retAddr 2]) (st := [.retAddr (am_ag y (3 * m + 1) + j)]) (r1 := (some (.retAddr (am_ag y (3 * m + 2))), (sv32 h W F B))) w_461 w_450 w_451 ⟨lk_31.1, lk_31.2.1, lk_31.2.2, by decide, by decide⟩ rfl (qa _ _ _) rfl (by simp [Value.category]) dd_38_11 (hc _ _ _ _ _ (by omega) (by decide)) ?_
  show am_Good mi_38 14 [some (.ref 32), some (.ref a), some (.retAddr m), some (.retAddr (am_ag y (3 * m + 1) + j))] [.retAddr (am_ag y (3 * m + 2)), .retAddr (am_ag y (3 * m + 1) + j)] (sv32 h W F B) _
  refine g_icmp_gt_f (t := 38) dd_38_14 (by decide) (by first | exact sk_gt_f (by omega) (by omega) | exact tk_gt_f (by omega)) ?_
  refine g_aload_n (i := 0) dd_38_17 rfl ?_
  refine g_aload_n (i := 1) dd_38_18 rfl ?_
  refine g_iload_n (i := 2) dd_38_19 rfl ?_
  refine g_iconst dd_38_20 ic_0 ?_
  refine g_virtual (M' := mi_31) (n := 2) (ci := 8) (b := a) (as := [.retAddr m, .retAddr 0]) (st := [.ref 32]) (r1 := (some (.retAddr (am_ag y (3 * m + 0))), (sv32 h W F B))) w_461 w_450 w_451 ⟨lk_31.1, lk_31.2.1, lk_31.2.2, by decide, by decide⟩ rfl (qa _ _ _) rfl (by simp [Value.category]) dd_38_21 (hc _ _ _ _ _ (by omega) (by decide)) ?_
  show am_Good mi_38 24 [some (.ref 32), some (.ref a), some (.retAddr m), some (.retAddr (am_ag y (3 * m + 1) + j))] [.retAddr (am_ag y (3 * m + 0)), .ref 32] (sv32 h W F B) _
  refine g_iload_n (i := 3) dd_38_24 rfl ?_
  refine g_iconst dd_38_25 ic_0 ?_
  refine g_bipush dd_38_26 bi_8 ?_
  refine g_iconst dd_38_28 ic_1 ?_
  refine g_virtual (M' := mi_34) (n := 5) (ci := 9) (b := 32) (as := [.retAddr (am_ag y (3 * m + 0)), .retAddr (am_ag y (3 * m + 1) + j), .retAddr 0, .retAddr 8, .retAddr 1]) (st := []) (r1 := (none, (sv32 h (am_as W (60 * (am_ag y (3 * m + 0)) + (am_ag y (3 * m + 1) + j)) 0) (am_as F (60 * (am_ag y (3 * m + 0)) + (am_ag y (3 * m + 1) + j)) 8) (am_as B (60 * (am_ag y (3 * m + 0)) + (am_ag y (3 * m + 1) + j)) 1)))) w_462 w_464 ps_34 ⟨lk_34.1, lk_34.2.1, lk_34.2.2, by decide, by decide⟩ rfl ((sv32_o hH rfl).trans qS) rfl (by simp [Value.category]) dd_38_29 (s32_put hH qS (by omega) (by omega)) ?_
  show am_Good mi_38 32 [some (.ref 32), some (.ref a), some (.retAddr m), some (.retAddr (am_ag y (3 * m + 1) + j))] [] (sv32 h (am_as W (60 * (am_ag y (3 * m + 0)) + (am_ag y (3 * m + 1) + j)) 0) (am_as F (60 * (am_ag y (3 * m + 0)) + (am_ag y (3 * m + 1) + j)) 8) (am_as B (60 * (am_ag y (3 * m + 0)) + (am_ag y (3 * m + 1) + j)) 1)) _
  refine e_iinc (v := 1) (w := am_ag y (3 * m + 1) + j + 1) dd_38_32 rfl ic_1 (am_nlb_ok rfl) (by decide) (by omega) ?_
  refine g_goto (t := 7) dd_38_35 (by decide) ?_
  exact hg
theorem s32_b32 {h : am_H} {W F B : Nat} (hH : sv32_ok h) (qS : am_get h 32 = some (.inr (9, [.ref 33, .ref 34, .ref 35]))) {a b l n y : Nat} (qa : ∀ W F B, am_get (sv32 h W F B) a = some (.inr (8, [.ref b, .retAddr 3, .retAddr l, .retAddr n]))) (hc : ∀ W F B r c, r < n → c < 3 → am_EG mi_31 [.ref a, .retAddr r, .retAddr c] (sv32 h W F B) (some (.retAddr (am_ag y (3 * r + c))), sv32 h W F B)) (hn : n ≤ 6) (hb0 : ∀ i, i < n → am_ag y (3 * i) ≤ 3) (hb1 : ∀ i, i < n → am_ag y (3 * i + 1) ≤ 59) (hb2 : ∀ i, i < n → am_ag y (3 * i + 2) ≤ 59) {m j : Nat} (hm : m < n) (hj : j ≤ 60) (ht : am_ag y (3 * m + 2) < am_ag y (3 * m + 1) + j) : am_Good mi_38 7 [some (.ref 32), some (.ref a), some (.retAddr m), some (.retAddr (am_ag y (3 * m + 1) + j))] [] (sv32 h W F B) (none, (sv32 h W F B)) := by
  have b0 := hb0 m hm
  have b1 := hb1 m hm
  have b2 := hb2 m hm
  have e0 : am_ag y (3 * m + 0) = am_ag y (3 * m) := rfl
  refine g_iload_n (i := 3) dd_38_7 rfl ?_
  refine g_aload_n (i := 1) dd_38_8 rfl ?_
  refine g_iload_n (i := 2) dd_38_9 rfl ?_
  refine g_iconst dd_38_10 ic_2 ?_
  refine g_virtual (M' := mi_31) (n := 2) (ci := 8) (b := a) (as := [.retAddr m, .retAddr 2]) (st := [.retAddr (am_ag y (3 * m + 1) + j)]) (r1 := (some (.retAddr (am_ag y (3 * m + 2))), (sv32 h W F B))) w_461 w_450 w_451 ⟨lk_31.1, lk_31.2.1, lk_31.2.2, by decide, by decide⟩ rfl (qa _ _ _) rfl (by simp [Value.category]) dd_38_11 (hc _ _ _ _ _ (by omega) (by decide)) ?_
  show am_Good mi_38 14 [some (.ref 32), some (.ref a), some (.retAddr m), some (.retAddr (am_ag y (3 * m + 1) + j))] [.retAddr (am_ag y (3 * m + 2)), .retAddr (am_ag y (3 * m + 1) + j)] (sv32 h W F B) _
  refine g_icmp_gt_t (t := 38) dd_38_14 (by decide) (by first | exact sk_gt_t (by omega) (by omega) | exact tk_gt_t (by omega)) ?_
  exact g_return rfl dd_38_38
theorem s32_b3l {h : am_H} {W F B : Nat} (hH : sv32_ok h) (qS : am_get h 32 = some (.inr (9, [.ref 33, .ref 34, .ref 35]))) {a b l n y : Nat} (qa : ∀ W F B, am_get (sv32 h W F B) a = some (.inr (8, [.ref b, .retAddr 3, .retAddr l, .retAddr n]))) (hc : ∀ W F B r c, r < n → c < 3 → am_EG mi_31 [.ref a, .retAddr r, .retAddr c] (sv32 h W F B) (some (.retAddr (am_ag y (3 * r + c))), sv32 h W F B)) (hn : n ≤ 6) (hb0 : ∀ i, i < n → am_ag y (3 * i) ≤ 3) (hb1 : ∀ i, i < n → am_ag y (3 * i + 1) ≤ 59) (hb2 : ∀ i, i < n → am_ag y (3 * i + 2) ≤ 59) {m : Nat} (hm : m < n) : ∀ (k j : Nat), j + k = am_ag y (3 * m + 2) + 1 - am_ag y (3 * m + 1) → am_Good mi_38 7 [some (.ref 32), some (.ref a), some (.retAddr m), some (.retAddr (am_ag y (3 * m + 1) + j))] [] (sv32 h (fl W (60 * am_ag y (3 * m) + am_ag y (3 * m + 1)) 0 j) (fl F (60 * am_ag y (3 * m) + am_ag y (3 * m + 1)) 8 j) (fl B (60 * am_ag y (3 * m) + am_ag y (3 * m + 1)) 1 j)) (none, (sv32 h (fl W (60 * am_ag y (3 * m) + am_ag y (3 * m + 1)) 0 (am_ag y (3 * m + 2) + 1 - am_ag y (3 * m + 1))) (fl F (60 * am_ag y (3 * m) + am_ag y (3 * m + 1)) 8 (am_ag y (3 * m + 2) + 1 - am_ag y (3 * m + 1))) (fl B (60 * am_ag y (3 * m) + am_ag y (3 * m + 1)) 1 (am_ag y (3 * m + 2) + 1 - am_ag y (3 * m + 1)))))
  | 0, j, e => by
    have e' : j = am_ag y (3 * m + 2) + 1 - am_ag y (3 * m + 1) := by omega
    have b2 := hb2 m hm
    have b1 := hb1 m hm
    rw [← e']
    exact s32_b32 hH qS qa hc hn hb0 hb1 hb2 hm (by omega) (by omega)
  | k + 1, j, e => by
    have q := s32_b3l (W := W) (F := F) (B := B) hH qS qa hc hn hb0 hb1 hb2 hm k (j + 1) (by omega)
    refine s32_b31 hH qS qa hc hn hb0 hb1 hb2 hm (by omega) ?_
    rw [show 60 * am_ag y (3 * m + 0) + (am_ag y (3 * m + 1) + j) = 60 * am_ag y (3 * m) + am_ag y (3 * m + 1) + j from by show 60 * am_ag y (3 * m) + _ = _; omega]
    exact q
theorem s32_b3 {h : am_H} {W F B : Nat} (hH : sv32_ok h) (qS : am_get h 32 = some (.inr (9, [.ref 33, .ref 34, .ref 35]))) {a b l n y : Nat} (qa : ∀ W F B, am_get (sv32 h W F B) a = some (.inr (8, [.ref b, .retAddr 3, .retAddr l, .retAddr n]))) (hc : ∀ W F B r c, r < n → c < 3 → am_EG mi_31 [.ref a, .retAddr r, .retAddr c] (sv32 h W F B) (some (.retAddr (am_ag y (3 * r + c))), sv32 h W F B)) (hn : n ≤ 6) (hb0 : ∀ i, i < n → am_ag y (3 * i) ≤ 3) (hb1 : ∀ i, i < n → am_ag y (3 * i + 1) ≤ 59) (hb2 : ∀ i, i < n → am_ag y (3 * i + 2) ≤ 59) {m : Nat} (hm : m < n) : am_EG mi_38 [.ref 32, .ref a, .retAddr m] (sv32 h W F B) (none, (sv32 h (fl W (60 * am_ag y (3 * m) + am_ag y (3 * m + 1)) 0 (am_ag y (3 * m + 2) + 1 - am_ag y (3 * m + 1))) (fl F (60 * am_ag y (3 * m) + am_ag y (3 * m + 1)) 8 (am_ag y (3 * m + 2) + 1 - am_ag y (3 * m + 1))) (fl B (60 * am_ag y (3 * m) + am_ag y (3 * m + 1)) 1 (am_ag y (3 * m + 2) + 1 - am_ag y (3 * m + 1))))) := by
  refine am_enter (n := 1) tk_38.2.1 (by simp [Value.category]) (Nat.le_of_ble_eq_true rfl) ?_
  show am_Good mi_38 0 [some (.ref 32), some (.ref a), some (.retAddr m), none] [] (sv32 h W F B) _
  refine g_aload_n (i := 1) dd_38_0 rfl ?_
  refine g_iload_n (i := 2) dd_38_1 rfl ?_
  refine g_iconst dd_38_2 ic_1 ?_
  refine g_virtual (M' := mi_31) (n := 2) (ci := 8) (b := a) (as := [.retAddr m, .retAddr 1]) (st := []) (r1 := (some (.retAddr (am_ag y (3 * m + 1))), (sv32 h W F B))) w_461 w_450 w_451 ⟨lk_31.1, lk_31.2.1, lk_31.2.2, by decide, by decide⟩ rfl (qa _ _ _) rfl (by simp [Value.category]) dd_38_3 (hc _ _ _ _ _ (by omega) (by decide)) ?_
  show am_Good mi_38 6 [some (.ref 32), some (.ref a), some (.retAddr m), none] [.retAddr (am_ag y (3 * m + 1))] (sv32 h W F B) _
  refine g_istore_n (i := 3) dd_38_6 (am_nlb_ok rfl) (by decide) ?_
  exact s32_b3l hH qS qa hc hn hb0 hb1 hb2 hm (am_ag y (3 * m + 2) + 1 - am_ag y (3 * m + 1)) 0 (by omega)
theorem s32_b41 {h : am_H} {W F B : Nat} (hH : sv32_ok h) (qS : am_get h 32 = some (.inr (9, [.ref 33, .ref 34, .ref 35]))) {a b l n y : Nat} (qa : ∀ W F B, am_get (sv32 h W F B) a = some (.inr (8, [.ref b, .retAddr 4, .retAddr l, .retAddr n]))) (hc : ∀ W F B r c, r < n → c < 4 → am_EG mi_31 [.ref a, .retAddr r, .retAddr c] (sv32 h W F B) (some (.retAddr (am_ag y (4 * r + c))), sv32 h W F B)) (hn : n ≤ 6) (hb0 : ∀ i, i < n → am_ag y (4 * i) ≤ 3) (hb1 : ∀ i, i < n → am_ag y (4 * i + 1) ≤ 59) (hb2 : ∀ i, i < n → am_ag y (4 * i + 2) ≤ 59) {r : am_R} {m j : Nat} (hm : m < n) (ht : am_ag y (4 * m + 1) + j ≤ am_ag y (4 * m + 2)) (hg : am_Good mi_38 7 [some (.ref 32), some (.ref a), some (.retAddr m), some (.retAddr (am_ag y (4 * m + 1) + (j + 1)))] [] (sv32 h (am_as W (60 * am_ag y (4 * m + 0) + (am_ag y (4 * m + 1) + j)) 0) (am_as F (60 * am_ag y (4 * m + 0) + (am_ag y (4 * m + 1) + j)) 8) (am_as B (60 * am_ag y (4 * m + 0) + (am_ag y (4 * m + 1) + j)) 1)) r) : am_Good mi_38 7 [some (.ref 32), some (.ref a), some (.retAddr m), some (.retAddr (am_ag y (4 * m + 1) + j))] [] (sv32 h W F B) r := by
  have b0 := hb0 m hm
  have b1 := hb1 m hm
  have b2 := hb2 m hm
  have e0 : am_ag y (4 * m + 0) = am_ag y (4 * m) := rfl
  refine g_iload_n (i := 3) dd_38_7 rfl ?_
  refine g_aload_n (i := 1) dd_38_8 rfl ?_
  refine g_iload_n (i := 2) dd_38_9 rfl ?_
  refine g_iconst dd_38_10 ic_2 ?_
  refine g_virtual (M' := mi_31) (n := 2) (ci := 8) (b := a) (as := [.retAddr m, .retAddr 2]) (st := [.retAddr (am_ag y (4 * m + 1) + j)]) (r1 := (some (.retAddr (am_ag y (4 * m + 2))), (sv32 h W F B))) w_461 w_450 w_451 ⟨lk_31.1, lk_31.2.1, lk_31.2.2, by decide, by decide⟩ rfl (qa _ _ _) rfl (by simp [Value.category]) dd_38_11 (hc _ _ _ _ _ (by omega) (by decide)) ?_
  show am_Good mi_38 14 [some (.ref 32), some (.ref a), some (.retAddr m), some (.retAddr (am_ag y (4 * m + 1) + j))] [.retAddr (am_ag y (4 * m + 2)), .retAddr (am_ag y (4 * m + 1) + j)] (sv32 h W F B) _
  refine g_icmp_gt_f (t := 38) dd_38_14 (by decide) (by first | exact sk_gt_f (by omega) (by omega) | exact tk_gt_f (by omega)) ?_
  refine g_aload_n (i := 0) dd_38_17 rfl ?_
  refine g_aload_n (i := 1) dd_38_18 rfl ?_
  refine g_iload_n (i := 2) dd_38_19 rfl ?_
  refine g_iconst dd_38_20 ic_0 ?_
  refine g_virtual (M' := mi_31) (n := 2) (ci := 8) (b := a) (as := [.retAddr m, .retAddr 0]) (st := [.ref 32]) (r1 := (some (.retAddr (am_ag y (4 * m + 0))), (sv32 h W F B))) w_461 w_450 w_451 ⟨lk_31.1, lk_31.2.1, lk_31.2.2, by decide, by decide⟩ rfl (qa _ _ _) rfl (by simp [Value.category]) dd_38_21 (hc _ _ _ _ _ (by omega) (by decide)) ?_
  show am_Good mi_38 24 [some (.ref 32), some (.ref a), some (.retAddr m), some (.retAddr (am_ag y (4 * m + 1) + j))] [.retAddr (am_ag y (4 * m + 0)), .ref 32] (sv32 h W F B) _
  refine g_iload_n (i := 3) dd_38_24 rfl ?_
  refine g_iconst dd_38_25 ic_0 ?_
  refine g_bipush dd_38_26 bi_8 ?_
  refine g_iconst dd_38_28 ic_1 ?_
  refine g_virtual (M' := mi_34) (n := 5) (ci := 9) (b := 32) (as := [.retAddr (am_ag y (4 * m + 0)), .retAddr (am_ag y (4 * m + 1) + j), .retAddr 0, .retAddr 8, .retAddr 1]) (st := []) (r1 := (none, (sv32 h (am_as W (60 * (am_ag y (4 * m + 0)) + (am_ag y (4 * m + 1) + j)) 0) (am_as F (60 * (am_ag y (4 * m + 0)) + (am_ag y (4 * m + 1) + j)) 8) (am_as B (60 * (am_ag y (4 * m + 0)) + (am_ag y (4 * m + 1) + j)) 1)))) w_462 w_464 ps_34 ⟨lk_34.1, lk_34.2.1, lk_34.2.2, by decide, by decide⟩ rfl ((sv32_o hH rfl).trans qS) rfl (by simp [Value.category]) dd_38_29 (s32_put hH qS (by omega) (by omega)) ?_
  show am_Good mi_38 32 [some (.ref 32), some (.ref a), some (.retAddr m), some (.retAddr (am_ag y (4 * m + 1) + j))] [] (sv32 h (am_as W (60 * (am_ag y (4 * m + 0)) + (am_ag y (4 * m + 1) + j)) 0) (am_as F (60 * (am_ag y (4 * m + 0)) + (am_ag y (4 * m + 1) + j)) 8) (am_as B (60 * (am_ag y (4 * m + 0)) + (am_ag y (4 * m + 1) + j)) 1)) _
  refine e_iinc (v := 1) (w := am_ag y (4 * m + 1) + j + 1) dd_38_32 rfl ic_1 (am_nlb_ok rfl) (by decide) (by omega) ?_
  refine g_goto (t := 7) dd_38_35 (by decide) ?_
  exact hg
theorem s32_b42 {h : am_H} {W F B : Nat} (hH : sv32_ok h) (qS : am_get h 32 = some (.inr (9, [.ref 33, .ref 34, .ref 35]))) {a b l n y : Nat} (qa : ∀ W F B, am_get (sv32 h W F B) a = some (.inr (8, [.ref b, .retAddr 4, .retAddr l, .retAddr n]))) (hc : ∀ W F B r c, r < n → c < 4 → am_EG mi_31 [.ref a, .retAddr r, .retAddr c] (sv32 h W F B) (some (.retAddr (am_ag y (4 * r + c))), sv32 h W F B)) (hn : n ≤ 6) (hb0 : ∀ i, i < n → am_ag y (4 * i) ≤ 3) (hb1 : ∀ i, i < n → am_ag y (4 * i + 1) ≤ 59) (hb2 : ∀ i, i < n → am_ag y (4 * i + 2) ≤ 59) {m j : Nat} (hm : m < n) (hj : j ≤ 60) (ht : am_ag y (4 * m + 2) < am_ag y (4 * m + 1) + j) : am_Good mi_38 7 [some (.ref 32), some (.ref a), some (.retAddr m), some (.retAddr (am_ag y (4 * m + 1) + j))] [] (sv32 h W F B) (none, (sv32 h W F B)) := by
  have b0 := hb0 m hm
  have b1 := hb1 m hm
  have b2 := hb2 m hm
  have e0 : am_ag y (4 * m + 0) = am_ag y (4 * m) := rfl
  refine g_iload_n (i := 3) dd_38_7 rfl ?_
  refine g_aload_n (i := 1) dd_38_8 rfl ?_
  refine g_iload_n (i := 2) dd_38_9 rfl ?_
  refine g_iconst dd_38_10 ic_2 ?_
  refine g_virtual (M' := mi_31) (n := 2) (ci := 8) (b := a) (as := [.retAddr m, .retAddr 2]) (st := [.retAddr (am_ag y (4 * m + 1) + j)]) (r1 := (some (.retAddr (am_ag y (4 * m + 2))), (sv32 h W F B))) w_461 w_450 w_451 ⟨lk_31.1, lk_31.2.1, lk_31.2.2, by decide, by decide⟩ rfl (qa _ _ _) rfl (by simp [Value.category]) dd_38_11 (hc _ _ _ _ _ (by omega) (by decide)) ?_
  show am_Good mi_38 14 [some (.ref 32), some (.ref a), some (.retAddr m), some (.retAddr (am_ag y (4 * m + 1) + j))] [.retAddr (am_ag y (4 * m + 2)), .retAddr (am_ag y (4 * m + 1) + j)] (sv32 h W F B) _
  refine g_icmp_gt_t (t := 38) dd_38_14 (by decide) (by first | exact sk_gt_t (by omega) (by omega) | exact tk_gt_t (by omega)) ?_
  exact g_return rfl dd_38_38
theorem s32_b4l {h : am_H} {W F B : Nat} (hH : sv32_ok h) (qS : am_get h 32 = some (.inr (9, [.ref 33, .ref 34, .ref 35]))) {a b l n y : Nat} (qa : ∀ W F B, am_get (sv32 h W F B) a = some (.inr (8, [.ref b, .retAddr 4, .retAddr l, .retAddr n]))) (hc : ∀ W F B r c, r < n → c < 4 → am_EG mi_31 [.ref a, .retAddr r, .retAddr c] (sv32 h W F B) (some (.retAddr (am_ag y (4 * r + c))), sv32 h W F B)) (hn : n ≤ 6) (hb0 : ∀ i, i < n → am_ag y (4 * i) ≤ 3) (hb1 : ∀ i, i < n → am_ag y (4 * i + 1) ≤ 59) (hb2 : ∀ i, i < n → am_ag y (4 * i + 2) ≤ 59) {m : Nat} (hm : m < n) : ∀ (k j : Nat), j + k = am_ag y (4 * m + 2) + 1 - am_ag y (4 * m + 1) → am_Good mi_38 7 [some (.ref 32), some (.ref a), some (.retAddr m), some (.retAddr (am_ag y (4 * m + 1) + j))] [] (sv32 h (fl W (60 * am_ag y (4 * m) + am_ag y (4 * m + 1)) 0 j) (fl F (60 * am_ag y (4 * m) + am_ag y (4 * m + 1)) 8 j) (fl B (60 * am_ag y (4 * m) + am_ag y (4 * m + 1)) 1 j)) (none, (sv32 h (fl W (60 * am_ag y (4 * m) + am_ag y (4 * m + 1)) 0 (am_ag y (4 * m + 2) + 1 - am_ag y (4 * m + 1))) (fl F (60 * am_ag y (4 * m) + am_ag y (4 * m + 1)) 8 (am_ag y (4 * m + 2) + 1 - am_ag y (4 * m + 1))) (fl B (60 * am_ag y (4 * m) + am_ag y (4 * m + 1)) 1 (am_ag y (4 * m + 2) + 1 - am_ag y (4 * m + 1)))))
  | 0, j, e => by
    have e' : j = am_ag y (4 * m + 2) + 1 - am_ag y (4 * m + 1) := by omega
    have b2 := hb2 m hm
    have b1 := hb1 m hm
    rw [← e']
    exact s32_b42 hH qS qa hc hn hb0 hb1 hb2 hm (by omega) (by omega)
  | k + 1, j, e => by
    have q := s32_b4l (W := W) (F := F) (B := B) hH qS qa hc hn hb0 hb1 hb2 hm k (j + 1) (by omega)
    refine s32_b41 hH qS qa hc hn hb0 hb1 hb2 hm (by omega) ?_
    rw [show 60 * am_ag y (4 * m + 0) + (am_ag y (4 * m + 1) + j) = 60 * am_ag y (4 * m) + am_ag y (4 * m + 1) + j from by show 60 * am_ag y (4 * m) + _ = _; omega]
    exact q
theorem s32_b4 {h : am_H} {W F B : Nat} (hH : sv32_ok h) (qS : am_get h 32 = some (.inr (9, [.ref 33, .ref 34, .ref 35]))) {a b l n y : Nat} (qa : ∀ W F B, am_get (sv32 h W F B) a = some (.inr (8, [.ref b, .retAddr 4, .retAddr l, .retAddr n]))) (hc : ∀ W F B r c, r < n → c < 4 → am_EG mi_31 [.ref a, .retAddr r, .retAddr c] (sv32 h W F B) (some (.retAddr (am_ag y (4 * r + c))), sv32 h W F B)) (hn : n ≤ 6) (hb0 : ∀ i, i < n → am_ag y (4 * i) ≤ 3) (hb1 : ∀ i, i < n → am_ag y (4 * i + 1) ≤ 59) (hb2 : ∀ i, i < n → am_ag y (4 * i + 2) ≤ 59) {m : Nat} (hm : m < n) : am_EG mi_38 [.ref 32, .ref a, .retAddr m] (sv32 h W F B) (none, (sv32 h (fl W (60 * am_ag y (4 * m) + am_ag y (4 * m + 1)) 0 (am_ag y (4 * m + 2) + 1 - am_ag y (4 * m + 1))) (fl F (60 * am_ag y (4 * m) + am_ag y (4 * m + 1)) 8 (am_ag y (4 * m + 2) + 1 - am_ag y (4 * m + 1))) (fl B (60 * am_ag y (4 * m) + am_ag y (4 * m + 1)) 1 (am_ag y (4 * m + 2) + 1 - am_ag y (4 * m + 1))))) := by
  refine am_enter (n := 1) tk_38.2.1 (by simp [Value.category]) (Nat.le_of_ble_eq_true rfl) ?_
  show am_Good mi_38 0 [some (.ref 32), some (.ref a), some (.retAddr m), none] [] (sv32 h W F B) _
  refine g_aload_n (i := 1) dd_38_0 rfl ?_
  refine g_iload_n (i := 2) dd_38_1 rfl ?_
  refine g_iconst dd_38_2 ic_1 ?_
  refine g_virtual (M' := mi_31) (n := 2) (ci := 8) (b := a) (as := [.retAddr m, .retAddr 1]) (st := []) (r1 := (some (.retAddr (am_ag y (4 * m + 1))), (sv32 h W F B))) w_461 w_450 w_451 ⟨lk_31.1, lk_31.2.1, lk_31.2.2, by decide, by decide⟩ rfl (qa _ _ _) rfl (by simp [Value.category]) dd_38_3 (hc _ _ _ _ _ (by omega) (by decide)) ?_
  show am_Good mi_38 6 [some (.ref 32), some (.ref a), some (.retAddr m), none] [.retAddr (am_ag y (4 * m + 1))] (sv32 h W F B) _
  refine g_istore_n (i := 3) dd_38_6 (am_nlb_ok rfl) (by decide) ?_
  exact s32_b4l hH qS qa hc hn hb0 hb1 hb2 hm (am_ag y (4 * m + 2) + 1 - am_ag y (4 * m + 1)) 0 (by omega)
theorem s32_sc1 {h : am_H} {W F B : Nat} (hH : sv32_ok h) (qS : am_get h 32 = some (.inr (9, [.ref 33, .ref 34, .ref 35]))) {a b l n y : Nat} (qa : ∀ W F B, am_get (sv32 h W F B) a = some (.inr (8, [.ref b, .retAddr 5, .retAddr l, .retAddr n]))) (hc : ∀ W F B r c, r < n → c < 5 → am_EG mi_31 [.ref a, .retAddr r, .retAddr c] (sv32 h W F B) (some (.retAddr (am_ag y (5 * r + c))), sv32 h W F B)) (hn : n ≤ 9) (hb0 : ∀ i, i < n → am_ag y (5 * i) ≤ 3) (hb1 : ∀ i, i < n → am_ag y (5 * i + 1) ≤ 59) (hb2 : ∀ i, i < n → am_ag y (5 * i + 2) ≤ 59) {wo : Nat} (hwo : wo < 4294967296) {r : am_R} {m : Nat} (hm : m < n) (hw : m ≠ wo) (hg : am_Good mi_36 2 [some (.ref 32), some (.ref a), some (.retAddr wo), some (.retAddr (m + 1))] [] (sv32 h (fl W (60 * am_ag y (5 * m) + am_ag y (5 * m + 1)) (am_ag y (5 * m + 3)) (am_ag y (5 * m + 2) + 1 - am_ag y (5 * m + 1))) (fl F (60 * am_ag y (5 * m) + am_ag y (5 * m + 1)) (am_ag y (5 * m + 4)) (am_ag y (5 * m + 2) + 1 - am_ag y (5 * m + 1))) (fl B (60 * am_ag y (5 * m) + am_ag y (5 * m + 1)) 0 (am_ag y (5 * m + 2) + 1 - am_ag y (5 * m + 1)))) r) : am_Good mi_36 2 [some (.ref 32), some (.ref a), some (.retAddr wo), some (.retAddr m)] [] (sv32 h W F B) r := by
  refine g_iload_n (i := 3) dd_36_2 rfl ?_
  refine g_aload_n (i := 1) dd_36_3 rfl ?_
  refine g_getfield (k := 3) am_ck8 (by decide) (Or.inr ⟨_, w_63⟩) dd_36_4 (qa _ _ _) rfl ?_
  refine g_icmp_ge_f (t := 27) dd_36_7 (by decide) (by first | exact sk_ge_f (by omega) (by omega) | exact tk_ge_f (by omega)) ?_
  refine g_iload_n (i := 3) dd_36_10 rfl ?_
  refine g_iload_n (i := 2) dd_36_11 rfl ?_
  refine g_icmp_eq_f (t := 21) dd_36_12 (by decide) (tk_eq_f (by omega)) ?_
  refine g_aload_n (i := 0) dd_36_15 rfl ?_
  refine g_aload_n (i := 1) dd_36_16 rfl ?_
  refine g_iload_n (i := 3) dd_36_17 rfl ?_
  refine g_virtual (M' := mi_37) (n := 2) (ci := 9) (b := 32) (as := [.ref a, .retAddr m]) (st := []) (r1 := (none, (sv32 h (fl W (60 * am_ag y (5 * m) + am_ag y (5 * m + 1)) (am_ag y (5 * m + 3)) (am_ag y (5 * m + 2) + 1 - am_ag y (5 * m + 1))) (fl F (60 * am_ag y (5 * m) + am_ag y (5 * m + 1)) (am_ag y (5 * m + 4)) (am_ag y (5 * m + 2) + 1 - am_ag y (5 * m + 1))) (fl B (60 * am_ag y (5 * m) + am_ag y (5 * m + 1)) 0 (am_ag y (5 * m + 2) + 1 - am_ag y (5 * m + 1)))))) w_473 w_475 ps_37 ⟨lk_37.1, lk_37.2.1, lk_37.2.2, by decide, by decide⟩ rfl ((sv32_o hH rfl).trans qS) rfl (by simp [Value.category]) dd_36_18 (s32_m hH qS qa hc hn hb0 hb1 hb2 hm) ?_
  show am_Good mi_36 21 [some (.ref 32), some (.ref a), some (.retAddr wo), some (.retAddr m)] [] (sv32 h (fl W (60 * am_ag y (5 * m) + am_ag y (5 * m + 1)) (am_ag y (5 * m + 3)) (am_ag y (5 * m + 2) + 1 - am_ag y (5 * m + 1))) (fl F (60 * am_ag y (5 * m) + am_ag y (5 * m + 1)) (am_ag y (5 * m + 4)) (am_ag y (5 * m + 2) + 1 - am_ag y (5 * m + 1))) (fl B (60 * am_ag y (5 * m) + am_ag y (5 * m + 1)) 0 (am_ag y (5 * m + 2) + 1 - am_ag y (5 * m + 1)))) _
  refine e_iinc (v := 1) (w := m + 1) dd_36_21 rfl ic_1 (am_nlb_ok rfl) (by decide) (by omega) ?_
  refine g_goto (t := 2) dd_36_24 (by decide) ?_
  exact hg
theorem s32_sc2 {h : am_H} {W F B : Nat} (hH : sv32_ok h) (qS : am_get h 32 = some (.inr (9, [.ref 33, .ref 34, .ref 35]))) {a b l n y : Nat} (qa : ∀ W F B, am_get (sv32 h W F B) a = some (.inr (8, [.ref b, .retAddr 5, .retAddr l, .retAddr n]))) (hc : ∀ W F B r c, r < n → c < 5 → am_EG mi_31 [.ref a, .retAddr r, .retAddr c] (sv32 h W F B) (some (.retAddr (am_ag y (5 * r + c))), sv32 h W F B)) (hn : n ≤ 9) (hb0 : ∀ i, i < n → am_ag y (5 * i) ≤ 3) (hb1 : ∀ i, i < n → am_ag y (5 * i + 1) ≤ 59) (hb2 : ∀ i, i < n → am_ag y (5 * i + 2) ≤ 59) {wo : Nat} (hwo : wo < 4294967296) {r : am_R} {m : Nat} (hm : m < n) (hw : m = wo) (hg : am_Good mi_36 2 [some (.ref 32), some (.ref a), some (.retAddr wo), some (.retAddr (m + 1))] [] (sv32 h W F B) r) : am_Good mi_36 2 [some (.ref 32), some (.ref a), some (.retAddr wo), some (.retAddr m)] [] (sv32 h W F B) r := by
  refine g_iload_n (i := 3) dd_36_2 rfl ?_
  refine g_aload_n (i := 1) dd_36_3 rfl ?_
  refine g_getfield (k := 3) am_ck8 (by decide) (Or.inr ⟨_, w_63⟩) dd_36_4 (qa _ _ _) rfl ?_
  refine g_icmp_ge_f (t := 27) dd_36_7 (by decide) (by first | exact sk_ge_f (by omega) (by omega) | exact tk_ge_f (by omega)) ?_
  refine g_iload_n (i := 3) dd_36_10 rfl ?_
  refine g_iload_n (i := 2) dd_36_11 rfl ?_
  refine g_icmp_eq_t (t := 21) dd_36_12 (by decide) (tk_eq_t (by rw [hw])) ?_
  refine e_iinc (v := 1) (w := m + 1) dd_36_21 rfl ic_1 (am_nlb_ok rfl) (by decide) (by omega) ?_
  refine g_goto (t := 2) dd_36_24 (by decide) ?_
  exact hg
theorem s32_sc3 {h : am_H} {W F B : Nat} (hH : sv32_ok h) (qS : am_get h 32 = some (.inr (9, [.ref 33, .ref 34, .ref 35]))) {a b l n y : Nat} (qa : ∀ W F B, am_get (sv32 h W F B) a = some (.inr (8, [.ref b, .retAddr 5, .retAddr l, .retAddr n]))) (hc : ∀ W F B r c, r < n → c < 5 → am_EG mi_31 [.ref a, .retAddr r, .retAddr c] (sv32 h W F B) (some (.retAddr (am_ag y (5 * r + c))), sv32 h W F B)) (hn : n ≤ 9) (hb0 : ∀ i, i < n → am_ag y (5 * i) ≤ 3) (hb1 : ∀ i, i < n → am_ag y (5 * i + 1) ≤ 59) (hb2 : ∀ i, i < n → am_ag y (5 * i + 2) ≤ 59) {wo : Nat} (hwo : wo < 4294967296) : am_Good mi_36 2 [some (.ref 32), some (.ref a), some (.retAddr wo), some (.retAddr n)] [] (sv32 h W F B) (none, (sv32 h W F B)) := by
  refine g_iload_n (i := 3) dd_36_2 rfl ?_
  refine g_aload_n (i := 1) dd_36_3 rfl ?_
  refine g_getfield (k := 3) am_ck8 (by decide) (Or.inr ⟨_, w_63⟩) dd_36_4 (qa _ _ _) rfl ?_
  refine g_icmp_ge_t (t := 27) dd_36_7 (by decide) (by first | exact sk_ge_t (by omega) (by omega) | exact tk_ge_t (by omega)) ?_
  exact g_return rfl dd_36_27
theorem s32_scl {h : am_H} {W F B : Nat} (hH : sv32_ok h) (qS : am_get h 32 = some (.inr (9, [.ref 33, .ref 34, .ref 35]))) {a b l n y : Nat} (qa : ∀ W F B, am_get (sv32 h W F B) a = some (.inr (8, [.ref b, .retAddr 5, .retAddr l, .retAddr n]))) (hc : ∀ W F B r c, r < n → c < 5 → am_EG mi_31 [.ref a, .retAddr r, .retAddr c] (sv32 h W F B) (some (.retAddr (am_ag y (5 * r + c))), sv32 h W F B)) (hn : n ≤ 9) (hb0 : ∀ i, i < n → am_ag y (5 * i) ≤ 3) (hb1 : ∀ i, i < n → am_ag y (5 * i + 1) ≤ 59) (hb2 : ∀ i, i < n → am_ag y (5 * i + 2) ≤ 59) {wo : Nat} (hwo : wo < 4294967296) : ∀ (k m : Nat), m + k = n → am_Good mi_36 2 [some (.ref 32), some (.ref a), some (.retAddr wo), some (.retAddr m)] [] (sv32 h (sw 60 y 5 (sc_ne wo) (fun n => am_ag y (5 * n + 3)) W m) (sw 60 y 5 (sc_ne wo) (fun n => am_ag y (5 * n + 4)) F m) (sw 60 y 5 (sc_ne wo) (fun _ => 0) B m)) (none, (sv32 h (sw 60 y 5 (sc_ne wo) (fun n => am_ag y (5 * n + 3)) W n) (sw 60 y 5 (sc_ne wo) (fun n => am_ag y (5 * n + 4)) F n) (sw 60 y 5 (sc_ne wo) (fun _ => 0) B n)))
  | 0, m, e => by
    have e' : m = n := by omega
    subst e'
    exact s32_sc3 hH qS qa hc hn hb0 hb1 hb2 hwo
  | k + 1, m, e => by
    have q := s32_scl (W := W) (F := F) (B := B) hH qS qa hc hn hb0 hb1 hb2 hwo k (m + 1) (by omega)
    by_cases hw : m = wo
    · have hne : ¬ sc_ne wo m = true := by
        unfold sc_ne
        rw [hw, Nat.beq_refl]
        decide
      have s3 : ∀ (v : Nat → Nat) (x : Nat), sw 60 y 5 (sc_ne wo) v x (m + 1) = sw 60 y 5 (sc_ne wo) v x m := fun v x => if_neg hne
      rw [s3, s3, s3] at q
      exact s32_sc2 hH qS qa hc hn hb0 hb1 hb2 hwo (by omega) hw q
    · have hne : sc_ne wo m = true := by
        unfold sc_ne
        cases hb : Nat.beq m wo
        · rfl
        · exact absurd (Nat.eq_of_beq_eq_true hb) hw
      have s3 : ∀ (v : Nat → Nat) (x : Nat), sw 60 y 5 (sc_ne wo) v x (m + 1) = fl (sw 60 y 5 (sc_ne wo) v x m) (60 * am_ag y (5 * m) + am_ag y (5 * m + 1)) (v m) (am_ag y (5 * m + 2) + 1 - am_ag y (5 * m + 1)) := fun v x => if_pos hne
      rw [s3, s3, s3] at q
      exact s32_sc1 hH qS qa hc hn hb0 hb1 hb2 hwo (by omega) hw q
theorem s32_sc {h : am_H} {W F B : Nat} (hH : sv32_ok h) (qS : am_get h 32 = some (.inr (9, [.ref 33, .ref 34, .ref 35]))) {a b l n y : Nat} (qa : ∀ W F B, am_get (sv32 h W F B) a = some (.inr (8, [.ref b, .retAddr 5, .retAddr l, .retAddr n]))) (hc : ∀ W F B r c, r < n → c < 5 → am_EG mi_31 [.ref a, .retAddr r, .retAddr c] (sv32 h W F B) (some (.retAddr (am_ag y (5 * r + c))), sv32 h W F B)) (hn : n ≤ 9) (hb0 : ∀ i, i < n → am_ag y (5 * i) ≤ 3) (hb1 : ∀ i, i < n → am_ag y (5 * i + 1) ≤ 59) (hb2 : ∀ i, i < n → am_ag y (5 * i + 2) ≤ 59) {wo : Nat} (hwo : wo < 4294967296) : am_EG mi_36 [.ref 32, .ref a, .retAddr wo] (sv32 h W F B) (none, (sv32 h (sw 60 y 5 (sc_ne wo) (fun n => am_ag y (5 * n + 3)) W n) (sw 60 y 5 (sc_ne wo) (fun n => am_ag y (5 * n + 4)) F n) (sw 60 y 5 (sc_ne wo) (fun _ => 0) B n))) := by
  refine am_enter (n := 1) tk_36.2.1 (by simp [Value.category]) (Nat.le_of_ble_eq_true rfl) ?_
  show am_Good mi_36 0 [some (.ref 32), some (.ref a), some (.retAddr wo), none] [] (sv32 h W F B) _
  refine g_iconst dd_36_0 ic_0 ?_
  refine g_istore_n (i := 3) dd_36_1 (am_nlb_ok rfl) (by decide) ?_
  exact s32_scl hH qS qa hc hn hb0 hb1 hb2 hwo n 0 (by omega)
theorem s32_h2y {h : am_H} {W F B : Nat} (hH : sv32_ok h) (qS : am_get h 32 = some (.inr (9, [.ref 33, .ref 34, .ref 35]))) {E a0 a1 a2 a3 a4 a5 d0 d1 d2 d3 l0 l1 l2 l3 mi go : Nat} {Z R : Nat → Nat} (qE : ∀ W F B, am_get (sv32 h W F B) E = some (.inr (1, [.ref a0, .ref a1, .ref a2, .ref a3, .ref a4, .ref a5, .retAddr mi, .retAddr go]))) (q0 : ∀ W F B, am_get (sv32 h W F B) a0 = some (.inr (8, [.ref d0, .retAddr 1, .retAddr l0, .retAddr (Z 0)]))) (q1 : ∀ W F B, am_get (sv32 h W F B) a1 = some (.inr (8, [.ref d1, .retAddr 5, .retAddr l1, .retAddr (Z 1)]))) (q2 : ∀ W F B, am_get (sv32 h W F B) a2 = some (.inr (8, [.ref d2, .retAddr 3, .retAddr l2, .retAddr (Z 2)]))) (q3 : ∀ W F B, am_get (sv32 h W F B) a3 = some (.inr (8, [.ref d3, .retAddr 4, .retAddr l3, .retAddr (Z 3)]))) (c0 : ∀ W F B r c, r < Z 0 → c < 1 → am_EG mi_31 [.ref a0, .retAddr r, .retAddr c] (sv32 h W F B) (some (.retAddr (am_ag (R 0) (1 * r + c))), sv32 h W F B)) (c1 : ∀ W F B r c, r < Z 1 → c < 5 → am_EG mi_31 [.ref a1, .retAddr r, .retAddr c] (sv32 h W F B) (some (.retAddr (am_ag (R 1) (5 * r + c))), sv32 h W F B)) (c2 : ∀ W F B r c, r < Z 2 → c < 3 → am_EG mi_31 [.ref a2, .retAddr r, .retAddr c] (sv32 h W F B) (some (.retAddr (am_ag (R 2) (3 * r + c))), sv32 h W F B)) (c3 : ∀ W F B r c, r < Z 3 → c < 4 → am_EG mi_31 [.ref a3, .retAddr r, .retAddr c] (sv32 h W F B) (some (.retAddr (am_ag (R 3) (4 * r + c))), sv32 h W F B)) (z0 : Z 0 ≤ 4) (z1 : Z 1 ≤ 9) (z2 : Z 2 ≤ 6) (z3 : Z 3 ≤ 6) (hb10 : ∀ i, i < Z 1 → am_ag (R 1) (5 * i) ≤ 3) (hb11 : ∀ i, i < Z 1 → am_ag (R 1) (5 * i + 1) ≤ 59) (hb12 : ∀ i, i < Z 1 → am_ag (R 1) (5 * i + 2) ≤ 59) (hb20 : ∀ i, i < Z 2 → am_ag (R 2) (3 * i) ≤ 3) (hb21 : ∀ i, i < Z 2 → am_ag (R 2) (3 * i + 1) ≤ 59) (hb22 : ∀ i, i < Z 2 → am_ag (R 2) (3 * i + 2) ≤ 59) (hb30 : ∀ i, i < Z 3 → am_ag (R 3) (4 * i) ≤ 3) (hb31 : ∀ i, i < Z 3 → am_ag (R 3) (4 * i + 1) ≤ 59) (hb32 : ∀ i, i < Z 3 → am_ag (R 3) (4 * i + 2) ≤ 59) {come wo : Nat} (hco : come < 65536) (hwo : wo < 4294967296) {r : am_R} {i : Nat} (hi : i < Z 2) (hg : am_Good mi_32 20 [some (.ref 32), some (.ref E), some (.retAddr come), some (.retAddr wo), some (.retAddr (i + 1))] [] (sv32 h (fl W (60 * am_ag (R 2) (3 * i) + am_ag (R 2) (3 * i + 1)) 0 (am_ag (R 2) (3 * i + 2) + 1 - am_ag (R 2) (3 * i + 1))) (fl F (60 * am_ag (R 2) (3 * i) + am_ag (R 2) (3 * i + 1)) 8 (am_ag (R 2) (3 * i + 2) + 1 - am_ag (R 2) (3 * i + 1))) (fl B (60 * am_ag (R 2) (3 * i) + am_ag (R 2) (3 * i + 1)) 1 (am_ag (R 2) (3 * i + 2) + 1 - am_ag (R 2) (3 * i + 1)))) r) : am_Good mi_32 20 [some (.ref 32), some (.ref E), some (.retAddr come), some (.retAddr wo), some (.retAddr i)] [] (sv32 h W F B) r := by
  refine g_iload dd_32_20 rfl ?_
  refine g_aload_n (i := 1) dd_32_22 rfl ?_
  refine g_getfield (k := 2) am_ck1 (by decide) (Or.inr ⟨_, w_91⟩) dd_32_23 (qE _ _ _) rfl ?_
  refine g_getfield (k := 3) am_ck8 (by decide) (Or.inr ⟨_, w_63⟩) dd_32_26 (q2 _ _ _) rfl ?_
  refine g_icmp_ge_f (t := 48) dd_32_29 (by decide) (by first | exact sk_ge_f (by omega) (by omega) | exact tk_ge_f (by omega)) ?_
  refine g_aload_n (i := 0) dd_32_32 rfl ?_
  refine g_aload_n (i := 1) dd_32_33 rfl ?_
  refine g_getfield (k := 2) am_ck1 (by decide) (Or.inr ⟨_, w_91⟩) dd_32_34 (qE _ _ _) rfl ?_
  refine g_iload dd_32_37 rfl ?_
  refine g_virtual (M' := mi_38) (n := 2) (ci := 9) (b := 32) (as := [.ref a2, .retAddr i]) (st := []) (r1 := (none, (sv32 h (fl W (60 * am_ag (R 2) (3 * i) + am_ag (R 2) (3 * i + 1)) 0 (am_ag (R 2) (3 * i + 2) + 1 - am_ag (R 2) (3 * i + 1))) (fl F (60 * am_ag (R 2) (3 * i) + am_ag (R 2) (3 * i + 1)) 8 (am_ag (R 2) (3 * i + 2) + 1 - am_ag (R 2) (3 * i + 1))) (fl B (60 * am_ag (R 2) (3 * i) + am_ag (R 2) (3 * i + 1)) 1 (am_ag (R 2) (3 * i + 2) + 1 - am_ag (R 2) (3 * i + 1)))))) w_477 w_479 ps_38 ⟨lk_38.1, lk_38.2.1, lk_38.2.2, by decide, by decide⟩ rfl ((sv32_o hH rfl).trans qS) rfl (by simp [Value.category]) dd_32_39 (s32_b3 hH qS q2 c2 z2 hb20 hb21 hb22 hi) ?_
  show am_Good mi_32 42 [some (.ref 32), some (.ref E), some (.retAddr come), some (.retAddr wo), some (.retAddr i)] [] (sv32 h (fl W (60 * am_ag (R 2) (3 * i) + am_ag (R 2) (3 * i + 1)) 0 (am_ag (R 2) (3 * i + 2) + 1 - am_ag (R 2) (3 * i + 1))) (fl F (60 * am_ag (R 2) (3 * i) + am_ag (R 2) (3 * i + 1)) 8 (am_ag (R 2) (3 * i + 2) + 1 - am_ag (R 2) (3 * i + 1))) (fl B (60 * am_ag (R 2) (3 * i) + am_ag (R 2) (3 * i + 1)) 1 (am_ag (R 2) (3 * i + 2) + 1 - am_ag (R 2) (3 * i + 1)))) _
  refine e_iinc (v := 1) (w := i + 1) dd_32_42 rfl ic_1 (am_nlb_ok rfl) (by decide) (by omega) ?_
  refine g_goto (t := 20) dd_32_45 (by decide) ?_
  exact hg
theorem s32_h3y {h : am_H} {W F B : Nat} (hH : sv32_ok h) (qS : am_get h 32 = some (.inr (9, [.ref 33, .ref 34, .ref 35]))) {E a0 a1 a2 a3 a4 a5 d0 d1 d2 d3 l0 l1 l2 l3 mi go : Nat} {Z R : Nat → Nat} (qE : ∀ W F B, am_get (sv32 h W F B) E = some (.inr (1, [.ref a0, .ref a1, .ref a2, .ref a3, .ref a4, .ref a5, .retAddr mi, .retAddr go]))) (q0 : ∀ W F B, am_get (sv32 h W F B) a0 = some (.inr (8, [.ref d0, .retAddr 1, .retAddr l0, .retAddr (Z 0)]))) (q1 : ∀ W F B, am_get (sv32 h W F B) a1 = some (.inr (8, [.ref d1, .retAddr 5, .retAddr l1, .retAddr (Z 1)]))) (q2 : ∀ W F B, am_get (sv32 h W F B) a2 = some (.inr (8, [.ref d2, .retAddr 3, .retAddr l2, .retAddr (Z 2)]))) (q3 : ∀ W F B, am_get (sv32 h W F B) a3 = some (.inr (8, [.ref d3, .retAddr 4, .retAddr l3, .retAddr (Z 3)]))) (c0 : ∀ W F B r c, r < Z 0 → c < 1 → am_EG mi_31 [.ref a0, .retAddr r, .retAddr c] (sv32 h W F B) (some (.retAddr (am_ag (R 0) (1 * r + c))), sv32 h W F B)) (c1 : ∀ W F B r c, r < Z 1 → c < 5 → am_EG mi_31 [.ref a1, .retAddr r, .retAddr c] (sv32 h W F B) (some (.retAddr (am_ag (R 1) (5 * r + c))), sv32 h W F B)) (c2 : ∀ W F B r c, r < Z 2 → c < 3 → am_EG mi_31 [.ref a2, .retAddr r, .retAddr c] (sv32 h W F B) (some (.retAddr (am_ag (R 2) (3 * r + c))), sv32 h W F B)) (c3 : ∀ W F B r c, r < Z 3 → c < 4 → am_EG mi_31 [.ref a3, .retAddr r, .retAddr c] (sv32 h W F B) (some (.retAddr (am_ag (R 3) (4 * r + c))), sv32 h W F B)) (z0 : Z 0 ≤ 4) (z1 : Z 1 ≤ 9) (z2 : Z 2 ≤ 6) (z3 : Z 3 ≤ 6) (hb10 : ∀ i, i < Z 1 → am_ag (R 1) (5 * i) ≤ 3) (hb11 : ∀ i, i < Z 1 → am_ag (R 1) (5 * i + 1) ≤ 59) (hb12 : ∀ i, i < Z 1 → am_ag (R 1) (5 * i + 2) ≤ 59) (hb20 : ∀ i, i < Z 2 → am_ag (R 2) (3 * i) ≤ 3) (hb21 : ∀ i, i < Z 2 → am_ag (R 2) (3 * i + 1) ≤ 59) (hb22 : ∀ i, i < Z 2 → am_ag (R 2) (3 * i + 2) ≤ 59) (hb30 : ∀ i, i < Z 3 → am_ag (R 3) (4 * i) ≤ 3) (hb31 : ∀ i, i < Z 3 → am_ag (R 3) (4 * i + 1) ≤ 59) (hb32 : ∀ i, i < Z 3 → am_ag (R 3) (4 * i + 2) ≤ 59) {come wo : Nat} (hco : come < 65536) (hwo : wo < 4294967296) {r : am_R} {i : Nat} (hi : i < Z 3) (hon : come.testBit i = true) (hg : am_Good mi_32 51 [some (.ref 32), some (.ref E), some (.retAddr come), some (.retAddr wo), some (.retAddr (i + 1))] [] (sv32 h (fl W (60 * am_ag (R 3) (4 * i) + am_ag (R 3) (4 * i + 1)) 0 (am_ag (R 3) (4 * i + 2) + 1 - am_ag (R 3) (4 * i + 1))) (fl F (60 * am_ag (R 3) (4 * i) + am_ag (R 3) (4 * i + 1)) 8 (am_ag (R 3) (4 * i + 2) + 1 - am_ag (R 3) (4 * i + 1))) (fl B (60 * am_ag (R 3) (4 * i) + am_ag (R 3) (4 * i + 1)) 1 (am_ag (R 3) (4 * i + 2) + 1 - am_ag (R 3) (4 * i + 1)))) r) : am_Good mi_32 51 [some (.ref 32), some (.ref E), some (.retAddr come), some (.retAddr wo), some (.retAddr i)] [] (sv32 h W F B) r := by
  refine g_iload dd_32_51 rfl ?_
  refine g_aload_n (i := 1) dd_32_53 rfl ?_
  refine g_getfield (k := 3) am_ck1 (by decide) (Or.inr ⟨_, w_95⟩) dd_32_54 (qE _ _ _) rfl ?_
  refine g_getfield (k := 3) am_ck8 (by decide) (Or.inr ⟨_, w_63⟩) dd_32_57 (q3 _ _ _) rfl ?_
  refine g_icmp_ge_f (t := 88) dd_32_60 (by decide) (by first | exact sk_ge_f (by omega) (by omega) | exact tk_ge_f (by omega)) ?_
  refine g_iload_n (i := 2) dd_32_63 rfl ?_
  refine g_iload dd_32_64 rfl ?_
  refine e_ishr (v := come >>> i) dd_32_66 ⟨by omega, by rw [Nat.mod_eq_of_lt (show i < 32 by omega)]⟩ ?_
  refine g_iconst dd_32_67 ic_1 ?_
  refine e_iand (v := 1) dd_32_68 (by rw [hs_b, if_pos hon]) ?_
  refine g_if_eq_f (t := 82) dd_32_69 (by decide) (by decide) ?_
  refine g_aload_n (i := 0) dd_32_72 rfl ?_
  refine g_aload_n (i := 1) dd_32_73 rfl ?_
  refine g_getfield (k := 3) am_ck1 (by decide) (Or.inr ⟨_, w_95⟩) dd_32_74 (qE _ _ _) rfl ?_
  refine g_iload dd_32_77 rfl ?_
  refine g_virtual (M' := mi_38) (n := 2) (ci := 9) (b := 32) (as := [.ref a3, .retAddr i]) (st := []) (r1 := (none, (sv32 h (fl W (60 * am_ag (R 3) (4 * i) + am_ag (R 3) (4 * i + 1)) 0 (am_ag (R 3) (4 * i + 2) + 1 - am_ag (R 3) (4 * i + 1))) (fl F (60 * am_ag (R 3) (4 * i) + am_ag (R 3) (4 * i + 1)) 8 (am_ag (R 3) (4 * i + 2) + 1 - am_ag (R 3) (4 * i + 1))) (fl B (60 * am_ag (R 3) (4 * i) + am_ag (R 3) (4 * i + 1)) 1 (am_ag (R 3) (4 * i + 2) + 1 - am_ag (R 3) (4 * i + 1)))))) w_477 w_479 ps_38 ⟨lk_38.1, lk_38.2.1, lk_38.2.2, by decide, by decide⟩ rfl ((sv32_o hH rfl).trans qS) rfl (by simp [Value.category]) dd_32_79 (s32_b4 hH qS q3 c3 z3 hb30 hb31 hb32 hi) ?_
  show am_Good mi_32 82 [some (.ref 32), some (.ref E), some (.retAddr come), some (.retAddr wo), some (.retAddr i)] [] (sv32 h (fl W (60 * am_ag (R 3) (4 * i) + am_ag (R 3) (4 * i + 1)) 0 (am_ag (R 3) (4 * i + 2) + 1 - am_ag (R 3) (4 * i + 1))) (fl F (60 * am_ag (R 3) (4 * i) + am_ag (R 3) (4 * i + 1)) 8 (am_ag (R 3) (4 * i + 2) + 1 - am_ag (R 3) (4 * i + 1))) (fl B (60 * am_ag (R 3) (4 * i) + am_ag (R 3) (4 * i + 1)) 1 (am_ag (R 3) (4 * i + 2) + 1 - am_ag (R 3) (4 * i + 1)))) _
  refine e_iinc (v := 1) (w := i + 1) dd_32_82 rfl ic_1 (am_nlb_ok rfl) (by decide) (by omega) ?_
  refine g_goto (t := 51) dd_32_85 (by decide) ?_
  exact hg
theorem s32_h3n {h : am_H} {W F B : Nat} (hH : sv32_ok h) (qS : am_get h 32 = some (.inr (9, [.ref 33, .ref 34, .ref 35]))) {E a0 a1 a2 a3 a4 a5 d0 d1 d2 d3 l0 l1 l2 l3 mi go : Nat} {Z R : Nat → Nat} (qE : ∀ W F B, am_get (sv32 h W F B) E = some (.inr (1, [.ref a0, .ref a1, .ref a2, .ref a3, .ref a4, .ref a5, .retAddr mi, .retAddr go]))) (q0 : ∀ W F B, am_get (sv32 h W F B) a0 = some (.inr (8, [.ref d0, .retAddr 1, .retAddr l0, .retAddr (Z 0)]))) (q1 : ∀ W F B, am_get (sv32 h W F B) a1 = some (.inr (8, [.ref d1, .retAddr 5, .retAddr l1, .retAddr (Z 1)]))) (q2 : ∀ W F B, am_get (sv32 h W F B) a2 = some (.inr (8, [.ref d2, .retAddr 3, .retAddr l2, .retAddr (Z 2)]))) (q3 : ∀ W F B, am_get (sv32 h W F B) a3 = some (.inr (8, [.ref d3, .retAddr 4, .retAddr l3, .retAddr (Z 3)]))) (c0 : ∀ W F B r c, r < Z 0 → c < 1 → am_EG mi_31 [.ref a0, .retAddr r, .retAddr c] (sv32 h W F B) (some (.retAddr (am_ag (R 0) (1 * r + c))), sv32 h W F B)) (c1 : ∀ W F B r c, r < Z 1 → c < 5 → am_EG mi_31 [.ref a1, .retAddr r, .retAddr c] (sv32 h W F B) (some (.retAddr (am_ag (R 1) (5 * r + c))), sv32 h W F B)) (c2 : ∀ W F B r c, r < Z 2 → c < 3 → am_EG mi_31 [.ref a2, .retAddr r, .retAddr c] (sv32 h W F B) (some (.retAddr (am_ag (R 2) (3 * r + c))), sv32 h W F B)) (c3 : ∀ W F B r c, r < Z 3 → c < 4 → am_EG mi_31 [.ref a3, .retAddr r, .retAddr c] (sv32 h W F B) (some (.retAddr (am_ag (R 3) (4 * r + c))), sv32 h W F B)) (z0 : Z 0 ≤ 4) (z1 : Z 1 ≤ 9) (z2 : Z 2 ≤ 6) (z3 : Z 3 ≤ 6) (hb10 : ∀ i, i < Z 1 → am_ag (R 1) (5 * i) ≤ 3) (hb11 : ∀ i, i < Z 1 → am_ag (R 1) (5 * i + 1) ≤ 59) (hb12 : ∀ i, i < Z 1 → am_ag (R 1) (5 * i + 2) ≤ 59) (hb20 : ∀ i, i < Z 2 → am_ag (R 2) (3 * i) ≤ 3) (hb21 : ∀ i, i < Z 2 → am_ag (R 2) (3 * i + 1) ≤ 59) (hb22 : ∀ i, i < Z 2 → am_ag (R 2) (3 * i + 2) ≤ 59) (hb30 : ∀ i, i < Z 3 → am_ag (R 3) (4 * i) ≤ 3) (hb31 : ∀ i, i < Z 3 → am_ag (R 3) (4 * i + 1) ≤ 59) (hb32 : ∀ i, i < Z 3 → am_ag (R 3) (4 * i + 2) ≤ 59) {come wo : Nat} (hco : come < 65536) (hwo : wo < 4294967296) {r : am_R} {i : Nat} (hi : i < Z 3) (hon : ¬ come.testBit i = true) (hg : am_Good mi_32 51 [some (.ref 32), some (.ref E), some (.retAddr come), some (.retAddr wo), some (.retAddr (i + 1))] [] (sv32 h W F B) r) : am_Good mi_32 51 [some (.ref 32), some (.ref E), some (.retAddr come), some (.retAddr wo), some (.retAddr i)] [] (sv32 h W F B) r := by
  refine g_iload dd_32_51 rfl ?_
  refine g_aload_n (i := 1) dd_32_53 rfl ?_
  refine g_getfield (k := 3) am_ck1 (by decide) (Or.inr ⟨_, w_95⟩) dd_32_54 (qE _ _ _) rfl ?_
  refine g_getfield (k := 3) am_ck8 (by decide) (Or.inr ⟨_, w_63⟩) dd_32_57 (q3 _ _ _) rfl ?_
  refine g_icmp_ge_f (t := 88) dd_32_60 (by decide) (by first | exact sk_ge_f (by omega) (by omega) | exact tk_ge_f (by omega)) ?_
  refine g_iload_n (i := 2) dd_32_63 rfl ?_
  refine g_iload dd_32_64 rfl ?_
  refine e_ishr (v := come >>> i) dd_32_66 ⟨by omega, by rw [Nat.mod_eq_of_lt (show i < 32 by omega)]⟩ ?_
  refine g_iconst dd_32_67 ic_1 ?_
  refine e_iand (v := 0) dd_32_68 (by rw [hs_b, if_neg hon]) ?_
  refine g_if_eq_t (t := 82) dd_32_69 (by decide) (by decide) ?_
  refine e_iinc (v := 1) (w := i + 1) dd_32_82 rfl ic_1 (am_nlb_ok rfl) (by decide) (by omega) ?_
  refine g_goto (t := 51) dd_32_85 (by decide) ?_
  exact hg
theorem s32_h2e {h : am_H} {W F B : Nat} (hH : sv32_ok h) (qS : am_get h 32 = some (.inr (9, [.ref 33, .ref 34, .ref 35]))) {E a0 a1 a2 a3 a4 a5 d0 d1 d2 d3 l0 l1 l2 l3 mi go : Nat} {Z R : Nat → Nat} (qE : ∀ W F B, am_get (sv32 h W F B) E = some (.inr (1, [.ref a0, .ref a1, .ref a2, .ref a3, .ref a4, .ref a5, .retAddr mi, .retAddr go]))) (q0 : ∀ W F B, am_get (sv32 h W F B) a0 = some (.inr (8, [.ref d0, .retAddr 1, .retAddr l0, .retAddr (Z 0)]))) (q1 : ∀ W F B, am_get (sv32 h W F B) a1 = some (.inr (8, [.ref d1, .retAddr 5, .retAddr l1, .retAddr (Z 1)]))) (q2 : ∀ W F B, am_get (sv32 h W F B) a2 = some (.inr (8, [.ref d2, .retAddr 3, .retAddr l2, .retAddr (Z 2)]))) (q3 : ∀ W F B, am_get (sv32 h W F B) a3 = some (.inr (8, [.ref d3, .retAddr 4, .retAddr l3, .retAddr (Z 3)]))) (c0 : ∀ W F B r c, r < Z 0 → c < 1 → am_EG mi_31 [.ref a0, .retAddr r, .retAddr c] (sv32 h W F B) (some (.retAddr (am_ag (R 0) (1 * r + c))), sv32 h W F B)) (c1 : ∀ W F B r c, r < Z 1 → c < 5 → am_EG mi_31 [.ref a1, .retAddr r, .retAddr c] (sv32 h W F B) (some (.retAddr (am_ag (R 1) (5 * r + c))), sv32 h W F B)) (c2 : ∀ W F B r c, r < Z 2 → c < 3 → am_EG mi_31 [.ref a2, .retAddr r, .retAddr c] (sv32 h W F B) (some (.retAddr (am_ag (R 2) (3 * r + c))), sv32 h W F B)) (c3 : ∀ W F B r c, r < Z 3 → c < 4 → am_EG mi_31 [.ref a3, .retAddr r, .retAddr c] (sv32 h W F B) (some (.retAddr (am_ag (R 3) (4 * r + c))), sv32 h W F B)) (z0 : Z 0 ≤ 4) (z1 : Z 1 ≤ 9) (z2 : Z 2 ≤ 6) (z3 : Z 3 ≤ 6) (hb10 : ∀ i, i < Z 1 → am_ag (R 1) (5 * i) ≤ 3) (hb11 : ∀ i, i < Z 1 → am_ag (R 1) (5 * i + 1) ≤ 59) (hb12 : ∀ i, i < Z 1 → am_ag (R 1) (5 * i + 2) ≤ 59) (hb20 : ∀ i, i < Z 2 → am_ag (R 2) (3 * i) ≤ 3) (hb21 : ∀ i, i < Z 2 → am_ag (R 2) (3 * i + 1) ≤ 59) (hb22 : ∀ i, i < Z 2 → am_ag (R 2) (3 * i + 2) ≤ 59) (hb30 : ∀ i, i < Z 3 → am_ag (R 3) (4 * i) ≤ 3) (hb31 : ∀ i, i < Z 3 → am_ag (R 3) (4 * i + 1) ≤ 59) (hb32 : ∀ i, i < Z 3 → am_ag (R 3) (4 * i + 2) ≤ 59) {come wo : Nat} (hco : come < 65536) (hwo : wo < 4294967296) {r : am_R} (hg : am_Good mi_32 51 [some (.ref 32), some (.ref E), some (.retAddr come), some (.retAddr wo), some (.retAddr 0)] [] (sv32 h W F B) r) : am_Good mi_32 20 [some (.ref 32), some (.ref E), some (.retAddr come), some (.retAddr wo), some (.retAddr (Z 2))] [] (sv32 h W F B) r := by
  refine g_iload dd_32_20 rfl ?_
  refine g_aload_n (i := 1) dd_32_22 rfl ?_
  refine g_getfield (k := 2) am_ck1 (by decide) (Or.inr ⟨_, w_91⟩) dd_32_23 (qE _ _ _) rfl ?_
  refine g_getfield (k := 3) am_ck8 (by decide) (Or.inr ⟨_, w_63⟩) dd_32_26 (q2 _ _ _) rfl ?_
  refine g_icmp_ge_t (t := 48) dd_32_29 (by decide) (by first | exact sk_ge_t (by omega) (by omega) | exact tk_ge_t (by omega)) ?_
  refine g_iconst dd_32_48 ic_0 ?_
  refine g_istore dd_32_49 (am_nlb_ok rfl) (by decide) ?_
  exact hg
theorem s32_h3e {h : am_H} {W F B : Nat} (hH : sv32_ok h) (qS : am_get h 32 = some (.inr (9, [.ref 33, .ref 34, .ref 35]))) {E a0 a1 a2 a3 a4 a5 d0 d1 d2 d3 l0 l1 l2 l3 mi go : Nat} {Z R : Nat → Nat} (qE : ∀ W F B, am_get (sv32 h W F B) E = some (.inr (1, [.ref a0, .ref a1, .ref a2, .ref a3, .ref a4, .ref a5, .retAddr mi, .retAddr go]))) (q0 : ∀ W F B, am_get (sv32 h W F B) a0 = some (.inr (8, [.ref d0, .retAddr 1, .retAddr l0, .retAddr (Z 0)]))) (q1 : ∀ W F B, am_get (sv32 h W F B) a1 = some (.inr (8, [.ref d1, .retAddr 5, .retAddr l1, .retAddr (Z 1)]))) (q2 : ∀ W F B, am_get (sv32 h W F B) a2 = some (.inr (8, [.ref d2, .retAddr 3, .retAddr l2, .retAddr (Z 2)]))) (q3 : ∀ W F B, am_get (sv32 h W F B) a3 = some (.inr (8, [.ref d3, .retAddr 4, .retAddr l3, .retAddr (Z 3)]))) (c0 : ∀ W F B r c, r < Z 0 → c < 1 → am_EG mi_31 [.ref a0, .retAddr r, .retAddr c] (sv32 h W F B) (some (.retAddr (am_ag (R 0) (1 * r + c))), sv32 h W F B)) (c1 : ∀ W F B r c, r < Z 1 → c < 5 → am_EG mi_31 [.ref a1, .retAddr r, .retAddr c] (sv32 h W F B) (some (.retAddr (am_ag (R 1) (5 * r + c))), sv32 h W F B)) (c2 : ∀ W F B r c, r < Z 2 → c < 3 → am_EG mi_31 [.ref a2, .retAddr r, .retAddr c] (sv32 h W F B) (some (.retAddr (am_ag (R 2) (3 * r + c))), sv32 h W F B)) (c3 : ∀ W F B r c, r < Z 3 → c < 4 → am_EG mi_31 [.ref a3, .retAddr r, .retAddr c] (sv32 h W F B) (some (.retAddr (am_ag (R 3) (4 * r + c))), sv32 h W F B)) (z0 : Z 0 ≤ 4) (z1 : Z 1 ≤ 9) (z2 : Z 2 ≤ 6) (z3 : Z 3 ≤ 6) (hb10 : ∀ i, i < Z 1 → am_ag (R 1) (5 * i) ≤ 3) (hb11 : ∀ i, i < Z 1 → am_ag (R 1) (5 * i + 1) ≤ 59) (hb12 : ∀ i, i < Z 1 → am_ag (R 1) (5 * i + 2) ≤ 59) (hb20 : ∀ i, i < Z 2 → am_ag (R 2) (3 * i) ≤ 3) (hb21 : ∀ i, i < Z 2 → am_ag (R 2) (3 * i + 1) ≤ 59) (hb22 : ∀ i, i < Z 2 → am_ag (R 2) (3 * i + 2) ≤ 59) (hb30 : ∀ i, i < Z 3 → am_ag (R 3) (4 * i) ≤ 3) (hb31 : ∀ i, i < Z 3 → am_ag (R 3) (4 * i + 1) ≤ 59) (hb32 : ∀ i, i < Z 3 → am_ag (R 3) (4 * i + 2) ≤ 59) {come wo : Nat} (hco : come < 65536) (hwo : wo < 4294967296) : am_Good mi_32 51 [some (.ref 32), some (.ref E), some (.retAddr come), some (.retAddr wo), some (.retAddr (Z 3))] [] (sv32 h W F B) (none, (sv32 h W F B)) := by
  refine g_iload dd_32_51 rfl ?_
  refine g_aload_n (i := 1) dd_32_53 rfl ?_
  refine g_getfield (k := 3) am_ck1 (by decide) (Or.inr ⟨_, w_95⟩) dd_32_54 (qE _ _ _) rfl ?_
  refine g_getfield (k := 3) am_ck8 (by decide) (Or.inr ⟨_, w_63⟩) dd_32_57 (q3 _ _ _) rfl ?_
  refine g_icmp_ge_t (t := 88) dd_32_60 (by decide) (by first | exact sk_ge_t (by omega) (by omega) | exact tk_ge_t (by omega)) ?_
  exact g_return rfl dd_32_88
theorem s32_h2l {h : am_H} {W F B : Nat} (hH : sv32_ok h) (qS : am_get h 32 = some (.inr (9, [.ref 33, .ref 34, .ref 35]))) {E a0 a1 a2 a3 a4 a5 d0 d1 d2 d3 l0 l1 l2 l3 mi go : Nat} {Z R : Nat → Nat} (qE : ∀ W F B, am_get (sv32 h W F B) E = some (.inr (1, [.ref a0, .ref a1, .ref a2, .ref a3, .ref a4, .ref a5, .retAddr mi, .retAddr go]))) (q0 : ∀ W F B, am_get (sv32 h W F B) a0 = some (.inr (8, [.ref d0, .retAddr 1, .retAddr l0, .retAddr (Z 0)]))) (q1 : ∀ W F B, am_get (sv32 h W F B) a1 = some (.inr (8, [.ref d1, .retAddr 5, .retAddr l1, .retAddr (Z 1)]))) (q2 : ∀ W F B, am_get (sv32 h W F B) a2 = some (.inr (8, [.ref d2, .retAddr 3, .retAddr l2, .retAddr (Z 2)]))) (q3 : ∀ W F B, am_get (sv32 h W F B) a3 = some (.inr (8, [.ref d3, .retAddr 4, .retAddr l3, .retAddr (Z 3)]))) (c0 : ∀ W F B r c, r < Z 0 → c < 1 → am_EG mi_31 [.ref a0, .retAddr r, .retAddr c] (sv32 h W F B) (some (.retAddr (am_ag (R 0) (1 * r + c))), sv32 h W F B)) (c1 : ∀ W F B r c, r < Z 1 → c < 5 → am_EG mi_31 [.ref a1, .retAddr r, .retAddr c] (sv32 h W F B) (some (.retAddr (am_ag (R 1) (5 * r + c))), sv32 h W F B)) (c2 : ∀ W F B r c, r < Z 2 → c < 3 → am_EG mi_31 [.ref a2, .retAddr r, .retAddr c] (sv32 h W F B) (some (.retAddr (am_ag (R 2) (3 * r + c))), sv32 h W F B)) (c3 : ∀ W F B r c, r < Z 3 → c < 4 → am_EG mi_31 [.ref a3, .retAddr r, .retAddr c] (sv32 h W F B) (some (.retAddr (am_ag (R 3) (4 * r + c))), sv32 h W F B)) (z0 : Z 0 ≤ 4) (z1 : Z 1 ≤ 9) (z2 : Z 2 ≤ 6) (z3 : Z 3 ≤ 6) (hb10 : ∀ i, i < Z 1 → am_ag (R 1) (5 * i) ≤ 3) (hb11 : ∀ i, i < Z 1 → am_ag (R 1) (5 * i + 1) ≤ 59) (hb12 : ∀ i, i < Z 1 → am_ag (R 1) (5 * i + 2) ≤ 59) (hb20 : ∀ i, i < Z 2 → am_ag (R 2) (3 * i) ≤ 3) (hb21 : ∀ i, i < Z 2 → am_ag (R 2) (3 * i + 1) ≤ 59) (hb22 : ∀ i, i < Z 2 → am_ag (R 2) (3 * i + 2) ≤ 59) (hb30 : ∀ i, i < Z 3 → am_ag (R 3) (4 * i) ≤ 3) (hb31 : ∀ i, i < Z 3 → am_ag (R 3) (4 * i + 1) ≤ 59) (hb32 : ∀ i, i < Z 3 → am_ag (R 3) (4 * i + 2) ≤ 59) {come wo : Nat} (hco : come < 65536) (hwo : wo < 4294967296) {r : am_R} (hg : am_Good mi_32 51 [some (.ref 32), some (.ref E), some (.retAddr come), some (.retAddr wo), some (.retAddr 0)] [] (sv32 h (sw 60 (R 2) 3 (fun _ => true) (fun _ => 0) W (Z 2)) (sw 60 (R 2) 3 (fun _ => true) (fun _ => 8) F (Z 2)) (sw 60 (R 2) 3 (fun _ => true) (fun _ => 1) B (Z 2))) r) : ∀ (k i : Nat), i + k = Z 2 → am_Good mi_32 20 [some (.ref 32), some (.ref E), some (.retAddr come), some (.retAddr wo), some (.retAddr i)] [] (sv32 h (sw 60 (R 2) 3 (fun _ => true) (fun _ => 0) W i) (sw 60 (R 2) 3 (fun _ => true) (fun _ => 8) F i) (sw 60 (R 2) 3 (fun _ => true) (fun _ => 1) B i)) r
  | 0, i, e => by
    have e' : i = Z 2 := by omega
    subst e'
    exact s32_h2e hH qS qE q0 q1 q2 q3 c0 c1 c2 c3 z0 z1 z2 z3 hb10 hb11 hb12 hb20 hb21 hb22 hb30 hb31 hb32 hco hwo hg
  | k + 1, i, e => by
    have q := s32_h2l (W := W) (F := F) (B := B) hH qS qE q0 q1 q2 q3 c0 c1 c2 c3 z0 z1 z2 z3 hb10 hb11 hb12 hb20 hb21 hb22 hb30 hb31 hb32 hco hwo hg k (i + 1) (by omega)
    exact s32_h2y hH qS qE q0 q1 q2 q3 c0 c1 c2 c3 z0 z1 z2 z3 hb10 hb11 hb12 hb20 hb21 hb22 hb30 hb31 hb32 hco hwo (by omega) q
theorem s32_h3l {h : am_H} {W F B : Nat} (hH : sv32_ok h) (qS : am_get h 32 = some (.inr (9, [.ref 33, .ref 34, .ref 35]))) {E a0 a1 a2 a3 a4 a5 d0 d1 d2 d3 l0 l1 l2 l3 mi go : Nat} {Z R : Nat → Nat} (qE : ∀ W F B, am_get (sv32 h W F B) E = some (.inr (1, [.ref a0, .ref a1, .ref a2, .ref a3, .ref a4, .ref a5, .retAddr mi, .retAddr go]))) (q0 : ∀ W F B, am_get (sv32 h W F B) a0 = some (.inr (8, [.ref d0, .retAddr 1, .retAddr l0, .retAddr (Z 0)]))) (q1 : ∀ W F B, am_get (sv32 h W F B) a1 = some (.inr (8, [.ref d1, .retAddr 5, .retAddr l1, .retAddr (Z 1)]))) (q2 : ∀ W F B, am_get (sv32 h W F B) a2 = some (.inr (8, [.ref d2, .retAddr 3, .retAddr l2, .retAddr (Z 2)]))) (q3 : ∀ W F B, am_get (sv32 h W F B) a3 = some (.inr (8, [.ref d3, .retAddr 4, .retAddr l3, .retAddr (Z 3)]))) (c0 : ∀ W F B r c, r < Z 0 → c < 1 → am_EG mi_31 [.ref a0, .retAddr r, .retAddr c] (sv32 h W F B) (some (.retAddr (am_ag (R 0) (1 * r + c))), sv32 h W F B)) (c1 : ∀ W F B r c, r < Z 1 → c < 5 → am_EG mi_31 [.ref a1, .retAddr r, .retAddr c] (sv32 h W F B) (some (.retAddr (am_ag (R 1) (5 * r + c))), sv32 h W F B)) (c2 : ∀ W F B r c, r < Z 2 → c < 3 → am_EG mi_31 [.ref a2, .retAddr r, .retAddr c] (sv32 h W F B) (some (.retAddr (am_ag (R 2) (3 * r + c))), sv32 h W F B)) (c3 : ∀ W F B r c, r < Z 3 → c < 4 → am_EG mi_31 [.ref a3, .retAddr r, .retAddr c] (sv32 h W F B) (some (.retAddr (am_ag (R 3) (4 * r + c))), sv32 h W F B)) (z0 : Z 0 ≤ 4) (z1 : Z 1 ≤ 9) (z2 : Z 2 ≤ 6) (z3 : Z 3 ≤ 6) (hb10 : ∀ i, i < Z 1 → am_ag (R 1) (5 * i) ≤ 3) (hb11 : ∀ i, i < Z 1 → am_ag (R 1) (5 * i + 1) ≤ 59) (hb12 : ∀ i, i < Z 1 → am_ag (R 1) (5 * i + 2) ≤ 59) (hb20 : ∀ i, i < Z 2 → am_ag (R 2) (3 * i) ≤ 3) (hb21 : ∀ i, i < Z 2 → am_ag (R 2) (3 * i + 1) ≤ 59) (hb22 : ∀ i, i < Z 2 → am_ag (R 2) (3 * i + 2) ≤ 59) (hb30 : ∀ i, i < Z 3 → am_ag (R 3) (4 * i) ≤ 3) (hb31 : ∀ i, i < Z 3 → am_ag (R 3) (4 * i + 1) ≤ 59) (hb32 : ∀ i, i < Z 3 → am_ag (R 3) (4 * i + 2) ≤ 59) {come wo : Nat} (hco : come < 65536) (hwo : wo < 4294967296) : ∀ (k i : Nat), i + k = Z 3 → am_Good mi_32 51 [some (.ref 32), some (.ref E), some (.retAddr come), some (.retAddr wo), some (.retAddr i)] [] (sv32 h (sw 60 (R 3) 4 (fun c => come.testBit c) (fun _ => 0) W i) (sw 60 (R 3) 4 (fun c => come.testBit c) (fun _ => 8) F i) (sw 60 (R 3) 4 (fun c => come.testBit c) (fun _ => 1) B i)) (none, (sv32 h (sw 60 (R 3) 4 (fun c => come.testBit c) (fun _ => 0) W (Z 3)) (sw 60 (R 3) 4 (fun c => come.testBit c) (fun _ => 8) F (Z 3)) (sw 60 (R 3) 4 (fun c => come.testBit c) (fun _ => 1) B (Z 3))))
  | 0, i, e => by
    have e' : i = Z 3 := by omega
    subst e'
    exact s32_h3e hH qS qE q0 q1 q2 q3 c0 c1 c2 c3 z0 z1 z2 z3 hb10 hb11 hb12 hb20 hb21 hb22 hb30 hb31 hb32 hco hwo
  | k + 1, i, e => by
    have q := s32_h3l (W := W) (F := F) (B := B) hH qS qE q0 q1 q2 q3 c0 c1 c2 c3 z0 z1 z2 z3 hb10 hb11 hb12 hb20 hb21 hb22 hb30 hb31 hb32 hco hwo k (i + 1) (by omega)
    by_cases hon : come.testBit i = true
    · have s3 : ∀ (v : Nat → Nat) (x : Nat), sw 60 (R 3) 4 (fun c => come.testBit c) v x (i + 1) = fl (sw 60 (R 3) 4 (fun c => come.testBit c) v x i) (60 * am_ag (R 3) (4 * i) + am_ag (R 3) (4 * i + 1)) (v i) (am_ag (R 3) (4 * i + 2) + 1 - am_ag (R 3) (4 * i + 1)) := fun v x => if_pos hon
      rw [s3, s3, s3] at q
      exact s32_h3y hH qS qE q0 q1 q2 q3 c0 c1 c2 c3 z0 z1 z2 z3 hb10 hb11 hb12 hb20 hb21 hb22 hb30 hb31 hb32 hco hwo (by omega) hon q
    · have s3 : ∀ (v : Nat → Nat) (x : Nat), sw 60 (R 3) 4 (fun c => come.testBit c) v x (i + 1) = sw 60 (R 3) 4 (fun c => come.testBit c) v x i := fun v x => if_neg hon
      rw [s3, s3, s3] at q
      exact s32_h3n hH qS qE q0 q1 q2 q3 c0 c1 c2 c3 z0 z1 z2 z3 hb10 hb11 hb12 hb20 hb21 hb22 hb30 hb31 hb32 hco hwo (by omega) hon q
theorem s32_show {h : am_H} {W F B : Nat} (hH : sv32_ok h) (qS : am_get h 32 = some (.inr (9, [.ref 33, .ref 34, .ref 35]))) {E a0 a1 a2 a3 a4 a5 d0 d1 d2 d3 l0 l1 l2 l3 mi go : Nat} {Z R : Nat → Nat} (qE : ∀ W F B, am_get (sv32 h W F B) E = some (.inr (1, [.ref a0, .ref a1, .ref a2, .ref a3, .ref a4, .ref a5, .retAddr mi, .retAddr go]))) (q0 : ∀ W F B, am_get (sv32 h W F B) a0 = some (.inr (8, [.ref d0, .retAddr 1, .retAddr l0, .retAddr (Z 0)]))) (q1 : ∀ W F B, am_get (sv32 h W F B) a1 = some (.inr (8, [.ref d1, .retAddr 5, .retAddr l1, .retAddr (Z 1)]))) (q2 : ∀ W F B, am_get (sv32 h W F B) a2 = some (.inr (8, [.ref d2, .retAddr 3, .retAddr l2, .retAddr (Z 2)]))) (q3 : ∀ W F B, am_get (sv32 h W F B) a3 = some (.inr (8, [.ref d3, .retAddr 4, .retAddr l3, .retAddr (Z 3)]))) (c0 : ∀ W F B r c, r < Z 0 → c < 1 → am_EG mi_31 [.ref a0, .retAddr r, .retAddr c] (sv32 h W F B) (some (.retAddr (am_ag (R 0) (1 * r + c))), sv32 h W F B)) (c1 : ∀ W F B r c, r < Z 1 → c < 5 → am_EG mi_31 [.ref a1, .retAddr r, .retAddr c] (sv32 h W F B) (some (.retAddr (am_ag (R 1) (5 * r + c))), sv32 h W F B)) (c2 : ∀ W F B r c, r < Z 2 → c < 3 → am_EG mi_31 [.ref a2, .retAddr r, .retAddr c] (sv32 h W F B) (some (.retAddr (am_ag (R 2) (3 * r + c))), sv32 h W F B)) (c3 : ∀ W F B r c, r < Z 3 → c < 4 → am_EG mi_31 [.ref a3, .retAddr r, .retAddr c] (sv32 h W F B) (some (.retAddr (am_ag (R 3) (4 * r + c))), sv32 h W F B)) (z0 : Z 0 ≤ 4) (z1 : Z 1 ≤ 9) (z2 : Z 2 ≤ 6) (z3 : Z 3 ≤ 6) (hb10 : ∀ i, i < Z 1 → am_ag (R 1) (5 * i) ≤ 3) (hb11 : ∀ i, i < Z 1 → am_ag (R 1) (5 * i + 1) ≤ 59) (hb12 : ∀ i, i < Z 1 → am_ag (R 1) (5 * i + 2) ≤ 59) (hb20 : ∀ i, i < Z 2 → am_ag (R 2) (3 * i) ≤ 3) (hb21 : ∀ i, i < Z 2 → am_ag (R 2) (3 * i + 1) ≤ 59) (hb22 : ∀ i, i < Z 2 → am_ag (R 2) (3 * i + 2) ≤ 59) (hb30 : ∀ i, i < Z 3 → am_ag (R 3) (4 * i) ≤ 3) (hb31 : ∀ i, i < Z 3 → am_ag (R 3) (4 * i + 1) ≤ 59) (hb32 : ∀ i, i < Z 3 → am_ag (R 3) (4 * i + 2) ≤ 59) {come wo : Nat} (hco : come < 65536) (hwo : wo < 4294967296) : am_EG mi_32 [.ref 32, .ref E, .retAddr come, .retAddr wo] (sv32 h W F B) (none, (sv32 h (shW Z R come wo W) (shF Z R come wo F) (shB Z R come wo B))) := by
  refine am_enter (n := 1) tk_32.2.1 (by simp [Value.category]) (Nat.le_of_ble_eq_true rfl) ?_
  show am_Good mi_32 0 [some (.ref 32), some (.ref E), some (.retAddr come), some (.retAddr wo), none] [] (sv32 h W F B) _
  refine g_aload_n (i := 0) dd_32_0 rfl ?_
  refine g_aload_n (i := 1) dd_32_1 rfl ?_
  refine g_getfield (k := 0) am_ck1 (by decide) (Or.inr ⟨_, w_80⟩) dd_32_2 (qE _ _ _) rfl ?_
  refine g_virtual (M' := mi_33) (n := 1) (ci := 9) (b := 32) (as := [.ref a0]) (st := []) (r1 := (none, (sv32 h (ss 60 (am_ag (R 0)) W (Z 0)) (ss 60 (fun _ => 8) F (Z 0)) (ss 60 (fun _ => 0) B (Z 0))))) w_457 w_459 ps_33 ⟨lk_33.1, lk_33.2.1, lk_33.2.2, by decide, by decide⟩ rfl ((sv32_o hH rfl).trans qS) rfl (by simp [Value.category]) dd_32_5 (s32_sst hH qS q0 c0 z0) ?_
  show am_Good mi_32 8 [some (.ref 32), some (.ref E), some (.retAddr come), some (.retAddr wo), none] [] (sv32 h (ss 60 (am_ag (R 0)) W (Z 0)) (ss 60 (fun _ => 8) F (Z 0)) (ss 60 (fun _ => 0) B (Z 0))) _
  refine g_aload_n (i := 0) dd_32_8 rfl ?_
  refine g_aload_n (i := 1) dd_32_9 rfl ?_
  refine g_getfield (k := 1) am_ck1 (by decide) (Or.inr ⟨_, w_87⟩) dd_32_10 (qE _ _ _) rfl ?_
  refine g_iload_n (i := 3) dd_32_13 rfl ?_
  refine g_virtual (M' := mi_36) (n := 2) (ci := 9) (b := 32) (as := [.ref a1, .retAddr wo]) (st := []) (r1 := (none, (sv32 h (sw 60 (R 1) 5 (sc_ne wo) (fun n => am_ag (R 1) (5 * n + 3)) (ss 60 (am_ag (R 0)) W (Z 0)) (Z 1)) (sw 60 (R 1) 5 (sc_ne wo) (fun n => am_ag (R 1) (5 * n + 4)) (ss 60 (fun _ => 8) F (Z 0)) (Z 1)) (sw 60 (R 1) 5 (sc_ne wo) (fun _ => 0) (ss 60 (fun _ => 0) B (Z 0)) (Z 1))))) w_469 w_471 ps_36 ⟨lk_36.1, lk_36.2.1, lk_36.2.2, by decide, by decide⟩ rfl ((sv32_o hH rfl).trans qS) rfl (by simp [Value.category]) dd_32_14 (s32_sc hH qS q1 c1 z1 hb10 hb11 hb12 hwo) ?_
  show am_Good mi_32 17 [some (.ref 32), some (.ref E), some (.retAddr come), some (.retAddr wo), none] [] (sv32 h (sw 60 (R 1) 5 (sc_ne wo) (fun n => am_ag (R 1) (5 * n + 3)) (ss 60 (am_ag (R 0)) W (Z 0)) (Z 1)) (sw 60 (R 1) 5 (sc_ne wo) (fun n => am_ag (R 1) (5 * n + 4)) (ss 60 (fun _ => 8) F (Z 0)) (Z 1)) (sw 60 (R 1) 5 (sc_ne wo) (fun _ => 0) (ss 60 (fun _ => 0) B (Z 0)) (Z 1))) _
  refine g_iconst dd_32_17 ic_0 ?_
  refine g_istore dd_32_18 (am_nlb_ok rfl) (by decide) ?_
  exact s32_h2l hH qS qE q0 q1 q2 q3 c0 c1 c2 c3 z0 z1 z2 z3 hb10 hb11 hb12 hb20 hb21 hb22 hb30 hb31 hb32 hco hwo (s32_h3l hH qS qE q0 q1 q2 q3 c0 c1 c2 c3 z0 z1 z2 z3 hb10 hb11 hb12 hb20 hb21 hb22 hb30 hb31 hb32 hco hwo (Z 3) 0 (by omega)) (Z 2) 0 (by omega)
def sv36 (h : am_H)  (W F B : Nat) : am_H := am_ups h [(37, .inl (0, 240, W)), (38, .inl (0, 240, F)), (39, .inl (0, 240, B))]
def sv36_ok (h : am_H) : Prop := am_ke h [37, 38, 39]
theorem sv36_g37 {h : am_H}  {W F B : Nat} (hH : sv36_ok h) : am_get (sv36 h  W F B) 37 = some (.inl (0, 240, W)) := am_ups_g hH rfl
theorem sv36_u37 {h : am_H}  {W F B : Nat} (hH : sv36_ok h) {W' : Nat} : am_upd (sv36 h  W F B) 37 (.inl (0, 240, W')) = (sv36 h  W' F B) := by
  unfold sv36
  refine am_upd_ups ?_ ⟨rfl, rfl⟩
  exact hH
theorem sv36_g38 {h : am_H}  {W F B : Nat} (hH : sv36_ok h) : am_get (sv36 h  W F B) 38 = some (.inl (0, 240, F)) := am_ups_g hH rfl
theorem sv36_u38 {h : am_H}  {W F B : Nat} (hH : sv36_ok h) {F' : Nat} : am_upd (sv36 h  W F B) 38 (.inl (0, 240, F')) = (sv36 h  W F' B) := by
  unfold sv36
  refine am_upd_ups ?_ ⟨rfl, rfl⟩
  exact hH
theorem sv36_g39 {h : am_H}  {W F B : Nat} (hH : sv36_ok h) : am_get (sv36 h  W F B) 39 = some (.inl (0, 240, B)) := am_ups_g hH rfl
theorem sv36_u39 {h : am_H}  {W F B : Nat} (hH : sv36_ok h) {B' : Nat} : am_upd (sv36 h  W F B) 39 (.inl (0, 240, B')) = (sv36 h  W F B') := by
  unfold sv36
  refine am_upd_ups ?_ ⟨rfl, rfl⟩
  exact hH
theorem sv36_o {h : am_H}  {W F B : Nat} (hH : sv36_ok h) {a : Nat} (ha : am_lk [(37, am_e0), (38, am_e0), (39, am_e0)] a = none) : am_get (sv36 h  W F B) a = am_get h a := by
  unfold sv36
  refine am_ups_n ?_ ?_
  · exact hH
  · exact (am_lk_k (by rfl)).mp ha
theorem s36_put {h : am_H} {W F B : Nat} (hH : sv36_ok h) (qS : am_get h 36 = some (.inr (9, [.ref 37, .ref 38, .ref 39]))) {s t w f b : Nat} (hs : s < 4) (ht : t < 60) : am_EG mi_34 [.ref 36, .retAddr s, .retAddr t, .retAddr w, .retAddr f, .retAddr b] (sv36 h W F B) (none, (sv36 h (am_as W (60 * s + t) w) (am_as F (60 * s + t) f) (am_as B (60 * s + t) b))) := by
  refine am_enter (n := 1) tk_34.2.1 (by simp [Value.category]) (Nat.le_of_ble_eq_true rfl) ?_
  show am_Good mi_34 0 [some (.ref 36), some (.retAddr s), some (.retAddr t), some (.retAddr w), some (.retAddr f), some (.retAddr b), none] [] (sv36 h W F B) _
  refine g_iload_n (i := 1) dd_34_0 rfl ?_
  refine g_iload_n (i := 2) dd_34_1 rfl ?_
  refine g_static (M' := mi_35) (n := 2) (as := [.retAddr s, .retAddr t]) (st := []) (r1 := (some (.retAddr 1), (sv36 h W F B))) w_466 w_467 ⟨lk_35.1, lk_35.2.1, lk_35.2.2, by decide, by decide⟩ rfl (by simp [Value.category]) dd_34_2 (th_1 (by omega) (by omega)) ?_
  show am_Good mi_34 5 [some (.ref 36), some (.retAddr s), some (.retAddr t), some (.retAddr w), some (.retAddr f), some (.retAddr b), none] [.retAddr 1] (sv36 h W F B) _
  refine g_if_eq_f (t := 42) dd_34_5 (by decide) (by decide) ?_
  refine g_iload_n (i := 1) dd_34_8 rfl ?_
  refine g_bipush dd_34_9 bi_60 ?_
  refine e_imul (v := 60 * s) dd_34_11 (by omega) ?_
  refine g_iload_n (i := 2) dd_34_12 rfl ?_
  refine e_iadd (v := 60 * s + t) dd_34_13 (by omega) ?_
  refine g_istore dd_34_14 (am_nlb_ok rfl) (by decide) ?_
  refine g_aload_n (i := 0) dd_34_16 rfl ?_
  refine g_getfield (k := 0) am_ck9 (by decide) (Or.inl w_153) dd_34_17 ((sv36_o hH rfl).trans qS) rfl ?_
  refine g_iload dd_34_20 rfl ?_
  refine g_iload_n (i := 3) dd_34_22 rfl ?_
  refine g_iastore dd_34_23 (sv36_g37 hH) (by omega) (by decide) ?_
  refine am_heq (sv36_u37 hH) ?_
  show am_Good mi_34 24 [some (.ref 36), some (.retAddr s), some (.retAddr t), some (.retAddr w), some (.retAddr f), some (.retAddr b), some (.retAddr (60 * s + t))] [] (sv36 h (am_as W (60 * s + t) w) F B) _
  refine g_aload_n (i := 0) dd_34_24 rfl ?_
  refine g_getfield (k := 1) am_ck9 (by decide) (Or.inl w_154) dd_34_25 ((sv36_o hH rfl).trans qS) rfl ?_
  refine g_iload dd_34_28 rfl ?_
  refine g_iload dd_34_30 rfl ?_
  refine g_iastore dd_34_32 (sv36_g38 hH) (by omega) (by decide) ?_
  refine am_heq (sv36_u38 hH) ?_
  show am_Good mi_34 33 [some (.ref 36), some (.retAddr s), some (.retAddr t), some (.retAddr w), some (.retAddr f), some (.retAddr b), some (.retAddr (60 * s + t))] [] (sv36 h (am_as W (60 * s + t) w) (am_as F (60 * s + t) f) B) _
  refine g_aload_n (i := 0) dd_34_33 rfl ?_
  refine g_getfield (k := 2) am_ck9 (by decide) (Or.inl w_155) dd_34_34 ((sv36_o hH rfl).trans qS) rfl ?_
  refine g_iload dd_34_37 rfl ?_
  refine g_iload dd_34_39 rfl ?_
  refine g_iastore dd_34_41 (sv36_g39 hH) (by omega) (by decide) ?_
  refine am_heq (sv36_u39 hH) ?_
  show am_Good mi_34 42 [some (.ref 36), some (.retAddr s), some (.retAddr t), some (.retAddr w), some (.retAddr f), some (.retAddr b), some (.retAddr (60 * s + t))] [] (sv36 h (am_as W (60 * s + t) w) (am_as F (60 * s + t) f) (am_as B (60 * s + t) b)) _
  exact g_return rfl dd_34_42
theorem s36_ss1 {h : am_H} {W F B : Nat} (hH : sv36_ok h) (qS : am_get h 36 = some (.inr (9, [.ref 37, .ref 38, .ref 39]))) {a b l n y : Nat} (qa : ∀ W F B, am_get (sv36 h W F B) a = some (.inr (8, [.ref b, .retAddr 1, .retAddr l, .retAddr n]))) (hc : ∀ W F B r c, r < n → c < 1 → am_EG mi_31 [.ref a, .retAddr r, .retAddr c] (sv36 h W F B) (some (.retAddr (am_ag y (1 * r + c))), sv36 h W F B)) {r : am_R} {s t : Nat} (hn : n ≤ 4) (hs : s < n) (ht : t < 60) (hg : am_Good mi_33 12 [some (.ref 36), some (.ref a), some (.retAddr s), some (.retAddr (t + 1))] [] (sv36 h (am_as W (60 * s + t) (am_ag y (1 * s + 0))) (am_as F (60 * s + t) 8) (am_as B (60 * s + t) 0)) r) : am_Good mi_33 12 [some (.ref 36), some (.ref a), some (.retAddr s), some (.retAddr t)] [] (sv36 h W F B) r := by
  refine g_iload_n (i := 3) dd_33_12 rfl ?_
  refine g_bipush dd_33_13 bi_60 ?_
  refine g_icmp_ge_f (t := 39) dd_33_15 (by decide) (by first | exact sk_ge_f (by omega) (by omega) | exact tk_ge_f (by omega)) ?_
  refine g_aload_n (i := 0) dd_33_18 rfl ?_
  refine g_iload_n (i := 2) dd_33_19 rfl ?_
  refine g_iload_n (i := 3) dd_33_20 rfl ?_
  refine g_aload_n (i := 1) dd_33_21 rfl ?_
  refine g_iload_n (i := 2) dd_33_22 rfl ?_
  refine g_iconst dd_33_23 ic_0 ?_
  refine g_virtual (M' := mi_31) (n := 2) (ci := 8) (b := a) (as := [.retAddr s, .retAddr 0]) (st := [.retAddr t, .retAddr s, .ref 36]) (r1 := (some (.retAddr (am_ag y (1 * s + 0))), (sv36 h W F B))) w_461 w_450 w_451 ⟨lk_31.1, lk_31.2.1, lk_31.2.2, by decide, by decide⟩ rfl (qa _ _ _) rfl (by simp [Value.category]) dd_33_24 (hc _ _ _ _ _ (by omega) (by decide)) ?_
  show am_Good mi_33 27 [some (.ref 36), some (.ref a), some (.retAddr s), some (.retAddr t)] [.retAddr (am_ag y (1 * s + 0)), .retAddr t, .retAddr s, .ref 36] (sv36 h W F B) _
  refine g_bipush dd_33_27 bi_8 ?_
  refine g_iconst dd_33_29 ic_0 ?_
  refine g_virtual (M' := mi_34) (n := 5) (ci := 9) (b := 36) (as := [.retAddr s, .retAddr t, .retAddr (am_ag y (1 * s + 0)), .retAddr 8, .retAddr 0]) (st := []) (r1 := (none, (sv36 h (am_as W (60 * s + t) (am_ag y (1 * s + 0))) (am_as F (60 * s + t) 8) (am_as B (60 * s + t) 0)))) w_462 w_464 ps_34 ⟨lk_34.1, lk_34.2.1, lk_34.2.2, by decide, by decide⟩ rfl ((sv36_o hH rfl).trans qS) rfl (by simp [Value.category]) dd_33_30 (s36_put hH qS (by omega) (by omega)) ?_
  show am_Good mi_33 33 [some (.ref 36), some (.ref a), some (.retAddr s), some (.retAddr t)] [] (sv36 h (am_as W (60 * s + t) (am_ag y (1 * s + 0))) (am_as F (60 * s + t) 8) (am_as B (60 * s + t) 0)) _
  refine e_iinc (v := 1) (w := t + 1) dd_33_33 rfl ic_1 (am_nlb_ok rfl) (by decide) (by omega) ?_
  refine g_goto (t := 12) dd_33_36 (by decide) ?_
  exact hg
theorem s36_ss2 {h : am_H} {W F B : Nat} (hH : sv36_ok h) (qS : am_get h 36 = some (.inr (9, [.ref 37, .ref 38, .ref 39]))) {a b l n y : Nat} (qa : ∀ W F B, am_get (sv36 h W F B) a = some (.inr (8, [.ref b, .retAddr 1, .retAddr l, .retAddr n]))) (hc : ∀ W F B r c, r < n → c < 1 → am_EG mi_31 [.ref a, .retAddr r, .retAddr c] (sv36 h W F B) (some (.retAddr (am_ag y (1 * r + c))), sv36 h W F B)) {r : am_R} {s : Nat} (hn : n ≤ 4) (hs : s < n) (hg : am_Good mi_33 2 [some (.ref 36), some (.ref a), some (.retAddr (s + 1)), some (.retAddr 60)] [] (sv36 h W F B) r) : am_Good mi_33 12 [some (.ref 36), some (.ref a), some (.retAddr s), some (.retAddr 60)] [] (sv36 h W F B) r := by
  refine g_iload_n (i := 3) dd_33_12 rfl ?_
  refine g_bipush dd_33_13 bi_60 ?_
  refine g_icmp_ge_t (t := 39) dd_33_15 (by decide) (by decide) ?_
  refine e_iinc (v := 1) (w := s + 1) dd_33_39 rfl ic_1 (am_nlb_ok rfl) (by decide) (by omega) ?_
  refine g_goto (t := 2) dd_33_42 (by decide) ?_
  exact hg
theorem s36_ss3 {h : am_H} {W F B : Nat} (hH : sv36_ok h) (qS : am_get h 36 = some (.inr (9, [.ref 37, .ref 38, .ref 39]))) {a b l n y : Nat} (qa : ∀ W F B, am_get (sv36 h W F B) a = some (.inr (8, [.ref b, .retAddr 1, .retAddr l, .retAddr n]))) (hc : ∀ W F B r c, r < n → c < 1 → am_EG mi_31 [.ref a, .retAddr r, .retAddr c] (sv36 h W F B) (some (.retAddr (am_ag y (1 * r + c))), sv36 h W F B)) {r : am_R} {s : Nat} {v3 : Option Value} (hn : n ≤ 4) (hs : s < n) (hg : am_Good mi_33 12 [some (.ref 36), some (.ref a), some (.retAddr s), some (.retAddr 0)] [] (sv36 h W F B) r) : am_Good mi_33 2 [some (.ref 36), some (.ref a), some (.retAddr s), v3] [] (sv36 h W F B) r := by
  refine g_iload_n (i := 2) dd_33_2 rfl ?_
  refine g_aload_n (i := 1) dd_33_3 rfl ?_
  refine g_getfield (k := 3) am_ck8 (by decide) (Or.inr ⟨_, w_63⟩) dd_33_4 (qa _ _ _) rfl ?_
  refine g_icmp_ge_f (t := 45) dd_33_7 (by decide) (by first | exact sk_ge_f (by omega) (by omega) | exact tk_ge_f (by omega)) ?_
  refine g_iconst dd_33_10 ic_0 ?_
  refine g_istore_n (i := 3) dd_33_11 (am_nlb_ok rfl) (by decide) ?_
  exact hg
theorem s36_ss4 {h : am_H} {W F B : Nat} (hH : sv36_ok h) (qS : am_get h 36 = some (.inr (9, [.ref 37, .ref 38, .ref 39]))) {a b l n y : Nat} (qa : ∀ W F B, am_get (sv36 h W F B) a = some (.inr (8, [.ref b, .retAddr 1, .retAddr l, .retAddr n]))) (hc : ∀ W F B r c, r < n → c < 1 → am_EG mi_31 [.ref a, .retAddr r, .retAddr c] (sv36 h W F B) (some (.retAddr (am_ag y (1 * r + c))), sv36 h W F B)) {v3 : Option Value} (hn : n ≤ 4) : am_Good mi_33 2 [some (.ref 36), some (.ref a), some (.retAddr n), v3] [] (sv36 h W F B) (none, (sv36 h W F B)) := by
  refine g_iload_n (i := 2) dd_33_2 rfl ?_
  refine g_aload_n (i := 1) dd_33_3 rfl ?_
  refine g_getfield (k := 3) am_ck8 (by decide) (Or.inr ⟨_, w_63⟩) dd_33_4 (qa _ _ _) rfl ?_
  refine g_icmp_ge_t (t := 45) dd_33_7 (by decide) (by first | exact sk_ge_t (by omega) (by omega) | exact tk_ge_t (by omega)) ?_
  exact g_return rfl dd_33_45
theorem s36_ssl {h : am_H} {W F B : Nat} (hH : sv36_ok h) (qS : am_get h 36 = some (.inr (9, [.ref 37, .ref 38, .ref 39]))) {a b l n y : Nat} (qa : ∀ W F B, am_get (sv36 h W F B) a = some (.inr (8, [.ref b, .retAddr 1, .retAddr l, .retAddr n]))) (hc : ∀ W F B r c, r < n → c < 1 → am_EG mi_31 [.ref a, .retAddr r, .retAddr c] (sv36 h W F B) (some (.retAddr (am_ag y (1 * r + c))), sv36 h W F B)) {r : am_R} {s : Nat} (hn : n ≤ 4) (hs : s < n) (hg : am_Good mi_33 12 [some (.ref 36), some (.ref a), some (.retAddr s), some (.retAddr 60)] [] (sv36 h (fl W (60 * s) (am_ag y s) 60) (fl F (60 * s) 8 60) (fl B (60 * s) 0 60)) r) : ∀ (k t : Nat), t + k = 60 → am_Good mi_33 12 [some (.ref 36), some (.ref a), some (.retAddr s), some (.retAddr t)] [] (sv36 h (fl W (60 * s) (am_ag y s) t) (fl F (60 * s) 8 t) (fl B (60 * s) 0 t)) r
  | 0, t, e => by
    have e' : t = 60 := by omega
    subst e'
    exact hg
  | k + 1, t, e => by
    have q := s36_ssl hH qS qa hc hn hs hg k (t + 1) (by omega)
    refine s36_ss1 hH qS qa hc hn hs (by omega) ?_
    rw [show 1 * s + 0 = s by omega]
    exact q
theorem s36_ss {h : am_H} {W F B : Nat} (hH : sv36_ok h) (qS : am_get h 36 = some (.inr (9, [.ref 37, .ref 38, .ref 39]))) {a b l n y : Nat} (qa : ∀ W F B, am_get (sv36 h W F B) a = some (.inr (8, [.ref b, .retAddr 1, .retAddr l, .retAddr n]))) (hc : ∀ W F B r c, r < n → c < 1 → am_EG mi_31 [.ref a, .retAddr r, .retAddr c] (sv36 h W F B) (some (.retAddr (am_ag y (1 * r + c))), sv36 h W F B)) (hn : n ≤ 4) : ∀ (k s : Nat) (v3 : Option Value), s + k = n → am_Good mi_33 2 [some (.ref 36), some (.ref a), some (.retAddr s), v3] [] (sv36 h (ss 60 (am_ag y) W s) (ss 60 (fun _ => 8) F s) (ss 60 (fun _ => 0) B s)) (none, sv36 h (ss 60 (am_ag y) W n) (ss 60 (fun _ => 8) F n) (ss 60 (fun _ => 0) B n))
  | 0, s, v3, e => by
    have e' : s = n := by omega
    subst e'
    exact s36_ss4 hH qS qa hc hn
  | k + 1, s, v3, e => by
    refine s36_ss3 hH qS qa hc hn (by omega) ?_
    exact s36_ssl hH qS qa hc hn (by omega) (s36_ss2 hH qS qa hc hn (by omega) (s36_ss hH qS qa hc hn k (s + 1) _ (by omega))) 60 0 (by omega)
theorem s36_sst {h : am_H} {W F B : Nat} (hH : sv36_ok h) (qS : am_get h 36 = some (.inr (9, [.ref 37, .ref 38, .ref 39]))) {a b l n y : Nat} (qa : ∀ W F B, am_get (sv36 h W F B) a = some (.inr (8, [.ref b, .retAddr 1, .retAddr l, .retAddr n]))) (hc : ∀ W F B r c, r < n → c < 1 → am_EG mi_31 [.ref a, .retAddr r, .retAddr c] (sv36 h W F B) (some (.retAddr (am_ag y (1 * r + c))), sv36 h W F B)) (hn : n ≤ 4) : am_EG mi_33 [.ref 36, .ref a] (sv36 h W F B) (none, (sv36 h (ss 60 (am_ag y) W n) (ss 60 (fun _ => 8) F n) (ss 60 (fun _ => 0) B n))) := by
  refine am_enter (n := 2) tk_33.2.1 (by simp [Value.category]) (Nat.le_of_ble_eq_true rfl) ?_
  show am_Good mi_33 0 [some (.ref 36), some (.ref a), none, none] [] (sv36 h W F B) _
  refine g_iconst dd_33_0 ic_0 ?_
  refine g_istore_n (i := 2) dd_33_1 (am_nlb_ok rfl) (by decide) ?_
  exact s36_ss hH qS qa hc hn n 0 none (by omega)
theorem s36_m1 {h : am_H} {W F B : Nat} (hH : sv36_ok h) (qS : am_get h 36 = some (.inr (9, [.ref 37, .ref 38, .ref 39]))) {a b l n y : Nat} (qa : ∀ W F B, am_get (sv36 h W F B) a = some (.inr (8, [.ref b, .retAddr 5, .retAddr l, .retAddr n]))) (hc : ∀ W F B r c, r < n → c < 5 → am_EG mi_31 [.ref a, .retAddr r, .retAddr c] (sv36 h W F B) (some (.retAddr (am_ag y (5 * r + c))), sv36 h W F B)) (hn : n ≤ 9) (hb0 : ∀ i, i < n → am_ag y (5 * i) ≤ 3) (hb1 : ∀ i, i < n → am_ag y (5 * i + 1) ≤ 59) (hb2 : ∀ i, i < n → am_ag y (5 * i + 2) ≤ 59) {r : am_R} {m j : Nat} (hm : m < n) (ht : am_ag y (5 * m + 1) + j ≤ am_ag y (5 * m + 2)) (hg : am_Good mi_37 7 [some (.ref 36), some (.ref a), some (.retAddr m), some (.retAddr (am_ag y (5 * m + 1) + (j + 1)))] [] (sv36 h (am_as W (60 * am_ag y (5 * m + 0) + (am_ag y (5 * m + 1) + j)) (am_ag y (5 * m + 3))) (am_as F (60 * am_ag y (5 * m + 0) + (am_ag y (5 * m + 1) + j)) (am_ag y (5 * m + 4))) (am_as B (60 * am_ag y (5 * m + 0) + (am_ag y (5 * m + 1) + j)) 0)) r) : am_Good mi_37 7 [some (.ref 36), some (.ref a), some (.retAddr m), some (.retAddr (am_ag y (5 * m + 1) + j))] [] (sv36 h W F B) r := by
  have b0 := hb0 m hm
  have b1 := hb1 m hm
  have b2 := hb2 m hm
  have e0 : am_ag y (5 * m + 0) = am_ag y (5 * m) := rfl
  refine g_iload_n (i := 3) dd_37_7 rfl ?_
  refine g_aload_n (i := 1) dd_37_8 rfl ?_
  refine g_iload_n (i := 2) dd_37_9 rfl ?_
  refine g_iconst dd_37_10 ic_2 ?_
  refine g_virtual (M' := mi_31) (n := 2) (ci := 8) (b := a) (as := [.retAddr m, .retAddr 2]) (st := [.retAddr (am_ag y (5 * m + 1) + j)]) (r1 := (some (.retAddr (am_ag y (5 * m + 2))), (sv36 h W F B))) w_461 w_450 w_451 ⟨lk_31.1, lk_31.2.1, lk_31.2.2, by decide, by decide⟩ rfl (qa _ _ _) rfl (by simp [Value.category]) dd_37_11 (hc _ _ _ _ _ (by omega) (by decide)) ?_
  show am_Good mi_37 14 [some (.ref 36), some (.ref a), some (.retAddr m), some (.retAddr (am_ag y (5 * m + 1) + j))] [.retAddr (am_ag y (5 * m + 2)), .retAddr (am_ag y (5 * m + 1) + j)] (sv36 h W F B) _
  refine g_icmp_gt_f (t := 47) dd_37_14 (by decide) (by first | exact sk_gt_f (by omega) (by omega) | exact tk_gt_f (by omega)) ?_
  refine g_aload_n (i := 0) dd_37_17 rfl ?_
  refine g_aload_n (i := 1) dd_37_18 rfl ?_
  refine g_iload_n (i := 2) dd_37_19 rfl ?_
  refine g_iconst dd_37_20 ic_0 ?_
  refine g_virtual (M' := mi_31) (n := 2) (ci := 8) (b := a) (as := [.retAddr m, .retAddr 0]) (st := [.ref 36]) (r1 := (some (.retAddr (am_ag y (5 * m + 0))), (sv36 h W F B))) w_461 w_450 w_451 ⟨lk_31.1, lk_31.2.1, lk_31.2.2, by decide, by decide⟩ rfl (qa _ _ _) rfl (by simp [Value.category]) dd_37_21 (hc _ _ _ _ _ (by omega) (by decide)) ?_
  show am_Good mi_37 24 [some (.ref 36), some (.ref a), some (.retAddr m), some (.retAddr (am_ag y (5 * m + 1) + j))] [.retAddr (am_ag y (5 * m + 0)), .ref 36] (sv36 h W F B) _
  refine g_iload_n (i := 3) dd_37_24 rfl ?_
  refine g_aload_n (i := 1) dd_37_25 rfl ?_
  refine g_iload_n (i := 2) dd_37_26 rfl ?_
  refine g_iconst dd_37_27 ic_3 ?_
  refine g_virtual (M' := mi_31) (n := 2) (ci := 8) (b := a) (as := [.retAddr m, .retAddr 3]) (st := [.retAddr (am_ag y (5 * m + 1) + j), .retAddr (am_ag y (5 * m + 0)), .ref 36]) (r1 := (some (.retAddr (am_ag y (5 * m + 3))), (sv36 h W F B))) w_461 w_450 w_451 ⟨lk_31.1, lk_31.2.1, lk_31.2.2, by decide, by decide⟩ rfl (qa _ _ _) rfl (by simp [Value.category]) dd_37_28 (hc _ _ _ _ _ (by omega) (by decide)) ?_
  show am_Good mi_37 31 [some (.ref 36), some (.ref a), some (.retAddr m), some (.retAddr (am_ag y (5 * m + 1) + j))] [.retAddr (am_ag y (5 * m + 3)), .retAddr (am_ag y (5 * m + 1) + j), .retAddr (am_ag y (5 * m + 0)), .ref 36] (sv36 h W F B) _
  refine g_aload_n (i := 1) dd_37_31 rfl ?_
  refine g_iload_n (i := 2) dd_37_32 rfl ?_
  refine g_iconst dd_37_33 ic_4 ?_
  refine g_virtual (M' := mi_31) (n := 2) (ci := 8) (b := a) (as := [.retAddr m, .retAddr 4]) (st := [.retAddr (am_ag y (5 * m + 3)), .retAddr (am_ag y (5 * m + 1) + j), .retAddr (am_ag y (5 * m + 0)), .ref 36]) (r1 := (some (.retAddr (am_ag y (5 * m + 4))), (sv36 h W F B))) w_461 w_450 w_451 ⟨lk_31.1, lk_31.2.1, lk_31.2.2, by decide, by decide⟩ rfl (qa _ _ _) rfl (by simp [Value.category]) dd_37_34 (hc _ _ _ _ _ (by omega) (by decide)) ?_
  show am_Good mi_37 37 [some (.ref 36), some (.ref a), some (.retAddr m), some (.retAddr (am_ag y (5 * m + 1) + j))] [.retAddr (am_ag y (5 * m + 4)), .retAddr (am_ag y (5 * m + 3)), .retAddr (am_ag y (5 * m + 1) + j), .retAddr (am_ag y (5 * m + 0)), .ref 36] (sv36 h W F B) _
  refine g_iconst dd_37_37 ic_0 ?_
  refine g_virtual (M' := mi_34) (n := 5) (ci := 9) (b := 36) (as := [.retAddr (am_ag y (5 * m + 0)), .retAddr (am_ag y (5 * m + 1) + j), .retAddr (am_ag y (5 * m + 3)), .retAddr (am_ag y (5 * m + 4)), .retAddr 0]) (st := []) (r1 := (none, (sv36 h (am_as W (60 * (am_ag y (5 * m + 0)) + (am_ag y (5 * m + 1) + j)) (am_ag y (5 * m + 3))) (am_as F (60 * (am_ag y (5 * m + 0)) + (am_ag y (5 * m + 1) + j)) (am_ag y (5 * m + 4))) (am_as B (60 * (am_ag y (5 * m + 0)) + (am_ag y (5 * m + 1) + j)) 0)))) w_462 w_464 ps_34 ⟨lk_34.1, lk_34.2.1, lk_34.2.2, by decide, by decide⟩ rfl ((sv36_o hH rfl).trans qS) rfl (by simp [Value.category]) dd_37_38 (s36_put hH qS (by omega) (by omega)) ?_
  show am_Good mi_37 41 [some (.ref 36), some (.ref a), some (.retAddr m), some (.retAddr (am_ag y (5 * m + 1) + j))] [] (sv36 h (am_as W (60 * (am_ag y (5 * m + 0)) + (am_ag y (5 * m + 1) + j)) (am_ag y (5 * m + 3))) (am_as F (60 * (am_ag y (5 * m + 0)) + (am_ag y (5 * m + 1) + j)) (am_ag y (5 * m + 4))) (am_as B (60 * (am_ag y (5 * m + 0)) + (am_ag y (5 * m + 1) + j)) 0)) _
  refine e_iinc (v := 1) (w := am_ag y (5 * m + 1) + j + 1) dd_37_41 rfl ic_1 (am_nlb_ok rfl) (by decide) (by omega) ?_
  refine g_goto (t := 7) dd_37_44 (by decide) ?_
  exact hg
theorem s36_m2 {h : am_H} {W F B : Nat} (hH : sv36_ok h) (qS : am_get h 36 = some (.inr (9, [.ref 37, .ref 38, .ref 39]))) {a b l n y : Nat} (qa : ∀ W F B, am_get (sv36 h W F B) a = some (.inr (8, [.ref b, .retAddr 5, .retAddr l, .retAddr n]))) (hc : ∀ W F B r c, r < n → c < 5 → am_EG mi_31 [.ref a, .retAddr r, .retAddr c] (sv36 h W F B) (some (.retAddr (am_ag y (5 * r + c))), sv36 h W F B)) (hn : n ≤ 9) (hb0 : ∀ i, i < n → am_ag y (5 * i) ≤ 3) (hb1 : ∀ i, i < n → am_ag y (5 * i + 1) ≤ 59) (hb2 : ∀ i, i < n → am_ag y (5 * i + 2) ≤ 59) {m j : Nat} (hm : m < n) (hj : j ≤ 60) (ht : am_ag y (5 * m + 2) < am_ag y (5 * m + 1) + j) : am_Good mi_37 7 [some (.ref 36), some (.ref a), some (.retAddr m), some (.retAddr (am_ag y (5 * m + 1) + j))] [] (sv36 h W F B) (none, (sv36 h W F B)) := by
  have b0 := hb0 m hm
  have b1 := hb1 m hm
  have b2 := hb2 m hm
  have e0 : am_ag y (5 * m + 0) = am_ag y (5 * m) := rfl
  refine g_iload_n (i := 3) dd_37_7 rfl ?_
  refine g_aload_n (i := 1) dd_37_8 rfl ?_
  refine g_iload_n (i := 2) dd_37_9 rfl ?_
  refine g_iconst dd_37_10 ic_2 ?_
  refine g_virtual (M' := mi_31) (n := 2) (ci := 8) (b := a) (as := [.retAddr m, .retAddr 2]) (st := [.retAddr (am_ag y (5 * m + 1) + j)]) (r1 := (some (.retAddr (am_ag y (5 * m + 2))), (sv36 h W F B))) w_461 w_450 w_451 ⟨lk_31.1, lk_31.2.1, lk_31.2.2, by decide, by decide⟩ rfl (qa _ _ _) rfl (by simp [Value.category]) dd_37_11 (hc _ _ _ _ _ (by omega) (by decide)) ?_
  show am_Good mi_37 14 [some (.ref 36), some (.ref a), some (.retAddr m), some (.retAddr (am_ag y (5 * m + 1) + j))] [.retAddr (am_ag y (5 * m + 2)), .retAddr (am_ag y (5 * m + 1) + j)] (sv36 h W F B) _
  refine g_icmp_gt_t (t := 47) dd_37_14 (by decide) (by first | exact sk_gt_t (by omega) (by omega) | exact tk_gt_t (by omega)) ?_
  exact g_return rfl dd_37_47
theorem s36_ml {h : am_H} {W F B : Nat} (hH : sv36_ok h) (qS : am_get h 36 = some (.inr (9, [.ref 37, .ref 38, .ref 39]))) {a b l n y : Nat} (qa : ∀ W F B, am_get (sv36 h W F B) a = some (.inr (8, [.ref b, .retAddr 5, .retAddr l, .retAddr n]))) (hc : ∀ W F B r c, r < n → c < 5 → am_EG mi_31 [.ref a, .retAddr r, .retAddr c] (sv36 h W F B) (some (.retAddr (am_ag y (5 * r + c))), sv36 h W F B)) (hn : n ≤ 9) (hb0 : ∀ i, i < n → am_ag y (5 * i) ≤ 3) (hb1 : ∀ i, i < n → am_ag y (5 * i + 1) ≤ 59) (hb2 : ∀ i, i < n → am_ag y (5 * i + 2) ≤ 59) {m : Nat} (hm : m < n) : ∀ (k j : Nat), j + k = am_ag y (5 * m + 2) + 1 - am_ag y (5 * m + 1) → am_Good mi_37 7 [some (.ref 36), some (.ref a), some (.retAddr m), some (.retAddr (am_ag y (5 * m + 1) + j))] [] (sv36 h (fl W (60 * am_ag y (5 * m) + am_ag y (5 * m + 1)) (am_ag y (5 * m + 3)) j) (fl F (60 * am_ag y (5 * m) + am_ag y (5 * m + 1)) (am_ag y (5 * m + 4)) j) (fl B (60 * am_ag y (5 * m) + am_ag y (5 * m + 1)) 0 j)) (none, (sv36 h (fl W (60 * am_ag y (5 * m) + am_ag y (5 * m + 1)) (am_ag y (5 * m + 3)) (am_ag y (5 * m + 2) + 1 - am_ag y (5 * m + 1))) (fl F (60 * am_ag y (5 * m) + am_ag y (5 * m + 1)) (am_ag y (5 * m + 4)) (am_ag y (5 * m + 2) + 1 - am_ag y (5 * m + 1))) (fl B (60 * am_ag y (5 * m) + am_ag y (5 * m + 1)) 0 (am_ag y (5 * m + 2) + 1 - am_ag y (5 * m + 1)))))
  | 0, j, e => by
    have e' : j = am_ag y (5 * m + 2) + 1 - am_ag y (5 * m + 1) := by omega
    have b2 := hb2 m hm
    have b1 := hb1 m hm
    rw [← e']
    exact s36_m2 hH qS qa hc hn hb0 hb1 hb2 hm (by omega) (by omega)
  | k + 1, j, e => by
    have q := s36_ml (W := W) (F := F) (B := B) hH qS qa hc hn hb0 hb1 hb2 hm k (j + 1) (by omega)
    refine s36_m1 hH qS qa hc hn hb0 hb1 hb2 hm (by omega) ?_
    rw [show 60 * am_ag y (5 * m + 0) + (am_ag y (5 * m + 1) + j) = 60 * am_ag y (5 * m) + am_ag y (5 * m + 1) + j from by show 60 * am_ag y (5 * m) + _ = _; omega]
    exact q
theorem s36_m {h : am_H} {W F B : Nat} (hH : sv36_ok h) (qS : am_get h 36 = some (.inr (9, [.ref 37, .ref 38, .ref 39]))) {a b l n y : Nat} (qa : ∀ W F B, am_get (sv36 h W F B) a = some (.inr (8, [.ref b, .retAddr 5, .retAddr l, .retAddr n]))) (hc : ∀ W F B r c, r < n → c < 5 → am_EG mi_31 [.ref a, .retAddr r, .retAddr c] (sv36 h W F B) (some (.retAddr (am_ag y (5 * r + c))), sv36 h W F B)) (hn : n ≤ 9) (hb0 : ∀ i, i < n → am_ag y (5 * i) ≤ 3) (hb1 : ∀ i, i < n → am_ag y (5 * i + 1) ≤ 59) (hb2 : ∀ i, i < n → am_ag y (5 * i + 2) ≤ 59) {m : Nat} (hm : m < n) : am_EG mi_37 [.ref 36, .ref a, .retAddr m] (sv36 h W F B) (none, (sv36 h (fl W (60 * am_ag y (5 * m) + am_ag y (5 * m + 1)) (am_ag y (5 * m + 3)) (am_ag y (5 * m + 2) + 1 - am_ag y (5 * m + 1))) (fl F (60 * am_ag y (5 * m) + am_ag y (5 * m + 1)) (am_ag y (5 * m + 4)) (am_ag y (5 * m + 2) + 1 - am_ag y (5 * m + 1))) (fl B (60 * am_ag y (5 * m) + am_ag y (5 * m + 1)) 0 (am_ag y (5 * m + 2) + 1 - am_ag y (5 * m + 1))))) := by
  refine am_enter (n := 1) tk_37.2.1 (by simp [Value.category]) (Nat.le_of_ble_eq_true rfl) ?_
  show am_Good mi_37 0 [some (.ref 36), some (.ref a), some (.retAddr m), none] [] (sv36 h W F B) _
  refine g_aload_n (i := 1) dd_37_0 rfl ?_
  refine g_iload_n (i := 2) dd_37_1 rfl ?_
  refine g_iconst dd_37_2 ic_1 ?_
  refine g_virtual (M' := mi_31) (n := 2) (ci := 8) (b := a) (as := [.retAddr m, .retAddr 1]) (st := []) (r1 := (some (.retAddr (am_ag y (5 * m + 1))), (sv36 h W F B))) w_461 w_450 w_451 ⟨lk_31.1, lk_31.2.1, lk_31.2.2, by decide, by decide⟩ rfl (qa _ _ _) rfl (by simp [Value.category]) dd_37_3 (hc _ _ _ _ _ (by omega) (by decide)) ?_
  show am_Good mi_37 6 [some (.ref 36), some (.ref a), some (.retAddr m), none] [.retAddr (am_ag y (5 * m + 1))] (sv36 h W F B) _
  refine g_istore_n (i := 3) dd_37_6 (am_nlb_ok rfl) (by decide) ?_
  exact s36_ml hH qS qa hc hn hb0 hb1 hb2 hm (am_ag y (5 * m + 2) + 1 - am_ag y (5 * m + 1)) 0 (by omega)
theorem s36_b31 {h : am_H} {W F B : Nat} (hH : sv36_ok h) (qS : am_get h 36 = some (.inr (9, [.ref 37, .ref 38, .ref 39]))) {a b l n y : Nat} (qa : ∀ W F B, am_get (sv36 h W F B) a = some (.inr (8, [.ref b, .retAddr 3, .retAddr l, .retAddr n]))) (hc : ∀ W F B r c, r < n → c < 3 → am_EG mi_31 [.ref a, .retAddr r, .retAddr c] (sv36 h W F B) (some (.retAddr (am_ag y (3 * r + c))), sv36 h W F B)) (hn : n ≤ 6) (hb0 : ∀ i, i < n → am_ag y (3 * i) ≤ 3) (hb1 : ∀ i, i < n → am_ag y (3 * i + 1) ≤ 59) (hb2 : ∀ i, i < n → am_ag y (3 * i + 2) ≤ 59) {r : am_R} {m j : Nat} (hm : m < n) (ht : am_ag y (3 * m + 1) + j ≤ am_ag y (3 * m + 2)) (hg : am_Good mi_38 7 [some (.ref 36), some (.ref a), some (.retAddr m), some (.retAddr (am_ag y (3 * m + 1) + (j + 1)))] [] (sv36 h (am_as W (60 * am_ag y (3 * m + 0) + (am_ag y (3 * m + 1) + j)) 0) (am_as F (60 * am_ag y (3 * m + 0) + (am_ag y (3 * m + 1) + j)) 8) (am_as B (60 * am_ag y (3 * m + 0) + (am_ag y (3 * m + 1) + j)) 1)) r) : am_Good mi_38 7 [some (.ref 36), some (.ref a), some (.retAddr m), some (.retAddr (am_ag y (3 * m + 1) + j))] [] (sv36 h W F B) r := by
  have b0 := hb0 m hm
  have b1 := hb1 m hm
  have b2 := hb2 m hm
  have e0 : am_ag y (3 * m + 0) = am_ag y (3 * m) := rfl
  refine g_iload_n (i := 3) dd_38_7 rfl ?_
  refine g_aload_n (i := 1) dd_38_8 rfl ?_
  refine g_iload_n (i := 2) dd_38_9 rfl ?_
  refine g_iconst dd_38_10 ic_2 ?_
  refine g_virtual (M' := mi_31) (n := 2) (ci := 8) (b := a) (as := [.retAddr m, .retAddr 2]) (st := [.retAddr (am_ag y (3 * m + 1) + j)]) (r1 := (some (.retAddr (am_ag y (3 * m + 2))), (sv36 h W F B))) w_461 w_450 w_451 ⟨lk_31.1, lk_31.2.1, lk_31.2.2, by decide, by decide⟩ rfl (qa _ _ _) rfl (by simp [Value.category]) dd_38_11 (hc _ _ _ _ _ (by omega) (by decide)) ?_
  show am_Good mi_38 14 [some (.ref 36), some (.ref a), some (.retAddr m), some (.retAddr (am_ag y (3 * m + 1) + j))] [.retAddr (am_ag y (3 * m + 2)), .retAddr (am_ag y (3 * m + 1) + j)] (sv36 h W F B) _
  refine g_icmp_gt_f (t := 38) dd_38_14 (by decide) (by first | exact sk_gt_f (by omega) (by omega) | exact tk_gt_f (by omega)) ?_
  refine g_aload_n (i := 0) dd_38_17 rfl ?_
  refine g_aload_n (i := 1) dd_38_18 rfl ?_
  refine g_iload_n (i := 2) dd_38_19 rfl ?_
  refine g_iconst dd_38_20 ic_0 ?_
  refine g_virtual (M' := mi_31) (n := 2) (ci := 8) (b := a) (as := [.retAddr m, .retAddr 0]) (st := [.ref 36]) (r1 := (some (.retAddr (am_ag y (3 * m + 0))), (sv36 h W F B))) w_461 w_450 w_451 ⟨lk_31.1, lk_31.2.1, lk_31.2.2, by decide, by decide⟩ rfl (qa _ _ _) rfl (by simp [Value.category]) dd_38_21 (hc _ _ _ _ _ (by omega) (by decide)) ?_
  show am_Good mi_38 24 [some (.ref 36), some (.ref a), some (.retAddr m), some (.retAddr (am_ag y (3 * m + 1) + j))] [.retAddr (am_ag y (3 * m + 0)), .ref 36] (sv36 h W F B) _
  refine g_iload_n (i := 3) dd_38_24 rfl ?_
  refine g_iconst dd_38_25 ic_0 ?_
  refine g_bipush dd_38_26 bi_8 ?_
  refine g_iconst dd_38_28 ic_1 ?_
  refine g_virtual (M' := mi_34) (n := 5) (ci := 9) (b := 36) (as := [.retAddr (am_ag y (3 * m + 0)), .retAddr (am_ag y (3 * m + 1) + j), .retAddr 0, .retAddr 8, .retAddr 1]) (st := []) (r1 := (none, (sv36 h (am_as W (60 * (am_ag y (3 * m + 0)) + (am_ag y (3 * m + 1) + j)) 0) (am_as F (60 * (am_ag y (3 * m + 0)) + (am_ag y (3 * m + 1) + j)) 8) (am_as B (60 * (am_ag y (3 * m + 0)) + (am_ag y (3 * m + 1) + j)) 1)))) w_462 w_464 ps_34 ⟨lk_34.1, lk_34.2.1, lk_34.2.2, by decide, by decide⟩ rfl ((sv36_o hH rfl).trans qS) rfl (by simp [Value.category]) dd_38_29 (s36_put hH qS (by omega) (by omega)) ?_
  show am_Good mi_38 32 [some (.ref 36), some (.ref a), some (.retAddr m), some (.retAddr (am_ag y (3 * m + 1) + j))] [] (sv36 h (am_as W (60 * (am_ag y (3 * m + 0)) + (am_ag y (3 * m + 1) + j)) 0) (am_as F (60 * (am_ag y (3 * m + 0)) + (am_ag y (3 * m + 1) + j)) 8) (am_as B (60 * (am_ag y (3 * m + 0)) + (am_ag y (3 * m + 1) + j)) 1)) _
  refine e_iinc (v := 1) (w := am_ag y (3 * m + 1) + j + 1) dd_38_32 rfl ic_1 (am_nlb_ok rfl) (by decide) (by omega) ?_
  refine g_goto (t := 7) dd_38_35 (by decide) ?_
  exact hg
theorem s36_b32 {h : am_H} {W F B : Nat} (hH : sv36_ok h) (qS : am_get h 36 = some (.inr (9, [.ref 37, .ref 38, .ref 39]))) {a b l n y : Nat} (qa : ∀ W F B, am_get (sv36 h W F B) a = some (.inr (8, [.ref b, .retAddr 3, .retAddr l, .retAddr n]))) (hc : ∀ W F B r c, r < n → c < 3 → am_EG mi_31 [.ref a, .retAddr r, .retAddr c] (sv36 h W F B) (some (.retAddr (am_ag y (3 * r + c))), sv36 h W F B)) (hn : n ≤ 6) (hb0 : ∀ i, i < n → am_ag y (3 * i) ≤ 3) (hb1 : ∀ i, i < n → am_ag y (3 * i + 1) ≤ 59) (hb2 : ∀ i, i < n → am_ag y (3 * i + 2) ≤ 59) {m j : Nat} (hm : m < n) (hj : j ≤ 60) (ht : am_ag y (3 * m + 2) < am_ag y (3 * m + 1) + j) : am_Good mi_38 7 [some (.ref 36), some (.ref a), some (.retAddr m), some (.retAddr (am_ag y (3 * m + 1) + j))] [] (sv36 h W F B) (none, (sv36 h W F B)) := by
  have b0 := hb0 m hm
  have b1 := hb1 m hm
  have b2 := hb2 m hm
  have e0 : am_ag y (3 * m + 0) = am_ag y (3 * m) := rfl
  refine g_iload_n (i := 3) dd_38_7 rfl ?_
  refine g_aload_n (i := 1) dd_38_8 rfl ?_
  refine g_iload_n (i := 2) dd_38_9 rfl ?_
  refine g_iconst dd_38_10 ic_2 ?_
  refine g_virtual (M' := mi_31) (n := 2) (ci := 8) (b := a) (as := [.retAddr m, .retAddr 2]) (st := [.retAddr (am_ag y (3 * m + 1) + j)]) (r1 := (some (.retAddr (am_ag y (3 * m + 2))), (sv36 h W F B))) w_461 w_450 w_451 ⟨lk_31.1, lk_31.2.1, lk_31.2.2, by decide, by decide⟩ rfl (qa _ _ _) rfl (by simp [Value.category]) dd_38_11 (hc _ _ _ _ _ (by omega) (by decide)) ?_
  show am_Good mi_38 14 [some (.ref 36), some (.ref a), some (.retAddr m), some (.retAddr (am_ag y (3 * m + 1) + j))] [.retAddr (am_ag y (3 * m + 2)), .retAddr (am_ag y (3 * m + 1) + j)] (sv36 h W F B) _
  refine g_icmp_gt_t (t := 38) dd_38_14 (by decide) (by first | exact sk_gt_t (by omega) (by omega) | exact tk_gt_t (by omega)) ?_
  exact g_return rfl dd_38_38
theorem s36_b3l {h : am_H} {W F B : Nat} (hH : sv36_ok h) (qS : am_get h 36 = some (.inr (9, [.ref 37, .ref 38, .ref 39]))) {a b l n y : Nat} (qa : ∀ W F B, am_get (sv36 h W F B) a = some (.inr (8, [.ref b, .retAddr 3, .retAddr l, .retAddr n]))) (hc : ∀ W F B r c, r < n → c < 3 → am_EG mi_31 [.ref a, .retAddr r, .retAddr c] (sv36 h W F B) (some (.retAddr (am_ag y (3 * r + c))), sv36 h W F B)) (hn : n ≤ 6) (hb0 : ∀ i, i < n → am_ag y (3 * i) ≤ 3) (hb1 : ∀ i, i < n → am_ag y (3 * i + 1) ≤ 59) (hb2 : ∀ i, i < n → am_ag y (3 * i + 2) ≤ 59) {m : Nat} (hm : m < n) : ∀ (k j : Nat), j + k = am_ag y (3 * m + 2) + 1 - am_ag y (3 * m + 1) → am_Good mi_38 7 [some (.ref 36), some (.ref a), some (.retAddr m), some (.retAddr (am_ag y (3 * m + 1) + j))] [] (sv36 h (fl W (60 * am_ag y (3 * m) + am_ag y (3 * m + 1)) 0 j) (fl F (60 * am_ag y (3 * m) + am_ag y (3 * m + 1)) 8 j) (fl B (60 * am_ag y (3 * m) + am_ag y (3 * m + 1)) 1 j)) (none, (sv36 h (fl W (60 * am_ag y (3 * m) + am_ag y (3 * m + 1)) 0 (am_ag y (3 * m + 2) + 1 - am_ag y (3 * m + 1))) (fl F (60 * am_ag y (3 * m) + am_ag y (3 * m + 1)) 8 (am_ag y (3 * m + 2) + 1 - am_ag y (3 * m + 1))) (fl B (60 * am_ag y (3 * m) + am_ag y (3 * m + 1)) 1 (am_ag y (3 * m + 2) + 1 - am_ag y (3 * m + 1)))))
  | 0, j, e => by
    have e' : j = am_ag y (3 * m + 2) + 1 - am_ag y (3 * m + 1) := by omega
    have b2 := hb2 m hm
    have b1 := hb1 m hm
    rw [← e']
    exact s36_b32 hH qS qa hc hn hb0 hb1 hb2 hm (by omega) (by omega)
  | k + 1, j, e => by
    have q := s36_b3l (W := W) (F := F) (B := B) hH qS qa hc hn hb0 hb1 hb2 hm k (j + 1) (by omega)
    refine s36_b31 hH qS qa hc hn hb0 hb1 hb2 hm (by omega) ?_
    rw [show 60 * am_ag y (3 * m + 0) + (am_ag y (3 * m + 1) + j) = 60 * am_ag y (3 * m) + am_ag y (3 * m + 1) + j from by show 60 * am_ag y (3 * m) + _ = _; omega]
    exact q
theorem s36_b3 {h : am_H} {W F B : Nat} (hH : sv36_ok h) (qS : am_get h 36 = some (.inr (9, [.ref 37, .ref 38, .ref 39]))) {a b l n y : Nat} (qa : ∀ W F B, am_get (sv36 h W F B) a = some (.inr (8, [.ref b, .retAddr 3, .retAddr l, .retAddr n]))) (hc : ∀ W F B r c, r < n → c < 3 → am_EG mi_31 [.ref a, .retAddr r, .retAddr c] (sv36 h W F B) (some (.retAddr (am_ag y (3 * r + c))), sv36 h W F B)) (hn : n ≤ 6) (hb0 : ∀ i, i < n → am_ag y (3 * i) ≤ 3) (hb1 : ∀ i, i < n → am_ag y (3 * i + 1) ≤ 59) (hb2 : ∀ i, i < n → am_ag y (3 * i + 2) ≤ 59) {m : Nat} (hm : m < n) : am_EG mi_38 [.ref 36, .ref a, .retAddr m] (sv36 h W F B) (none, (sv36 h (fl W (60 * am_ag y (3 * m) + am_ag y (3 * m + 1)) 0 (am_ag y (3 * m + 2) + 1 - am_ag y (3 * m + 1))) (fl F (60 * am_ag y (3 * m) + am_ag y (3 * m + 1)) 8 (am_ag y (3 * m + 2) + 1 - am_ag y (3 * m + 1))) (fl B (60 * am_ag y (3 * m) + am_ag y (3 * m + 1)) 1 (am_ag y (3 * m + 2) + 1 - am_ag y (3 * m + 1))))) := by
  refine am_enter (n := 1) tk_38.2.1 (by simp [Value.category]) (Nat.le_of_ble_eq_true rfl) ?_
  show am_Good mi_38 0 [some (.ref 36), some (.ref a), some (.retAddr m), none] [] (sv36 h W F B) _
  refine g_aload_n (i := 1) dd_38_0 rfl ?_
  refine g_iload_n (i := 2) dd_38_1 rfl ?_
  refine g_iconst dd_38_2 ic_1 ?_
  refine g_virtual (M' := mi_31) (n := 2) (ci := 8) (b := a) (as := [.retAddr m, .retAddr 1]) (st := []) (r1 := (some (.retAddr (am_ag y (3 * m + 1))), (sv36 h W F B))) w_461 w_450 w_451 ⟨lk_31.1, lk_31.2.1, lk_31.2.2, by decide, by decide⟩ rfl (qa _ _ _) rfl (by simp [Value.category]) dd_38_3 (hc _ _ _ _ _ (by omega) (by decide)) ?_
  show am_Good mi_38 6 [some (.ref 36), some (.ref a), some (.retAddr m), none] [.retAddr (am_ag y (3 * m + 1))] (sv36 h W F B) _
  refine g_istore_n (i := 3) dd_38_6 (am_nlb_ok rfl) (by decide) ?_
  exact s36_b3l hH qS qa hc hn hb0 hb1 hb2 hm (am_ag y (3 * m + 2) + 1 - am_ag y (3 * m + 1)) 0 (by omega)
theorem s36_b41 {h : am_H} {W F B : Nat} (hH : sv36_ok h) (qS : am_get h 36 = some (.inr (9, [.ref 37, .ref 38, .ref 39]))) {a b l n y : Nat} (qa : ∀ W F B, am_get (sv36 h W F B) a = some (.inr (8, [.ref b, .retAddr 4, .retAddr l, .retAddr n]))) (hc : ∀ W F B r c, r < n → c < 4 → am_EG mi_31 [.ref a, .retAddr r, .retAddr c] (sv36 h W F B) (some (.retAddr (am_ag y (4 * r + c))), sv36 h W F B)) (hn : n ≤ 6) (hb0 : ∀ i, i < n → am_ag y (4 * i) ≤ 3) (hb1 : ∀ i, i < n → am_ag y (4 * i + 1) ≤ 59) (hb2 : ∀ i, i < n → am_ag y (4 * i + 2) ≤ 59) {r : am_R} {m j : Nat} (hm : m < n) (ht : am_ag y (4 * m + 1) + j ≤ am_ag y (4 * m + 2)) (hg : am_Good mi_38 7 [some (.ref 36), some (.ref a), some (.retAddr m), some (.retAddr (am_ag y (4 * m + 1) + (j + 1)))] [] (sv36 h (am_as W (60 * am_ag y (4 * m + 0) + (am_ag y (4 * m + 1) + j)) 0) (am_as F (60 * am_ag y (4 * m + 0) + (am_ag y (4 * m + 1) + j)) 8) (am_as B (60 * am_ag y (4 * m + 0) + (am_ag y (4 * m + 1) + j)) 1)) r) : am_Good mi_38 7 [some (.ref 36), some (.ref a), some (.retAddr m), some (.retAddr (am_ag y (4 * m + 1) + j))] [] (sv36 h W F B) r := by
  have b0 := hb0 m hm
  have b1 := hb1 m hm
  have b2 := hb2 m hm
  have e0 : am_ag y (4 * m + 0) = am_ag y (4 * m) := rfl
  refine g_iload_n (i := 3) dd_38_7 rfl ?_
  refine g_aload_n (i := 1) dd_38_8 rfl ?_
  refine g_iload_n (i := 2) dd_38_9 rfl ?_
  refine g_iconst dd_38_10 ic_2 ?_
  refine g_virtual (M' := mi_31) (n := 2) (ci := 8) (b := a) (as := [.retAddr m, .retAddr 2]) (st := [.retAddr (am_ag y (4 * m + 1) + j)]) (r1 := (some (.retAddr (am_ag y (4 * m + 2))), (sv36 h W F B))) w_461 w_450 w_451 ⟨lk_31.1, lk_31.2.1, lk_31.2.2, by decide, by decide⟩ rfl (qa _ _ _) rfl (by simp [Value.category]) dd_38_11 (hc _ _ _ _ _ (by omega) (by decide)) ?_
  show am_Good mi_38 14 [some (.ref 36), some (.ref a), some (.retAddr m), some (.retAddr (am_ag y (4 * m + 1) + j))] [.retAddr (am_ag y (4 * m + 2)), .retAddr (am_ag y (4 * m + 1) + j)] (sv36 h W F B) _
  refine g_icmp_gt_f (t := 38) dd_38_14 (by decide) (by first | exact sk_gt_f (by omega) (by omega) | exact tk_gt_f (by omega)) ?_
  refine g_aload_n (i := 0) dd_38_17 rfl ?_
  refine g_aload_n (i := 1) dd_38_18 rfl ?_
  refine g_iload_n (i := 2) dd_38_19 rfl ?_
  refine g_iconst dd_38_20 ic_0 ?_
  refine g_virtual (M' := mi_31) (n := 2) (ci := 8) (b := a) (as := [.retAddr m, .retAddr 0]) (st := [.ref 36]) (r1 := (some (.retAddr (am_ag y (4 * m + 0))), (sv36 h W F B))) w_461 w_450 w_451 ⟨lk_31.1, lk_31.2.1, lk_31.2.2, by decide, by decide⟩ rfl (qa _ _ _) rfl (by simp [Value.category]) dd_38_21 (hc _ _ _ _ _ (by omega) (by decide)) ?_
  show am_Good mi_38 24 [some (.ref 36), some (.ref a), some (.retAddr m), some (.retAddr (am_ag y (4 * m + 1) + j))] [.retAddr (am_ag y (4 * m + 0)), .ref 36] (sv36 h W F B) _
  refine g_iload_n (i := 3) dd_38_24 rfl ?_
  refine g_iconst dd_38_25 ic_0 ?_
  refine g_bipush dd_38_26 bi_8 ?_
  refine g_iconst dd_38_28 ic_1 ?_
  refine g_virtual (M' := mi_34) (n := 5) (ci := 9) (b := 36) (as := [.retAddr (am_ag y (4 * m + 0)), .retAddr (am_ag y (4 * m + 1) + j), .retAddr 0, .retAddr 8, .retAddr 1]) (st := []) (r1 := (none, (sv36 h (am_as W (60 * (am_ag y (4 * m + 0)) + (am_ag y (4 * m + 1) + j)) 0) (am_as F (60 * (am_ag y (4 * m + 0)) + (am_ag y (4 * m + 1) + j)) 8) (am_as B (60 * (am_ag y (4 * m + 0)) + (am_ag y (4 * m + 1) + j)) 1)))) w_462 w_464 ps_34 ⟨lk_34.1, lk_34.2.1, lk_34.2.2, by decide, by decide⟩ rfl ((sv36_o hH rfl).trans qS) rfl (by simp [Value.category]) dd_38_29 (s36_put hH qS (by omega) (by omega)) ?_
  show am_Good mi_38 32 [some (.ref 36), some (.ref a), some (.retAddr m), some (.retAddr (am_ag y (4 * m + 1) + j))] [] (sv36 h (am_as W (60 * (am_ag y (4 * m + 0)) + (am_ag y (4 * m + 1) + j)) 0) (am_as F (60 * (am_ag y (4 * m + 0)) + (am_ag y (4 * m + 1) + j)) 8) (am_as B (60 * (am_ag y (4 * m + 0)) + (am_ag y (4 * m + 1) + j)) 1)) _
  refine e_iinc (v := 1) (w := am_ag y (4 * m + 1) + j + 1) dd_38_32 rfl ic_1 (am_nlb_ok rfl) (by decide) (by omega) ?_
  refine g_goto (t := 7) dd_38_35 (by decide) ?_
  exact hg
theorem s36_b42 {h : am_H} {W F B : Nat} (hH : sv36_ok h) (qS : am_get h 36 = some (.inr (9, [.ref 37, .ref 38, .ref 39]))) {a b l n y : Nat} (qa : ∀ W F B, am_get (sv36 h W F B) a = some (.inr (8, [.ref b, .retAddr 4, .retAddr l, .retAddr n]))) (hc : ∀ W F B r c, r < n → c < 4 → am_EG mi_31 [.ref a, .retAddr r, .retAddr c] (sv36 h W F B) (some (.retAddr (am_ag y (4 * r + c))), sv36 h W F B)) (hn : n ≤ 6) (hb0 : ∀ i, i < n → am_ag y (4 * i) ≤ 3) (hb1 : ∀ i, i < n → am_ag y (4 * i + 1) ≤ 59) (hb2 : ∀ i, i < n → am_ag y (4 * i + 2) ≤ 59) {m j : Nat} (hm : m < n) (hj : j ≤ 60) (ht : am_ag y (4 * m + 2) < am_ag y (4 * m + 1) + j) : am_Good mi_38 7 [some (.ref 36), some (.ref a), some (.retAddr m), some (.retAddr (am_ag y (4 * m + 1) + j))] [] (sv36 h W F B) (none, (sv36 h W F B)) := by
  have b0 := hb0 m hm
  have b1 := hb1 m hm
  have b2 := hb2 m hm
  have e0 : am_ag y (4 * m + 0) = am_ag y (4 * m) := rfl
  refine g_iload_n (i := 3) dd_38_7 rfl ?_
  refine g_aload_n (i := 1) dd_38_8 rfl ?_
  refine g_iload_n (i := 2) dd_38_9 rfl ?_
  refine g_iconst dd_38_10 ic_2 ?_
  refine g_virtual (M' := mi_31) (n := 2) (ci := 8) (b := a) (as := [.retAddr m, .retAddr 2]) (st := [.retAddr (am_ag y (4 * m + 1) + j)]) (r1 := (some (.retAddr (am_ag y (4 * m + 2))), (sv36 h W F B))) w_461 w_450 w_451 ⟨lk_31.1, lk_31.2.1, lk_31.2.2, by decide, by decide⟩ rfl (qa _ _ _) rfl (by simp [Value.category]) dd_38_11 (hc _ _ _ _ _ (by omega) (by decide)) ?_
  show am_Good mi_38 14 [some (.ref 36), some (.ref a), some (.retAddr m), some (.retAddr (am_ag y (4 * m + 1) + j))] [.retAddr (am_ag y (4 * m + 2)), .retAddr (am_ag y (4 * m + 1) + j)] (sv36 h W F B) _
  refine g_icmp_gt_t (t := 38) dd_38_14 (by decide) (by first | exact sk_gt_t (by omega) (by omega) | exact tk_gt_t (by omega)) ?_
  exact g_return rfl dd_38_38
theorem s36_b4l {h : am_H} {W F B : Nat} (hH : sv36_ok h) (qS : am_get h 36 = some (.inr (9, [.ref 37, .ref 38, .ref 39]))) {a b l n y : Nat} (qa : ∀ W F B, am_get (sv36 h W F B) a = some (.inr (8, [.ref b, .retAddr 4, .retAddr l, .retAddr n]))) (hc : ∀ W F B r c, r < n → c < 4 → am_EG mi_31 [.ref a, .retAddr r, .retAddr c] (sv36 h W F B) (some (.retAddr (am_ag y (4 * r + c))), sv36 h W F B)) (hn : n ≤ 6) (hb0 : ∀ i, i < n → am_ag y (4 * i) ≤ 3) (hb1 : ∀ i, i < n → am_ag y (4 * i + 1) ≤ 59) (hb2 : ∀ i, i < n → am_ag y (4 * i + 2) ≤ 59) {m : Nat} (hm : m < n) : ∀ (k j : Nat), j + k = am_ag y (4 * m + 2) + 1 - am_ag y (4 * m + 1) → am_Good mi_38 7 [some (.ref 36), some (.ref a), some (.retAddr m), some (.retAddr (am_ag y (4 * m + 1) + j))] [] (sv36 h (fl W (60 * am_ag y (4 * m) + am_ag y (4 * m + 1)) 0 j) (fl F (60 * am_ag y (4 * m) + am_ag y (4 * m + 1)) 8 j) (fl B (60 * am_ag y (4 * m) + am_ag y (4 * m + 1)) 1 j)) (none, (sv36 h (fl W (60 * am_ag y (4 * m) + am_ag y (4 * m + 1)) 0 (am_ag y (4 * m + 2) + 1 - am_ag y (4 * m + 1))) (fl F (60 * am_ag y (4 * m) + am_ag y (4 * m + 1)) 8 (am_ag y (4 * m + 2) + 1 - am_ag y (4 * m + 1))) (fl B (60 * am_ag y (4 * m) + am_ag y (4 * m + 1)) 1 (am_ag y (4 * m + 2) + 1 - am_ag y (4 * m + 1)))))
  | 0, j, e => by
    have e' : j = am_ag y (4 * m + 2) + 1 - am_ag y (4 * m + 1) := by omega
    have b2 := hb2 m hm
    have b1 := hb1 m hm
    rw [← e']
    exact s36_b42 hH qS qa hc hn hb0 hb1 hb2 hm (by omega) (by omega)
  | k + 1, j, e => by
    have q := s36_b4l (W := W) (F := F) (B := B) hH qS qa hc hn hb0 hb1 hb2 hm k (j + 1) (by omega)
    refine s36_b41 hH qS qa hc hn hb0 hb1 hb2 hm (by omega) ?_
    rw [show 60 * am_ag y (4 * m + 0) + (am_ag y (4 * m + 1) + j) = 60 * am_ag y (4 * m) + am_ag y (4 * m + 1) + j from by show 60 * am_ag y (4 * m) + _ = _; omega]
    exact q
theorem s36_b4 {h : am_H} {W F B : Nat} (hH : sv36_ok h) (qS : am_get h 36 = some (.inr (9, [.ref 37, .ref 38, .ref 39]))) {a b l n y : Nat} (qa : ∀ W F B, am_get (sv36 h W F B) a = some (.inr (8, [.ref b, .retAddr 4, .retAddr l, .retAddr n]))) (hc : ∀ W F B r c, r < n → c < 4 → am_EG mi_31 [.ref a, .retAddr r, .retAddr c] (sv36 h W F B) (some (.retAddr (am_ag y (4 * r + c))), sv36 h W F B)) (hn : n ≤ 6) (hb0 : ∀ i, i < n → am_ag y (4 * i) ≤ 3) (hb1 : ∀ i, i < n → am_ag y (4 * i + 1) ≤ 59) (hb2 : ∀ i, i < n → am_ag y (4 * i + 2) ≤ 59) {m : Nat} (hm : m < n) : am_EG mi_38 [.ref 36, .ref a, .retAddr m] (sv36 h W F B) (none, (sv36 h (fl W (60 * am_ag y (4 * m) + am_ag y (4 * m + 1)) 0 (am_ag y (4 * m + 2) + 1 - am_ag y (4 * m + 1))) (fl F (60 * am_ag y (4 * m) + am_ag y (4 * m + 1)) 8 (am_ag y (4 * m + 2) + 1 - am_ag y (4 * m + 1))) (fl B (60 * am_ag y (4 * m) + am_ag y (4 * m + 1)) 1 (am_ag y (4 * m + 2) + 1 - am_ag y (4 * m + 1))))) := by
  refine am_enter (n := 1) tk_38.2.1 (by simp [Value.category]) (Nat.le_of_ble_eq_true rfl) ?_
  show am_Good mi_38 0 [some (.ref 36), some (.ref a), some (.retAddr m), none] [] (sv36 h W F B) _
  refine g_aload_n (i := 1) dd_38_0 rfl ?_
  refine g_iload_n (i := 2) dd_38_1 rfl ?_
  refine g_iconst dd_38_2 ic_1 ?_
  refine g_virtual (M' := mi_31) (n := 2) (ci := 8) (b := a) (as := [.retAddr m, .retAddr 1]) (st := []) (r1 := (some (.retAddr (am_ag y (4 * m + 1))), (sv36 h W F B))) w_461 w_450 w_451 ⟨lk_31.1, lk_31.2.1, lk_31.2.2, by decide, by decide⟩ rfl (qa _ _ _) rfl (by simp [Value.category]) dd_38_3 (hc _ _ _ _ _ (by omega) (by decide)) ?_
  show am_Good mi_38 6 [some (.ref 36), some (.ref a), some (.retAddr m), none] [.retAddr (am_ag y (4 * m + 1))] (sv36 h W F B) _
  refine g_istore_n (i := 3) dd_38_6 (am_nlb_ok rfl) (by decide) ?_
  exact s36_b4l hH qS qa hc hn hb0 hb1 hb2 hm (am_ag y (4 * m + 2) + 1 - am_ag y (4 * m + 1)) 0 (by omega)
theorem s36_sc1 {h : am_H} {W F B : Nat} (hH : sv36_ok h) (qS : am_get h 36 = some (.inr (9, [.ref 37, .ref 38, .ref 39]))) {a b l n y : Nat} (qa : ∀ W F B, am_get (sv36 h W F B) a = some (.inr (8, [.ref b, .retAddr 5, .retAddr l, .retAddr n]))) (hc : ∀ W F B r c, r < n → c < 5 → am_EG mi_31 [.ref a, .retAddr r, .retAddr c] (sv36 h W F B) (some (.retAddr (am_ag y (5 * r + c))), sv36 h W F B)) (hn : n ≤ 9) (hb0 : ∀ i, i < n → am_ag y (5 * i) ≤ 3) (hb1 : ∀ i, i < n → am_ag y (5 * i + 1) ≤ 59) (hb2 : ∀ i, i < n → am_ag y (5 * i + 2) ≤ 59) {wo : Nat} (hwo : wo < 4294967296) {r : am_R} {m : Nat} (hm : m < n) (hw : m ≠ wo) (hg : am_Good mi_36 2 [some (.ref 36), some (.ref a), some (.retAddr wo), some (.retAddr (m + 1))] [] (sv36 h (fl W (60 * am_ag y (5 * m) + am_ag y (5 * m + 1)) (am_ag y (5 * m + 3)) (am_ag y (5 * m + 2) + 1 - am_ag y (5 * m + 1))) (fl F (60 * am_ag y (5 * m) + am_ag y (5 * m + 1)) (am_ag y (5 * m + 4)) (am_ag y (5 * m + 2) + 1 - am_ag y (5 * m + 1))) (fl B (60 * am_ag y (5 * m) + am_ag y (5 * m + 1)) 0 (am_ag y (5 * m + 2) + 1 - am_ag y (5 * m + 1)))) r) : am_Good mi_36 2 [some (.ref 36), some (.ref a), some (.retAddr wo), some (.retAddr m)] [] (sv36 h W F B) r := by
  refine g_iload_n (i := 3) dd_36_2 rfl ?_
  refine g_aload_n (i := 1) dd_36_3 rfl ?_
  refine g_getfield (k := 3) am_ck8 (by decide) (Or.inr ⟨_, w_63⟩) dd_36_4 (qa _ _ _) rfl ?_
  refine g_icmp_ge_f (t := 27) dd_36_7 (by decide) (by first | exact sk_ge_f (by omega) (by omega) | exact tk_ge_f (by omega)) ?_
  refine g_iload_n (i := 3) dd_36_10 rfl ?_
  refine g_iload_n (i := 2) dd_36_11 rfl ?_
  refine g_icmp_eq_f (t := 21) dd_36_12 (by decide) (tk_eq_f (by omega)) ?_
  refine g_aload_n (i := 0) dd_36_15 rfl ?_
  refine g_aload_n (i := 1) dd_36_16 rfl ?_
  refine g_iload_n (i := 3) dd_36_17 rfl ?_
  refine g_virtual (M' := mi_37) (n := 2) (ci := 9) (b := 36) (as := [.ref a, .retAddr m]) (st := []) (r1 := (none, (sv36 h (fl W (60 * am_ag y (5 * m) + am_ag y (5 * m + 1)) (am_ag y (5 * m + 3)) (am_ag y (5 * m + 2) + 1 - am_ag y (5 * m + 1))) (fl F (60 * am_ag y (5 * m) + am_ag y (5 * m + 1)) (am_ag y (5 * m + 4)) (am_ag y (5 * m + 2) + 1 - am_ag y (5 * m + 1))) (fl B (60 * am_ag y (5 * m) + am_ag y (5 * m + 1)) 0 (am_ag y (5 * m + 2) + 1 - am_ag y (5 * m + 1)))))) w_473 w_475 ps_37 ⟨lk_37.1, lk_37.2.1, lk_37.2.2, by decide, by decide⟩ rfl ((sv36_o hH rfl).trans qS) rfl (by simp [Value.category]) dd_36_18 (s36_m hH qS qa hc hn hb0 hb1 hb2 hm) ?_
  show am_Good mi_36 21 [some (.ref 36), some (.ref a), some (.retAddr wo), some (.retAddr m)] [] (sv36 h (fl W (60 * am_ag y (5 * m) + am_ag y (5 * m + 1)) (am_ag y (5 * m + 3)) (am_ag y (5 * m + 2) + 1 - am_ag y (5 * m + 1))) (fl F (60 * am_ag y (5 * m) + am_ag y (5 * m + 1)) (am_ag y (5 * m + 4)) (am_ag y (5 * m + 2) + 1 - am_ag y (5 * m + 1))) (fl B (60 * am_ag y (5 * m) + am_ag y (5 * m + 1)) 0 (am_ag y (5 * m + 2) + 1 - am_ag y (5 * m + 1)))) _
  refine e_iinc (v := 1) (w := m + 1) dd_36_21 rfl ic_1 (am_nlb_ok rfl) (by decide) (by omega) ?_
  refine g_goto (t := 2) dd_36_24 (by decide) ?_
  exact hg
theorem s36_sc2 {h : am_H} {W F B : Nat} (hH : sv36_ok h) (qS : am_get h 36 = some (.inr (9, [.ref 37, .ref 38, .ref 39]))) {a b l n y : Nat} (qa : ∀ W F B, am_get (sv36 h W F B) a = some (.inr (8, [.ref b, .retAddr 5, .retAddr l, .retAddr n]))) (hc : ∀ W F B r c, r < n → c < 5 → am_EG mi_31 [.ref a, .retAddr r, .retAddr c] (sv36 h W F B) (some (.retAddr (am_ag y (5 * r + c))), sv36 h W F B)) (hn : n ≤ 9) (hb0 : ∀ i, i < n → am_ag y (5 * i) ≤ 3) (hb1 : ∀ i, i < n → am_ag y (5 * i + 1) ≤ 59) (hb2 : ∀ i, i < n → am_ag y (5 * i + 2) ≤ 59) {wo : Nat} (hwo : wo < 4294967296) {r : am_R} {m : Nat} (hm : m < n) (hw : m = wo) (hg : am_Good mi_36 2 [some (.ref 36), some (.ref a), some (.retAddr wo), some (.retAddr (m + 1))] [] (sv36 h W F B) r) : am_Good mi_36 2 [some (.ref 36), some (.ref a), some (.retAddr wo), some (.retAddr m)] [] (sv36 h W F B) r := by
  refine g_iload_n (i := 3) dd_36_2 rfl ?_
  refine g_aload_n (i := 1) dd_36_3 rfl ?_
  refine g_getfield (k := 3) am_ck8 (by decide) (Or.inr ⟨_, w_63⟩) dd_36_4 (qa _ _ _) rfl ?_
  refine g_icmp_ge_f (t := 27) dd_36_7 (by decide) (by first | exact sk_ge_f (by omega) (by omega) | exact tk_ge_f (by omega)) ?_
  refine g_iload_n (i := 3) dd_36_10 rfl ?_
  refine g_iload_n (i := 2) dd_36_11 rfl ?_
  refine g_icmp_eq_t (t := 21) dd_36_12 (by decide) (tk_eq_t (by rw [hw])) ?_
  refine e_iinc (v := 1) (w := m + 1) dd_36_21 rfl ic_1 (am_nlb_ok rfl) (by decide) (by omega) ?_
  refine g_goto (t := 2) dd_36_24 (by decide) ?_
  exact hg
theorem s36_sc3 {h : am_H} {W F B : Nat} (hH : sv36_ok h) (qS : am_get h 36 = some (.inr (9, [.ref 37, .ref 38, .ref 39]))) {a b l n y : Nat} (qa : ∀ W F B, am_get (sv36 h W F B) a = some (.inr (8, [.ref b, .retAddr 5, .retAddr l, .retAddr n]))) (hc : ∀ W F B r c, r < n → c < 5 → am_EG mi_31 [.ref a, .retAddr r, .retAddr c] (sv36 h W F B) (some (.retAddr (am_ag y (5 * r + c))), sv36 h W F B)) (hn : n ≤ 9) (hb0 : ∀ i, i < n → am_ag y (5 * i) ≤ 3) (hb1 : ∀ i, i < n → am_ag y (5 * i + 1) ≤ 59) (hb2 : ∀ i, i < n → am_ag y (5 * i + 2) ≤ 59) {wo : Nat} (hwo : wo < 4294967296) : am_Good mi_36 2 [some (.ref 36), some (.ref a), some (.retAddr wo), some (.retAddr n)] [] (sv36 h W F B) (none, (sv36 h W F B)) := by
  refine g_iload_n (i := 3) dd_36_2 rfl ?_
  refine g_aload_n (i := 1) dd_36_3 rfl ?_
  refine g_getfield (k := 3) am_ck8 (by decide) (Or.inr ⟨_, w_63⟩) dd_36_4 (qa _ _ _) rfl ?_
  refine g_icmp_ge_t (t := 27) dd_36_7 (by decide) (by first | exact sk_ge_t (by omega) (by omega) | exact tk_ge_t (by omega)) ?_
  exact g_return rfl dd_36_27
theorem s36_scl {h : am_H} {W F B : Nat} (hH : sv36_ok h) (qS : am_get h 36 = some (.inr (9, [.ref 37, .ref 38, .ref 39]))) {a b l n y : Nat} (qa : ∀ W F B, am_get (sv36 h W F B) a = some (.inr (8, [.ref b, .retAddr 5, .retAddr l, .retAddr n]))) (hc : ∀ W F B r c, r < n → c < 5 → am_EG mi_31 [.ref a, .retAddr r, .retAddr c] (sv36 h W F B) (some (.retAddr (am_ag y (5 * r + c))), sv36 h W F B)) (hn : n ≤ 9) (hb0 : ∀ i, i < n → am_ag y (5 * i) ≤ 3) (hb1 : ∀ i, i < n → am_ag y (5 * i + 1) ≤ 59) (hb2 : ∀ i, i < n → am_ag y (5 * i + 2) ≤ 59) {wo : Nat} (hwo : wo < 4294967296) : ∀ (k m : Nat), m + k = n → am_Good mi_36 2 [some (.ref 36), some (.ref a), some (.retAddr wo), some (.retAddr m)] [] (sv36 h (sw 60 y 5 (sc_ne wo) (fun n => am_ag y (5 * n + 3)) W m) (sw 60 y 5 (sc_ne wo) (fun n => am_ag y (5 * n + 4)) F m) (sw 60 y 5 (sc_ne wo) (fun _ => 0) B m)) (none, (sv36 h (sw 60 y 5 (sc_ne wo) (fun n => am_ag y (5 * n + 3)) W n) (sw 60 y 5 (sc_ne wo) (fun n => am_ag y (5 * n + 4)) F n) (sw 60 y 5 (sc_ne wo) (fun _ => 0) B n)))
  | 0, m, e => by
    have e' : m = n := by omega
    subst e'
    exact s36_sc3 hH qS qa hc hn hb0 hb1 hb2 hwo
  | k + 1, m, e => by
    have q := s36_scl (W := W) (F := F) (B := B) hH qS qa hc hn hb0 hb1 hb2 hwo k (m + 1) (by omega)
    by_cases hw : m = wo
    · have hne : ¬ sc_ne wo m = true := by
        unfold sc_ne
        rw [hw, Nat.beq_refl]
        decide
      have s3 : ∀ (v : Nat → Nat) (x : Nat), sw 60 y 5 (sc_ne wo) v x (m + 1) = sw 60 y 5 (sc_ne wo) v x m := fun v x => if_neg hne
      rw [s3, s3, s3] at q
      exact s36_sc2 hH qS qa hc hn hb0 hb1 hb2 hwo (by omega) hw q
    · have hne : sc_ne wo m = true := by
        unfold sc_ne
        cases hb : Nat.beq m wo
        · rfl
        · exact absurd (Nat.eq_of_beq_eq_true hb) hw
      have s3 : ∀ (v : Nat → Nat) (x : Nat), sw 60 y 5 (sc_ne wo) v x (m + 1) = fl (sw 60 y 5 (sc_ne wo) v x m) (60 * am_ag y (5 * m) + am_ag y (5 * m + 1)) (v m) (am_ag y (5 * m + 2) + 1 - am_ag y (5 * m + 1)) := fun v x => if_pos hne
      rw [s3, s3, s3] at q
      exact s36_sc1 hH qS qa hc hn hb0 hb1 hb2 hwo (by omega) hw q
theorem s36_sc {h : am_H} {W F B : Nat} (hH : sv36_ok h) (qS : am_get h 36 = some (.inr (9, [.ref 37, .ref 38, .ref 39]))) {a b l n y : Nat} (qa : ∀ W F B, am_get (sv36 h W F B) a = some (.inr (8, [.ref b, .retAddr 5, .retAddr l, .retAddr n]))) (hc : ∀ W F B r c, r < n → c < 5 → am_EG mi_31 [.ref a, .retAddr r, .retAddr c] (sv36 h W F B) (some (.retAddr (am_ag y (5 * r + c))), sv36 h W F B)) (hn : n ≤ 9) (hb0 : ∀ i, i < n → am_ag y (5 * i) ≤ 3) (hb1 : ∀ i, i < n → am_ag y (5 * i + 1) ≤ 59) (hb2 : ∀ i, i < n → am_ag y (5 * i + 2) ≤ 59) {wo : Nat} (hwo : wo < 4294967296) : am_EG mi_36 [.ref 36, .ref a, .retAddr wo] (sv36 h W F B) (none, (sv36 h (sw 60 y 5 (sc_ne wo) (fun n => am_ag y (5 * n + 3)) W n) (sw 60 y 5 (sc_ne wo) (fun n => am_ag y (5 * n + 4)) F n) (sw 60 y 5 (sc_ne wo) (fun _ => 0) B n))) := by
  refine am_enter (n := 1) tk_36.2.1 (by simp [Value.category]) (Nat.le_of_ble_eq_true rfl) ?_
  show am_Good mi_36 0 [some (.ref 36), some (.ref a), some (.retAddr wo), none] [] (sv36 h W F B) _
  refine g_iconst dd_36_0 ic_0 ?_
  refine g_istore_n (i := 3) dd_36_1 (am_nlb_ok rfl) (by decide) ?_
  exact s36_scl hH qS qa hc hn hb0 hb1 hb2 hwo n 0 (by omega)
theorem s36_h2y {h : am_H} {W F B : Nat} (hH : sv36_ok h) (qS : am_get h 36 = some (.inr (9, [.ref 37, .ref 38, .ref 39]))) {E a0 a1 a2 a3 a4 a5 d0 d1 d2 d3 l0 l1 l2 l3 mi go : Nat} {Z R : Nat → Nat} (qE : ∀ W F B, am_get (sv36 h W F B) E = some (.inr (1, [.ref a0, .ref a1, .ref a2, .ref a3, .ref a4, .ref a5, .retAddr mi, .retAddr go]))) (q0 : ∀ W F B, am_get (sv36 h W F B) a0 = some (.inr (8, [.ref d0, .retAddr 1, .retAddr l0, .retAddr (Z 0)]))) (q1 : ∀ W F B, am_get (sv36 h W F B) a1 = some (.inr (8, [.ref d1, .retAddr 5, .retAddr l1, .retAddr (Z 1)]))) (q2 : ∀ W F B, am_get (sv36 h W F B) a2 = some (.inr (8, [.ref d2, .retAddr 3, .retAddr l2, .retAddr (Z 2)]))) (q3 : ∀ W F B, am_get (sv36 h W F B) a3 = some (.inr (8, [.ref d3, .retAddr 4, .retAddr l3, .retAddr (Z 3)]))) (c0 : ∀ W F B r c, r < Z 0 → c < 1 → am_EG mi_31 [.ref a0, .retAddr r, .retAddr c] (sv36 h W F B) (some (.retAddr (am_ag (R 0) (1 * r + c))), sv36 h W F B)) (c1 : ∀ W F B r c, r < Z 1 → c < 5 → am_EG mi_31 [.ref a1, .retAddr r, .retAddr c] (sv36 h W F B) (some (.retAddr (am_ag (R 1) (5 * r + c))), sv36 h W F B)) (c2 : ∀ W F B r c, r < Z 2 → c < 3 → am_EG mi_31 [.ref a2, .retAddr r, .retAddr c] (sv36 h W F B) (some (.retAddr (am_ag (R 2) (3 * r + c))), sv36 h W F B)) (c3 : ∀ W F B r c, r < Z 3 → c < 4 → am_EG mi_31 [.ref a3, .retAddr r, .retAddr c] (sv36 h W F B) (some (.retAddr (am_ag (R 3) (4 * r + c))), sv36 h W F B)) (z0 : Z 0 ≤ 4) (z1 : Z 1 ≤ 9) (z2 : Z 2 ≤ 6) (z3 : Z 3 ≤ 6) (hb10 : ∀ i, i < Z 1 → am_ag (R 1) (5 * i) ≤ 3) (hb11 : ∀ i, i < Z 1 → am_ag (R 1) (5 * i + 1) ≤ 59) (hb12 : ∀ i, i < Z 1 → am_ag (R 1) (5 * i + 2) ≤ 59) (hb20 : ∀ i, i < Z 2 → am_ag (R 2) (3 * i) ≤ 3) (hb21 : ∀ i, i < Z 2 → am_ag (R 2) (3 * i + 1) ≤ 59) (hb22 : ∀ i, i < Z 2 → am_ag (R 2) (3 * i + 2) ≤ 59) (hb30 : ∀ i, i < Z 3 → am_ag (R 3) (4 * i) ≤ 3) (hb31 : ∀ i, i < Z 3 → am_ag (R 3) (4 * i + 1) ≤ 59) (hb32 : ∀ i, i < Z 3 → am_ag (R 3) (4 * i + 2) ≤ 59) {come wo : Nat} (hco : come < 65536) (hwo : wo < 4294967296) {r : am_R} {i : Nat} (hi : i < Z 2) (hg : am_Good mi_32 20 [some (.ref 36), some (.ref E), some (.retAddr come), some (.retAddr wo), some (.retAddr (i + 1))] [] (sv36 h (fl W (60 * am_ag (R 2) (3 * i) + am_ag (R 2) (3 * i + 1)) 0 (am_ag (R 2) (3 * i + 2) + 1 - am_ag (R 2) (3 * i + 1))) (fl F (60 * am_ag (R 2) (3 * i) + am_ag (R 2) (3 * i + 1)) 8 (am_ag (R 2) (3 * i + 2) + 1 - am_ag (R 2) (3 * i + 1))) (fl B (60 * am_ag (R 2) (3 * i) + am_ag (R 2) (3 * i + 1)) 1 (am_ag (R 2) (3 * i + 2) + 1 - am_ag (R 2) (3 * i + 1)))) r) : am_Good mi_32 20 [some (.ref 36), some (.ref E), some (.retAddr come), some (.retAddr wo), some (.retAddr i)] [] (sv36 h W F B) r := by
  refine g_iload dd_32_20 rfl ?_
  refine g_aload_n (i := 1) dd_32_22 rfl ?_
  refine g_getfield (k := 2) am_ck1 (by decide) (Or.inr ⟨_, w_91⟩) dd_32_23 (qE _ _ _) rfl ?_
  refine g_getfield (k := 3) am_ck8 (by decide) (Or.inr ⟨_, w_63⟩) dd_32_26 (q2 _ _ _) rfl ?_
  refine g_icmp_ge_f (t := 48) dd_32_29 (by decide) (by first | exact sk_ge_f (by omega) (by omega) | exact tk_ge_f (by omega)) ?_
  refine g_aload_n (i := 0) dd_32_32 rfl ?_
  refine g_aload_n (i := 1) dd_32_33 rfl ?_
  refine g_getfield (k := 2) am_ck1 (by decide) (Or.inr ⟨_, w_91⟩) dd_32_34 (qE _ _ _) rfl ?_
  refine g_iload dd_32_37 rfl ?_
  refine g_virtual (M' := mi_38) (n := 2) (ci := 9) (b := 36) (as := [.ref a2, .retAddr i]) (st := []) (r1 := (none, (sv36 h (fl W (60 * am_ag (R 2) (3 * i) + am_ag (R 2) (3 * i + 1)) 0 (am_ag (R 2) (3 * i + 2) + 1 - am_ag (R 2) (3 * i + 1))) (fl F (60 * am_ag (R 2) (3 * i) + am_ag (R 2) (3 * i + 1)) 8 (am_ag (R 2) (3 * i + 2) + 1 - am_ag (R 2) (3 * i + 1))) (fl B (60 * am_ag (R 2) (3 * i) + am_ag (R 2) (3 * i + 1)) 1 (am_ag (R 2) (3 * i + 2) + 1 - am_ag (R 2) (3 * i + 1)))))) w_477 w_479 ps_38 ⟨lk_38.1, lk_38.2.1, lk_38.2.2, by decide, by decide⟩ rfl ((sv36_o hH rfl).trans qS) rfl (by simp [Value.category]) dd_32_39 (s36_b3 hH qS q2 c2 z2 hb20 hb21 hb22 hi) ?_
  show am_Good mi_32 42 [some (.ref 36), some (.ref E), some (.retAddr come), some (.retAddr wo), some (.retAddr i)] [] (sv36 h (fl W (60 * am_ag (R 2) (3 * i) + am_ag (R 2) (3 * i + 1)) 0 (am_ag (R 2) (3 * i + 2) + 1 - am_ag (R 2) (3 * i + 1))) (fl F (60 * am_ag (R 2) (3 * i) + am_ag (R 2) (3 * i + 1)) 8 (am_ag (R 2) (3 * i + 2) + 1 - am_ag (R 2) (3 * i + 1))) (fl B (60 * am_ag (R 2) (3 * i) + am_ag (R 2) (3 * i + 1)) 1 (am_ag (R 2) (3 * i + 2) + 1 - am_ag (R 2) (3 * i + 1)))) _
  refine e_iinc (v := 1) (w := i + 1) dd_32_42 rfl ic_1 (am_nlb_ok rfl) (by decide) (by omega) ?_
  refine g_goto (t := 20) dd_32_45 (by decide) ?_
  exact hg
theorem s36_h3y {h : am_H} {W F B : Nat} (hH : sv36_ok h) (qS : am_get h 36 = some (.inr (9, [.ref 37, .ref 38, .ref 39]))) {E a0 a1 a2 a3 a4 a5 d0 d1 d2 d3 l0 l1 l2 l3 mi go : Nat} {Z R : Nat → Nat} (qE : ∀ W F B, am_get (sv36 h W F B) E = some (.inr (1, [.ref a0, .ref a1, .ref a2, .ref a3, .ref a4, .ref a5, .retAddr mi, .retAddr go]))) (q0 : ∀ W F B, am_get (sv36 h W F B) a0 = some (.inr (8, [.ref d0, .retAddr 1, .retAddr l0, .retAddr (Z 0)]))) (q1 : ∀ W F B, am_get (sv36 h W F B) a1 = some (.inr (8, [.ref d1, .retAddr 5, .retAddr l1, .retAddr (Z 1)]))) (q2 : ∀ W F B, am_get (sv36 h W F B) a2 = some (.inr (8, [.ref d2, .retAddr 3, .retAddr l2, .retAddr (Z 2)]))) (q3 : ∀ W F B, am_get (sv36 h W F B) a3 = some (.inr (8, [.ref d3, .retAddr 4, .retAddr l3, .retAddr (Z 3)]))) (c0 : ∀ W F B r c, r < Z 0 → c < 1 → am_EG mi_31 [.ref a0, .retAddr r, .retAddr c] (sv36 h W F B) (some (.retAddr (am_ag (R 0) (1 * r + c))), sv36 h W F B)) (c1 : ∀ W F B r c, r < Z 1 → c < 5 → am_EG mi_31 [.ref a1, .retAddr r, .retAddr c] (sv36 h W F B) (some (.retAddr (am_ag (R 1) (5 * r + c))), sv36 h W F B)) (c2 : ∀ W F B r c, r < Z 2 → c < 3 → am_EG mi_31 [.ref a2, .retAddr r, .retAddr c] (sv36 h W F B) (some (.retAddr (am_ag (R 2) (3 * r + c))), sv36 h W F B)) (c3 : ∀ W F B r c, r < Z 3 → c < 4 → am_EG mi_31 [.ref a3, .retAddr r, .retAddr c] (sv36 h W F B) (some (.retAddr (am_ag (R 3) (4 * r + c))), sv36 h W F B)) (z0 : Z 0 ≤ 4) (z1 : Z 1 ≤ 9) (z2 : Z 2 ≤ 6) (z3 : Z 3 ≤ 6) (hb10 : ∀ i, i < Z 1 → am_ag (R 1) (5 * i) ≤ 3) (hb11 : ∀ i, i < Z 1 → am_ag (R 1) (5 * i + 1) ≤ 59) (hb12 : ∀ i, i < Z 1 → am_ag (R 1) (5 * i + 2) ≤ 59) (hb20 : ∀ i, i < Z 2 → am_ag (R 2) (3 * i) ≤ 3) (hb21 : ∀ i, i < Z 2 → am_ag (R 2) (3 * i + 1) ≤ 59) (hb22 : ∀ i, i < Z 2 → am_ag (R 2) (3 * i + 2) ≤ 59) (hb30 : ∀ i, i < Z 3 → am_ag (R 3) (4 * i) ≤ 3) (hb31 : ∀ i, i < Z 3 → am_ag (R 3) (4 * i + 1) ≤ 59) (hb32 : ∀ i, i < Z 3 → am_ag (R 3) (4 * i + 2) ≤ 59) {come wo : Nat} (hco : come < 65536) (hwo : wo < 4294967296) {r : am_R} {i : Nat} (hi : i < Z 3) (hon : come.testBit i = true) (hg : am_Good mi_32 51 [some (.ref 36), some (.ref E), some (.retAddr come), some (.retAddr wo), some (.retAddr (i + 1))] [] (sv36 h (fl W (60 * am_ag (R 3) (4 * i) + am_ag (R 3) (4 * i + 1)) 0 (am_ag (R 3) (4 * i + 2) + 1 - am_ag (R 3) (4 * i + 1))) (fl F (60 * am_ag (R 3) (4 * i) + am_ag (R 3) (4 * i + 1)) 8 (am_ag (R 3) (4 * i + 2) + 1 - am_ag (R 3) (4 * i + 1))) (fl B (60 * am_ag (R 3) (4 * i) + am_ag (R 3) (4 * i + 1)) 1 (am_ag (R 3) (4 * i + 2) + 1 - am_ag (R 3) (4 * i + 1)))) r) : am_Good mi_32 51 [some (.ref 36), some (.ref E), some (.retAddr come), some (.retAddr wo), some (.retAddr i)] [] (sv36 h W F B) r := by
  refine g_iload dd_32_51 rfl ?_
  refine g_aload_n (i := 1) dd_32_53 rfl ?_
  refine g_getfield (k := 3) am_ck1 (by decide) (Or.inr ⟨_, w_95⟩) dd_32_54 (qE _ _ _) rfl ?_
  refine g_getfield (k := 3) am_ck8 (by decide) (Or.inr ⟨_, w_63⟩) dd_32_57 (q3 _ _ _) rfl ?_
  refine g_icmp_ge_f (t := 88) dd_32_60 (by decide) (by first | exact sk_ge_f (by omega) (by omega) | exact tk_ge_f (by omega)) ?_
  refine g_iload_n (i := 2) dd_32_63 rfl ?_
  refine g_iload dd_32_64 rfl ?_
  refine e_ishr (v := come >>> i) dd_32_66 ⟨by omega, by rw [Nat.mod_eq_of_lt (show i < 32 by omega)]⟩ ?_
  refine g_iconst dd_32_67 ic_1 ?_
  refine e_iand (v := 1) dd_32_68 (by rw [hs_b, if_pos hon]) ?_
  refine g_if_eq_f (t := 82) dd_32_69 (by decide) (by decide) ?_
  refine g_aload_n (i := 0) dd_32_72 rfl ?_
  refine g_aload_n (i := 1) dd_32_73 rfl ?_
  refine g_getfield (k := 3) am_ck1 (by decide) (Or.inr ⟨_, w_95⟩) dd_32_74 (qE _ _ _) rfl ?_
  refine g_iload dd_32_77 rfl ?_
  refine g_virtual (M' := mi_38) (n := 2) (ci := 9) (b := 36) (as := [.ref a3, .retAddr i]) (st := []) (r1 := (none, (sv36 h (fl W (60 * am_ag (R 3) (4 * i) + am_ag (R 3) (4 * i + 1)) 0 (am_ag (R 3) (4 * i + 2) + 1 - am_ag (R 3) (4 * i + 1))) (fl F (60 * am_ag (R 3) (4 * i) + am_ag (R 3) (4 * i + 1)) 8 (am_ag (R 3) (4 * i + 2) + 1 - am_ag (R 3) (4 * i + 1))) (fl B (60 * am_ag (R 3) (4 * i) + am_ag (R 3) (4 * i + 1)) 1 (am_ag (R 3) (4 * i + 2) + 1 - am_ag (R 3) (4 * i + 1)))))) w_477 w_479 ps_38 ⟨lk_38.1, lk_38.2.1, lk_38.2.2, by decide, by decide⟩ rfl ((sv36_o hH rfl).trans qS) rfl (by simp [Value.category]) dd_32_79 (s36_b4 hH qS q3 c3 z3 hb30 hb31 hb32 hi) ?_
  show am_Good mi_32 82 [some (.ref 36), some (.ref E), some (.retAddr come), some (.retAddr wo), some (.retAddr i)] [] (sv36 h (fl W (60 * am_ag (R 3) (4 * i) + am_ag (R 3) (4 * i + 1)) 0 (am_ag (R 3) (4 * i + 2) + 1 - am_ag (R 3) (4 * i + 1))) (fl F (60 * am_ag (R 3) (4 * i) + am_ag (R 3) (4 * i + 1)) 8 (am_ag (R 3) (4 * i + 2) + 1 - am_ag (R 3) (4 * i + 1))) (fl B (60 * am_ag (R 3) (4 * i) + am_ag (R 3) (4 * i + 1)) 1 (am_ag (R 3) (4 * i + 2) + 1 - am_ag (R 3) (4 * i + 1)))) _
  refine e_iinc (v := 1) (w := i + 1) dd_32_82 rfl ic_1 (am_nlb_ok rfl) (by decide) (by omega) ?_
  refine g_goto (t := 51) dd_32_85 (by decide) ?_
  exact hg
theorem s36_h3n {h : am_H} {W F B : Nat} (hH : sv36_ok h) (qS : am_get h 36 = some (.inr (9, [.ref 37, .ref 38, .ref 39]))) {E a0 a1 a2 a3 a4 a5 d0 d1 d2 d3 l0 l1 l2 l3 mi go : Nat} {Z R : Nat → Nat} (qE : ∀ W F B, am_get (sv36 h W F B) E = some (.inr (1, [.ref a0, .ref a1, .ref a2, .ref a3, .ref a4, .ref a5, .retAddr mi, .retAddr go]))) (q0 : ∀ W F B, am_get (sv36 h W F B) a0 = some (.inr (8, [.ref d0, .retAddr 1, .retAddr l0, .retAddr (Z 0)]))) (q1 : ∀ W F B, am_get (sv36 h W F B) a1 = some (.inr (8, [.ref d1, .retAddr 5, .retAddr l1, .retAddr (Z 1)]))) (q2 : ∀ W F B, am_get (sv36 h W F B) a2 = some (.inr (8, [.ref d2, .retAddr 3, .retAddr l2, .retAddr (Z 2)]))) (q3 : ∀ W F B, am_get (sv36 h W F B) a3 = some (.inr (8, [.ref d3, .retAddr 4, .retAddr l3, .retAddr (Z 3)]))) (c0 : ∀ W F B r c, r < Z 0 → c < 1 → am_EG mi_31 [.ref a0, .retAddr r, .retAddr c] (sv36 h W F B) (some (.retAddr (am_ag (R 0) (1 * r + c))), sv36 h W F B)) (c1 : ∀ W F B r c, r < Z 1 → c < 5 → am_EG mi_31 [.ref a1, .retAddr r, .retAddr c] (sv36 h W F B) (some (.retAddr (am_ag (R 1) (5 * r + c))), sv36 h W F B)) (c2 : ∀ W F B r c, r < Z 2 → c < 3 → am_EG mi_31 [.ref a2, .retAddr r, .retAddr c] (sv36 h W F B) (some (.retAddr (am_ag (R 2) (3 * r + c))), sv36 h W F B)) (c3 : ∀ W F B r c, r < Z 3 → c < 4 → am_EG mi_31 [.ref a3, .retAddr r, .retAddr c] (sv36 h W F B) (some (.retAddr (am_ag (R 3) (4 * r + c))), sv36 h W F B)) (z0 : Z 0 ≤ 4) (z1 : Z 1 ≤ 9) (z2 : Z 2 ≤ 6) (z3 : Z 3 ≤ 6) (hb10 : ∀ i, i < Z 1 → am_ag (R 1) (5 * i) ≤ 3) (hb11 : ∀ i, i < Z 1 → am_ag (R 1) (5 * i + 1) ≤ 59) (hb12 : ∀ i, i < Z 1 → am_ag (R 1) (5 * i + 2) ≤ 59) (hb20 : ∀ i, i < Z 2 → am_ag (R 2) (3 * i) ≤ 3) (hb21 : ∀ i, i < Z 2 → am_ag (R 2) (3 * i + 1) ≤ 59) (hb22 : ∀ i, i < Z 2 → am_ag (R 2) (3 * i + 2) ≤ 59) (hb30 : ∀ i, i < Z 3 → am_ag (R 3) (4 * i) ≤ 3) (hb31 : ∀ i, i < Z 3 → am_ag (R 3) (4 * i + 1) ≤ 59) (hb32 : ∀ i, i < Z 3 → am_ag (R 3) (4 * i + 2) ≤ 59) {come wo : Nat} (hco : come < 65536) (hwo : wo < 4294967296) {r : am_R} {i : Nat} (hi : i < Z 3) (hon : ¬ come.testBit i = true) (hg : am_Good mi_32 51 [some (.ref 36), some (.ref E), some (.retAddr come), some (.retAddr wo), some (.retAddr (i + 1))] [] (sv36 h W F B) r) : am_Good mi_32 51 [some (.ref 36), some (.ref E), some (.retAddr come), some (.retAddr wo), some (.retAddr i)] [] (sv36 h W F B) r := by
  refine g_iload dd_32_51 rfl ?_
  refine g_aload_n (i := 1) dd_32_53 rfl ?_
  refine g_getfield (k := 3) am_ck1 (by decide) (Or.inr ⟨_, w_95⟩) dd_32_54 (qE _ _ _) rfl ?_
  refine g_getfield (k := 3) am_ck8 (by decide) (Or.inr ⟨_, w_63⟩) dd_32_57 (q3 _ _ _) rfl ?_
  refine g_icmp_ge_f (t := 88) dd_32_60 (by decide) (by first | exact sk_ge_f (by omega) (by omega) | exact tk_ge_f (by omega)) ?_
  refine g_iload_n (i := 2) dd_32_63 rfl ?_
  refine g_iload dd_32_64 rfl ?_
  refine e_ishr (v := come >>> i) dd_32_66 ⟨by omega, by rw [Nat.mod_eq_of_lt (show i < 32 by omega)]⟩ ?_
  refine g_iconst dd_32_67 ic_1 ?_
  refine e_iand (v := 0) dd_32_68 (by rw [hs_b, if_neg hon]) ?_
  refine g_if_eq_t (t := 82) dd_32_69 (by decide) (by decide) ?_
  refine e_iinc (v := 1) (w := i + 1) dd_32_82 rfl ic_1 (am_nlb_ok rfl) (by decide) (by omega) ?_
  refine g_goto (t := 51) dd_32_85 (by decide) ?_
  exact hg
theorem s36_h2e {h : am_H} {W F B : Nat} (hH : sv36_ok h) (qS : am_get h 36 = some (.inr (9, [.ref 37, .ref 38, .ref 39]))) {E a0 a1 a2 a3 a4 a5 d0 d1 d2 d3 l0 l1 l2 l3 mi go : Nat} {Z R : Nat → Nat} (qE : ∀ W F B, am_get (sv36 h W F B) E = some (.inr (1, [.ref a0, .ref a1, .ref a2, .ref a3, .ref a4, .ref a5, .retAddr mi, .retAddr go]))) (q0 : ∀ W F B, am_get (sv36 h W F B) a0 = some (.inr (8, [.ref d0, .retAddr 1, .retAddr l0, .retAddr (Z 0)]))) (q1 : ∀ W F B, am_get (sv36 h W F B) a1 = some (.inr (8, [.ref d1, .retAddr 5, .retAddr l1, .retAddr (Z 1)]))) (q2 : ∀ W F B, am_get (sv36 h W F B) a2 = some (.inr (8, [.ref d2, .retAddr 3, .retAddr l2, .retAddr (Z 2)]))) (q3 : ∀ W F B, am_get (sv36 h W F B) a3 = some (.inr (8, [.ref d3, .retAddr 4, .retAddr l3, .retAddr (Z 3)]))) (c0 : ∀ W F B r c, r < Z 0 → c < 1 → am_EG mi_31 [.ref a0, .retAddr r, .retAddr c] (sv36 h W F B) (some (.retAddr (am_ag (R 0) (1 * r + c))), sv36 h W F B)) (c1 : ∀ W F B r c, r < Z 1 → c < 5 → am_EG mi_31 [.ref a1, .retAddr r, .retAddr c] (sv36 h W F B) (some (.retAddr (am_ag (R 1) (5 * r + c))), sv36 h W F B)) (c2 : ∀ W F B r c, r < Z 2 → c < 3 → am_EG mi_31 [.ref a2, .retAddr r, .retAddr c] (sv36 h W F B) (some (.retAddr (am_ag (R 2) (3 * r + c))), sv36 h W F B)) (c3 : ∀ W F B r c, r < Z 3 → c < 4 → am_EG mi_31 [.ref a3, .retAddr r, .retAddr c] (sv36 h W F B) (some (.retAddr (am_ag (R 3) (4 * r + c))), sv36 h W F B)) (z0 : Z 0 ≤ 4) (z1 : Z 1 ≤ 9) (z2 : Z 2 ≤ 6) (z3 : Z 3 ≤ 6) (hb10 : ∀ i, i < Z 1 → am_ag (R 1) (5 * i) ≤ 3) (hb11 : ∀ i, i < Z 1 → am_ag (R 1) (5 * i + 1) ≤ 59) (hb12 : ∀ i, i < Z 1 → am_ag (R 1) (5 * i + 2) ≤ 59) (hb20 : ∀ i, i < Z 2 → am_ag (R 2) (3 * i) ≤ 3) (hb21 : ∀ i, i < Z 2 → am_ag (R 2) (3 * i + 1) ≤ 59) (hb22 : ∀ i, i < Z 2 → am_ag (R 2) (3 * i + 2) ≤ 59) (hb30 : ∀ i, i < Z 3 → am_ag (R 3) (4 * i) ≤ 3) (hb31 : ∀ i, i < Z 3 → am_ag (R 3) (4 * i + 1) ≤ 59) (hb32 : ∀ i, i < Z 3 → am_ag (R 3) (4 * i + 2) ≤ 59) {come wo : Nat} (hco : come < 65536) (hwo : wo < 4294967296) {r : am_R} (hg : am_Good mi_32 51 [some (.ref 36), some (.ref E), some (.retAddr come), some (.retAddr wo), some (.retAddr 0)] [] (sv36 h W F B) r) : am_Good mi_32 20 [some (.ref 36), some (.ref E), some (.retAddr come), some (.retAddr wo), some (.retAddr (Z 2))] [] (sv36 h W F B) r := by
  refine g_iload dd_32_20 rfl ?_
  refine g_aload_n (i := 1) dd_32_22 rfl ?_
  refine g_getfield (k := 2) am_ck1 (by decide) (Or.inr ⟨_, w_91⟩) dd_32_23 (qE _ _ _) rfl ?_
  refine g_getfield (k := 3) am_ck8 (by decide) (Or.inr ⟨_, w_63⟩) dd_32_26 (q2 _ _ _) rfl ?_
  refine g_icmp_ge_t (t := 48) dd_32_29 (by decide) (by first | exact sk_ge_t (by omega) (by omega) | exact tk_ge_t (by omega)) ?_
  refine g_iconst dd_32_48 ic_0 ?_
  refine g_istore dd_32_49 (am_nlb_ok rfl) (by decide) ?_
  exact hg
theorem s36_h3e {h : am_H} {W F B : Nat} (hH : sv36_ok h) (qS : am_get h 36 = some (.inr (9, [.ref 37, .ref 38, .ref 39]))) {E a0 a1 a2 a3 a4 a5 d0 d1 d2 d3 l0 l1 l2 l3 mi go : Nat} {Z R : Nat → Nat} (qE : ∀ W F B, am_get (sv36 h W F B) E = some (.inr (1, [.ref a0, .ref a1, .ref a2, .ref a3, .ref a4, .ref a5, .retAddr mi, .retAddr go]))) (q0 : ∀ W F B, am_get (sv36 h W F B) a0 = some (.inr (8, [.ref d0, .retAddr 1, .retAddr l0, .retAddr (Z 0)]))) (q1 : ∀ W F B, am_get (sv36 h W F B) a1 = some (.inr (8, [.ref d1, .retAddr 5, .retAddr l1, .retAddr (Z 1)]))) (q2 : ∀ W F B, am_get (sv36 h W F B) a2 = some (.inr (8, [.ref d2, .retAddr 3, .retAddr l2, .retAddr (Z 2)]))) (q3 : ∀ W F B, am_get (sv36 h W F B) a3 = some (.inr (8, [.ref d3, .retAddr 4, .retAddr l3, .retAddr (Z 3)]))) (c0 : ∀ W F B r c, r < Z 0 → c < 1 → am_EG mi_31 [.ref a0, .retAddr r, .retAddr c] (sv36 h W F B) (some (.retAddr (am_ag (R 0) (1 * r + c))), sv36 h W F B)) (c1 : ∀ W F B r c, r < Z 1 → c < 5 → am_EG mi_31 [.ref a1, .retAddr r, .retAddr c] (sv36 h W F B) (some (.retAddr (am_ag (R 1) (5 * r + c))), sv36 h W F B)) (c2 : ∀ W F B r c, r < Z 2 → c < 3 → am_EG mi_31 [.ref a2, .retAddr r, .retAddr c] (sv36 h W F B) (some (.retAddr (am_ag (R 2) (3 * r + c))), sv36 h W F B)) (c3 : ∀ W F B r c, r < Z 3 → c < 4 → am_EG mi_31 [.ref a3, .retAddr r, .retAddr c] (sv36 h W F B) (some (.retAddr (am_ag (R 3) (4 * r + c))), sv36 h W F B)) (z0 : Z 0 ≤ 4) (z1 : Z 1 ≤ 9) (z2 : Z 2 ≤ 6) (z3 : Z 3 ≤ 6) (hb10 : ∀ i, i < Z 1 → am_ag (R 1) (5 * i) ≤ 3) (hb11 : ∀ i, i < Z 1 → am_ag (R 1) (5 * i + 1) ≤ 59) (hb12 : ∀ i, i < Z 1 → am_ag (R 1) (5 * i + 2) ≤ 59) (hb20 : ∀ i, i < Z 2 → am_ag (R 2) (3 * i) ≤ 3) (hb21 : ∀ i, i < Z 2 → am_ag (R 2) (3 * i + 1) ≤ 59) (hb22 : ∀ i, i < Z 2 → am_ag (R 2) (3 * i + 2) ≤ 59) (hb30 : ∀ i, i < Z 3 → am_ag (R 3) (4 * i) ≤ 3) (hb31 : ∀ i, i < Z 3 → am_ag (R 3) (4 * i + 1) ≤ 59) (hb32 : ∀ i, i < Z 3 → am_ag (R 3) (4 * i + 2) ≤ 59) {come wo : Nat} (hco : come < 65536) (hwo : wo < 4294967296) : am_Good mi_32 51 [some (.ref 36), some (.ref E), some (.retAddr come), some (.retAddr wo), some (.retAddr (Z 3))] [] (sv36 h W F B) (none, (sv36 h W F B)) := by
  refine g_iload dd_32_51 rfl ?_
  refine g_aload_n (i := 1) dd_32_53 rfl ?_
  refine g_getfield (k := 3) am_ck1 (by decide) (Or.inr ⟨_, w_95⟩) dd_32_54 (qE _ _ _) rfl ?_
  refine g_getfield (k := 3) am_ck8 (by decide) (Or.inr ⟨_, w_63⟩) dd_32_57 (q3 _ _ _) rfl ?_
  refine g_icmp_ge_t (t := 88) dd_32_60 (by decide) (by first | exact sk_ge_t (by omega) (by omega) | exact tk_ge_t (by omega)) ?_
  exact g_return rfl dd_32_88
theorem s36_h2l {h : am_H} {W F B : Nat} (hH : sv36_ok h) (qS : am_get h 36 = some (.inr (9, [.ref 37, .ref 38, .ref 39]))) {E a0 a1 a2 a3 a4 a5 d0 d1 d2 d3 l0 l1 l2 l3 mi go : Nat} {Z R : Nat → Nat} (qE : ∀ W F B, am_get (sv36 h W F B) E = some (.inr (1, [.ref a0, .ref a1, .ref a2, .ref a3, .ref a4, .ref a5, .retAddr mi, .retAddr go]))) (q0 : ∀ W F B, am_get (sv36 h W F B) a0 = some (.inr (8, [.ref d0, .retAddr 1, .retAddr l0, .retAddr (Z 0)]))) (q1 : ∀ W F B, am_get (sv36 h W F B) a1 = some (.inr (8, [.ref d1, .retAddr 5, .retAddr l1, .retAddr (Z 1)]))) (q2 : ∀ W F B, am_get (sv36 h W F B) a2 = some (.inr (8, [.ref d2, .retAddr 3, .retAddr l2, .retAddr (Z 2)]))) (q3 : ∀ W F B, am_get (sv36 h W F B) a3 = some (.inr (8, [.ref d3, .retAddr 4, .retAddr l3, .retAddr (Z 3)]))) (c0 : ∀ W F B r c, r < Z 0 → c < 1 → am_EG mi_31 [.ref a0, .retAddr r, .retAddr c] (sv36 h W F B) (some (.retAddr (am_ag (R 0) (1 * r + c))), sv36 h W F B)) (c1 : ∀ W F B r c, r < Z 1 → c < 5 → am_EG mi_31 [.ref a1, .retAddr r, .retAddr c] (sv36 h W F B) (some (.retAddr (am_ag (R 1) (5 * r + c))), sv36 h W F B)) (c2 : ∀ W F B r c, r < Z 2 → c < 3 → am_EG mi_31 [.ref a2, .retAddr r, .retAddr c] (sv36 h W F B) (some (.retAddr (am_ag (R 2) (3 * r + c))), sv36 h W F B)) (c3 : ∀ W F B r c, r < Z 3 → c < 4 → am_EG mi_31 [.ref a3, .retAddr r, .retAddr c] (sv36 h W F B) (some (.retAddr (am_ag (R 3) (4 * r + c))), sv36 h W F B)) (z0 : Z 0 ≤ 4) (z1 : Z 1 ≤ 9) (z2 : Z 2 ≤ 6) (z3 : Z 3 ≤ 6) (hb10 : ∀ i, i < Z 1 → am_ag (R 1) (5 * i) ≤ 3) (hb11 : ∀ i, i < Z 1 → am_ag (R 1) (5 * i + 1) ≤ 59) (hb12 : ∀ i, i < Z 1 → am_ag (R 1) (5 * i + 2) ≤ 59) (hb20 : ∀ i, i < Z 2 → am_ag (R 2) (3 * i) ≤ 3) (hb21 : ∀ i, i < Z 2 → am_ag (R 2) (3 * i + 1) ≤ 59) (hb22 : ∀ i, i < Z 2 → am_ag (R 2) (3 * i + 2) ≤ 59) (hb30 : ∀ i, i < Z 3 → am_ag (R 3) (4 * i) ≤ 3) (hb31 : ∀ i, i < Z 3 → am_ag (R 3) (4 * i + 1) ≤ 59) (hb32 : ∀ i, i < Z 3 → am_ag (R 3) (4 * i + 2) ≤ 59) {come wo : Nat} (hco : come < 65536) (hwo : wo < 4294967296) {r : am_R} (hg : am_Good mi_32 51 [some (.ref 36), some (.ref E), some (.retAddr come), some (.retAddr wo), some (.retAddr 0)] [] (sv36 h (sw 60 (R 2) 3 (fun _ => true) (fun _ => 0) W (Z 2)) (sw 60 (R 2) 3 (fun _ => true) (fun _ => 8) F (Z 2)) (sw 60 (R 2) 3 (fun _ => true) (fun _ => 1) B (Z 2))) r) : ∀ (k i : Nat), i + k = Z 2 → am_Good mi_32 20 [some (.ref 36), some (.ref E), some (.retAddr come), some (.retAddr wo), some (.retAddr i)] [] (sv36 h (sw 60 (R 2) 3 (fun _ => true) (fun _ => 0) W i) (sw 60 (R 2) 3 (fun _ => true) (fun _ => 8) F i) (sw 60 (R 2) 3 (fun _ => true) (fun _ => 1) B i)) r
  | 0, i, e => by
    have e' : i = Z 2 := by omega
    subst e'
    exact s36_h2e hH qS qE q0 q1 q2 q3 c0 c1 c2 c3 z0 z1 z2 z3 hb10 hb11 hb12 hb20 hb21 hb22 hb30 hb31 hb32 hco hwo hg
  | k + 1, i, e => by
    have q := s36_h2l (W := W) (F := F) (B := B) hH qS qE q0 q1 q2 q3 c0 c1 c2 c3 z0 z1 z2 z3 hb10 hb11 hb12 hb20 hb21 hb22 hb30 hb31 hb32 hco hwo hg k (i + 1) (by omega)
    exact s36_h2y hH qS qE q0 q1 q2 q3 c0 c1 c2 c3 z0 z1 z2 z3 hb10 hb11 hb12 hb20 hb21 hb22 hb30 hb31 hb32 hco hwo (by omega) q
theorem s36_h3l {h : am_H} {W F B : Nat} (hH : sv36_ok h) (qS : am_get h 36 = some (.inr (9, [.ref 37, .ref 38, .ref 39]))) {E a0 a1 a2 a3 a4 a5 d0 d1 d2 d3 l0 l1 l2 l3 mi go : Nat} {Z R : Nat → Nat} (qE : ∀ W F B, am_get (sv36 h W F B) E = some (.inr (1, [.ref a0, .ref a1, .ref a2, .ref a3, .ref a4, .ref a5, .retAddr mi, .retAddr go]))) (q0 : ∀ W F B, am_get (sv36 h W F B) a0 = some (.inr (8, [.ref d0, .retAddr 1, .retAddr l0, .retAddr (Z 0)]))) (q1 : ∀ W F B, am_get (sv36 h W F B) a1 = some (.inr (8, [.ref d1, .retAddr 5, .retAddr l1, .retAddr (Z 1)]))) (q2 : ∀ W F B, am_get (sv36 h W F B) a2 = some (.inr (8, [.ref d2, .retAddr 3, .retAddr l2, .retAddr (Z 2)]))) (q3 : ∀ W F B, am_get (sv36 h W F B) a3 = some (.inr (8, [.ref d3, .retAddr 4, .retAddr l3, .retAddr (Z 3)]))) (c0 : ∀ W F B r c, r < Z 0 → c < 1 → am_EG mi_31 [.ref a0, .retAddr r, .retAddr c] (sv36 h W F B) (some (.retAddr (am_ag (R 0) (1 * r + c))), sv36 h W F B)) (c1 : ∀ W F B r c, r < Z 1 → c < 5 → am_EG mi_31 [.ref a1, .retAddr r, .retAddr c] (sv36 h W F B) (some (.retAddr (am_ag (R 1) (5 * r + c))), sv36 h W F B)) (c2 : ∀ W F B r c, r < Z 2 → c < 3 → am_EG mi_31 [.ref a2, .retAddr r, .retAddr c] (sv36 h W F B) (some (.retAddr (am_ag (R 2) (3 * r + c))), sv36 h W F B)) (c3 : ∀ W F B r c, r < Z 3 → c < 4 → am_EG mi_31 [.ref a3, .retAddr r, .retAddr c] (sv36 h W F B) (some (.retAddr (am_ag (R 3) (4 * r + c))), sv36 h W F B)) (z0 : Z 0 ≤ 4) (z1 : Z 1 ≤ 9) (z2 : Z 2 ≤ 6) (z3 : Z 3 ≤ 6) (hb10 : ∀ i, i < Z 1 → am_ag (R 1) (5 * i) ≤ 3) (hb11 : ∀ i, i < Z 1 → am_ag (R 1) (5 * i + 1) ≤ 59) (hb12 : ∀ i, i < Z 1 → am_ag (R 1) (5 * i + 2) ≤ 59) (hb20 : ∀ i, i < Z 2 → am_ag (R 2) (3 * i) ≤ 3) (hb21 : ∀ i, i < Z 2 → am_ag (R 2) (3 * i + 1) ≤ 59) (hb22 : ∀ i, i < Z 2 → am_ag (R 2) (3 * i + 2) ≤ 59) (hb30 : ∀ i, i < Z 3 → am_ag (R 3) (4 * i) ≤ 3) (hb31 : ∀ i, i < Z 3 → am_ag (R 3) (4 * i + 1) ≤ 59) (hb32 : ∀ i, i < Z 3 → am_ag (R 3) (4 * i + 2) ≤ 59) {come wo : Nat} (hco : come < 65536) (hwo : wo < 4294967296) : ∀ (k i : Nat), i + k = Z 3 → am_Good mi_32 51 [some (.ref 36), some (.ref E), some (.retAddr come), some (.retAddr wo), some (.retAddr i)] [] (sv36 h (sw 60 (R 3) 4 (fun c => come.testBit c) (fun _ => 0) W i) (sw 60 (R 3) 4 (fun c => come.testBit c) (fun _ => 8) F i) (sw 60 (R 3) 4 (fun c => come.testBit c) (fun _ => 1) B i)) (none, (sv36 h (sw 60 (R 3) 4 (fun c => come.testBit c) (fun _ => 0) W (Z 3)) (sw 60 (R 3) 4 (fun c => come.testBit c) (fun _ => 8) F (Z 3)) (sw 60 (R 3) 4 (fun c => come.testBit c) (fun _ => 1) B (Z 3))))
  | 0, i, e => by
    have e' : i = Z 3 := by omega
    subst e'
    exact s36_h3e hH qS qE q0 q1 q2 q3 c0 c1 c2 c3 z0 z1 z2 z3 hb10 hb11 hb12 hb20 hb21 hb22 hb30 hb31 hb32 hco hwo
  | k + 1, i, e => by
    have q := s36_h3l (W := W) (F := F) (B := B) hH qS qE q0 q1 q2 q3 c0 c1 c2 c3 z0 z1 z2 z3 hb10 hb11 hb12 hb20 hb21 hb22 hb30 hb31 hb32 hco hwo k (i + 1) (by omega)
    by_cases hon : come.testBit i = true
    · have s3 : ∀ (v : Nat → Nat) (x : Nat), sw 60 (R 3) 4 (fun c => come.testBit c) v x (i + 1) = fl (sw 60 (R 3) 4 (fun c => come.testBit c) v x i) (60 * am_ag (R 3) (4 * i) + am_ag (R 3) (4 * i + 1)) (v i) (am_ag (R 3) (4 * i + 2) + 1 - am_ag (R 3) (4 * i + 1)) := fun v x => if_pos hon
      rw [s3, s3, s3] at q
      exact s36_h3y hH qS qE q0 q1 q2 q3 c0 c1 c2 c3 z0 z1 z2 z3 hb10 hb11 hb12 hb20 hb21 hb22 hb30 hb31 hb32 hco hwo (by omega) hon q
    · have s3 : ∀ (v : Nat → Nat) (x : Nat), sw 60 (R 3) 4 (fun c => come.testBit c) v x (i + 1) = sw 60 (R 3) 4 (fun c => come.testBit c) v x i := fun v x => if_neg hon
      rw [s3, s3, s3] at q
      exact s36_h3n hH qS qE q0 q1 q2 q3 c0 c1 c2 c3 z0 z1 z2 z3 hb10 hb11 hb12 hb20 hb21 hb22 hb30 hb31 hb32 hco hwo (by omega) hon q
theorem s36_show {h : am_H} {W F B : Nat} (hH : sv36_ok h) (qS : am_get h 36 = some (.inr (9, [.ref 37, .ref 38, .ref 39]))) {E a0 a1 a2 a3 a4 a5 d0 d1 d2 d3 l0 l1 l2 l3 mi go : Nat} {Z R : Nat → Nat} (qE : ∀ W F B, am_get (sv36 h W F B) E = some (.inr (1, [.ref a0, .ref a1, .ref a2, .ref a3, .ref a4, .ref a5, .retAddr mi, .retAddr go]))) (q0 : ∀ W F B, am_get (sv36 h W F B) a0 = some (.inr (8, [.ref d0, .retAddr 1, .retAddr l0, .retAddr (Z 0)]))) (q1 : ∀ W F B, am_get (sv36 h W F B) a1 = some (.inr (8, [.ref d1, .retAddr 5, .retAddr l1, .retAddr (Z 1)]))) (q2 : ∀ W F B, am_get (sv36 h W F B) a2 = some (.inr (8, [.ref d2, .retAddr 3, .retAddr l2, .retAddr (Z 2)]))) (q3 : ∀ W F B, am_get (sv36 h W F B) a3 = some (.inr (8, [.ref d3, .retAddr 4, .retAddr l3, .retAddr (Z 3)]))) (c0 : ∀ W F B r c, r < Z 0 → c < 1 → am_EG mi_31 [.ref a0, .retAddr r, .retAddr c] (sv36 h W F B) (some (.retAddr (am_ag (R 0) (1 * r + c))), sv36 h W F B)) (c1 : ∀ W F B r c, r < Z 1 → c < 5 → am_EG mi_31 [.ref a1, .retAddr r, .retAddr c] (sv36 h W F B) (some (.retAddr (am_ag (R 1) (5 * r + c))), sv36 h W F B)) (c2 : ∀ W F B r c, r < Z 2 → c < 3 → am_EG mi_31 [.ref a2, .retAddr r, .retAddr c] (sv36 h W F B) (some (.retAddr (am_ag (R 2) (3 * r + c))), sv36 h W F B)) (c3 : ∀ W F B r c, r < Z 3 → c < 4 → am_EG mi_31 [.ref a3, .retAddr r, .retAddr c] (sv36 h W F B) (some (.retAddr (am_ag (R 3) (4 * r + c))), sv36 h W F B)) (z0 : Z 0 ≤ 4) (z1 : Z 1 ≤ 9) (z2 : Z 2 ≤ 6) (z3 : Z 3 ≤ 6) (hb10 : ∀ i, i < Z 1 → am_ag (R 1) (5 * i) ≤ 3) (hb11 : ∀ i, i < Z 1 → am_ag (R 1) (5 * i + 1) ≤ 59) (hb12 : ∀ i, i < Z 1 → am_ag (R 1) (5 * i + 2) ≤ 59) (hb20 : ∀ i, i < Z 2 → am_ag (R 2) (3 * i) ≤ 3) (hb21 : ∀ i, i < Z 2 → am_ag (R 2) (3 * i + 1) ≤ 59) (hb22 : ∀ i, i < Z 2 → am_ag (R 2) (3 * i + 2) ≤ 59) (hb30 : ∀ i, i < Z 3 → am_ag (R 3) (4 * i) ≤ 3) (hb31 : ∀ i, i < Z 3 → am_ag (R 3) (4 * i + 1) ≤ 59) (hb32 : ∀ i, i < Z 3 → am_ag (R 3) (4 * i + 2) ≤ 59) {come wo : Nat} (hco : come < 65536) (hwo : wo < 4294967296) : am_EG mi_32 [.ref 36, .ref E, .retAddr come, .retAddr wo] (sv36 h W F B) (none, (sv36 h (shW Z R come wo W) (shF Z R come wo F) (shB Z R come wo B))) := by
  refine am_enter (n := 1) tk_32.2.1 (by simp [Value.category]) (Nat.le_of_ble_eq_true rfl) ?_
  show am_Good mi_32 0 [some (.ref 36), some (.ref E), some (.retAddr come), some (.retAddr wo), none] [] (sv36 h W F B) _
  refine g_aload_n (i := 0) dd_32_0 rfl ?_
  refine g_aload_n (i := 1) dd_32_1 rfl ?_
  refine g_getfield (k := 0) am_ck1 (by decide) (Or.inr ⟨_, w_80⟩) dd_32_2 (qE _ _ _) rfl ?_
  refine g_virtual (M' := mi_33) (n := 1) (ci := 9) (b := 36) (as := [.ref a0]) (st := []) (r1 := (none, (sv36 h (ss 60 (am_ag (R 0)) W (Z 0)) (ss 60 (fun _ => 8) F (Z 0)) (ss 60 (fun _ => 0) B (Z 0))))) w_457 w_459 ps_33 ⟨lk_33.1, lk_33.2.1, lk_33.2.2, by decide, by decide⟩ rfl ((sv36_o hH rfl).trans qS) rfl (by simp [Value.category]) dd_32_5 (s36_sst hH qS q0 c0 z0) ?_
  show am_Good mi_32 8 [some (.ref 36), some (.ref E), some (.retAddr come), some (.retAddr wo), none] [] (sv36 h (ss 60 (am_ag (R 0)) W (Z 0)) (ss 60 (fun _ => 8) F (Z 0)) (ss 60 (fun _ => 0) B (Z 0))) _
  refine g_aload_n (i := 0) dd_32_8 rfl ?_
  refine g_aload_n (i := 1) dd_32_9 rfl ?_
  refine g_getfield (k := 1) am_ck1 (by decide) (Or.inr ⟨_, w_87⟩) dd_32_10 (qE _ _ _) rfl ?_
  refine g_iload_n (i := 3) dd_32_13 rfl ?_
  refine g_virtual (M' := mi_36) (n := 2) (ci := 9) (b := 36) (as := [.ref a1, .retAddr wo]) (st := []) (r1 := (none, (sv36 h (sw 60 (R 1) 5 (sc_ne wo) (fun n => am_ag (R 1) (5 * n + 3)) (ss 60 (am_ag (R 0)) W (Z 0)) (Z 1)) (sw 60 (R 1) 5 (sc_ne wo) (fun n => am_ag (R 1) (5 * n + 4)) (ss 60 (fun _ => 8) F (Z 0)) (Z 1)) (sw 60 (R 1) 5 (sc_ne wo) (fun _ => 0) (ss 60 (fun _ => 0) B (Z 0)) (Z 1))))) w_469 w_471 ps_36 ⟨lk_36.1, lk_36.2.1, lk_36.2.2, by decide, by decide⟩ rfl ((sv36_o hH rfl).trans qS) rfl (by simp [Value.category]) dd_32_14 (s36_sc hH qS q1 c1 z1 hb10 hb11 hb12 hwo) ?_
  show am_Good mi_32 17 [some (.ref 36), some (.ref E), some (.retAddr come), some (.retAddr wo), none] [] (sv36 h (sw 60 (R 1) 5 (sc_ne wo) (fun n => am_ag (R 1) (5 * n + 3)) (ss 60 (am_ag (R 0)) W (Z 0)) (Z 1)) (sw 60 (R 1) 5 (sc_ne wo) (fun n => am_ag (R 1) (5 * n + 4)) (ss 60 (fun _ => 8) F (Z 0)) (Z 1)) (sw 60 (R 1) 5 (sc_ne wo) (fun _ => 0) (ss 60 (fun _ => 0) B (Z 0)) (Z 1))) _
  refine g_iconst dd_32_17 ic_0 ?_
  refine g_istore dd_32_18 (am_nlb_ok rfl) (by decide) ?_
  exact s36_h2l hH qS qE q0 q1 q2 q3 c0 c1 c2 c3 z0 z1 z2 z3 hb10 hb11 hb12 hb20 hb21 hb22 hb30 hb31 hb32 hco hwo (s36_h3l hH qS qE q0 q1 q2 q3 c0 c1 c2 c3 z0 z1 z2 z3 hb10 hb11 hb12 hb20 hb21 hb22 hb30 hb31 hb32 hco hwo (Z 3) 0 (by omega)) (Z 2) 0 (by omega)
