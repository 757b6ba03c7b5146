/-! ===== learning: the class ===== -/
theorem lz_ixc_lt {u g y : Nat} (hg : g < 4) (hy : y < 256) : lz_ixc u g y < 4096 := by
  unfold lz_ixc
  omega
theorem lea_ymi {a b : Nat} (ha : a < 2147483648) (hb : b < 2147483648) : (bif am_tlt b a then b else a) = if b < a then b else a := by
  by_cases c : b < a
  · rw [show am_tlt b a = true from sk_lt_t c ha, cond_true, if_pos c]
  · rw [show am_tlt b a = false from sk_lt_f (by omega) hb, cond_false, if_neg c]
/-- a row that tells a table: a place changed -/
theorem lea_yas {c j w : Nat} {e : Nat → Nat} (he : ∀ i, i < 4096 → am_ag c i = e i) (hw : w < 4294967296) : ∀ i, i < 4096 → am_ag (am_as c j w) i = if i = j then w else e i := fun i hi => by
  rw [am_ag_as]
  by_cases q : i = j
  · rw [if_pos q, if_pos q, Nat.mod_eq_of_lt hw]
  · rw [if_neg q, if_neg q, he i hi]
theorem lz_cm_99 {ok : Nat → Nat → Bool} {ix : Nat → Nat → Nat → Nat} {e : Nat → Nat} {u g y n : Nat} (h : ∀ i, e i ≤ 99) : ∀ i, lz_cm ok ix e u g y n i ≤ 99 := fun i => lz_cm_le.mpr (Or.inl (h i))
theorem lz_t_99 {ok : Nat → Nat → Bool} {ix : Nat → Nat → Nat → Nat} {q : Nat → Nat} {f : Nat → Nat → Nat} {go t s x w : Nat} {e : Nat → Nat} (h : ∀ i, e i ≤ 99) (k : Nat) : ∀ i, lz_t ok ix q f go t s x w e k i ≤ 99 := fun i => (lz_t_le k).mpr (Or.inl (h i))
def lea (h : am_H)  (sn gg al en fg mf ma gb c : Nat) : am_H := am_ups h [(45, .inr (3, [.ref 46, .ref 32, .ref 30, .retAddr sn, .retAddr gg, .retAddr al, .retAddr en, .retAddr fg, .retAddr mf, .retAddr ma, .retAddr gb])), (46, .inl (0, 4096, c))]
def lea_ok (h : am_H) : Prop := am_ke h [45, 46]
theorem lea_g45 {h : am_H}  {sn gg al en fg mf ma gb c : Nat} (hH : lea_ok h) : am_get (lea h  sn gg al en fg mf ma gb c) 45 = some (.inr (3, [.ref 46, .ref 32, .ref 30, .retAddr sn, .retAddr gg, .retAddr al, .retAddr en, .retAddr fg, .retAddr mf, .retAddr ma, .retAddr gb])) := am_ups_g hH rfl
theorem lea_u45 {h : am_H}  {sn gg al en fg mf ma gb c : Nat} (hH : lea_ok h) {sn' gg' al' en' fg' mf' ma' gb' : Nat} : am_upd (lea h  sn gg al en fg mf ma gb c) 45 (.inr (3, [.ref 46, .ref 32, .ref 30, .retAddr sn', .retAddr gg', .retAddr al', .retAddr en', .retAddr fg', .retAddr mf', .retAddr ma', .retAddr gb'])) = (lea h  sn' gg' al' en' fg' mf' ma' gb' c) := by
  unfold lea
  refine am_upd_ups ?_ ⟨rfl, rfl⟩
  exact hH
theorem lea_g46 {h : am_H}  {sn gg al en fg mf ma gb c : Nat} (hH : lea_ok h) : am_get (lea h  sn gg al en fg mf ma gb c) 46 = some (.inl (0, 4096, c)) := am_ups_g hH rfl
theorem lea_u46 {h : am_H}  {sn gg al en fg mf ma gb c : Nat} (hH : lea_ok h) {c' : Nat} : am_upd (lea h  sn gg al en fg mf ma gb c) 46 (.inl (0, 4096, c')) = (lea h  sn gg al en fg mf ma gb c') := by
  unfold lea
  refine am_upd_ups ?_ ⟨rfl, rfl⟩
  exact hH
theorem lea_o {h : am_H}  {sn gg al en fg mf ma gb c : Nat} (hH : lea_ok h) {a : Nat} (ha : am_lk [(45, am_e0), (46, am_e0)] a = none) : am_get (lea h  sn gg al en fg mf ma gb c) a = am_get h a := by
  unfold lea
  refine am_ups_n ?_ ?_
  · exact hH
  · exact (am_lk_k (by rfl)).mp ha
theorem lea_yis {h : am_H} {t s x : Nat} (ht : t ≤ 100) (hs : s < 4) (hx : x < 256) : am_EG mi_94 [.retAddr t, .retAddr s, .retAddr x] h (some (.retAddr 1), h) := by
  refine am_enter (n := 0) tk_94.2.1 (by simp [Value.category]) (Nat.le_of_ble_eq_true rfl) ?_
  show am_Good mi_94 0 [some (.retAddr t), some (.retAddr s), some (.retAddr x)] [] h _
  refine g_iload_n (i := 0) dd_94_0 rfl ?_
  refine g_if_lt_f (t := 28) dd_94_1 (by decide) (by first | exact sk_lt_f (by omega) (by omega) | exact tk_lt_f (by omega)) ?_
  refine g_iload_n (i := 1) dd_94_4 rfl ?_
  refine g_if_lt_f (t := 28) dd_94_5 (by decide) (by first | exact sk_lt_f (by omega) (by omega) | exact tk_lt_f (by omega)) ?_
  refine g_iload_n (i := 1) dd_94_8 rfl ?_
  refine g_iconst dd_94_9 ic_4 ?_
  refine g_icmp_ge_f (t := 28) dd_94_10 (by decide) (by first | exact sk_ge_f (by omega) (by omega) | exact tk_ge_f (by omega)) ?_
  refine g_iload_n (i := 2) dd_94_13 rfl ?_
  refine g_if_lt_f (t := 28) dd_94_14 (by decide) (by first | exact sk_lt_f (by omega) (by omega) | exact tk_lt_f (by omega)) ?_
  refine g_iload_n (i := 2) dd_94_17 rfl ?_
  refine g_sipush dd_94_18 si_256 ?_
  refine g_icmp_ge_f (t := 28) dd_94_21 (by decide) (by first | exact sk_ge_f (by omega) (by omega) | exact tk_ge_f (by omega)) ?_
  refine g_iconst dd_94_24 ic_1 ?_
  refine g_goto (t := 29) dd_94_25 (by decide) ?_
  exact g_zreturn rfl (by first | decide | omega) dd_94_29
theorem lea_ypl {h : am_H} {t s x : Nat} (ht : t ≤ 100) (hs : s < 4) (hx : x < 256) : am_EG mi_95 [.retAddr t, .retAddr s, .retAddr x] h (some (.retAddr (lz_ixc t s x)), h) := by
  refine am_enter (n := 0) tk_95.2.1 (by simp [Value.category]) (Nat.le_of_ble_eq_true rfl) ?_
  show am_Good mi_95 0 [some (.retAddr t), some (.retAddr s), some (.retAddr x)] [] h _
  refine g_iload_n (i := 0) dd_95_0 rfl ?_
  refine g_iconst dd_95_1 ic_4 ?_
  refine e_irem (v := t % 4) dd_95_2 ⟨by omega, by decide, by decide, rfl⟩ ?_
  refine g_iconst dd_95_3 ic_4 ?_
  refine e_imul (v := 4 * (t % 4)) dd_95_4 (by omega) ?_
  refine g_iload_n (i := 1) dd_95_5 rfl ?_
  refine e_iadd (v := 4 * (t % 4) + s) dd_95_6 (by omega) ?_
  refine g_sipush dd_95_7 si_256 ?_
  refine e_imul (v := 1024 * (t % 4) + 256 * s) dd_95_10 (by omega) ?_
  refine g_iload_n (i := 2) dd_95_11 rfl ?_
  refine e_iadd (v := lz_ixc t s x) dd_95_12 (by unfold lz_ixc; omega) ?_
  exact g_ireturn rfl dd_95_13
theorem lea_r0 {h : am_H} (hH : lea_ok h) {v32 v30 : List Value} {f : Nat → Nat → Nat} {cl : Nat → Nat} (q32 : am_get h 32 = some (.inr (9, v32))) (q30 : am_get h 30 = some (.inr (2, v30))) (ck : ∀ sn gg al en fg mf ma gb c s t, s < 4 → t ≤ 60 → am_EG mi_68 [.ref 32, .retAddr s, .retAddr t] (lea h sn gg al en fg mf ma gb c) (some (.retAddr (f s t)), lea h sn gg al en fg mf ma gb c)) (cf : ∀ sn gg al en fg mf ma gb c x, x < 256 → am_EG mi_57 [.ref 30, .retAddr x] (lea h sn gg al en fg mf ma gb c) (some (.retAddr (cl x)), lea h sn gg al en fg mf ma gb c)) (hf : ∀ s t, f s t < 256) (hcl : ∀ x, x < 256 → cl x < 256) {sn gg al en fg mf ma gb c : Nat} {t s x n : Nat} (ht : t ≤ 70) (hs : s < 4) (hx : x < 256) (hn : n ≤ 20) (he : en ≤ 60) (hgb : gb ≤ 7) (hc : ¬ t ≤ en) : am_EG mi_93 [.ref 45, .retAddr t, .retAddr s, .retAddr x, .retAddr n] (lea h sn gg al en fg mf ma gb c) (none, (lea h sn gg al en fg mf ma gb c)) := by
  refine am_enter (n := 1) tk_93.2.1 (by simp [Value.category]) (Nat.le_of_ble_eq_true rfl) ?_
  show am_Good mi_93 0 [some (.ref 45), some (.retAddr t), some (.retAddr s), some (.retAddr x), some (.retAddr n), none] [] (lea h sn gg al en fg mf ma gb c) _
  refine g_iload_n (i := 1) dd_93_0 rfl ?_
  refine g_aload_n (i := 0) dd_93_1 rfl ?_
  refine g_getfield (k := 6) am_ck3 (by decide) (Or.inl w_230) dd_93_2 (lea_g45 hH) rfl ?_
  refine g_icmp_gt_t (t := 53) dd_93_5 (by decide) (by first | exact sk_gt_t (by omega) (by omega) | exact tk_gt_t (by omega)) ?_
  exact g_return rfl dd_93_53
theorem lea_r1 {h : am_H} (hH : lea_ok h) {v32 v30 : List Value} {f : Nat → Nat → Nat} {cl : Nat → Nat} (q32 : am_get h 32 = some (.inr (9, v32))) (q30 : am_get h 30 = some (.inr (2, v30))) (ck : ∀ sn gg al en fg mf ma gb c s t, s < 4 → t ≤ 60 → am_EG mi_68 [.ref 32, .retAddr s, .retAddr t] (lea h sn gg al en fg mf ma gb c) (some (.retAddr (f s t)), lea h sn gg al en fg mf ma gb c)) (cf : ∀ sn gg al en fg mf ma gb c x, x < 256 → am_EG mi_57 [.ref 30, .retAddr x] (lea h sn gg al en fg mf ma gb c) (some (.retAddr (cl x)), lea h sn gg al en fg mf ma gb c)) (hf : ∀ s t, f s t < 256) (hcl : ∀ x, x < 256 → cl x < 256) {sn gg al en fg mf ma gb c : Nat} {t s x n : Nat} (ht : t ≤ 70) (hs : s < 4) (hx : x < 256) (hn : n ≤ 20) (he : en ≤ 60) (hgb : gb ≤ 7) (hc : t ≤ en) (hd : ¬ n < gb) : am_EG mi_93 [.ref 45, .retAddr t, .retAddr s, .retAddr x, .retAddr n] (lea h sn gg al en fg mf ma gb c) (none, (lea h sn gg al en fg mf ma gb c)) := by
  refine am_enter (n := 1) tk_93.2.1 (by simp [Value.category]) (Nat.le_of_ble_eq_true rfl) ?_
  show am_Good mi_93 0 [some (.ref 45), some (.retAddr t), some (.retAddr s), some (.retAddr x), some (.retAddr n), none] [] (lea h sn gg al en fg mf ma gb c) _
  refine g_iload_n (i := 1) dd_93_0 rfl ?_
  refine g_aload_n (i := 0) dd_93_1 rfl ?_
  refine g_getfield (k := 6) am_ck3 (by decide) (Or.inl w_230) dd_93_2 (lea_g45 hH) rfl ?_
  refine g_icmp_gt_f (t := 53) dd_93_5 (by decide) (by first | exact sk_gt_f (by omega) (by omega) | exact tk_gt_f (by omega)) ?_
  refine g_iload dd_93_8 rfl ?_
  refine g_aload_n (i := 0) dd_93_10 rfl ?_
  refine g_getfield (k := 10) am_ck3 (by decide) (Or.inl w_237) dd_93_11 (lea_g45 hH) rfl ?_
  refine g_icmp_ge_t (t := 53) dd_93_14 (by decide) (by first | exact sk_ge_t (by omega) (by omega) | exact tk_ge_t (by omega)) ?_
  exact g_return rfl dd_93_53
theorem lea_r2 {h : am_H} (hH : lea_ok h) {v32 v30 : List Value} {f : Nat → Nat → Nat} {cl : Nat → Nat} (q32 : am_get h 32 = some (.inr (9, v32))) (q30 : am_get h 30 = some (.inr (2, v30))) (ck : ∀ sn gg al en fg mf ma gb c s t, s < 4 → t ≤ 60 → am_EG mi_68 [.ref 32, .retAddr s, .retAddr t] (lea h sn gg al en fg mf ma gb c) (some (.retAddr (f s t)), lea h sn gg al en fg mf ma gb c)) (cf : ∀ sn gg al en fg mf ma gb c x, x < 256 → am_EG mi_57 [.ref 30, .retAddr x] (lea h sn gg al en fg mf ma gb c) (some (.retAddr (cl x)), lea h sn gg al en fg mf ma gb c)) (hf : ∀ s t, f s t < 256) (hcl : ∀ x, x < 256 → cl x < 256) {sn gg al en fg mf ma gb c : Nat} {t s x n : Nat} (ht : t ≤ 70) (hs : s < 4) (hx : x < 256) (hn : n ≤ 20) (he : en ≤ 60) (hgb : gb ≤ 7) (hc : t ≤ en) (hd : n < gb) (hb : am_ag c (lz_ixc t s x) ≤ 99) : am_EG mi_93 [.ref 45, .retAddr t, .retAddr s, .retAddr x, .retAddr n] (lea h sn gg al en fg mf ma gb c) (none, (lea h sn gg al en fg mf ma gb (am_as c (lz_ixc t s x) (if n < am_ag c (lz_ixc t s x) then n else am_ag c (lz_ixc t s x))))) := by
  refine am_enter (n := 1) tk_93.2.1 (by simp [Value.category]) (Nat.le_of_ble_eq_true rfl) ?_
  show am_Good mi_93 0 [some (.ref 45), some (.retAddr t), some (.retAddr s), some (.retAddr x), some (.retAddr n), none] [] (lea h sn gg al en fg mf ma gb c) _
  have ii := lz_ixc_lt (u := t) hs hx
  refine g_iload_n (i := 1) dd_93_0 rfl ?_
  refine g_aload_n (i := 0) dd_93_1 rfl ?_
  refine g_getfield (k := 6) am_ck3 (by decide) (Or.inl w_230) dd_93_2 (lea_g45 hH) rfl ?_
  refine g_icmp_gt_f (t := 53) dd_93_5 (by decide) (by first | exact sk_gt_f (by omega) (by omega) | exact tk_gt_f (by omega)) ?_
  refine g_iload dd_93_8 rfl ?_
  refine g_aload_n (i := 0) dd_93_10 rfl ?_
  refine g_getfield (k := 10) am_ck3 (by decide) (Or.inl w_237) dd_93_11 (lea_g45 hH) rfl ?_
  refine g_icmp_ge_f (t := 53) dd_93_14 (by decide) (by first | exact sk_ge_f (by omega) (by omega) | exact tk_ge_f (by omega)) ?_
  refine g_iload_n (i := 1) dd_93_17 rfl ?_
  refine g_iload_n (i := 2) dd_93_18 rfl ?_
  refine g_iload_n (i := 3) dd_93_19 rfl ?_
  refine g_static (M' := mi_94) (n := 3) (as := [.retAddr t, .retAddr s, .retAddr x]) (st := []) (r1 := (some (.retAddr 1), (lea h sn gg al en fg mf ma gb c))) w_767 w_768 ⟨lk_94.1, lk_94.2.1, lk_94.2.2, by decide, by decide⟩ rfl (by simp [Value.category]) dd_93_20 (lea_yis (by omega) (by omega) (by omega)) ?_
  show am_Good mi_93 23 [some (.ref 45), some (.retAddr t), some (.retAddr s), some (.retAddr x), some (.retAddr n), none] [.retAddr 1] (lea h sn gg al en fg mf ma gb c) _
  refine g_if_eq_f (t := 53) dd_93_23 (by decide) (by decide) ?_
  refine g_iload_n (i := 1) dd_93_26 rfl ?_
  refine g_iload_n (i := 2) dd_93_27 rfl ?_
  refine g_iload_n (i := 3) dd_93_28 rfl ?_
  refine g_static (M' := mi_95) (n := 3) (as := [.retAddr t, .retAddr s, .retAddr x]) (st := []) (r1 := (some (.retAddr (lz_ixc t s x)), (lea h sn gg al en fg mf ma gb c))) w_770 w_771 ⟨lk_95.1, lk_95.2.1, lk_95.2.2, by decide, by decide⟩ rfl (by simp [Value.category]) dd_93_29 (lea_ypl (by omega) (by omega) (by omega)) ?_
  show am_Good mi_93 32 [some (.ref 45), some (.retAddr t), some (.retAddr s), some (.retAddr x), some (.retAddr n), none] [.retAddr (lz_ixc t s x)] (lea h sn gg al en fg mf ma gb c) _
  refine g_istore dd_93_32 (am_nlb_ok rfl) (by decide) ?_
  refine g_aload_n (i := 0) dd_93_34 rfl ?_
  refine g_getfield (k := 0) am_ck3 (by decide) (Or.inl w_224) dd_93_35 (lea_g45 hH) rfl ?_
  refine g_iload dd_93_38 rfl ?_
  refine g_aload_n (i := 0) dd_93_40 rfl ?_
  refine g_getfield (k := 0) am_ck3 (by decide) (Or.inl w_224) dd_93_41 (lea_g45 hH) rfl ?_
  refine g_iload dd_93_44 rfl ?_
  refine g_iaload dd_93_46 (lea_g46 hH) (by omega) (by decide) ?_
  have hl_1 := am_ag_lt c (lz_ixc t s x)
  refine g_iload dd_93_47 rfl ?_
  refine g_mmin w_756 w_393 w_18 w_394 ⟨by decide, by decide⟩ (by simp [Value.category]) dd_93_49 ?_
  rw [show (bif am_tlt n (am_ag c (lz_ixc t s x)) then n else (am_ag c (lz_ixc t s x))) = (if n < am_ag c (lz_ixc t s x) then n else am_ag c (lz_ixc t s x)) from (lea_ymi (by omega) (by omega))]
  refine g_iastore dd_93_52 (lea_g46 hH) (by omega) (by decide) ?_
  refine am_heq (lea_u46 hH) ?_
  show am_Good mi_93 53 [some (.ref 45), some (.retAddr t), some (.retAddr s), some (.retAddr x), some (.retAddr n), some (.retAddr (lz_ixc t s x))] [] (lea h sn gg al en fg mf ma gb (am_as c (lz_ixc t s x) (if n < am_ag c (lz_ixc t s x) then n else am_ag c (lz_ixc t s x)))) _
  exact g_return rfl dd_93_53
theorem lea_rm {h : am_H} (hH : lea_ok h) {v32 v30 : List Value} {f : Nat → Nat → Nat} {cl : Nat → Nat} (q32 : am_get h 32 = some (.inr (9, v32))) (q30 : am_get h 30 = some (.inr (2, v30))) (ck : ∀ sn gg al en fg mf ma gb c s t, s < 4 → t ≤ 60 → am_EG mi_68 [.ref 32, .retAddr s, .retAddr t] (lea h sn gg al en fg mf ma gb c) (some (.retAddr (f s t)), lea h sn gg al en fg mf ma gb c)) (cf : ∀ sn gg al en fg mf ma gb c x, x < 256 → am_EG mi_57 [.ref 30, .retAddr x] (lea h sn gg al en fg mf ma gb c) (some (.retAddr (cl x)), lea h sn gg al en fg mf ma gb c)) (hf : ∀ s t, f s t < 256) (hcl : ∀ x, x < 256 → cl x < 256) {sn gg al en fg mf ma gb c : Nat} {e : Nat → Nat} {t s x n : Nat} (ht : t ≤ 70) (hs : s < 4) (hx : x < 256) (hn : n ≤ 20) (he : en ≤ 60) (hgb : gb ≤ 7) (hc : ∀ i, i < 4096 → am_ag c i = e i) (h9 : ∀ i, e i ≤ 99) : ∃ c', (∀ i, i < 4096 → am_ag c' i = lz_cm (lz_okc en gb) lz_ixc e t s x n i) ∧ am_EG mi_93 [.ref 45, .retAddr t, .retAddr s, .retAddr x, .retAddr n] (lea h sn gg al en fg mf ma gb c) (none, (lea h sn gg al en fg mf ma gb (c'))) := by
  have ii := lz_ixc_lt (u := t) hs hx
  by_cases h1 : t ≤ en
  · by_cases h2 : n < gb
    · refine ⟨_, fun i hi => ?_, lea_r2 hH q32 q30 ck cf hf hcl ht hs hx hn he hgb h1 h2 (by rw [hc _ ii]; exact h9 _)⟩
      have o : lz_okc en gb t n = true := by unfold lz_okc; rw [decide_eq_true h1, decide_eq_true h2]; rfl
      have b := h9 (lz_ixc t s x)
      have wl : (if n < am_ag c (lz_ixc t s x) then n else am_ag c (lz_ixc t s x)) < 4294967296 := by
        rw [hc _ ii]
        by_cases q : n < e (lz_ixc t s x)
        · rw [if_pos q]; omega
        · rw [if_neg q]; omega
      rw [lea_yas hc wl i hi, hc _ ii]
      unfold lz_cm lz_pu
      rw [if_pos o]
      by_cases q : i = lz_ixc t s x
      · rw [if_pos q, if_pos q, q]
      · rw [if_neg q, if_neg q]
    · refine ⟨c, fun i hi => ?_, lea_r1 hH q32 q30 ck cf hf hcl ht hs hx hn he hgb h1 h2⟩
      unfold lz_cm lz_okc
      rw [decide_eq_false h2, Bool.and_false, if_neg (by decide)]
      exact hc i hi
  · refine ⟨c, fun i hi => ?_, lea_r0 hH q32 q30 ck cf hf hcl ht hs hx hn he hgb h1⟩
    unfold lz_cm lz_okc
    rw [decide_eq_false h1, Bool.false_and, if_neg (by decide)]
    exact hc i hi
theorem lea_ss {h : am_H} (hH : lea_ok h) {v32 v30 : List Value} {f : Nat → Nat → Nat} {cl : Nat → Nat} (q32 : am_get h 32 = some (.inr (9, v32))) (q30 : am_get h 30 = some (.inr (2, v30))) (ck : ∀ sn gg al en fg mf ma gb c s t, s < 4 → t ≤ 60 → am_EG mi_68 [.ref 32, .retAddr s, .retAddr t] (lea h sn gg al en fg mf ma gb c) (some (.retAddr (f s t)), lea h sn gg al en fg mf ma gb c)) (cf : ∀ sn gg al en fg mf ma gb c x, x < 256 → am_EG mi_57 [.ref 30, .retAddr x] (lea h sn gg al en fg mf ma gb c) (some (.retAddr (cl x)), lea h sn gg al en fg mf ma gb c)) (hf : ∀ s t, f s t < 256) (hcl : ∀ x, x < 256 → cl x < 256) {sn gg al en fg mf ma gb c : Nat} {t s x n c2 : Nat} (ht : t ≤ 60) (hs : s < 4) (hx : x < 256) (e1_ : am_EG mi_93 [.ref 45, .retAddr (t + 1), .retAddr s, .retAddr (cl (x ||| f s t)), .retAddr n] (lea h sn gg al en fg mf ma gb c) (none, (lea h sn gg al en fg mf ma gb c2))) : am_EG mi_99 [.ref 45, .retAddr t, .retAddr s, .retAddr x, .retAddr n] (lea h sn gg al en fg mf ma gb c) (none, (lea h sn gg al en fg mf ma gb c2)) := by
  refine am_enter (n := 0) tk_99.2.1 (by simp [Value.category]) (Nat.le_of_ble_eq_true rfl) ?_
  show am_Good mi_99 0 [some (.ref 45), some (.retAddr t), some (.retAddr s), some (.retAddr x), some (.retAddr n)] [] (lea h sn gg al en fg mf ma gb c) _
  refine g_aload_n (i := 0) dd_99_0 rfl ?_
  refine g_iload_n (i := 1) dd_99_1 rfl ?_
  refine g_iconst dd_99_2 ic_1 ?_
  refine e_iadd (v := t + 1) dd_99_3 (by omega) ?_
  refine g_iload_n (i := 2) dd_99_4 rfl ?_
  refine g_aload_n (i := 0) dd_99_5 rfl ?_
  refine g_getfield (k := 2) am_ck3 (by decide) (Or.inl w_226) dd_99_6 (lea_g45 hH) rfl ?_
  refine g_iload_n (i := 3) dd_99_9 rfl ?_
  refine g_aload_n (i := 0) dd_99_10 rfl ?_
  refine g_getfield (k := 1) am_ck3 (by decide) (Or.inl w_225) dd_99_11 (lea_g45 hH) rfl ?_
  refine g_iload_n (i := 2) dd_99_14 rfl ?_
  refine g_iload_n (i := 1) dd_99_15 rfl ?_
  refine g_virtual (M' := mi_68) (n := 2) (ci := 9) (b := 32) (as := [.retAddr s, .retAddr t]) (st := [.retAddr x, .ref 30, .retAddr s, .retAddr (t + 1), .ref 45]) (r1 := (some (.retAddr (f s t)), (lea h sn gg al en fg mf ma gb c))) w_761 w_655 w_656 ⟨lk_68.1, lk_68.2.1, lk_68.2.2, by decide, by decide⟩ rfl ((lea_o hH rfl).trans q32) rfl (by simp [Value.category]) dd_99_16 (ck _ _ _ _ _ _ _ _ _ _ _ (by omega) (by omega)) ?_
  show am_Good mi_99 19 [some (.ref 45), some (.retAddr t), some (.retAddr s), some (.retAddr x), some (.retAddr n)] [.retAddr (f s t), .retAddr x, .ref 30, .retAddr s, .retAddr (t + 1), .ref 45] (lea h sn gg al en fg mf ma gb c) _
  refine e_ior (v := x ||| (f s t)) dd_99_19 (rfl) ?_
  refine g_virtual (M' := mi_57) (n := 1) (ci := 2) (b := 30) (as := [.retAddr (x ||| (f s t))]) (st := [.retAddr s, .retAddr (t + 1), .ref 45]) (r1 := (some (.retAddr (cl (x ||| (f s t)))), (lea h sn gg al en fg mf ma gb c))) w_762 w_609 w_610 ⟨lk_57.1, lk_57.2.1, lk_57.2.2, by decide, by decide⟩ rfl ((lea_o hH rfl).trans q30) rfl (by simp [Value.category]) dd_99_20 (cf _ _ _ _ _ _ _ _ _ _ (lz_or_lt hx (hf _ _))) ?_
  show am_Good mi_99 23 [some (.ref 45), some (.retAddr t), some (.retAddr s), some (.retAddr x), some (.retAddr n)] [.retAddr (cl (x ||| (f s t))), .retAddr s, .retAddr (t + 1), .ref 45] (lea h sn gg al en fg mf ma gb c) _
  refine g_iload dd_99_23 rfl ?_
  refine g_virtual (M' := mi_93) (n := 4) (ci := 3) (b := 45) (as := [.retAddr (t + 1), .retAddr s, .retAddr (cl (x ||| (f s t))), .retAddr n]) (st := []) (r1 := (none, (lea h sn gg al en fg mf ma gb c2))) w_763 w_765 ps_93 ⟨lk_93.1, lk_93.2.1, lk_93.2.2, by decide, by decide⟩ rfl (lea_g45 hH) rfl (by simp [Value.category]) dd_99_25 (e1_) ?_
  show am_Good mi_99 28 [some (.ref 45), some (.retAddr t), some (.retAddr s), some (.retAddr x), some (.retAddr n)] [] (lea h sn gg al en fg mf ma gb c2) _
  exact g_return rfl dd_99_28
theorem lea_nnb {h : am_H} (hH : lea_ok h) {v32 v30 : List Value} {f : Nat → Nat → Nat} {cl : Nat → Nat} (q32 : am_get h 32 = some (.inr (9, v32))) (q30 : am_get h 30 = some (.inr (2, v30))) (ck : ∀ sn gg al en fg mf ma gb c s t, s < 4 → t ≤ 60 → am_EG mi_68 [.ref 32, .retAddr s, .retAddr t] (lea h sn gg al en fg mf ma gb c) (some (.retAddr (f s t)), lea h sn gg al en fg mf ma gb c)) (cf : ∀ sn gg al en fg mf ma gb c x, x < 256 → am_EG mi_57 [.ref 30, .retAddr x] (lea h sn gg al en fg mf ma gb c) (some (.retAddr (cl x)), lea h sn gg al en fg mf ma gb c)) (hf : ∀ s t, f s t < 256) (hcl : ∀ x, x < 256 → cl x < 256) {sn gg al en fg mf gb c : Nat} {t n : Nat} (ht : t ≤ 60) (hn : n ≤ 20) (hgb : gb ≤ 7) (h2 : n < gb) : am_EG mi_98 [.ref 45, .retAddr t, .retAddr n] (lea h sn gg al en fg mf 4294967292 gb c) (none, (lea h sn gg al en n t t n c)) := by
  refine am_enter (n := 0) tk_98.2.1 (by simp [Value.category]) (Nat.le_of_ble_eq_true rfl) ?_
  show am_Good mi_98 0 [some (.ref 45), some (.retAddr t), some (.retAddr n)] [] (lea h sn gg al en fg mf 4294967292 gb c) _
  refine g_aload_n (i := 0) dd_98_0 rfl ?_
  refine g_getfield (k := 9) am_ck3 (by decide) (Or.inl w_235) dd_98_1 (lea_g45 hH) rfl ?_
  refine g_bipush dd_98_4 bi_m4 ?_
  refine g_icmp_ne_f (t := 14) dd_98_6 (by decide) (by decide) ?_
  refine g_aload_n (i := 0) dd_98_9 rfl ?_
  refine g_iload_n (i := 1) dd_98_10 rfl ?_
  refine g_putfield (k := 9) am_ck3 (by decide) (Or.inl w_235) (Or.inl rfl) dd_98_11 (lea_g45 hH) (Nat.le_of_ble_eq_true rfl) trivial ?_
  refine am_heq (lea_u45 hH) ?_
  show am_Good mi_98 14 [some (.ref 45), some (.retAddr t), some (.retAddr n)] [] (lea h sn gg al en fg mf t gb c) _
  refine g_iload_n (i := 2) dd_98_14 rfl ?_
  refine g_aload_n (i := 0) dd_98_15 rfl ?_
  refine g_getfield (k := 10) am_ck3 (by decide) (Or.inl w_237) dd_98_16 (lea_g45 hH) rfl ?_
  refine g_icmp_ge_f (t := 37) dd_98_19 (by decide) (by first | exact sk_ge_f (by omega) (by omega) | exact tk_ge_f (by omega)) ?_
  refine g_aload_n (i := 0) dd_98_22 rfl ?_
  refine g_iload_n (i := 2) dd_98_23 rfl ?_
  refine g_putfield (k := 10) am_ck3 (by decide) (Or.inl w_237) (Or.inl rfl) dd_98_24 (lea_g45 hH) (Nat.le_of_ble_eq_true rfl) trivial ?_
  refine am_heq (lea_u45 hH) ?_
  show am_Good mi_98 27 [some (.ref 45), some (.retAddr t), some (.retAddr n)] [] (lea h sn gg al en fg mf t n c) _
  refine g_aload_n (i := 0) dd_98_27 rfl ?_
  refine g_iload_n (i := 2) dd_98_28 rfl ?_
  refine g_putfield (k := 7) am_ck3 (by decide) (Or.inl w_231) (Or.inl rfl) dd_98_29 (lea_g45 hH) (Nat.le_of_ble_eq_true rfl) trivial ?_
  refine am_heq (lea_u45 hH) ?_
  show am_Good mi_98 32 [some (.ref 45), some (.retAddr t), some (.retAddr n)] [] (lea h sn gg al en n mf t n c) _
  refine g_aload_n (i := 0) dd_98_32 rfl ?_
  refine g_iload_n (i := 1) dd_98_33 rfl ?_
  refine g_putfield (k := 8) am_ck3 (by decide) (Or.inl w_233) (Or.inl rfl) dd_98_34 (lea_g45 hH) (Nat.le_of_ble_eq_true rfl) trivial ?_
  refine am_heq (lea_u45 hH) ?_
  show am_Good mi_98 37 [some (.ref 45), some (.retAddr t), some (.retAddr n)] [] (lea h sn gg al en n t t n c) _
  exact g_return rfl dd_98_37
theorem lea_nnk {h : am_H} (hH : lea_ok h) {v32 v30 : List Value} {f : Nat → Nat → Nat} {cl : Nat → Nat} (q32 : am_get h 32 = some (.inr (9, v32))) (q30 : am_get h 30 = some (.inr (2, v30))) (ck : ∀ sn gg al en fg mf ma gb c s t, s < 4 → t ≤ 60 → am_EG mi_68 [.ref 32, .retAddr s, .retAddr t] (lea h sn gg al en fg mf ma gb c) (some (.retAddr (f s t)), lea h sn gg al en fg mf ma gb c)) (cf : ∀ sn gg al en fg mf ma gb c x, x < 256 → am_EG mi_57 [.ref 30, .retAddr x] (lea h sn gg al en fg mf ma gb c) (some (.retAddr (cl x)), lea h sn gg al en fg mf ma gb c)) (hf : ∀ s t, f s t < 256) (hcl : ∀ x, x < 256 → cl x < 256) {sn gg al en fg mf gb c : Nat} {t n : Nat} (ht : t ≤ 60) (hn : n ≤ 20) (hgb : gb ≤ 7) (h2 : ¬ n < gb) : am_EG mi_98 [.ref 45, .retAddr t, .retAddr n] (lea h sn gg al en fg mf 4294967292 gb c) (none, (lea h sn gg al en fg mf t gb c)) := by
  refine am_enter (n := 0) tk_98.2.1 (by simp [Value.category]) (Nat.le_of_ble_eq_true rfl) ?_
  show am_Good mi_98 0 [some (.ref 45), some (.retAddr t), some (.retAddr n)] [] (lea h sn gg al en fg mf 4294967292 gb c) _
  refine g_aload_n (i := 0) dd_98_0 rfl ?_
  refine g_getfield (k := 9) am_ck3 (by decide) (Or.inl w_235) dd_98_1 (lea_g45 hH) rfl ?_
  refine g_bipush dd_98_4 bi_m4 ?_
  refine g_icmp_ne_f (t := 14) dd_98_6 (by decide) (by decide) ?_
  refine g_aload_n (i := 0) dd_98_9 rfl ?_
  refine g_iload_n (i := 1) dd_98_10 rfl ?_
  refine g_putfield (k := 9) am_ck3 (by decide) (Or.inl w_235) (Or.inl rfl) dd_98_11 (lea_g45 hH) (Nat.le_of_ble_eq_true rfl) trivial ?_
  refine am_heq (lea_u45 hH) ?_
  show am_Good mi_98 14 [some (.ref 45), some (.retAddr t), some (.retAddr n)] [] (lea h sn gg al en fg mf t gb c) _
  refine g_iload_n (i := 2) dd_98_14 rfl ?_
  refine g_aload_n (i := 0) dd_98_15 rfl ?_
  refine g_getfield (k := 10) am_ck3 (by decide) (Or.inl w_237) dd_98_16 (lea_g45 hH) rfl ?_
  refine g_icmp_ge_t (t := 37) dd_98_19 (by decide) (by first | exact sk_ge_t (by omega) (by omega) | exact tk_ge_t (by omega)) ?_
  exact g_return rfl dd_98_37
theorem lea_nsb {h : am_H} (hH : lea_ok h) {v32 v30 : List Value} {f : Nat → Nat → Nat} {cl : Nat → Nat} (q32 : am_get h 32 = some (.inr (9, v32))) (q30 : am_get h 30 = some (.inr (2, v30))) (ck : ∀ sn gg al en fg mf ma gb c s t, s < 4 → t ≤ 60 → am_EG mi_68 [.ref 32, .retAddr s, .retAddr t] (lea h sn gg al en fg mf ma gb c) (some (.retAddr (f s t)), lea h sn gg al en fg mf ma gb c)) (cf : ∀ sn gg al en fg mf ma gb c x, x < 256 → am_EG mi_57 [.ref 30, .retAddr x] (lea h sn gg al en fg mf ma gb c) (some (.retAddr (cl x)), lea h sn gg al en fg mf ma gb c)) (hf : ∀ s t, f s t < 256) (hcl : ∀ x, x < 256 → cl x < 256) {sn gg al en fg mf ma gb c : Nat} {t n : Nat} (ht : t ≤ 60) (hn : n ≤ 20) (hgb : gb ≤ 7) (h1 : ma ≠ 4294967292) (g_m : ma < 4294967296) (h2 : n < gb) : am_EG mi_98 [.ref 45, .retAddr t, .retAddr n] (lea h sn gg al en fg mf ma gb c) (none, (lea h sn gg al en n t ma n c)) := by
  refine am_enter (n := 0) tk_98.2.1 (by simp [Value.category]) (Nat.le_of_ble_eq_true rfl) ?_
  show am_Good mi_98 0 [some (.ref 45), some (.retAddr t), some (.retAddr n)] [] (lea h sn gg al en fg mf ma gb c) _
  refine g_aload_n (i := 0) dd_98_0 rfl ?_
  refine g_getfield (k := 9) am_ck3 (by decide) (Or.inl w_235) dd_98_1 (lea_g45 hH) rfl ?_
  refine g_bipush dd_98_4 bi_m4 ?_
  refine g_icmp_ne_t (t := 14) dd_98_6 (by decide) (tk_ne_t (by omega)) ?_
  refine g_iload_n (i := 2) dd_98_14 rfl ?_
  refine g_aload_n (i := 0) dd_98_15 rfl ?_
  refine g_getfield (k := 10) am_ck3 (by decide) (Or.inl w_237) dd_98_16 (lea_g45 hH) rfl ?_
  refine g_icmp_ge_f (t := 37) dd_98_19 (by decide) (by first | exact sk_ge_f (by omega) (by omega) | exact tk_ge_f (by omega)) ?_
  refine g_aload_n (i := 0) dd_98_22 rfl ?_
  refine g_iload_n (i := 2) dd_98_23 rfl ?_
  refine g_putfield (k := 10) am_ck3 (by decide) (Or.inl w_237) (Or.inl rfl) dd_98_24 (lea_g45 hH) (Nat.le_of_ble_eq_true rfl) trivial ?_
  refine am_heq (lea_u45 hH) ?_
  show am_Good mi_98 27 [some (.ref 45), some (.retAddr t), some (.retAddr n)] [] (lea h sn gg al en fg mf ma n c) _
  refine g_aload_n (i := 0) dd_98_27 rfl ?_
  refine g_iload_n (i := 2) dd_98_28 rfl ?_
  refine g_putfield (k := 7) am_ck3 (by decide) (Or.inl w_231) (Or.inl rfl) dd_98_29 (lea_g45 hH) (Nat.le_of_ble_eq_true rfl) trivial ?_
  refine am_heq (lea_u45 hH) ?_
  show am_Good mi_98 32 [some (.ref 45), some (.retAddr t), some (.retAddr n)] [] (lea h sn gg al en n mf ma n c) _
  refine g_aload_n (i := 0) dd_98_32 rfl ?_
  refine g_iload_n (i := 1) dd_98_33 rfl ?_
  refine g_putfield (k := 8) am_ck3 (by decide) (Or.inl w_233) (Or.inl rfl) dd_98_34 (lea_g45 hH) (Nat.le_of_ble_eq_true rfl) trivial ?_
  refine am_heq (lea_u45 hH) ?_
  show am_Good mi_98 37 [some (.ref 45), some (.retAddr t), some (.retAddr n)] [] (lea h sn gg al en n t ma n c) _
  exact g_return rfl dd_98_37
theorem lea_nsk {h : am_H} (hH : lea_ok h) {v32 v30 : List Value} {f : Nat → Nat → Nat} {cl : Nat → Nat} (q32 : am_get h 32 = some (.inr (9, v32))) (q30 : am_get h 30 = some (.inr (2, v30))) (ck : ∀ sn gg al en fg mf ma gb c s t, s < 4 → t ≤ 60 → am_EG mi_68 [.ref 32, .retAddr s, .retAddr t] (lea h sn gg al en fg mf ma gb c) (some (.retAddr (f s t)), lea h sn gg al en fg mf ma gb c)) (cf : ∀ sn gg al en fg mf ma gb c x, x < 256 → am_EG mi_57 [.ref 30, .retAddr x] (lea h sn gg al en fg mf ma gb c) (some (.retAddr (cl x)), lea h sn gg al en fg mf ma gb c)) (hf : ∀ s t, f s t < 256) (hcl : ∀ x, x < 256 → cl x < 256) {sn gg al en fg mf ma gb c : Nat} {t n : Nat} (ht : t ≤ 60) (hn : n ≤ 20) (hgb : gb ≤ 7) (h1 : ma ≠ 4294967292) (g_m : ma < 4294967296) (h2 : ¬ n < gb) : am_EG mi_98 [.ref 45, .retAddr t, .retAddr n] (lea h sn gg al en fg mf ma gb c) (none, (lea h sn gg al en fg mf ma gb c)) := by
  refine am_enter (n := 0) tk_98.2.1 (by simp [Value.category]) (Nat.le_of_ble_eq_true rfl) ?_
  show am_Good mi_98 0 [some (.ref 45), some (.retAddr t), some (.retAddr n)] [] (lea h sn gg al en fg mf ma gb c) _
  refine g_aload_n (i := 0) dd_98_0 rfl ?_
  refine g_getfield (k := 9) am_ck3 (by decide) (Or.inl w_235) dd_98_1 (lea_g45 hH) rfl ?_
  refine g_bipush dd_98_4 bi_m4 ?_
  refine g_icmp_ne_t (t := 14) dd_98_6 (by decide) (tk_ne_t (by omega)) ?_
  refine g_iload_n (i := 2) dd_98_14 rfl ?_
  refine g_aload_n (i := 0) dd_98_15 rfl ?_
  refine g_getfield (k := 10) am_ck3 (by decide) (Or.inl w_237) dd_98_16 (lea_g45 hH) rfl ?_
  refine g_icmp_ge_t (t := 37) dd_98_19 (by decide) (by first | exact sk_ge_t (by omega) (by omega) | exact tk_ge_t (by omega)) ?_
  exact g_return rfl dd_98_37
theorem lea_nm {h : am_H} (hH : lea_ok h) {v32 v30 : List Value} {f : Nat → Nat → Nat} {cl : Nat → Nat} (q32 : am_get h 32 = some (.inr (9, v32))) (q30 : am_get h 30 = some (.inr (2, v30))) (ck : ∀ sn gg al en fg mf ma gb c s t, s < 4 → t ≤ 60 → am_EG mi_68 [.ref 32, .retAddr s, .retAddr t] (lea h sn gg al en fg mf ma gb c) (some (.retAddr (f s t)), lea h sn gg al en fg mf ma gb c)) (cf : ∀ sn gg al en fg mf ma gb c x, x < 256 → am_EG mi_57 [.ref 30, .retAddr x] (lea h sn gg al en fg mf ma gb c) (some (.retAddr (cl x)), lea h sn gg al en fg mf ma gb c)) (hf : ∀ s t, f s t < 256) (hcl : ∀ x, x < 256 → cl x < 256) {sn gg al en fg mf ma gb c : Nat} {t n : Nat} (ht : t ≤ 60) (hn : n ≤ 20) (hgb : gb ≤ 7) (g_m : ma < 4294967296) : am_EG mi_98 [.ref 45, .retAddr t, .retAddr n] (lea h sn gg al en fg mf ma gb c) (none, (lea h sn gg al en (if n < gb then n else fg) (if n < gb then t else mf) (if ma = 4294967292 then t else ma) (if n < gb then n else gb) c)) := by
  by_cases h1 : ma = 4294967292
  · subst h1
    by_cases h2 : n < gb
    · simp only [if_pos h2, eq_self, if_true]; exact lea_nnb hH q32 q30 ck cf hf hcl ht hn hgb h2
    · simp only [if_neg h2, eq_self, if_true]; exact lea_nnk hH q32 q30 ck cf hf hcl ht hn hgb h2
  · by_cases h2 : n < gb
    · simp only [if_pos h2, if_neg h1]; exact lea_nsb hH q32 q30 ck cf hf hcl ht hn hgb h1 g_m h2
    · simp only [if_neg h2, if_neg h1]; exact lea_nsk hH q32 q30 ck cf hf hcl ht hn hgb h1 g_m h2
theorem lea_ps {h : am_H} (hH : lea_ok h) {v32 v30 : List Value} {f : Nat → Nat → Nat} {cl : Nat → Nat} (q32 : am_get h 32 = some (.inr (9, v32))) (q30 : am_get h 30 = some (.inr (2, v30))) (ck : ∀ sn gg al en fg mf ma gb c s t, s < 4 → t ≤ 60 → am_EG mi_68 [.ref 32, .retAddr s, .retAddr t] (lea h sn gg al en fg mf ma gb c) (some (.retAddr (f s t)), lea h sn gg al en fg mf ma gb c)) (cf : ∀ sn gg al en fg mf ma gb c x, x < 256 → am_EG mi_57 [.ref 30, .retAddr x] (lea h sn gg al en fg mf ma gb c) (some (.retAddr (cl x)), lea h sn gg al en fg mf ma gb c)) (hf : ∀ s t, f s t < 256) (hcl : ∀ x, x < 256 → cl x < 256) {sn gg al en fg mf ma gb c : Nat} {t s x n set : Nat} (ht : t ≤ 60) (hs : s < 4) (hx : x < 256) (hn : n ≤ 6) (hset : set < 256) (hgb : gb ≤ 7) (g_m : ma < 4294967296) (hc : x &&& set = set) : am_EG mi_97 [.ref 45, .retAddr t, .retAddr s, .retAddr x, .retAddr n, .retAddr set] (lea h sn gg al en fg mf ma gb c) (none, (lea h sn gg al en (if n < gb then n else fg) (if n < gb then t else mf) (if ma = 4294967292 then t else ma) (if n < gb then n else gb) c)) := by
  refine am_enter (n := 1) tk_97.2.1 (by simp [Value.category]) (Nat.le_of_ble_eq_true rfl) ?_
  show am_Good mi_97 0 [some (.ref 45), some (.retAddr t), some (.retAddr s), some (.retAddr x), some (.retAddr n), some (.retAddr set), none] [] (lea h sn gg al en fg mf ma gb c) _
  refine g_iload_n (i := 3) dd_97_0 rfl ?_
  refine g_iload dd_97_1 rfl ?_
  refine e_iand (v := x &&& set) dd_97_3 rfl ?_
  refine g_iload dd_97_4 rfl ?_
  refine g_icmp_ne_f (t := 17) dd_97_6 (by decide) (tk_ne_f (by omega)) ?_
  refine g_aload_n (i := 0) dd_97_9 rfl ?_
  refine g_iload_n (i := 1) dd_97_10 rfl ?_
  refine g_iload dd_97_11 rfl ?_
  refine g_virtual (M' := mi_98) (n := 2) (ci := 3) (b := 45) (as := [.retAddr t, .retAddr n]) (st := []) (r1 := (none, (lea h sn gg al en (if n < gb then n else fg) (if n < gb then t else mf) (if ma = 4294967292 then t else ma) (if n < gb then n else gb) c))) w_781 w_783 ps_98 ⟨lk_98.1, lk_98.2.1, lk_98.2.2, by decide, by decide⟩ rfl (lea_g45 hH) rfl (by simp [Value.category]) dd_97_13 (lea_nm hH q32 q30 ck cf hf hcl ht (by omega) hgb g_m) ?_
  show am_Good mi_97 16 [some (.ref 45), some (.retAddr t), some (.retAddr s), some (.retAddr x), some (.retAddr n), some (.retAddr set), none] [] (lea h sn gg al en (if n < gb then n else fg) (if n < gb then t else mf) (if ma = 4294967292 then t else ma) (if n < gb then n else gb) c) _
  exact g_return rfl dd_97_16
theorem lea_pu {h : am_H} (hH : lea_ok h) {v32 v30 : List Value} {f : Nat → Nat → Nat} {cl : Nat → Nat} (q32 : am_get h 32 = some (.inr (9, v32))) (q30 : am_get h 30 = some (.inr (2, v30))) (ck : ∀ sn gg al en fg mf ma gb c s t, s < 4 → t ≤ 60 → am_EG mi_68 [.ref 32, .retAddr s, .retAddr t] (lea h sn gg al en fg mf ma gb c) (some (.retAddr (f s t)), lea h sn gg al en fg mf ma gb c)) (cf : ∀ sn gg al en fg mf ma gb c x, x < 256 → am_EG mi_57 [.ref 30, .retAddr x] (lea h sn gg al en fg mf ma gb c) (some (.retAddr (cl x)), lea h sn gg al en fg mf ma gb c)) (hf : ∀ s t, f s t < 256) (hcl : ∀ x, x < 256 → cl x < 256) {sn gg al en fg mf ma gb c : Nat} {t s x n set : Nat} (ht : t ≤ 60) (hs : s < 4) (hx : x < 256) (hn : n ≤ 6) (hset : set < 256) {c2 : Nat} {r : am_R} (hc : ¬ x &&& set = set) (e1_ : am_EG mi_99 [.ref 45, .retAddr t, .retAddr s, .retAddr x, .retAddr n] (lea h sn gg al en fg mf ma gb c) (none, (lea h sn gg al en fg mf ma gb c2))) (hg : am_Good mi_97 29 [some (.ref 45), some (.retAddr t), some (.retAddr s), some (.retAddr x), some (.retAddr n), some (.retAddr set), some (.retAddr 0)] [] (lea h sn gg al en fg mf ma gb c2) r) : am_EG mi_97 [.ref 45, .retAddr t, .retAddr s, .retAddr x, .retAddr n, .retAddr set] (lea h sn gg al en fg mf ma gb c) r := by
  refine am_enter (n := 1) tk_97.2.1 (by simp [Value.category]) (Nat.le_of_ble_eq_true rfl) ?_
  show am_Good mi_97 0 [some (.ref 45), some (.retAddr t), some (.retAddr s), some (.retAddr x), some (.retAddr n), some (.retAddr set), none] [] (lea h sn gg al en fg mf ma gb c) _
  have xl : x &&& set < 256 := Nat.lt_of_le_of_lt Nat.and_le_left hx
  refine g_iload_n (i := 3) dd_97_0 rfl ?_
  refine g_iload dd_97_1 rfl ?_
  refine e_iand (v := x &&& set) dd_97_3 rfl ?_
  refine g_iload dd_97_4 rfl ?_
  refine g_icmp_ne_t (t := 17) dd_97_6 (by decide) (tk_ne_t (by omega)) ?_
  refine g_aload_n (i := 0) dd_97_17 rfl ?_
  refine g_iload_n (i := 1) dd_97_18 rfl ?_
  refine g_iload_n (i := 2) dd_97_19 rfl ?_
  refine g_iload_n (i := 3) dd_97_20 rfl ?_
  refine g_iload dd_97_21 rfl ?_
  refine g_virtual (M' := mi_99) (n := 4) (ci := 3) (b := 45) (as := [.retAddr t, .retAddr s, .retAddr x, .retAddr n]) (st := []) (r1 := (none, (lea h sn gg al en fg mf ma gb c2))) w_785 w_787 ps_99 ⟨lk_99.1, lk_99.2.1, lk_99.2.2, by decide, by decide⟩ rfl (lea_g45 hH) rfl (by simp [Value.category]) dd_97_23 (e1_) ?_
  show am_Good mi_97 26 [some (.ref 45), some (.retAddr t), some (.retAddr s), some (.retAddr x), some (.retAddr n), some (.retAddr set), none] [] (lea h sn gg al en fg mf ma gb c2) _
  refine g_iconst dd_97_26 ic_0 ?_
  refine g_istore dd_97_27 (am_nlb_ok rfl) (by decide) ?_
  exact hg
theorem lea_pe {h : am_H} (hH : lea_ok h) {v32 v30 : List Value} {f : Nat → Nat → Nat} {cl : Nat → Nat} (q32 : am_get h 32 = some (.inr (9, v32))) (q30 : am_get h 30 = some (.inr (2, v30))) (ck : ∀ sn gg al en fg mf ma gb c s t, s < 4 → t ≤ 60 → am_EG mi_68 [.ref 32, .retAddr s, .retAddr t] (lea h sn gg al en fg mf ma gb c) (some (.retAddr (f s t)), lea h sn gg al en fg mf ma gb c)) (cf : ∀ sn gg al en fg mf ma gb c x, x < 256 → am_EG mi_57 [.ref 30, .retAddr x] (lea h sn gg al en fg mf ma gb c) (some (.retAddr (cl x)), lea h sn gg al en fg mf ma gb c)) (hf : ∀ s t, f s t < 256) (hcl : ∀ x, x < 256 → cl x < 256) {sn gg al en fg mf ma gb c : Nat} {t s x n set : Nat} (ht : t ≤ 60) (hs : s < 4) (hx : x < 256) (hn : n ≤ 6) (hset : set < 256) (hsn : sn ≤ 4) : am_Good mi_97 29 [some (.ref 45), some (.retAddr t), some (.retAddr s), some (.retAddr x), some (.retAddr n), some (.retAddr set), some (.retAddr sn)] [] (lea h sn gg al en fg mf ma gb c) (none, (lea h sn gg al en fg mf ma gb c)) := by
  refine g_iload dd_97_29 rfl ?_
  refine g_aload_n (i := 0) dd_97_31 rfl ?_
  refine g_getfield (k := 3) am_ck3 (by decide) (Or.inl w_227) dd_97_32 (lea_g45 hH) rfl ?_
  refine g_icmp_ge_t (t := 95) dd_97_35 (by decide) (by first | exact sk_ge_t (by omega) (by omega) | exact tk_ge_t (by omega)) ?_
  exact g_return rfl dd_97_95
theorem lea_pi0 {h : am_H} (hH : lea_ok h) {v32 v30 : List Value} {f : Nat → Nat → Nat} {cl : Nat → Nat} (q32 : am_get h 32 = some (.inr (9, v32))) (q30 : am_get h 30 = some (.inr (2, v30))) (ck : ∀ sn gg al en fg mf ma gb c s t, s < 4 → t ≤ 60 → am_EG mi_68 [.ref 32, .retAddr s, .retAddr t] (lea h sn gg al en fg mf ma gb c) (some (.retAddr (f s t)), lea h sn gg al en fg mf ma gb c)) (cf : ∀ sn gg al en fg mf ma gb c x, x < 256 → am_EG mi_57 [.ref 30, .retAddr x] (lea h sn gg al en fg mf ma gb c) (some (.retAddr (cl x)), lea h sn gg al en fg mf ma gb c)) (hf : ∀ s t, f s t < 256) (hcl : ∀ x, x < 256 → cl x < 256) {sn gg al en fg mf ma gb c : Nat} {t s x n set : Nat} (ht : t ≤ 60) (hs : s < 4) (hx : x < 256) (hn : n ≤ 6) (hset : set < 256) {g : Nat} {r : am_R} (hsn : sn ≤ 4) (hg4 : g < sn) (hgg : gg ≤ 3) (hc : g = s) (hg : am_Good mi_97 29 [some (.ref 45), some (.retAddr t), some (.retAddr s), some (.retAddr x), some (.retAddr n), some (.retAddr set), some (.retAddr (g + 1))] [] (lea h sn gg al en fg mf ma gb c) r) : am_Good mi_97 29 [some (.ref 45), some (.retAddr t), some (.retAddr s), some (.retAddr x), some (.retAddr n), some (.retAddr set), some (.retAddr g)] [] (lea h sn gg al en fg mf ma gb c) r := by
  refine g_iload dd_97_29 rfl ?_
  refine g_aload_n (i := 0) dd_97_31 rfl ?_
  refine g_getfield (k := 3) am_ck3 (by decide) (Or.inl w_227) dd_97_32 (lea_g45 hH) rfl ?_
  refine g_icmp_ge_f (t := 95) dd_97_35 (by decide) (by first | exact sk_ge_f (by omega) (by omega) | exact tk_ge_f (by omega)) ?_
  refine g_iload dd_97_38 rfl ?_
  refine g_iload_n (i := 2) dd_97_40 rfl ?_
  refine g_icmp_eq_t (t := 66) dd_97_41 (by decide) (tk_eq_t (by omega)) ?_
  refine g_iload dd_97_66 rfl ?_
  refine g_iload_n (i := 2) dd_97_68 rfl ?_
  refine g_icmp_eq_t (t := 89) dd_97_69 (by decide) (tk_eq_t (by omega)) ?_
  refine e_iinc (v := 1) (w := g + 1) dd_97_89 rfl ic_1 (am_nlb_ok rfl) (by decide) (by omega) ?_
  refine g_goto (t := 29) dd_97_92 (by decide) ?_
  exact hg
theorem lea_pi1 {h : am_H} (hH : lea_ok h) {v32 v30 : List Value} {f : Nat → Nat → Nat} {cl : Nat → Nat} (q32 : am_get h 32 = some (.inr (9, v32))) (q30 : am_get h 30 = some (.inr (2, v30))) (ck : ∀ sn gg al en fg mf ma gb c s t, s < 4 → t ≤ 60 → am_EG mi_68 [.ref 32, .retAddr s, .retAddr t] (lea h sn gg al en fg mf ma gb c) (some (.retAddr (f s t)), lea h sn gg al en fg mf ma gb c)) (cf : ∀ sn gg al en fg mf ma gb c x, x < 256 → am_EG mi_57 [.ref 30, .retAddr x] (lea h sn gg al en fg mf ma gb c) (some (.retAddr (cl x)), lea h sn gg al en fg mf ma gb c)) (hf : ∀ s t, f s t < 256) (hcl : ∀ x, x < 256 → cl x < 256) {sn gg al en fg mf ma gb c : Nat} {t s x n set : Nat} (ht : t ≤ 60) (hs : s < 4) (hx : x < 256) (hn : n ≤ 6) (hset : set < 256) {g : Nat} {r : am_R} (hsn : sn ≤ 4) (hg4 : g < sn) (hgg : gg ≤ 3) {c2 : Nat} (hc : g ≠ s) (h0 : gg = 0) (e1_ : am_EG mi_99 [.ref 45, .retAddr t, .retAddr g, .retAddr x, .retAddr (n + 1)] (lea h sn gg al en fg mf ma gb c) (none, (lea h sn gg al en fg mf ma gb c2))) (hg : am_Good mi_97 29 [some (.ref 45), some (.retAddr t), some (.retAddr s), some (.retAddr x), some (.retAddr n), some (.retAddr set), some (.retAddr (g + 1))] [] (lea h sn gg al en fg mf ma gb c2) r) : am_Good mi_97 29 [some (.ref 45), some (.retAddr t), some (.retAddr s), some (.retAddr x), some (.retAddr n), some (.retAddr set), some (.retAddr g)] [] (lea h sn gg al en fg mf ma gb c) r := by
  refine g_iload dd_97_29 rfl ?_
  refine g_aload_n (i := 0) dd_97_31 rfl ?_
  refine g_getfield (k := 3) am_ck3 (by decide) (Or.inl w_227) dd_97_32 (lea_g45 hH) rfl ?_
  refine g_icmp_ge_f (t := 95) dd_97_35 (by decide) (by first | exact sk_ge_f (by omega) (by omega) | exact tk_ge_f (by omega)) ?_
  refine g_iload dd_97_38 rfl ?_
  refine g_iload_n (i := 2) dd_97_40 rfl ?_
  refine g_icmp_eq_f (t := 66) dd_97_41 (by decide) (tk_eq_f (by omega)) ?_
  refine g_aload_n (i := 0) dd_97_44 rfl ?_
  refine g_getfield (k := 4) am_ck3 (by decide) (Or.inl w_228) dd_97_45 (lea_g45 hH) rfl ?_
  refine g_if_ne_f (t := 66) dd_97_48 (by decide) (tk_ne_f (by omega)) ?_
  refine g_aload_n (i := 0) dd_97_51 rfl ?_
  refine g_iload_n (i := 1) dd_97_52 rfl ?_
  refine g_iload dd_97_53 rfl ?_
  refine g_iload_n (i := 3) dd_97_55 rfl ?_
  refine g_iload dd_97_56 rfl ?_
  refine g_iconst dd_97_58 ic_1 ?_
  refine e_iadd (v := n + 1) dd_97_59 (by omega) ?_
  refine g_virtual (M' := mi_99) (n := 4) (ci := 3) (b := 45) (as := [.retAddr t, .retAddr g, .retAddr x, .retAddr (n + 1)]) (st := []) (r1 := (none, (lea h sn gg al en fg mf ma gb c2))) w_785 w_787 ps_99 ⟨lk_99.1, lk_99.2.1, lk_99.2.2, by decide, by decide⟩ rfl (lea_g45 hH) rfl (by simp [Value.category]) dd_97_60 (e1_) ?_
  show am_Good mi_97 63 [some (.ref 45), some (.retAddr t), some (.retAddr s), some (.retAddr x), some (.retAddr n), some (.retAddr set), some (.retAddr g)] [] (lea h sn gg al en fg mf ma gb c2) _
  refine g_goto (t := 89) dd_97_63 (by decide) ?_
  refine e_iinc (v := 1) (w := g + 1) dd_97_89 rfl ic_1 (am_nlb_ok rfl) (by decide) (by omega) ?_
  refine g_goto (t := 29) dd_97_92 (by decide) ?_
  exact hg
theorem lea_pi2 {h : am_H} (hH : lea_ok h) {v32 v30 : List Value} {f : Nat → Nat → Nat} {cl : Nat → Nat} (q32 : am_get h 32 = some (.inr (9, v32))) (q30 : am_get h 30 = some (.inr (2, v30))) (ck : ∀ sn gg al en fg mf ma gb c s t, s < 4 → t ≤ 60 → am_EG mi_68 [.ref 32, .retAddr s, .retAddr t] (lea h sn gg al en fg mf ma gb c) (some (.retAddr (f s t)), lea h sn gg al en fg mf ma gb c)) (cf : ∀ sn gg al en fg mf ma gb c x, x < 256 → am_EG mi_57 [.ref 30, .retAddr x] (lea h sn gg al en fg mf ma gb c) (some (.retAddr (cl x)), lea h sn gg al en fg mf ma gb c)) (hf : ∀ s t, f s t < 256) (hcl : ∀ x, x < 256 → cl x < 256) {sn gg al en fg mf ma gb c : Nat} {t s x n set : Nat} (ht : t ≤ 60) (hs : s < 4) (hx : x < 256) (hn : n ≤ 6) (hset : set < 256) {g : Nat} {r : am_R} (hsn : sn ≤ 4) (hg4 : g < sn) (hgg : gg ≤ 3) {c2 : Nat} (hc : g ≠ s) (h0 : gg ≠ 0) (e1_ : am_EG mi_93 [.ref 45, .retAddr (t + gg), .retAddr g, .retAddr x, .retAddr (n + 1)] (lea h sn gg al en fg mf ma gb c) (none, (lea h sn gg al en fg mf ma gb c2))) (hg : am_Good mi_97 29 [some (.ref 45), some (.retAddr t), some (.retAddr s), some (.retAddr x), some (.retAddr n), some (.retAddr set), some (.retAddr (g + 1))] [] (lea h sn gg al en fg mf ma gb c2) r) : am_Good mi_97 29 [some (.ref 45), some (.retAddr t), some (.retAddr s), some (.retAddr x), some (.retAddr n), some (.retAddr set), some (.retAddr g)] [] (lea h sn gg al en fg mf ma gb c) r := by
  refine g_iload dd_97_29 rfl ?_
  refine g_aload_n (i := 0) dd_97_31 rfl ?_
  refine g_getfield (k := 3) am_ck3 (by decide) (Or.inl w_227) dd_97_32 (lea_g45 hH) rfl ?_
  refine g_icmp_ge_f (t := 95) dd_97_35 (by decide) (by first | exact sk_ge_f (by omega) (by omega) | exact tk_ge_f (by omega)) ?_
  refine g_iload dd_97_38 rfl ?_
  refine g_iload_n (i := 2) dd_97_40 rfl ?_
  refine g_icmp_eq_f (t := 66) dd_97_41 (by decide) (tk_eq_f (by omega)) ?_
  refine g_aload_n (i := 0) dd_97_44 rfl ?_
  refine g_getfield (k := 4) am_ck3 (by decide) (Or.inl w_228) dd_97_45 (lea_g45 hH) rfl ?_
  refine g_if_ne_t (t := 66) dd_97_48 (by decide) (tk_ne_t (by omega)) ?_
  refine g_iload dd_97_66 rfl ?_
  refine g_iload_n (i := 2) dd_97_68 rfl ?_
  refine g_icmp_eq_f (t := 89) dd_97_69 (by decide) (tk_eq_f (by omega)) ?_
  refine g_aload_n (i := 0) dd_97_72 rfl ?_
  refine g_iload_n (i := 1) dd_97_73 rfl ?_
  refine g_aload_n (i := 0) dd_97_74 rfl ?_
  refine g_getfield (k := 4) am_ck3 (by decide) (Or.inl w_228) dd_97_75 (lea_g45 hH) rfl ?_
  refine e_iadd (v := t + gg) dd_97_78 (by omega) ?_
  refine g_iload dd_97_79 rfl ?_
  refine g_iload_n (i := 3) dd_97_81 rfl ?_
  refine g_iload dd_97_82 rfl ?_
  refine g_iconst dd_97_84 ic_1 ?_
  refine e_iadd (v := n + 1) dd_97_85 (by omega) ?_
  refine g_virtual (M' := mi_93) (n := 4) (ci := 3) (b := 45) (as := [.retAddr (t + gg), .retAddr g, .retAddr x, .retAddr (n + 1)]) (st := []) (r1 := (none, (lea h sn gg al en fg mf ma gb c2))) w_763 w_765 ps_93 ⟨lk_93.1, lk_93.2.1, lk_93.2.2, by decide, by decide⟩ rfl (lea_g45 hH) rfl (by simp [Value.category]) dd_97_86 (e1_) ?_
  show am_Good mi_97 89 [some (.ref 45), some (.retAddr t), some (.retAddr s), some (.retAddr x), some (.retAddr n), some (.retAddr set), some (.retAddr g)] [] (lea h sn gg al en fg mf ma gb c2) _
  refine e_iinc (v := 1) (w := g + 1) dd_97_89 rfl ic_1 (am_nlb_ok rfl) (by decide) (by omega) ?_
  refine g_goto (t := 29) dd_97_92 (by decide) ?_
  exact hg
theorem lea_pl {h : am_H} (hH : lea_ok h) {v32 v30 : List Value} {f : Nat → Nat → Nat} {cl : Nat → Nat} (q32 : am_get h 32 = some (.inr (9, v32))) (q30 : am_get h 30 = some (.inr (2, v30))) (ck : ∀ sn gg al en fg mf ma gb c s t, s < 4 → t ≤ 60 → am_EG mi_68 [.ref 32, .retAddr s, .retAddr t] (lea h sn gg al en fg mf ma gb c) (some (.retAddr (f s t)), lea h sn gg al en fg mf ma gb c)) (cf : ∀ sn gg al en fg mf ma gb c x, x < 256 → am_EG mi_57 [.ref 30, .retAddr x] (lea h sn gg al en fg mf ma gb c) (some (.retAddr (cl x)), lea h sn gg al en fg mf ma gb c)) (hf : ∀ s t, f s t < 256) (hcl : ∀ x, x < 256 → cl x < 256) {sn gg al en fg mf ma gb : Nat} {e : Nat → Nat} {t s x n set : Nat} (ht : t ≤ 60) (hs : s < 4) (hx : x < 256) (hn : n ≤ 6) (hset : set < 256) (hsn : sn ≤ 4) (hgg : gg ≤ 3) (hen : en ≤ 60) (hgb : gb ≤ 7) (h9 : ∀ i, e i ≤ 99) : ∀ (k g c : Nat), g + k = sn → (∀ i, i < 4096 → am_ag c i = lz_t (lz_okc en gb) lz_ixc cl f gg t s x n e g i) → ∃ c', (∀ i, i < 4096 → am_ag c' i = lz_t (lz_okc en gb) lz_ixc cl f gg t s x n e sn i) ∧ am_Good mi_97 29 [some (.ref 45), some (.retAddr t), some (.retAddr s), some (.retAddr x), some (.retAddr n), some (.retAddr set), some (.retAddr g)] [] (lea h sn gg al en fg mf ma gb c) (none, (lea h sn gg al en fg mf ma gb (c')))
  | 0, g, c, eq, hc => by
    have e' : g = sn := by omega
    subst e'
    exact ⟨c, hc, lea_pe hH q32 q30 ck cf hf hcl ht hs hx hn hset hsn⟩
  | k + 1, g, c, eq, hc => by
    have hg4 : g < sn := by omega
    have st : lz_t (lz_okc en gb) lz_ixc cl f gg t s x n e (g + 1) = if g = s then lz_t (lz_okc en gb) lz_ixc cl f gg t s x n e g else lz_cm (lz_okc en gb) lz_ixc (lz_t (lz_okc en gb) lz_ixc cl f gg t s x n e g) (lz_T gg t) g (lz_X cl f gg t g x) (n + 1) := rfl
    by_cases q : g = s
    · rw [if_pos q] at st
      obtain ⟨c', a, b⟩ := lea_pl hH q32 q30 ck cf hf hcl (al := al) (fg := fg) (mf := mf) (ma := ma) ht hs hx hn hset hsn hgg hen hgb h9 k (g + 1) c (by omega) (by rw [st]; exact hc)
      exact ⟨c', a, lea_pi0 hH q32 q30 ck cf hf hcl ht hs hx hn hset hsn hg4 hgg q b⟩
    · rw [if_neg q] at st
      by_cases z : gg = 0
      · have eT : lz_T gg t = t + 1 := if_pos z
        have eX : lz_X cl f gg t g x = cl (x ||| f g t) := if_pos z
        rw [eT, eX] at st
        obtain ⟨c1, a1, b1⟩ := lea_rm hH q32 q30 ck cf hf hcl (sn := sn) (gg := gg) (al := al) (fg := fg) (mf := mf) (ma := ma) (t := t + 1) (s := g) (x := cl (x ||| f g t)) (n := n + 1) (by omega) (by omega) (hcl _ (lz_or_lt hx (hf _ _))) (by omega) hen hgb hc (lz_t_99 h9 g)
        obtain ⟨c', a, b⟩ := lea_pl hH q32 q30 ck cf hf hcl (al := al) (fg := fg) (mf := mf) (ma := ma) ht hs hx hn hset hsn hgg hen hgb h9 k (g + 1) c1 (by omega) (by rw [st]; exact a1)
        exact ⟨c', a, lea_pi1 hH q32 q30 ck cf hf hcl ht hs hx hn hset hsn hg4 hgg q z (lea_ss hH q32 q30 ck cf hf hcl ht (by omega) hx b1) b⟩
      · have eT : lz_T gg t = t + gg := if_neg z
        have eX : lz_X cl f gg t g x = x := if_neg z
        rw [eT, eX] at st
        obtain ⟨c1, a1, b1⟩ := lea_rm hH q32 q30 ck cf hf hcl (sn := sn) (gg := gg) (al := al) (fg := fg) (mf := mf) (ma := ma) (t := t + gg) (s := g) (x := x) (n := n + 1) (by omega) (by omega) hx (by omega) hen hgb hc (lz_t_99 h9 g)
        obtain ⟨c', a, b⟩ := lea_pl hH q32 q30 ck cf hf hcl (al := al) (fg := fg) (mf := mf) (ma := ma) ht hs hx hn hset hsn hgg hen hgb h9 k (g + 1) c1 (by omega) (by rw [st]; exact a1)
        exact ⟨c', a, lea_pi2 hH q32 q30 ck cf hf hcl ht hs hx hn hset hsn hg4 hgg q z b1 b⟩
theorem lea_pp {h : am_H} (hH : lea_ok h) {v32 v30 : List Value} {f : Nat → Nat → Nat} {cl : Nat → Nat} (q32 : am_get h 32 = some (.inr (9, v32))) (q30 : am_get h 30 = some (.inr (2, v30))) (ck : ∀ sn gg al en fg mf ma gb c s t, s < 4 → t ≤ 60 → am_EG mi_68 [.ref 32, .retAddr s, .retAddr t] (lea h sn gg al en fg mf ma gb c) (some (.retAddr (f s t)), lea h sn gg al en fg mf ma gb c)) (cf : ∀ sn gg al en fg mf ma gb c x, x < 256 → am_EG mi_57 [.ref 30, .retAddr x] (lea h sn gg al en fg mf ma gb c) (some (.retAddr (cl x)), lea h sn gg al en fg mf ma gb c)) (hf : ∀ s t, f s t < 256) (hcl : ∀ x, x < 256 → cl x < 256) {sn gg al en fg mf ma gb c : Nat} {e : Nat → Nat} {t s x n set : Nat} (ht : t ≤ 60) (hs : s < 4) (hx : x < 256) (hn : n ≤ 6) (hset : set < 256) (hsn : sn ≤ 4) (hgg : gg ≤ 3) (hen : en ≤ 60) (hgb : gb ≤ 7) (h9 : ∀ i, e i ≤ 99) (hc : ∀ i, i < 4096 → am_ag c i = e i) (hu : ¬ x &&& set = set) : ∃ c', (∀ i, i < 4096 → am_ag c' i = lz_p (lz_okc en gb) lz_ixc cl f gg sn t s x n e i) ∧ am_EG mi_97 [.ref 45, .retAddr t, .retAddr s, .retAddr x, .retAddr n, .retAddr set] (lea h sn gg al en fg mf ma gb c) (none, (lea h sn gg al en fg mf ma gb (c'))) := by
  obtain ⟨c1, a1, b1⟩ := lea_rm hH q32 q30 ck cf hf hcl (sn := sn) (gg := gg) (al := al) (fg := fg) (mf := mf) (ma := ma) (t := t + 1) (s := s) (x := cl (x ||| f s t)) (n := n) (by omega) (by omega) (hcl _ (lz_or_lt hx (hf _ _))) (by omega) hen hgb hc h9
  obtain ⟨c', a, b⟩ := lea_pl hH q32 q30 ck cf hf hcl (al := al) (fg := fg) (mf := mf) (ma := ma) (e := lz_cm (lz_okc en gb) lz_ixc e (t + 1) s (cl (x ||| f s t)) n) ht hs hx hn hset hsn hgg hen hgb (lz_cm_99 h9) sn 0 c1 (by omega) a1
  exact ⟨c', a, lea_pu hH q32 q30 ck cf hf hcl ht hs hx hn hset hu (lea_ss hH q32 q30 ck cf hf hcl ht hs hx b1) b⟩
theorem lea_ke {h : am_H} (hH : lea_ok h) {v32 v30 : List Value} {f : Nat → Nat → Nat} {cl : Nat → Nat} (q32 : am_get h 32 = some (.inr (9, v32))) (q30 : am_get h 30 = some (.inr (2, v30))) (ck : ∀ sn gg al en fg mf ma gb c s t, s < 4 → t ≤ 60 → am_EG mi_68 [.ref 32, .retAddr s, .retAddr t] (lea h sn gg al en fg mf ma gb c) (some (.retAddr (f s t)), lea h sn gg al en fg mf ma gb c)) (cf : ∀ sn gg al en fg mf ma gb c x, x < 256 → am_EG mi_57 [.ref 30, .retAddr x] (lea h sn gg al en fg mf ma gb c) (some (.retAddr (cl x)), lea h sn gg al en fg mf ma gb c)) (hf : ∀ s t, f s t < 256) (hcl : ∀ x, x < 256 → cl x < 256) {sn gg al en fg mf ma gb c : Nat} {t s set : Nat} (ht : t ≤ 60) (hs : s < 4) (hset : set < 256) {v6 : Option Value} {k : Nat} (hk : ¬ k ≤ al) (hk2 : k ≤ 300) (hal : al < 256) : am_Good mi_96 11 [some (.ref 45), some (.retAddr t), some (.retAddr s), some (.retAddr set), some (.retAddr (lz_ixc t s 0)), some (.retAddr k), v6] [] (lea h sn gg al en fg mf ma gb c) (none, (lea h sn gg al en fg mf ma gb c)) := by
  refine g_iload dd_96_11 rfl ?_
  refine g_aload_n (i := 0) dd_96_13 rfl ?_
  refine g_getfield (k := 5) am_ck3 (by decide) (Or.inl w_229) dd_96_14 (lea_g45 hH) rfl ?_
  refine g_icmp_gt_t (t := 81) dd_96_17 (by decide) (by first | exact sk_gt_t (by omega) (by omega) | exact tk_gt_t (by omega)) ?_
  exact g_return rfl dd_96_81
theorem lea_k0 {h : am_H} (hH : lea_ok h) {v32 v30 : List Value} {f : Nat → Nat → Nat} {cl : Nat → Nat} (q32 : am_get h 32 = some (.inr (9, v32))) (q30 : am_get h 30 = some (.inr (2, v30))) (ck : ∀ sn gg al en fg mf ma gb c s t, s < 4 → t ≤ 60 → am_EG mi_68 [.ref 32, .retAddr s, .retAddr t] (lea h sn gg al en fg mf ma gb c) (some (.retAddr (f s t)), lea h sn gg al en fg mf ma gb c)) (cf : ∀ sn gg al en fg mf ma gb c x, x < 256 → am_EG mi_57 [.ref 30, .retAddr x] (lea h sn gg al en fg mf ma gb c) (some (.retAddr (cl x)), lea h sn gg al en fg mf ma gb c)) (hf : ∀ s t, f s t < 256) (hcl : ∀ x, x < 256 → cl x < 256) {sn gg al en fg mf ma gb c : Nat} {t s set : Nat} (ht : t ≤ 60) (hs : s < 4) (hset : set < 256) {v6 : Option Value} {k : Nat} {r : am_R} (hk : k ≤ al) (hal : al < 256) (hv : am_ag c (lz_ixc t s k) = 99) (hg : am_Good mi_96 11 [some (.ref 45), some (.retAddr t), some (.retAddr s), some (.retAddr set), some (.retAddr (lz_ixc t s 0)), some (.retAddr (k + 1)), some (.retAddr (am_ag c (lz_ixc t s k)))] [] (lea h sn gg al en fg mf ma gb c) r) : am_Good mi_96 11 [some (.ref 45), some (.retAddr t), some (.retAddr s), some (.retAddr set), some (.retAddr (lz_ixc t s 0)), some (.retAddr k), v6] [] (lea h sn gg al en fg mf ma gb c) r := by
  have ii := lz_ixc_lt (u := t) hs (show k < 256 by omega)
  refine g_iload dd_96_11 rfl ?_
  refine g_aload_n (i := 0) dd_96_13 rfl ?_
  refine g_getfield (k := 5) am_ck3 (by decide) (Or.inl w_229) dd_96_14 (lea_g45 hH) rfl ?_
  refine g_icmp_gt_f (t := 81) dd_96_17 (by decide) (by first | exact sk_gt_f (by omega) (by omega) | exact tk_gt_f (by omega)) ?_
  refine g_iload dd_96_20 rfl ?_
  refine g_iload dd_96_22 rfl ?_
  refine e_iadd (v := lz_ixc t s k) dd_96_24 (by unfold lz_ixc; omega) ?_
  refine g_aload_n (i := 0) dd_96_25 rfl ?_
  refine g_getfield (k := 0) am_ck3 (by decide) (Or.inl w_224) dd_96_26 (lea_g45 hH) rfl ?_
  refine g_alen dd_96_29 (lea_g46 hH) (by decide) ?_
  refine g_icmp_ge_f (t := 81) dd_96_30 (by decide) (by first | exact sk_ge_f (by omega) (by omega) | exact tk_ge_f (by omega)) ?_
  refine g_aload_n (i := 0) dd_96_33 rfl ?_
  refine g_getfield (k := 0) am_ck3 (by decide) (Or.inl w_224) dd_96_34 (lea_g45 hH) rfl ?_
  refine g_iload dd_96_37 rfl ?_
  refine g_iload dd_96_39 rfl ?_
  refine e_iadd (v := lz_ixc t s k) dd_96_41 (by unfold lz_ixc; omega) ?_
  refine g_iaload dd_96_42 (lea_g46 hH) (by omega) (by decide) ?_
  have hl_1 := am_ag_lt c (lz_ixc t s k)
  refine g_istore dd_96_43 (am_nlb_ok rfl) (by decide) ?_
  refine g_iload dd_96_45 rfl ?_
  refine g_bipush dd_96_47 bi_99 ?_
  refine g_icmp_eq_t (t := 75) dd_96_49 (by decide) (tk_eq_t (by omega)) ?_
  refine e_iinc (v := 1) (w := k + 1) dd_96_75 rfl ic_1 (am_nlb_ok rfl) (by decide) (by omega) ?_
  refine g_goto (t := 11) dd_96_78 (by decide) ?_
  exact hg
theorem lea_k1 {h : am_H} (hH : lea_ok h) {v32 v30 : List Value} {f : Nat → Nat → Nat} {cl : Nat → Nat} (q32 : am_get h 32 = some (.inr (9, v32))) (q30 : am_get h 30 = some (.inr (2, v30))) (ck : ∀ sn gg al en fg mf ma gb c s t, s < 4 → t ≤ 60 → am_EG mi_68 [.ref 32, .retAddr s, .retAddr t] (lea h sn gg al en fg mf ma gb c) (some (.retAddr (f s t)), lea h sn gg al en fg mf ma gb c)) (cf : ∀ sn gg al en fg mf ma gb c x, x < 256 → am_EG mi_57 [.ref 30, .retAddr x] (lea h sn gg al en fg mf ma gb c) (some (.retAddr (cl x)), lea h sn gg al en fg mf ma gb c)) (hf : ∀ s t, f s t < 256) (hcl : ∀ x, x < 256 → cl x < 256) {sn gg al en fg mf ma gb c : Nat} {t s set : Nat} (ht : t ≤ 60) (hs : s < 4) (hset : set < 256) {v6 : Option Value} {k fg2 mf2 ma2 gb2 c2 : Nat} {r : am_R} (hk : k ≤ al) (hal : al < 256) (hv : am_ag c (lz_ixc t s k) ≠ 99) (e1_ : am_EG mi_97 [.ref 45, .retAddr t, .retAddr s, .retAddr k, .retAddr (am_ag c (lz_ixc t s k)), .retAddr set] (lea h sn gg al en fg mf ma gb (am_as c (lz_ixc t s k) 99)) (none, (lea h sn gg al en fg2 mf2 ma2 gb2 c2))) (hg : am_Good mi_96 11 [some (.ref 45), some (.retAddr t), some (.retAddr s), some (.retAddr set), some (.retAddr (lz_ixc t s 0)), some (.retAddr (k + 1)), some (.retAddr (am_ag c (lz_ixc t s k)))] [] (lea h sn gg al en fg2 mf2 ma2 gb2 c2) r) : am_Good mi_96 11 [some (.ref 45), some (.retAddr t), some (.retAddr s), some (.retAddr set), some (.retAddr (lz_ixc t s 0)), some (.retAddr k), v6] [] (lea h sn gg al en fg mf ma gb c) r := by
  have ii := lz_ixc_lt (u := t) hs (show k < 256 by omega)
  refine g_iload dd_96_11 rfl ?_
  refine g_aload_n (i := 0) dd_96_13 rfl ?_
  refine g_getfield (k := 5) am_ck3 (by decide) (Or.inl w_229) dd_96_14 (lea_g45 hH) rfl ?_
  refine g_icmp_gt_f (t := 81) dd_96_17 (by decide) (by first | exact sk_gt_f (by omega) (by omega) | exact tk_gt_f (by omega)) ?_
  refine g_iload dd_96_20 rfl ?_
  refine g_iload dd_96_22 rfl ?_
  refine e_iadd (v := lz_ixc t s k) dd_96_24 (by unfold lz_ixc; omega) ?_
  refine g_aload_n (i := 0) dd_96_25 rfl ?_
  refine g_getfield (k := 0) am_ck3 (by decide) (Or.inl w_224) dd_96_26 (lea_g45 hH) rfl ?_
  refine g_alen dd_96_29 (lea_g46 hH) (by decide) ?_
  refine g_icmp_ge_f (t := 81) dd_96_30 (by decide) (by first | exact sk_ge_f (by omega) (by omega) | exact tk_ge_f (by omega)) ?_
  refine g_aload_n (i := 0) dd_96_33 rfl ?_
  refine g_getfield (k := 0) am_ck3 (by decide) (Or.inl w_224) dd_96_34 (lea_g45 hH) rfl ?_
  refine g_iload dd_96_37 rfl ?_
  refine g_iload dd_96_39 rfl ?_
  refine e_iadd (v := lz_ixc t s k) dd_96_41 (by unfold lz_ixc; omega) ?_
  refine g_iaload dd_96_42 (lea_g46 hH) (by omega) (by decide) ?_
  have hl_1 := am_ag_lt c (lz_ixc t s k)
  refine g_istore dd_96_43 (am_nlb_ok rfl) (by decide) ?_
  refine g_iload dd_96_45 rfl ?_
  refine g_bipush dd_96_47 bi_99 ?_
  refine g_icmp_eq_f (t := 75) dd_96_49 (by decide) (tk_eq_f (by omega)) ?_
  refine g_aload_n (i := 0) dd_96_52 rfl ?_
  refine g_getfield (k := 0) am_ck3 (by decide) (Or.inl w_224) dd_96_53 (lea_g45 hH) rfl ?_
  refine g_iload dd_96_56 rfl ?_
  refine g_iload dd_96_58 rfl ?_
  refine e_iadd (v := lz_ixc t s k) dd_96_60 (by unfold lz_ixc; omega) ?_
  refine g_bipush dd_96_61 bi_99 ?_
  refine g_iastore dd_96_63 (lea_g46 hH) (by omega) (by decide) ?_
  refine am_heq (lea_u46 hH) ?_
  show am_Good mi_96 64 [some (.ref 45), some (.retAddr t), some (.retAddr s), some (.retAddr set), some (.retAddr (lz_ixc t s 0)), some (.retAddr k), some (.retAddr (am_ag c (lz_ixc t s k)))] [] (lea h sn gg al en fg mf ma gb (am_as c (lz_ixc t s k) 99)) _
  refine g_aload_n (i := 0) dd_96_64 rfl ?_
  refine g_iload_n (i := 1) dd_96_65 rfl ?_
  refine g_iload_n (i := 2) dd_96_66 rfl ?_
  refine g_iload dd_96_67 rfl ?_
  refine g_iload dd_96_69 rfl ?_
  refine g_iload_n (i := 3) dd_96_71 rfl ?_
  refine g_virtual (M' := mi_97) (n := 5) (ci := 3) (b := 45) (as := [.retAddr t, .retAddr s, .retAddr k, .retAddr (am_ag c (lz_ixc t s k)), .retAddr set]) (st := []) (r1 := (none, (lea h sn gg al en fg2 mf2 ma2 gb2 c2))) w_777 w_779 ps_97 ⟨lk_97.1, lk_97.2.1, lk_97.2.2, by decide, by decide⟩ rfl (lea_g45 hH) rfl (by simp [Value.category]) dd_96_72 (e1_) ?_
  show am_Good mi_96 75 [some (.ref 45), some (.retAddr t), some (.retAddr s), some (.retAddr set), some (.retAddr (lz_ixc t s 0)), some (.retAddr k), some (.retAddr (am_ag c (lz_ixc t s k)))] [] (lea h sn gg al en fg2 mf2 ma2 gb2 c2) _
  refine e_iinc (v := 1) (w := k + 1) dd_96_75 rfl ic_1 (am_nlb_ok rfl) (by decide) (by omega) ?_
  refine g_goto (t := 11) dd_96_78 (by decide) ?_
  exact hg
/-- what a tuple may be -/
def lea_yI (σ : (Nat → Nat) × Nat × Nat × Nat × Nat) : Prop := (∀ i, σ.1 i = 99 ∨ σ.1 i ≤ 6) ∧ σ.2.1 ≤ 7 ∧ σ.2.2.2.2 < 4294967296
/-- the heap tells a tuple -/
def lea_yH (h : am_H) (sn gg al en : Nat) (σ : (Nat → Nat) × Nat × Nat × Nat × Nat) (g : am_H) : Prop := ∃ c, g = lea h sn gg al en σ.2.2.1 σ.2.2.2.1 σ.2.2.2.2 σ.2.1 c ∧ ∀ i, i < 4096 → am_ag c i = σ.1 i
theorem lea_ycl {c j : Nat} {e : Nat → Nat} (he : ∀ i, i < 4096 → am_ag c i = e i) : ∀ i, i < 4096 → am_ag (am_as c j 99) i = lz_cl e j i := lea_yas he (by decide)
theorem lea_yIw {en : Nat} {cl : Nat → Nat} {f : Nat → Nat → Nat} {go st set t s x : Nat} {σ : (Nat → Nat) × Nat × Nat × Nat × Nat} (ht : t ≤ 60) (hI : lea_yI σ) : lea_yI (lz_w en cl f go st set t s x σ) := by
  obtain ⟨e, b, fg, mf, ma⟩ := σ
  obtain ⟨i1, i2, i3⟩ := hI
  dsimp only at i1 i2 i3
  have hcl : ∀ i, lz_cl e (lz_ixc t s x) i = 99 ∨ lz_cl e (lz_ixc t s x) i ≤ 6 := fun i => by
    unfold lz_cl
    by_cases q : i = lz_ixc t s x
    · rw [if_pos q]; exact Or.inl rfl
    · rw [if_neg q]; exact i1 i
  by_cases c99 : e (lz_ixc t s x) = 99
  · rw [lz_w_0 c99]; exact ⟨i1, i2, i3⟩
  · by_cases hs : x &&& set = set
    · rw [lz_w_1 c99 hs]
      refine ⟨hcl, ?_, ?_⟩
      · show (if e (lz_ixc t s x) < b then e (lz_ixc t s x) else b) ≤ 7
        by_cases q : e (lz_ixc t s x) < b
        · rw [if_pos q]; omega
        · rw [if_neg q]; exact i2
      · show (if ma = 4294967292 then t else ma) < 4294967296
        by_cases q : ma = 4294967292
        · rw [if_pos q]; omega
        · rw [if_neg q]; exact i3
    · rw [lz_w_2 c99 hs]
      refine ⟨fun i => ?_, i2, i3⟩
      show lz_p (lz_okc en b) lz_ixc cl f go st t s x (e (lz_ixc t s x)) (lz_cl e (lz_ixc t s x)) i = 99 ∨ _
      by_cases q : lz_p (lz_okc en b) lz_ixc cl f go st t s x (e (lz_ixc t s x)) (lz_cl e (lz_ixc t s x)) i ≤ 6
      · exact Or.inr q
      · refine Or.inl (lz_eq fun n => ?_)
        rw [lz_p_le]
        refine ⟨fun h => ?_, fun h => Or.inl ?_⟩
        · rcases h with h | ⟨u, g, y, m, a1, a2, a3, a4⟩
          · rcases hcl i with r | r
            · omega
            · exact absurd (lz_p_le.mpr (Or.inl r)) q
          · have m6 : m ≤ 6 := by
              unfold lz_okc at a2
              rw [Bool.and_eq_true, decide_eq_true_eq, decide_eq_true_eq] at a2
              omega
            exact absurd (lz_p_le.mpr (Or.inr ⟨u, g, y, m, a1, a2, a3, m6⟩)) q
        · rcases hcl i with r | r <;> omega
theorem lea_kw2 {h : am_H} (hH : lea_ok h) {v32 v30 : List Value} {f : Nat → Nat → Nat} {cl : Nat → Nat} (q32 : am_get h 32 = some (.inr (9, v32))) (q30 : am_get h 30 = some (.inr (2, v30))) (ck : ∀ sn gg al en fg mf ma gb c s t, s < 4 → t ≤ 60 → am_EG mi_68 [.ref 32, .retAddr s, .retAddr t] (lea h sn gg al en fg mf ma gb c) (some (.retAddr (f s t)), lea h sn gg al en fg mf ma gb c)) (cf : ∀ sn gg al en fg mf ma gb c x, x < 256 → am_EG mi_57 [.ref 30, .retAddr x] (lea h sn gg al en fg mf ma gb c) (some (.retAddr (cl x)), lea h sn gg al en fg mf ma gb c)) (hf : ∀ s t, f s t < 256) (hcl : ∀ x, x < 256 → cl x < 256) {sn gg al en : Nat} {σ : (Nat → Nat) × Nat × Nat × Nat × Nat} {g : am_H} {t s set : Nat} (ht : t ≤ 60) (hs : s < 4) (hset : set < 256) {k : Nat} {v6 : Option Value} (hsn : sn ≤ 4) (hgg : gg ≤ 3) (hen : en ≤ 60) (hk : k ≤ al) (hal : al < 256) (hI : lea_yI σ) (hg : lea_yH h sn gg al en σ g) : ∃ g' w6, lea_yH h sn gg al en (lz_w en cl f gg sn set t s k σ) g' ∧ ∀ r, am_Good mi_96 11 [some (.ref 45), some (.retAddr t), some (.retAddr s), some (.retAddr set), some (.retAddr (lz_ixc t s 0)), some (.retAddr (k + 1)), w6] [] g' r → am_Good mi_96 11 [some (.ref 45), some (.retAddr t), some (.retAddr s), some (.retAddr set), some (.retAddr (lz_ixc t s 0)), some (.retAddr k), v6] [] g r := by
  obtain ⟨e, gb, fg, mf, ma⟩ := σ
  obtain ⟨i1, i2, i3⟩ := hI
  obtain ⟨c, rfl, hc⟩ := hg
  dsimp only at i1 i2 i3 hc ⊢
  have ii := lz_ixc_lt (u := t) hs (show k < 256 by omega)
  have ev := hc _ ii
  have h9 : ∀ i, e i ≤ 99 := fun i => by rcases i1 i with q | q <;> omega
  have h9' : ∀ i, lz_cl e (lz_ixc t s k) i ≤ 99 := fun i => by
    unfold lz_cl
    by_cases q : i = lz_ixc t s k
    · rw [if_pos q]; decide
    · rw [if_neg q]; exact h9 i
  by_cases c99 : e (lz_ixc t s k) = 99
  · rw [lz_w_0 c99]
    exact ⟨_, _, ⟨c, rfl, hc⟩, fun r hr => lea_k0 hH q32 q30 ck cf hf hcl ht hs hset hk hal (ev.trans c99) hr⟩
  · have v6' : am_ag c (lz_ixc t s k) ≤ 6 := by
      rw [ev]
      rcases i1 (lz_ixc t s k) with q | q
      · exact absurd q c99
      · exact q
    by_cases hsat : k &&& set = set
    · rw [lz_w_1 c99 hsat]
      have q := lea_ps hH q32 q30 ck cf hf hcl (sn := sn) (gg := gg) (al := al) (en := en) (fg := fg) (mf := mf) (c := am_as c (lz_ixc t s k) 99) (n := am_ag c (lz_ixc t s k)) ht hs (show k < 256 by omega) v6' hset i2 i3 hsat
      rw [ev] at q
      exact ⟨_, some (.retAddr (am_ag c (lz_ixc t s k))), ⟨_, rfl, lea_ycl hc⟩, fun r hr => lea_k1 hH q32 q30 ck cf hf hcl (fg2 := if e (lz_ixc t s k) < gb then e (lz_ixc t s k) else fg) (mf2 := if e (lz_ixc t s k) < gb then t else mf) (ma2 := if ma = 4294967292 then t else ma) (gb2 := if e (lz_ixc t s k) < gb then e (lz_ixc t s k) else gb) (c2 := am_as c (lz_ixc t s k) 99) ht hs hset hk hal (by rw [ev]; exact c99) (by rw [ev]; exact q) hr⟩
    · rw [lz_w_2 c99 hsat]
      obtain ⟨c', a, b⟩ := lea_pp hH q32 q30 ck cf hf hcl (al := al) (fg := fg) (mf := mf) (ma := ma) (e := lz_cl e (lz_ixc t s k)) (c := am_as c (lz_ixc t s k) 99) (n := am_ag c (lz_ixc t s k)) ht hs (show k < 256 by omega) v6' hset hsn hgg hen i2 h9' (lea_ycl hc) hsat
      rw [ev] at a
      exact ⟨_, _, ⟨c', rfl, a⟩, fun r hr => lea_k1 hH q32 q30 ck cf hf hcl ht hs hset hk hal (by rw [ev]; exact c99) b hr⟩
theorem lea_yIx {en : Nat} {cl : Nat → Nat} {f : Nat → Nat → Nat} {go st set t s : Nat} {σ : (Nat → Nat) × Nat × Nat × Nat × Nat} (ht : t ≤ 60) (hI : lea_yI σ) : ∀ k, lea_yI (lz_wx en cl f go st set t s σ k)
  | 0 => hI
  | k + 1 => lea_yIw ht (lea_yIx ht hI k)
theorem lea_kl {h : am_H} (hH : lea_ok h) {v32 v30 : List Value} {f : Nat → Nat → Nat} {cl : Nat → Nat} (q32 : am_get h 32 = some (.inr (9, v32))) (q30 : am_get h 30 = some (.inr (2, v30))) (ck : ∀ sn gg al en fg mf ma gb c s t, s < 4 → t ≤ 60 → am_EG mi_68 [.ref 32, .retAddr s, .retAddr t] (lea h sn gg al en fg mf ma gb c) (some (.retAddr (f s t)), lea h sn gg al en fg mf ma gb c)) (cf : ∀ sn gg al en fg mf ma gb c x, x < 256 → am_EG mi_57 [.ref 30, .retAddr x] (lea h sn gg al en fg mf ma gb c) (some (.retAddr (cl x)), lea h sn gg al en fg mf ma gb c)) (hf : ∀ s t, f s t < 256) (hcl : ∀ x, x < 256 → cl x < 256) {sn gg al en : Nat} {σ : (Nat → Nat) × Nat × Nat × Nat × Nat} {t s set : Nat} (ht : t ≤ 60) (hs : s < 4) (hset : set < 256) (hsn : sn ≤ 4) (hgg : gg ≤ 3) (hen : en ≤ 60) (hal : al < 256) (hI : lea_yI σ) : ∀ (d k : Nat) (g : am_H) (v6 : Option Value), k + d = al + 1 → lea_yH h sn gg al en (lz_wx en cl f gg sn set t s σ k) g → ∃ g', lea_yH h sn gg al en (lz_wx en cl f gg sn set t s σ (al + 1)) g' ∧ am_Good mi_96 11 [some (.ref 45), some (.retAddr t), some (.retAddr s), some (.retAddr set), some (.retAddr (lz_ixc t s 0)), some (.retAddr k), v6] [] g (none, g')
  | 0, k, g, v6, e, hg => by
    have e' : k = al + 1 := by omega
    subst e'
    refine ⟨g, hg, ?_⟩
    obtain ⟨c, rfl, hc⟩ := hg
    exact lea_ke hH q32 q30 ck cf hf hcl ht hs hset (by omega) (by omega) hal
  | d + 1, k, g, v6, e, hg => by
    have hIk := lea_yIx (en := en) (cl := cl) (f := f) (go := gg) (st := sn) (set := set) (s := s) ht hI k
    -- where it goes is known once the step is
    have key : ∃ g', lea_yH h sn gg al en (lz_wx en cl f gg sn set t s σ (al + 1)) g' ∧ am_Good mi_96 11 [some (.ref 45), some (.retAddr t), some (.retAddr s), some (.retAddr set), some (.retAddr (lz_ixc t s 0)), some (.retAddr k), v6] [] g (none, g') := by
      obtain ⟨g1, w6, h1, h2⟩ := lea_kw2 hH q32 q30 ck cf hf hcl (σ := lz_wx en cl f gg sn set t s σ k) (k := k) (v6 := v6) ht hs hset hsn hgg hen (by omega) hal hIk hg
      obtain ⟨g', a, b⟩ := lea_kl hH q32 q30 ck cf hf hcl ht hs hset hsn hgg hen hal hI d (k + 1) g1 w6 (by omega) h1
      exact ⟨g', a, h2 _ b⟩
    exact key
theorem lea_kp {h : am_H} (hH : lea_ok h) {v32 v30 : List Value} {f : Nat → Nat → Nat} {cl : Nat → Nat} (q32 : am_get h 32 = some (.inr (9, v32))) (q30 : am_get h 30 = some (.inr (2, v30))) (ck : ∀ sn gg al en fg mf ma gb c s t, s < 4 → t ≤ 60 → am_EG mi_68 [.ref 32, .retAddr s, .retAddr t] (lea h sn gg al en fg mf ma gb c) (some (.retAddr (f s t)), lea h sn gg al en fg mf ma gb c)) (cf : ∀ sn gg al en fg mf ma gb c x, x < 256 → am_EG mi_57 [.ref 30, .retAddr x] (lea h sn gg al en fg mf ma gb c) (some (.retAddr (cl x)), lea h sn gg al en fg mf ma gb c)) (hf : ∀ s t, f s t < 256) (hcl : ∀ x, x < 256 → cl x < 256) {sn gg al en fg mf ma gb c : Nat} {t s set : Nat} (ht : t ≤ 60) (hs : s < 4) (hset : set < 256) {r : am_R} (hg : am_Good mi_96 11 [some (.ref 45), some (.retAddr t), some (.retAddr s), some (.retAddr set), some (.retAddr (lz_ixc t s 0)), some (.retAddr 0), none] [] (lea h sn gg al en fg mf ma gb c) r) : am_EG mi_96 [.ref 45, .retAddr t, .retAddr s, .retAddr set] (lea h sn gg al en fg mf ma gb c) r := by
  refine am_enter (n := 3) tk_96.2.1 (by simp [Value.category]) (Nat.le_of_ble_eq_true rfl) ?_
  show am_Good mi_96 0 [some (.ref 45), some (.retAddr t), some (.retAddr s), some (.retAddr set), none, none, none] [] (lea h sn gg al en fg mf ma gb c) _
  refine g_iload_n (i := 1) dd_96_0 rfl ?_
  refine g_iload_n (i := 2) dd_96_1 rfl ?_
  refine g_iconst dd_96_2 ic_0 ?_
  refine g_static (M' := mi_95) (n := 3) (as := [.retAddr t, .retAddr s, .retAddr 0]) (st := []) (r1 := (some (.retAddr (lz_ixc t s 0)), (lea h sn gg al en fg mf ma gb c))) w_770 w_771 ⟨lk_95.1, lk_95.2.1, lk_95.2.2, by decide, by decide⟩ rfl (by simp [Value.category]) dd_96_3 (lea_ypl (by omega) (by omega) (by decide)) ?_
  show am_Good mi_96 6 [some (.ref 45), some (.retAddr t), some (.retAddr s), some (.retAddr set), none, none, none] [.retAddr (lz_ixc t s 0)] (lea h sn gg al en fg mf ma gb c) _
  refine g_istore dd_96_6 (am_nlb_ok rfl) (by decide) ?_
  refine g_iconst dd_96_8 ic_0 ?_
  refine g_istore dd_96_9 (am_nlb_ok rfl) (by decide) ?_
  exact hg
theorem lea_km {h : am_H} (hH : lea_ok h) {v32 v30 : List Value} {f : Nat → Nat → Nat} {cl : Nat → Nat} (q32 : am_get h 32 = some (.inr (9, v32))) (q30 : am_get h 30 = some (.inr (2, v30))) (ck : ∀ sn gg al en fg mf ma gb c s t, s < 4 → t ≤ 60 → am_EG mi_68 [.ref 32, .retAddr s, .retAddr t] (lea h sn gg al en fg mf ma gb c) (some (.retAddr (f s t)), lea h sn gg al en fg mf ma gb c)) (cf : ∀ sn gg al en fg mf ma gb c x, x < 256 → am_EG mi_57 [.ref 30, .retAddr x] (lea h sn gg al en fg mf ma gb c) (some (.retAddr (cl x)), lea h sn gg al en fg mf ma gb c)) (hf : ∀ s t, f s t < 256) (hcl : ∀ x, x < 256 → cl x < 256) {sn gg al en : Nat} {σ : (Nat → Nat) × Nat × Nat × Nat × Nat} {t s set : Nat} (ht : t ≤ 60) (hs : s < 4) (hset : set < 256) (hsn : sn ≤ 4) (hgg : gg ≤ 3) (hen : en ≤ 60) (hal : al < 256) (hI : lea_yI σ) {g : am_H} (hg : lea_yH h sn gg al en σ g) : ∃ g', lea_yH h sn gg al en (lz_wx en cl f gg sn set t s σ (al + 1)) g' ∧ am_EG mi_96 [.ref 45, .retAddr t, .retAddr s, .retAddr set] g (none, g') := by
  obtain ⟨g', a, b⟩ := lea_kl hH q32 q30 ck cf hf hcl ht hs hset hsn hgg hen hal hI (al + 1) 0 g none (by omega) hg
  refine ⟨g', a, ?_⟩
  obtain ⟨c, rfl, hc⟩ := hg
  exact lea_kp hH q32 q30 ck cf hf hcl ht hs hset b
theorem lea_ve {h : am_H} (hH : lea_ok h) {v32 v30 : List Value} {f : Nat → Nat → Nat} {cl : Nat → Nat} (q32 : am_get h 32 = some (.inr (9, v32))) (q30 : am_get h 30 = some (.inr (2, v30))) (ck : ∀ sn gg al en fg mf ma gb c s t, s < 4 → t ≤ 60 → am_EG mi_68 [.ref 32, .retAddr s, .retAddr t] (lea h sn gg al en fg mf ma gb c) (some (.retAddr (f s t)), lea h sn gg al en fg mf ma gb c)) (cf : ∀ sn gg al en fg mf ma gb c x, x < 256 → am_EG mi_57 [.ref 30, .retAddr x] (lea h sn gg al en fg mf ma gb c) (some (.retAddr (cl x)), lea h sn gg al en fg mf ma gb c)) (hf : ∀ s t, f s t < 256) (hcl : ∀ x, x < 256 → cl x < 256) {sn gg al en fg mf ma gb c : Nat} {mi : Nat} (hmi : mi ≤ 60) (hsn : sn ≤ 4) {v3 : Option Value} (hal : al < 256) : am_Good mi_92 12 [some (.ref 45), some (.retAddr mi), some (.retAddr mi), v3] [] (lea h sn gg al en fg mf ma gb c) (none, (lea h sn gg (cl al) en fg mf ma gb c)) := by
  refine g_iload_n (i := 2) dd_92_12 rfl ?_
  refine g_iload_n (i := 1) dd_92_13 rfl ?_
  refine g_icmp_ge_t (t := 76) dd_92_14 (by decide) (by first | exact sk_ge_t (by omega) (by omega) | exact tk_ge_t (by omega)) ?_
  refine g_aload_n (i := 0) dd_92_76 rfl ?_
  refine g_aload_n (i := 0) dd_92_77 rfl ?_
  refine g_getfield (k := 2) am_ck3 (by decide) (Or.inl w_226) dd_92_78 (lea_g45 hH) rfl ?_
  refine g_aload_n (i := 0) dd_92_81 rfl ?_
  refine g_getfield (k := 5) am_ck3 (by decide) (Or.inl w_229) dd_92_82 (lea_g45 hH) rfl ?_
  refine g_virtual (M' := mi_57) (n := 1) (ci := 2) (b := 30) (as := [.retAddr al]) (st := [.ref 45]) (r1 := (some (.retAddr (cl al)), (lea h sn gg al en fg mf ma gb c))) w_762 w_609 w_610 ⟨lk_57.1, lk_57.2.1, lk_57.2.2, by decide, by decide⟩ rfl ((lea_o hH rfl).trans q30) rfl (by simp [Value.category]) dd_92_85 (cf _ _ _ _ _ _ _ _ _ _ (hal)) ?_
  show am_Good mi_92 88 [some (.ref 45), some (.retAddr mi), some (.retAddr mi), v3] [.retAddr (cl al), .ref 45] (lea h sn gg al en fg mf ma gb c) _
  refine g_putfield (k := 5) am_ck3 (by decide) (Or.inl w_229) (Or.inl rfl) dd_92_88 (lea_g45 hH) (Nat.le_of_ble_eq_true rfl) trivial ?_
  refine am_heq (lea_u45 hH) ?_
  show am_Good mi_92 91 [some (.ref 45), some (.retAddr mi), some (.retAddr mi), v3] [] (lea h sn gg (cl al) en fg mf ma gb c) _
  exact g_return rfl dd_92_91
theorem lea_vs {h : am_H} (hH : lea_ok h) {v32 v30 : List Value} {f : Nat → Nat → Nat} {cl : Nat → Nat} (q32 : am_get h 32 = some (.inr (9, v32))) (q30 : am_get h 30 = some (.inr (2, v30))) (ck : ∀ sn gg al en fg mf ma gb c s t, s < 4 → t ≤ 60 → am_EG mi_68 [.ref 32, .retAddr s, .retAddr t] (lea h sn gg al en fg mf ma gb c) (some (.retAddr (f s t)), lea h sn gg al en fg mf ma gb c)) (cf : ∀ sn gg al en fg mf ma gb c x, x < 256 → am_EG mi_57 [.ref 30, .retAddr x] (lea h sn gg al en fg mf ma gb c) (some (.retAddr (cl x)), lea h sn gg al en fg mf ma gb c)) (hf : ∀ s t, f s t < 256) (hcl : ∀ x, x < 256 → cl x < 256) {sn gg al en fg mf ma gb c : Nat} {mi : Nat} (hmi : mi ≤ 60) (hsn : sn ≤ 4) {v3 : Option Value} {t : Nat} {r : am_R} (ht : t < mi) (hg : am_Good mi_92 19 [some (.ref 45), some (.retAddr mi), some (.retAddr t), some (.retAddr 0)] [] (lea h sn gg al en fg mf ma gb c) r) : am_Good mi_92 12 [some (.ref 45), some (.retAddr mi), some (.retAddr t), v3] [] (lea h sn gg al en fg mf ma gb c) r := by
  refine g_iload_n (i := 2) dd_92_12 rfl ?_
  refine g_iload_n (i := 1) dd_92_13 rfl ?_
  refine g_icmp_ge_f (t := 76) dd_92_14 (by decide) (by first | exact sk_ge_f (by omega) (by omega) | exact tk_ge_f (by omega)) ?_
  refine g_iconst dd_92_17 ic_0 ?_
  refine g_istore_n (i := 3) dd_92_18 (am_nlb_ok rfl) (by decide) ?_
  exact hg
theorem lea_vo {h : am_H} (hH : lea_ok h) {v32 v30 : List Value} {f : Nat → Nat → Nat} {cl : Nat → Nat} (q32 : am_get h 32 = some (.inr (9, v32))) (q30 : am_get h 30 = some (.inr (2, v30))) (ck : ∀ sn gg al en fg mf ma gb c s t, s < 4 → t ≤ 60 → am_EG mi_68 [.ref 32, .retAddr s, .retAddr t] (lea h sn gg al en fg mf ma gb c) (some (.retAddr (f s t)), lea h sn gg al en fg mf ma gb c)) (cf : ∀ sn gg al en fg mf ma gb c x, x < 256 → am_EG mi_57 [.ref 30, .retAddr x] (lea h sn gg al en fg mf ma gb c) (some (.retAddr (cl x)), lea h sn gg al en fg mf ma gb c)) (hf : ∀ s t, f s t < 256) (hcl : ∀ x, x < 256 → cl x < 256) {sn gg al en fg mf ma gb c : Nat} {mi : Nat} (hmi : mi ≤ 60) (hsn : sn ≤ 4) {t : Nat} {r : am_R} (ht : t < mi) (hg : am_Good mi_92 12 [some (.ref 45), some (.retAddr mi), some (.retAddr (t + 1)), some (.retAddr sn)] [] (lea h sn gg al en fg mf ma gb c) r) : am_Good mi_92 19 [some (.ref 45), some (.retAddr mi), some (.retAddr t), some (.retAddr sn)] [] (lea h sn gg al en fg mf ma gb c) r := by
  refine g_iload_n (i := 3) dd_92_19 rfl ?_
  refine g_aload_n (i := 0) dd_92_20 rfl ?_
  refine g_getfield (k := 3) am_ck3 (by decide) (Or.inl w_227) dd_92_21 (lea_g45 hH) rfl ?_
  refine g_icmp_ge_t (t := 70) dd_92_24 (by decide) (by first | exact sk_ge_t (by omega) (by omega) | exact tk_ge_t (by omega)) ?_
  refine e_iinc (v := 1) (w := t + 1) dd_92_70 rfl ic_1 (am_nlb_ok rfl) (by decide) (by omega) ?_
  refine g_goto (t := 12) dd_92_73 (by decide) ?_
  exact hg
theorem lea_vi0 {h : am_H} (hH : lea_ok h) {v32 v30 : List Value} {f : Nat → Nat → Nat} {cl : Nat → Nat} (q32 : am_get h 32 = some (.inr (9, v32))) (q30 : am_get h 30 = some (.inr (2, v30))) (ck : ∀ sn gg al en fg mf ma gb c s t, s < 4 → t ≤ 60 → am_EG mi_68 [.ref 32, .retAddr s, .retAddr t] (lea h sn gg al en fg mf ma gb c) (some (.retAddr (f s t)), lea h sn gg al en fg mf ma gb c)) (cf : ∀ sn gg al en fg mf ma gb c x, x < 256 → am_EG mi_57 [.ref 30, .retAddr x] (lea h sn gg al en fg mf ma gb c) (some (.retAddr (cl x)), lea h sn gg al en fg mf ma gb c)) (hf : ∀ s t, f s t < 256) (hcl : ∀ x, x < 256 → cl x < 256) {sn gg al en fg mf ma gb c : Nat} {mi : Nat} (hmi : mi ≤ 60) (hsn : sn ≤ 4) {t s : Nat} {r : am_R} (ht : t < mi) (hs : s < sn) (hz : f s t = 0) (hg : am_Good mi_92 19 [some (.ref 45), some (.retAddr mi), some (.retAddr t), some (.retAddr (s + 1))] [] (lea h sn gg al en fg mf ma gb c) r) : am_Good mi_92 19 [some (.ref 45), some (.retAddr mi), some (.retAddr t), some (.retAddr s)] [] (lea h sn gg al en fg mf ma gb c) r := by
  have fl := hf s t
  refine g_iload_n (i := 3) dd_92_19 rfl ?_
  refine g_aload_n (i := 0) dd_92_20 rfl ?_
  refine g_getfield (k := 3) am_ck3 (by decide) (Or.inl w_227) dd_92_21 (lea_g45 hH) rfl ?_
  refine g_icmp_ge_f (t := 70) dd_92_24 (by decide) (by first | exact sk_ge_f (by omega) (by omega) | exact tk_ge_f (by omega)) ?_
  refine g_aload_n (i := 0) dd_92_27 rfl ?_
  refine g_getfield (k := 1) am_ck3 (by decide) (Or.inl w_225) dd_92_28 (lea_g45 hH) rfl ?_
  refine g_iload_n (i := 3) dd_92_31 rfl ?_
  refine g_iload_n (i := 2) dd_92_32 rfl ?_
  refine g_virtual (M' := mi_68) (n := 2) (ci := 9) (b := 32) (as := [.retAddr s, .retAddr t]) (st := []) (r1 := (some (.retAddr (f s t)), (lea h sn gg al en fg mf ma gb c))) w_761 w_655 w_656 ⟨lk_68.1, lk_68.2.1, lk_68.2.2, by decide, by decide⟩ rfl ((lea_o hH rfl).trans q32) rfl (by simp [Value.category]) dd_92_33 (ck _ _ _ _ _ _ _ _ _ _ _ (by omega) (by omega)) ?_
  show am_Good mi_92 36 [some (.ref 45), some (.retAddr mi), some (.retAddr t), some (.retAddr s)] [.retAddr (f s t)] (lea h sn gg al en fg mf ma gb c) _
  refine g_if_eq_t (t := 64) dd_92_36 (by decide) (tk_eq_t (by omega)) ?_
  refine e_iinc (v := 1) (w := s + 1) dd_92_64 rfl ic_1 (am_nlb_ok rfl) (by decide) (by omega) ?_
  refine g_goto (t := 19) dd_92_67 (by decide) ?_
  exact hg
theorem lea_vi1 {h : am_H} (hH : lea_ok h) {v32 v30 : List Value} {f : Nat → Nat → Nat} {cl : Nat → Nat} (q32 : am_get h 32 = some (.inr (9, v32))) (q30 : am_get h 30 = some (.inr (2, v30))) (ck : ∀ sn gg al en fg mf ma gb c s t, s < 4 → t ≤ 60 → am_EG mi_68 [.ref 32, .retAddr s, .retAddr t] (lea h sn gg al en fg mf ma gb c) (some (.retAddr (f s t)), lea h sn gg al en fg mf ma gb c)) (cf : ∀ sn gg al en fg mf ma gb c x, x < 256 → am_EG mi_57 [.ref 30, .retAddr x] (lea h sn gg al en fg mf ma gb c) (some (.retAddr (cl x)), lea h sn gg al en fg mf ma gb c)) (hf : ∀ s t, f s t < 256) (hcl : ∀ x, x < 256 → cl x < 256) {sn gg al en fg mf ma gb c : Nat} {mi : Nat} (hmi : mi ≤ 60) (hsn : sn ≤ 4) {t s : Nat} {r : am_R} (ht : t < mi) (hs : s < sn) (hz : f s t ≠ 0) (hg : am_Good mi_92 19 [some (.ref 45), some (.retAddr mi), some (.retAddr t), some (.retAddr (s + 1))] [] (lea h sn gg (al ||| f s t) (t + 1) fg mf ma gb c) r) : am_Good mi_92 19 [some (.ref 45), some (.retAddr mi), some (.retAddr t), some (.retAddr s)] [] (lea h sn gg al en fg mf ma gb c) r := by
  have fl := hf s t
  refine g_iload_n (i := 3) dd_92_19 rfl ?_
  refine g_aload_n (i := 0) dd_92_20 rfl ?_
  refine g_getfield (k := 3) am_ck3 (by decide) (Or.inl w_227) dd_92_21 (lea_g45 hH) rfl ?_
  refine g_icmp_ge_f (t := 70) dd_92_24 (by decide) (by first | exact sk_ge_f (by omega) (by omega) | exact tk_ge_f (by omega)) ?_
  refine g_aload_n (i := 0) dd_92_27 rfl ?_
  refine g_getfield (k := 1) am_ck3 (by decide) (Or.inl w_225) dd_92_28 (lea_g45 hH) rfl ?_
  refine g_iload_n (i := 3) dd_92_31 rfl ?_
  refine g_iload_n (i := 2) dd_92_32 rfl ?_
  refine g_virtual (M' := mi_68) (n := 2) (ci := 9) (b := 32) (as := [.retAddr s, .retAddr t]) (st := []) (r1 := (some (.retAddr (f s t)), (lea h sn gg al en fg mf ma gb c))) w_761 w_655 w_656 ⟨lk_68.1, lk_68.2.1, lk_68.2.2, by decide, by decide⟩ rfl ((lea_o hH rfl).trans q32) rfl (by simp [Value.category]) dd_92_33 (ck _ _ _ _ _ _ _ _ _ _ _ (by omega) (by omega)) ?_
  show am_Good mi_92 36 [some (.ref 45), some (.retAddr mi), some (.retAddr t), some (.retAddr s)] [.retAddr (f s t)] (lea h sn gg al en fg mf ma gb c) _
  refine g_if_eq_f (t := 64) dd_92_36 (by decide) (tk_eq_f (by omega)) ?_
  refine g_aload_n (i := 0) dd_92_39 rfl ?_
  refine g_dup dd_92_40 rfl ?_
  refine g_getfield (k := 5) am_ck3 (by decide) (Or.inl w_229) dd_92_41 (lea_g45 hH) rfl ?_
  refine g_aload_n (i := 0) dd_92_44 rfl ?_
  refine g_getfield (k := 1) am_ck3 (by decide) (Or.inl w_225) dd_92_45 (lea_g45 hH) rfl ?_
  refine g_iload_n (i := 3) dd_92_48 rfl ?_
  refine g_iload_n (i := 2) dd_92_49 rfl ?_
  refine g_virtual (M' := mi_68) (n := 2) (ci := 9) (b := 32) (as := [.retAddr s, .retAddr t]) (st := [.retAddr al, .ref 45]) (r1 := (some (.retAddr (f s t)), (lea h sn gg al en fg mf ma gb c))) w_761 w_655 w_656 ⟨lk_68.1, lk_68.2.1, lk_68.2.2, by decide, by decide⟩ rfl ((lea_o hH rfl).trans q32) rfl (by simp [Value.category]) dd_92_50 (ck _ _ _ _ _ _ _ _ _ _ _ (by omega) (by omega)) ?_
  show am_Good mi_92 53 [some (.ref 45), some (.retAddr mi), some (.retAddr t), some (.retAddr s)] [.retAddr (f s t), .retAddr al, .ref 45] (lea h sn gg al en fg mf ma gb c) _
  refine e_ior (v := al ||| f s t) dd_92_53 rfl ?_
  refine g_putfield (k := 5) am_ck3 (by decide) (Or.inl w_229) (Or.inl rfl) dd_92_54 (lea_g45 hH) (Nat.le_of_ble_eq_true rfl) trivial ?_
  refine am_heq (lea_u45 hH) ?_
  show am_Good mi_92 57 [some (.ref 45), some (.retAddr mi), some (.retAddr t), some (.retAddr s)] [] (lea h sn gg (al ||| f s t) en fg mf ma gb c) _
  refine g_aload_n (i := 0) dd_92_57 rfl ?_
  refine g_iload_n (i := 2) dd_92_58 rfl ?_
  refine g_iconst dd_92_59 ic_1 ?_
  refine e_iadd (v := t + 1) dd_92_60 (by omega) ?_
  refine g_putfield (k := 6) am_ck3 (by decide) (Or.inl w_230) (Or.inl rfl) dd_92_61 (lea_g45 hH) (Nat.le_of_ble_eq_true rfl) trivial ?_
  refine am_heq (lea_u45 hH) ?_
  show am_Good mi_92 64 [some (.ref 45), some (.retAddr mi), some (.retAddr t), some (.retAddr s)] [] (lea h sn gg (al ||| f s t) (t + 1) fg mf ma gb c) _
  refine e_iinc (v := 1) (w := s + 1) dd_92_64 rfl ic_1 (am_nlb_ok rfl) (by decide) (by omega) ?_
  refine g_goto (t := 19) dd_92_67 (by decide) ?_
  exact hg
/-- all facts told, and where the last one is -/
def lz_us (f : Nat → Nat → Nat) (t : Nat) (p : Nat × Nat) : Nat → Nat × Nat
  | 0 => p
  | s + 1 => if f s t = 0 then lz_us f t p s else ((lz_us f t p s).1 ||| f s t, t + 1)
def lz_ut (f : Nat → Nat → Nat) (st : Nat) : Nat → Nat × Nat
  | 0 => (0, 0)
  | t + 1 => lz_us f t (lz_ut f st t) st
theorem lz_sub_l {a b : Nat} : lz_sub a (a ||| b) := fun j hj => by rw [Nat.testBit_or, hj]; rfl
theorem lz_sub_r {a b : Nat} : lz_sub b (a ||| b) := fun j hj => by rw [Nat.testBit_or, hj, Bool.or_true]
theorem lz_sub_t {a b c : Nat} (h : lz_sub a b) (h2 : lz_sub b c) : lz_sub a c := fun j hj => h2 j (h j hj)
theorem lz_us_p {f : Nat → Nat → Nat} {t : Nat} {p : Nat × Nat} (hf : ∀ s t, f s t < 256) (hp : p.1 < 256 ∧ p.2 ≤ t) : ∀ s, ((lz_us f t p s).1 < 256 ∧ (lz_us f t p s).2 ≤ t + 1) ∧ lz_sub p.1 (lz_us f t p s).1 ∧ (∀ s', s' < s → lz_sub (f s' t) (lz_us f t p s).1) ∧ ((lz_us f t p s).2 = t + 1 ∨ ((lz_us f t p s).2 = p.2 ∧ ∀ s', s' < s → f s' t = 0))
  | 0 => ⟨⟨hp.1, by have : (lz_us f t p 0).2 = p.2 := rfl; omega⟩, fun j hj => hj, fun s' h => absurd h (Nat.not_lt_zero _), Or.inr ⟨rfl, fun s' h => absurd h (Nat.not_lt_zero _)⟩⟩
  | s + 1 => by
    obtain ⟨⟨a1, a2⟩, a3, a4, a5⟩ := lz_us_p hf hp s
    have e : lz_us f t p (s + 1) = if f s t = 0 then lz_us f t p s else ((lz_us f t p s).1 ||| f s t, t + 1) := rfl
    by_cases z : f s t = 0
    · rw [if_pos z] at e
      rw [e]
      refine ⟨⟨a1, a2⟩, a3, fun s' h => ?_, a5.elim Or.inl (fun ⟨q1, q2⟩ => Or.inr ⟨q1, fun s' h => ?_⟩)⟩
      · by_cases c : s' = s
        · subst c; rw [z]; exact fun j hj => by rw [Nat.zero_testBit] at hj; exact absurd hj (by decide)
        · exact a4 s' (by omega)
      · by_cases c : s' = s
        · subst c; exact z
        · exact q2 s' (by omega)
    · rw [if_neg z] at e
      rw [e]
      refine ⟨⟨lz_or_lt a1 (hf _ _), Nat.le_refl _⟩, lz_sub_t a3 lz_sub_l, fun s' h => ?_, Or.inl rfl⟩
      by_cases c : s' = s
      · subst c; exact lz_sub_r
      · exact lz_sub_t (a4 s' (by omega)) lz_sub_l
theorem lz_ut_p {f : Nat → Nat → Nat} {st : Nat} (hf : ∀ s t, f s t < 256) : ∀ t, ((lz_ut f st t).1 < 256 ∧ (lz_ut f st t).2 ≤ t) ∧ (∀ s t', s < st → t' < t → lz_sub (f s t') (lz_ut f st t).1) ∧ ∀ s t', s < st → (lz_ut f st t).2 ≤ t' → t' < t → f s t' = 0
  | 0 => ⟨⟨Nat.zero_lt_succ _, Nat.le_refl _⟩, fun s t' _ h => absurd h (Nat.not_lt_zero _), fun s t' _ _ h => absurd h (Nat.not_lt_zero _)⟩
  | t + 1 => by
    obtain ⟨b1, b2, b3⟩ := lz_ut_p (st := st) hf t
    obtain ⟨a1, a3, a4, a5⟩ := lz_us_p (t := t) hf b1 st
    have e : lz_ut f st (t + 1) = lz_us f t (lz_ut f st t) st := rfl
    rw [e]
    refine ⟨a1, fun s t' h1 h2 => ?_, fun s t' h1 h2 h3 => ?_⟩
    · by_cases c : t' = t
      · subst c; exact a4 s h1
      · exact lz_sub_t (b2 s t' h1 (by omega)) a3
    · rcases a5 with a5 | ⟨a5, a6⟩
      · omega
      · by_cases c : t' = t
        · subst c; exact a6 s h1
        · exact b3 s t' h1 (by omega) (by omega)
theorem lea_vil {h : am_H} (hH : lea_ok h) {v32 v30 : List Value} {f : Nat → Nat → Nat} {cl : Nat → Nat} (q32 : am_get h 32 = some (.inr (9, v32))) (q30 : am_get h 30 = some (.inr (2, v30))) (ck : ∀ sn gg al en fg mf ma gb c s t, s < 4 → t ≤ 60 → am_EG mi_68 [.ref 32, .retAddr s, .retAddr t] (lea h sn gg al en fg mf ma gb c) (some (.retAddr (f s t)), lea h sn gg al en fg mf ma gb c)) (cf : ∀ sn gg al en fg mf ma gb c x, x < 256 → am_EG mi_57 [.ref 30, .retAddr x] (lea h sn gg al en fg mf ma gb c) (some (.retAddr (cl x)), lea h sn gg al en fg mf ma gb c)) (hf : ∀ s t, f s t < 256) (hcl : ∀ x, x < 256 → cl x < 256) {sn gg fg mf ma gb c : Nat} {mi : Nat} (hmi : mi ≤ 60) (hsn : sn ≤ 4) {t : Nat} {p : Nat × Nat} {r : am_R} (ht : t < mi) (hg : am_Good mi_92 19 [some (.ref 45), some (.retAddr mi), some (.retAddr t), some (.retAddr sn)] [] (lea h sn gg ((lz_us f t p sn).1) ((lz_us f t p sn).2) fg mf ma gb c) r) : ∀ (k s : Nat), s + k = sn → am_Good mi_92 19 [some (.ref 45), some (.retAddr mi), some (.retAddr t), some (.retAddr s)] [] (lea h sn gg ((lz_us f t p s).1) ((lz_us f t p s).2) fg mf ma gb c) r
  | 0, s, e => by
    have e' : s = sn := by omega
    subst e'
    exact hg
  | k + 1, s, e => by
    have q := lea_vil hH q32 q30 ck cf hf hcl hmi hsn ht hg k (s + 1) (by omega)
    have e1 : lz_us f t p (s + 1) = if f s t = 0 then lz_us f t p s else ((lz_us f t p s).1 ||| f s t, t + 1) := rfl
    by_cases z : f s t = 0
    · rw [if_pos z] at e1
      rw [e1] at q
      exact lea_vi0 hH q32 q30 ck cf hf hcl hmi hsn ht (by omega) z q
    · rw [if_neg z] at e1
      rw [e1] at q
      exact lea_vi1 hH q32 q30 ck cf hf hcl hmi hsn ht (by omega) z q
theorem lea_vol {h : am_H} (hH : lea_ok h) {v32 v30 : List Value} {f : Nat → Nat → Nat} {cl : Nat → Nat} (q32 : am_get h 32 = some (.inr (9, v32))) (q30 : am_get h 30 = some (.inr (2, v30))) (ck : ∀ sn gg al en fg mf ma gb c s t, s < 4 → t ≤ 60 → am_EG mi_68 [.ref 32, .retAddr s, .retAddr t] (lea h sn gg al en fg mf ma gb c) (some (.retAddr (f s t)), lea h sn gg al en fg mf ma gb c)) (cf : ∀ sn gg al en fg mf ma gb c x, x < 256 → am_EG mi_57 [.ref 30, .retAddr x] (lea h sn gg al en fg mf ma gb c) (some (.retAddr (cl x)), lea h sn gg al en fg mf ma gb c)) (hf : ∀ s t, f s t < 256) (hcl : ∀ x, x < 256 → cl x < 256) {sn gg fg mf ma gb c : Nat} {mi : Nat} (hmi : mi ≤ 60) (hsn : sn ≤ 4) : ∀ (k t : Nat) (v3 : Option Value), t + k = mi → am_Good mi_92 12 [some (.ref 45), some (.retAddr mi), some (.retAddr t), v3] [] (lea h sn gg ((lz_ut f sn t).1) ((lz_ut f sn t).2) fg mf ma gb c) (none, (lea h sn gg (cl (lz_ut f sn mi).1) ((lz_ut f sn mi).2) fg mf ma gb c))
  | 0, t, v3, e => by
    have e' : t = mi := by omega
    subst e'
    exact lea_ve hH q32 q30 ck cf hf hcl hmi hsn (lz_ut_p hf t).1.1
  | k + 1, t, v3, e => by
    have q := lea_vol hH q32 q30 ck cf hf hcl (gg := gg) (fg := fg) (mf := mf) (ma := ma) (gb := gb) (c := c) hmi hsn k (t + 1) (some (.retAddr sn)) (by omega)
    have e1 : lz_ut f sn (t + 1) = lz_us f t (lz_ut f sn t) sn := rfl
    rw [e1] at q
    exact lea_vs hH q32 q30 ck cf hf hcl hmi hsn (by omega) (lea_vil hH q32 q30 ck cf hf hcl hmi hsn (p := lz_ut f sn t) (by omega) (lea_vo hH q32 q30 ck cf hf hcl hmi hsn (by omega) q) sn 0 (by omega))
theorem lea_vm {h : am_H} (hH : lea_ok h) {v32 v30 : List Value} {f : Nat → Nat → Nat} {cl : Nat → Nat} (q32 : am_get h 32 = some (.inr (9, v32))) (q30 : am_get h 30 = some (.inr (2, v30))) (ck : ∀ sn gg al en fg mf ma gb c s t, s < 4 → t ≤ 60 → am_EG mi_68 [.ref 32, .retAddr s, .retAddr t] (lea h sn gg al en fg mf ma gb c) (some (.retAddr (f s t)), lea h sn gg al en fg mf ma gb c)) (cf : ∀ sn gg al en fg mf ma gb c x, x < 256 → am_EG mi_57 [.ref 30, .retAddr x] (lea h sn gg al en fg mf ma gb c) (some (.retAddr (cl x)), lea h sn gg al en fg mf ma gb c)) (hf : ∀ s t, f s t < 256) (hcl : ∀ x, x < 256 → cl x < 256) {sn gg al en fg mf ma gb c : Nat} {mi : Nat} (hmi : mi ≤ 60) (hsn : sn ≤ 4) : am_EG mi_92 [.ref 45, .retAddr mi] (lea h sn gg al en fg mf ma gb c) (none, (lea h sn gg (cl (lz_ut f sn mi).1) ((lz_ut f sn mi).2) fg mf ma gb c)) := by
  refine am_enter (n := 2) tk_92.2.1 (by simp [Value.category]) (Nat.le_of_ble_eq_true rfl) ?_
  show am_Good mi_92 0 [some (.ref 45), some (.retAddr mi), none, none] [] (lea h sn gg al en fg mf ma gb c) _
  refine g_aload_n (i := 0) dd_92_0 rfl ?_
  refine g_iconst dd_92_1 ic_0 ?_
  refine g_putfield (k := 5) am_ck3 (by decide) (Or.inl w_229) (Or.inl rfl) dd_92_2 (lea_g45 hH) (Nat.le_of_ble_eq_true rfl) trivial ?_
  refine am_heq (lea_u45 hH) ?_
  show am_Good mi_92 5 [some (.ref 45), some (.retAddr mi), none, none] [] (lea h sn gg 0 en fg mf ma gb c) _
  refine g_aload_n (i := 0) dd_92_5 rfl ?_
  refine g_iconst dd_92_6 ic_0 ?_
  refine g_putfield (k := 6) am_ck3 (by decide) (Or.inl w_230) (Or.inl rfl) dd_92_7 (lea_g45 hH) (Nat.le_of_ble_eq_true rfl) trivial ?_
  refine am_heq (lea_u45 hH) ?_
  show am_Good mi_92 10 [some (.ref 45), some (.retAddr mi), none, none] [] (lea h sn gg 0 0 fg mf ma gb c) _
  refine g_iconst dd_92_10 ic_0 ?_
  refine g_istore_n (i := 2) dd_92_11 (am_nlb_ok rfl) (by decide) ?_
  exact lea_vol hH q32 q30 ck cf hf hcl hmi hsn mi 0 none (by omega)
