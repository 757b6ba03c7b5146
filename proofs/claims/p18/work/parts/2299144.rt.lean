/-! ===== routes, bounds ===== -/
theorem rt_mo_le {f : Nat → Nat} {s b M : Nat} (hb : b ≤ M) : ∀ {n : Nat}, (∀ k, k < n → f k ≤ M) → rt_mo f s b n ≤ M
  | 0, _ => hb
  | n + 1, h => by
    show (if n = s then rt_mo f s b n else max (rt_mo f s b n) (f n)) ≤ M
    have i := rt_mo_le (s := s) hb (n := n) (fun k hk => h k (by omega))
    have j := h n (by omega)
    by_cases e : n = s
    · rw [if_pos e]; exact i
    · rw [if_neg e]; exact Nat.max_le.mpr ⟨i, j⟩
theorem rt_bd {fw T : Nat → Nat → Nat} {go n mi u : Nat} (hf : ∀ s t, s < n → t < mi → fw s t ≤ 99) (h : rt_R fw T go n mi u) : ∀ f t, u ≤ t → mi ≤ t + f → ∀ s, s < n → T t s ≤ 99 * f
  | 0, t, hu, e, s, hs => by rw [h.2 t (by omega) s hs]; omega
  | f + 1, t, hu, e, s, hs => by
    by_cases ht : t < mi
    · rw [h.1 t hu ht s hs]
      unfold rt_v
      have a := hf s t hs ht
      have b := rt_bd hf h f (t + 1) (by omega) (by omega) s hs
      refine rt_mo_le (by omega) (fun k hk => ?_)
      unfold rt_by
      have c := hf k t hk ht
      have d := rt_bd hf h f (t + 1) (by omega) (by omega) k hk
      by_cases g : go = 0
      · rw [if_pos g]; omega
      · rw [if_neg g]
        have := rt_bd hf h f (t + go) (by omega) (by omega) k hk
        omega
    · rw [h.2 t (by omega) s hs]; omega
theorem rt_bd' {fw T : Nat → Nat → Nat} {go n mi u : Nat} (hm : mi ≤ 60) (hf : ∀ s t, s < n → t < mi → fw s t ≤ 99) (h : rt_R fw T go n mi u) : ∀ t, u ≤ t → ∀ s, s < n → T t s ≤ 5940 := fun t hu s hs => by
  have := rt_bd hf h (mi - t) t hu (by omega) s hs
  omega
theorem rt_mx {a b : Nat} (ha : a < 2147483648) (hb : b < 2147483648) : (bif am_tlt a b then b else a) = max a b := by
  by_cases h : a < b
  · rw [show am_tlt a b = true from sk_lt_t h hb, cond_true, Nat.max_eq_right (by omega)]
  · rw [show am_tlt a b = false from sk_lt_f (by omega) ha, cond_false, Nat.max_eq_left (by omega)]
/-- a later store keeps what routes hold -/
theorem rt_R_as {fw : Nat → Nat → Nat} {G go n mi t s v : Nat} (hn : n ≤ 4) (hm : mi ≤ 60) (ht : t < mi) (hs : s < n) (h : rt_R fw (rt_T G mi) go n mi (t + 1)) : rt_R fw (rt_T (am_as G (60 * s + t) v) mi) go n mi (t + 1) := by
  have e : ∀ u, t < u → ∀ k, k < n → rt_T (am_as G (60 * s + t) v) mi u k = rt_T G mi u k := fun u hu k hk => by
    unfold rt_T
    by_cases hq : u < mi
    · rw [if_pos hq, if_pos hq, am_ag_as, if_neg (by omega)]
    · rw [if_neg hq, if_neg hq]
  refine ⟨fun u hu hm' k hk => ?_, fun u hu k hk => ?_⟩
  · rw [e u (by omega) k hk, h.1 u hu hm' k hk]
    exact rt_v_cg (mi := mi) hk (fun _ _ => rfl) (fun w hw j hj => (e w (by omega) j hj).symm)
  · rw [e u (by omega) k hk]; exact h.2 u hu k hk
/-- a minute's row laid -/
theorem rt_row {fw : Nat → Nat → Nat} {G go n mi t s : Nat} (hn : n ≤ 4) (hm : mi ≤ 60) (ht : t < mi) (hs : s < n) (hv : rt_v fw (rt_T G mi) go n t s < 4294967296) (h : rt_R fw (rt_T G mi) go n mi (t + 1)) (hr : ∀ k, k < s → rt_T G mi t k = rt_v fw (rt_T G mi) go n t k) : rt_R fw (rt_T (am_as G (60 * s + t) (rt_v fw (rt_T G mi) go n t s)) mi) go n mi (t + 1) ∧ ∀ k, k < s + 1 → rt_T (am_as G (60 * s + t) (rt_v fw (rt_T G mi) go n t s)) mi t k = rt_v fw (rt_T (am_as G (60 * s + t) (rt_v fw (rt_T G mi) go n t s)) mi) go n t k := by
  refine ⟨rt_R_as hn hm ht hs h, fun k hk => ?_⟩
  have e : ∀ u, t < u → ∀ k, k < n → rt_T G mi u k = rt_T (am_as G (60 * s + t) (rt_v fw (rt_T G mi) go n t s)) mi u k := fun u hu k hk => by
    unfold rt_T
    by_cases hq : u < mi
    · rw [if_pos hq, if_pos hq, am_ag_as, if_neg (by omega)]
    · rw [if_neg hq, if_neg hq]
  rw [← rt_v_cg (mi := mi) (fw := fw) (fw' := fw) (T := rt_T G mi) (show k < n by omega) (fun _ _ => rfl) e]
  by_cases hq : k = s
  · subst hq
    show (if t < mi then am_ag (am_as G (60 * k + t) _) (60 * k + t) else 0) = _
    rw [if_pos ht, am_ag_as, if_pos rfl]
    exact Nat.mod_eq_of_lt hv
  · rw [← hr k (by omega)]
    show (if t < mi then am_ag (am_as G (60 * s + t) _) (60 * k + t) else 0) = (if t < mi then am_ag G (60 * k + t) else 0)
    rw [if_pos ht, if_pos ht, am_ag_as, if_neg (by omega)]
theorem rt_R_row {fw T : Nat → Nat → Nat} {go n mi t : Nat} (h : rt_R fw T go n mi (t + 1)) (hr : ∀ k, k < n → T t k = rt_v fw T go n t k) : rt_R fw T go n mi t := ⟨fun u hu hm s hs => by
  by_cases e : u = t
  · subst e; exact hr s hs
  · exact h.1 u (by omega) hm s hs, h.2⟩
theorem rt_W9 {Z R : Nat → Nat} (hB : je_B Z R) (come wo s t : Nat) (hs : s < Z 0) : sc_W Z R come wo s t ≤ 9 := by
  unfold sc_W sc_sw
  split
  · exact Nat.zero_le _
  · refine pk_P (P := fun n => n ≤ 9) ?_ (fun i hi => hB 1 (by decide) i hi 3 (by decide))
    have q := hB 0 (by decide) s hs 0 (by decide)
    rw [show je_w 0 * s + 0 = s by show 1 * s + 0 = s; omega] at q
    exact q
theorem rt_top {v : Nat} (h : v < 4294967296) : ax_in v [(0, 2147483647), (2147483648, 4294967295)] := by
  by_cases hv : v ≤ 2147483647
  · exact ⟨h, (0, 2147483647), by simp, Nat.zero_le _, hv⟩
  · exact ⟨h, (2147483648, 4294967295), by simp, by show 2147483648 ≤ v; omega, by show v ≤ 4294967295; omega⟩
theorem ok_rowt {kd n w x : Nat} : ax_ok (.inl (kd, n, w, [[(0, 2147483647), (2147483648, 4294967295)]])) (.inl (kd, n, x)) := by
  refine ⟨rfl, rfl, fun i hi => ⟨[(0, 2147483647), (2147483648, 4294967295)], ?_, rt_top (am_ag_lt _ _)⟩⟩
  show [[(0, 2147483647), (2147483648, 4294967295)]][i % 1]? = _
  rw [Nat.mod_one]
  rfl
theorem ew_w {h : am_H} {q q1 q2 q3 : Nat} (qS : am_get h q = some (.inr (9, [.ref q1, .ref q2, .ref q3]))) {W : Nat} (g1 : am_get h q1 = some (.inl (0, 240, W))) {s t : Nat} (hs : s < 4) (ht : t < 60) : am_EG mi_41 [.ref q, .retAddr s, .retAddr t] h (some (.retAddr (am_ag W (60 * s + t))), h) := by
  refine am_enter (n := 0) tk_41.2.1 (by simp [Value.category]) (Nat.le_of_ble_eq_true rfl) ?_
  show am_Good mi_41 0 [some (.ref q), some (.retAddr s), some (.retAddr t)] [] h _
  refine g_iload_n (i := 1) dd_41_0 rfl ?_
  refine g_iload_n (i := 2) dd_41_1 rfl ?_
  refine g_static (M' := mi_35) (n := 2) (as := [.retAddr s, .retAddr t]) (st := []) (r1 := (some (.retAddr 1), h)) w_466 w_467 ⟨lk_35.1, lk_35.2.1, lk_35.2.2, by decide, by decide⟩ rfl (by simp [Value.category]) dd_41_2 (th_1 hs ht) ?_
  show am_Good mi_41 5 [some (.ref q), some (.retAddr s), some (.retAddr t)] [.retAddr 1] h _
  refine g_if_eq_f (t := 22) dd_41_5 (by decide) (by decide) ?_
  refine g_aload_n (i := 0) dd_41_8 rfl ?_
  refine g_getfield (k := 0) am_ck9 (by decide) (Or.inl w_153) dd_41_9 qS rfl ?_
  refine g_iload_n (i := 1) dd_41_12 rfl ?_
  refine g_bipush dd_41_13 bi_60 ?_
  refine e_imul (v := 60 * s) dd_41_15 (by omega) ?_
  refine g_iload_n (i := 2) dd_41_16 rfl ?_
  refine e_iadd (v := 60 * s + t) dd_41_17 (by omega) ?_
  refine g_iaload dd_41_18 g1 (by omega) (by decide) ?_
  have hl_1 := am_ag_lt W (60 * s + t)
  refine g_goto (t := 23) dd_41_19 (by decide) ?_
  exact g_ireturn rfl dd_41_23
/-! ===== routes of the class ===== -/
def rv (h : am_H)  (m fm fs G : Nat) : am_H := am_ups h [(43, .inr (7, [.ref 44, .retAddr m, .retAddr fm, .retAddr fs])), (44, .inl (0, 240, G))]
def rv_ok (h : am_H) : Prop := am_ke h [43, 44]
theorem rv_g43 {h : am_H}  {m fm fs G : Nat} (hH : rv_ok h) : am_get (rv h  m fm fs G) 43 = some (.inr (7, [.ref 44, .retAddr m, .retAddr fm, .retAddr fs])) := am_ups_g hH rfl
theorem rv_u43 {h : am_H}  {m fm fs G : Nat} (hH : rv_ok h) {m' fm' fs' : Nat} : am_upd (rv h  m fm fs G) 43 (.inr (7, [.ref 44, .retAddr m', .retAddr fm', .retAddr fs'])) = (rv h  m' fm' fs' G) := by
  unfold rv
  refine am_upd_ups ?_ ⟨rfl, rfl⟩
  exact hH
theorem rv_g44 {h : am_H}  {m fm fs G : Nat} (hH : rv_ok h) : am_get (rv h  m fm fs G) 44 = some (.inl (0, 240, G)) := am_ups_g hH rfl
theorem rv_u44 {h : am_H}  {m fm fs G : Nat} (hH : rv_ok h) {G' : Nat} : am_upd (rv h  m fm fs G) 44 (.inl (0, 240, G')) = (rv h  m fm fs G') := by
  unfold rv
  refine am_upd_ups ?_ ⟨rfl, rfl⟩
  exact hH
theorem rv_o {h : am_H}  {m fm fs G : Nat} (hH : rv_ok h) {a : Nat} (ha : am_lk [(43, am_e0), (44, am_e0)] a = none) : am_get (rv h  m fm fs G) a = am_get h a := by
  unfold rv
  refine am_ups_n ?_ ?_
  · exact hH
  · exact (am_lk_k (by rfl)).mp ha
theorem rw_f1 {h : am_H} {mi fm fs G : Nat} (hH : rv_ok h) {s t : Nat} (hs : s < 4) (ht : t < 64) (hm : mi ≤ 60) (hc : t < mi) : am_EG mi_42 [.ref 43, .retAddr s, .retAddr t] (rv h mi fm fs G) (some (.retAddr (am_ag G (60 * s + t))), (rv h mi fm fs G)) := by
  refine am_enter (n := 0) tk_42.2.1 (by simp [Value.category]) (Nat.le_of_ble_eq_true rfl) ?_
  show am_Good mi_42 0 [some (.ref 43), some (.retAddr s), some (.retAddr t)] [] (rv h mi fm fs G) _
  refine g_iload_n (i := 1) dd_42_0 rfl ?_
  refine g_if_lt_f (t := 21) dd_42_1 (by decide) (by first | exact sk_lt_f (by omega) (by omega) | exact tk_lt_f (by omega)) ?_
  refine g_iload_n (i := 1) dd_42_4 rfl ?_
  refine g_iconst dd_42_5 ic_4 ?_
  refine g_icmp_ge_f (t := 21) dd_42_6 (by decide) (by first | exact sk_ge_f (by omega) (by omega) | exact tk_ge_f (by omega)) ?_
  refine g_iload_n (i := 2) dd_42_9 rfl ?_
  refine g_if_lt_f (t := 21) dd_42_10 (by decide) (by first | exact sk_lt_f (by omega) (by omega) | exact tk_lt_f (by omega)) ?_
  refine g_iload_n (i := 2) dd_42_13 rfl ?_
  refine g_aload_n (i := 0) dd_42_14 rfl ?_
  refine g_getfield (k := 1) am_ck7 (by decide) (Or.inl w_201) dd_42_15 (rv_g43 hH) rfl ?_
  refine g_icmp_lt_t (t := 23) dd_42_18 (by decide) (by first | exact sk_lt_t (by omega) (by omega) | exact tk_lt_t (by omega)) ?_
  refine g_aload_n (i := 0) dd_42_23 rfl ?_
  refine g_getfield (k := 0) am_ck7 (by decide) (Or.inl w_200) dd_42_24 (rv_g43 hH) rfl ?_
  refine g_iload_n (i := 1) dd_42_27 rfl ?_
  refine g_bipush dd_42_28 bi_60 ?_
  refine e_imul (v := 60 * s) dd_42_30 (by omega) ?_
  refine g_iload_n (i := 2) dd_42_31 rfl ?_
  refine e_iadd (v := 60 * s + t) dd_42_32 (by omega) ?_
  refine g_iaload dd_42_33 (rv_g44 hH) (by omega) (by decide) ?_
  have hl_1 := am_ag_lt G (60 * s + t)
  exact g_ireturn rfl dd_42_34
theorem rw_f0 {h : am_H} {mi fm fs G : Nat} (hH : rv_ok h) {s t : Nat} (hs : s < 4) (ht : t < 64) (hm : mi ≤ 60) (hc : ¬ t < mi) : am_EG mi_42 [.ref 43, .retAddr s, .retAddr t] (rv h mi fm fs G) (some (.retAddr 0), (rv h mi fm fs G)) := by
  refine am_enter (n := 0) tk_42.2.1 (by simp [Value.category]) (Nat.le_of_ble_eq_true rfl) ?_
  show am_Good mi_42 0 [some (.ref 43), some (.retAddr s), some (.retAddr t)] [] (rv h mi fm fs G) _
  refine g_iload_n (i := 1) dd_42_0 rfl ?_
  refine g_if_lt_f (t := 21) dd_42_1 (by decide) (by first | exact sk_lt_f (by omega) (by omega) | exact tk_lt_f (by omega)) ?_
  refine g_iload_n (i := 1) dd_42_4 rfl ?_
  refine g_iconst dd_42_5 ic_4 ?_
  refine g_icmp_ge_f (t := 21) dd_42_6 (by decide) (by first | exact sk_ge_f (by omega) (by omega) | exact tk_ge_f (by omega)) ?_
  refine g_iload_n (i := 2) dd_42_9 rfl ?_
  refine g_if_lt_f (t := 21) dd_42_10 (by decide) (by first | exact sk_lt_f (by omega) (by omega) | exact tk_lt_f (by omega)) ?_
  refine g_iload_n (i := 2) dd_42_13 rfl ?_
  refine g_aload_n (i := 0) dd_42_14 rfl ?_
  refine g_getfield (k := 1) am_ck7 (by decide) (Or.inl w_201) dd_42_15 (rv_g43 hH) rfl ?_
  refine g_icmp_lt_f (t := 23) dd_42_18 (by decide) (by first | exact sk_lt_f (by omega) (by omega) | exact tk_lt_f (by omega)) ?_
  refine g_iconst dd_42_21 ic_0 ?_
  exact g_ireturn rfl dd_42_22
theorem rw_f {h : am_H} {mi fm fs G : Nat} (hH : rv_ok h) {s t : Nat} (hs : s < 4) (ht : t < 64) (hm : mi ≤ 60) : am_EG mi_42 [.ref 43, .retAddr s, .retAddr t] (rv h mi fm fs G) (some (.retAddr (rt_T G mi t s)), rv h mi fm fs G) := by
  unfold rt_T
  by_cases hc : t < mi
  · rw [if_pos hc]; exact rw_f1 hH hs ht hm hc
  · rw [if_neg hc]; exact rw_f0 hH hs ht hm hc
theorem rw_g0 {h : am_H} {n mi go : Nat} (hH : rv_ok h) {q : Nat} {vq : List Value} {fw : Nat → Nat → Nat} (qS : ∀ m fm fs G, am_get (rv h m fm fs G) q = some (.inr (9, vq))) (cw : ∀ m fm fs G s t, s < n → t < mi → am_EG mi_41 [.ref q, .retAddr s, .retAddr t] (rv h m fm fs G) (some (.retAddr (fw s t)), rv h m fm fs G)) (hn : n ≤ 4) (hm1 : 1 ≤ mi) (hm : mi ≤ 60) (hgo : go ≤ 3) (h99 : ∀ s t, s < n → t < mi → fw s t ≤ 99) {fm fs G s t : Nat} (hs : s < n) (ht : t < mi) (hB : ∀ u, t < u → ∀ k, k < n → rt_T G mi u k ≤ 5940) (hg0 : go = 0) : am_EG mi_43 [.ref 43, .ref q, .retAddr s, .retAddr t, .retAddr go] (rv h mi fm fs G) (some (.retAddr (fw s t + rt_T G mi (t + 1) s)), (rv h mi fm fs G)) := by
  refine am_enter (n := 0) tk_43.2.1 (by simp [Value.category]) (Nat.le_of_ble_eq_true rfl) ?_
  show am_Good mi_43 0 [some (.ref 43), some (.ref q), some (.retAddr s), some (.retAddr t), some (.retAddr go)] [] (rv h mi fm fs G) _
  have b1 := hB (t + 1) (by omega) s hs
  have b2 := h99 s t hs ht
  refine g_iload dd_43_0 rfl ?_
  refine g_if_ne_f (t := 21) dd_43_2 (by decide) (tk_ne_f (by omega)) ?_
  refine g_aload_n (i := 1) dd_43_5 rfl ?_
  refine g_iload_n (i := 2) dd_43_6 rfl ?_
  refine g_iload_n (i := 3) dd_43_7 rfl ?_
  refine g_virtual (M' := mi_41) (n := 2) (ci := 9) (b := q) (as := [.retAddr s, .retAddr t]) (st := []) (r1 := (some (.retAddr (fw s t)), (rv h mi fm fs G))) w_490 w_491 w_492 ⟨lk_41.1, lk_41.2.1, lk_41.2.2, by decide, by decide⟩ rfl (qS _ _ _ _) rfl (by simp [Value.category]) dd_43_8 (cw _ _ _ _ _ _ (by omega) (by omega)) ?_
  show am_Good mi_43 11 [some (.ref 43), some (.ref q), some (.retAddr s), some (.retAddr t), some (.retAddr go)] [.retAddr (fw s t)] (rv h mi fm fs G) _
  refine g_aload_n (i := 0) dd_43_11 rfl ?_
  refine g_iload_n (i := 2) dd_43_12 rfl ?_
  refine g_iload_n (i := 3) dd_43_13 rfl ?_
  refine g_iconst dd_43_14 ic_1 ?_
  refine e_iadd (v := t + 1) dd_43_15 (by omega) ?_
  refine g_virtual (M' := mi_42) (n := 2) (ci := 7) (b := 43) (as := [.retAddr s, .retAddr (t + 1)]) (st := [.retAddr (fw s t)]) (r1 := (some (.retAddr (rt_T G mi (t + 1) s)), (rv h mi fm fs G))) w_494 w_495 w_496 ⟨lk_42.1, lk_42.2.1, lk_42.2.2, by decide, by decide⟩ rfl (rv_g43 hH) rfl (by simp [Value.category]) dd_43_16 (rw_f hH (by omega) (by omega) hm) ?_
  show am_Good mi_43 19 [some (.ref 43), some (.ref q), some (.retAddr s), some (.retAddr t), some (.retAddr go)] [.retAddr (rt_T G mi (t + 1) s), .retAddr (fw s t)] (rv h mi fm fs G) _
  refine e_iadd (v := (fw s t) + (rt_T G mi (t + 1) s)) dd_43_19 (by omega) ?_
  exact g_ireturn rfl dd_43_20
theorem rw_g1 {h : am_H} {n mi go : Nat} (hH : rv_ok h) {q : Nat} {vq : List Value} {fw : Nat → Nat → Nat} (qS : ∀ m fm fs G, am_get (rv h m fm fs G) q = some (.inr (9, vq))) (cw : ∀ m fm fs G s t, s < n → t < mi → am_EG mi_41 [.ref q, .retAddr s, .retAddr t] (rv h m fm fs G) (some (.retAddr (fw s t)), rv h m fm fs G)) (hn : n ≤ 4) (hm1 : 1 ≤ mi) (hm : mi ≤ 60) (hgo : go ≤ 3) (h99 : ∀ s t, s < n → t < mi → fw s t ≤ 99) {fm fs G s t : Nat} (hs : s < n) (ht : t < mi) (hg0 : ¬ go = 0) : am_EG mi_43 [.ref 43, .ref q, .retAddr s, .retAddr t, .retAddr go] (rv h mi fm fs G) (some (.retAddr (rt_T G mi (t + go) s)), (rv h mi fm fs G)) := by
  refine am_enter (n := 0) tk_43.2.1 (by simp [Value.category]) (Nat.le_of_ble_eq_true rfl) ?_
  show am_Good mi_43 0 [some (.ref 43), some (.ref q), some (.retAddr s), some (.retAddr t), some (.retAddr go)] [] (rv h mi fm fs G) _
  refine g_iload dd_43_0 rfl ?_
  refine g_if_ne_t (t := 21) dd_43_2 (by decide) (tk_ne_t (by omega)) ?_
  refine g_aload_n (i := 0) dd_43_21 rfl ?_
  refine g_iload_n (i := 2) dd_43_22 rfl ?_
  refine g_iload_n (i := 3) dd_43_23 rfl ?_
  refine g_iload dd_43_24 rfl ?_
  refine e_iadd (v := t + go) dd_43_26 (by omega) ?_
  refine g_virtual (M' := mi_42) (n := 2) (ci := 7) (b := 43) (as := [.retAddr s, .retAddr (t + go)]) (st := []) (r1 := (some (.retAddr (rt_T G mi (t + go) s)), (rv h mi fm fs G))) w_494 w_495 w_496 ⟨lk_42.1, lk_42.2.1, lk_42.2.2, by decide, by decide⟩ rfl (rv_g43 hH) rfl (by simp [Value.category]) dd_43_27 (rw_f hH (by omega) (by omega) hm) ?_
  show am_Good mi_43 30 [some (.ref 43), some (.ref q), some (.retAddr s), some (.retAddr t), some (.retAddr go)] [.retAddr (rt_T G mi (t + go) s)] (rv h mi fm fs G) _
  exact g_ireturn rfl dd_43_30
theorem rw_g {h : am_H} {n mi go : Nat} (hH : rv_ok h) {q : Nat} {vq : List Value} {fw : Nat → Nat → Nat} (qS : ∀ m fm fs G, am_get (rv h m fm fs G) q = some (.inr (9, vq))) (cw : ∀ m fm fs G s t, s < n → t < mi → am_EG mi_41 [.ref q, .retAddr s, .retAddr t] (rv h m fm fs G) (some (.retAddr (fw s t)), rv h m fm fs G)) (hn : n ≤ 4) (hm1 : 1 ≤ mi) (hm : mi ≤ 60) (hgo : go ≤ 3) (h99 : ∀ s t, s < n → t < mi → fw s t ≤ 99) {fm fs G s t : Nat} (hs : s < n) (ht : t < mi) (hB : ∀ u, t < u → ∀ k, k < n → rt_T G mi u k ≤ 5940) : am_EG mi_43 [.ref 43, .ref q, .retAddr s, .retAddr t, .retAddr go] (rv h mi fm fs G) (some (.retAddr (rt_by fw (rt_T G mi) go t s)), rv h mi fm fs G) := by
  unfold rt_by
  by_cases g : go = 0
  · rw [if_pos g]; exact rw_g0 hH qS cw hn hm1 hm hgo h99 hs ht hB g
  · rw [if_neg g]; exact rw_g1 hH qS cw hn hm1 hm hgo h99 hs ht g
theorem rw_by {fw T : Nat → Nat → Nat} {go n mi t k : Nat} (h99 : ∀ s t, s < n → t < mi → fw s t ≤ 99) (hB : ∀ u, t < u → ∀ k, k < n → T u k ≤ 5940) (hk : k < n) (ht : t < mi) : rt_by fw T go t k ≤ 6039 := by
  unfold rt_by
  have a := h99 k t hk ht
  have b := hB (t + 1) (by omega) k hk
  by_cases g : go = 0
  · rw [if_pos g]; omega
  · rw [if_neg g]
    have := hB (t + go) (by omega) k hk
    omega
theorem rw_m0 {h : am_H} {n mi go : Nat} (hH : rv_ok h) {q : Nat} {vq : List Value} {fw : Nat → Nat → Nat} (qS : ∀ m fm fs G, am_get (rv h m fm fs G) q = some (.inr (9, vq))) (cw : ∀ m fm fs G s t, s < n → t < mi → am_EG mi_41 [.ref q, .retAddr s, .retAddr t] (rv h m fm fs G) (some (.retAddr (fw s t)), rv h m fm fs G)) (hn : n ≤ 4) (hm1 : 1 ≤ mi) (hm : mi ≤ 60) (hgo : go ≤ 3) (h99 : ∀ s t, s < n → t < mi → fw s t ≤ 99) {E a0 : Nat} {vE w0 : List Value} (nE : am_lk [(43, am_e0), (44, am_e0)] E = none) (qE : am_get h E = some (.inr (1, vE))) (e0 : vE[0]? = some (.ref a0)) (e6 : vE[6]? = some (.retAddr mi)) (e7 : vE[7]? = some (.retAddr go)) (nA : am_lk [(43, am_e0), (44, am_e0)] a0 = none) (r0 : am_get h a0 = some (.inr (8, w0))) (s0 : w0[3]? = some (.retAddr n)) {fm fs G s t b : Nat} : am_Good mi_40 22 [some (.ref 43), some (.ref E), some (.ref q), some (.retAddr s), some (.retAddr t), some (.retAddr b), some (.retAddr n)] [] (rv h mi fm fs G) (some (.retAddr b), (rv h mi fm fs G)) := by
  refine g_iload dd_40_22 rfl ?_
  refine g_aload_n (i := 1) dd_40_24 rfl ?_
  refine g_getfield (k := 0) am_ck1 (by decide) (Or.inr ⟨_, w_83⟩) dd_40_25 ((rv_o hH nE).trans qE) e0 ?_
  refine g_getfield (k := 3) am_ck8 (by decide) (Or.inr ⟨_, w_64⟩) dd_40_28 ((rv_o hH nA).trans r0) s0 ?_
  refine g_icmp_ge_t (t := 66) dd_40_31 (by decide) (by first | exact sk_ge_t (by omega) (by omega) | exact tk_ge_t (by omega)) ?_
  refine g_iload dd_40_66 rfl ?_
  exact g_ireturn rfl dd_40_68
theorem rw_m1 {h : am_H} {n mi go : Nat} (hH : rv_ok h) {q : Nat} {vq : List Value} {fw : Nat → Nat → Nat} (qS : ∀ m fm fs G, am_get (rv h m fm fs G) q = some (.inr (9, vq))) (cw : ∀ m fm fs G s t, s < n → t < mi → am_EG mi_41 [.ref q, .retAddr s, .retAddr t] (rv h m fm fs G) (some (.retAddr (fw s t)), rv h m fm fs G)) (hn : n ≤ 4) (hm1 : 1 ≤ mi) (hm : mi ≤ 60) (hgo : go ≤ 3) (h99 : ∀ s t, s < n → t < mi → fw s t ≤ 99) {E a0 : Nat} {vE w0 : List Value} (nE : am_lk [(43, am_e0), (44, am_e0)] E = none) (qE : am_get h E = some (.inr (1, vE))) (e0 : vE[0]? = some (.ref a0)) (e6 : vE[6]? = some (.retAddr mi)) (e7 : vE[7]? = some (.retAddr go)) (nA : am_lk [(43, am_e0), (44, am_e0)] a0 = none) (r0 : am_get h a0 = some (.inr (8, w0))) (s0 : w0[3]? = some (.retAddr n)) {r : am_R} {fm fs G s t b k : Nat} (hk : k < n) (hs : s < n) (hc : k = s) (hg : am_Good mi_40 22 [some (.ref 43), some (.ref E), some (.ref q), some (.retAddr s), some (.retAddr t), some (.retAddr b), some (.retAddr (k + 1))] [] (rv h mi fm fs G) r) : am_Good mi_40 22 [some (.ref 43), some (.ref E), some (.ref q), some (.retAddr s), some (.retAddr t), some (.retAddr b), some (.retAddr k)] [] (rv h mi fm fs G) r := by
  refine g_iload dd_40_22 rfl ?_
  refine g_aload_n (i := 1) dd_40_24 rfl ?_
  refine g_getfield (k := 0) am_ck1 (by decide) (Or.inr ⟨_, w_83⟩) dd_40_25 ((rv_o hH nE).trans qE) e0 ?_
  refine g_getfield (k := 3) am_ck8 (by decide) (Or.inr ⟨_, w_64⟩) dd_40_28 ((rv_o hH nA).trans r0) s0 ?_
  refine g_icmp_ge_f (t := 66) dd_40_31 (by decide) (by first | exact sk_ge_f (by omega) (by omega) | exact tk_ge_f (by omega)) ?_
  refine g_iload dd_40_34 rfl ?_
  refine g_iload_n (i := 3) dd_40_36 rfl ?_
  refine g_icmp_eq_t (t := 60) dd_40_37 (by decide) (tk_eq_t (by omega)) ?_
  refine e_iinc (v := 1) (w := k + 1) dd_40_60 rfl ic_1 (am_nlb_ok rfl) (by decide) (by omega) ?_
  refine g_goto (t := 22) dd_40_63 (by decide) ?_
  exact hg
theorem rw_m2 {h : am_H} {n mi go : Nat} (hH : rv_ok h) {q : Nat} {vq : List Value} {fw : Nat → Nat → Nat} (qS : ∀ m fm fs G, am_get (rv h m fm fs G) q = some (.inr (9, vq))) (cw : ∀ m fm fs G s t, s < n → t < mi → am_EG mi_41 [.ref q, .retAddr s, .retAddr t] (rv h m fm fs G) (some (.retAddr (fw s t)), rv h m fm fs G)) (hn : n ≤ 4) (hm1 : 1 ≤ mi) (hm : mi ≤ 60) (hgo : go ≤ 3) (h99 : ∀ s t, s < n → t < mi → fw s t ≤ 99) {E a0 : Nat} {vE w0 : List Value} (nE : am_lk [(43, am_e0), (44, am_e0)] E = none) (qE : am_get h E = some (.inr (1, vE))) (e0 : vE[0]? = some (.ref a0)) (e6 : vE[6]? = some (.retAddr mi)) (e7 : vE[7]? = some (.retAddr go)) (nA : am_lk [(43, am_e0), (44, am_e0)] a0 = none) (r0 : am_get h a0 = some (.inr (8, w0))) (s0 : w0[3]? = some (.retAddr n)) {r : am_R} {fm fs G s t b k : Nat} (hk : k < n) (hs : s < n) (ht : t < mi) (hc : ¬ k = s) (hb : b ≤ 6039) (hB : ∀ u, t < u → ∀ k, k < n → rt_T G mi u k ≤ 5940) (hg : am_Good mi_40 22 [some (.ref 43), some (.ref E), some (.ref q), some (.retAddr s), some (.retAddr t), some (.retAddr (max b (rt_by fw (rt_T G mi) go t k))), some (.retAddr (k + 1))] [] (rv h mi fm fs G) r) : am_Good mi_40 22 [some (.ref 43), some (.ref E), some (.ref q), some (.retAddr s), some (.retAddr t), some (.retAddr b), some (.retAddr k)] [] (rv h mi fm fs G) r := by
  have b1 := rw_by (go := go) h99 hB hk ht
  refine g_iload dd_40_22 rfl ?_
  refine g_aload_n (i := 1) dd_40_24 rfl ?_
  refine g_getfield (k := 0) am_ck1 (by decide) (Or.inr ⟨_, w_83⟩) dd_40_25 ((rv_o hH nE).trans qE) e0 ?_
  refine g_getfield (k := 3) am_ck8 (by decide) (Or.inr ⟨_, w_64⟩) dd_40_28 ((rv_o hH nA).trans r0) s0 ?_
  refine g_icmp_ge_f (t := 66) dd_40_31 (by decide) (by first | exact sk_ge_f (by omega) (by omega) | exact tk_ge_f (by omega)) ?_
  refine g_iload dd_40_34 rfl ?_
  refine g_iload_n (i := 3) dd_40_36 rfl ?_
  refine g_icmp_eq_f (t := 60) dd_40_37 (by decide) (tk_eq_f (by omega)) ?_
  refine g_iload dd_40_40 rfl ?_
  refine g_aload_n (i := 0) dd_40_42 rfl ?_
  refine g_aload_n (i := 2) dd_40_43 rfl ?_
  refine g_iload dd_40_44 rfl ?_
  refine g_iload dd_40_46 rfl ?_
  refine g_aload_n (i := 1) dd_40_48 rfl ?_
  refine g_getfield (k := 7) am_ck1 (by decide) (Or.inr ⟨_, w_116⟩) dd_40_49 ((rv_o hH nE).trans qE) e7 ?_
  refine g_virtual (M' := mi_43) (n := 4) (ci := 7) (b := 43) (as := [.ref q, .retAddr k, .retAddr t, .retAddr go]) (st := [.retAddr b]) (r1 := (some (.retAddr (rt_by fw (rt_T G mi) go t k)), (rv h mi fm fs G))) w_498 w_500 ps_43 ⟨lk_43.1, lk_43.2.1, lk_43.2.2, by decide, by decide⟩ rfl (rv_g43 hH) rfl (by simp [Value.category]) dd_40_52 (rw_g hH qS cw hn hm1 hm hgo h99 (by omega) (by omega) hB) ?_
  show am_Good mi_40 55 [some (.ref 43), some (.ref E), some (.ref q), some (.retAddr s), some (.retAddr t), some (.retAddr b), some (.retAddr k)] [.retAddr (rt_by fw (rt_T G mi) go t k), .retAddr b] (rv h mi fm fs G) _
  refine g_mmax w_502 w_409 w_18 w_410 ⟨by decide, by decide⟩ (by simp [Value.category]) dd_40_55 ?_
  rw [show (bif am_tlt b (rt_by fw (rt_T G mi) go t k) then (rt_by fw (rt_T G mi) go t k) else b) = max b (rt_by fw (rt_T G mi) go t k) from (rt_mx (by omega) (by omega))]
  refine g_istore dd_40_58 (am_nlb_ok rfl) (by decide) ?_
  refine e_iinc (v := 1) (w := k + 1) dd_40_60 rfl ic_1 (am_nlb_ok rfl) (by decide) (by omega) ?_
  refine g_goto (t := 22) dd_40_63 (by decide) ?_
  exact hg
theorem rw_ml {h : am_H} {n mi go : Nat} (hH : rv_ok h) {q : Nat} {vq : List Value} {fw : Nat → Nat → Nat} (qS : ∀ m fm fs G, am_get (rv h m fm fs G) q = some (.inr (9, vq))) (cw : ∀ m fm fs G s t, s < n → t < mi → am_EG mi_41 [.ref q, .retAddr s, .retAddr t] (rv h m fm fs G) (some (.retAddr (fw s t)), rv h m fm fs G)) (hn : n ≤ 4) (hm1 : 1 ≤ mi) (hm : mi ≤ 60) (hgo : go ≤ 3) (h99 : ∀ s t, s < n → t < mi → fw s t ≤ 99) {E a0 : Nat} {vE w0 : List Value} (nE : am_lk [(43, am_e0), (44, am_e0)] E = none) (qE : am_get h E = some (.inr (1, vE))) (e0 : vE[0]? = some (.ref a0)) (e6 : vE[6]? = some (.retAddr mi)) (e7 : vE[7]? = some (.retAddr go)) (nA : am_lk [(43, am_e0), (44, am_e0)] a0 = none) (r0 : am_get h a0 = some (.inr (8, w0))) (s0 : w0[3]? = some (.retAddr n)) {fm fs G s t : Nat} (hs : s < n) (ht : t < mi) (hB : ∀ u, t < u → ∀ k, k < n → rt_T G mi u k ≤ 5940) : ∀ (f k : Nat), k + f = n → am_Good mi_40 22 [some (.ref 43), some (.ref E), some (.ref q), some (.retAddr s), some (.retAddr t), some (.retAddr (rt_mo (rt_by fw (rt_T G mi) go t) s (fw s t + rt_T G mi (t + 1) s) k)), some (.retAddr k)] [] (rv h mi fm fs G) (some (.retAddr (rt_v fw (rt_T G mi) go n t s)), rv h mi fm fs G)
  | 0, k, e => by
    have e' : k = n := by omega
    subst e'
    exact rw_m0 hH qS cw hn hm1 hm hgo h99 nE qE e0 e6 e7 nA r0 s0
  | f + 1, k, e => by
    have q := rw_ml hH qS cw hn hm1 hm hgo h99 nE qE e0 e6 e7 nA r0 s0 (fm := fm) (fs := fs) hs ht hB f (k + 1) (by omega)
    have e1 : rt_mo (rt_by fw (rt_T G mi) go t) s (fw s t + rt_T G mi (t + 1) s) (k + 1) = if k = s then rt_mo (rt_by fw (rt_T G mi) go t) s (fw s t + rt_T G mi (t + 1) s) k else max (rt_mo (rt_by fw (rt_T G mi) go t) s (fw s t + rt_T G mi (t + 1) s) k) (rt_by fw (rt_T G mi) go t k) := rfl
    rw [e1] at q
    have bb : rt_mo (rt_by fw (rt_T G mi) go t) s (fw s t + rt_T G mi (t + 1) s) k ≤ 6039 := by
      have a := h99 s t hs ht
      have b := hB (t + 1) (by omega) s hs
      exact rt_mo_le (by omega) (fun j hj => rw_by h99 hB (by omega) ht)
    by_cases hc : k = s
    · rw [if_pos hc] at q
      exact rw_m1 hH qS cw hn hm1 hm hgo h99 nE qE e0 e6 e7 nA r0 s0 (by omega) hs hc q
    · rw [if_neg hc] at q
      exact rw_m2 hH qS cw hn hm1 hm hgo h99 nE qE e0 e6 e7 nA r0 s0 (by omega) hs ht hc bb hB q
theorem rw_m {h : am_H} {n mi go : Nat} (hH : rv_ok h) {q : Nat} {vq : List Value} {fw : Nat → Nat → Nat} (qS : ∀ m fm fs G, am_get (rv h m fm fs G) q = some (.inr (9, vq))) (cw : ∀ m fm fs G s t, s < n → t < mi → am_EG mi_41 [.ref q, .retAddr s, .retAddr t] (rv h m fm fs G) (some (.retAddr (fw s t)), rv h m fm fs G)) (hn : n ≤ 4) (hm1 : 1 ≤ mi) (hm : mi ≤ 60) (hgo : go ≤ 3) (h99 : ∀ s t, s < n → t < mi → fw s t ≤ 99) {E a0 : Nat} {vE w0 : List Value} (nE : am_lk [(43, am_e0), (44, am_e0)] E = none) (qE : am_get h E = some (.inr (1, vE))) (e0 : vE[0]? = some (.ref a0)) (e6 : vE[6]? = some (.retAddr mi)) (e7 : vE[7]? = some (.retAddr go)) (nA : am_lk [(43, am_e0), (44, am_e0)] a0 = none) (r0 : am_get h a0 = some (.inr (8, w0))) (s0 : w0[3]? = some (.retAddr n)) {fm fs G s t : Nat} (hs : s < n) (ht : t < mi) (hB : ∀ u, t < u → ∀ k, k < n → rt_T G mi u k ≤ 5940) : am_EG mi_40 [.ref 43, .ref E, .ref q, .retAddr s, .retAddr t] (rv h mi fm fs G) (some (.retAddr (rt_v fw (rt_T G mi) go n t s)), (rv h mi fm fs G)) := by
  refine am_enter (n := 2) tk_40.2.1 (by simp [Value.category]) (Nat.le_of_ble_eq_true rfl) ?_
  show am_Good mi_40 0 [some (.ref 43), some (.ref E), some (.ref q), some (.retAddr s), some (.retAddr t), none, none] [] (rv h mi fm fs G) _
  have b1 := hB (t + 1) (by omega) s hs
  have b2 := h99 s t hs ht
  refine g_aload_n (i := 2) dd_40_0 rfl ?_
  refine g_iload_n (i := 3) dd_40_1 rfl ?_
  refine g_iload dd_40_2 rfl ?_
  refine g_virtual (M' := mi_41) (n := 2) (ci := 9) (b := q) (as := [.retAddr s, .retAddr t]) (st := []) (r1 := (some (.retAddr (fw s t)), (rv h mi fm fs G))) w_490 w_491 w_492 ⟨lk_41.1, lk_41.2.1, lk_41.2.2, by decide, by decide⟩ rfl (qS _ _ _ _) rfl (by simp [Value.category]) dd_40_4 (cw _ _ _ _ _ _ (by omega) (by omega)) ?_
  show am_Good mi_40 7 [some (.ref 43), some (.ref E), some (.ref q), some (.retAddr s), some (.retAddr t), none, none] [.retAddr (fw s t)] (rv h mi fm fs G) _
  refine g_aload_n (i := 0) dd_40_7 rfl ?_
  refine g_iload_n (i := 3) dd_40_8 rfl ?_
  refine g_iload dd_40_9 rfl ?_
  refine g_iconst dd_40_11 ic_1 ?_
  refine e_iadd (v := t + 1) dd_40_12 (by omega) ?_
  refine g_virtual (M' := mi_42) (n := 2) (ci := 7) (b := 43) (as := [.retAddr s, .retAddr (t + 1)]) (st := [.retAddr (fw s t)]) (r1 := (some (.retAddr (rt_T G mi (t + 1) s)), (rv h mi fm fs G))) w_494 w_495 w_496 ⟨lk_42.1, lk_42.2.1, lk_42.2.2, by decide, by decide⟩ rfl (rv_g43 hH) rfl (by simp [Value.category]) dd_40_13 (rw_f hH (by omega) (by omega) hm) ?_
  show am_Good mi_40 16 [some (.ref 43), some (.ref E), some (.ref q), some (.retAddr s), some (.retAddr t), none, none] [.retAddr (rt_T G mi (t + 1) s), .retAddr (fw s t)] (rv h mi fm fs G) _
  refine e_iadd (v := (fw s t) + (rt_T G mi (t + 1) s)) dd_40_16 (by omega) ?_
  refine g_istore dd_40_17 (am_nlb_ok rfl) (by decide) ?_
  refine g_iconst dd_40_19 ic_0 ?_
  refine g_istore dd_40_20 (am_nlb_ok rfl) (by decide) ?_
  exact rw_ml hH qS cw hn hm1 hm hgo h99 nE qE e0 e6 e7 nA r0 s0 hs ht hB n 0 (by omega)
theorem rw_e {h : am_H} {n mi go : Nat} (hH : rv_ok h) {q : Nat} {vq : List Value} {fw : Nat → Nat → Nat} (qS : ∀ m fm fs G, am_get (rv h m fm fs G) q = some (.inr (9, vq))) (cw : ∀ m fm fs G s t, s < n → t < mi → am_EG mi_41 [.ref q, .retAddr s, .retAddr t] (rv h m fm fs G) (some (.retAddr (fw s t)), rv h m fm fs G)) (hn : n ≤ 4) (hm1 : 1 ≤ mi) (hm : mi ≤ 60) (hgo : go ≤ 3) (h99 : ∀ s t, s < n → t < mi → fw s t ≤ 99) {E a0 : Nat} {vE w0 : List Value} (nE : am_lk [(43, am_e0), (44, am_e0)] E = none) (qE : am_get h E = some (.inr (1, vE))) (e0 : vE[0]? = some (.ref a0)) (e6 : vE[6]? = some (.retAddr mi)) (e7 : vE[7]? = some (.retAddr go)) (nA : am_lk [(43, am_e0), (44, am_e0)] a0 = none) (r0 : am_get h a0 = some (.inr (8, w0))) (s0 : w0[3]? = some (.retAddr n)) {fm fs G : Nat} {v4 : Option Value} : am_Good mi_39 20 [some (.ref 43), some (.ref E), some (.ref q), some (.retAddr 4294967295), v4] [] (rv h mi fm fs G) (none, (rv h mi fm fs G)) := by
  refine g_iload_n (i := 3) dd_39_20 rfl ?_
  refine g_if_lt_t (t := 78) dd_39_21 (by decide) (by decide) ?_
  exact g_return rfl dd_39_78
theorem rw_o {h : am_H} {n mi go : Nat} (hH : rv_ok h) {q : Nat} {vq : List Value} {fw : Nat → Nat → Nat} (qS : ∀ m fm fs G, am_get (rv h m fm fs G) q = some (.inr (9, vq))) (cw : ∀ m fm fs G s t, s < n → t < mi → am_EG mi_41 [.ref q, .retAddr s, .retAddr t] (rv h m fm fs G) (some (.retAddr (fw s t)), rv h m fm fs G)) (hn : n ≤ 4) (hm1 : 1 ≤ mi) (hm : mi ≤ 60) (hgo : go ≤ 3) (h99 : ∀ s t, s < n → t < mi → fw s t ≤ 99) {E a0 : Nat} {vE w0 : List Value} (nE : am_lk [(43, am_e0), (44, am_e0)] E = none) (qE : am_get h E = some (.inr (1, vE))) (e0 : vE[0]? = some (.ref a0)) (e6 : vE[6]? = some (.retAddr mi)) (e7 : vE[7]? = some (.retAddr go)) (nA : am_lk [(43, am_e0), (44, am_e0)] a0 = none) (r0 : am_get h a0 = some (.inr (8, w0))) (s0 : w0[3]? = some (.retAddr n)) {r : am_R} {fm fs G t : Nat} (ht : t < mi) {v4 : Option Value} (hg : am_Good mi_39 27 [some (.ref 43), some (.ref E), some (.ref q), some (.retAddr t), some (.retAddr 0)] [] (rv h mi fm fs G) r) : am_Good mi_39 20 [some (.ref 43), some (.ref E), some (.ref q), some (.retAddr t), v4] [] (rv h mi fm fs G) r := by
  refine g_iload_n (i := 3) dd_39_20 rfl ?_
  refine g_if_lt_f (t := 78) dd_39_21 (by decide) (by first | exact sk_lt_f (by omega) (by omega) | exact tk_lt_f (by omega)) ?_
  refine g_iconst dd_39_24 ic_0 ?_
  refine g_istore dd_39_25 (am_nlb_ok rfl) (by decide) ?_
  exact hg
theorem rw_iz {h : am_H} {n mi go : Nat} (hH : rv_ok h) {q : Nat} {vq : List Value} {fw : Nat → Nat → Nat} (qS : ∀ m fm fs G, am_get (rv h m fm fs G) q = some (.inr (9, vq))) (cw : ∀ m fm fs G s t, s < n → t < mi → am_EG mi_41 [.ref q, .retAddr s, .retAddr t] (rv h m fm fs G) (some (.retAddr (fw s t)), rv h m fm fs G)) (hn : n ≤ 4) (hm1 : 1 ≤ mi) (hm : mi ≤ 60) (hgo : go ≤ 3) (h99 : ∀ s t, s < n → t < mi → fw s t ≤ 99) {E a0 : Nat} {vE w0 : List Value} (nE : am_lk [(43, am_e0), (44, am_e0)] E = none) (qE : am_get h E = some (.inr (1, vE))) (e0 : vE[0]? = some (.ref a0)) (e6 : vE[6]? = some (.retAddr mi)) (e7 : vE[7]? = some (.retAddr go)) (nA : am_lk [(43, am_e0), (44, am_e0)] a0 = none) (r0 : am_get h a0 = some (.inr (8, w0))) (s0 : w0[3]? = some (.retAddr n)) {r : am_R} {fm fs G t : Nat} (ht : t < 64) (hg : am_Good mi_39 20 [some (.ref 43), some (.ref E), some (.ref q), some (.retAddr 4294967295), some (.retAddr n)] [] (rv h mi fm fs G) r) : am_Good mi_39 27 [some (.ref 43), some (.ref E), some (.ref q), some (.retAddr 0), some (.retAddr n)] [] (rv h mi fm fs G) r := by
  refine g_iload dd_39_27 rfl ?_
  refine g_aload_n (i := 1) dd_39_29 rfl ?_
  refine g_getfield (k := 0) am_ck1 (by decide) (Or.inr ⟨_, w_83⟩) dd_39_30 ((rv_o hH nE).trans qE) e0 ?_
  refine g_getfield (k := 3) am_ck8 (by decide) (Or.inr ⟨_, w_64⟩) dd_39_33 ((rv_o hH nA).trans r0) s0 ?_
  refine g_icmp_ge_t (t := 72) dd_39_36 (by decide) (by first | exact sk_ge_t (by omega) (by omega) | exact tk_ge_t (by omega)) ?_
  refine e_iinc (v := 4294967295) (w := 4294967295) dd_39_72 rfl ic_m1 (am_nlb_ok rfl) (by decide) (by omega) ?_
  refine g_goto (t := 20) dd_39_75 (by decide) ?_
  exact hg
theorem rw_is {h : am_H} {n mi go : Nat} (hH : rv_ok h) {q : Nat} {vq : List Value} {fw : Nat → Nat → Nat} (qS : ∀ m fm fs G, am_get (rv h m fm fs G) q = some (.inr (9, vq))) (cw : ∀ m fm fs G s t, s < n → t < mi → am_EG mi_41 [.ref q, .retAddr s, .retAddr t] (rv h m fm fs G) (some (.retAddr (fw s t)), rv h m fm fs G)) (hn : n ≤ 4) (hm1 : 1 ≤ mi) (hm : mi ≤ 60) (hgo : go ≤ 3) (h99 : ∀ s t, s < n → t < mi → fw s t ≤ 99) {E a0 : Nat} {vE w0 : List Value} (nE : am_lk [(43, am_e0), (44, am_e0)] E = none) (qE : am_get h E = some (.inr (1, vE))) (e0 : vE[0]? = some (.ref a0)) (e6 : vE[6]? = some (.retAddr mi)) (e7 : vE[7]? = some (.retAddr go)) (nA : am_lk [(43, am_e0), (44, am_e0)] a0 = none) (r0 : am_get h a0 = some (.inr (8, w0))) (s0 : w0[3]? = some (.retAddr n)) {r : am_R} {fm fs G t : Nat} (ht : t < 64) (hg : am_Good mi_39 20 [some (.ref 43), some (.ref E), some (.ref q), some (.retAddr t), some (.retAddr n)] [] (rv h mi fm fs G) r) : am_Good mi_39 27 [some (.ref 43), some (.ref E), some (.ref q), some (.retAddr (t + 1)), some (.retAddr n)] [] (rv h mi fm fs G) r := by
  refine g_iload dd_39_27 rfl ?_
  refine g_aload_n (i := 1) dd_39_29 rfl ?_
  refine g_getfield (k := 0) am_ck1 (by decide) (Or.inr ⟨_, w_83⟩) dd_39_30 ((rv_o hH nE).trans qE) e0 ?_
  refine g_getfield (k := 3) am_ck8 (by decide) (Or.inr ⟨_, w_64⟩) dd_39_33 ((rv_o hH nA).trans r0) s0 ?_
  refine g_icmp_ge_t (t := 72) dd_39_36 (by decide) (by first | exact sk_ge_t (by omega) (by omega) | exact tk_ge_t (by omega)) ?_
  refine e_iinc (v := 4294967295) (w := t) dd_39_72 rfl ic_m1 (am_nlb_ok rfl) (by decide) (by omega) ?_
  refine g_goto (t := 20) dd_39_75 (by decide) ?_
  exact hg
theorem rw_j {h : am_H} {n mi go : Nat} (hH : rv_ok h) {q : Nat} {vq : List Value} {fw : Nat → Nat → Nat} (qS : ∀ m fm fs G, am_get (rv h m fm fs G) q = some (.inr (9, vq))) (cw : ∀ m fm fs G s t, s < n → t < mi → am_EG mi_41 [.ref q, .retAddr s, .retAddr t] (rv h m fm fs G) (some (.retAddr (fw s t)), rv h m fm fs G)) (hn : n ≤ 4) (hm1 : 1 ≤ mi) (hm : mi ≤ 60) (hgo : go ≤ 3) (h99 : ∀ s t, s < n → t < mi → fw s t ≤ 99) {E a0 : Nat} {vE w0 : List Value} (nE : am_lk [(43, am_e0), (44, am_e0)] E = none) (qE : am_get h E = some (.inr (1, vE))) (e0 : vE[0]? = some (.ref a0)) (e6 : vE[6]? = some (.retAddr mi)) (e7 : vE[7]? = some (.retAddr go)) (nA : am_lk [(43, am_e0), (44, am_e0)] a0 = none) (r0 : am_get h a0 = some (.inr (8, w0))) (s0 : w0[3]? = some (.retAddr n)) {r : am_R} {fm fs G t s : Nat} (hs : s < n) (ht : t < mi) (hB : ∀ u, t < u → ∀ k, k < n → rt_T G mi u k ≤ 5940) (hg : am_Good mi_39 27 [some (.ref 43), some (.ref E), some (.ref q), some (.retAddr t), some (.retAddr (s + 1))] [] (rv h mi fm fs (am_as G (60 * s + t) (rt_v fw (rt_T G mi) go n t s))) r) : am_Good mi_39 27 [some (.ref 43), some (.ref E), some (.ref q), some (.retAddr t), some (.retAddr s)] [] (rv h mi fm fs G) r := by
  refine g_iload dd_39_27 rfl ?_
  refine g_aload_n (i := 1) dd_39_29 rfl ?_
  refine g_getfield (k := 0) am_ck1 (by decide) (Or.inr ⟨_, w_83⟩) dd_39_30 ((rv_o hH nE).trans qE) e0 ?_
  refine g_getfield (k := 3) am_ck8 (by decide) (Or.inr ⟨_, w_64⟩) dd_39_33 ((rv_o hH nA).trans r0) s0 ?_
  refine g_icmp_ge_f (t := 72) dd_39_36 (by decide) (by first | exact sk_ge_f (by omega) (by omega) | exact tk_ge_f (by omega)) ?_
  refine g_iload dd_39_39 rfl ?_
  refine g_iconst dd_39_41 ic_4 ?_
  refine g_icmp_ge_f (t := 72) dd_39_42 (by decide) (by first | exact sk_ge_f (by omega) (by omega) | exact tk_ge_f (by omega)) ?_
  refine g_aload_n (i := 0) dd_39_45 rfl ?_
  refine g_getfield (k := 0) am_ck7 (by decide) (Or.inl w_200) dd_39_46 (rv_g43 hH) rfl ?_
  refine g_iload dd_39_49 rfl ?_
  refine g_bipush dd_39_51 bi_60 ?_
  refine e_imul (v := 60 * s) dd_39_53 (by omega) ?_
  refine g_iload_n (i := 3) dd_39_54 rfl ?_
  refine e_iadd (v := 60 * s + t) dd_39_55 (by omega) ?_
  refine g_aload_n (i := 0) dd_39_56 rfl ?_
  refine g_aload_n (i := 1) dd_39_57 rfl ?_
  refine g_aload_n (i := 2) dd_39_58 rfl ?_
  refine g_iload dd_39_59 rfl ?_
  refine g_iload_n (i := 3) dd_39_61 rfl ?_
  refine g_virtual (M' := mi_40) (n := 4) (ci := 7) (b := 43) (as := [.ref E, .ref q, .retAddr s, .retAddr t]) (st := [.retAddr (60 * s + t), .ref 44]) (r1 := (some (.retAddr (rt_v fw (rt_T G mi) go n t s)), (rv h mi fm fs G))) w_486 w_488 ps_40 ⟨lk_40.1, lk_40.2.1, lk_40.2.2, by decide, by decide⟩ rfl (rv_g43 hH) rfl (by simp [Value.category]) dd_39_62 (rw_m hH qS cw hn hm1 hm hgo h99 nE qE e0 e6 e7 nA r0 s0 (by omega) (by omega) hB) ?_
  show am_Good mi_39 65 [some (.ref 43), some (.ref E), some (.ref q), some (.retAddr t), some (.retAddr s)] [.retAddr (rt_v fw (rt_T G mi) go n t s), .retAddr (60 * s + t), .ref 44] (rv h mi fm fs G) _
  refine g_iastore dd_39_65 (rv_g44 hH) (by omega) (by decide) ?_
  refine am_heq (rv_u44 hH) ?_
  show am_Good mi_39 66 [some (.ref 43), some (.ref E), some (.ref q), some (.retAddr t), some (.retAddr s)] [] (rv h mi fm fs (am_as G (60 * s + t) (rt_v fw (rt_T G mi) go n t s))) _
  refine e_iinc (v := 1) (w := s + 1) dd_39_66 rfl ic_1 (am_nlb_ok rfl) (by decide) (by omega) ?_
  refine g_goto (t := 27) dd_39_69 (by decide) ?_
  exact hg
theorem rw_il {h : am_H} {n mi go : Nat} (hH : rv_ok h) {q : Nat} {vq : List Value} {fw : Nat → Nat → Nat} (qS : ∀ m fm fs G, am_get (rv h m fm fs G) q = some (.inr (9, vq))) (cw : ∀ m fm fs G s t, s < n → t < mi → am_EG mi_41 [.ref q, .retAddr s, .retAddr t] (rv h m fm fs G) (some (.retAddr (fw s t)), rv h m fm fs G)) (hn : n ≤ 4) (hm1 : 1 ≤ mi) (hm : mi ≤ 60) (hgo : go ≤ 3) (h99 : ∀ s t, s < n → t < mi → fw s t ≤ 99) {E a0 : Nat} {vE w0 : List Value} (nE : am_lk [(43, am_e0), (44, am_e0)] E = none) (qE : am_get h E = some (.inr (1, vE))) (e0 : vE[0]? = some (.ref a0)) (e6 : vE[6]? = some (.retAddr mi)) (e7 : vE[7]? = some (.retAddr go)) (nA : am_lk [(43, am_e0), (44, am_e0)] a0 = none) (r0 : am_get h a0 = some (.inr (8, w0))) (s0 : w0[3]? = some (.retAddr n)) {fm fs t : Nat} (ht : t < mi) (hK : ∀ G, rt_R fw (rt_T G mi) go n mi t → ∃ G', rt_R fw (rt_T G' mi) go n mi 0 ∧ am_Good mi_39 27 [some (.ref 43), some (.ref E), some (.ref q), some (.retAddr t), some (.retAddr n)] [] (rv h mi fm fs G) (none, rv h mi fm fs G')) : ∀ (f s G : Nat), s + f = n → rt_R fw (rt_T G mi) go n mi (t + 1) → (∀ k, k < s → rt_T G mi t k = rt_v fw (rt_T G mi) go n t k) → ∃ G', rt_R fw (rt_T G' mi) go n mi 0 ∧ am_Good mi_39 27 [some (.ref 43), some (.ref E), some (.ref q), some (.retAddr t), some (.retAddr s)] [] (rv h mi fm fs G) (none, rv h mi fm fs G')
  | 0, s, G, e, hR, hr => by
    have e' : s = n := by omega
    subst e'
    exact hK G (rt_R_row hR hr)
  | f + 1, s, G, e, hR, hr => by
    have hB := rt_bd' hm h99 hR
    have hv : rt_v fw (rt_T G mi) go n t s < 4294967296 := by
      have a := h99 s t (by omega) ht
      have b := hB (t + 1) (Nat.le_refl _) s (by omega)
      have := rt_mo_le (f := rt_by fw (rt_T G mi) go t) (s := s) (b := fw s t + rt_T G mi (t + 1) s) (M := 6039) (n := n) (by omega) (fun k hk => rw_by h99 hB hk ht)
      exact Nat.lt_of_le_of_lt this (by decide)
    obtain ⟨p1, p2⟩ := rt_row hn hm ht (show s < n by omega) hv hR hr
    obtain ⟨G', a, b⟩ := rw_il hH qS cw hn hm1 hm hgo h99 nE qE e0 e6 e7 nA r0 s0 ht hK f (s + 1) _ (by omega) p1 p2
    exact ⟨G', a, rw_j hH qS cw hn hm1 hm hgo h99 nE qE e0 e6 e7 nA r0 s0 (by omega) ht hB b⟩
theorem rw_ol {h : am_H} {n mi go : Nat} (hH : rv_ok h) {q : Nat} {vq : List Value} {fw : Nat → Nat → Nat} (qS : ∀ m fm fs G, am_get (rv h m fm fs G) q = some (.inr (9, vq))) (cw : ∀ m fm fs G s t, s < n → t < mi → am_EG mi_41 [.ref q, .retAddr s, .retAddr t] (rv h m fm fs G) (some (.retAddr (fw s t)), rv h m fm fs G)) (hn : n ≤ 4) (hm1 : 1 ≤ mi) (hm : mi ≤ 60) (hgo : go ≤ 3) (h99 : ∀ s t, s < n → t < mi → fw s t ≤ 99) {E a0 : Nat} {vE w0 : List Value} (nE : am_lk [(43, am_e0), (44, am_e0)] E = none) (qE : am_get h E = some (.inr (1, vE))) (e0 : vE[0]? = some (.ref a0)) (e6 : vE[6]? = some (.retAddr mi)) (e7 : vE[7]? = some (.retAddr go)) (nA : am_lk [(43, am_e0), (44, am_e0)] a0 = none) (r0 : am_get h a0 = some (.inr (8, w0))) (s0 : w0[3]? = some (.retAddr n)) {fm fs : Nat} : ∀ (t G : Nat) (v4 : Option Value), t < mi → rt_R fw (rt_T G mi) go n mi (t + 1) → ∃ G', rt_R fw (rt_T G' mi) go n mi 0 ∧ am_Good mi_39 20 [some (.ref 43), some (.ref E), some (.ref q), some (.retAddr t), v4] [] (rv h mi fm fs G) (none, rv h mi fm fs G')
  | 0, G, v4, ht, hR => by
    obtain ⟨G', a, b⟩ := rw_il hH qS cw hn hm1 hm hgo h99 nE qE e0 e6 e7 nA r0 s0 (fm := fm) (fs := fs) ht (fun G hG => ⟨G, hG, rw_iz (t := 0) hH qS cw hn hm1 hm hgo h99 nE qE e0 e6 e7 nA r0 s0 (by omega) (rw_e hH qS cw hn hm1 hm hgo h99 nE qE e0 e6 e7 nA r0 s0)⟩) n 0 G (by omega) hR (fun k hk => absurd hk (Nat.not_lt_zero k))
    exact ⟨G', a, rw_o hH qS cw hn hm1 hm hgo h99 nE qE e0 e6 e7 nA r0 s0 ht b⟩
  | t + 1, G, v4, ht, hR => by
    obtain ⟨G', a, b⟩ := rw_il hH qS cw hn hm1 hm hgo h99 nE qE e0 e6 e7 nA r0 s0 (fm := fm) (fs := fs) ht (fun G hG => by
      obtain ⟨G', a, b⟩ := rw_ol hH qS cw hn hm1 hm hgo h99 nE qE e0 e6 e7 nA r0 s0 (fm := fm) (fs := fs) t G (some (.retAddr n)) (by omega) hG
      exact ⟨G', a, rw_is hH qS cw hn hm1 hm hgo h99 nE qE e0 e6 e7 nA r0 s0 (by omega) b⟩) n 0 G (by omega) hR (fun k hk => absurd hk (Nat.not_lt_zero k))
    exact ⟨G', a, rw_o hH qS cw hn hm1 hm hgo h99 nE qE e0 e6 e7 nA r0 s0 ht b⟩
theorem rt_mn {mi : Nat} (hm : mi ≤ 60) : (bif am_tlt 60 mi then 60 else mi) = mi := by
  rw [show am_tlt 60 mi = false from sk_lt_f hm (by decide), cond_false]
theorem rw_0 {h : am_H} {n mi go : Nat} (hH : rv_ok h) {q : Nat} {vq : List Value} {fw : Nat → Nat → Nat} (qS : ∀ m fm fs G, am_get (rv h m fm fs G) q = some (.inr (9, vq))) (cw : ∀ m fm fs G s t, s < n → t < mi → am_EG mi_41 [.ref q, .retAddr s, .retAddr t] (rv h m fm fs G) (some (.retAddr (fw s t)), rv h m fm fs G)) (hn : n ≤ 4) (hm1 : 1 ≤ mi) (hm : mi ≤ 60) (hgo : go ≤ 3) (h99 : ∀ s t, s < n → t < mi → fw s t ≤ 99) {E a0 : Nat} {vE w0 : List Value} (nE : am_lk [(43, am_e0), (44, am_e0)] E = none) (qE : am_get h E = some (.inr (1, vE))) (e0 : vE[0]? = some (.ref a0)) (e6 : vE[6]? = some (.retAddr mi)) (e7 : vE[7]? = some (.retAddr go)) (nA : am_lk [(43, am_e0), (44, am_e0)] a0 = none) (r0 : am_get h a0 = some (.inr (8, w0))) (s0 : w0[3]? = some (.retAddr n)) {r : am_R} {m fm fs G t : Nat} (e : t + 1 = mi) (hg : am_Good mi_39 20 [some (.ref 43), some (.ref E), some (.ref q), some (.retAddr t), none] [] (rv h mi fm fs G) r) : am_EG mi_39 [.ref 43, .ref E, .ref q] (rv h m fm fs G) r := by
  refine am_enter (n := 2) tk_39.2.1 (by simp [Value.category]) (Nat.le_of_ble_eq_true rfl) ?_
  show am_Good mi_39 0 [some (.ref 43), some (.ref E), some (.ref q), none, none] [] (rv h m fm fs G) _
  refine g_aload_n (i := 0) dd_39_0 rfl ?_
  refine g_aload_n (i := 1) dd_39_1 rfl ?_
  refine g_getfield (k := 6) am_ck1 (by decide) (Or.inr ⟨_, w_106⟩) dd_39_2 ((rv_o hH nE).trans qE) e6 ?_
  refine g_bipush dd_39_5 bi_60 ?_
  refine g_mmin w_485 w_393 w_18 w_394 ⟨by decide, by decide⟩ (by simp [Value.category]) dd_39_7 ?_
  rw [show (bif am_tlt 60 mi then 60 else mi) = mi from (rt_mn hm)]
  refine g_putfield (k := 1) am_ck7 (by decide) (Or.inl w_201) (Or.inl rfl) dd_39_10 (rv_g43 hH) (Nat.le_of_ble_eq_true rfl) trivial ?_
  refine am_heq (rv_u43 hH) ?_
  show am_Good mi_39 13 [some (.ref 43), some (.ref E), some (.ref q), none, none] [] (rv h mi fm fs G) _
  refine g_aload_n (i := 0) dd_39_13 rfl ?_
  refine g_getfield (k := 1) am_ck7 (by decide) (Or.inl w_201) dd_39_14 (rv_g43 hH) rfl ?_
  refine g_iconst dd_39_17 ic_1 ?_
  refine e_isub (v := t) dd_39_18 (by omega) ?_
  refine g_istore_n (i := 3) dd_39_19 (am_nlb_ok rfl) (by decide) ?_
  exact hg
theorem rw_all {h : am_H} {n mi go : Nat} (hH : rv_ok h) {q : Nat} {vq : List Value} {fw : Nat → Nat → Nat} (qS : ∀ m fm fs G, am_get (rv h m fm fs G) q = some (.inr (9, vq))) (cw : ∀ m fm fs G s t, s < n → t < mi → am_EG mi_41 [.ref q, .retAddr s, .retAddr t] (rv h m fm fs G) (some (.retAddr (fw s t)), rv h m fm fs G)) (hn : n ≤ 4) (hm1 : 1 ≤ mi) (hm : mi ≤ 60) (hgo : go ≤ 3) (h99 : ∀ s t, s < n → t < mi → fw s t ≤ 99) {E a0 : Nat} {vE w0 : List Value} (nE : am_lk [(43, am_e0), (44, am_e0)] E = none) (qE : am_get h E = some (.inr (1, vE))) (e0 : vE[0]? = some (.ref a0)) (e6 : vE[6]? = some (.retAddr mi)) (e7 : vE[7]? = some (.retAddr go)) (nA : am_lk [(43, am_e0), (44, am_e0)] a0 = none) (r0 : am_get h a0 = some (.inr (8, w0))) (s0 : w0[3]? = some (.retAddr n)) {m fm fs G : Nat} : ∃ G', rt_R fw (rt_T G' mi) go n mi 0 ∧ am_EG mi_39 [.ref 43, .ref E, .ref q] (rv h m fm fs G) (none, rv h mi fm fs G') := by
  obtain ⟨t, e⟩ : ∃ t, t + 1 = mi := ⟨mi - 1, by omega⟩
  obtain ⟨G', a, b⟩ := rw_ol hH qS cw hn hm1 hm hgo h99 nE qE e0 e6 e7 nA r0 s0 (fm := fm) (fs := fs) t G none (by omega) ⟨fun u h1 h2 => by omega, fun u hu s hs => by unfold rt_T; rw [if_neg (by omega)]⟩
  exact ⟨G', a, rw_0 hH qS cw hn hm1 hm hgo h99 nE qE e0 e6 e7 nA r0 s0 e b⟩
