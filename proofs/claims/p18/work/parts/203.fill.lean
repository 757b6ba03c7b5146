/-! ===== Arrays.fill, for any row ===== -/
theorem am_upd_upd (h : am_H) (a : Nat) (x y : am_E) : am_upd (am_upd h a x) a y = am_upd h a y := by
  obtain ⟨n, s, bs⟩ := h
  unfold am_upd
  dsimp only
  cases hb : bs[a / 8]? with
  | none => rw [hb]
  | some b =>
    have hl : a / 8 < bs.length := (List.getElem?_eq_some_iff.mp hb).1
    dsimp only
    rw [List.getElem?_set_self hl]
    dsimp only
    rw [List.set_set, List.set_set]
theorem am_upd_self {h : am_H} {a : Nat} {x : am_E} (hx : am_get h a = some x) : am_upd h a x = h := by
  obtain ⟨n, s, bs⟩ := h
  rw [am_get_eq] at hx
  unfold am_upd
  dsimp only at hx ⊢
  cases hb : bs[a / 8]? with
  | none => rfl
  | some b =>
    rw [hb] at hx
    have hx2 : b[a % 8]? = some x := hx
    dsimp only
    have h1 : b.set (a % 8) x = b := by
      apply List.ext_getElem?
      intro i
      by_cases hi : a % 8 = i
      · subst hi
        rw [List.getElem?_set_self (List.getElem?_eq_some_iff.mp hx2).1, hx2]
      · rw [List.getElem?_set_ne hi]
    have h2 : bs.set (a / 8) b = bs := by
      apply List.ext_getElem?
      intro i
      by_cases hi : a / 8 = i
      · subst hi
        rw [List.getElem?_set_self (List.getElem?_eq_some_iff.mp hb).1, hb]
      · rw [List.getElem?_set_ne hi]
    rw [h1, h2]
theorem am_get_self {h : am_H} {a : Nat} {x y : am_E} (hx : am_get h a = some x) : am_get (am_upd h a y) a = some y := by rw [am_get_upd hx, if_pos rfl]
/-- from place k on, m places with v -/
def am_fl (v : Nat) : Nat → Nat → Nat → Nat
  | c, _, 0 => c
  | c, k, m + 1 => am_fl v (am_as c k v) (k + 1) m
theorem am_fl_ag (v : Nat) : ∀ (m c k j : Nat), am_ag (am_fl v c k m) j = if k ≤ j ∧ j < k + m then v % 4294967296 else am_ag c j
  | 0, c, k, j => by
    rw [if_neg (by omega)]
    rfl
  | m + 1, c, k, j => by
    show am_ag (am_fl v (am_as c k v) (k + 1) m) j = _
    rw [am_fl_ag v m, am_ag_as]
    by_cases h1 : k + 1 ≤ j ∧ j < k + 1 + m
    · rw [if_pos h1, if_pos (by omega)]
    · rw [if_neg h1]
      by_cases h2 : j = k
      · rw [if_pos h2, if_pos (by omega)]
      · rw [if_neg h2, if_neg (by omega)]
theorem am_ag_ext {a b : Nat} (h : ∀ j, am_ag a j = am_ag b j) : a = b := by
  apply Nat.eq_of_testBit_eq
  intro i
  have h1 := congrArg (fun x => x.testBit (i % 32)) (h (i / 32))
  simp only [am_ag_bit] at h1
  have h2 : i % 32 < 32 := Nat.mod_lt _ (by decide)
  rw [show 32 * (i / 32) + i % 32 = i by omega] at h1
  simpa [h2] using h1
theorem am_ag_big {c n j : Nat} (h : c < 2 ^ (32 * n)) (hj : n ≤ j) : am_ag c j = 0 := by
  unfold am_ag
  have h1 : c < 2 ^ (32 * j) := Nat.lt_of_lt_of_le h (Nat.pow_le_pow_right (by decide) (by omega))
  rw [Nat.shiftRight_eq_div_pow, Nat.div_eq_of_lt h1]
theorem fill_loop {a v n : Nat} (hn : n < 2147483648) : ∀ (m k c : Nat) (h : am_H), k + m = n → am_get h a = some (.inl (0, n, c)) → am_Good mi_9 5 [some (.ref a), some (.retAddr v), some (.retAddr k), some (.retAddr n)] [] h (none, am_upd h a (.inl (0, n, am_fl v c k m)))
  | 0, k, c, h, hk, hh => by
    have hkn : k = n := by omega
    subst hkn
    refine g_iload_n (i := 2) dd_9_5 rfl ?_
    refine g_iload_n (i := 3) dd_9_6 rfl ?_
    refine g_icmp_ge_t (t := 20) dd_9_7 (by decide) (tk_ge_t (by omega)) ?_
    have e : am_upd h a (.inl (0, k, am_fl v c k 0)) = h := am_upd_self hh
    rw [e]
    exact g_return rfl dd_9_20
  | m + 1, k, c, h, hk, hh => by
    refine g_iload_n (i := 2) dd_9_5 rfl ?_
    refine g_iload_n (i := 3) dd_9_6 rfl ?_
    refine g_icmp_ge_f (t := 20) dd_9_7 (by decide) (tk_ge_f (by omega)) ?_
    refine g_aload_n (i := 0) dd_9_10 rfl ?_
    refine g_iload_n (i := 2) dd_9_11 rfl ?_
    refine g_iload_n (i := 1) dd_9_12 rfl ?_
    refine g_iastore dd_9_13 hh (by omega) (by omega) ?_
    refine g_iinc dd_9_14 rfl ic_1 (am_nlb_ok rfl) (by decide) ?_
    refine g_goto (t := 5) dd_9_17 (by decide) ?_
    have hi := fill_loop (a := a) (v := v) hn m (k + 1) (am_as c k v) (am_upd h a (.inl (0, n, am_as c k v))) (by omega) (am_get_self hh)
    rw [am_upd_upd] at hi
    rw [show (k + 1) % 4294967296 = k + 1 by omega]
    exact hi
theorem eg_fill {a v n c : Nat} {h : am_H} (hn : n < 2147483648) (hh : am_get h a = some (.inl (0, n, c))) : am_EG mi_9 [.ref a, .retAddr v] h (none, am_upd h a (.inl (0, n, am_fl v c 0 n))) := by
  refine am_enter (n := 2) tk_9.2.1 (by simp [Value.category]) (Nat.le_of_ble_eq_true rfl) ?_
  show am_Good mi_9 0 [some (.ref a), some (.retAddr v), none, none] [] h _
  refine g_iconst dd_9_0 ic_0 ?_
  refine g_istore_n (i := 2) dd_9_1 (am_nlb_ok rfl) (by decide) ?_
  refine g_aload_n (i := 0) dd_9_2 rfl ?_
  refine g_alen dd_9_3 hh (by decide) ?_
  refine g_istore_n (i := 3) dd_9_4 (am_nlb_ok rfl) (by decide) ?_
  exact fill_loop hn n 0 c h (by omega) hh
/-- a row of n times v -/
theorem am_fl_is {v n X : Nat} (hv : v < 4294967296) (h1 : X < 2 ^ (32 * n)) (h2 : ∀ k, k < n → am_ag X k = v) : am_fl v 0 0 n = X := by
  apply am_ag_ext
  intro j
  rw [am_fl_ag]
  by_cases hj : j < n
  · rw [if_pos (by omega), h2 j hj, Nat.mod_eq_of_lt hv]
  · rw [if_neg (by omega), am_ag_big h1 (by omega)]
    simp [am_ag]
