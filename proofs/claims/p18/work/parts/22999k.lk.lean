/-! ===== learning: both, what is needed ===== -/
theorem lc_1m {rr i a b : Nat} (h : lz_sub a b) : lz_sub (cl_1 rr i a) (cl_1 rr i b) := fun j hj => by
  unfold cl_1 at hj ⊢
  by_cases c : a.testBit (am_ag rr (3 * i)) = true ∧ a.testBit (am_ag rr (3 * i + 1)) = true
  · rw [if_pos c] at hj
    rw [if_pos ⟨h _ c.1, h _ c.2⟩]
    rw [Nat.testBit_or, Bool.or_eq_true] at hj ⊢
    exact hj.elim (fun q => Or.inl (h j q)) Or.inr
  · rw [if_neg c] at hj
    by_cases d : b.testBit (am_ag rr (3 * i)) = true ∧ b.testBit (am_ag rr (3 * i + 1)) = true
    · rw [if_pos d, Nat.testBit_or, h j hj]; rfl
    · rw [if_neg d]; exact h j hj
theorem lc_nm {rr a b : Nat} (h : lz_sub a b) : ∀ n, lz_sub (cl_n rr n a) (cl_n rr n b)
  | 0 => h
  | n + 1 => lc_1m (lc_nm h n)
theorem lc_km {rr n a b : Nat} (h : lz_sub a b) : ∀ k, lz_sub (cl_k rr n k a) (cl_k rr n k b)
  | 0 => h
  | k + 1 => lc_nm (lc_km h k) n
theorem lc_id {rr n X : Nat} (h : cl_n rr n X = X) : ∀ k, cl_k rr n k X = X
  | 0 => rfl
  | k + 1 => by
    show cl_n rr n (cl_k rr n k X) = X
    rw [lc_id h k, h]
theorem lc_n0 {rr : Nat} : ∀ n, cl_n rr n 0 = 0
  | 0 => rfl
  | n + 1 => by
    show cl_1 rr n (cl_n rr n 0) = 0
    rw [lc_n0 n]
    unfold cl_1
    rw [Nat.zero_testBit, if_neg (fun q => absurd q.1 (by decide))]
theorem lc_C {rr n : Nat} (hn : n ≤ 6) (h7 : ∀ i, i < n → am_ag rr (3 * i + 2) ≤ 7) : lz_C (cl_k rr n 6) := by
  have ext : ∀ a, lz_sub a (cl_k rr n 6 a) := fun a j hj => cl_k_mono hj
  refine ⟨fun x hx => cl_k_lt hx h7 6, fun a b ha hb => Nat.eq_of_testBit_eq fun j => ?_, fun a b _ _ h => lc_km h 6, ext, lc_id (lc_n0 n) 6⟩
  have s1 : lz_sub (cl_k rr n 6 (cl_k rr n 6 a ||| b)) (cl_k rr n 6 (a ||| b)) := by
    have q := lc_km (rr := rr) (n := n) (lz_sub_or (lc_km (rr := rr) (n := n) (lz_sub_l (a := a) (b := b)) 6) (lz_sub_t (lz_sub_r (a := a) (b := b)) (ext (a ||| b)))) 6
    rw [lc_id (cl_6 hn) 6] at q
    exact q
  have s2 : lz_sub (cl_k rr n 6 (a ||| b)) (cl_k rr n 6 (cl_k rr n 6 a ||| b)) := lc_km (lz_sub_or (lz_sub_t (ext a) lz_sub_l) lz_sub_r) 6
  cases q : (cl_k rr n 6 (a ||| b)).testBit j
  · cases q2 : (cl_k rr n 6 (cl_k rr n 6 a ||| b)).testBit j
    · rfl
    · rw [s1 j q2] at q; cases q
  · exact s2 j q
/-- a fact's bit, as the class reads it -/
def lf_R (F s t : Nat) : Nat := if t < 60 then (1 <<< (am_ag F (60 * s + t) % 32)) % 4294967296 &&& 255 else 0
theorem lf_lt (F s t : Nat) : lf_R F s t < 256 := by
  unfold lf_R
  by_cases c : t < 60
  · rw [if_pos c]; exact Nat.lt_of_le_of_lt Nat.and_le_right (by decide)
  · rw [if_neg c]; decide
/-- minutes that are found -/
theorem lez_b {T : Nat → Nat} {cl : Nat → Nat} {set m : Nat} : ∀ k, k ≤ 1024 * (m + 1) → ((lz_ff T cl set k).2.1 = 4294967292 ∨ (lz_ff T cl set k).2.1 ≤ m) ∧ ((lz_ff T cl set k).2.2 = 4294967292 ∨ (lz_ff T cl set k).2.2 ≤ m)
  | 0, _ => ⟨Or.inl rfl, Or.inl rfl⟩
  | k + 1, hk => by
    obtain ⟨a, b⟩ := lez_b (T := T) (cl := cl) (set := set) (m := m) k (by omega)
    have e : lz_ff T cl set (k + 1) = if T k ≤ 6 ∧ cl (k % 256) &&& set = set then (if T k < (lz_ff T cl set k).1 then T k else (lz_ff T cl set k).1, if T k < (lz_ff T cl set k).1 then k / 1024 else (lz_ff T cl set k).2.1, if (lz_ff T cl set k).2.2 = 4294967292 then k / 1024 else (lz_ff T cl set k).2.2) else lz_ff T cl set k := rfl
    rw [e]
    by_cases c : T k ≤ 6 ∧ cl (k % 256) &&& set = set
    · rw [if_pos c]
      dsimp only
      refine ⟨?_, ?_⟩
      · by_cases q : T k < (lz_ff T cl set k).1
        · rw [if_pos q]; exact Or.inr (by omega)
        · rw [if_neg q]; exact a
      · by_cases q : (lz_ff T cl set k).2.2 = 4294967292
        · rw [if_pos q]; exact Or.inr (by omega)
        · rw [if_neg q]; exact b
    · rw [if_neg c]; exact ⟨a, b⟩
theorem th_60 {h : am_H} {s : Nat} (hs : s < 4) : am_EG mi_35 [.retAddr s, .retAddr 60] h (some (.retAddr 0), h) := by
  refine am_enter (n := 0) tk_35.2.1 (by simp [Value.category]) (Nat.le_of_ble_eq_true rfl) ?_
  show am_Good mi_35 0 [some (.retAddr s), some (.retAddr 60)] [] h _
  refine g_iload_n (i := 0) dd_35_0 rfl ?_
  refine g_if_lt_f (t := 23) dd_35_1 (by decide) (by first | exact sk_lt_f (by omega) (by omega) | exact tk_lt_f (by omega)) ?_
  refine g_iload_n (i := 0) dd_35_4 rfl ?_
  refine g_iconst dd_35_5 ic_4 ?_
  refine g_icmp_ge_f (t := 23) dd_35_6 (by decide) (by first | exact sk_ge_f (by omega) (by omega) | exact tk_ge_f (by omega)) ?_
  refine g_iload_n (i := 1) dd_35_9 rfl ?_
  refine g_if_lt_f (t := 23) dd_35_10 (by decide) (by decide) ?_
  refine g_iload_n (i := 1) dd_35_13 rfl ?_
  refine g_bipush dd_35_14 bi_60 ?_
  refine g_icmp_ge_t (t := 23) dd_35_16 (by decide) (by decide) ?_
  refine g_iconst dd_35_23 ic_0 ?_
  exact g_zreturn rfl (by first | decide | omega) dd_35_24
theorem lfb_1 {h : am_H} {q q1 q2 q3 : Nat} (qS : am_get h q = some (.inr (9, [.ref q1, .ref q2, .ref q3]))) {F : Nat} (g2 : am_get h q2 = some (.inl (0, 240, F))) {s t : Nat} (hs : s < 4) (ht : t < 60) : am_EG mi_68 [.ref q, .retAddr s, .retAddr t] h (some (.retAddr ((1 <<< (am_ag F (60 * s + t) % 32)) % 4294967296 &&& 255)), h) := by
  refine am_enter (n := 0) tk_68.2.1 (by simp [Value.category]) (Nat.le_of_ble_eq_true rfl) ?_
  show am_Good mi_68 0 [some (.ref q), some (.retAddr s), some (.retAddr t)] [] h _
  refine g_iload_n (i := 1) dd_68_0 rfl ?_
  refine g_iload_n (i := 2) dd_68_1 rfl ?_
  refine g_static (M' := mi_35) (n := 2) (as := [.retAddr s, .retAddr t]) (st := []) (r1 := (some (.retAddr 1), h)) w_466 w_467 ⟨lk_35.1, lk_35.2.1, lk_35.2.2, by decide, by decide⟩ rfl (by simp [Value.category]) dd_68_2 (th_1 hs ht) ?_
  show am_Good mi_68 5 [some (.ref q), some (.retAddr s), some (.retAddr t)] [.retAddr 1] h _
  refine g_if_eq_f (t := 28) dd_68_5 (by decide) (by decide) ?_
  refine g_iconst dd_68_8 ic_1 ?_
  refine g_aload_n (i := 0) dd_68_9 rfl ?_
  refine g_getfield (k := 1) am_ck9 (by decide) (Or.inl w_154) dd_68_10 qS rfl ?_
  refine g_iload_n (i := 1) dd_68_13 rfl ?_
  refine g_bipush dd_68_14 bi_60 ?_
  refine e_imul (v := 60 * s) dd_68_16 (by omega) ?_
  refine g_iload_n (i := 2) dd_68_17 rfl ?_
  refine e_iadd (v := 60 * s + t) dd_68_18 (by omega) ?_
  refine g_iaload dd_68_19 g2 (by omega) (by decide) ?_
  have hl_1 := am_ag_lt F (60 * s + t)
  refine e_ishl (v := (1 <<< (am_ag F (60 * s + t) % 32)) % 4294967296) dd_68_20 rfl ?_
  refine g_sipush dd_68_21 si_255 ?_
  refine e_iand (v := (1 <<< (am_ag F (60 * s + t) % 32)) % 4294967296 &&& 255) dd_68_24 rfl ?_
  refine g_goto (t := 29) dd_68_25 (by decide) ?_
  exact g_ireturn rfl dd_68_29
theorem lfb_0 {h : am_H} {q q1 q2 q3 : Nat} (qS : am_get h q = some (.inr (9, [.ref q1, .ref q2, .ref q3]))) {s : Nat} (hs : s < 4) : am_EG mi_68 [.ref q, .retAddr s, .retAddr 60] h (some (.retAddr 0), h) := by
  refine am_enter (n := 0) tk_68.2.1 (by simp [Value.category]) (Nat.le_of_ble_eq_true rfl) ?_
  show am_Good mi_68 0 [some (.ref q), some (.retAddr s), some (.retAddr 60)] [] h _
  refine g_iload_n (i := 1) dd_68_0 rfl ?_
  refine g_iload_n (i := 2) dd_68_1 rfl ?_
  refine g_static (M' := mi_35) (n := 2) (as := [.retAddr s, .retAddr 60]) (st := []) (r1 := (some (.retAddr 0), h)) w_466 w_467 ⟨lk_35.1, lk_35.2.1, lk_35.2.2, by decide, by decide⟩ rfl (by simp [Value.category]) dd_68_2 (th_60 hs) ?_
  show am_Good mi_68 5 [some (.ref q), some (.retAddr s), some (.retAddr 60)] [.retAddr 0] h _
  refine g_if_eq_t (t := 28) dd_68_5 (by decide) (by decide) ?_
  refine g_iconst dd_68_28 ic_0 ?_
  exact g_ireturn rfl dd_68_29
theorem lfb_m {h : am_H} {q q1 q2 q3 : Nat} (qS : am_get h q = some (.inr (9, [.ref q1, .ref q2, .ref q3]))) {F : Nat} (g2 : am_get h q2 = some (.inl (0, 240, F))) {s t : Nat} (hs : s < 4) (ht : t ≤ 60) : am_EG mi_68 [.ref q, .retAddr s, .retAddr t] h (some (.retAddr (lf_R F s t)), h) := by
  unfold lf_R
  by_cases c : t < 60
  · rw [if_pos c]; exact lfb_1 qS g2 hs c
  · have e : t = 60 := by omega
    subst e
    rw [if_neg c]
    exact lfb_0 qS hs
theorem udx_0 {h : am_H} {E : Nat} {v0 vE : List Value} (q0 : am_get h 0 = some (.inr (11, v0))) (x3 : v0[3]? = some (.ref E)) (x10 : v0[10]? = some (.ref 45)) (qE : am_get h E = some (.inr (1, vE))) {v45 : List Value} (q45 : am_get h 45 = some (.inr (3, v45))) {x y : Nat} (g_y : y < 4294967296) {z : Nat} (g_z : z < 4294967296) (e0_ : am_EG mi_51 [.ref 0, .retAddr x] h (some (.retAddr 0), h)) : am_EG mi_90 [.ref 0, .retAddr x, .retAddr y, .retAddr z] h (some (.retAddr 4294967295), h) := by
  refine am_enter (n := 0) tk_90.2.1 (by simp [Value.category]) (Nat.le_of_ble_eq_true rfl) ?_
  show am_Good mi_90 0 [some (.ref 0), some (.retAddr x), some (.retAddr y), some (.retAddr z)] [] h _
  refine g_aload_n (i := 0) dd_90_0 rfl ?_
  refine g_iload_n (i := 1) dd_90_1 rfl ?_
  refine g_virtual (M' := mi_51) (n := 1) (ci := 11) (b := 0) (as := [.retAddr x]) (st := []) (r1 := (some (.retAddr 0), h)) w_584 w_586 ps_51 ⟨lk_51.1, lk_51.2.1, lk_51.2.2, by decide, by decide⟩ rfl q0 rfl (by simp [Value.category]) dd_90_2 (e0_) ?_
  show am_Good mi_90 5 [some (.ref 0), some (.retAddr x), some (.retAddr y), some (.retAddr z)] [.retAddr 0] h _
  refine g_if_eq_t (t := 24) dd_90_5 (by decide) (by decide) ?_
  refine g_iconst dd_90_24 ic_m1 ?_
  exact g_ireturn rfl dd_90_25
theorem udx_1 {h : am_H} {E : Nat} {v0 vE : List Value} (q0 : am_get h 0 = some (.inr (11, v0))) (x3 : v0[3]? = some (.ref E)) (x10 : v0[10]? = some (.ref 45)) (qE : am_get h E = some (.inr (1, vE))) {v45 : List Value} (q45 : am_get h 45 = some (.inr (3, v45))) {x y : Nat} (g_y : y < 4294967296) {z : Nat} (g_z : z < 4294967296) (e0_ : am_EG mi_51 [.ref 0, .retAddr x] h (some (.retAddr 1), h)) (h2 : ¬ y < 256) : am_EG mi_90 [.ref 0, .retAddr x, .retAddr y, .retAddr z] h (some (.retAddr 4294967295), h) := by
  refine am_enter (n := 0) tk_90.2.1 (by simp [Value.category]) (Nat.le_of_ble_eq_true rfl) ?_
  show am_Good mi_90 0 [some (.ref 0), some (.retAddr x), some (.retAddr y), some (.retAddr z)] [] h _
  refine g_aload_n (i := 0) dd_90_0 rfl ?_
  refine g_iload_n (i := 1) dd_90_1 rfl ?_
  refine g_virtual (M' := mi_51) (n := 1) (ci := 11) (b := 0) (as := [.retAddr x]) (st := []) (r1 := (some (.retAddr 1), h)) w_584 w_586 ps_51 ⟨lk_51.1, lk_51.2.1, lk_51.2.2, by decide, by decide⟩ rfl q0 rfl (by simp [Value.category]) dd_90_2 (e0_) ?_
  show am_Good mi_90 5 [some (.ref 0), some (.retAddr x), some (.retAddr y), some (.retAddr z)] [.retAddr 1] h _
  refine g_if_eq_f (t := 24) dd_90_5 (by decide) (by decide) ?_
  refine g_iload_n (i := 2) dd_90_8 rfl ?_
  refine g_static (M' := mi_56) (n := 1) (as := [.retAddr y]) (st := []) (r1 := (some (.retAddr 0), h)) w_605 w_606 ⟨lk_56.1, lk_56.2.1, lk_56.2.2, by decide, by decide⟩ rfl (by simp [Value.category]) dd_90_9 (kn_is0 h2 g_y) ?_
  show am_Good mi_90 12 [some (.ref 0), some (.retAddr x), some (.retAddr y), some (.retAddr z)] [.retAddr 0] h _
  refine g_if_eq_t (t := 24) dd_90_12 (by decide) (by decide) ?_
  refine g_iconst dd_90_24 ic_m1 ?_
  exact g_ireturn rfl dd_90_25
theorem sox_0 {h : am_H} {E : Nat} {v0 vE : List Value} (q0 : am_get h 0 = some (.inr (11, v0))) (x3 : v0[3]? = some (.ref E)) (x10 : v0[10]? = some (.ref 45)) (qE : am_get h E = some (.inr (1, vE))) {v45 : List Value} (q45 : am_get h 45 = some (.inr (3, v45))) {x y : Nat} (g_y : y < 4294967296) (e0_ : am_EG mi_51 [.ref 0, .retAddr x] h (some (.retAddr 0), h)) : am_EG mi_100 [.ref 0, .retAddr x, .retAddr y] h (some (.retAddr 4294967295), h) := by
  refine am_enter (n := 0) tk_100.2.1 (by simp [Value.category]) (Nat.le_of_ble_eq_true rfl) ?_
  show am_Good mi_100 0 [some (.ref 0), some (.retAddr x), some (.retAddr y)] [] h _
  refine g_aload_n (i := 0) dd_100_0 rfl ?_
  refine g_iload_n (i := 1) dd_100_1 rfl ?_
  refine g_virtual (M' := mi_51) (n := 1) (ci := 11) (b := 0) (as := [.retAddr x]) (st := []) (r1 := (some (.retAddr 0), h)) w_584 w_586 ps_51 ⟨lk_51.1, lk_51.2.1, lk_51.2.2, by decide, by decide⟩ rfl q0 rfl (by simp [Value.category]) dd_100_2 (e0_) ?_
  show am_Good mi_100 5 [some (.ref 0), some (.retAddr x), some (.retAddr y)] [.retAddr 0] h _
  refine g_if_eq_t (t := 15) dd_100_5 (by decide) (by decide) ?_
  refine g_iconst dd_100_15 ic_m1 ?_
  exact g_ireturn rfl dd_100_16
theorem sox_1 {h : am_H} {E : Nat} {v0 vE : List Value} (q0 : am_get h 0 = some (.inr (11, v0))) (x3 : v0[3]? = some (.ref E)) (x10 : v0[10]? = some (.ref 45)) (qE : am_get h E = some (.inr (1, vE))) {v45 : List Value} (q45 : am_get h 45 = some (.inr (3, v45))) {x y : Nat} (g_y : y < 4294967296) (e0_ : am_EG mi_51 [.ref 0, .retAddr x] h (some (.retAddr 1), h)) (h2 : ¬ y < 256) : am_EG mi_100 [.ref 0, .retAddr x, .retAddr y] h (some (.retAddr 4294967295), h) := by
  refine am_enter (n := 0) tk_100.2.1 (by simp [Value.category]) (Nat.le_of_ble_eq_true rfl) ?_
  show am_Good mi_100 0 [some (.ref 0), some (.retAddr x), some (.retAddr y)] [] h _
  refine g_aload_n (i := 0) dd_100_0 rfl ?_
  refine g_iload_n (i := 1) dd_100_1 rfl ?_
  refine g_virtual (M' := mi_51) (n := 1) (ci := 11) (b := 0) (as := [.retAddr x]) (st := []) (r1 := (some (.retAddr 1), h)) w_584 w_586 ps_51 ⟨lk_51.1, lk_51.2.1, lk_51.2.2, by decide, by decide⟩ rfl q0 rfl (by simp [Value.category]) dd_100_2 (e0_) ?_
  show am_Good mi_100 5 [some (.ref 0), some (.retAddr x), some (.retAddr y)] [.retAddr 1] h _
  refine g_if_eq_f (t := 15) dd_100_5 (by decide) (by decide) ?_
  refine g_iload_n (i := 2) dd_100_8 rfl ?_
  refine g_static (M' := mi_56) (n := 1) (as := [.retAddr y]) (st := []) (r1 := (some (.retAddr 0), h)) w_605 w_606 ⟨lk_56.1, lk_56.2.1, lk_56.2.2, by decide, by decide⟩ rfl (by simp [Value.category]) dd_100_9 (kn_is0 h2 g_y) ?_
  show am_Good mi_100 12 [some (.ref 0), some (.retAddr x), some (.retAddr y)] [.retAddr 0] h _
  refine g_if_ne_f (t := 17) dd_100_12 (by decide) (by decide) ?_
  refine g_iconst dd_100_15 ic_m1 ?_
  exact g_ireturn rfl dd_100_16
theorem udx_2 {h : am_H} {E : Nat} {v0 vE : List Value} (q0 : am_get h 0 = some (.inr (11, v0))) (x3 : v0[3]? = some (.ref E)) (x10 : v0[10]? = some (.ref 45)) (qE : am_get h E = some (.inr (1, vE))) {v45 : List Value} (q45 : am_get h 45 = some (.inr (3, v45))) {x y : Nat} (g_y : y < 4294967296) {z : Nat} (g_z : z < 4294967296) (e0_ : am_EG mi_51 [.ref 0, .retAddr x] h (some (.retAddr 1), h)) (h2 : y < 256) (h3 : ¬ z ≤ 1) : am_EG mi_90 [.ref 0, .retAddr x, .retAddr y, .retAddr z] h (some (.retAddr 4294967295), h) := by
  refine am_enter (n := 0) tk_90.2.1 (by simp [Value.category]) (Nat.le_of_ble_eq_true rfl) ?_
  show am_Good mi_90 0 [some (.ref 0), some (.retAddr x), some (.retAddr y), some (.retAddr z)] [] h _
  refine g_aload_n (i := 0) dd_90_0 rfl ?_
  refine g_iload_n (i := 1) dd_90_1 rfl ?_
  refine g_virtual (M' := mi_51) (n := 1) (ci := 11) (b := 0) (as := [.retAddr x]) (st := []) (r1 := (some (.retAddr 1), h)) w_584 w_586 ps_51 ⟨lk_51.1, lk_51.2.1, lk_51.2.2, by decide, by decide⟩ rfl q0 rfl (by simp [Value.category]) dd_90_2 (e0_) ?_
  show am_Good mi_90 5 [some (.ref 0), some (.retAddr x), some (.retAddr y), some (.retAddr z)] [.retAddr 1] h _
  refine g_if_eq_f (t := 24) dd_90_5 (by decide) (by decide) ?_
  refine g_iload_n (i := 2) dd_90_8 rfl ?_
  refine g_static (M' := mi_56) (n := 1) (as := [.retAddr y]) (st := []) (r1 := (some (.retAddr 1), h)) w_605 w_606 ⟨lk_56.1, lk_56.2.1, lk_56.2.2, by decide, by decide⟩ rfl (by simp [Value.category]) dd_90_9 (kn_is1 h2) ?_
  show am_Good mi_90 12 [some (.ref 0), some (.retAddr x), some (.retAddr y), some (.retAddr z)] [.retAddr 1] h _
  refine g_if_eq_f (t := 24) dd_90_12 (by decide) (by decide) ?_
  refine g_iload_n (i := 3) dd_90_15 rfl ?_
  by_cases hq : 2147483648 ≤ z
  · refine g_if_lt_t (t := 24) dd_90_16 (by decide) (by first | exact sk_lt_t (by omega) (by omega) | exact tk_lt_t (by omega)) ?_
    refine g_iconst dd_90_24 ic_m1 ?_
    exact g_ireturn rfl dd_90_25
  · refine g_if_lt_f (t := 24) dd_90_16 (by decide) (by first | exact sk_lt_f (by omega) (by omega) | exact tk_lt_f (by omega)) ?_
    refine g_iload_n (i := 3) dd_90_19 rfl ?_
    refine g_iconst dd_90_20 ic_1 ?_
    refine g_icmp_le_f (t := 26) dd_90_21 (by decide) (by first | exact sk_le_f (by omega) (by omega) | exact tk_le_f (by omega)) ?_
    refine g_iconst dd_90_24 ic_m1 ?_
    exact g_ireturn rfl dd_90_25
theorem udx_k0 {h : am_H} {E : Nat} {v0 vE : List Value} (q0 : am_get h 0 = some (.inr (11, v0))) (x3 : v0[3]? = some (.ref E)) (x10 : v0[10]? = some (.ref 45)) (qE : am_get h E = some (.inr (1, vE))) {v45 : List Value} (q45 : am_get h 45 = some (.inr (3, v45))) {x y : Nat} (g_y : y < 4294967296) (e0_ : am_EG mi_51 [.ref 0, .retAddr x] h (some (.retAddr 1), h)) (h2 : y < 256) {g : am_H} {u0 u45 : List Value} {fg mf ma : Nat} (q0g : am_get g 0 = some (.inr (11, u0))) (x10g : u0[10]? = some (.ref 45)) (q45g : am_get g 45 = some (.inr (3, u45))) (t7g : u45[7]? = some (.retAddr fg)) (t8g : u45[8]? = some (.retAddr mf)) (t9g : u45[9]? = some (.retAddr ma)) (e1_ : am_EG mi_91 [.ref 45, .ref E, .retAddr x, .retAddr y] h (none, g)) : am_EG mi_90 [.ref 0, .retAddr x, .retAddr y, .retAddr 0] h (some (.retAddr fg), g) := by
  refine am_enter (n := 0) tk_90.2.1 (by simp [Value.category]) (Nat.le_of_ble_eq_true rfl) ?_
  show am_Good mi_90 0 [some (.ref 0), some (.retAddr x), some (.retAddr y), some (.retAddr 0)] [] h _
  refine g_aload_n (i := 0) dd_90_0 rfl ?_
  refine g_iload_n (i := 1) dd_90_1 rfl ?_
  refine g_virtual (M' := mi_51) (n := 1) (ci := 11) (b := 0) (as := [.retAddr x]) (st := []) (r1 := (some (.retAddr 1), h)) w_584 w_586 ps_51 ⟨lk_51.1, lk_51.2.1, lk_51.2.2, by decide, by decide⟩ rfl q0 rfl (by simp [Value.category]) dd_90_2 (e0_) ?_
  show am_Good mi_90 5 [some (.ref 0), some (.retAddr x), some (.retAddr y), some (.retAddr 0)] [.retAddr 1] h _
  refine g_if_eq_f (t := 24) dd_90_5 (by decide) (by decide) ?_
  refine g_iload_n (i := 2) dd_90_8 rfl ?_
  refine g_static (M' := mi_56) (n := 1) (as := [.retAddr y]) (st := []) (r1 := (some (.retAddr 1), h)) w_605 w_606 ⟨lk_56.1, lk_56.2.1, lk_56.2.2, by decide, by decide⟩ rfl (by simp [Value.category]) dd_90_9 (kn_is1 h2) ?_
  show am_Good mi_90 12 [some (.ref 0), some (.retAddr x), some (.retAddr y), some (.retAddr 0)] [.retAddr 1] h _
  refine g_if_eq_f (t := 24) dd_90_12 (by decide) (by decide) ?_
  refine g_iload_n (i := 3) dd_90_15 rfl ?_
  refine g_if_lt_f (t := 24) dd_90_16 (by decide) (by decide) ?_
  refine g_iload_n (i := 3) dd_90_19 rfl ?_
  refine g_iconst dd_90_20 ic_1 ?_
  refine g_icmp_le_t (t := 26) dd_90_21 (by decide) (by decide) ?_
  refine g_aload_n (i := 0) dd_90_26 rfl ?_
  refine g_getfield (k := 10) am_ck11 (by decide) (Or.inl w_521) dd_90_27 q0 x10 ?_
  refine g_aload_n (i := 0) dd_90_30 rfl ?_
  refine g_getfield (k := 3) am_ck11 (by decide) (Or.inl w_514) dd_90_31 q0 x3 ?_
  refine g_iload_n (i := 1) dd_90_34 rfl ?_
  refine g_iload_n (i := 2) dd_90_35 rfl ?_
  refine g_virtual (M' := mi_91) (n := 3) (ci := 3) (b := 45) (as := [.ref E, .retAddr x, .retAddr y]) (st := []) (r1 := (none, g)) w_752 w_753 w_754 ⟨lk_91.1, lk_91.2.1, lk_91.2.2, by decide, by decide⟩ rfl q45 rfl (by simp [Value.category]) dd_90_36 (e1_) ?_
  show am_Good mi_90 39 [some (.ref 0), some (.retAddr x), some (.retAddr y), some (.retAddr 0)] [] g _
  refine g_iload_n (i := 3) dd_90_39 rfl ?_
  refine g_if_ne_f (t := 53) dd_90_40 (by decide) (by decide) ?_
  refine g_aload_n (i := 0) dd_90_43 rfl ?_
  refine g_getfield (k := 10) am_ck11 (by decide) (Or.inl w_521) dd_90_44 q0g x10g ?_
  refine g_getfield (k := 7) am_ck3 (by decide) (Or.inr ⟨_, w_232⟩) dd_90_47 q45g t7g ?_
  refine g_goto (t := 60) dd_90_50 (by decide) ?_
  exact g_ireturn rfl dd_90_60
theorem udx_k1 {h : am_H} {E : Nat} {v0 vE : List Value} (q0 : am_get h 0 = some (.inr (11, v0))) (x3 : v0[3]? = some (.ref E)) (x10 : v0[10]? = some (.ref 45)) (qE : am_get h E = some (.inr (1, vE))) {v45 : List Value} (q45 : am_get h 45 = some (.inr (3, v45))) {x y : Nat} (g_y : y < 4294967296) (e0_ : am_EG mi_51 [.ref 0, .retAddr x] h (some (.retAddr 1), h)) (h2 : y < 256) {g : am_H} {u0 u45 : List Value} {fg mf ma : Nat} (q0g : am_get g 0 = some (.inr (11, u0))) (x10g : u0[10]? = some (.ref 45)) (q45g : am_get g 45 = some (.inr (3, u45))) (t7g : u45[7]? = some (.retAddr fg)) (t8g : u45[8]? = some (.retAddr mf)) (t9g : u45[9]? = some (.retAddr ma)) (e1_ : am_EG mi_91 [.ref 45, .ref E, .retAddr x, .retAddr y] h (none, g)) : am_EG mi_90 [.ref 0, .retAddr x, .retAddr y, .retAddr 1] h (some (.retAddr mf), g) := by
  refine am_enter (n := 0) tk_90.2.1 (by simp [Value.category]) (Nat.le_of_ble_eq_true rfl) ?_
  show am_Good mi_90 0 [some (.ref 0), some (.retAddr x), some (.retAddr y), some (.retAddr 1)] [] h _
  refine g_aload_n (i := 0) dd_90_0 rfl ?_
  refine g_iload_n (i := 1) dd_90_1 rfl ?_
  refine g_virtual (M' := mi_51) (n := 1) (ci := 11) (b := 0) (as := [.retAddr x]) (st := []) (r1 := (some (.retAddr 1), h)) w_584 w_586 ps_51 ⟨lk_51.1, lk_51.2.1, lk_51.2.2, by decide, by decide⟩ rfl q0 rfl (by simp [Value.category]) dd_90_2 (e0_) ?_
  show am_Good mi_90 5 [some (.ref 0), some (.retAddr x), some (.retAddr y), some (.retAddr 1)] [.retAddr 1] h _
  refine g_if_eq_f (t := 24) dd_90_5 (by decide) (by decide) ?_
  refine g_iload_n (i := 2) dd_90_8 rfl ?_
  refine g_static (M' := mi_56) (n := 1) (as := [.retAddr y]) (st := []) (r1 := (some (.retAddr 1), h)) w_605 w_606 ⟨lk_56.1, lk_56.2.1, lk_56.2.2, by decide, by decide⟩ rfl (by simp [Value.category]) dd_90_9 (kn_is1 h2) ?_
  show am_Good mi_90 12 [some (.ref 0), some (.retAddr x), some (.retAddr y), some (.retAddr 1)] [.retAddr 1] h _
  refine g_if_eq_f (t := 24) dd_90_12 (by decide) (by decide) ?_
  refine g_iload_n (i := 3) dd_90_15 rfl ?_
  refine g_if_lt_f (t := 24) dd_90_16 (by decide) (by decide) ?_
  refine g_iload_n (i := 3) dd_90_19 rfl ?_
  refine g_iconst dd_90_20 ic_1 ?_
  refine g_icmp_le_t (t := 26) dd_90_21 (by decide) (by decide) ?_
  refine g_aload_n (i := 0) dd_90_26 rfl ?_
  refine g_getfield (k := 10) am_ck11 (by decide) (Or.inl w_521) dd_90_27 q0 x10 ?_
  refine g_aload_n (i := 0) dd_90_30 rfl ?_
  refine g_getfield (k := 3) am_ck11 (by decide) (Or.inl w_514) dd_90_31 q0 x3 ?_
  refine g_iload_n (i := 1) dd_90_34 rfl ?_
  refine g_iload_n (i := 2) dd_90_35 rfl ?_
  refine g_virtual (M' := mi_91) (n := 3) (ci := 3) (b := 45) (as := [.ref E, .retAddr x, .retAddr y]) (st := []) (r1 := (none, g)) w_752 w_753 w_754 ⟨lk_91.1, lk_91.2.1, lk_91.2.2, by decide, by decide⟩ rfl q45 rfl (by simp [Value.category]) dd_90_36 (e1_) ?_
  show am_Good mi_90 39 [some (.ref 0), some (.retAddr x), some (.retAddr y), some (.retAddr 1)] [] g _
  refine g_iload_n (i := 3) dd_90_39 rfl ?_
  refine g_if_ne_t (t := 53) dd_90_40 (by decide) (by decide) ?_
  refine g_aload_n (i := 0) dd_90_53 rfl ?_
  refine g_getfield (k := 10) am_ck11 (by decide) (Or.inl w_521) dd_90_54 q0g x10g ?_
  refine g_getfield (k := 8) am_ck3 (by decide) (Or.inr ⟨_, w_234⟩) dd_90_57 q45g t8g ?_
  exact g_ireturn rfl dd_90_60
theorem sox_k {h : am_H} {E : Nat} {v0 vE : List Value} (q0 : am_get h 0 = some (.inr (11, v0))) (x3 : v0[3]? = some (.ref E)) (x10 : v0[10]? = some (.ref 45)) (qE : am_get h E = some (.inr (1, vE))) {v45 : List Value} (q45 : am_get h 45 = some (.inr (3, v45))) {x y : Nat} (g_y : y < 4294967296) (e0_ : am_EG mi_51 [.ref 0, .retAddr x] h (some (.retAddr 1), h)) (h2 : y < 256) {g : am_H} {u0 u45 : List Value} {fg mf ma : Nat} (q0g : am_get g 0 = some (.inr (11, u0))) (x10g : u0[10]? = some (.ref 45)) (q45g : am_get g 45 = some (.inr (3, u45))) (t7g : u45[7]? = some (.retAddr fg)) (t8g : u45[8]? = some (.retAddr mf)) (t9g : u45[9]? = some (.retAddr ma)) (e1_ : am_EG mi_91 [.ref 45, .ref E, .retAddr x, .retAddr y] h (none, g)) : am_EG mi_100 [.ref 0, .retAddr x, .retAddr y] h (some (.retAddr ma), g) := by
  refine am_enter (n := 0) tk_100.2.1 (by simp [Value.category]) (Nat.le_of_ble_eq_true rfl) ?_
  show am_Good mi_100 0 [some (.ref 0), some (.retAddr x), some (.retAddr y)] [] h _
  refine g_aload_n (i := 0) dd_100_0 rfl ?_
  refine g_iload_n (i := 1) dd_100_1 rfl ?_
  refine g_virtual (M' := mi_51) (n := 1) (ci := 11) (b := 0) (as := [.retAddr x]) (st := []) (r1 := (some (.retAddr 1), h)) w_584 w_586 ps_51 ⟨lk_51.1, lk_51.2.1, lk_51.2.2, by decide, by decide⟩ rfl q0 rfl (by simp [Value.category]) dd_100_2 (e0_) ?_
  show am_Good mi_100 5 [some (.ref 0), some (.retAddr x), some (.retAddr y)] [.retAddr 1] h _
  refine g_if_eq_f (t := 15) dd_100_5 (by decide) (by decide) ?_
  refine g_iload_n (i := 2) dd_100_8 rfl ?_
  refine g_static (M' := mi_56) (n := 1) (as := [.retAddr y]) (st := []) (r1 := (some (.retAddr 1), h)) w_605 w_606 ⟨lk_56.1, lk_56.2.1, lk_56.2.2, by decide, by decide⟩ rfl (by simp [Value.category]) dd_100_9 (kn_is1 h2) ?_
  show am_Good mi_100 12 [some (.ref 0), some (.retAddr x), some (.retAddr y)] [.retAddr 1] h _
  refine g_if_ne_t (t := 17) dd_100_12 (by decide) (by decide) ?_
  refine g_aload_n (i := 0) dd_100_17 rfl ?_
  refine g_getfield (k := 10) am_ck11 (by decide) (Or.inl w_521) dd_100_18 q0 x10 ?_
  refine g_aload_n (i := 0) dd_100_21 rfl ?_
  refine g_getfield (k := 3) am_ck11 (by decide) (Or.inl w_514) dd_100_22 q0 x3 ?_
  refine g_iload_n (i := 1) dd_100_25 rfl ?_
  refine g_iload_n (i := 2) dd_100_26 rfl ?_
  refine g_virtual (M' := mi_91) (n := 3) (ci := 3) (b := 45) (as := [.ref E, .retAddr x, .retAddr y]) (st := []) (r1 := (none, g)) w_752 w_753 w_754 ⟨lk_91.1, lk_91.2.1, lk_91.2.2, by decide, by decide⟩ rfl q45 rfl (by simp [Value.category]) dd_100_27 (e1_) ?_
  show am_Good mi_100 30 [some (.ref 0), some (.retAddr x), some (.retAddr y)] [] g _
  refine g_aload_n (i := 0) dd_100_30 rfl ?_
  refine g_getfield (k := 10) am_ck11 (by decide) (Or.inl w_521) dd_100_31 q0g x10g ?_
  refine g_getfield (k := 9) am_ck3 (by decide) (Or.inr ⟨_, w_236⟩) dd_100_34 q45g t9g ?_
  exact g_ireturn rfl dd_100_37
theorem udm_0 {h : am_H} {vs : List Value} (q66 : am_get h 66 = some (.inr (12, vs))) {x y : Nat} (g_y : y < 4294967296) {z : Nat} (g_z : z < 4294967296) (e0_ : am_EG mi_153 [.ref 66, .retAddr x] h (some (.retAddr 0), h)) : am_EG mi_186 [.ref 66, .retAddr x, .retAddr y, .retAddr z] h (some (.retAddr 4294967295), h) := by
  refine am_enter (n := 0) tk_186.2.1 (by simp [Value.category]) (Nat.le_of_ble_eq_true rfl) ?_
  show am_Good mi_186 0 [some (.ref 66), some (.retAddr x), some (.retAddr y), some (.retAddr z)] [] h _
  refine g_aload_n (i := 0) dd_186_0 rfl ?_
  refine g_iload_n (i := 1) dd_186_1 rfl ?_
  refine g_virtual (M' := mi_153) (n := 1) (ci := 12) (b := 66) (as := [.retAddr x]) (st := []) (r1 := (some (.retAddr 0), h)) w_1184 w_1186 ps_153 ⟨lk_153.1, lk_153.2.1, lk_153.2.2, by decide, by decide⟩ rfl q66 rfl (by simp [Value.category]) dd_186_2 (e0_) ?_
  show am_Good mi_186 5 [some (.ref 66), some (.retAddr x), some (.retAddr y), some (.retAddr z)] [.retAddr 0] h _
  refine g_if_eq_t (t := 24) dd_186_5 (by decide) (by decide) ?_
  refine g_iconst dd_186_24 ic_m1 ?_
  exact g_ireturn rfl dd_186_25
theorem udm_1 {h : am_H} {vs : List Value} (q66 : am_get h 66 = some (.inr (12, vs))) {x y : Nat} (g_y : y < 4294967296) {z : Nat} (g_z : z < 4294967296) (e0_ : am_EG mi_153 [.ref 66, .retAddr x] h (some (.retAddr 1), h)) (h2 : ¬ y < 256) : am_EG mi_186 [.ref 66, .retAddr x, .retAddr y, .retAddr z] h (some (.retAddr 4294967295), h) := by
  refine am_enter (n := 0) tk_186.2.1 (by simp [Value.category]) (Nat.le_of_ble_eq_true rfl) ?_
  show am_Good mi_186 0 [some (.ref 66), some (.retAddr x), some (.retAddr y), some (.retAddr z)] [] h _
  refine g_aload_n (i := 0) dd_186_0 rfl ?_
  refine g_iload_n (i := 1) dd_186_1 rfl ?_
  refine g_virtual (M' := mi_153) (n := 1) (ci := 12) (b := 66) (as := [.retAddr x]) (st := []) (r1 := (some (.retAddr 1), h)) w_1184 w_1186 ps_153 ⟨lk_153.1, lk_153.2.1, lk_153.2.2, by decide, by decide⟩ rfl q66 rfl (by simp [Value.category]) dd_186_2 (e0_) ?_
  show am_Good mi_186 5 [some (.ref 66), some (.retAddr x), some (.retAddr y), some (.retAddr z)] [.retAddr 1] h _
  refine g_if_eq_f (t := 24) dd_186_5 (by decide) (by decide) ?_
  refine g_iload_n (i := 2) dd_186_8 rfl ?_
  refine g_static (M' := mi_161) (n := 1) (as := [.retAddr y]) (st := []) (r1 := (some (.retAddr 0), h)) w_1215 w_1216 ⟨lk_161.1, lk_161.2.1, lk_161.2.2, by decide, by decide⟩ rfl (by simp [Value.category]) dd_186_9 (kn_ms0 h2 g_y) ?_
  show am_Good mi_186 12 [some (.ref 66), some (.retAddr x), some (.retAddr y), some (.retAddr z)] [.retAddr 0] h _
  refine g_if_eq_t (t := 24) dd_186_12 (by decide) (by decide) ?_
  refine g_iconst dd_186_24 ic_m1 ?_
  exact g_ireturn rfl dd_186_25
theorem som_0 {h : am_H} {vs : List Value} (q66 : am_get h 66 = some (.inr (12, vs))) {x y : Nat} (g_y : y < 4294967296) (e0_ : am_EG mi_153 [.ref 66, .retAddr x] h (some (.retAddr 0), h)) : am_EG mi_191 [.ref 66, .retAddr x, .retAddr y] h (some (.retAddr 4294967295), h) := by
  refine am_enter (n := 0) tk_191.2.1 (by simp [Value.category]) (Nat.le_of_ble_eq_true rfl) ?_
  show am_Good mi_191 0 [some (.ref 66), some (.retAddr x), some (.retAddr y)] [] h _
  refine g_aload_n (i := 0) dd_191_0 rfl ?_
  refine g_iload_n (i := 1) dd_191_1 rfl ?_
  refine g_virtual (M' := mi_153) (n := 1) (ci := 12) (b := 66) (as := [.retAddr x]) (st := []) (r1 := (some (.retAddr 0), h)) w_1184 w_1186 ps_153 ⟨lk_153.1, lk_153.2.1, lk_153.2.2, by decide, by decide⟩ rfl q66 rfl (by simp [Value.category]) dd_191_2 (e0_) ?_
  show am_Good mi_191 5 [some (.ref 66), some (.retAddr x), some (.retAddr y)] [.retAddr 0] h _
  refine g_if_eq_t (t := 15) dd_191_5 (by decide) (by decide) ?_
  refine g_iconst dd_191_15 ic_m1 ?_
  exact g_ireturn rfl dd_191_16
theorem som_1 {h : am_H} {vs : List Value} (q66 : am_get h 66 = some (.inr (12, vs))) {x y : Nat} (g_y : y < 4294967296) (e0_ : am_EG mi_153 [.ref 66, .retAddr x] h (some (.retAddr 1), h)) (h2 : ¬ y < 256) : am_EG mi_191 [.ref 66, .retAddr x, .retAddr y] h (some (.retAddr 4294967295), h) := by
  refine am_enter (n := 0) tk_191.2.1 (by simp [Value.category]) (Nat.le_of_ble_eq_true rfl) ?_
  show am_Good mi_191 0 [some (.ref 66), some (.retAddr x), some (.retAddr y)] [] h _
  refine g_aload_n (i := 0) dd_191_0 rfl ?_
  refine g_iload_n (i := 1) dd_191_1 rfl ?_
  refine g_virtual (M' := mi_153) (n := 1) (ci := 12) (b := 66) (as := [.retAddr x]) (st := []) (r1 := (some (.retAddr 1), h)) w_1184 w_1186 ps_153 ⟨lk_153.1, lk_153.2.1, lk_153.2.2, by decide, by decide⟩ rfl q66 rfl (by simp [Value.category]) dd_191_2 (e0_) ?_
  show am_Good mi_191 5 [some (.ref 66), some (.retAddr x), some (.retAddr y)] [.retAddr 1] h _
  refine g_if_eq_f (t := 15) dd_191_5 (by decide) (by decide) ?_
  refine g_iload_n (i := 2) dd_191_8 rfl ?_
  refine g_static (M' := mi_161) (n := 1) (as := [.retAddr y]) (st := []) (r1 := (some (.retAddr 0), h)) w_1215 w_1216 ⟨lk_161.1, lk_161.2.1, lk_161.2.2, by decide, by decide⟩ rfl (by simp [Value.category]) dd_191_9 (kn_ms0 h2 g_y) ?_
  show am_Good mi_191 12 [some (.ref 66), some (.retAddr x), some (.retAddr y)] [.retAddr 0] h _
  refine g_if_ne_f (t := 17) dd_191_12 (by decide) (by decide) ?_
  refine g_iconst dd_191_15 ic_m1 ?_
  exact g_ireturn rfl dd_191_16
theorem udm_2 {h : am_H} {vs : List Value} (q66 : am_get h 66 = some (.inr (12, vs))) {x y : Nat} (g_y : y < 4294967296) {z : Nat} (g_z : z < 4294967296) (e0_ : am_EG mi_153 [.ref 66, .retAddr x] h (some (.retAddr 1), h)) (h2 : y < 256) (h3 : ¬ z ≤ 1) : am_EG mi_186 [.ref 66, .retAddr x, .retAddr y, .retAddr z] h (some (.retAddr 4294967295), h) := by
  refine am_enter (n := 0) tk_186.2.1 (by simp [Value.category]) (Nat.le_of_ble_eq_true rfl) ?_
  show am_Good mi_186 0 [some (.ref 66), some (.retAddr x), some (.retAddr y), some (.retAddr z)] [] h _
  refine g_aload_n (i := 0) dd_186_0 rfl ?_
  refine g_iload_n (i := 1) dd_186_1 rfl ?_
  refine g_virtual (M' := mi_153) (n := 1) (ci := 12) (b := 66) (as := [.retAddr x]) (st := []) (r1 := (some (.retAddr 1), h)) w_1184 w_1186 ps_153 ⟨lk_153.1, lk_153.2.1, lk_153.2.2, by decide, by decide⟩ rfl q66 rfl (by simp [Value.category]) dd_186_2 (e0_) ?_
  show am_Good mi_186 5 [some (.ref 66), some (.retAddr x), some (.retAddr y), some (.retAddr z)] [.retAddr 1] h _
  refine g_if_eq_f (t := 24) dd_186_5 (by decide) (by decide) ?_
  refine g_iload_n (i := 2) dd_186_8 rfl ?_
  refine g_static (M' := mi_161) (n := 1) (as := [.retAddr y]) (st := []) (r1 := (some (.retAddr 1), h)) w_1215 w_1216 ⟨lk_161.1, lk_161.2.1, lk_161.2.2, by decide, by decide⟩ rfl (by simp [Value.category]) dd_186_9 (kn_ms1 h2) ?_
  show am_Good mi_186 12 [some (.ref 66), some (.retAddr x), some (.retAddr y), some (.retAddr z)] [.retAddr 1] h _
  refine g_if_eq_f (t := 24) dd_186_12 (by decide) (by decide) ?_
  refine g_iload_n (i := 3) dd_186_15 rfl ?_
  refine g_iconst dd_186_16 ic_0 ?_
  refine g_iconst dd_186_17 ic_1 ?_
  refine g_static (M' := mi_133) (n := 3) (as := [.retAddr z, .retAddr 0, .retAddr 1]) (st := []) (r1 := (some (.retAddr 0), h)) w_1106 w_1107 ⟨lk_133.1, lk_133.2.1, lk_133.2.2, by decide, by decide⟩ rfl (by simp [Value.category]) dd_186_18 (rin_w g_z h3) ?_
  show am_Good mi_186 21 [some (.ref 66), some (.retAddr x), some (.retAddr y), some (.retAddr z)] [.retAddr 0] h _
  refine g_if_ne_f (t := 26) dd_186_21 (by decide) (by decide) ?_
  refine g_iconst dd_186_24 ic_m1 ?_
  exact g_ireturn rfl dd_186_25
theorem udm_k0n {h : am_H} {vs : List Value} (q66 : am_get h 66 = some (.inr (12, vs))) {x y : Nat} (g_y : y < 4294967296) (e0_ : am_EG mi_153 [.ref 66, .retAddr x] h (some (.retAddr 1), h)) (h2 : y < 256) {g1 g2 g3 : am_H} {ua ub uc : List Value} {fe so sy : Nat} (q66a : am_get g1 66 = some (.inr (12, ua))) (q66b : am_get g2 66 = some (.inr (12, ub))) (q66c : am_get g3 66 = some (.inr (12, uc))) (t8 : uc[48]? = some (.retAddr fe)) (t9 : uc[49]? = some (.retAddr so)) (t0 : uc[50]? = some (.retAddr sy)) (e1_ : am_EG mi_155 [.ref 66, .retAddr 0, .retAddr 4294967292] h (none, g1)) (e2_ : am_EG mi_187 [.ref 66, .retAddr x] g1 (none, g2)) (e3_ : am_EG mi_190 [.ref 66, .retAddr y] g2 (none, g3)) (hc : so = 4294967292) : am_EG mi_186 [.ref 66, .retAddr x, .retAddr y, .retAddr 0] h (some (.retAddr 4294967292), g3) := by
  refine am_enter (n := 0) tk_186.2.1 (by simp [Value.category]) (Nat.le_of_ble_eq_true rfl) ?_
  show am_Good mi_186 0 [some (.ref 66), some (.retAddr x), some (.retAddr y), some (.retAddr 0)] [] h _
  refine g_aload_n (i := 0) dd_186_0 rfl ?_
  refine g_iload_n (i := 1) dd_186_1 rfl ?_
  refine g_virtual (M' := mi_153) (n := 1) (ci := 12) (b := 66) (as := [.retAddr x]) (st := []) (r1 := (some (.retAddr 1), h)) w_1184 w_1186 ps_153 ⟨lk_153.1, lk_153.2.1, lk_153.2.2, by decide, by decide⟩ rfl q66 rfl (by simp [Value.category]) dd_186_2 (e0_) ?_
  show am_Good mi_186 5 [some (.ref 66), some (.retAddr x), some (.retAddr y), some (.retAddr 0)] [.retAddr 1] h _
  refine g_if_eq_f (t := 24) dd_186_5 (by decide) (by decide) ?_
  refine g_iload_n (i := 2) dd_186_8 rfl ?_
  refine g_static (M' := mi_161) (n := 1) (as := [.retAddr y]) (st := []) (r1 := (some (.retAddr 1), h)) w_1215 w_1216 ⟨lk_161.1, lk_161.2.1, lk_161.2.2, by decide, by decide⟩ rfl (by simp [Value.category]) dd_186_9 (kn_ms1 h2) ?_
  show am_Good mi_186 12 [some (.ref 66), some (.retAddr x), some (.retAddr y), some (.retAddr 0)] [.retAddr 1] h _
  refine g_if_eq_f (t := 24) dd_186_12 (by decide) (by decide) ?_
  refine g_iload_n (i := 3) dd_186_15 rfl ?_
  refine g_iconst dd_186_16 ic_0 ?_
  refine g_iconst dd_186_17 ic_1 ?_
  refine g_static (M' := mi_133) (n := 3) (as := [.retAddr 0, .retAddr 0, .retAddr 1]) (st := []) (r1 := (some (.retAddr 1), h)) w_1106 w_1107 ⟨lk_133.1, lk_133.2.1, lk_133.2.2, by decide, by decide⟩ rfl (by simp [Value.category]) dd_186_18 (ri_1 (z := 2) (by decide) (by decide) (by decide)) ?_
  show am_Good mi_186 21 [some (.ref 66), some (.retAddr x), some (.retAddr y), some (.retAddr 0)] [.retAddr 1] h _
  refine g_if_ne_t (t := 26) dd_186_21 (by decide) (by decide) ?_
  refine g_aload_n (i := 0) dd_186_26 rfl ?_
  refine g_iconst dd_186_27 ic_0 ?_
  refine g_bipush dd_186_28 bi_m4 ?_
  refine g_virtual (M' := mi_155) (n := 2) (ci := 12) (b := 66) (as := [.retAddr 0, .retAddr 4294967292]) (st := []) (r1 := (none, g1)) w_1192 w_1194 ps_155 ⟨lk_155.1, lk_155.2.1, lk_155.2.2, by decide, by decide⟩ rfl q66 rfl (by simp [Value.category]) dd_186_30 (e1_) ?_
  show am_Good mi_186 33 [some (.ref 66), some (.retAddr x), some (.retAddr y), some (.retAddr 0)] [] g1 _
  refine g_aload_n (i := 0) dd_186_33 rfl ?_
  refine g_iload_n (i := 1) dd_186_34 rfl ?_
  refine g_virtual (M' := mi_187) (n := 1) (ci := 12) (b := 66) (as := [.retAddr x]) (st := []) (r1 := (none, g2)) w_1318 w_1320 ps_187 ⟨lk_187.1, lk_187.2.1, lk_187.2.2, by decide, by decide⟩ rfl q66a rfl (by simp [Value.category]) dd_186_35 (e2_) ?_
  show am_Good mi_186 38 [some (.ref 66), some (.retAddr x), some (.retAddr y), some (.retAddr 0)] [] g2 _
  refine g_aload_n (i := 0) dd_186_38 rfl ?_
  refine g_iload_n (i := 2) dd_186_39 rfl ?_
  refine g_virtual (M' := mi_190) (n := 1) (ci := 12) (b := 66) (as := [.retAddr y]) (st := []) (r1 := (none, g3)) w_1329 w_1331 ps_190 ⟨lk_190.1, lk_190.2.1, lk_190.2.2, by decide, by decide⟩ rfl q66b rfl (by simp [Value.category]) dd_186_40 (e3_) ?_
  show am_Good mi_186 43 [some (.ref 66), some (.retAddr x), some (.retAddr y), some (.retAddr 0)] [] g3 _
  refine g_aload_n (i := 0) dd_186_43 rfl ?_
  refine g_getfield (k := 49) am_ck12 (by decide) (Or.inl w_984) dd_186_44 q66c t9 ?_
  refine g_bipush dd_186_47 bi_m4 ?_
  refine g_icmp_ne_f (t := 57) dd_186_49 (by decide) (tk_ne_f (by omega)) ?_
  refine g_bipush dd_186_52 bi_m4 ?_
  refine g_goto (t := 72) dd_186_54 (by decide) ?_
  exact g_ireturn rfl dd_186_72
theorem udm_k0s {h : am_H} {vs : List Value} (q66 : am_get h 66 = some (.inr (12, vs))) {x y : Nat} (g_y : y < 4294967296) (e0_ : am_EG mi_153 [.ref 66, .retAddr x] h (some (.retAddr 1), h)) (h2 : y < 256) {g1 g2 g3 : am_H} {ua ub uc : List Value} {fe so sy : Nat} (q66a : am_get g1 66 = some (.inr (12, ua))) (q66b : am_get g2 66 = some (.inr (12, ub))) (q66c : am_get g3 66 = some (.inr (12, uc))) (t8 : uc[48]? = some (.retAddr fe)) (t9 : uc[49]? = some (.retAddr so)) (t0 : uc[50]? = some (.retAddr sy)) (e1_ : am_EG mi_155 [.ref 66, .retAddr 0, .retAddr 4294967292] h (none, g1)) (e2_ : am_EG mi_187 [.ref 66, .retAddr x] g1 (none, g2)) (e3_ : am_EG mi_190 [.ref 66, .retAddr y] g2 (none, g3)) (hc : so ≠ 4294967292) (g_s : so < 4294967296) : am_EG mi_186 [.ref 66, .retAddr x, .retAddr y, .retAddr 0] h (some (.retAddr fe), g3) := by
  refine am_enter (n := 0) tk_186.2.1 (by simp [Value.category]) (Nat.le_of_ble_eq_true rfl) ?_
  show am_Good mi_186 0 [some (.ref 66), some (.retAddr x), some (.retAddr y), some (.retAddr 0)] [] h _
  refine g_aload_n (i := 0) dd_186_0 rfl ?_
  refine g_iload_n (i := 1) dd_186_1 rfl ?_
  refine g_virtual (M' := mi_153) (n := 1) (ci := 12) (b := 66) (as := [.retAddr x]) (st := []) (r1 := (some (.retAddr 1), h)) w_1184 w_1186 ps_153 ⟨lk_153.1, lk_153.2.1, lk_153.2.2, by decide, by decide⟩ rfl q66 rfl (by simp [Value.category]) dd_186_2 (e0_) ?_
  show am_Good mi_186 5 [some (.ref 66), some (.retAddr x), some (.retAddr y), some (.retAddr 0)] [.retAddr 1] h _
  refine g_if_eq_f (t := 24) dd_186_5 (by decide) (by decide) ?_
  refine g_iload_n (i := 2) dd_186_8 rfl ?_
  refine g_static (M' := mi_161) (n := 1) (as := [.retAddr y]) (st := []) (r1 := (some (.retAddr 1), h)) w_1215 w_1216 ⟨lk_161.1, lk_161.2.1, lk_161.2.2, by decide, by decide⟩ rfl (by simp [Value.category]) dd_186_9 (kn_ms1 h2) ?_
  show am_Good mi_186 12 [some (.ref 66), some (.retAddr x), some (.retAddr y), some (.retAddr 0)] [.retAddr 1] h _
  refine g_if_eq_f (t := 24) dd_186_12 (by decide) (by decide) ?_
  refine g_iload_n (i := 3) dd_186_15 rfl ?_
  refine g_iconst dd_186_16 ic_0 ?_
  refine g_iconst dd_186_17 ic_1 ?_
  refine g_static (M' := mi_133) (n := 3) (as := [.retAddr 0, .retAddr 0, .retAddr 1]) (st := []) (r1 := (some (.retAddr 1), h)) w_1106 w_1107 ⟨lk_133.1, lk_133.2.1, lk_133.2.2, by decide, by decide⟩ rfl (by simp [Value.category]) dd_186_18 (ri_1 (z := 2) (by decide) (by decide) (by decide)) ?_
  show am_Good mi_186 21 [some (.ref 66), some (.retAddr x), some (.retAddr y), some (.retAddr 0)] [.retAddr 1] h _
  refine g_if_ne_t (t := 26) dd_186_21 (by decide) (by decide) ?_
  refine g_aload_n (i := 0) dd_186_26 rfl ?_
  refine g_iconst dd_186_27 ic_0 ?_
  refine g_bipush dd_186_28 bi_m4 ?_
  refine g_virtual (M' := mi_155) (n := 2) (ci := 12) (b := 66) (as := [.retAddr 0, .retAddr 4294967292]) (st := []) (r1 := (none, g1)) w_1192 w_1194 ps_155 ⟨lk_155.1, lk_155.2.1, lk_155.2.2, by decide, by decide⟩ rfl q66 rfl (by simp [Value.category]) dd_186_30 (e1_) ?_
  show am_Good mi_186 33 [some (.ref 66), some (.retAddr x), some (.retAddr y), some (.retAddr 0)] [] g1 _
  refine g_aload_n (i := 0) dd_186_33 rfl ?_
  refine g_iload_n (i := 1) dd_186_34 rfl ?_
  refine g_virtual (M' := mi_187) (n := 1) (ci := 12) (b := 66) (as := [.retAddr x]) (st := []) (r1 := (none, g2)) w_1318 w_1320 ps_187 ⟨lk_187.1, lk_187.2.1, lk_187.2.2, by decide, by decide⟩ rfl q66a rfl (by simp [Value.category]) dd_186_35 (e2_) ?_
  show am_Good mi_186 38 [some (.ref 66), some (.retAddr x), some (.retAddr y), some (.retAddr 0)] [] g2 _
  refine g_aload_n (i := 0) dd_186_38 rfl ?_
  refine g_iload_n (i := 2) dd_186_39 rfl ?_
  refine g_virtual (M' := mi_190) (n := 1) (ci := 12) (b := 66) (as := [.retAddr y]) (st := []) (r1 := (none, g3)) w_1329 w_1331 ps_190 ⟨lk_190.1, lk_190.2.1, lk_190.2.2, by decide, by decide⟩ rfl q66b rfl (by simp [Value.category]) dd_186_40 (e3_) ?_
  show am_Good mi_186 43 [some (.ref 66), some (.retAddr x), some (.retAddr y), some (.retAddr 0)] [] g3 _
  refine g_aload_n (i := 0) dd_186_43 rfl ?_
  refine g_getfield (k := 49) am_ck12 (by decide) (Or.inl w_984) dd_186_44 q66c t9 ?_
  refine g_bipush dd_186_47 bi_m4 ?_
  refine g_icmp_ne_t (t := 57) dd_186_49 (by decide) (tk_ne_t (by omega)) ?_
  refine g_iload_n (i := 3) dd_186_57 rfl ?_
  refine g_if_ne_f (t := 68) dd_186_58 (by decide) (by decide) ?_
  refine g_aload_n (i := 0) dd_186_61 rfl ?_
  refine g_getfield (k := 48) am_ck12 (by decide) (Or.inl w_983) dd_186_62 q66c t8 ?_
  refine g_goto (t := 72) dd_186_65 (by decide) ?_
  exact g_ireturn rfl dd_186_72
theorem udm_k1n {h : am_H} {vs : List Value} (q66 : am_get h 66 = some (.inr (12, vs))) {x y : Nat} (g_y : y < 4294967296) (e0_ : am_EG mi_153 [.ref 66, .retAddr x] h (some (.retAddr 1), h)) (h2 : y < 256) {g1 g2 g3 : am_H} {ua ub uc : List Value} {fe so sy : Nat} (q66a : am_get g1 66 = some (.inr (12, ua))) (q66b : am_get g2 66 = some (.inr (12, ub))) (q66c : am_get g3 66 = some (.inr (12, uc))) (t8 : uc[48]? = some (.retAddr fe)) (t9 : uc[49]? = some (.retAddr so)) (t0 : uc[50]? = some (.retAddr sy)) (e1_ : am_EG mi_155 [.ref 66, .retAddr 0, .retAddr 4294967292] h (none, g1)) (e2_ : am_EG mi_187 [.ref 66, .retAddr x] g1 (none, g2)) (e3_ : am_EG mi_190 [.ref 66, .retAddr y] g2 (none, g3)) (hc : so = 4294967292) : am_EG mi_186 [.ref 66, .retAddr x, .retAddr y, .retAddr 1] h (some (.retAddr 4294967292), g3) := by
  refine am_enter (n := 0) tk_186.2.1 (by simp [Value.category]) (Nat.le_of_ble_eq_true rfl) ?_
  show am_Good mi_186 0 [some (.ref 66), some (.retAddr x), some (.retAddr y), some (.retAddr 1)] [] h _
  refine g_aload_n (i := 0) dd_186_0 rfl ?_
  refine g_iload_n (i := 1) dd_186_1 rfl ?_
  refine g_virtual (M' := mi_153) (n := 1) (ci := 12) (b := 66) (as := [.retAddr x]) (st := []) (r1 := (some (.retAddr 1), h)) w_1184 w_1186 ps_153 ⟨lk_153.1, lk_153.2.1, lk_153.2.2, by decide, by decide⟩ rfl q66 rfl (by simp [Value.category]) dd_186_2 (e0_) ?_
  show am_Good mi_186 5 [some (.ref 66), some (.retAddr x), some (.retAddr y), some (.retAddr 1)] [.retAddr 1] h _
  refine g_if_eq_f (t := 24) dd_186_5 (by decide) (by decide) ?_
  refine g_iload_n (i := 2) dd_186_8 rfl ?_
  refine g_static (M' := mi_161) (n := 1) (as := [.retAddr y]) (st := []) (r1 := (some (.retAddr 1), h)) w_1215 w_1216 ⟨lk_161.1, lk_161.2.1, lk_161.2.2, by decide, by decide⟩ rfl (by simp [Value.category]) dd_186_9 (kn_ms1 h2) ?_
  show am_Good mi_186 12 [some (.ref 66), some (.retAddr x), some (.retAddr y), some (.retAddr 1)] [.retAddr 1] h _
  refine g_if_eq_f (t := 24) dd_186_12 (by decide) (by decide) ?_
  refine g_iload_n (i := 3) dd_186_15 rfl ?_
  refine g_iconst dd_186_16 ic_0 ?_
  refine g_iconst dd_186_17 ic_1 ?_
  refine g_static (M' := mi_133) (n := 3) (as := [.retAddr 1, .retAddr 0, .retAddr 1]) (st := []) (r1 := (some (.retAddr 1), h)) w_1106 w_1107 ⟨lk_133.1, lk_133.2.1, lk_133.2.2, by decide, by decide⟩ rfl (by simp [Value.category]) dd_186_18 (ri_1 (z := 2) (by decide) (by decide) (by decide)) ?_
  show am_Good mi_186 21 [some (.ref 66), some (.retAddr x), some (.retAddr y), some (.retAddr 1)] [.retAddr 1] h _
  refine g_if_ne_t (t := 26) dd_186_21 (by decide) (by decide) ?_
  refine g_aload_n (i := 0) dd_186_26 rfl ?_
  refine g_iconst dd_186_27 ic_0 ?_
  refine g_bipush dd_186_28 bi_m4 ?_
  refine g_virtual (M' := mi_155) (n := 2) (ci := 12) (b := 66) (as := [.retAddr 0, .retAddr 4294967292]) (st := []) (r1 := (none, g1)) w_1192 w_1194 ps_155 ⟨lk_155.1, lk_155.2.1, lk_155.2.2, by decide, by decide⟩ rfl q66 rfl (by simp [Value.category]) dd_186_30 (e1_) ?_
  show am_Good mi_186 33 [some (.ref 66), some (.retAddr x), some (.retAddr y), some (.retAddr 1)] [] g1 _
  refine g_aload_n (i := 0) dd_186_33 rfl ?_
  refine g_iload_n (i := 1) dd_186_34 rfl ?_
  refine g_virtual (M' := mi_187) (n := 1) (ci := 12) (b := 66) (as := [.retAddr x]) (st := []) (r1 := (none, g2)) w_1318 w_1320 ps_187 ⟨lk_187.1, lk_187.2.1, lk_187.2.2, by decide, by decide⟩ rfl q66a rfl (by simp [Value.category]) dd_186_35 (e2_) ?_
  show am_Good mi_186 38 [some (.ref 66), some (.retAddr x), some (.retAddr y), some (.retAddr 1)] [] g2 _
  refine g_aload_n (i := 0) dd_186_38 rfl ?_
  refine g_iload_n (i := 2) dd_186_39 rfl ?_
  refine g_virtual (M' := mi_190) (n := 1) (ci := 12) (b := 66) (as := [.retAddr y]) (st := []) (r1 := (none, g3)) w_1329 w_1331 ps_190 ⟨lk_190.1, lk_190.2.1, lk_190.2.2, by decide, by decide⟩ rfl q66b rfl (by simp [Value.category]) dd_186_40 (e3_) ?_
  show am_Good mi_186 43 [some (.ref 66), some (.retAddr x), some (.retAddr y), some (.retAddr 1)] [] g3 _
  refine g_aload_n (i := 0) dd_186_43 rfl ?_
  refine g_getfield (k := 49) am_ck12 (by decide) (Or.inl w_984) dd_186_44 q66c t9 ?_
  refine g_bipush dd_186_47 bi_m4 ?_
  refine g_icmp_ne_f (t := 57) dd_186_49 (by decide) (tk_ne_f (by omega)) ?_
  refine g_bipush dd_186_52 bi_m4 ?_
  refine g_goto (t := 72) dd_186_54 (by decide) ?_
  exact g_ireturn rfl dd_186_72
theorem udm_k1s {h : am_H} {vs : List Value} (q66 : am_get h 66 = some (.inr (12, vs))) {x y : Nat} (g_y : y < 4294967296) (e0_ : am_EG mi_153 [.ref 66, .retAddr x] h (some (.retAddr 1), h)) (h2 : y < 256) {g1 g2 g3 : am_H} {ua ub uc : List Value} {fe so sy : Nat} (q66a : am_get g1 66 = some (.inr (12, ua))) (q66b : am_get g2 66 = some (.inr (12, ub))) (q66c : am_get g3 66 = some (.inr (12, uc))) (t8 : uc[48]? = some (.retAddr fe)) (t9 : uc[49]? = some (.retAddr so)) (t0 : uc[50]? = some (.retAddr sy)) (e1_ : am_EG mi_155 [.ref 66, .retAddr 0, .retAddr 4294967292] h (none, g1)) (e2_ : am_EG mi_187 [.ref 66, .retAddr x] g1 (none, g2)) (e3_ : am_EG mi_190 [.ref 66, .retAddr y] g2 (none, g3)) (hc : so ≠ 4294967292) (g_s : so < 4294967296) : am_EG mi_186 [.ref 66, .retAddr x, .retAddr y, .retAddr 1] h (some (.retAddr so), g3) := by
  refine am_enter (n := 0) tk_186.2.1 (by simp [Value.category]) (Nat.le_of_ble_eq_true rfl) ?_
  show am_Good mi_186 0 [some (.ref 66), some (.retAddr x), some (.retAddr y), some (.retAddr 1)] [] h _
  refine g_aload_n (i := 0) dd_186_0 rfl ?_
  refine g_iload_n (i := 1) dd_186_1 rfl ?_
  refine g_virtual (M' := mi_153) (n := 1) (ci := 12) (b := 66) (as := [.retAddr x]) (st := []) (r1 := (some (.retAddr 1), h)) w_1184 w_1186 ps_153 ⟨lk_153.1, lk_153.2.1, lk_153.2.2, by decide, by decide⟩ rfl q66 rfl (by simp [Value.category]) dd_186_2 (e0_) ?_
  show am_Good mi_186 5 [some (.ref 66), some (.retAddr x), some (.retAddr y), some (.retAddr 1)] [.retAddr 1] h _
  refine g_if_eq_f (t := 24) dd_186_5 (by decide) (by decide) ?_
  refine g_iload_n (i := 2) dd_186_8 rfl ?_
  refine g_static (M' := mi_161) (n := 1) (as := [.retAddr y]) (st := []) (r1 := (some (.retAddr 1), h)) w_1215 w_1216 ⟨lk_161.1, lk_161.2.1, lk_161.2.2, by decide, by decide⟩ rfl (by simp [Value.category]) dd_186_9 (kn_ms1 h2) ?_
  show am_Good mi_186 12 [some (.ref 66), some (.retAddr x), some (.retAddr y), some (.retAddr 1)] [.retAddr 1] h _
  refine g_if_eq_f (t := 24) dd_186_12 (by decide) (by decide) ?_
  refine g_iload_n (i := 3) dd_186_15 rfl ?_
  refine g_iconst dd_186_16 ic_0 ?_
  refine g_iconst dd_186_17 ic_1 ?_
  refine g_static (M' := mi_133) (n := 3) (as := [.retAddr 1, .retAddr 0, .retAddr 1]) (st := []) (r1 := (some (.retAddr 1), h)) w_1106 w_1107 ⟨lk_133.1, lk_133.2.1, lk_133.2.2, by decide, by decide⟩ rfl (by simp [Value.category]) dd_186_18 (ri_1 (z := 2) (by decide) (by decide) (by decide)) ?_
  show am_Good mi_186 21 [some (.ref 66), some (.retAddr x), some (.retAddr y), some (.retAddr 1)] [.retAddr 1] h _
  refine g_if_ne_t (t := 26) dd_186_21 (by decide) (by decide) ?_
  refine g_aload_n (i := 0) dd_186_26 rfl ?_
  refine g_iconst dd_186_27 ic_0 ?_
  refine g_bipush dd_186_28 bi_m4 ?_
  refine g_virtual (M' := mi_155) (n := 2) (ci := 12) (b := 66) (as := [.retAddr 0, .retAddr 4294967292]) (st := []) (r1 := (none, g1)) w_1192 w_1194 ps_155 ⟨lk_155.1, lk_155.2.1, lk_155.2.2, by decide, by decide⟩ rfl q66 rfl (by simp [Value.category]) dd_186_30 (e1_) ?_
  show am_Good mi_186 33 [some (.ref 66), some (.retAddr x), some (.retAddr y), some (.retAddr 1)] [] g1 _
  refine g_aload_n (i := 0) dd_186_33 rfl ?_
  refine g_iload_n (i := 1) dd_186_34 rfl ?_
  refine g_virtual (M' := mi_187) (n := 1) (ci := 12) (b := 66) (as := [.retAddr x]) (st := []) (r1 := (none, g2)) w_1318 w_1320 ps_187 ⟨lk_187.1, lk_187.2.1, lk_187.2.2, by decide, by decide⟩ rfl q66a rfl (by simp [Value.category]) dd_186_35 (e2_) ?_
  show am_Good mi_186 38 [some (.ref 66), some (.retAddr x), some (.retAddr y), some (.retAddr 1)] [] g2 _
  refine g_aload_n (i := 0) dd_186_38 rfl ?_
  refine g_iload_n (i := 2) dd_186_39 rfl ?_
  refine g_virtual (M' := mi_190) (n := 1) (ci := 12) (b := 66) (as := [.retAddr y]) (st := []) (r1 := (none, g3)) w_1329 w_1331 ps_190 ⟨lk_190.1, lk_190.2.1, lk_190.2.2, by decide, by decide⟩ rfl q66b rfl (by simp [Value.category]) dd_186_40 (e3_) ?_
  show am_Good mi_186 43 [some (.ref 66), some (.retAddr x), some (.retAddr y), some (.retAddr 1)] [] g3 _
  refine g_aload_n (i := 0) dd_186_43 rfl ?_
  refine g_getfield (k := 49) am_ck12 (by decide) (Or.inl w_984) dd_186_44 q66c t9 ?_
  refine g_bipush dd_186_47 bi_m4 ?_
  refine g_icmp_ne_t (t := 57) dd_186_49 (by decide) (tk_ne_t (by omega)) ?_
  refine g_iload_n (i := 3) dd_186_57 rfl ?_
  refine g_if_ne_t (t := 68) dd_186_58 (by decide) (by decide) ?_
  refine g_aload_n (i := 0) dd_186_68 rfl ?_
  refine g_getfield (k := 49) am_ck12 (by decide) (Or.inl w_984) dd_186_69 q66c t9 ?_
  exact g_ireturn rfl dd_186_72
theorem som_k {h : am_H} {vs : List Value} (q66 : am_get h 66 = some (.inr (12, vs))) {x y : Nat} (g_y : y < 4294967296) (e0_ : am_EG mi_153 [.ref 66, .retAddr x] h (some (.retAddr 1), h)) (h2 : y < 256) {g1 g2 g3 : am_H} {ua ub uc : List Value} {fe so sy : Nat} (q66a : am_get g1 66 = some (.inr (12, ua))) (q66b : am_get g2 66 = some (.inr (12, ub))) (q66c : am_get g3 66 = some (.inr (12, uc))) (t8 : uc[48]? = some (.retAddr fe)) (t9 : uc[49]? = some (.retAddr so)) (t0 : uc[50]? = some (.retAddr sy)) (e1_ : am_EG mi_155 [.ref 66, .retAddr 0, .retAddr 4294967292] h (none, g1)) (e2_ : am_EG mi_187 [.ref 66, .retAddr x] g1 (none, g2)) (e3_ : am_EG mi_190 [.ref 66, .retAddr y] g2 (none, g3)) : am_EG mi_191 [.ref 66, .retAddr x, .retAddr y] h (some (.retAddr sy), g3) := by
  refine am_enter (n := 0) tk_191.2.1 (by simp [Value.category]) (Nat.le_of_ble_eq_true rfl) ?_
  show am_Good mi_191 0 [some (.ref 66), some (.retAddr x), some (.retAddr y)] [] h _
  refine g_aload_n (i := 0) dd_191_0 rfl ?_
  refine g_iload_n (i := 1) dd_191_1 rfl ?_
  refine g_virtual (M' := mi_153) (n := 1) (ci := 12) (b := 66) (as := [.retAddr x]) (st := []) (r1 := (some (.retAddr 1), h)) w_1184 w_1186 ps_153 ⟨lk_153.1, lk_153.2.1, lk_153.2.2, by decide, by decide⟩ rfl q66 rfl (by simp [Value.category]) dd_191_2 (e0_) ?_
  show am_Good mi_191 5 [some (.ref 66), some (.retAddr x), some (.retAddr y)] [.retAddr 1] h _
  refine g_if_eq_f (t := 15) dd_191_5 (by decide) (by decide) ?_
  refine g_iload_n (i := 2) dd_191_8 rfl ?_
  refine g_static (M' := mi_161) (n := 1) (as := [.retAddr y]) (st := []) (r1 := (some (.retAddr 1), h)) w_1215 w_1216 ⟨lk_161.1, lk_161.2.1, lk_161.2.2, by decide, by decide⟩ rfl (by simp [Value.category]) dd_191_9 (kn_ms1 h2) ?_
  show am_Good mi_191 12 [some (.ref 66), some (.retAddr x), some (.retAddr y)] [.retAddr 1] h _
  refine g_if_ne_t (t := 17) dd_191_12 (by decide) (by decide) ?_
  refine g_aload_n (i := 0) dd_191_17 rfl ?_
  refine g_iconst dd_191_18 ic_0 ?_
  refine g_bipush dd_191_19 bi_m4 ?_
  refine g_virtual (M' := mi_155) (n := 2) (ci := 12) (b := 66) (as := [.retAddr 0, .retAddr 4294967292]) (st := []) (r1 := (none, g1)) w_1192 w_1194 ps_155 ⟨lk_155.1, lk_155.2.1, lk_155.2.2, by decide, by decide⟩ rfl q66 rfl (by simp [Value.category]) dd_191_21 (e1_) ?_
  show am_Good mi_191 24 [some (.ref 66), some (.retAddr x), some (.retAddr y)] [] g1 _
  refine g_aload_n (i := 0) dd_191_24 rfl ?_
  refine g_iload_n (i := 1) dd_191_25 rfl ?_
  refine g_virtual (M' := mi_187) (n := 1) (ci := 12) (b := 66) (as := [.retAddr x]) (st := []) (r1 := (none, g2)) w_1318 w_1320 ps_187 ⟨lk_187.1, lk_187.2.1, lk_187.2.2, by decide, by decide⟩ rfl q66a rfl (by simp [Value.category]) dd_191_26 (e2_) ?_
  show am_Good mi_191 29 [some (.ref 66), some (.retAddr x), some (.retAddr y)] [] g2 _
  refine g_aload_n (i := 0) dd_191_29 rfl ?_
  refine g_iload_n (i := 2) dd_191_30 rfl ?_
  refine g_virtual (M' := mi_190) (n := 1) (ci := 12) (b := 66) (as := [.retAddr y]) (st := []) (r1 := (none, g3)) w_1329 w_1331 ps_190 ⟨lk_190.1, lk_190.2.1, lk_190.2.2, by decide, by decide⟩ rfl q66b rfl (by simp [Value.category]) dd_191_31 (e3_) ?_
  show am_Good mi_191 34 [some (.ref 66), some (.retAddr x), some (.retAddr y)] [] g3 _
  refine g_aload_n (i := 0) dd_191_34 rfl ?_
  refine g_getfield (k := 50) am_ck12 (by decide) (Or.inl w_985) dd_191_35 q66c t0 ?_
  exact g_ireturn rfl dd_191_38
