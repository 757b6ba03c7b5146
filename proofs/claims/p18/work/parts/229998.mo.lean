/-! ===== most: both ===== -/
theorem lg_ends {fw T : Nat → Nat → Nat} {go n mi x y : Nat} : ∀ j, lg_f fw T go n x y j = 4294967292 ∨ lg_f fw T go n x y j < n
  | 0 => Or.inl rfl
  | j + 1 => by
    show (if lg_h fw T go n x y j then lg_b fw T go n x (y + j) else lg_f fw T go n x y j) = 4294967292 ∨ (if lg_h fw T go n x y j then lg_b fw T go n x (y + j) else lg_f fw T go n x y j) < n
    by_cases h : lg_h fw T go n x y j
    · rw [if_pos h]; exact jm_bf_lt (rt_by fw T go (y + j)) x n
    · rw [if_neg h]; exact lg_ends (mi := mi) j
theorem mr_mol {h : am_H} {c1 cm Len g n : Nat} (hH : jm_H h c1 cm Len g n) (hL1 : 1 ≤ Len) (hL : Len ≤ 60) (hl : g < 4) (hn1 : 1 ≤ n) (hn : n ≤ 4) (h99 : ∀ s t, s < n → t < Len → am_ag c1 (64 * s + t) ≤ 99) (hR : rt_R (fun s t => am_ag c1 (64 * s + t)) (mr_T cm) g n Len 0) {x y z : Nat} (hs : x < n) (hy : y < Len) (hz : z ≤ 2) (hz0 : z ≠ 0) : ∀ (c j : Nat) (v8 : Option Value), y + j + c = Len → am_Good mi_185 67 [some (.ref 66), some (.retAddr x), some (.retAddr y), some (.retAddr z), some (.retAddr (am_ag cm (4 * y + x))), some (.retAddr (lg_s (fun s t => am_ag c1 (64 * s + t)) x y j)), some (.retAddr (lg_m (fun s t => am_ag c1 (64 * s + t)) (mr_T cm) g n x y j)), some (.retAddr (y + j)), v8] [] h (some (.retAddr (lg_r (fun s t => am_ag c1 (64 * s + t)) (mr_T cm) g n Len x y z)), h)
  | 0, j, v8, e => by
    have e' : Len - y = j := by omega
    have ta : mr_T cm y x = am_ag cm (4 * y + x) := by unfold mr_T; rw [if_pos (by omega)]
    have b0 := rt_bd' hL h99 hR y (Nat.zero_le _) x hs
    have l := lg_le (y := y) hR hs j (by omega)
    have r : lg_r (fun s t => am_ag c1 (64 * s + t)) (mr_T cm) g n Len x y z = if lg_s (fun s t => am_ag c1 (64 * s + t)) x y (Len - y) = mr_T cm y x then 4294967292 else if z = 1 then lg_m (fun s t => am_ag c1 (64 * s + t)) (mr_T cm) g n x y (Len - y) else lg_f (fun s t => am_ag c1 (64 * s + t)) (mr_T cm) g n x y (Len - y) := if_neg hz0
    rw [r, e', ta]
    rw [ta] at b0 l
    by_cases h1 : lg_s (fun s t => am_ag c1 (64 * s + t)) x y j = am_ag cm (4 * y + x)
    · rw [if_pos h1]
      exact jm_me_q hH hL1 hL hl hn1 hn hs (by omega) (by omega) (by omega) h1
    · rw [if_neg h1]
      by_cases h2 : z = 1
      · rw [if_pos h2]
        exact jm_me_1 hH hL1 hL hl hn1 hn hs (by omega) (by omega) (by omega) h1 h2
      · rw [if_neg h2]
        have hm : lg_m (fun s t => am_ag c1 (64 * s + t)) (mr_T cm) g n x y j < Len ∧ lg_f (fun s t => am_ag c1 (64 * s + t)) (mr_T cm) g n x y j = lg_b (fun s t => am_ag c1 (64 * s + t)) (mr_T cm) g n x (lg_m (fun s t => am_ag c1 (64 * s + t)) (mr_T cm) g n x y j) := by
          rcases lg_m_r (fw := (fun s t => am_ag c1 (64 * s + t))) (T := (mr_T cm)) (go := g) (n := n) (x := x) (y := y) j with ⟨a, -⟩ | ⟨a, b⟩
          · have q := lg_no (y := y) hn hL h99 hR hs j (by omega) a
            rw [ta, hR.2 (y + j) (by omega) x hs] at q
            exact absurd q.symm h1
          · exact ⟨by omega, b⟩
        have eb : lg_b (fun s t => am_ag c1 (64 * s + t)) (mr_T cm) g n x (lg_m (fun s t => am_ag c1 (64 * s + t)) (mr_T cm) g n x y j) = jm_bf (jm_by c1 cm g (lg_m (fun s t => am_ag c1 (64 * s + t)) (mr_T cm) g n x y j)) x n := jm_bf_cg hn (fun k hk => (mr_by hL hl hn h99 (fun u _ k hk => rt_bd' hL h99 hR u (Nat.zero_le _) k hk) hm.1 hk).1.symm)
        rw [hm.2, eb]
        exact jm_me_2 hH hL1 hL hl hn1 hn hs (by omega) (by omega) (by omega) h1 h2 hz hm.1
  | c + 1, j, v8, e => by
    have hj : y + j < Len := by omega
    have ta : mr_T cm y x = am_ag cm (4 * y + x) := by unfold mr_T; rw [if_pos (by omega)]
    have b0 := rt_bd' hL h99 hR y (Nat.zero_le _) x hs
    have l := lg_le (y := y) hR hs j (by omega)
    have l1 := lg_le (y := y) hR hs (j + 1) (by omega)
    have hB : ∀ u, (y + j) + 1 ≤ u → ∀ k, k < n → mr_T cm u k ≤ 5940 := fun u _ k hk => rt_bd' hL h99 hR u (Nat.zero_le _) k hk
    have ey : ∀ k, k < n → rt_by (fun s t => am_ag c1 (64 * s + t)) (mr_T cm) g (y + j) k = jm_by c1 cm g (y + j) k := fun k hk => (mr_by hL hl hn h99 hB hj hk).1.symm
    have eb : lg_b (fun s t => am_ag c1 (64 * s + t)) (mr_T cm) g n x (y + j) = jm_bf (jm_by c1 cm g (y + j)) x n := jm_bf_cg hn ey
    have l2 : lg_s (fun s t => am_ag c1 (64 * s + t)) x y (j + 1) = lg_s (fun s t => am_ag c1 (64 * s + t)) x y j + am_ag c1 (64 * x + (y + j)) := rfl
    rw [l2] at l1
    rw [ta] at b0 l l1
    have s2 : (lg_s (fun s t => am_ag c1 (64 * s + t)) x y j + am_ag c1 (64 * x + (y + j))) % 4294967296 = lg_s (fun s t => am_ag c1 (64 * s + t)) x y (j + 1) := by rw [l2]; exact Nat.mod_eq_of_lt (by omega)
    have q := mr_mol hH hL1 hL hl hn1 hn h99 hR hs hy hz hz0 c (j + 1) (some (.retAddr (jm_bf (jm_by c1 cm g (y + j)) x n))) (by omega)
    have em : lg_m (fun s t => am_ag c1 (64 * s + t)) (mr_T cm) g n x y (j + 1) = if lg_h (fun s t => am_ag c1 (64 * s + t)) (mr_T cm) g n x y j then y + j else lg_m (fun s t => am_ag c1 (64 * s + t)) (mr_T cm) g n x y j := rfl
    rw [em] at q
    by_cases h1 : jm_bf (jm_by c1 cm g (y + j)) x n = 4294967292
    · rw [if_neg (fun hh => hh.1 (eb.trans h1))] at q
      exact jm_mu_n hH hL1 hL hl hn1 hn hs (am_ag_lt _ _) (by omega) hj rfl rfl h1 s2 q
    · have h3 : jm_bf (jm_by c1 cm g (y + j)) x n < n := by
        rcases jm_bf_lt (jm_by c1 cm g (y + j)) x n with h | h
        · exact absurd h h1
        · exact h
      have b2 := (mr_by hL hl hn h99 hB hj h3).2
      have hb : lg_h (fun s t => am_ag c1 (64 * s + t)) (mr_T cm) g n x y j ↔ (lg_s (fun s t => am_ag c1 (64 * s + t)) x y j + jm_by c1 cm g (y + j) (jm_bf (jm_by c1 cm g (y + j)) x n)) % 4294967296 = am_ag cm (4 * y + x) := by
        rw [Nat.mod_eq_of_lt (by omega), ← ta, ← ey _ h3, ← eb]
        exact ⟨fun h => h.2, fun h => ⟨by rw [eb]; exact h1, h⟩⟩
      by_cases h2 : (lg_s (fun s t => am_ag c1 (64 * s + t)) x y j + jm_by c1 cm g (y + j) (jm_bf (jm_by c1 cm g (y + j)) x n)) % 4294967296 = am_ag cm (4 * y + x)
      · rw [if_pos (hb.mpr h2)] at q
        exact jm_mu_e hH hL1 hL hl hn1 hn hs (am_ag_lt _ _) (by omega) hj rfl rfl h3 h2 s2 q
      · rw [if_neg (fun hh => h2 (hb.mp hh))] at q
        exact jm_mu_k hH hL1 hL hl hn1 hn hs (am_ag_lt _ _) (by omega) hj rfl rfl h3 h2 s2 q
theorem mo_H {k : am_H} {E mi go : Nat} {Z X Y : Nat → Nat} (J : Jv k) (A : je_A k E mi go Z X Y) : ∃ c1 cm, jm_H k c1 cm mi go (Z 0) := by
  obtain ⟨c1, cm, Len, g, n, hH, -, -, -, -, -, e0, e2⟩ := jm_ex ((ax_I_to st_mcs).mp J.1.2)
  have a0 : Len = mi := by
    have := A.2.2.1.1
    rw [e0] at this
    cases this
    rfl
  have a2 : n = Z 0 := by
    have := (A.2.2.1.2.2 0 (by decide)).1
    rw [show 2 + 2 * 0 = 2 from rfl, e2] at this
    cases this
    rfl
  have a1 : g = go := by
    obtain ⟨vs, q66, -, f1, -⟩ := hH
    have := fvg q66 A.2.2.1.2.1
    rw [f1] at this
    cases this
    rfl
  subst a0 a2 a1
  exact ⟨c1, cm, hH⟩
theorem mo_m {h : am_H} (hJ : Jv h) {E mi go : Nat} {Z X Y : Nat → Nat} (hA : je_A h E mi go Z X Y) {G : Nat} (hG : rt_R (fun s t => sc_W Z Y 0 4294967292 s t) (rt_T G mi) go (Z 0) mi 0) {x y z : Nat} (hx : x < 4294967296) (hy : y < 4294967296) (hz : z < 4294967296) (hs : x < Z 0) (hm : y < mi) (hi : z ≤ 2) : ∃ g, am_EG mi_185 [.ref 66, .retAddr x, .retAddr y, .retAddr z] h (some (.retAddr (lg_r (fun s t => sc_W Z Y 0 4294967292 s t) (rt_T G mi) go (Z 0) mi x y z)), g) ∧ Jv g ∧ (g.1 = h.1 ∧ g.2.1 = h.2.1) := by
  have hP := hA.2.2.2.1
  have p1 := hP.1
  have z0 : Z 0 ≤ 4 := hP.2.1 0 (by decide)
  have hBY : je_B Z Y := je_bY hP.2.1 hP.2.2.1
  obtain ⟨c0, cm0, hH⟩ := mo_H hJ hA
  obtain ⟨k, e1, J1, A1, sz1, S1⟩ := lc_x hJ hA (come := 0) (wo := 4294967292) (by decide) (by decide)
  obtain ⟨c1, cm, hH'⟩ := mo_H J1 A1
  have e81 : rowv k 81 = c1 := by
    obtain ⟨vs, -, -, -, -, -, -, a81, -⟩ := hH'
    unfold rowv
    rw [a81]
  have ew : ∀ t, t < mi → ∀ s, s < Z 0 → am_ag c1 (64 * s + t) = sc_W Z Y 0 4294967292 s t := fun t ht s hs => by
    rw [← e81]
    exact (S1 s hs t (by omega)).1
  have h99 : ∀ s t, s < Z 0 → t < mi → am_ag c1 (64 * s + t) ≤ 99 := fun s t hs ht => by
    rw [ew t ht s hs]
    exact Nat.le_trans (rt_W9 hBY 0 4294967292 s t hs) (by decide)
  obtain ⟨cf, hR, m1⟩ := mr_layMost hH' p1.1 p1.2.1 (by omega) z0 h99
  have k2 := (ax_I_to st_mcs).mp J1.1.2
  obtain ⟨m2, m3⟩ := jm_M_I hH' k2 cf
  have hM := jm_M_H hH' cf
  have eT : ∀ t, ∀ s, s < Z 0 → mr_T cf t s = rt_T G mi t s := fun t s hs => rt_one (fun t ht s hs => ew t ht s hs) hR hG mi t (by omega) s hs
  rw [← lg_r_cg (fw := (fun s t => am_ag c1 (64 * s + t))) (T := mr_T cf) z0 hs hm (fun t ht s hs => ew t ht s hs) eT]
  have fin : am_Good mi_185 38 [some (.ref 66), some (.retAddr x), some (.retAddr y), some (.retAddr z), none, none, none, none, none] [] (jm_M k cf) (some (.retAddr (lg_r (fun s t => am_ag c1 (64 * s + t)) (mr_T cf) go (Z 0) mi x y z)), jm_M k cf) := by
    by_cases q0 : z = 0
    · subst q0
      rw [show lg_r (fun s t => am_ag c1 (64 * s + t)) (mr_T cf) go (Z 0) mi x y 0 = mr_T cf y x from rfl, show mr_T cf y x = am_ag cf (4 * y + x) from if_pos (by omega)]
      exact jm_mo_0 hM p1.1 p1.2.1 (by omega) p1.2.2.2 z0 hs hm rfl
    · have q := mr_mol hM p1.1 p1.2.1 (by omega) p1.2.2.2 z0 h99 hR (x := x) (y := y) (z := z) hs hm hi q0 (mi - y) 0 none (by omega)
      exact jm_mo_1 hM p1.1 p1.2.1 (by omega) p1.2.2.2 z0 hs hm hi q0 q
  exact ⟨jm_M k cf, jm_mo_c hH p1.1 p1.2.1 (by omega) p1.2.2.2 z0 hx hy hz hs hm hi e1 (jm_mo_l hH' p1.1 p1.2.1 (by omega) p1.2.2.2 z0 m1 fin), jm_Jv J1 m2 m3, m3.1.trans sz1.1, m3.2.1.trans sz1.2⟩
theorem mox_0 {h : am_H} {E a0 a5 mi go z0 z5 : Nat} {v0 vE w0 w5 : List Value} (q0 : am_get h 0 = some (.inr (11, v0))) (x3 : v0[3]? = some (.ref E)) (qE : am_get h E = some (.inr (1, vE))) (e0 : vE[0]? = some (.ref a0)) (e5 : vE[5]? = some (.ref a5)) (e6 : vE[6]? = some (.retAddr mi)) (e7 : vE[7]? = some (.retAddr go)) (r0 : am_get h a0 = some (.inr (8, w0))) (s0 : w0[3]? = some (.retAddr z0)) (r5 : am_get h a5 = some (.inr (8, w5))) (s5 : w5[3]? = some (.retAddr z5)) (zm : mi ≤ 60) (zz0 : z0 ≤ 4) (zz5 : z5 ≤ 4) (x6 : v0[6]? = some (.ref 32)) (x9 : v0[9]? = some (.ref 43)) {v43 : List Value} (q43 : am_get h 43 = some (.inr (7, v43))) {x y z : Nat} (g_x : x < 4294967296) (g_y : y < 4294967296) (g_z : z < 4294967296) (h1 : ¬ x < z0) : am_EG mi_87 [.ref 0, .retAddr x, .retAddr y, .retAddr z] h (some (.retAddr 4294967295), h) := by
  refine am_enter (n := 0) tk_87.2.1 (by simp [Value.category]) (Nat.le_of_ble_eq_true rfl) ?_
  show am_Good mi_87 0 [some (.ref 0), some (.retAddr x), some (.retAddr y), some (.retAddr z)] [] h _
  refine g_aload_n (i := 0) dd_87_0 rfl ?_
  refine g_iload_n (i := 1) dd_87_1 rfl ?_
  refine g_virtual (M' := mi_51) (n := 1) (ci := 11) (b := 0) (as := [.retAddr x]) (st := []) (r1 := (some (.retAddr 0), h)) w_584 w_586 ps_51 ⟨lk_51.1, lk_51.2.1, lk_51.2.2, by decide, by decide⟩ rfl q0 rfl (by simp [Value.category]) dd_87_2 (ist_0 q0 x3 qE e0 e5 e6 e7 r0 s0 r5 s5 zm zz0 zz5 h1 g_x) ?_
  show am_Good mi_87 5 [some (.ref 0), some (.retAddr x), some (.retAddr y), some (.retAddr z)] [.retAddr 0] h _
  refine g_if_eq_t (t := 25) dd_87_5 (by decide) (by decide) ?_
  refine g_iconst dd_87_25 ic_m1 ?_
  exact g_ireturn rfl dd_87_26
theorem mox_1 {h : am_H} {E a0 a5 mi go z0 z5 : Nat} {v0 vE w0 w5 : List Value} (q0 : am_get h 0 = some (.inr (11, v0))) (x3 : v0[3]? = some (.ref E)) (qE : am_get h E = some (.inr (1, vE))) (e0 : vE[0]? = some (.ref a0)) (e5 : vE[5]? = some (.ref a5)) (e6 : vE[6]? = some (.retAddr mi)) (e7 : vE[7]? = some (.retAddr go)) (r0 : am_get h a0 = some (.inr (8, w0))) (s0 : w0[3]? = some (.retAddr z0)) (r5 : am_get h a5 = some (.inr (8, w5))) (s5 : w5[3]? = some (.retAddr z5)) (zm : mi ≤ 60) (zz0 : z0 ≤ 4) (zz5 : z5 ≤ 4) (x6 : v0[6]? = some (.ref 32)) (x9 : v0[9]? = some (.ref 43)) {v43 : List Value} (q43 : am_get h 43 = some (.inr (7, v43))) {x y z : Nat} (g_x : x < 4294967296) (g_y : y < 4294967296) (g_z : z < 4294967296) (h1 : x < z0) (h2 : ¬ y < mi) : am_EG mi_87 [.ref 0, .retAddr x, .retAddr y, .retAddr z] h (some (.retAddr 4294967295), h) := by
  refine am_enter (n := 0) tk_87.2.1 (by simp [Value.category]) (Nat.le_of_ble_eq_true rfl) ?_
  show am_Good mi_87 0 [some (.ref 0), some (.retAddr x), some (.retAddr y), some (.retAddr z)] [] h _
  refine g_aload_n (i := 0) dd_87_0 rfl ?_
  refine g_iload_n (i := 1) dd_87_1 rfl ?_
  refine g_virtual (M' := mi_51) (n := 1) (ci := 11) (b := 0) (as := [.retAddr x]) (st := []) (r1 := (some (.retAddr 1), h)) w_584 w_586 ps_51 ⟨lk_51.1, lk_51.2.1, lk_51.2.2, by decide, by decide⟩ rfl q0 rfl (by simp [Value.category]) dd_87_2 (ist_1 q0 x3 qE e0 e5 e6 e7 r0 s0 r5 s5 zm zz0 zz5 h1) ?_
  show am_Good mi_87 5 [some (.ref 0), some (.retAddr x), some (.retAddr y), some (.retAddr z)] [.retAddr 1] h _
  refine g_if_eq_f (t := 25) dd_87_5 (by decide) (by decide) ?_
  refine g_aload_n (i := 0) dd_87_8 rfl ?_
  refine g_iload_n (i := 2) dd_87_9 rfl ?_
  refine g_virtual (M' := mi_52) (n := 1) (ci := 11) (b := 0) (as := [.retAddr y]) (st := []) (r1 := (some (.retAddr 0), h)) w_588 w_590 ps_52 ⟨lk_52.1, lk_52.2.1, lk_52.2.2, by decide, by decide⟩ rfl q0 rfl (by simp [Value.category]) dd_87_10 (imn_0 q0 x3 qE e0 e5 e6 e7 r0 s0 r5 s5 zm zz0 zz5 h2 g_y) ?_
  show am_Good mi_87 13 [some (.ref 0), some (.retAddr x), some (.retAddr y), some (.retAddr z)] [.retAddr 0] h _
  refine g_if_eq_t (t := 25) dd_87_13 (by decide) (by decide) ?_
  refine g_iconst dd_87_25 ic_m1 ?_
  exact g_ireturn rfl dd_87_26
theorem mox_2 {h : am_H} {E a0 a5 mi go z0 z5 : Nat} {v0 vE w0 w5 : List Value} (q0 : am_get h 0 = some (.inr (11, v0))) (x3 : v0[3]? = some (.ref E)) (qE : am_get h E = some (.inr (1, vE))) (e0 : vE[0]? = some (.ref a0)) (e5 : vE[5]? = some (.ref a5)) (e6 : vE[6]? = some (.retAddr mi)) (e7 : vE[7]? = some (.retAddr go)) (r0 : am_get h a0 = some (.inr (8, w0))) (s0 : w0[3]? = some (.retAddr z0)) (r5 : am_get h a5 = some (.inr (8, w5))) (s5 : w5[3]? = some (.retAddr z5)) (zm : mi ≤ 60) (zz0 : z0 ≤ 4) (zz5 : z5 ≤ 4) (x6 : v0[6]? = some (.ref 32)) (x9 : v0[9]? = some (.ref 43)) {v43 : List Value} (q43 : am_get h 43 = some (.inr (7, v43))) {x y z : Nat} (g_x : x < 4294967296) (g_y : y < 4294967296) (g_z : z < 4294967296) (h1 : x < z0) (h2 : y < mi) (h3 : ¬ z ≤ 2) : am_EG mi_87 [.ref 0, .retAddr x, .retAddr y, .retAddr z] h (some (.retAddr 4294967295), h) := by
  refine am_enter (n := 0) tk_87.2.1 (by simp [Value.category]) (Nat.le_of_ble_eq_true rfl) ?_
  show am_Good mi_87 0 [some (.ref 0), some (.retAddr x), some (.retAddr y), some (.retAddr z)] [] h _
  refine g_aload_n (i := 0) dd_87_0 rfl ?_
  refine g_iload_n (i := 1) dd_87_1 rfl ?_
  refine g_virtual (M' := mi_51) (n := 1) (ci := 11) (b := 0) (as := [.retAddr x]) (st := []) (r1 := (some (.retAddr 1), h)) w_584 w_586 ps_51 ⟨lk_51.1, lk_51.2.1, lk_51.2.2, by decide, by decide⟩ rfl q0 rfl (by simp [Value.category]) dd_87_2 (ist_1 q0 x3 qE e0 e5 e6 e7 r0 s0 r5 s5 zm zz0 zz5 h1) ?_
  show am_Good mi_87 5 [some (.ref 0), some (.retAddr x), some (.retAddr y), some (.retAddr z)] [.retAddr 1] h _
  refine g_if_eq_f (t := 25) dd_87_5 (by decide) (by decide) ?_
  refine g_aload_n (i := 0) dd_87_8 rfl ?_
  refine g_iload_n (i := 2) dd_87_9 rfl ?_
  refine g_virtual (M' := mi_52) (n := 1) (ci := 11) (b := 0) (as := [.retAddr y]) (st := []) (r1 := (some (.retAddr 1), h)) w_588 w_590 ps_52 ⟨lk_52.1, lk_52.2.1, lk_52.2.2, by decide, by decide⟩ rfl q0 rfl (by simp [Value.category]) dd_87_10 (imn_1 q0 x3 qE e0 e5 e6 e7 r0 s0 r5 s5 zm zz0 zz5 h2) ?_
  show am_Good mi_87 13 [some (.ref 0), some (.retAddr x), some (.retAddr y), some (.retAddr z)] [.retAddr 1] h _
  refine g_if_eq_f (t := 25) dd_87_13 (by decide) (by decide) ?_
  refine g_iload_n (i := 3) dd_87_16 rfl ?_
  by_cases hq : 2147483648 ≤ z
  · refine g_if_lt_t (t := 25) dd_87_17 (by decide) (by first | exact sk_lt_t (by omega) (by omega) | exact tk_lt_t (by omega)) ?_
    refine g_iconst dd_87_25 ic_m1 ?_
    exact g_ireturn rfl dd_87_26
  · refine g_if_lt_f (t := 25) dd_87_17 (by decide) (by first | exact sk_lt_f (by omega) (by omega) | exact tk_lt_f (by omega)) ?_
    refine g_iload_n (i := 3) dd_87_20 rfl ?_
    refine g_iconst dd_87_21 ic_2 ?_
    refine g_icmp_le_f (t := 27) dd_87_22 (by decide) (by first | exact sk_le_f (by omega) (by omega) | exact tk_le_f (by omega)) ?_
    refine g_iconst dd_87_25 ic_m1 ?_
    exact g_ireturn rfl dd_87_26
theorem mox_w {h : am_H} {E a0 a5 mi go z0 z5 : Nat} {v0 vE w0 w5 : List Value} (q0 : am_get h 0 = some (.inr (11, v0))) (x3 : v0[3]? = some (.ref E)) (qE : am_get h E = some (.inr (1, vE))) (e0 : vE[0]? = some (.ref a0)) (e5 : vE[5]? = some (.ref a5)) (e6 : vE[6]? = some (.retAddr mi)) (e7 : vE[7]? = some (.retAddr go)) (r0 : am_get h a0 = some (.inr (8, w0))) (s0 : w0[3]? = some (.retAddr z0)) (r5 : am_get h a5 = some (.inr (8, w5))) (s5 : w5[3]? = some (.retAddr z5)) (zm : mi ≤ 60) (zz0 : z0 ≤ 4) (zz5 : z5 ≤ 4) (x6 : v0[6]? = some (.ref 32)) (x9 : v0[9]? = some (.ref 43)) {v43 : List Value} (q43 : am_get h 43 = some (.inr (7, v43))) {x y z : Nat} (g_x : x < 4294967296) (g_y : y < 4294967296) (g_z : z < 4294967296) (h1 : x < z0) (h2 : y < mi) (h3 : z = 0) {wv : Nat} (e1_ : am_EG mi_42 [.ref 43, .retAddr x, .retAddr y] h (some (.retAddr wv), h)) : am_EG mi_87 [.ref 0, .retAddr x, .retAddr y, .retAddr z] h (some (.retAddr wv), h) := by
  refine am_enter (n := 0) tk_87.2.1 (by simp [Value.category]) (Nat.le_of_ble_eq_true rfl) ?_
  show am_Good mi_87 0 [some (.ref 0), some (.retAddr x), some (.retAddr y), some (.retAddr z)] [] h _
  refine g_aload_n (i := 0) dd_87_0 rfl ?_
  refine g_iload_n (i := 1) dd_87_1 rfl ?_
  refine g_virtual (M' := mi_51) (n := 1) (ci := 11) (b := 0) (as := [.retAddr x]) (st := []) (r1 := (some (.retAddr 1), h)) w_584 w_586 ps_51 ⟨lk_51.1, lk_51.2.1, lk_51.2.2, by decide, by decide⟩ rfl q0 rfl (by simp [Value.category]) dd_87_2 (ist_1 q0 x3 qE e0 e5 e6 e7 r0 s0 r5 s5 zm zz0 zz5 h1) ?_
  show am_Good mi_87 5 [some (.ref 0), some (.retAddr x), some (.retAddr y), some (.retAddr z)] [.retAddr 1] h _
  refine g_if_eq_f (t := 25) dd_87_5 (by decide) (by decide) ?_
  refine g_aload_n (i := 0) dd_87_8 rfl ?_
  refine g_iload_n (i := 2) dd_87_9 rfl ?_
  refine g_virtual (M' := mi_52) (n := 1) (ci := 11) (b := 0) (as := [.retAddr y]) (st := []) (r1 := (some (.retAddr 1), h)) w_588 w_590 ps_52 ⟨lk_52.1, lk_52.2.1, lk_52.2.2, by decide, by decide⟩ rfl q0 rfl (by simp [Value.category]) dd_87_10 (imn_1 q0 x3 qE e0 e5 e6 e7 r0 s0 r5 s5 zm zz0 zz5 h2) ?_
  show am_Good mi_87 13 [some (.ref 0), some (.retAddr x), some (.retAddr y), some (.retAddr z)] [.retAddr 1] h _
  refine g_if_eq_f (t := 25) dd_87_13 (by decide) (by decide) ?_
  refine g_iload_n (i := 3) dd_87_16 rfl ?_
  refine g_if_lt_f (t := 25) dd_87_17 (by decide) (by first | exact sk_lt_f (by omega) (by omega) | exact tk_lt_f (by omega)) ?_
  refine g_iload_n (i := 3) dd_87_20 rfl ?_
  refine g_iconst dd_87_21 ic_2 ?_
  refine g_icmp_le_t (t := 27) dd_87_22 (by decide) (by first | exact sk_le_t (by omega) (by omega) | exact tk_le_t (by omega)) ?_
  refine g_iload_n (i := 3) dd_87_27 rfl ?_
  refine g_if_ne_f (t := 41) dd_87_28 (by decide) (tk_ne_f (by omega)) ?_
  refine g_aload_n (i := 0) dd_87_31 rfl ?_
  refine g_getfield (k := 9) am_ck11 (by decide) (Or.inl w_520) dd_87_32 q0 x9 ?_
  refine g_iload_n (i := 1) dd_87_35 rfl ?_
  refine g_iload_n (i := 2) dd_87_36 rfl ?_
  refine g_virtual (M' := mi_42) (n := 2) (ci := 7) (b := 43) (as := [.retAddr x, .retAddr y]) (st := []) (r1 := (some (.retAddr wv), h)) w_684 w_495 w_496 ⟨lk_42.1, lk_42.2.1, lk_42.2.2, by decide, by decide⟩ rfl q43 rfl (by simp [Value.category]) dd_87_37 (e1_) ?_
  show am_Good mi_87 40 [some (.ref 0), some (.retAddr x), some (.retAddr y), some (.retAddr z)] [.retAddr wv] h _
  exact g_ireturn rfl dd_87_40
theorem mox_m {h : am_H} {E a0 a5 mi go z0 z5 : Nat} {v0 vE w0 w5 : List Value} (q0 : am_get h 0 = some (.inr (11, v0))) (x3 : v0[3]? = some (.ref E)) (qE : am_get h E = some (.inr (1, vE))) (e0 : vE[0]? = some (.ref a0)) (e5 : vE[5]? = some (.ref a5)) (e6 : vE[6]? = some (.retAddr mi)) (e7 : vE[7]? = some (.retAddr go)) (r0 : am_get h a0 = some (.inr (8, w0))) (s0 : w0[3]? = some (.retAddr z0)) (r5 : am_get h a5 = some (.inr (8, w5))) (s5 : w5[3]? = some (.retAddr z5)) (zm : mi ≤ 60) (zz0 : z0 ≤ 4) (zz5 : z5 ≤ 4) (x6 : v0[6]? = some (.ref 32)) (x9 : v0[9]? = some (.ref 43)) {v43 : List Value} (q43 : am_get h 43 = some (.inr (7, v43))) {x y z : Nat} (g_x : x < 4294967296) (g_y : y < 4294967296) (g_z : z < 4294967296) (h1 : x < z0) (h2 : y < mi) (h3 : z = 1) {g : am_H} {u0 u43 : List Value} {fm fs : Nat} (p0 : am_get g 0 = some (.inr (11, u0))) (y9 : u0[9]? = some (.ref 43)) (p43 : am_get g 43 = some (.inr (7, u43))) (t2 : u43[2]? = some (.retAddr fm)) (t3 : u43[3]? = some (.retAddr fs)) (e2_ : am_EG mi_88 [.ref 43, .ref E, .ref 32, .retAddr x, .retAddr y] h (none, g)) : am_EG mi_87 [.ref 0, .retAddr x, .retAddr y, .retAddr z] h (some (.retAddr fm), g) := by
  refine am_enter (n := 0) tk_87.2.1 (by simp [Value.category]) (Nat.le_of_ble_eq_true rfl) ?_
  show am_Good mi_87 0 [some (.ref 0), some (.retAddr x), some (.retAddr y), some (.retAddr z)] [] h _
  refine g_aload_n (i := 0) dd_87_0 rfl ?_
  refine g_iload_n (i := 1) dd_87_1 rfl ?_
  refine g_virtual (M' := mi_51) (n := 1) (ci := 11) (b := 0) (as := [.retAddr x]) (st := []) (r1 := (some (.retAddr 1), h)) w_584 w_586 ps_51 ⟨lk_51.1, lk_51.2.1, lk_51.2.2, by decide, by decide⟩ rfl q0 rfl (by simp [Value.category]) dd_87_2 (ist_1 q0 x3 qE e0 e5 e6 e7 r0 s0 r5 s5 zm zz0 zz5 h1) ?_
  show am_Good mi_87 5 [some (.ref 0), some (.retAddr x), some (.retAddr y), some (.retAddr z)] [.retAddr 1] h _
  refine g_if_eq_f (t := 25) dd_87_5 (by decide) (by decide) ?_
  refine g_aload_n (i := 0) dd_87_8 rfl ?_
  refine g_iload_n (i := 2) dd_87_9 rfl ?_
  refine g_virtual (M' := mi_52) (n := 1) (ci := 11) (b := 0) (as := [.retAddr y]) (st := []) (r1 := (some (.retAddr 1), h)) w_588 w_590 ps_52 ⟨lk_52.1, lk_52.2.1, lk_52.2.2, by decide, by decide⟩ rfl q0 rfl (by simp [Value.category]) dd_87_10 (imn_1 q0 x3 qE e0 e5 e6 e7 r0 s0 r5 s5 zm zz0 zz5 h2) ?_
  show am_Good mi_87 13 [some (.ref 0), some (.retAddr x), some (.retAddr y), some (.retAddr z)] [.retAddr 1] h _
  refine g_if_eq_f (t := 25) dd_87_13 (by decide) (by decide) ?_
  refine g_iload_n (i := 3) dd_87_16 rfl ?_
  refine g_if_lt_f (t := 25) dd_87_17 (by decide) (by first | exact sk_lt_f (by omega) (by omega) | exact tk_lt_f (by omega)) ?_
  refine g_iload_n (i := 3) dd_87_20 rfl ?_
  refine g_iconst dd_87_21 ic_2 ?_
  refine g_icmp_le_t (t := 27) dd_87_22 (by decide) (by first | exact sk_le_t (by omega) (by omega) | exact tk_le_t (by omega)) ?_
  refine g_iload_n (i := 3) dd_87_27 rfl ?_
  refine g_if_ne_t (t := 41) dd_87_28 (by decide) (tk_ne_t (by omega)) ?_
  refine g_aload_n (i := 0) dd_87_41 rfl ?_
  refine g_getfield (k := 9) am_ck11 (by decide) (Or.inl w_520) dd_87_42 q0 x9 ?_
  refine g_aload_n (i := 0) dd_87_45 rfl ?_
  refine g_getfield (k := 3) am_ck11 (by decide) (Or.inl w_514) dd_87_46 q0 x3 ?_
  refine g_aload_n (i := 0) dd_87_49 rfl ?_
  refine g_getfield (k := 6) am_ck11 (by decide) (Or.inl w_517) dd_87_50 q0 x6 ?_
  refine g_iload_n (i := 1) dd_87_53 rfl ?_
  refine g_iload_n (i := 2) dd_87_54 rfl ?_
  refine g_virtual (M' := mi_88) (n := 4) (ci := 7) (b := 43) (as := [.ref E, .ref 32, .retAddr x, .retAddr y]) (st := []) (r1 := (none, g)) w_740 w_741 w_742 ⟨lk_88.1, lk_88.2.1, lk_88.2.2, by decide, by decide⟩ rfl q43 rfl (by simp [Value.category]) dd_87_55 (e2_) ?_
  show am_Good mi_87 58 [some (.ref 0), some (.retAddr x), some (.retAddr y), some (.retAddr z)] [] g _
  refine g_iload_n (i := 3) dd_87_58 rfl ?_
  refine g_iconst dd_87_59 ic_1 ?_
  refine g_icmp_ne_f (t := 73) dd_87_60 (by decide) (tk_ne_f (by omega)) ?_
  refine g_aload_n (i := 0) dd_87_63 rfl ?_
  refine g_getfield (k := 9) am_ck11 (by decide) (Or.inl w_520) dd_87_64 p0 y9 ?_
  refine g_getfield (k := 2) am_ck7 (by decide) (Or.inr ⟨_, w_203⟩) dd_87_67 p43 t2 ?_
  refine g_goto (t := 80) dd_87_70 (by decide) ?_
  exact g_ireturn rfl dd_87_80
theorem mox_f {h : am_H} {E a0 a5 mi go z0 z5 : Nat} {v0 vE w0 w5 : List Value} (q0 : am_get h 0 = some (.inr (11, v0))) (x3 : v0[3]? = some (.ref E)) (qE : am_get h E = some (.inr (1, vE))) (e0 : vE[0]? = some (.ref a0)) (e5 : vE[5]? = some (.ref a5)) (e6 : vE[6]? = some (.retAddr mi)) (e7 : vE[7]? = some (.retAddr go)) (r0 : am_get h a0 = some (.inr (8, w0))) (s0 : w0[3]? = some (.retAddr z0)) (r5 : am_get h a5 = some (.inr (8, w5))) (s5 : w5[3]? = some (.retAddr z5)) (zm : mi ≤ 60) (zz0 : z0 ≤ 4) (zz5 : z5 ≤ 4) (x6 : v0[6]? = some (.ref 32)) (x9 : v0[9]? = some (.ref 43)) {v43 : List Value} (q43 : am_get h 43 = some (.inr (7, v43))) {x y z : Nat} (g_x : x < 4294967296) (g_y : y < 4294967296) (g_z : z < 4294967296) (h1 : x < z0) (h2 : y < mi) (h3 : z = 2) {g : am_H} {u0 u43 : List Value} {fm fs : Nat} (p0 : am_get g 0 = some (.inr (11, u0))) (y9 : u0[9]? = some (.ref 43)) (p43 : am_get g 43 = some (.inr (7, u43))) (t2 : u43[2]? = some (.retAddr fm)) (t3 : u43[3]? = some (.retAddr fs)) (e2_ : am_EG mi_88 [.ref 43, .ref E, .ref 32, .retAddr x, .retAddr y] h (none, g)) : am_EG mi_87 [.ref 0, .retAddr x, .retAddr y, .retAddr z] h (some (.retAddr fs), g) := by
  refine am_enter (n := 0) tk_87.2.1 (by simp [Value.category]) (Nat.le_of_ble_eq_true rfl) ?_
  show am_Good mi_87 0 [some (.ref 0), some (.retAddr x), some (.retAddr y), some (.retAddr z)] [] h _
  refine g_aload_n (i := 0) dd_87_0 rfl ?_
  refine g_iload_n (i := 1) dd_87_1 rfl ?_
  refine g_virtual (M' := mi_51) (n := 1) (ci := 11) (b := 0) (as := [.retAddr x]) (st := []) (r1 := (some (.retAddr 1), h)) w_584 w_586 ps_51 ⟨lk_51.1, lk_51.2.1, lk_51.2.2, by decide, by decide⟩ rfl q0 rfl (by simp [Value.category]) dd_87_2 (ist_1 q0 x3 qE e0 e5 e6 e7 r0 s0 r5 s5 zm zz0 zz5 h1) ?_
  show am_Good mi_87 5 [some (.ref 0), some (.retAddr x), some (.retAddr y), some (.retAddr z)] [.retAddr 1] h _
  refine g_if_eq_f (t := 25) dd_87_5 (by decide) (by decide) ?_
  refine g_aload_n (i := 0) dd_87_8 rfl ?_
  refine g_iload_n (i := 2) dd_87_9 rfl ?_
  refine g_virtual (M' := mi_52) (n := 1) (ci := 11) (b := 0) (as := [.retAddr y]) (st := []) (r1 := (some (.retAddr 1), h)) w_588 w_590 ps_52 ⟨lk_52.1, lk_52.2.1, lk_52.2.2, by decide, by decide⟩ rfl q0 rfl (by simp [Value.category]) dd_87_10 (imn_1 q0 x3 qE e0 e5 e6 e7 r0 s0 r5 s5 zm zz0 zz5 h2) ?_
  show am_Good mi_87 13 [some (.ref 0), some (.retAddr x), some (.retAddr y), some (.retAddr z)] [.retAddr 1] h _
  refine g_if_eq_f (t := 25) dd_87_13 (by decide) (by decide) ?_
  refine g_iload_n (i := 3) dd_87_16 rfl ?_
  refine g_if_lt_f (t := 25) dd_87_17 (by decide) (by first | exact sk_lt_f (by omega) (by omega) | exact tk_lt_f (by omega)) ?_
  refine g_iload_n (i := 3) dd_87_20 rfl ?_
  refine g_iconst dd_87_21 ic_2 ?_
  refine g_icmp_le_t (t := 27) dd_87_22 (by decide) (by first | exact sk_le_t (by omega) (by omega) | exact tk_le_t (by omega)) ?_
  refine g_iload_n (i := 3) dd_87_27 rfl ?_
  refine g_if_ne_t (t := 41) dd_87_28 (by decide) (tk_ne_t (by omega)) ?_
  refine g_aload_n (i := 0) dd_87_41 rfl ?_
  refine g_getfield (k := 9) am_ck11 (by decide) (Or.inl w_520) dd_87_42 q0 x9 ?_
  refine g_aload_n (i := 0) dd_87_45 rfl ?_
  refine g_getfield (k := 3) am_ck11 (by decide) (Or.inl w_514) dd_87_46 q0 x3 ?_
  refine g_aload_n (i := 0) dd_87_49 rfl ?_
  refine g_getfield (k := 6) am_ck11 (by decide) (Or.inl w_517) dd_87_50 q0 x6 ?_
  refine g_iload_n (i := 1) dd_87_53 rfl ?_
  refine g_iload_n (i := 2) dd_87_54 rfl ?_
  refine g_virtual (M' := mi_88) (n := 4) (ci := 7) (b := 43) (as := [.ref E, .ref 32, .retAddr x, .retAddr y]) (st := []) (r1 := (none, g)) w_740 w_741 w_742 ⟨lk_88.1, lk_88.2.1, lk_88.2.2, by decide, by decide⟩ rfl q43 rfl (by simp [Value.category]) dd_87_55 (e2_) ?_
  show am_Good mi_87 58 [some (.ref 0), some (.retAddr x), some (.retAddr y), some (.retAddr z)] [] g _
  refine g_iload_n (i := 3) dd_87_58 rfl ?_
  refine g_iconst dd_87_59 ic_1 ?_
  refine g_icmp_ne_t (t := 73) dd_87_60 (by decide) (tk_ne_t (by omega)) ?_
  refine g_aload_n (i := 0) dd_87_73 rfl ?_
  refine g_getfield (k := 9) am_ck11 (by decide) (Or.inl w_520) dd_87_74 p0 y9 ?_
  refine g_getfield (k := 3) am_ck7 (by decide) (Or.inr ⟨_, w_205⟩) dd_87_77 p43 t3 ?_
  exact g_ireturn rfl dd_87_80
theorem rt_in2 {v b : Nat} (hb : b < 4294967296) (h : v = 4294967292 ∨ v ≤ b) : ax_in v [(0, b), (4294967292, 4294967292)] := by
  rcases h with rfl | h
  · exact ⟨by decide, (4294967292, 4294967292), by simp, Nat.le_refl _, Nat.le_refl _⟩
  · exact ⟨Nat.lt_of_le_of_lt h hb, (0, b), by simp, Nat.zero_le _, h⟩
theorem kp_43 {h g : am_H} {E : Nat} (hE : E = 4 ∨ E = 17) (u : ∀ a, a ≠ 43 → am_get g a = am_get h a) (f : ax_fv g 43 1 = ax_fv h 43 1) : kp h g E := by
  have d1 : ∀ p, p ∈ je_fx E ++ je_fm → p.1 ≠ 43 := by rcases hE with rfl | rfl <;> decide
  have d2 : ∀ a, a ∈ je_rx E ++ je_rm → a ≠ 43 := by rcases hE with rfl | rfl <;> decide
  refine ⟨fun p hp => ?_, fun a ha => u a (d2 a ha)⟩
  rcases List.mem_cons.mp hp with rfl | hp
  · exact f
  · exact ax_fv_get (u _ (d1 p hp)) _
theorem lg_r_in {fw T : Nat → Nat → Nat} {go n mi x y : Nat} (hm : y < mi) (hm6 : mi ≤ 60) (hn : n ≤ 4) : (lg_r fw T go n mi x y 1 = 4294967292 ∨ lg_r fw T go n mi x y 1 ≤ 59) ∧ (lg_r fw T go n mi x y 2 = 4294967292 ∨ lg_r fw T go n mi x y 2 ≤ 3) := by
  have r1 : lg_r fw T go n mi x y 1 = if lg_s fw x y (mi - y) = T y x then 4294967292 else lg_m fw T go n x y (mi - y) := rfl
  have r2 : lg_r fw T go n mi x y 2 = if lg_s fw x y (mi - y) = T y x then 4294967292 else lg_f fw T go n x y (mi - y) := rfl
  rw [r1, r2]
  by_cases h : lg_s fw x y (mi - y) = T y x
  · rw [if_pos h, if_pos h]; exact ⟨Or.inl rfl, Or.inl rfl⟩
  · rw [if_neg h, if_neg h]
    refine ⟨?_, ?_⟩
    · rcases lg_m_r (fw := fw) (T := T) (go := go) (n := n) (x := x) (y := y) (mi - y) with ⟨a, -⟩ | ⟨a, -⟩
      · exact Or.inl a
      · exact Or.inr (by omega)
    · rcases lg_ends (fw := fw) (T := T) (go := go) (n := n) (mi := mi) (x := x) (y := y) (mi - y) with a | a
      · exact Or.inl a
      · exact Or.inr (by omega)
theorem mo_x {h : am_H} (hJ : Jv h) {E mi go : Nat} {Z X Y : Nat → Nat} (hA : je_A h E mi go Z X Y) {x y z : Nat} (hx : x < 4294967296) (hy : y < 4294967296) (hz : z < 4294967296) (hs : x < Z 0) (hm : y < mi) (hi : z ≤ 2) : ∃ G g, rt_R (fun s t => sc_W Z Y 0 4294967292 s t) (rt_T G mi) go (Z 0) mi 0 ∧ am_EG mi_87 [.ref 0, .retAddr x, .retAddr y, .retAddr z] h (some (.retAddr (lg_r (fun s t => sc_W Z Y 0 4294967292 s t) (rt_T G mi) go (Z 0) mi x y z)), g) ∧ Jv g ∧ je_A g E mi go Z X Y ∧ (g.1 = h.1 ∧ g.2.1 = h.2.1) := by
  obtain ⟨v0, q0, x3, x5, x6, x7, x8, x9, -, qE, r0, -, r5, -, q32, -, -⟩ := je_xo hA
  have hP := hA.2.2.2.1
  have p1 := hP.1
  have z0 : Z 0 ≤ 4 := hP.2.1 0 (by decide)
  have z5 : Z 5 ≤ 4 := hP.2.1 5 (by decide)
  have hBY : je_B Z Y := je_bY hP.2.1 hP.2.2.1
  obtain ⟨⟨W, F, B, s1, s2, s3, s4⟩, ⟨G, g44, f43, hR⟩, -⟩ := hA.2.2.2.2.2
  have c43 : am_get h 43 = some (.inr (7, [.ref 44, .retAddr mi, .retAddr (fldv h 43 2), .retAddr (fldv h 43 3)])) := by
    rcases hA.1 with ⟨-, i⟩ | ⟨-, i⟩
    · have e := oz1_c43 i; rw [fldv_fv f43] at e; exact e
    · have e := oz0_c43 i; rw [fldv_fv f43] at e; exact e
  have rk : rv_ok h := ⟨⟨_, c43⟩, ⟨_, g44⟩, trivial⟩
  have own : rv h mi (fldv h 43 2) (fldv h 43 3) G = h := by
    unfold rv
    exact am_ups_00 ⟨c43, g44, trivial⟩
  by_cases c0 : z = 0
  · have e1 := rw_f (mi := mi) (fm := fldv h 43 2) (fs := fldv h 43 3) (G := G) rk (s := x) (t := y) (by omega) (by omega) p1.2.1
    rw [own] at e1
    refine ⟨G, h, hR, ?_, hJ, hA, rfl, rfl⟩
    subst c0
    exact mox_w q0 x3 qE rfl rfl rfl rfl r0 rfl r5 rfl p1.2.1 z0 z5 x6 x9 c43 hx hy hz hs hm rfl e1
  have nE : am_lk [(43, am_e0), (44, am_e0)] E = none := by rcases hA.1 with ⟨rfl, -⟩ | ⟨rfl, -⟩ <;> rfl
  have nA : am_lk [(43, am_e0), (44, am_e0)] (E + 1) = none := by rcases hA.1 with ⟨rfl, -⟩ | ⟨rfl, -⟩ <;> rfl
  have e2 := fg_m (q := 32) (fw := (fun s t => sc_W Z Y 0 4294967292 s t)) (n := Z 0) (mi := mi) (go := go) rk (fun m fm fs G => (rv_o rk rfl).trans q32) (fun m fm fs G s t hs ht => by
    have e := ew_w (s := s) (t := t) ((rv_o (m := m) (fm := fm) (fs := fs) (G := G) rk rfl).trans q32) ((rv_o rk rfl).trans s1) (by omega) (by omega)
    rw [(s4 s hs t (by omega)).1] at e
    exact e) z0 p1.1 p1.2.1 p1.2.2.1 (fun s t hs ht => Nat.le_trans (rt_W9 hBY 0 4294967292 s t hs) (by decide)) nE qE rfl rfl rfl nA r0 rfl (fm := fldv h 43 2) (fs := fldv h 43 3) (G := G) hs hm hR
  rw [own] at e2
  obtain ⟨b1, b2⟩ := lg_r_in (fw := (fun s t => sc_W Z Y 0 4294967292 s t)) (T := rt_T G mi) (go := go) (x := x) hm p1.2.1 z0
  generalize ea : lg_r (fun s t => sc_W Z Y 0 4294967292 s t) (rt_T G mi) go (Z 0) mi x y 1 = A1 at e2 b1
  generalize eb : lg_r (fun s t => sc_W Z Y 0 4294967292 s t) (rt_T G mi) go (Z 0) mi x y 2 = B1 at e2 b2
  have k43 : am_get (rv h mi A1 B1 G) 43 = _ := rv_g43 rk
  have u : ∀ a, a ≠ 43 → am_get (rv h mi A1 B1 G) a = am_get h a := fun a ha => by
    by_cases q : a = 44
    · subst q; exact (rv_g44 rk).trans g44.symm
    · exact rv_o rk (am_lk_ct (ks := [43, 44]) (by simp; omega))
  have f1 : ax_fv (rv h mi A1 B1 G) 43 1 = ax_fv h 43 1 := by rw [f43]; unfold ax_fv; rw [k43]; rfl
  have i0 : ax_I sb0 h → ax_I sb0 (rv h mi A1 B1 G) := fun i => by
    have k0 := rk
    unfold rv
    refine ax_I_ups i ?_ ⟨ok_at rfl (ok_set (k := 3) (n := B1) (ok_set (k := 2) (n := A1) (ok_own i rfl c43) rfl (rt_in2 (by decide) b1)) rfl (rt_in2 (by decide) b2)), ok_at rfl ok_rowt, trivial⟩
    exact k0
  have i1 : ax_I sb1 h → ax_I sb1 (rv h mi A1 B1 G) := fun i => by
    have k0 := rk
    unfold rv
    refine ax_I_ups i ?_ ⟨ok_at rfl (ok_set (k := 3) (n := B1) (ok_set (k := 2) (n := A1) (ok_own i rfl c43) rfl (rt_in2 (by decide) b1)) rfl (rt_in2 (by decide) b2)), ok_at rfl ok_rowt, trivial⟩
    exact k0
  have sz : (rv h mi A1 B1 G).1 = h.1 ∧ (rv h mi A1 B1 G).2.1 = h.2.1 := by unfold rv; exact am_ups_1 _
  generalize rv h mi A1 B1 G = g at e2 k43 u f1 i0 i1 sz
  have J : Jv g := Jv_x hJ (fun a ha => u a (by omega)) (fun q => ⟨i0 q, kp_43 (Or.inl rfl) u f1⟩) (fun q => ⟨i1 q, kp_43 (Or.inr rfl) u f1⟩) (u 1 (by decide)) (ax_fv_get (u 0 (by decide)) 1) (ax_fv_get (u 0 (by decide)) 16)
  have hE : E = 4 ∨ E = 17 := by
    rcases hA.1 with ⟨q, -⟩ | ⟨q, -⟩
    · exact Or.inl q
    · exact Or.inr q
  refine ⟨G, g, hR, ?_, J, je_A_kp (kp_43 hE u f1) i0 i1 hA, sz⟩
  by_cases c1 : z = 1
  · subst c1
    rw [ea]
    exact mox_m q0 x3 qE rfl rfl rfl rfl r0 rfl r5 rfl p1.2.1 z0 z5 x6 x9 c43 hx hy hz hs hm rfl ((u 0 (by decide)).trans q0) x9 k43 rfl rfl e2
  · have c2 : z = 2 := by omega
    subst c2
    rw [eb]
    exact mox_f q0 x3 qE rfl rfl rfl rfl r0 rfl r5 rfl p1.2.1 z0 z5 x6 x9 c43 hx hy hz hs hm rfl ((u 0 (by decide)).trans q0) x9 k43 rfl rfl e2
theorem jb_most (x y z : Nat) (hx : x < 4294967296) (hy : y < 4294967296) (hz : z < 4294967296) : am_B2 Jv true 87 185 [.retAddr x, .retAddr y, .retAddr z] := by
  intro h hJ
  obtain ⟨E, mi, go, Z, X, Y, hA⟩ := je_ex hJ
  obtain ⟨v0, q0, x3, -, x6, -, -, x9, -, qE, r0, -, r5, -, -, -, -⟩ := je_xo hA
  have hP := hA.2.2.2.1
  have p1 := hP.1
  have z0 : Z 0 ≤ 4 := hP.2.1 0 (by decide)
  have z5 : Z 5 ≤ 4 := hP.2.1 5 (by decide)
  obtain ⟨-, ⟨G, g44, f43, hR⟩, -⟩ := hA.2.2.2.2.2
  obtain ⟨v43, q43⟩ : ∃ v43, am_get h 43 = some (.inr (7, v43)) := by
    rcases hA.1 with ⟨-, i⟩ | ⟨-, i⟩
    · exact ⟨_, oz1_c43 i⟩
    · exact ⟨_, oz0_c43 i⟩
  obtain ⟨c1, cm, Len, g, n, hH, hL1, hL, hl, hn1, hn, e0, e2⟩ := jm_ex ((ax_I_to st_mcs).mp hJ.1.2)
  have a0 : Len = mi := by
    have := hA.2.2.1.1
    rw [e0] at this
    cases this
    rfl
  have a2 : n = Z 0 := by
    have := (hA.2.2.1.2.2 0 (by decide)).1
    rw [show 2 + 2 * 0 = 2 from rfl, e2] at this
    cases this
    rfl
  subst a0 a2
  by_cases h1 : x < Z 0
  case neg => exact je_fin hJ (mox_0 q0 x3 qE rfl rfl rfl rfl r0 rfl r5 rfl p1.2.1 z0 z5 x6 x9 q43 hx hy hz h1) (jm_mo_s hH hL1 hL hl hn1 hn hx hy hz h1)
  by_cases h2 : y < Len
  case neg => exact je_fin hJ (mox_1 q0 x3 qE rfl rfl rfl rfl r0 rfl r5 rfl p1.2.1 z0 z5 x6 x9 q43 hx hy hz h1 h2) (jm_mo_m hH hL1 hL hl hn1 hn hx hy hz h1 h2)
  by_cases h3 : z ≤ 2
  case neg => exact je_fin hJ (mox_2 q0 x3 qE rfl rfl rfl rfl r0 rfl r5 rfl p1.2.1 z0 z5 x6 x9 q43 hx hy hz h1 h2 h3) (jm_mo_i hH hL1 hL hl hn1 hn hx hy hz h1 h2 h3)
  obtain ⟨G', k, hR', ex, J1, A1, sz1⟩ := mo_x hJ hA hx hy hz h1 h2 h3
  obtain ⟨g2, em, J2, sz2⟩ := mo_m J1 A1 hR' hx hy hz h1 h2 h3
  obtain ⟨us, u66⟩ := jv_g66 J1.1
  exact ⟨_, k, _, g2, ex, em, fun _ => rfl, J2, ⟨v0, q0⟩, ⟨us, u66⟩, sz1, sz2⟩
