/-! ===== counting what can be undone ===== -/
theorem jv_c_same {x y : Nat} : ∀ {n : Nat}, (∀ i, i < n → am_ag y i = am_ag x i) → jv_c y n = jv_c x n
  | 0, _ => rfl
  | n + 1, h => by
    show jv_c y n + (if am_ag y n = 4294967292 then 1 else 0) = jv_c x n + (if am_ag x n = 4294967292 then 1 else 0)
    rw [jv_c_same (n := n) (fun i hi => h i (by omega)), h n (by omega)]
theorem jv_c_shift {x y : Nat} : ∀ {n : Nat}, (∀ i, i < n → am_ag y i = am_ag x (i + 1)) → jv_c y n ≤ jv_c x (n + 1)
  | 0, _ => Nat.zero_le _
  | n + 1, h => by
    have := jv_c_shift (n := n) (fun i hi => h i (by omega))
    show jv_c y n + (if am_ag y n = 4294967292 then 1 else 0) ≤ jv_c x (n + 1) + (if am_ag x (n + 1) = 4294967292 then 1 else 0)
    rw [h n (by omega)]
    omega
theorem jv_c_s (x n : Nat) : jv_c x (n + 1) = jv_c x n + (if am_ag x n = 4294967292 then 1 else 0) := rfl
/-- what an end says -/
def jq_F (x g m gk : Nat) (ns : List Nat) (h : am_H) : Prop := ∃ g' x', ax_fv h 66 42 = some (.retAddr m) ∧ ax_fv h 66 40 = some (.retAddr g') ∧ am_get h 86 = some (.inl (0, 8, x')) ∧ ((gk = 0 → g' = g) ∧ (gk = 1 → g' = am_add g 1) ∧ (gk = 2 → g' = am_add g 4294967295)) ∧ ∀ j c, ns[j]? = some c → (c < 8 → am_ag x' j = am_ag x c) ∧ (c = 8 → am_ag x' j < 4) ∧ (8 < c → am_ag x' j = 4294967292)
theorem jq_F_ok {ρ' : Nat → Nat} {k m gk g x : Nat} {ar : Nat → Nat} {ns : List Nat} {e : ax_E} {h : am_H} (hl : ns.length ≤ 8) (hm : m < 4294967296) (hx : ax_xo mb ρ' e.2 h) (ha : ax_ag (k + 9) (jq_r k ar g x) ρ') (hp : jq_p k m gk ns e = true) : jq_F x g m gk ns h := by
  unfold jq_p at hp
  rw [Bool.and_eq_true, Bool.and_eq_true] at hp
  obtain ⟨p1, p2, p3⟩ := hp
  obtain ⟨g', g1, g2, g3, g4⟩ := jq_g_ok hx ha p2
  obtain ⟨x', hx', -⟩ := hx.2.2.2.2.row (a := 86) rfl
  have hav : ∀ i, ax_av h 86 i = some (am_ag x' i) := fun i => by unfold ax_av; rw [hx']
  rw [jq_r_g] at g2 g3 g4
  refine ⟨g', x', ?_, g1, hx', ⟨g2, g3, g4⟩, fun j c hj => ?_⟩
  · have := (hx.2.2.1 _ (ax_fc_ok (ax_eqo_ok p1))).2
    rw [ax_vl_c hm] at this
    exact this
  · obtain ⟨w, w1, w2, w3, w4⟩ := jq_ns_ok hx ha (i := 0) (by omega) p3 j c hj
    rw [Nat.zero_add, hav] at w1
    have w5 : am_ag x' j = w := Option.some.inj w1
    rw [w5]
    refine ⟨fun q => ?_, w3, w4⟩
    rw [w2 q, jq_r_a]
theorem jq_same {x g c m : Nat} {ns : List Nat} {h : am_H} (hq : jv_c x c ≤ g) (hmc : m ≤ c) (hm : ∀ i, i < m → ns[i]? = some i ∧ i < 8) (hF : jq_F x g m 0 ns h) : jv_Q h := by
  obtain ⟨g', x', f1, f2, f3, f4, f5⟩ := hF
  refine ⟨m, g', x', f1, f2, f3, ?_⟩
  rw [f4.1 rfl, jv_c_same (x := x) (fun i hi => (f5 i i (hm i hi).1).1 (hm i hi).2)]
  have mono : ∀ n, m ≤ n → jv_c x m ≤ jv_c x n := fun n hn => by
    induction hn with
    | refl => exact Nat.le_refl _
    | step _ ih => exact Nat.le_trans ih (Nat.le_add_right _ _)
  exact Nat.le_trans (mono c hmc) hq
theorem jq_push {x g c gk v : Nat} {ns : List Nat} {h : am_H} (hq : jv_c x c ≤ g) (hg : g ≤ 9) (hm : ∀ i, i < c → ns[i]? = some i ∧ i < 8) (hc : ns[c]? = some v) (hv : (v = 8 ∧ gk = 0) ∨ (v = 9 ∧ gk = 1)) (hF : jq_F x g (c + 1) gk ns h) : jv_Q h := by
  obtain ⟨g', x', f1, f2, f3, f4, f5⟩ := hF
  refine ⟨c + 1, g', x', f1, f2, f3, ?_⟩
  rw [jv_c_s, jv_c_same (x := x) (fun i hi => (f5 i i (hm i hi).1).1 (hm i hi).2)]
  rcases hv with ⟨rfl, rfl⟩ | ⟨rfl, rfl⟩
  · have := (f5 c 8 hc).2.1 rfl
    rw [if_neg (by omega), f4.1 rfl]
    exact hq
  · rw [f4.2.1 rfl]
    have e : am_add g 1 = g + 1 := by unfold am_add; exact Nat.mod_eq_of_lt (by omega)
    rw [e]
    split <;> omega
theorem jq_shift {x g gk v : Nat} {ns : List Nat} {h : am_H} (hq : jv_c x 8 ≤ g) (hg : g ≤ 9) (hm : ∀ i, i < 7 → ns[i]? = some (i + 1) ∧ i + 1 < 8) (hc : ns[7]? = some v) (hv : (v = 8 ∧ gk = 0) ∨ (v = 9 ∧ gk = 1)) (hF : jq_F x g 8 gk ns h) : jv_Q h := by
  obtain ⟨g', x', f1, f2, f3, f4, f5⟩ := hF
  refine ⟨8, g', x', f1, f2, f3, ?_⟩
  have h7 : jv_c x' 7 ≤ jv_c x 8 := jv_c_shift (x := x) (y := x') (n := 7) (fun i hi => (f5 i (i + 1) (hm i hi).1).1 (hm i hi).2)
  rw [jv_c_s]
  rcases hv with ⟨rfl, rfl⟩ | ⟨rfl, rfl⟩
  · have := (f5 7 8 hc).2.1 rfl
    rw [if_neg (by omega), f4.1 rfl]
    omega
  · rw [f4.2.1 rfl]
    have e : am_add g 1 = g + 1 := by unfold am_add; exact Nat.mod_eq_of_lt (by omega)
    rw [e]
    split <;> omega
theorem jq_pop {x g c : Nat} {ns : List Nat} {h : am_H} (hq : jv_c x (c + 1) ≤ g) (hg : g ≤ 9) (ht : am_ag x c = 4294967292) (hm : ∀ i, i < c → ns[i]? = some i ∧ i < 8) (hF : jq_F x g c 2 ns h) : jv_Q h := by
  obtain ⟨g', x', f1, f2, f3, f4, f5⟩ := hF
  refine ⟨c, g', x', f1, f2, f3, ?_⟩
  rw [jv_c_s, if_pos ht] at hq
  rw [jv_c_same (x := x) (fun i hi => (f5 i i (hm i hi).1).1 (hm i hi).2), f4.2.2 rfl]
  have e : am_add g 4294967295 = g - 1 := by
    unfold am_add
    rw [Nat.mod_eq_sub_mod (by omega), Nat.mod_eq_of_lt (by omega)]
    omega
  rw [e]
  omega
/-- what the reference's heap says of acts, goings, act -/
theorem jq_in {h : am_H} (hI : ax_I sbm h) (hQ : jv_Q h) : ∃ a g x, ax_fv h 66 42 = some (.retAddr a) ∧ ax_fv h 66 40 = some (.retAddr g) ∧ am_get h 86 = some (.inl (0, 8, x)) ∧ jv_c x a ≤ g ∧ a ≤ 8 ∧ g ≤ 9 ∧ ∀ i, i < 8 → ax_in (am_ag x i) jq_A := by
  obtain ⟨a, g, x, q1, q2, q3, q4⟩ := hQ
  obtain ⟨vs, hv, hl, ho⟩ := hI.obj (a := 66) rfl
  obtain ⟨x', hx', hr⟩ := hI.row (a := 86) rfl
  rw [q3] at hx'
  have e1 : x = x' := by cases hx'; rfl
  subst e1
  have f1 : vs[42]? = some (.retAddr a) := by unfold ax_fv at q1; rw [hv] at q1; exact q1
  have f2 : vs[40]? = some (.retAddr g) := by unfold ax_fv at q2; rw [hv] at q2; exact q2
  have o1 : ∃ n, Value.retAddr a = .retAddr n ∧ ax_in n [(0, 8)] := ho 42 _ _ rfl f1
  have o2 : ∃ n, Value.retAddr g = .retAddr n ∧ ax_in n [(0, 9)] := ho 40 _ _ rfl f2
  refine ⟨a, g, x, q1, q2, q3, q4, ?_, ?_, fun i hi => ?_⟩
  · obtain ⟨n, e, -, r, hr, r1, r2⟩ := o1
    cases e
    rw [List.mem_singleton.mp hr] at r2
    exact r2
  · obtain ⟨n, e, -, r, hr, r1, r2⟩ := o2
    cases e
    rw [List.mem_singleton.mp hr] at r2
    exact r2
  · obtain ⟨R, hR, hin⟩ := hr i hi
    rw [show i % ([[(0, 3), (4294967292, 4294967292)]] : List ax_R).length = 0 from Nat.mod_one i] at hR
    cases hR
    exact hin
/-- behind a call under the shape mb -/
theorem jq_b {h h' : am_H} (hJ : Jv h) (e2 : ax_I mb h') (e3 : ax_Fr mb h h') (hQ : jv_Q h') : Jv h' := by
  obtain ⟨hI, ⟨n, t1, t2, t3⟩, -⟩ := hJ
  have g0 : am_get h' 0 = am_get h 0 := e3.2.2.1 0 rfl
  refine ⟨jv_ms st_mb dm_mb0 dm_mb1 hI e2 e3, ⟨n, by rw [ax_fv_get g0]; exact t1, ?_, jv_X_get (e3.2.2.1 1 rfl) (e3.2.2.2.1 73 0 200 _ rfl) (ax_fv_get g0 16) (e3.2.2.2.2 66 12 _ 53 _ rfl rfl) (jv_E_b (fun i => jv_mx rfl dm_mb0 i e3) (fun i => jv_mx rfl dm_mb1 i e3) (kp_Fr kc_mb_4 e3) (kp_Fr kc_mb_17 e3)) t3⟩, hQ⟩
  rw [e3.2.2.2.2 66 12 _ 15 _ rfl rfl]
  exact t2
