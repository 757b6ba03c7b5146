/-! ===== most of the reference ===== -/
def mc_s0 : List ax_C := []
def mc_s1 : List ax_C := []
def mc_s2 : List ax_C := []
def mc_s3 : List ax_C := []
def mc_s4 : List ax_C := []
def mc_s5 : List ax_C := []
def mc_s6 : List ax_C := []
def mc_s7 : List ax_C := []
def mc_s8 : List ax_C := [.inl (0, 9, 0, [[(0, 3)]]), .inl (1, 73, 0, [[(44, 119)]]), .inr (12, [(0, 0, [(1, 60)]), (0, 0, [(0, 3)]), (0, 0, [(1, 4)]), (1, 67, []), (0, 0, [(0, 9)]), (1, 68, []), (0, 0, [(0, 6)]), (1, 69, []), (0, 0, [(0, 4)]), (1, 70, []), (0, 0, [(0, 6)]), (1, 71, []), (0, 0, [(0, 4)]), (1, 72, []), (1, 73, []), (0, 0, [(0, 200)]), (0, 0, [(0, 200)]), (1, 74, []), (0, 0, [(0, 60)]), (0, 0, [(0, 3)]), (0, 0, [(0, 4)]), (1, 75, []), (0, 0, [(0, 9)]), (1, 76, []), (0, 0, [(0, 6)]), (1, 77, []), (0, 0, [(0, 4)]), (1, 78, []), (0, 0, [(0, 6)]), (1, 79, []), (0, 0, [(0, 4)]), (1, 80, []), (1, 81, []), (1, 82, []), (1, 83, []), (1, 84, []), (0, 0, [(0, 2147483647), (2147483648, 4294967295)]), (0, 0, [(0, 255)]), (0, 0, [(0, 2147483647), (2147483648, 4294967295)]), (0, 0, [(0, 3)]), (0, 0, [(0, 9)]), (1, 85, []), (0, 0, [(0, 8)]), (1, 86, []), (0, 0, [(0, 8), (4294967292, 4294967292)]), (1, 87, []), (1, 88, []), (1, 89, []), (0, 0, [(0, 7), (2147483648, 4294967295)]), (0, 0, [(0, 60), (4294967292, 4294967292)]), (0, 0, [(0, 60), (4294967292, 4294967292)]), (1, 90, []), (1, 91, []), (0, 0, [(0, 2)]), (1, 92, [])]), .inl (0, 4, 0, [[(0, 9)]]), .inl (0, 45, 0, [[(0, 3)], [(0, 59)], [(0, 59)], [(0, 9)], [(0, 8)]]), .inl (0, 18, 0, [[(0, 3)], [(0, 59)], [(0, 59)]]), .inl (0, 16, 0, [[(0, 3)], [(0, 59)], [(0, 59)], [(0, 10)]]), .inl (0, 18, 0, [[(0, 7)]])]
def mc_s9 : List ax_C := [.inl (0, 8, 0, [[(0, 3)]]), .inl (0, 200, 0, [[(0, 126)]]), .inl (0, 5, 1, [[(0, 99)]]), .inl (0, 4, 1, [[(0, 9)]]), .inl (0, 45, 1, [[(0, 3)], [(0, 59)], [(0, 59)], [(0, 9)], [(0, 8)]]), .inl (0, 18, 1, [[(0, 3)], [(0, 59)], [(0, 59)]]), .inl (0, 16, 1, [[(0, 3)], [(0, 59)], [(0, 59)], [(0, 10)]]), .inl (0, 18, 1, [[(0, 7)]])]
def mc_s10 : List ax_C := [.inl (0, 8, 1, [[(0, 3)]]), .inl (0, 256, 1, [[(0, 9)]]), .inl (0, 256, 1, [[(0, 7), (4294967292, 4294967292)]]), .inl (2, 256, 1, [[(0, 1)]]), .inl (0, 60, 1, [[(0, 3), (4294967292, 4294967292)]]), .inl (0, 18, 1, [[(0, 59)], [(0, 3)]]), .inl (0, 8, 0, [[(0, 3), (4294967292, 4294967292)]]), .inl (0, 60, 1, [[(0, 3), (4294967292, 4294967292)]])]
def mc_s11 : List ax_C := [.inl (0, 256, 1, [[(0, 2147483647), (2147483648, 4294967295)]]), .inl (0, 62464, 1, [[(0, 2147483647), (2147483648, 4294967295)]]), .inl (0, 6, 1, [[(0, 3)]]), .inl (0, 4, 1, [[(0, 2147483647), (2147483648, 4294967295)]]), .inl (0, 40, 1, [[(0, 3)], [(0, 9)], [(0, 59)], [(0, 3)], [(0, 59)], [(0, 3)], [(0, 59)], [(0, 3)], [(0, 59)], [(0, 3)], [(0, 59)], [(0, 3)], [(0, 59)], [(0, 3)], [(0, 59)], [(0, 3)], [(0, 59)], [(0, 3)], [(0, 59)], [(0, 3)]])]
def mcs : ax_Sh := [mc_s0, mc_s1, mc_s2, mc_s3, mc_s4, mc_s5, mc_s6, mc_s7, mc_s8, mc_s9, mc_s10, mc_s11]
theorem st_mcs : ax_ss mcs = sbm := rfl
theorem dm_mcs0 : jv_all (jv_dm sb0 mcs) 96 = true := by decide +kernel
theorem dm_mcs1 : jv_all (jv_dm sb1 mcs) 96 = true := by decide +kernel
theorem kc_mcs_4 : kc mcs 4 = true := by decide +kernel
theorem kc_mcs_17 : kc mcs 17 = true := by decide +kernel
theorem rm_layCase : ax_ck ax_no (ax_evd (ax_tab mcs) 9 155 [.ref 66, .retAddr 0, .retAddr 4294967292] (ax_x0 0)) = true := by decide +kernel
theorem jm_layCase {h : am_H} (hI : ax_I mcs h) : ∃ h', am_EG mi_155 [.ref 66, .retAddr 0, .retAddr 4294967292] h (none, h') ∧ ax_I mcs h' ∧ ax_Fr mcs h h' := by
  obtain ⟨en, hp, ρ', -, -, v, h', q1, q2, q3, q4⟩ := ax_run (ax_tab_ok mcs) rm_layCase (ρ := fun _ => 0) (vs := [.ref 66, .retAddr 0, .retAddr 4294967292]) (ax_rs.c ax_rvr (ax_rs.c (ax_rvi (by decide) (ax_vl_c (by decide))) (ax_rs.c (ax_rvi (by decide) (ax_vl_c (by decide))) trivial))) (ax_x0_ok (fun _ => by decide) hI)
  have hv : v = none := by
    unfold ax_no at hp
    split at hp
    · rename_i he
      rw [he] at q2
      cases v with
      | none => rfl
      | some v => exact q2.elim
    · cases hp
  subst hv
  exact ⟨h', q1, q3.2.2.2.2, q4⟩
theorem jm_fld {vs : List Value} {fs : List ax_F} {k : Nat} {R : ax_R} {w : Nat} (hl : vs.length = fs.length) (h3 : ∀ (k : Nat) (f : ax_F) (v : Value), fs[k]? = some f → vs[k]? = some v → ax_fok f v) (hk : fs[k]? = some (0, w, R)) : ∃ n, vs[k]? = some (.retAddr n) ∧ ax_in n R := by
  have hlt : k < fs.length := (List.getElem?_eq_some_iff.mp hk).1
  have hv : vs[k]? = some vs[k] := List.getElem?_eq_getElem (by omega)
  have := h3 k _ _ hk hv
  unfold ax_fok at this
  rw [if_pos rfl] at this
  obtain ⟨n, e, hn⟩ := this
  exact ⟨n, by rw [hv, e], hn⟩
theorem jm_ref {vs : List Value} {fs : List ax_F} {k b : Nat} {R : ax_R} (hl : vs.length = fs.length) (h3 : ∀ (k : Nat) (f : ax_F) (v : Value), fs[k]? = some f → vs[k]? = some v → ax_fok f v) (hk : fs[k]? = some (1, b, R)) : vs[k]? = some (.ref b) := by
  have hlt : k < fs.length := (List.getElem?_eq_some_iff.mp hk).1
  have hv : vs[k]? = some vs[k] := List.getElem?_eq_getElem (by omega)
  have := h3 k _ _ hk hv
  unfold ax_fok at this
  rw [if_neg (fun q : (1 : Nat) = 0 => Nat.noConfusion q)] at this
  rw [hv, this]
theorem jm_in1 {v lo hi : Nat} (h : ax_in v [(lo, hi)]) : lo ≤ v ∧ v ≤ hi := by
  obtain ⟨-, r, hr, h1, h2⟩ := h
  rw [List.mem_singleton] at hr
  subst hr
  exact ⟨h1, h2⟩
theorem jm_ex {h : am_H} (hI : ax_I mcs h) : ∃ c1 cm Len g n, jm_H h c1 cm Len g n ∧ 1 ≤ Len ∧ Len ≤ 60 ∧ g < 4 ∧ 1 ≤ n ∧ n ≤ 4 ∧ ax_fv h 66 0 = some (.retAddr Len) ∧ ax_fv h 66 2 = some (.retAddr n) := by
  obtain ⟨vs, hv, hl, h3⟩ := hI.obj (a := 66) rfl
  obtain ⟨Len, e0, i0⟩ := jm_fld (k := 0) hl h3 rfl
  obtain ⟨g, e1, i1⟩ := jm_fld (k := 1) hl h3 rfl
  obtain ⟨n, e2, i2⟩ := jm_fld (k := 2) hl h3 rfl
  have r32 := jm_ref (k := 32) hl h3 rfl
  have r46 := jm_ref (k := 46) hl h3 rfl
  obtain ⟨c1, w1, -⟩ := hI.row (a := 81) rfl
  obtain ⟨cm, w2, -⟩ := hI.row (a := 88) rfl
  have i0 := jm_in1 i0
  have i1 := jm_in1 i1
  have i2 := jm_in1 i2
  refine ⟨c1, cm, Len, g, n, ⟨vs, hv, e0, e1, e2, r32, r46, w1, w2⟩, i0.1, i0.2, by omega, i2.1, i2.2, ?_, ?_⟩
  · unfold ax_fv; rw [hv]; exact e0
  · unfold ax_fv; rw [hv]; exact e2
theorem jm_M_I {h : am_H} {c1 cm Len g n : Nat} (hH : jm_H h c1 cm Len g n) (hI : ax_I mcs h) (cf : Nat) : ax_I mcs (jm_M h cf) ∧ ax_Fr mcs h (jm_M h cf) := by
  obtain ⟨vs, q66, f0, f1, f2, f32, f46, a81, a88⟩ := hH
  have gt := am_get_upd (e := .inl (0, 256, cf)) a88
  have ne : ∀ a, a ≠ 88 → am_get (jm_M h cf) a = am_get h a := fun a ha => by unfold jm_M; rw [gt, if_neg ha]
  have n66 := ne 66 (by decide)
  refine ⟨fun a s hs => ?_, ?_, ?_, fun a ha => ?_, fun a kd n cols ha => ?_, fun a ci fs k R ha hk => ?_⟩
  · by_cases e : a = 88
    · subst e
      have : ax_at mcs 88 = some (.inl (0, 256, 1, [ax_top])) := rfl
      rw [this] at hs
      cases hs
      refine ⟨.inl (0, 256, cf), by unfold jm_M; rw [gt, if_pos rfl], rfl, rfl, fun i hi => ⟨ax_top, ?_, ?_⟩⟩
      · show [ax_top][i % 1]? = _
        rw [Nat.mod_one]
        rfl
      · have hv := am_ag_lt cf i
        refine ⟨hv, ?_⟩
        by_cases q : am_ag cf i ≤ 2147483647
        · exact ⟨(0, 2147483647), by unfold ax_top; simp, Nat.zero_le _, q⟩
        · exact ⟨(2147483648, 4294967295), by unfold ax_top; simp, by omega, by omega⟩
    · rw [ne a e]
      exact hI a s hs
  · unfold jm_M am_upd; split <;> rfl
  · unfold jm_M am_upd; split <;> rfl
  · refine ne a fun e => ?_
    subst e
    have : ax_at mcs 88 = some (.inl (0, 256, 1, [ax_top])) := rfl
    rw [this] at ha
    cases ha
  · refine ne a fun e => ?_
    subst e
    have : ax_at mcs 88 = some (.inl (0, 256, 1, [ax_top])) := rfl
    rw [this] at ha
    injection ha with ha
    injection ha with ha
    injection ha with _ ha
    injection ha with _ ha
    injection ha with ha _
    cases ha
  · refine ax_fv_get (ne a fun e => ?_) k
    subst e
    have : ax_at mcs 88 = some (.inl (0, 256, 1, [ax_top])) := rfl
    rw [this] at ha
    cases ha
theorem jm_in_t {h : am_H} {x hi : Nat} (hx : x < 4294967296) (hh : hi < 2147483648) (hc : x ≤ hi) : am_EG mi_133 [.retAddr x, .retAddr 0, .retAddr hi] h (some (.retAddr 1), h) := by
  refine am_enter (n := 0) tk_133.2.1 (by simp [Value.category]) (Nat.le_of_ble_eq_true rfl) ?_
  show am_Good mi_133 0 [some (.retAddr x), some (.retAddr 0), some (.retAddr hi)] [] h _
  refine g_iload_n (i := 0) dd_133_0 rfl ?_
  refine g_iload_n (i := 1) dd_133_1 rfl ?_
  refine g_icmp_lt_f (t := 14) dd_133_2 (by decide) (tk_lt_f (by omega)) ?_
  refine g_iload_n (i := 0) dd_133_5 rfl ?_
  refine g_iload_n (i := 2) dd_133_6 rfl ?_
  refine g_icmp_gt_f (t := 14) dd_133_7 (by decide) (tk_gt_f (by omega)) ?_
  refine g_iconst dd_133_10 ic_1 ?_
  refine g_goto (t := 15) dd_133_11 (by decide) ?_
  exact g_zreturn rfl (by first | decide | omega) dd_133_15
theorem jm_in_f {h : am_H} {x hi : Nat} (hx : x < 4294967296) (hh : hi < 2147483648) (hc : ¬ x ≤ hi) (hq : x < 2147483648) : am_EG mi_133 [.retAddr x, .retAddr 0, .retAddr hi] h (some (.retAddr 0), h) := by
  refine am_enter (n := 0) tk_133.2.1 (by simp [Value.category]) (Nat.le_of_ble_eq_true rfl) ?_
  show am_Good mi_133 0 [some (.retAddr x), some (.retAddr 0), some (.retAddr hi)] [] h _
  refine g_iload_n (i := 0) dd_133_0 rfl ?_
  refine g_iload_n (i := 1) dd_133_1 rfl ?_
  refine g_icmp_lt_f (t := 14) dd_133_2 (by decide) (tk_lt_f (by omega)) ?_
  refine g_iload_n (i := 0) dd_133_5 rfl ?_
  refine g_iload_n (i := 2) dd_133_6 rfl ?_
  refine g_icmp_gt_t (t := 14) dd_133_7 (by decide) (tk_gt_t (by omega)) ?_
  refine g_iconst dd_133_14 ic_0 ?_
  exact g_zreturn rfl (by first | decide | omega) dd_133_15
theorem jm_in_g {h : am_H} {x hi : Nat} (hx : x < 4294967296) (hh : hi < 2147483648) (hq : ¬ x < 2147483648) : am_EG mi_133 [.retAddr x, .retAddr 0, .retAddr hi] h (some (.retAddr 0), h) := by
  refine am_enter (n := 0) tk_133.2.1 (by simp [Value.category]) (Nat.le_of_ble_eq_true rfl) ?_
  show am_Good mi_133 0 [some (.retAddr x), some (.retAddr 0), some (.retAddr hi)] [] h _
  refine g_iload_n (i := 0) dd_133_0 rfl ?_
  refine g_iload_n (i := 1) dd_133_1 rfl ?_
  refine g_icmp_lt_t (t := 14) dd_133_2 (by decide) (tk_lt_t (by omega)) ?_
  refine g_iconst dd_133_14 ic_0 ?_
  exact g_zreturn rfl (by first | decide | omega) dd_133_15
theorem jm_in_0 {h : am_H} {x hi : Nat} (hx : x < 4294967296) (hh : hi < 2147483648) (hc : ¬ x ≤ hi) : am_EG mi_133 [.retAddr x, .retAddr 0, .retAddr hi] h (some (.retAddr 0), h) := by
  by_cases hq : x < 2147483648
  · exact jm_in_f hx hh hc hq
  · exact jm_in_g hx hh hq
theorem jm_is_s1 {h : am_H} {c1 cm Len g n : Nat} (hH : jm_H h c1 cm Len g n) (hL1 : 1 ≤ Len) (hL : Len ≤ 60) (hl : g < 4) (hn1 : 1 ≤ n) (hn : n ≤ 4) {x : Nat} (hx : x < 4294967296) (hc : x < n) : am_EG mi_153 [.ref 66, .retAddr x] h (some (.retAddr 1), h) := by
  refine am_enter (n := 0) tk_153.2.1 (by simp [Value.category]) (Nat.le_of_ble_eq_true rfl) ?_
  show am_Good mi_153 0 [some (.ref 66), some (.retAddr x)] [] h _
  have hM := hH
  obtain ⟨vs, q66, f0, f1, f2, f32, f46, a81, a88⟩ := hM
  refine g_iload_n (i := 1) dd_153_0 rfl ?_
  refine g_iconst dd_153_1 ic_0 ?_
  refine g_aload_n (i := 0) dd_153_2 rfl ?_
  refine g_getfield (k := 2) am_ck12 (by decide) (Or.inl w_937) dd_153_3 q66 f2 ?_
  refine g_iconst dd_153_6 ic_1 ?_
  refine e_isub (v := n - 1) dd_153_7 (by omega) ?_
  refine g_static (M' := mi_133) (n := 3) (as := [.retAddr x, .retAddr 0, .retAddr (n - 1)]) (st := []) (r1 := (some (.retAddr 1), h)) w_1106 w_1107 ⟨lk_133.1, lk_133.2.1, lk_133.2.2, by decide, by decide⟩ rfl (by simp [Value.category]) dd_153_8 (jm_in_t hx (by omega) (by omega)) ?_
  show am_Good mi_153 11 [some (.ref 66), some (.retAddr x)] [.retAddr 1] h _
  exact g_zreturn rfl (by first | decide | omega) dd_153_11
theorem jm_is_s0 {h : am_H} {c1 cm Len g n : Nat} (hH : jm_H h c1 cm Len g n) (hL1 : 1 ≤ Len) (hL : Len ≤ 60) (hl : g < 4) (hn1 : 1 ≤ n) (hn : n ≤ 4) {x : Nat} (hx : x < 4294967296) (hc : ¬ x < n) : am_EG mi_153 [.ref 66, .retAddr x] h (some (.retAddr 0), h) := by
  refine am_enter (n := 0) tk_153.2.1 (by simp [Value.category]) (Nat.le_of_ble_eq_true rfl) ?_
  show am_Good mi_153 0 [some (.ref 66), some (.retAddr x)] [] h _
  have hM := hH
  obtain ⟨vs, q66, f0, f1, f2, f32, f46, a81, a88⟩ := hM
  refine g_iload_n (i := 1) dd_153_0 rfl ?_
  refine g_iconst dd_153_1 ic_0 ?_
  refine g_aload_n (i := 0) dd_153_2 rfl ?_
  refine g_getfield (k := 2) am_ck12 (by decide) (Or.inl w_937) dd_153_3 q66 f2 ?_
  refine g_iconst dd_153_6 ic_1 ?_
  refine e_isub (v := n - 1) dd_153_7 (by omega) ?_
  refine g_static (M' := mi_133) (n := 3) (as := [.retAddr x, .retAddr 0, .retAddr (n - 1)]) (st := []) (r1 := (some (.retAddr 0), h)) w_1106 w_1107 ⟨lk_133.1, lk_133.2.1, lk_133.2.2, by decide, by decide⟩ rfl (by simp [Value.category]) dd_153_8 (jm_in_0 hx (by omega) (by omega)) ?_
  show am_Good mi_153 11 [some (.ref 66), some (.retAddr x)] [.retAddr 0] h _
  exact g_zreturn rfl (by first | decide | omega) dd_153_11
theorem jm_is_m1 {h : am_H} {c1 cm Len g n : Nat} (hH : jm_H h c1 cm Len g n) (hL1 : 1 ≤ Len) (hL : Len ≤ 60) (hl : g < 4) (hn1 : 1 ≤ n) (hn : n ≤ 4) {x : Nat} (hx : x < 4294967296) (hc : x < Len) : am_EG mi_154 [.ref 66, .retAddr x] h (some (.retAddr 1), h) := by
  refine am_enter (n := 0) tk_154.2.1 (by simp [Value.category]) (Nat.le_of_ble_eq_true rfl) ?_
  show am_Good mi_154 0 [some (.ref 66), some (.retAddr x)] [] h _
  have hM := hH
  obtain ⟨vs, q66, f0, f1, f2, f32, f46, a81, a88⟩ := hM
  refine g_iload_n (i := 1) dd_154_0 rfl ?_
  refine g_iconst dd_154_1 ic_0 ?_
  refine g_aload_n (i := 0) dd_154_2 rfl ?_
  refine g_getfield (k := 0) am_ck12 (by decide) (Or.inl w_935) dd_154_3 q66 f0 ?_
  refine g_iconst dd_154_6 ic_1 ?_
  refine e_isub (v := Len - 1) dd_154_7 (by omega) ?_
  refine g_static (M' := mi_133) (n := 3) (as := [.retAddr x, .retAddr 0, .retAddr (Len - 1)]) (st := []) (r1 := (some (.retAddr 1), h)) w_1106 w_1107 ⟨lk_133.1, lk_133.2.1, lk_133.2.2, by decide, by decide⟩ rfl (by simp [Value.category]) dd_154_8 (jm_in_t hx (by omega) (by omega)) ?_
  show am_Good mi_154 11 [some (.ref 66), some (.retAddr x)] [.retAddr 1] h _
  exact g_zreturn rfl (by first | decide | omega) dd_154_11
theorem jm_is_m0 {h : am_H} {c1 cm Len g n : Nat} (hH : jm_H h c1 cm Len g n) (hL1 : 1 ≤ Len) (hL : Len ≤ 60) (hl : g < 4) (hn1 : 1 ≤ n) (hn : n ≤ 4) {x : Nat} (hx : x < 4294967296) (hc : ¬ x < Len) : am_EG mi_154 [.ref 66, .retAddr x] h (some (.retAddr 0), h) := by
  refine am_enter (n := 0) tk_154.2.1 (by simp [Value.category]) (Nat.le_of_ble_eq_true rfl) ?_
  show am_Good mi_154 0 [some (.ref 66), some (.retAddr x)] [] h _
  have hM := hH
  obtain ⟨vs, q66, f0, f1, f2, f32, f46, a81, a88⟩ := hM
  refine g_iload_n (i := 1) dd_154_0 rfl ?_
  refine g_iconst dd_154_1 ic_0 ?_
  refine g_aload_n (i := 0) dd_154_2 rfl ?_
  refine g_getfield (k := 0) am_ck12 (by decide) (Or.inl w_935) dd_154_3 q66 f0 ?_
  refine g_iconst dd_154_6 ic_1 ?_
  refine e_isub (v := Len - 1) dd_154_7 (by omega) ?_
  refine g_static (M' := mi_133) (n := 3) (as := [.retAddr x, .retAddr 0, .retAddr (Len - 1)]) (st := []) (r1 := (some (.retAddr 0), h)) w_1106 w_1107 ⟨lk_133.1, lk_133.2.1, lk_133.2.2, by decide, by decide⟩ rfl (by simp [Value.category]) dd_154_8 (jm_in_0 hx (by omega) (by omega)) ?_
  show am_Good mi_154 11 [some (.ref 66), some (.retAddr x)] [.retAddr 0] h _
  exact g_zreturn rfl (by first | decide | omega) dd_154_11
theorem jm_mo_s {h : am_H} {c1 cm Len g n : Nat} (hH : jm_H h c1 cm Len g n) (hL1 : 1 ≤ Len) (hL : Len ≤ 60) (hl : g < 4) (hn1 : 1 ≤ n) (hn : n ≤ 4) {x y z : Nat} (hx : x < 4294967296) (hy : y < 4294967296) (hz : z < 4294967296) (hs : ¬ x < n) : am_EG mi_185 [.ref 66, .retAddr x, .retAddr y, .retAddr z] h (some (.retAddr 4294967295), h) := by
  refine am_enter (n := 5) tk_185.2.1 (by simp [Value.category]) (Nat.le_of_ble_eq_true rfl) ?_
  show am_Good mi_185 0 [some (.ref 66), some (.retAddr x), some (.retAddr y), some (.retAddr z), none, none, none, none, none] [] h _
  have hM := hH
  obtain ⟨vs, q66, f0, f1, f2, f32, f46, a81, a88⟩ := hM
  refine g_aload_n (i := 0) dd_185_0 rfl ?_
  refine g_iload_n (i := 1) dd_185_1 rfl ?_
  refine g_virtual (M' := mi_153) (n := 1) (ci := 12) (b := 66) (as := [.retAddr x]) (st := []) (r1 := (some (.retAddr 0), h)) w_1184 w_1186 ps_153 ⟨lk_153.1, lk_153.2.1, lk_153.2.2, by decide, by decide⟩ rfl q66 rfl (by simp [Value.category]) dd_185_2 (jm_is_s0 hH hL1 hL hl hn1 hn hx hs) ?_
  show am_Good mi_185 5 [some (.ref 66), some (.retAddr x), some (.retAddr y), some (.retAddr z), none, none, none, none, none] [.retAddr 0] h _
  refine g_if_eq_t (t := 25) dd_185_5 (by decide) (by decide) ?_
  refine g_iconst dd_185_25 ic_m1 ?_
  exact g_ireturn rfl dd_185_26
theorem jm_mo_m {h : am_H} {c1 cm Len g n : Nat} (hH : jm_H h c1 cm Len g n) (hL1 : 1 ≤ Len) (hL : Len ≤ 60) (hl : g < 4) (hn1 : 1 ≤ n) (hn : n ≤ 4) {x y z : Nat} (hx : x < 4294967296) (hy : y < 4294967296) (hz : z < 4294967296) (hs : x < n) (hm : ¬ y < Len) : am_EG mi_185 [.ref 66, .retAddr x, .retAddr y, .retAddr z] h (some (.retAddr 4294967295), h) := by
  refine am_enter (n := 5) tk_185.2.1 (by simp [Value.category]) (Nat.le_of_ble_eq_true rfl) ?_
  show am_Good mi_185 0 [some (.ref 66), some (.retAddr x), some (.retAddr y), some (.retAddr z), none, none, none, none, none] [] h _
  have hM := hH
  obtain ⟨vs, q66, f0, f1, f2, f32, f46, a81, a88⟩ := hM
  refine g_aload_n (i := 0) dd_185_0 rfl ?_
  refine g_iload_n (i := 1) dd_185_1 rfl ?_
  refine g_virtual (M' := mi_153) (n := 1) (ci := 12) (b := 66) (as := [.retAddr x]) (st := []) (r1 := (some (.retAddr 1), h)) w_1184 w_1186 ps_153 ⟨lk_153.1, lk_153.2.1, lk_153.2.2, by decide, by decide⟩ rfl q66 rfl (by simp [Value.category]) dd_185_2 (jm_is_s1 hH hL1 hL hl hn1 hn hx hs) ?_
  show am_Good mi_185 5 [some (.ref 66), some (.retAddr x), some (.retAddr y), some (.retAddr z), none, none, none, none, none] [.retAddr 1] h _
  refine g_if_eq_f (t := 25) dd_185_5 (by decide) (by decide) ?_
  refine g_aload_n (i := 0) dd_185_8 rfl ?_
  refine g_iload_n (i := 2) dd_185_9 rfl ?_
  refine g_virtual (M' := mi_154) (n := 1) (ci := 12) (b := 66) (as := [.retAddr y]) (st := []) (r1 := (some (.retAddr 0), h)) w_1188 w_1190 ps_154 ⟨lk_154.1, lk_154.2.1, lk_154.2.2, by decide, by decide⟩ rfl q66 rfl (by simp [Value.category]) dd_185_10 (jm_is_m0 hH hL1 hL hl hn1 hn hy hm) ?_
  show am_Good mi_185 13 [some (.ref 66), some (.retAddr x), some (.retAddr y), some (.retAddr z), none, none, none, none, none] [.retAddr 0] h _
  refine g_if_eq_t (t := 25) dd_185_13 (by decide) (by decide) ?_
  refine g_iconst dd_185_25 ic_m1 ?_
  exact g_ireturn rfl dd_185_26
theorem jm_mo_i {h : am_H} {c1 cm Len g n : Nat} (hH : jm_H h c1 cm Len g n) (hL1 : 1 ≤ Len) (hL : Len ≤ 60) (hl : g < 4) (hn1 : 1 ≤ n) (hn : n ≤ 4) {x y z : Nat} (hx : x < 4294967296) (hy : y < 4294967296) (hz : z < 4294967296) (hs : x < n) (hm : y < Len) (hi : ¬ z ≤ 2) : am_EG mi_185 [.ref 66, .retAddr x, .retAddr y, .retAddr z] h (some (.retAddr 4294967295), h) := by
  refine am_enter (n := 5) tk_185.2.1 (by simp [Value.category]) (Nat.le_of_ble_eq_true rfl) ?_
  show am_Good mi_185 0 [some (.ref 66), some (.retAddr x), some (.retAddr y), some (.retAddr z), none, none, none, none, none] [] h _
  have hM := hH
  obtain ⟨vs, q66, f0, f1, f2, f32, f46, a81, a88⟩ := hM
  refine g_aload_n (i := 0) dd_185_0 rfl ?_
  refine g_iload_n (i := 1) dd_185_1 rfl ?_
  refine g_virtual (M' := mi_153) (n := 1) (ci := 12) (b := 66) (as := [.retAddr x]) (st := []) (r1 := (some (.retAddr 1), h)) w_1184 w_1186 ps_153 ⟨lk_153.1, lk_153.2.1, lk_153.2.2, by decide, by decide⟩ rfl q66 rfl (by simp [Value.category]) dd_185_2 (jm_is_s1 hH hL1 hL hl hn1 hn hx hs) ?_
  show am_Good mi_185 5 [some (.ref 66), some (.retAddr x), some (.retAddr y), some (.retAddr z), none, none, none, none, none] [.retAddr 1] h _
  refine g_if_eq_f (t := 25) dd_185_5 (by decide) (by decide) ?_
  refine g_aload_n (i := 0) dd_185_8 rfl ?_
  refine g_iload_n (i := 2) dd_185_9 rfl ?_
  refine g_virtual (M' := mi_154) (n := 1) (ci := 12) (b := 66) (as := [.retAddr y]) (st := []) (r1 := (some (.retAddr 1), h)) w_1188 w_1190 ps_154 ⟨lk_154.1, lk_154.2.1, lk_154.2.2, by decide, by decide⟩ rfl q66 rfl (by simp [Value.category]) dd_185_10 (jm_is_m1 hH hL1 hL hl hn1 hn hy hm) ?_
  show am_Good mi_185 13 [some (.ref 66), some (.retAddr x), some (.retAddr y), some (.retAddr z), none, none, none, none, none] [.retAddr 1] h _
  refine g_if_eq_f (t := 25) dd_185_13 (by decide) (by decide) ?_
  refine g_iload_n (i := 3) dd_185_16 rfl ?_
  refine g_iconst dd_185_17 ic_0 ?_
  refine g_iconst dd_185_18 ic_2 ?_
  refine g_static (M' := mi_133) (n := 3) (as := [.retAddr z, .retAddr 0, .retAddr 2]) (st := []) (r1 := (some (.retAddr 0), h)) w_1106 w_1107 ⟨lk_133.1, lk_133.2.1, lk_133.2.2, by decide, by decide⟩ rfl (by simp [Value.category]) dd_185_19 (jm_in_0 hz (by omega) hi) ?_
  show am_Good mi_185 22 [some (.ref 66), some (.retAddr x), some (.retAddr y), some (.retAddr z), none, none, none, none, none] [.retAddr 0] h _
  refine g_if_ne_f (t := 27) dd_185_22 (by decide) (by decide) ?_
  refine g_iconst dd_185_25 ic_m1 ?_
  exact g_ireturn rfl dd_185_26
theorem jm_mo_c {h : am_H} {c1 cm Len g n : Nat} (hH : jm_H h c1 cm Len g n) (hL1 : 1 ≤ Len) (hL : Len ≤ 60) (hl : g < 4) (hn1 : 1 ≤ n) (hn : n ≤ 4) {x y z : Nat} (hx : x < 4294967296) (hy : y < 4294967296) (hz : z < 4294967296) {h1 : am_H} {r : am_R} (hs : x < n) (hm : y < Len) (hi : z ≤ 2) (hc : am_EG mi_155 [.ref 66, .retAddr 0, .retAddr 4294967292] h (none, h1)) (hg : am_Good mi_185 34 [some (.ref 66), some (.retAddr x), some (.retAddr y), some (.retAddr z), none, none, none, none, none] [] h1 r) : am_EG mi_185 [.ref 66, .retAddr x, .retAddr y, .retAddr z] h r := by
  refine am_enter (n := 5) tk_185.2.1 (by simp [Value.category]) (Nat.le_of_ble_eq_true rfl) ?_
  show am_Good mi_185 0 [some (.ref 66), some (.retAddr x), some (.retAddr y), some (.retAddr z), none, none, none, none, none] [] h _
  have hM := hH
  obtain ⟨vs, q66, f0, f1, f2, f32, f46, a81, a88⟩ := hM
  refine g_aload_n (i := 0) dd_185_0 rfl ?_
  refine g_iload_n (i := 1) dd_185_1 rfl ?_
  refine g_virtual (M' := mi_153) (n := 1) (ci := 12) (b := 66) (as := [.retAddr x]) (st := []) (r1 := (some (.retAddr 1), h)) w_1184 w_1186 ps_153 ⟨lk_153.1, lk_153.2.1, lk_153.2.2, by decide, by decide⟩ rfl q66 rfl (by simp [Value.category]) dd_185_2 (jm_is_s1 hH hL1 hL hl hn1 hn hx hs) ?_
  show am_Good mi_185 5 [some (.ref 66), some (.retAddr x), some (.retAddr y), some (.retAddr z), none, none, none, none, none] [.retAddr 1] h _
  refine g_if_eq_f (t := 25) dd_185_5 (by decide) (by decide) ?_
  refine g_aload_n (i := 0) dd_185_8 rfl ?_
  refine g_iload_n (i := 2) dd_185_9 rfl ?_
  refine g_virtual (M' := mi_154) (n := 1) (ci := 12) (b := 66) (as := [.retAddr y]) (st := []) (r1 := (some (.retAddr 1), h)) w_1188 w_1190 ps_154 ⟨lk_154.1, lk_154.2.1, lk_154.2.2, by decide, by decide⟩ rfl q66 rfl (by simp [Value.category]) dd_185_10 (jm_is_m1 hH hL1 hL hl hn1 hn hy hm) ?_
  show am_Good mi_185 13 [some (.ref 66), some (.retAddr x), some (.retAddr y), some (.retAddr z), none, none, none, none, none] [.retAddr 1] h _
  refine g_if_eq_f (t := 25) dd_185_13 (by decide) (by decide) ?_
  refine g_iload_n (i := 3) dd_185_16 rfl ?_
  refine g_iconst dd_185_17 ic_0 ?_
  refine g_iconst dd_185_18 ic_2 ?_
  refine g_static (M' := mi_133) (n := 3) (as := [.retAddr z, .retAddr 0, .retAddr 2]) (st := []) (r1 := (some (.retAddr 1), h)) w_1106 w_1107 ⟨lk_133.1, lk_133.2.1, lk_133.2.2, by decide, by decide⟩ rfl (by simp [Value.category]) dd_185_19 (jm_in_t hz (by omega) hi) ?_
  show am_Good mi_185 22 [some (.ref 66), some (.retAddr x), some (.retAddr y), some (.retAddr z), none, none, none, none, none] [.retAddr 1] h _
  refine g_if_ne_t (t := 27) dd_185_22 (by decide) (by decide) ?_
  refine g_aload_n (i := 0) dd_185_27 rfl ?_
  refine g_iconst dd_185_28 ic_0 ?_
  refine g_bipush dd_185_29 bi_m4 ?_
  refine g_virtual (M' := mi_155) (n := 2) (ci := 12) (b := 66) (as := [.retAddr 0, .retAddr 4294967292]) (st := []) (r1 := (none, h1)) w_1192 w_1194 ps_155 ⟨lk_155.1, lk_155.2.1, lk_155.2.2, by decide, by decide⟩ rfl q66 rfl (by simp [Value.category]) dd_185_31 (hc) ?_
  show am_Good mi_185 34 [some (.ref 66), some (.retAddr x), some (.retAddr y), some (.retAddr z), none, none, none, none, none] [] h1 _
  exact hg
theorem jm_mo_l {r : am_R} {h : am_H} {c1 cm Len g n : Nat} (hH : jm_H h c1 cm Len g n) (hL1 : 1 ≤ Len) (hL : Len ≤ 60) (hl : g < 4) (hn1 : 1 ≤ n) (hn : n ≤ 4) {x y z : Nat} {h1 : am_H} (hc : am_EG mi_172 [.ref 66] h (none, h1)) (hg : am_Good mi_185 38 [some (.ref 66), some (.retAddr x), some (.retAddr y), some (.retAddr z), none, none, none, none, none] [] h1 r) : am_Good mi_185 34 [some (.ref 66), some (.retAddr x), some (.retAddr y), some (.retAddr z), none, none, none, none, none] [] h r := by
  have hM := hH
  obtain ⟨vs, q66, f0, f1, f2, f32, f46, a81, a88⟩ := hM
  refine g_aload_n (i := 0) dd_185_34 rfl ?_
  refine g_virtual (M' := mi_172) (n := 0) (ci := 12) (b := 66) (as := []) (st := []) (r1 := (none, h1)) w_1258 w_1260 ps_172 ⟨lk_172.1, lk_172.2.1, lk_172.2.2, by decide, by decide⟩ rfl q66 rfl (by simp [Value.category]) dd_185_35 (hc) ?_
  show am_Good mi_185 38 [some (.ref 66), some (.retAddr x), some (.retAddr y), some (.retAddr z), none, none, none, none, none] [] h1 _
  exact hg
theorem jm_mo_0 {h : am_H} {c1 cm Len g n : Nat} (hH : jm_H h c1 cm Len g n) (hL1 : 1 ≤ Len) (hL : Len ≤ 60) (hl : g < 4) (hn1 : 1 ≤ n) (hn : n ≤ 4) {x y z : Nat} (hs : x < n) (hm : y < Len) (hi : z = 0) : am_Good mi_185 38 [some (.ref 66), some (.retAddr x), some (.retAddr y), some (.retAddr z), none, none, none, none, none] [] h (some (.retAddr (am_ag cm (4 * y + x))), h) := by
  have hM := hH
  obtain ⟨vs, q66, f0, f1, f2, f32, f46, a81, a88⟩ := hM
  refine g_aload_n (i := 0) dd_185_38 rfl ?_
  refine g_getfield (k := 46) am_ck12 (by decide) (Or.inl w_981) dd_185_39 q66 f46 ?_
  refine g_iconst dd_185_42 ic_4 ?_
  refine g_iload_n (i := 2) dd_185_43 rfl ?_
  refine e_imul (v := 4 * y) dd_185_44 (by omega) ?_
  refine g_iload_n (i := 1) dd_185_45 rfl ?_
  refine e_iadd (v := (4 * y) + x) dd_185_46 (by omega) ?_
  refine g_iaload dd_185_47 a88 (by omega) (by decide) ?_
  have hl_1 := am_ag_lt cm ((4 * y) + x)
  refine g_istore dd_185_48 (am_nlb_ok rfl) (by decide) ?_
  refine g_iload_n (i := 3) dd_185_50 rfl ?_
  refine g_if_ne_f (t := 57) dd_185_51 (by decide) (tk_ne_f (by omega)) ?_
  refine g_iload dd_185_54 rfl ?_
  exact g_ireturn rfl dd_185_56
theorem jm_mo_1 {r : am_R} {h : am_H} {c1 cm Len g n : Nat} (hH : jm_H h c1 cm Len g n) (hL1 : 1 ≤ Len) (hL : Len ≤ 60) (hl : g < 4) (hn1 : 1 ≤ n) (hn : n ≤ 4) {x y z : Nat} (hs : x < n) (hm : y < Len) (hi : z ≤ 2) (hz : z ≠ 0) (hg : am_Good mi_185 67 [some (.ref 66), some (.retAddr x), some (.retAddr y), some (.retAddr z), some (.retAddr (am_ag cm (4 * y + x))), some (.retAddr 0), some (.retAddr 4294967292), some (.retAddr y), none] [] h r) : am_Good mi_185 38 [some (.ref 66), some (.retAddr x), some (.retAddr y), some (.retAddr z), none, none, none, none, none] [] h r := by
  have hM := hH
  obtain ⟨vs, q66, f0, f1, f2, f32, f46, a81, a88⟩ := hM
  refine g_aload_n (i := 0) dd_185_38 rfl ?_
  refine g_getfield (k := 46) am_ck12 (by decide) (Or.inl w_981) dd_185_39 q66 f46 ?_
  refine g_iconst dd_185_42 ic_4 ?_
  refine g_iload_n (i := 2) dd_185_43 rfl ?_
  refine e_imul (v := 4 * y) dd_185_44 (by omega) ?_
  refine g_iload_n (i := 1) dd_185_45 rfl ?_
  refine e_iadd (v := (4 * y) + x) dd_185_46 (by omega) ?_
  refine g_iaload dd_185_47 a88 (by omega) (by decide) ?_
  have hl_1 := am_ag_lt cm ((4 * y) + x)
  refine g_istore dd_185_48 (am_nlb_ok rfl) (by decide) ?_
  refine g_iload_n (i := 3) dd_185_50 rfl ?_
  refine g_if_ne_t (t := 57) dd_185_51 (by decide) (tk_ne_t (by omega)) ?_
  refine g_iconst dd_185_57 ic_0 ?_
  refine g_istore dd_185_58 (am_nlb_ok rfl) (by decide) ?_
  refine g_bipush dd_185_60 bi_m4 ?_
  refine g_istore dd_185_62 (am_nlb_ok rfl) (by decide) ?_
  refine g_iload_n (i := 2) dd_185_64 rfl ?_
  refine g_istore dd_185_65 (am_nlb_ok rfl) (by decide) ?_
  exact hg
theorem jm_mu_n {r : am_R} {h : am_H} {c1 cm Len g n : Nat} (hH : jm_H h c1 cm Len g n) (hL1 : 1 ≤ Len) (hL : Len ≤ 60) (hl : g < 4) (hn1 : 1 ≤ n) (hn : n ≤ 4) {x y z al su mi u : Nat} {v8 : Option Value} (hs : x < n) (hal : al < 4294967296) (hsu : su < 4294967296) {to by_ su2 : Nat} (hu : u < Len) (hto : jm_bf (jm_by c1 cm g u) x n = to) (hby : jm_by c1 cm g u to = by_) (hto4 : to = 4294967292) (hs2 : (su + am_ag c1 (64 * x + u)) % 4294967296 = su2) (hg : am_Good mi_185 67 [some (.ref 66), some (.retAddr x), some (.retAddr y), some (.retAddr z), some (.retAddr al), some (.retAddr su2), some (.retAddr mi), some (.retAddr (u + 1)), some (.retAddr to)] [] h r) : am_Good mi_185 67 [some (.ref 66), some (.retAddr x), some (.retAddr y), some (.retAddr z), some (.retAddr al), some (.retAddr su), some (.retAddr mi), some (.retAddr u), v8] [] h r := by
  have hM := hH
  obtain ⟨vs, q66, f0, f1, f2, f32, f46, a81, a88⟩ := hM
  refine g_iload dd_185_67 rfl ?_
  refine g_aload_n (i := 0) dd_185_69 rfl ?_
  refine g_getfield (k := 0) am_ck12 (by decide) (Or.inl w_935) dd_185_70 q66 f0 ?_
  refine g_icmp_ge_f (t := 140) dd_185_73 (by decide) (tk_ge_f (by omega)) ?_
  refine g_aload_n (i := 0) dd_185_76 rfl ?_
  refine g_iload dd_185_77 rfl ?_
  refine g_iload_n (i := 1) dd_185_79 rfl ?_
  refine g_virtual (M' := mi_173) (n := 2) (ci := 12) (b := 66) (as := [.retAddr u, .retAddr x]) (st := []) (r1 := (some (.retAddr to), h)) w_1262 w_1264 ps_173 ⟨lk_173.1, lk_173.2.1, lk_173.2.2, by decide, by decide⟩ rfl q66 rfl (by simp [Value.category]) dd_185_80 (by rw [← hto]; exact jm_bestGoing hH (by omega) (by omega) hl hn) ?_
  show am_Good mi_185 83 [some (.ref 66), some (.retAddr x), some (.retAddr y), some (.retAddr z), some (.retAddr al), some (.retAddr su), some (.retAddr mi), some (.retAddr u), v8] [.retAddr to] h _
  refine g_istore dd_185_83 (am_nlb_ok rfl) (by decide) ?_
  refine g_iload dd_185_85 rfl ?_
  refine g_bipush dd_185_87 bi_m4 ?_
  refine g_icmp_eq_t (t := 113) dd_185_89 (by decide) (tk_eq_t (by omega)) ?_
  refine g_iload dd_185_113 rfl ?_
  refine g_istore dd_185_115 (am_nlb_ok rfl) (by decide) ?_
  refine g_iload dd_185_117 rfl ?_
  refine g_aload_n (i := 0) dd_185_119 rfl ?_
  refine g_getfield (k := 32) am_ck12 (by decide) (Or.inl w_967) dd_185_120 q66 f32 ?_
  refine g_bipush dd_185_123 bi_64 ?_
  refine g_iload_n (i := 1) dd_185_125 rfl ?_
  refine e_imul (v := 64 * x) dd_185_126 (by omega) ?_
  refine g_iload dd_185_127 rfl ?_
  refine e_iadd (v := (64 * x) + u) dd_185_129 (by omega) ?_
  refine g_iaload dd_185_130 a81 (by omega) (by decide) ?_
  have hl_1 := am_ag_lt c1 ((64 * x) + u)
  refine e_iadd (v := su2) dd_185_131 hs2 ?_
  refine g_istore dd_185_132 (am_nlb_ok rfl) (by decide) ?_
  refine e_iinc (v := 1) (w := u + 1) dd_185_134 rfl ic_1 (am_nlb_ok rfl) (by decide) (by omega) ?_
  refine g_goto (t := 67) dd_185_137 (by decide) ?_
  exact hg
theorem jm_mu_e {r : am_R} {h : am_H} {c1 cm Len g n : Nat} (hH : jm_H h c1 cm Len g n) (hL1 : 1 ≤ Len) (hL : Len ≤ 60) (hl : g < 4) (hn1 : 1 ≤ n) (hn : n ≤ 4) {x y z al su mi u : Nat} {v8 : Option Value} (hs : x < n) (hal : al < 4294967296) (hsu : su < 4294967296) {to by_ su2 : Nat} (hu : u < Len) (hto : jm_bf (jm_by c1 cm g u) x n = to) (hby : jm_by c1 cm g u to = by_) (hto4 : to < n) (he : (su + by_) % 4294967296 = al) (hs2 : (su + am_ag c1 (64 * x + u)) % 4294967296 = su2) (hg : am_Good mi_185 67 [some (.ref 66), some (.retAddr x), some (.retAddr y), some (.retAddr z), some (.retAddr al), some (.retAddr su2), some (.retAddr u), some (.retAddr (u + 1)), some (.retAddr to)] [] h r) : am_Good mi_185 67 [some (.ref 66), some (.retAddr x), some (.retAddr y), some (.retAddr z), some (.retAddr al), some (.retAddr su), some (.retAddr mi), some (.retAddr u), v8] [] h r := by
  have hM := hH
  obtain ⟨vs, q66, f0, f1, f2, f32, f46, a81, a88⟩ := hM
  refine g_iload dd_185_67 rfl ?_
  refine g_aload_n (i := 0) dd_185_69 rfl ?_
  refine g_getfield (k := 0) am_ck12 (by decide) (Or.inl w_935) dd_185_70 q66 f0 ?_
  refine g_icmp_ge_f (t := 140) dd_185_73 (by decide) (tk_ge_f (by omega)) ?_
  refine g_aload_n (i := 0) dd_185_76 rfl ?_
  refine g_iload dd_185_77 rfl ?_
  refine g_iload_n (i := 1) dd_185_79 rfl ?_
  refine g_virtual (M' := mi_173) (n := 2) (ci := 12) (b := 66) (as := [.retAddr u, .retAddr x]) (st := []) (r1 := (some (.retAddr to), h)) w_1262 w_1264 ps_173 ⟨lk_173.1, lk_173.2.1, lk_173.2.2, by decide, by decide⟩ rfl q66 rfl (by simp [Value.category]) dd_185_80 (by rw [← hto]; exact jm_bestGoing hH (by omega) (by omega) hl hn) ?_
  show am_Good mi_185 83 [some (.ref 66), some (.retAddr x), some (.retAddr y), some (.retAddr z), some (.retAddr al), some (.retAddr su), some (.retAddr mi), some (.retAddr u), v8] [.retAddr to] h _
  refine g_istore dd_185_83 (am_nlb_ok rfl) (by decide) ?_
  refine g_iload dd_185_85 rfl ?_
  refine g_bipush dd_185_87 bi_m4 ?_
  refine g_icmp_eq_f (t := 113) dd_185_89 (by decide) (tk_eq_f (by omega)) ?_
  refine g_iload dd_185_92 rfl ?_
  refine g_aload_n (i := 0) dd_185_94 rfl ?_
  refine g_iload dd_185_95 rfl ?_
  refine g_iload dd_185_97 rfl ?_
  refine g_virtual (M' := mi_174) (n := 2) (ci := 12) (b := 66) (as := [.retAddr u, .retAddr to]) (st := [.retAddr su]) (r1 := (some (.retAddr by_), h)) w_1266 w_1268 ps_174 ⟨lk_174.1, lk_174.2.1, lk_174.2.2, by decide, by decide⟩ rfl q66 rfl (by simp [Value.category]) dd_185_99 (by rw [← hby]; exact jm_byGoing hH (by omega) (by omega) hl) ?_
  show am_Good mi_185 102 [some (.ref 66), some (.retAddr x), some (.retAddr y), some (.retAddr z), some (.retAddr al), some (.retAddr su), some (.retAddr mi), some (.retAddr u), some (.retAddr to)] [.retAddr by_, .retAddr su] h _
  refine e_iadd (v := (su + by_) % 4294967296) dd_185_102 rfl ?_
  refine g_iload dd_185_103 rfl ?_
  refine g_icmp_ne_f (t := 113) dd_185_105 (by decide) (tk_ne_f (by omega)) ?_
  refine g_iload dd_185_108 rfl ?_
  refine g_goto (t := 115) dd_185_110 (by decide) ?_
  refine g_istore dd_185_115 (am_nlb_ok rfl) (by decide) ?_
  refine g_iload dd_185_117 rfl ?_
  refine g_aload_n (i := 0) dd_185_119 rfl ?_
  refine g_getfield (k := 32) am_ck12 (by decide) (Or.inl w_967) dd_185_120 q66 f32 ?_
  refine g_bipush dd_185_123 bi_64 ?_
  refine g_iload_n (i := 1) dd_185_125 rfl ?_
  refine e_imul (v := 64 * x) dd_185_126 (by omega) ?_
  refine g_iload dd_185_127 rfl ?_
  refine e_iadd (v := (64 * x) + u) dd_185_129 (by omega) ?_
  refine g_iaload dd_185_130 a81 (by omega) (by decide) ?_
  have hl_1 := am_ag_lt c1 ((64 * x) + u)
  refine e_iadd (v := su2) dd_185_131 hs2 ?_
  refine g_istore dd_185_132 (am_nlb_ok rfl) (by decide) ?_
  refine e_iinc (v := 1) (w := u + 1) dd_185_134 rfl ic_1 (am_nlb_ok rfl) (by decide) (by omega) ?_
  refine g_goto (t := 67) dd_185_137 (by decide) ?_
  exact hg
theorem jm_mu_k {r : am_R} {h : am_H} {c1 cm Len g n : Nat} (hH : jm_H h c1 cm Len g n) (hL1 : 1 ≤ Len) (hL : Len ≤ 60) (hl : g < 4) (hn1 : 1 ≤ n) (hn : n ≤ 4) {x y z al su mi u : Nat} {v8 : Option Value} (hs : x < n) (hal : al < 4294967296) (hsu : su < 4294967296) {to by_ su2 : Nat} (hu : u < Len) (hto : jm_bf (jm_by c1 cm g u) x n = to) (hby : jm_by c1 cm g u to = by_) (hto4 : to < n) (he : (su + by_) % 4294967296 ≠ al) (hs2 : (su + am_ag c1 (64 * x + u)) % 4294967296 = su2) (hg : am_Good mi_185 67 [some (.ref 66), some (.retAddr x), some (.retAddr y), some (.retAddr z), some (.retAddr al), some (.retAddr su2), some (.retAddr mi), some (.retAddr (u + 1)), some (.retAddr to)] [] h r) : am_Good mi_185 67 [some (.ref 66), some (.retAddr x), some (.retAddr y), some (.retAddr z), some (.retAddr al), some (.retAddr su), some (.retAddr mi), some (.retAddr u), v8] [] h r := by
  have hM := hH
  obtain ⟨vs, q66, f0, f1, f2, f32, f46, a81, a88⟩ := hM
  refine g_iload dd_185_67 rfl ?_
  refine g_aload_n (i := 0) dd_185_69 rfl ?_
  refine g_getfield (k := 0) am_ck12 (by decide) (Or.inl w_935) dd_185_70 q66 f0 ?_
  refine g_icmp_ge_f (t := 140) dd_185_73 (by decide) (tk_ge_f (by omega)) ?_
  refine g_aload_n (i := 0) dd_185_76 rfl ?_
  refine g_iload dd_185_77 rfl ?_
  refine g_iload_n (i := 1) dd_185_79 rfl ?_
  refine g_virtual (M' := mi_173) (n := 2) (ci := 12) (b := 66) (as := [.retAddr u, .retAddr x]) (st := []) (r1 := (some (.retAddr to), h)) w_1262 w_1264 ps_173 ⟨lk_173.1, lk_173.2.1, lk_173.2.2, by decide, by decide⟩ rfl q66 rfl (by simp [Value.category]) dd_185_80 (by rw [← hto]; exact jm_bestGoing hH (by omega) (by omega) hl hn) ?_
  show am_Good mi_185 83 [some (.ref 66), some (.retAddr x), some (.retAddr y), some (.retAddr z), some (.retAddr al), some (.retAddr su), some (.retAddr mi), some (.retAddr u), v8] [.retAddr to] h _
  refine g_istore dd_185_83 (am_nlb_ok rfl) (by decide) ?_
  refine g_iload dd_185_85 rfl ?_
  refine g_bipush dd_185_87 bi_m4 ?_
  refine g_icmp_eq_f (t := 113) dd_185_89 (by decide) (tk_eq_f (by omega)) ?_
  refine g_iload dd_185_92 rfl ?_
  refine g_aload_n (i := 0) dd_185_94 rfl ?_
  refine g_iload dd_185_95 rfl ?_
  refine g_iload dd_185_97 rfl ?_
  refine g_virtual (M' := mi_174) (n := 2) (ci := 12) (b := 66) (as := [.retAddr u, .retAddr to]) (st := [.retAddr su]) (r1 := (some (.retAddr by_), h)) w_1266 w_1268 ps_174 ⟨lk_174.1, lk_174.2.1, lk_174.2.2, by decide, by decide⟩ rfl q66 rfl (by simp [Value.category]) dd_185_99 (by rw [← hby]; exact jm_byGoing hH (by omega) (by omega) hl) ?_
  show am_Good mi_185 102 [some (.ref 66), some (.retAddr x), some (.retAddr y), some (.retAddr z), some (.retAddr al), some (.retAddr su), some (.retAddr mi), some (.retAddr u), some (.retAddr to)] [.retAddr by_, .retAddr su] h _
  refine e_iadd (v := (su + by_) % 4294967296) dd_185_102 rfl ?_
  refine g_iload dd_185_103 rfl ?_
  refine g_icmp_ne_t (t := 113) dd_185_105 (by decide) (tk_ne_t (by omega)) ?_
  refine g_iload dd_185_113 rfl ?_
  refine g_istore dd_185_115 (am_nlb_ok rfl) (by decide) ?_
  refine g_iload dd_185_117 rfl ?_
  refine g_aload_n (i := 0) dd_185_119 rfl ?_
  refine g_getfield (k := 32) am_ck12 (by decide) (Or.inl w_967) dd_185_120 q66 f32 ?_
  refine g_bipush dd_185_123 bi_64 ?_
  refine g_iload_n (i := 1) dd_185_125 rfl ?_
  refine e_imul (v := 64 * x) dd_185_126 (by omega) ?_
  refine g_iload dd_185_127 rfl ?_
  refine e_iadd (v := (64 * x) + u) dd_185_129 (by omega) ?_
  refine g_iaload dd_185_130 a81 (by omega) (by decide) ?_
  have hl_1 := am_ag_lt c1 ((64 * x) + u)
  refine e_iadd (v := su2) dd_185_131 hs2 ?_
  refine g_istore dd_185_132 (am_nlb_ok rfl) (by decide) ?_
  refine e_iinc (v := 1) (w := u + 1) dd_185_134 rfl ic_1 (am_nlb_ok rfl) (by decide) (by omega) ?_
  refine g_goto (t := 67) dd_185_137 (by decide) ?_
  exact hg
theorem jm_me_q {h : am_H} {c1 cm Len g n : Nat} (hH : jm_H h c1 cm Len g n) (hL1 : 1 ≤ Len) (hL : Len ≤ 60) (hl : g < 4) (hn1 : 1 ≤ n) (hn : n ≤ 4) {x y z al su mi u : Nat} {v8 : Option Value} (hs : x < n) (hal : al < 4294967296) (hsu : su < 4294967296) (hu : u = Len) (he : su = al) : am_Good mi_185 67 [some (.ref 66), some (.retAddr x), some (.retAddr y), some (.retAddr z), some (.retAddr al), some (.retAddr su), some (.retAddr mi), some (.retAddr u), v8] [] h (some (.retAddr 4294967292), h) := by
  have hM := hH
  obtain ⟨vs, q66, f0, f1, f2, f32, f46, a81, a88⟩ := hM
  refine g_iload dd_185_67 rfl ?_
  refine g_aload_n (i := 0) dd_185_69 rfl ?_
  refine g_getfield (k := 0) am_ck12 (by decide) (Or.inl w_935) dd_185_70 q66 f0 ?_
  refine g_icmp_ge_t (t := 140) dd_185_73 (by decide) (tk_ge_t (by omega)) ?_
  refine g_iload dd_185_140 rfl ?_
  refine g_iload dd_185_142 rfl ?_
  refine g_icmp_ne_f (t := 150) dd_185_144 (by decide) (tk_ne_f (by omega)) ?_
  refine g_bipush dd_185_147 bi_m4 ?_
  exact g_ireturn rfl dd_185_149
theorem jm_me_1 {h : am_H} {c1 cm Len g n : Nat} (hH : jm_H h c1 cm Len g n) (hL1 : 1 ≤ Len) (hL : Len ≤ 60) (hl : g < 4) (hn1 : 1 ≤ n) (hn : n ≤ 4) {x y z al su mi u : Nat} {v8 : Option Value} (hs : x < n) (hal : al < 4294967296) (hsu : su < 4294967296) (hu : u = Len) (he : su ≠ al) (hz : z = 1) : am_Good mi_185 67 [some (.ref 66), some (.retAddr x), some (.retAddr y), some (.retAddr z), some (.retAddr al), some (.retAddr su), some (.retAddr mi), some (.retAddr u), v8] [] h (some (.retAddr mi), h) := by
  have hM := hH
  obtain ⟨vs, q66, f0, f1, f2, f32, f46, a81, a88⟩ := hM
  refine g_iload dd_185_67 rfl ?_
  refine g_aload_n (i := 0) dd_185_69 rfl ?_
  refine g_getfield (k := 0) am_ck12 (by decide) (Or.inl w_935) dd_185_70 q66 f0 ?_
  refine g_icmp_ge_t (t := 140) dd_185_73 (by decide) (tk_ge_t (by omega)) ?_
  refine g_iload dd_185_140 rfl ?_
  refine g_iload dd_185_142 rfl ?_
  refine g_icmp_ne_t (t := 150) dd_185_144 (by decide) (tk_ne_t (by omega)) ?_
  refine g_iload_n (i := 3) dd_185_150 rfl ?_
  refine g_iconst dd_185_151 ic_1 ?_
  refine g_icmp_ne_f (t := 160) dd_185_152 (by decide) (tk_ne_f (by omega)) ?_
  refine g_iload dd_185_155 rfl ?_
  refine g_goto (t := 167) dd_185_157 (by decide) ?_
  exact g_ireturn rfl dd_185_167
theorem jm_me_2 {h : am_H} {c1 cm Len g n : Nat} (hH : jm_H h c1 cm Len g n) (hL1 : 1 ≤ Len) (hL : Len ≤ 60) (hl : g < 4) (hn1 : 1 ≤ n) (hn : n ≤ 4) {x y z al su mi u : Nat} {v8 : Option Value} (hs : x < n) (hal : al < 4294967296) (hsu : su < 4294967296) (hu : u = Len) (he : su ≠ al) (hz : z ≠ 1) (hz2 : z ≤ 2) (hmi : mi < Len) : am_Good mi_185 67 [some (.ref 66), some (.retAddr x), some (.retAddr y), some (.retAddr z), some (.retAddr al), some (.retAddr su), some (.retAddr mi), some (.retAddr u), v8] [] h (some (.retAddr (jm_bf (jm_by c1 cm g mi) x n)), h) := by
  have hM := hH
  obtain ⟨vs, q66, f0, f1, f2, f32, f46, a81, a88⟩ := hM
  refine g_iload dd_185_67 rfl ?_
  refine g_aload_n (i := 0) dd_185_69 rfl ?_
  refine g_getfield (k := 0) am_ck12 (by decide) (Or.inl w_935) dd_185_70 q66 f0 ?_
  refine g_icmp_ge_t (t := 140) dd_185_73 (by decide) (tk_ge_t (by omega)) ?_
  refine g_iload dd_185_140 rfl ?_
  refine g_iload dd_185_142 rfl ?_
  refine g_icmp_ne_t (t := 150) dd_185_144 (by decide) (tk_ne_t (by omega)) ?_
  refine g_iload_n (i := 3) dd_185_150 rfl ?_
  refine g_iconst dd_185_151 ic_1 ?_
  refine g_icmp_ne_t (t := 160) dd_185_152 (by decide) (tk_ne_t (by omega)) ?_
  refine g_aload_n (i := 0) dd_185_160 rfl ?_
  refine g_iload dd_185_161 rfl ?_
  refine g_iload_n (i := 1) dd_185_163 rfl ?_
  refine g_virtual (M' := mi_173) (n := 2) (ci := 12) (b := 66) (as := [.retAddr mi, .retAddr x]) (st := []) (r1 := (some (.retAddr (jm_bf (jm_by c1 cm g mi) x n)), h)) w_1262 w_1264 ps_173 ⟨lk_173.1, lk_173.2.1, lk_173.2.2, by decide, by decide⟩ rfl q66 rfl (by simp [Value.category]) dd_185_164 (jm_bestGoing hH (by omega) (by omega) hl hn) ?_
  show am_Good mi_185 167 [some (.ref 66), some (.retAddr x), some (.retAddr y), some (.retAddr z), some (.retAddr al), some (.retAddr su), some (.retAddr mi), some (.retAddr u), v8] [.retAddr (jm_bf (jm_by c1 cm g mi) x n)] h _
  exact g_ireturn rfl dd_185_167
theorem jm_mol {h : am_H} {c1 cm Len g n : Nat} (hH : jm_H h c1 cm Len g n) (hL1 : 1 ≤ Len) (hL : Len ≤ 60) (hl : g < 4) (hn1 : 1 ≤ n) (hn : n ≤ 4) {x y z al : Nat} (hs : x < n) (hz : z ≤ 2) (hal : al < 4294967296) (hP : jm_P c1 cm g n Len) : ∀ (k u su mi : Nat) (v8 : Option Value), u + k = Len → su < 4294967296 → (mi < Len ∨ (mi = 4294967292 ∧ al = (su + am_ag cm (4 * u + x)) % 4294967296)) → ∃ v, am_Good mi_185 67 [some (.ref 66), some (.retAddr x), some (.retAddr y), some (.retAddr z), some (.retAddr al), some (.retAddr su), some (.retAddr mi), some (.retAddr u), v8] [] h (some (.retAddr v), h)
  | 0, u, su, mi, v8, e, hsu, hI => by
    have e' : u = Len := by omega
    by_cases h1 : su = al
    · exact ⟨_, jm_me_q hH hL1 hL hl hn1 hn hs hal hsu e' h1⟩
    · by_cases h2 : z = 1
      · exact ⟨_, jm_me_1 hH hL1 hL hl hn1 hn hs hal hsu e' h1 h2⟩
      · have h3 : mi < Len := by
          rcases hI with hI | ⟨-, hI⟩
          · exact hI
          · subst e'
            rw [hP.2 x (by omega)] at hI
            omega
        exact ⟨_, jm_me_2 hH hL1 hL hl hn1 hn hs hal hsu e' h1 h2 hz h3⟩
  | k + 1, u, su, mi, v8, e, hsu, hI => by
    have hR := hP.1 u x hs (by omega)
    have hb := jm_bf_lt (jm_by c1 cm g u) x n
    have hl2 : (su + am_ag c1 (64 * x + u)) % 4294967296 < 4294967296 := Nat.mod_lt _ (by decide)
    have key : ∀ w, (am_ag cm (4 * u + x) = jm_st c1 cm u x) → al = (su + am_ag cm (4 * u + x)) % 4294967296 → w = am_ag cm (4 * (u + 1) + x) → al = ((su + am_ag c1 (64 * x + u)) % 4294967296 + w) % 4294967296 := by
      intro w a1 a2 a3
      unfold jm_st at a1
      rw [← a3] at a1
      omega
    by_cases h1 : jm_bf (jm_by c1 cm g u) x n = 4294967292
    · obtain ⟨v, q⟩ := jm_mol hH hL1 hL hl hn1 hn hs hz hal hP k (u + 1) _ mi _ (by omega) hl2 (by
        rcases hI with hI | ⟨hI, hJ⟩
        · exact Or.inl hI
        · refine Or.inr ⟨hI, key _ ?_ hJ rfl⟩
          rcases hR with hR | hR
          · exact hR
          · exact absurd h1 hR.1)
      exact ⟨v, jm_mu_n hH hL1 hL hl hn1 hn hs hal hsu (by omega) rfl rfl h1 rfl q⟩
    · by_cases h2 : (su + jm_by c1 cm g u (jm_bf (jm_by c1 cm g u) x n)) % 4294967296 = al
      · obtain ⟨v, q⟩ := jm_mol hH hL1 hL hl hn1 hn hs hz hal hP k (u + 1) _ u _ (by omega) hl2 (Or.inl (by omega))
        exact ⟨v, jm_mu_e hH hL1 hL hl hn1 hn hs hal hsu (by omega) rfl rfl (by omega) h2 rfl q⟩
      · obtain ⟨v, q⟩ := jm_mol hH hL1 hL hl hn1 hn hs hz hal hP k (u + 1) _ mi _ (by omega) hl2 (by
          rcases hI with hI | ⟨hI, hJ⟩
          · exact Or.inl hI
          · refine Or.inr ⟨hI, key _ ?_ hJ rfl⟩
            rcases hR with hR | hR
            · exact hR
            · rw [hR.2] at hJ
              exact absurd hJ.symm h2)
        exact ⟨v, jm_mu_k hH hL1 hL hl hn1 hn hs hal hsu (by omega) rfl rfl (by omega) h2 rfl q⟩
theorem jm_Jv {h h' : am_H} (hJ : Jv h) (e2 : ax_I mcs h') (e3 : ax_Fr mcs h h') : Jv h' := by
  obtain ⟨hI, ⟨n, t1, t2, t3⟩, a, g, x, q1, q2, q3, q4⟩ := hJ
  have g0 : am_get h' 0 = am_get h 0 := e3.2.2.1 0 rfl
  have g86 : am_get h' 86 = am_get h 86 := e3.2.2.2.1 86 0 8 _ rfl
  refine ⟨jv_ms st_mcs dm_mcs0 dm_mcs1 hI e2 e3, ⟨n, by rw [ax_fv_get g0]; exact t1, ?_, jv_X_get (e3.2.2.1 1 rfl) (e3.2.2.2.1 73 0 200 _ rfl) (ax_fv_get g0 16) (e3.2.2.2.2 66 12 _ 53 _ rfl rfl) (jv_E_b (fun i => jv_mx rfl dm_mcs0 i e3) (fun i => jv_mx rfl dm_mcs1 i e3) (kp_Fr kc_mcs_4 e3) (kp_Fr kc_mcs_17 e3)) t3⟩, a, g, x, ?_, ?_, by rw [g86]; exact q3, q4⟩
  · rw [e3.2.2.2.2 66 12 _ 15 _ rfl rfl]
    exact t2
  · rw [e3.2.2.2.2 66 12 _ 42 _ rfl rfl]
    exact q1
  · rw [e3.2.2.2.2 66 12 _ 40 _ rfl rfl]
    exact q2
theorem jm_most (x : Nat) (y : Nat) (z : Nat) (hx : x < 4294967296) (hy : y < 4294967296) (hz : z < 4294967296) (h : am_H) (hJ : Jv h) : ∃ n h', am_EG (am_mi 185) [.ref 66, .retAddr x, .retAddr y, .retAddr z] h (some (.retAddr n), h') ∧ Jv h' ∧ h'.1 = h.1 ∧ h'.2.1 = h.2.1 := by
  have hI := (ax_I_to st_mcs).mp hJ.1.2
  obtain ⟨c1, cm, Len, g, n, hH, hL1, hL, hl, hn1, hn, e0, e2⟩ := jm_ex hI
  by_cases hs : x < n
  case neg => exact ⟨_, h, jm_mo_s hH hL1 hL hl hn1 hn hx hy hz hs, hJ, rfl, rfl⟩
  by_cases hm : y < Len
  case neg => exact ⟨_, h, jm_mo_m hH hL1 hL hl hn1 hn hx hy hz hs hm, hJ, rfl, rfl⟩
  by_cases hi : z ≤ 2
  case neg => exact ⟨_, h, jm_mo_i hH hL1 hL hl hn1 hn hx hy hz hs hm hi, hJ, rfl, rfl⟩
  obtain ⟨h1, k1, k2, k3⟩ := jm_layCase hI
  obtain ⟨c1', cm', Len', g', n', hH', hL1', hL', hl', hn1', hn', e0', e2'⟩ := jm_ex k2
  have eL : Len' = Len := by
    have := k3.2.2.2.2 66 12 _ 0 _ rfl rfl
    rw [e0, e0'] at this
    cases this
    rfl
  have en : n' = n := by
    have := k3.2.2.2.2 66 12 _ 2 _ rfl rfl
    rw [e2, e2'] at this
    cases this
    rfl
  subst eL
  subst en
  obtain ⟨cf, hP, m1⟩ := jm_layMost hH' hL1' hL' hl' hn'
  obtain ⟨m2, m3⟩ := jm_M_I hH' k2 cf
  have m4 := k3.tr m3
  have hM := jm_M_H hH' cf
  have fin : ∃ v, am_Good mi_185 38 [some (.ref 66), some (.retAddr x), some (.retAddr y), some (.retAddr z), none, none, none, none, none] [] (jm_M h1 cf) (some (.retAddr v), jm_M h1 cf) := by
    by_cases z0 : z = 0
    · exact ⟨_, jm_mo_0 hM hL1' hL' hl' hn1' hn' hs hm z0⟩
    · obtain ⟨v, q⟩ := jm_mol hM hL1' hL' hl' hn1' hn' (x := x) (y := y) (z := z) (al := am_ag cf (4 * y + x)) hs hi (am_ag_lt _ _) hP (Len' - y) y 0 4294967292 none (by omega) (by decide) (Or.inr ⟨rfl, by rw [Nat.zero_add]; exact (Nat.mod_eq_of_lt (am_ag_lt _ _)).symm⟩)
      exact ⟨v, jm_mo_1 hM hL1' hL' hl' hn1' hn' hs hm hi z0 q⟩
  obtain ⟨v, q⟩ := fin
  exact ⟨v, jm_M h1 cf, jm_mo_c hH hL1 hL hl hn1 hn hx hy hz hs hm hi k1 (jm_mo_l hH' hL1' hL' hl' hn1' hn' m1 q), jm_Jv hJ m2 m4, m4.1, m4.2.1⟩
