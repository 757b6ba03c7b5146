/-! ===== what holds between calls ===== -/
def jv_c (x : Nat) : Nat → Nat
  | 0 => 0
  | n + 1 => jv_c x n + (if am_ag x n = 4294967292 then 1 else 0)
def jv_Q (h : am_H) : Prop := ∃ a g x, ax_fv h 66 42 = some (.retAddr a) ∧ ax_fv h 66 40 = some (.retAddr g) ∧ am_get h 86 = some (.inl (0, 8, x)) ∧ jv_c x a ≤ g
/-! the evening laid: cells that no call but lay writes -/
noncomputable def rowv (h : am_H) (a : Nat) : Nat := match am_get h a with
  | some (.inl (_, _, x)) => x
  | _ => 0
noncomputable def fldv (h : am_H) (a k : Nat) : Nat := match ax_fv h a k with
  | some (.retAddr n) => n
  | _ => 0
noncomputable def valv (h : am_H) (a k : Nat) : Value := (ax_fv h a k).getD .null
def je_w (k : Nat) : Nat := if k = 0 then 1 else if k = 1 then 5 else if k = 2 then 3 else if k = 3 then 4 else if k = 4 then 3 else 2
def je_z (k : Nat) : Nat := if k = 0 then 4 else if k = 1 then 9 else if k = 2 then 6 else if k = 3 then 4 else if k = 4 then 6 else 4
def je_l (k : Nat) : Nat := if k = 0 then 4 else if k = 1 then 45 else if k = 2 then 18 else if k = 3 then 16 else if k = 4 then 18 else 8
def je_b (k i : Nat) : Nat := if k = 0 then 9 else if k = 4 then 7 else if k = 5 then 3 else if i = 0 then 3 else if i = 1 then 59 else if i = 2 then 59 else if i = 3 then (if k = 1 then 9 else 10) else 8
def je_fx (E : Nat) : List (Nat × Nat) := [(E, 6), (E, 7), (47, 7), (47, 8)] ++ (List.range 6).map (fun k => (E + 1 + 2 * k, 3))
def je_fm : List (Nat × Nat) := [(66, 0), (66, 1)] ++ (List.range 6).map (fun k => (66, 2 + 2 * k))
def je_rx (E : Nat) : List Nat := [31, 33, 34, 35, 44, 51, 53, 46] ++ (List.range 6).map (fun k => E + 2 + 2 * k)
def je_rm : List Nat := (List.range 6).map (fun k => 67 + k)
/-- these cells are as they were -/
def kp (h h' : am_H) (E : Nat) : Prop := (∀ p, p ∈ (43, 1) :: (je_fx E ++ je_fm) → ax_fv h' p.1 p.2 = ax_fv h p.1 p.2) ∧ (∀ a, a ∈ je_rx E ++ je_rm → am_get h' a = am_get h a)
theorem kp.rf {h : am_H} {E : Nat} : kp h h E := ⟨fun _ _ => rfl, fun _ _ => rfl⟩
theorem kp.tr {h h1 h2 : am_H} {E : Nat} (a : kp h h1 E) (b : kp h1 h2 E) : kp h h2 E := ⟨fun p hp => (b.1 p hp).trans (a.1 p hp), fun c hc => (b.2 c hc).trans (a.2 c hc)⟩
noncomputable def kc_f (sh : ax_Sh) (p : Nat × Nat) : Bool := match ax_at sh p.1 with
  | none => true
  | some (.inr (_, fs)) => (match fs[p.2]? with
    | some (a, b, _) => Nat.beq a 0 && Nat.beq b 0
    | none => false)
  | some (.inl _) => false
noncomputable def kc_r (sh : ax_Sh) (a : Nat) : Bool := match ax_at sh a with
  | none => true
  | some (.inl (_, _, w, _)) => Nat.beq w 0
  | some (.inr _) => false
noncomputable def kc (sh : ax_Sh) (E : Nat) : Bool := ((43, 1) :: (je_fx E ++ je_fm)).all (kc_f sh) && (je_rx E ++ je_rm).all (kc_r sh)
theorem kp_Fr {sh : ax_Sh} {E : Nat} (hc : kc sh E = true) {h h' : am_H} (hF : ax_Fr sh h h') : kp h h' E := by
  unfold kc at hc
  rw [Bool.and_eq_true, List.all_eq_true, List.all_eq_true] at hc
  refine ⟨fun p hp => ?_, fun a ha => ?_⟩
  · have hq := hc.1 p hp
    unfold kc_f at hq
    split at hq
    · rename_i hn
      unfold ax_fv
      rw [hF.2.2.1 _ hn]
    · rename_i ci fs hn
      split at hq
      · rename_i x y R hf
        rw [Bool.and_eq_true] at hq
        have e1 := Nat.eq_of_beq_eq_true hq.1
        have e2 := Nat.eq_of_beq_eq_true hq.2
        subst e1
        subst e2
        exact hF.2.2.2.2 _ ci fs _ R hn hf
      · cases hq
    · cases hq
  · have hq := hc.2 a ha
    unfold kc_r at hq
    split at hq
    · rename_i hn
      exact hF.2.2.1 _ hn
    · rename_i kd n w cols hn
      have e1 := Nat.eq_of_beq_eq_true hq
      subst e1
      exact hF.2.2.2.1 _ kd n cols hn
    · cases hq
/-- cells that another cell's change leaves alone -/
theorem kp_get {h h' : am_H} {E : Nat} (hg : ∀ a, a ∈ (43 :: je_rx E) ++ (je_fx E).map Prod.fst → am_get h' a = am_get h a) (hm : ∀ p, p ∈ je_fm → ax_fv h' p.1 p.2 = ax_fv h p.1 p.2) (hr : ∀ a, a ∈ je_rm → am_get h' a = am_get h a) : kp h h' E := by
  have fv : ∀ a k, a ∈ (43 :: je_rx E) ++ (je_fx E).map Prod.fst → ax_fv h' a k = ax_fv h a k := fun a k ha => by
    unfold ax_fv
    rw [hg a ha]
  refine ⟨fun p hp => ?_, fun a ha => ?_⟩
  · rcases List.mem_cons.mp hp with rfl | hp
    · exact fv 43 1 (List.mem_append_left _ (List.mem_cons_self ..))
    · rcases List.mem_append.mp hp with hp | hp
      · exact fv p.1 p.2 (List.mem_append_right _ (List.mem_map.mpr ⟨p, hp, rfl⟩))
      · exact hm p hp
  · rcases List.mem_append.mp ha with ha | ha
    · exact hg a (List.mem_append_left _ (List.mem_cons_of_mem _ ha))
    · exact hr a ha
theorem kp_lo {h h' : am_H} {E : Nat} (hE : E < 53) (hg : ∀ a, a < 66 → am_get h' a = am_get h a) (hm : ∀ p, p ∈ je_fm → ax_fv h' p.1 p.2 = ax_fv h p.1 p.2) (hr : ∀ a, a ∈ je_rm → am_get h' a = am_get h a) : kp h h' E := by
  refine kp_get (fun a ha => hg a ?_) hm hr
  simp [je_rx, je_fx] at ha
  omega
def je_x (h : am_H) (E mi go : Nat) (Z X : Nat → Nat) : Prop := ax_fv h E 6 = some (.retAddr mi) ∧ ax_fv h E 7 = some (.retAddr go) ∧ ∀ k, k < 6 → ax_fv h (E + 1 + 2 * k) 3 = some (.retAddr (Z k)) ∧ am_get h (E + 2 + 2 * k) = some (.inl (0, 45, X k))
def je_m (h : am_H) (mi go : Nat) (Z Y : Nat → Nat) : Prop := ax_fv h 66 0 = some (.retAddr mi) ∧ ax_fv h 66 1 = some (.retAddr go) ∧ ∀ k, k < 6 → ax_fv h 66 (2 + 2 * k) = some (.retAddr (Z k)) ∧ am_get h (67 + k) = some (.inl (0, je_l k, Y k))
def je_P (mi go : Nat) (Z X Y : Nat → Nat) : Prop := (1 ≤ mi ∧ mi ≤ 60 ∧ go ≤ 3 ∧ 1 ≤ Z 0) ∧ (∀ k, k < 6 → Z k ≤ je_z k) ∧ (∀ k, k < 6 → ∀ i, i < je_l k → am_ag (Y k) i ≤ je_b k (i % je_w k)) ∧ (∀ k, k < 6 → ∀ i, i < Z k * je_w k → am_ag (X k) i = am_ag (Y k) i) ∧ (∀ i, i < Z 5 → am_ag (Y 5) (2 * i + 1) < Z 0)
/-- what is made of the evening as it is laid -/
def je_C (h : am_H) (Z Y : Nat → Nat) : Prop := ∃ cc, am_get h 31 = some (.inl (0, 256, cc)) ∧ ∀ s, s < 256 → am_ag cc s = cl_k (Y 4) (Z 4) 6 s
def je_S (h : am_H) (Z Y : Nat → Nat) : Prop := ∃ W F B, am_get h 33 = some (.inl (0, 240, W)) ∧ am_get h 34 = some (.inl (0, 240, F)) ∧ am_get h 35 = some (.inl (0, 240, B)) ∧ ∀ s, s < Z 0 → ∀ t, t < 60 → am_ag W (60 * s + t) = sc_W Z Y 0 4294967292 s t ∧ am_ag F (60 * s + t) = sc_F Z Y 0 4294967292 s t ∧ am_ag B (60 * s + t) = if sc_B Z Y 0 s t = true then 1 else 0
def je_R (h : am_H) (mi go : Nat) (Z Y : Nat → Nat) : Prop := ∃ G, am_get h 44 = some (.inl (0, 240, G)) ∧ ax_fv h 43 1 = some (.retAddr mi) ∧ rt_R (fun s t => sc_W Z Y 0 4294967292 s t) (rt_T G mi) go (Z 0) mi 0
/-- fair: shared out already, or not -/
def je_F (h : am_H) (mi go : Nat) (Z Y : Nat → Nat) : Prop := ax_fv h 47 8 = some (.retAddr 0) ∨ (ax_fv h 47 8 = some (.retAddr 1) ∧ ax_fv h 47 7 = some (.retAddr (fa_v mi go Z Y)) ∧ ∃ bh bw, am_get h 51 = some (.inl (0, 6, bh)) ∧ am_get h 53 = some (.inl (0, 4, bw)) ∧ (∀ r, r < fa_tn mi → am_ag bh r = fa_h mi go Z Y r) ∧ ∀ s, s < 4 → am_ag bw s = fa_a mi go Z Y s)
/-- learning's table is empty -/
def je_L (h : am_H) : Prop := ∃ c, am_get h 46 = some (.inl (0, 4096, c)) ∧ ∀ i, i < 4096 → am_ag c i = 99
theorem je_L_get {h h' : am_H} (e : am_get h' 46 = am_get h 46) (hL : je_L h) : je_L h' := by
  obtain ⟨c, c1, c2⟩ := hL
  exact ⟨c, e.trans c1, c2⟩
def je_T (h : am_H) (mi go : Nat) (Z Y : Nat → Nat) : Prop := je_C h Z Y ∧ je_S h Z Y ∧ je_R h mi go Z Y ∧ je_F h mi go Z Y ∧ je_L h
/-- as it is laid, told by any rows -/
def je_T0 (h : am_H) (mi go : Nat) (Z Y : Nat → Nat) : Prop := je_C h Z Y ∧ je_S h Z Y ∧ je_R h mi go Z Y ∧ ax_fv h 47 8 = some (.retAddr 0) ∧ je_L h
def jv_D (h : am_H) (E : Nat) : Prop := ∃ (mi go : Nat) (Z X Y : Nat → Nat), je_x h E mi go Z X ∧ je_m h mi go Z Y ∧ je_P mi go Z X Y ∧ je_T h mi go Z Y
theorem je_fx_in {E k : Nat} (hk : k < 6) : (E + 1 + 2 * k, 3) ∈ (43, 1) :: (je_fx E ++ je_fm) := List.mem_cons_of_mem _ (List.mem_append_left _ (List.mem_append_right _ (List.mem_map.mpr ⟨k, List.mem_range.mpr hk, rfl⟩)))
theorem je_fm_in {E k : Nat} (hk : k < 6) : (66, 2 + 2 * k) ∈ (43, 1) :: (je_fx E ++ je_fm) := List.mem_cons_of_mem _ (List.mem_append_right _ (List.mem_append_right _ (List.mem_map.mpr ⟨k, List.mem_range.mpr hk, rfl⟩)))
theorem je_rx_in {E k : Nat} (hk : k < 6) : E + 2 + 2 * k ∈ je_rx E ++ je_rm := List.mem_append_left _ (List.mem_append_right _ (List.mem_map.mpr ⟨k, List.mem_range.mpr hk, rfl⟩))
theorem je_rm_in {E k : Nat} (hk : k < 6) : 67 + k ∈ je_rx E ++ je_rm := List.mem_append_right _ (List.mem_map.mpr ⟨k, List.mem_range.mpr hk, rfl⟩)
theorem je_x_kp {h h' : am_H} {E mi go : Nat} {Z X : Nat → Nat} (hk : kp h h' E) (hx : je_x h E mi go Z X) : je_x h' E mi go Z X := by
  refine ⟨?_, ?_, fun k h6 => ⟨?_, ?_⟩⟩
  · rw [hk.1 (E, 6) (List.mem_cons_of_mem _ (List.mem_append_left _ (List.mem_append_left _ (by simp))))]; exact hx.1
  · rw [hk.1 (E, 7) (List.mem_cons_of_mem _ (List.mem_append_left _ (List.mem_append_left _ (by simp))))]; exact hx.2.1
  · rw [hk.1 _ (je_fx_in h6)]; exact (hx.2.2 k h6).1
  · rw [hk.2 _ (je_rx_in h6)]; exact (hx.2.2 k h6).2
theorem je_m_kp {h h' : am_H} {E mi go : Nat} {Z Y : Nat → Nat} (hk : kp h h' E) (hx : je_m h mi go Z Y) : je_m h' mi go Z Y := by
  refine ⟨?_, ?_, fun k h6 => ⟨?_, ?_⟩⟩
  · rw [hk.1 (66, 0) (List.mem_cons_of_mem _ (List.mem_append_right _ (List.mem_append_left _ (by simp))))]; exact hx.1
  · rw [hk.1 (66, 1) (List.mem_cons_of_mem _ (List.mem_append_right _ (List.mem_append_left _ (by simp))))]; exact hx.2.1
  · rw [hk.1 _ (je_fm_in h6)]; exact (hx.2.2 k h6).1
  · rw [hk.2 _ (je_rm_in h6)]; exact (hx.2.2 k h6).2
theorem je_F_kp {h h' : am_H} {E mi go : Nat} {Z Y : Nat → Nat} (hk : kp h h' E) (hF : je_F h mi go Z Y) : je_F h' mi go Z Y := by
  have f : ∀ p, p ∈ [(E, 6), (E, 7), (47, 7), (47, 8)] → ax_fv h' p.1 p.2 = ax_fv h p.1 p.2 := fun p hp => hk.1 p (List.mem_cons_of_mem _ (List.mem_append_left _ (List.mem_append_left _ hp)))
  have m : ∀ a, a ∈ [31, 33, 34, 35, 44, 51, 53, 46] → am_get h' a = am_get h a := fun a ha => hk.2 a (List.mem_append_left _ (List.mem_append_left _ ha))
  rcases hF with q | ⟨q1, q2, bh, bw, q3, q4, q5, q6⟩
  · exact Or.inl ((f (47, 8) (by simp)).trans q)
  · exact Or.inr ⟨(f (47, 8) (by simp)).trans q1, (f (47, 7) (by simp)).trans q2, bh, bw, (m 51 (by simp)).trans q3, (m 53 (by simp)).trans q4, q5, q6⟩
theorem je_T_kp {h h' : am_H} {E mi go : Nat} {Z Y : Nat → Nat} (hk : kp h h' E) (hT : je_T h mi go Z Y) : je_T h' mi go Z Y := by
  obtain ⟨⟨cc, c1, c2⟩, ⟨W, F, B, s1, s2, s3, s4⟩, ⟨G, r1, r2, r3⟩, r4, r5⟩ := hT
  have m : ∀ a, a ∈ [31, 33, 34, 35, 44, 51, 53, 46] → am_get h' a = am_get h a := fun a ha => hk.2 a (List.mem_append_left _ (List.mem_append_left _ ha))
  exact ⟨⟨cc, by rw [m 31 (by simp)]; exact c1, c2⟩, ⟨W, F, B, by rw [m 33 (by simp)]; exact s1, by rw [m 34 (by simp)]; exact s2, by rw [m 35 (by simp)]; exact s3, s4⟩, ⟨G, by rw [m 44 (by simp)]; exact r1, by rw [hk.1 (43, 1) (List.mem_cons.mpr (Or.inl rfl))]; exact r2, r3⟩, je_F_kp hk r4, je_L_get (m 46 (by simp)) r5⟩
theorem jv_D_kp {h h' : am_H} {E : Nat} (hk : kp h h' E) (hD : jv_D h E) : jv_D h' E := by
  obtain ⟨mi, go, Z, X, Y, d1, d2, d3, d4⟩ := hD
  exact ⟨mi, go, Z, X, Y, je_x_kp hk d1, je_m_kp hk d2, d3, je_T_kp hk d4⟩
def jv_E (h : am_H) : Prop := (ax_I sb0 h ∧ jv_D h 4) ∨ (ax_I sb1 h ∧ jv_D h 17)
theorem sb_no {h : am_H} (h0 : ax_I sb0 h) (h1 : ax_I sb1 h) : False := by
  obtain ⟨vs, hv, hl, ho⟩ := h0.obj (a := 0) rfl
  obtain ⟨ws, hw, hl2, ho2⟩ := h1.obj (a := 0) rfl
  rw [hv] at hw
  have e : vs = ws := by cases hw; rfl
  subst e
  have h17 : vs.length = 17 := hl
  have g3 : vs[3]? = some vs[3] := List.getElem?_eq_getElem (by omega)
  have a1 : vs[3] = .ref 4 := ho 3 _ _ rfl g3
  have a2 : vs[3] = .ref 17 := ho2 3 _ _ rfl g3
  rw [a1] at a2
  cases a2
theorem jv_E_0 {h h' : am_H} (i0 : ax_I sb0 h) (i0' : ax_I sb0 h') (hk : kp h h' 4) (hE : jv_E h) : jv_E h' := by
  rcases hE with ⟨-, hD⟩ | ⟨i1, -⟩
  · exact Or.inl ⟨i0', jv_D_kp hk hD⟩
  · exact (sb_no i0 i1).elim
theorem jv_E_1 {h h' : am_H} (i1 : ax_I sb1 h) (i1' : ax_I sb1 h') (hk : kp h h' 17) (hE : jv_E h) : jv_E h' := by
  rcases hE with ⟨i0, -⟩ | ⟨-, hD⟩
  · exact (sb_no i0 i1).elim
  · exact Or.inr ⟨i1', jv_D_kp hk hD⟩
theorem jv_E_b {h h' : am_H} (i0 : ax_I sb0 h → ax_I sb0 h') (i1 : ax_I sb1 h → ax_I sb1 h') (k0 : kp h h' 4) (k1 : kp h h' 17) (hE : jv_E h) : jv_E h' := by
  rcases hE with ⟨i, hD⟩ | ⟨i, hD⟩
  · exact Or.inl ⟨i0 i, jv_D_kp k0 hD⟩
  · exact Or.inr ⟨i1 i, jv_D_kp k1 hD⟩
theorem jv_E_L {h : am_H} (hE : jv_E h) : je_L h := by
  rcases hE with ⟨-, mi, go, Z, X, Y, -, -, -, d⟩ | ⟨-, mi, go, Z, X, Y, -, -, -, d⟩
  · exact d.2.2.2.2
  · exact d.2.2.2.2
/-- as many plans are kept; the evening's rows are alike -/
def jv_K (h : am_H) : Prop := (∃ k, ax_fv h 0 16 = some (.retAddr k) ∧ ax_fv h 66 53 = some (.retAddr k)) ∧ jv_E h
theorem jv_K_fv {h h' : am_H} (e0 : ax_fv h' 0 16 = ax_fv h 0 16) (e1 : ax_fv h' 66 53 = ax_fv h 66 53) (eE : jv_E h → jv_E h') (hK : jv_K h) : jv_K h' := by
  unfold jv_K
  rw [e0, e1]
  exact ⟨hK.1, eE hK.2⟩
/-- the texts are alike, and how many plans are kept -/
def jv_X (h : am_H) (n : Nat) : Prop := ∃ tx tm, am_get h 1 = some (.inl (1, 200, tx)) ∧ am_get h 73 = some (.inl (0, 200, tm)) ∧ (∀ i, i < n → am_ag tx i = am_ag tm i) ∧ jv_K h
theorem jv_X_get {h h' : am_H} {n : Nat} (g1 : am_get h' 1 = am_get h 1) (g73 : am_get h' 73 = am_get h 73) (e0 : ax_fv h' 0 16 = ax_fv h 0 16) (e1 : ax_fv h' 66 53 = ax_fv h 66 53) (eE : jv_E h → jv_E h') (hX : jv_X h n) : jv_X h' n := by
  obtain ⟨tx, tm, a1, a2, a3, a4⟩ := hX
  exact ⟨tx, tm, by rw [g1]; exact a1, by rw [g73]; exact a2, a3, jv_K_fv e0 e1 eE a4⟩
def jv_T (h : am_H) : Prop := ∃ n, ax_fv h 0 1 = some (.retAddr n) ∧ ax_fv h 66 15 = some (.retAddr n) ∧ jv_X h n
def jv_I (h : am_H) : Prop := (ax_I sb0 h ∨ ax_I sb1 h) ∧ ax_I sbm h
def Jv (h : am_H) : Prop := jv_I h ∧ jv_T h ∧ jv_Q h
/-- both calls, one behind the other -/
def am_B2 (J : am_H → Prop) (cmp : Bool) (jx jm : Nat) (as : List Value) : Prop := ∀ h, J h → ∃ v h1 w h2, am_EG (am_mi jx) (.ref 0 :: as) h (some (.retAddr v), h1) ∧ am_EG (am_mi jm) (.ref 66 :: as) h1 (some (.retAddr w), h2) ∧ (cmp = true → v = w) ∧ J h2 ∧ (∃ fs, am_get h 0 = some (.inr (11, fs))) ∧ (∃ fs, am_get h1 66 = some (.inr (12, fs))) ∧ (h1.1 = h.1 ∧ h1.2.1 = h.2.1) ∧ (h2.1 = h1.1 ∧ h2.2.1 = h1.2.1)
def jv_all (p : Nat → Bool) : Nat → Bool
  | 0 => true
  | n + 1 => jv_all p n && p n
theorem jv_all_ok {p : Nat → Bool} : ∀ {n : Nat}, jv_all p n = true → ∀ i, i < n → p i = true
  | 0, _, i, hi => absurd hi (Nat.not_lt_zero i)
  | n + 1, h, i, hi => by
    have h' : (jv_all p n && p n) = true := h
    rw [Bool.and_eq_true] at h'
    by_cases hn : i = n
    · rw [hn]; exact h'.2
    · exact jv_all_ok h'.1 i (by omega)
theorem ax_at_far {sh : ax_Sh} {a : Nat} (h : sh.length ≤ a / 8) : ax_at sh a = none := by
  unfold ax_at
  rw [am_nth_eq, List.getElem?_eq_none h]
def jv_er : ax_R → ax_R → Bool
  | [], [] => true
  | (a, b) :: l, (c, d) :: m => (Nat.beq a c && Nat.beq b d) && jv_er l m
  | _, _ => false
theorem jv_er_ok : ∀ {l m : ax_R}, jv_er l m = true → l = m
  | [], [], _ => rfl
  | [], _ :: _, h => by cases h
  | _ :: _, [], h => by cases h
  | (a, b) :: l, (c, d) :: m, h => by
    have h' : ((Nat.beq a c && Nat.beq b d) && jv_er l m) = true := h
    rw [Bool.and_eq_true, Bool.and_eq_true] at h'
    rw [Nat.eq_of_beq_eq_true h'.1.1, Nat.eq_of_beq_eq_true h'.1.2, jv_er_ok h'.2]
def jv_ec : List ax_R → List ax_R → Bool
  | [], [] => true
  | a :: l, c :: m => jv_er a c && jv_ec l m
  | _, _ => false
theorem jv_ec_ok : ∀ {l m : List ax_R}, jv_ec l m = true → l = m
  | [], [], _ => rfl
  | [], _ :: _, h => by cases h
  | _ :: _, [], h => by cases h
  | a :: l, c :: m, h => by
    have h' : (jv_er a c && jv_ec l m) = true := h
    rw [Bool.and_eq_true] at h'
    rw [jv_er_ok h'.1, jv_ec_ok h'.2]
def jv_eC (s' s : ax_C) : Bool := match s', s with
  | .inl (kd, n, _, cols), .inl (kd', n', w', cols') => (Nat.beq kd kd' && Nat.beq n n') && (Nat.beq 0 w' && jv_ec cols cols')
  | _, _ => false
theorem jv_eC_ok {s' s : ax_C} (h : jv_eC s' s = true) : ax_sc s' = s := by
  rcases s' with ⟨kd, n, w, cols⟩ | ⟨ci, fs⟩
  · rcases s with ⟨kd', n', w', cols'⟩ | ⟨ci', fs'⟩
    · have h' : ((Nat.beq kd kd' && Nat.beq n n') && (Nat.beq 0 w' && jv_ec cols cols')) = true := h
      rw [Bool.and_eq_true, Bool.and_eq_true, Bool.and_eq_true] at h'
      obtain ⟨⟨h1, h2⟩, h3, h4⟩ := h'
      rw [Nat.eq_of_beq_eq_true h1, Nat.eq_of_beq_eq_true h2, ← Nat.eq_of_beq_eq_true h3, jv_ec_ok h4]
      rfl
    · cases h
  · cases h
noncomputable def jv_dx (xs : ax_Sh) (a : Nat) : Bool := match ax_at sbm a with
  | none => true
  | some s => match ax_at xs a with
    | none => true
    | some s' => jv_eC s' s
noncomputable def jv_dm (sb ms : ax_Sh) (a : Nat) : Bool := match ax_at sb a with
  | none => true
  | some _ => match ax_at ms a with
    | none => true
    | some (.inl (_, _, w, _)) => Nat.beq w 0
    | _ => false
/-- behind a call of the class the reference's cells are as they were -/
theorem jv_xm {xs : ax_Sh} (hd : jv_all (jv_dx xs) 96 = true) {h h' : am_H} (hm : ax_I sbm h) (hI : ax_I xs h') (hF : ax_Fr xs h h') : ax_I sbm h' := by
  intro a s hs
  by_cases ha : a < 96
  · have hq := jv_all_ok hd a ha
    unfold jv_dx at hq
    rw [hs] at hq
    dsimp only at hq
    cases hx : ax_at xs a with
    | none =>
      rw [hF.2.2.1 a hx]
      exact hm a s hs
    | some s' =>
      rw [hx] at hq
      have hq' : ax_sc s' = s := jv_eC_ok hq
      obtain ⟨e, h1, h2⟩ := hI a s' hx
      refine ⟨e, h1, ?_⟩
      rw [← hq']
      exact (ax_ok_sc s' e).mpr h2
  · have : ax_at sbm a = none := ax_at_far (by show 12 ≤ a / 8; omega)
    rw [this] at hs
    cases hs
/-- and the other way round -/
theorem jv_mx {sb ms : ax_Sh} (hl : sb.length = 9) (hd : jv_all (jv_dm sb ms) 96 = true) {h h' : am_H} (hx : ax_I sb h) (hF : ax_Fr ms h h') : ax_I sb h' := by
  intro a s hs
  by_cases ha : a < 96
  · have hq := jv_all_ok hd a ha
    unfold jv_dm at hq
    rw [hs] at hq
    dsimp only at hq
    have hg : am_get h' a = am_get h a := by
      split at hq
      · rename_i hn
        exact hF.2.2.1 a hn
      · rename_i kd n w cols hn
        have := Nat.eq_of_beq_eq_true hq
        subst this
        exact hF.2.2.2.1 a kd n cols hn
      · cases hq
    rw [hg]
    exact hx a s hs
  · have : ax_at sb a = none := ax_at_far (by rw [hl]; omega)
    rw [this] at hs
    cases hs
theorem ax_fv_get {h h' : am_H} {a : Nat} (hg : am_get h' a = am_get h a) (k : Nat) : ax_fv h' a k = ax_fv h a k := by
  unfold ax_fv
  rw [hg]
theorem dx_xq0 : jv_all (jv_dx xq0) 96 = true := by decide +kernel
theorem dx_xq1 : jv_all (jv_dx xq1) 96 = true := by decide +kernel
theorem dx_xw0 : jv_all (jv_dx xw0) 96 = true := by decide +kernel
theorem dx_xw1 : jv_all (jv_dx xw1) 96 = true := by decide +kernel
theorem dm_mq0 : jv_all (jv_dm sb0 mq) 96 = true := by decide +kernel
theorem dm_mq1 : jv_all (jv_dm sb1 mq) 96 = true := by decide +kernel
theorem dm_ml0 : jv_all (jv_dm sb0 ml) 96 = true := by decide +kernel
theorem dm_ml1 : jv_all (jv_dm sb1 ml) 96 = true := by decide +kernel
theorem dm_mw0 : jv_all (jv_dm sb0 mw) 96 = true := by decide +kernel
theorem dm_mw1 : jv_all (jv_dm sb1 mw) 96 = true := by decide +kernel
theorem dm_mb0 : jv_all (jv_dm sb0 mb) 96 = true := by decide +kernel
theorem dm_mb1 : jv_all (jv_dm sb1 mb) 96 = true := by decide +kernel
theorem dm_mkp0 : jv_all (jv_dm sb0 mkp) 96 = true := by decide +kernel
theorem dm_mkp1 : jv_all (jv_dm sb1 mkp) 96 = true := by decide +kernel
theorem dx_xk0 : jv_all (jv_dx xk0) 96 = true := by decide +kernel
theorem dx_xk1 : jv_all (jv_dx xk1) 96 = true := by decide +kernel
theorem kc_xq0_4 : kc xq0 4 = true := by decide +kernel
theorem kc_xq1_17 : kc xq1 17 = true := by decide +kernel
theorem kc_xk0_4 : kc xk0 4 = true := by decide +kernel
theorem kc_xk1_17 : kc xk1 17 = true := by decide +kernel
theorem kc_mq_4 : kc mq 4 = true := by decide +kernel
theorem kc_mq_17 : kc mq 17 = true := by decide +kernel
theorem kc_mb_4 : kc mb 4 = true := by decide +kernel
theorem kc_mb_17 : kc mb 17 = true := by decide +kernel
theorem kc_mkp_4 : kc mkp 4 = true := by decide +kernel
theorem kc_mkp_17 : kc mkp 17 = true := by decide +kernel
theorem kc_ml_4 : kc ml 4 = true := by decide +kernel
theorem kc_ml_17 : kc ml 17 = true := by decide +kernel
/-- a call of the class that leaves the text alone -/
theorem jv_x {j : Nat} {vs : List Value} (c0 : ax_Cn xq0 j vs) (c1 : ax_Cn xq1 j vs) {h : am_H} (hJ : Jv h) : ∃ n h', am_EG (am_mi j) vs h (some (.retAddr n), h') ∧ Jv h' ∧ h'.1 = h.1 ∧ h'.2.1 = h.2.1 := by
  obtain ⟨⟨hI, hm⟩, ⟨n, t1, t2, t3⟩, a, g, x, q1, q2, q3, q4⟩ := hJ
  rcases hI with hI | hI
  · obtain ⟨v, h', e1, e2, e3⟩ := c0 h ((ax_I_to st_xq0).mp hI)
    have g66 : am_get h' 66 = am_get h 66 := e3.2.2.1 66 rfl
    have g86 : am_get h' 86 = am_get h 86 := e3.2.2.1 86 rfl
    refine ⟨v, h', e1, ⟨⟨Or.inl ((ax_I_to st_xq0).mpr e2), jv_xm dx_xq0 hm e2 e3⟩, ⟨n, ?_, by rw [ax_fv_get g66]; exact t2, jv_X_get (e3.2.2.2.1 1 1 200 _ rfl) (e3.2.2.1 73 rfl) (e3.2.2.2.2 0 11 _ 16 _ rfl rfl) (ax_fv_get g66 53) (jv_E_0 hI ((ax_I_to st_xq0).mpr e2) (kp_Fr kc_xq0_4 e3)) t3⟩, a, g, x, by rw [ax_fv_get g66]; exact q1, by rw [ax_fv_get g66]; exact q2, by rw [g86]; exact q3, q4⟩, e3.1, e3.2.1⟩
    rw [e3.2.2.2.2 0 11 _ 1 _ rfl rfl]
    exact t1
  · obtain ⟨v, h', e1, e2, e3⟩ := c1 h ((ax_I_to st_xq1).mp hI)
    have g66 : am_get h' 66 = am_get h 66 := e3.2.2.1 66 rfl
    have g86 : am_get h' 86 = am_get h 86 := e3.2.2.1 86 rfl
    refine ⟨v, h', e1, ⟨⟨Or.inr ((ax_I_to st_xq1).mpr e2), jv_xm dx_xq1 hm e2 e3⟩, ⟨n, ?_, by rw [ax_fv_get g66]; exact t2, jv_X_get (e3.2.2.2.1 1 1 200 _ rfl) (e3.2.2.1 73 rfl) (e3.2.2.2.2 0 11 _ 16 _ rfl rfl) (ax_fv_get g66 53) (jv_E_1 hI ((ax_I_to st_xq1).mpr e2) (kp_Fr kc_xq1_17 e3)) t3⟩, a, g, x, by rw [ax_fv_get g66]; exact q1, by rw [ax_fv_get g66]; exact q2, by rw [g86]; exact q3, q4⟩, e3.1, e3.2.1⟩
    rw [e3.2.2.2.2 0 11 _ 1 _ rfl rfl]
    exact t1
/-- what is left to be known of a call of the reference that leaves the text alone, under a shape -/
theorem jv_ms {ms : ax_Sh} (hs : ax_ss ms = sbm) (d0 : jv_all (jv_dm sb0 ms) 96 = true) (d1 : jv_all (jv_dm sb1 ms) 96 = true) {h h' : am_H} (hJ : jv_I h) (e2 : ax_I ms h') (e3 : ax_Fr ms h h') : jv_I h' := by
  obtain ⟨hI, hm⟩ := hJ
  refine ⟨?_, (ax_I_to hs).mpr e2⟩
  rcases hI with hI | hI
  · exact Or.inl (jv_mx rfl d0 hI e3)
  · exact Or.inr (jv_mx rfl d1 hI e3)
theorem jv_m {j : Nat} {vs : List Value} (c0 : ax_Cn mq j vs) {h : am_H} (hJ : Jv h) : ∃ n h', am_EG (am_mi j) vs h (some (.retAddr n), h') ∧ Jv h' ∧ h'.1 = h.1 ∧ h'.2.1 = h.2.1 := by
  obtain ⟨hI, ⟨n, t1, t2, t3⟩, a, g, x, q1, q2, q3, q4⟩ := hJ
  obtain ⟨v, h', e1, e2, e3⟩ := c0 h ((ax_I_to st_mq).mp hI.2)
  have g0 : am_get h' 0 = am_get h 0 := e3.2.2.1 0 rfl
  have g86 : am_get h' 86 = am_get h 86 := e3.2.2.2.1 86 0 8 _ rfl
  refine ⟨v, h', e1, ⟨jv_ms st_mq dm_mq0 dm_mq1 hI e2 e3, ⟨n, by rw [ax_fv_get g0]; exact t1, ?_, jv_X_get (e3.2.2.1 1 rfl) (e3.2.2.2.1 73 0 200 _ rfl) (ax_fv_get g0 16) (e3.2.2.2.2 66 12 _ 53 _ rfl rfl) (jv_E_b (fun i => jv_mx rfl dm_mq0 i e3) (fun i => jv_mx rfl dm_mq1 i e3) (kp_Fr kc_mq_4 e3) (kp_Fr kc_mq_17 e3)) t3⟩, a, g, x, ?_, ?_, by rw [g86]; exact q3, q4⟩, e3.1, e3.2.1⟩
  · rw [e3.2.2.2.2 66 12 _ 15 _ rfl rfl]
    exact t2
  · rw [e3.2.2.2.2 66 12 _ 42 _ rfl rfl]
    exact q1
  · rw [e3.2.2.2.2 66 12 _ 40 _ rfl rfl]
    exact q2
theorem jv_g0 {h : am_H} (hJ : jv_I h) : ∃ fs, am_get h 0 = some (.inr (11, fs)) := by
  obtain ⟨hI, -⟩ := hJ
  rcases hI with hI | hI
  · obtain ⟨vs, hv, -⟩ := hI.obj (a := 0) rfl
    exact ⟨vs, hv⟩
  · obtain ⟨vs, hv, -⟩ := hI.obj (a := 0) rfl
    exact ⟨vs, hv⟩
theorem jv_g66 {h : am_H} (hJ : jv_I h) : ∃ fs, am_get h 66 = some (.inr (12, fs)) := by
  obtain ⟨vs, hv, -⟩ := hJ.2.obj (a := 66) rfl
  exact ⟨vs, hv⟩
/-- two calls whose answers aren't compared -/
theorem jv_2 {jx jm : Nat} {as : List Value} (hx : ∀ h, Jv h → ∃ n h', am_EG (am_mi jx) (.ref 0 :: as) h (some (.retAddr n), h') ∧ Jv h' ∧ h'.1 = h.1 ∧ h'.2.1 = h.2.1) (hm : ∀ h, Jv h → ∃ n h', am_EG (am_mi jm) (.ref 66 :: as) h (some (.retAddr n), h') ∧ Jv h' ∧ h'.1 = h.1 ∧ h'.2.1 = h.2.1) : am_B2 Jv false jx jm as := by
  intro h hJ
  obtain ⟨v, h1, a1, a2, a3⟩ := hx h hJ
  obtain ⟨w, h2, b1, b2, b3⟩ := hm h1 a2
  exact ⟨v, h1, w, h2, a1, b1, fun q => (by cases q), b2, jv_g0 hJ.1, jv_g66 a2.1, a3, b3⟩
/-- the rows' own numbers, column by column -/
def je_B (Z X : Nat → Nat) : Prop := ∀ k, k < 6 → ∀ i, i < Z k → ∀ c, c < je_w k → am_ag (X k) (je_w k * i + c) ≤ je_b k c
theorem je_zl {Z : Nat → Nat} (vZ : ∀ k, k < 6 → Z k ≤ je_z k) : ∀ k, k < 6 → Z k * je_w k ≤ je_l k := fun k hk => by
  have := vZ k hk
  match k, hk, this with
  | 0, _, q => show Z 0 * 1 ≤ 4; have q : Z 0 ≤ 4 := q; omega
  | 1, _, q => show Z 1 * 5 ≤ 45; have q : Z 1 ≤ 9 := q; omega
  | 2, _, q => show Z 2 * 3 ≤ 18; have q : Z 2 ≤ 6 := q; omega
  | 3, _, q => show Z 3 * 4 ≤ 16; have q : Z 3 ≤ 4 := q; omega
  | 4, _, q => show Z 4 * 3 ≤ 18; have q : Z 4 ≤ 6 := q; omega
  | 5, _, q => show Z 5 * 2 ≤ 8; have q : Z 5 ≤ 4 := q; omega
  | k + 6, hk, _ => exact absurd hk (by omega)
theorem je_bY {Z Y : Nat → Nat} (vZ : ∀ k, k < 6 → Z k ≤ je_z k) (vY : ∀ k, k < 6 → ∀ i, i < je_l k → am_ag (Y k) i ≤ je_b k (i % je_w k)) : je_B Z Y := fun k hk i hi c hc => by
  have q := vY k hk (je_w k * i + c) (Nat.lt_of_lt_of_le (row_lt hi hc) (je_zl vZ k hk))
  rw [Nat.mul_add_mod, Nat.mod_eq_of_lt hc] at q
  exact q
theorem je_bX {Z X Y : Nat → Nat} (vZ : ∀ k, k < 6 → Z k ≤ je_z k) (vY : ∀ k, k < 6 → ∀ i, i < je_l k → am_ag (Y k) i ≤ je_b k (i % je_w k)) (vC : ∀ k, k < 6 → ∀ i, i < Z k * je_w k → am_ag (X k) i = am_ag (Y k) i) : je_B Z X := fun k hk i hi c hc => by
  rw [vC k hk _ (row_lt hi hc)]
  exact je_bY vZ vY k hk i hi c hc
theorem je_B_bd {Z X : Nat → Nat} (h : je_B Z X) : sc_bd Z X := ⟨fun i hi => h 1 (by decide) i hi 2 (by decide), fun i hi => h 2 (by decide) i hi 2 (by decide), fun i hi => h 3 (by decide) i hi 2 (by decide)⟩
