/-! ===== symbolic runs: ranges ===== -/
abbrev ax_R : Type := List (Nat × Nat)
def ax_in (v : Nat) (R : ax_R) : Prop := v < 4294967296 ∧ ∃ r ∈ R, r.1 ≤ v ∧ v ≤ r.2
def ax_min (a b : Nat) : Nat := bif Nat.ble a b then a else b
def ax_max (a b : Nat) : Nat := bif Nat.ble a b then b else a
theorem ax_ble_t {a b : Nat} (h : Nat.ble a b = true) : a ≤ b := Nat.le_of_ble_eq_true h
theorem ax_ble_f {a b : Nat} (h : Nat.ble a b = false) : b < a := by
  have := Nat.not_le_of_not_ble_eq_true (fun q => by rw [h] at q; cases q)
  omega
theorem ax_blt_t {a b : Nat} (h : Nat.blt a b = true) : a < b := Nat.le_of_ble_eq_true h
theorem ax_blt_f {a b : Nat} (h : Nat.blt a b = false) : b ≤ a := by
  have := ax_ble_f (a := a + 1) (b := b) h
  omega
theorem ax_min_le (a b : Nat) : ax_min a b ≤ a ∧ ax_min a b ≤ b := by
  unfold ax_min
  cases h : Nat.ble a b
  · exact ⟨Nat.le_of_lt (ax_ble_f h), Nat.le_refl _⟩
  · exact ⟨Nat.le_refl _, ax_ble_t h⟩
theorem ax_le_max (a b : Nat) : a ≤ ax_max a b ∧ b ≤ ax_max a b := by
  unfold ax_max
  cases h : Nat.ble a b
  · exact ⟨Nat.le_refl _, Nat.le_of_lt (ax_ble_f h)⟩
  · exact ⟨ax_ble_t h, Nat.le_refl _⟩
theorem ax_le_min {v a b : Nat} (h1 : v ≤ a) (h2 : v ≤ b) : v ≤ ax_min a b := by
  unfold ax_min
  cases h : Nat.ble a b
  · exact h2
  · exact h1
theorem ax_max_le {v a b : Nat} (h1 : a ≤ v) (h2 : b ≤ v) : ax_max a b ≤ v := by
  unfold ax_max
  cases h : Nat.ble a b
  · exact h1
  · exact h2
theorem ax_in_sub {v : Nat} {A B : ax_R} (h : ax_in v A) (hs : ∀ r ∈ A, r.1 ≤ v → v ≤ r.2 → ∃ q ∈ B, q.1 ≤ v ∧ v ≤ q.2) : ax_in v B := by
  obtain ⟨h1, r, hr, h2, h3⟩ := h
  exact ⟨h1, hs r hr h2 h3⟩
theorem ax_in_l {v : Nat} {A B : ax_R} (h : ax_in v A) : ax_in v (A ++ B) := ax_in_sub h fun r hr h1 h2 => ⟨r, List.mem_append_left _ hr, h1, h2⟩
theorem ax_in_r {v : Nat} {A B : ax_R} (h : ax_in v B) : ax_in v (A ++ B) := ax_in_sub h fun r hr h1 h2 => ⟨r, List.mem_append_right _ hr, h1, h2⟩
theorem ax_in_1 {v lo hi : Nat} (h : v < 4294967296) (h1 : lo ≤ v) (h2 : v ≤ hi) : ax_in v [(lo, hi)] := ⟨h, _, List.mem_singleton.mpr rfl, h1, h2⟩
def ax_top : ax_R := [(0, 2147483647), (2147483648, 4294967295)]
def ax_sp (lo hi : Nat) : ax_R := bif Nat.blt hi 2147483648 || Nat.ble 2147483648 lo then [(lo, hi)] else [(lo, 2147483647), (2147483648, hi)]
theorem ax_in_sp {v lo hi : Nat} (h : v < 4294967296) (h1 : lo ≤ v) (h2 : v ≤ hi) : ax_in v (ax_sp lo hi) := by
  unfold ax_sp
  cases Nat.blt hi 2147483648 || Nat.ble 2147483648 lo
  · by_cases hv : v ≤ 2147483647
    · exact ⟨h, _, List.mem_cons_self, h1, hv⟩
    · exact ⟨h, _, List.mem_cons_of_mem _ List.mem_cons_self, (show 2147483648 ≤ v by omega), h2⟩
  · exact ax_in_1 h h1 h2
theorem ax_in_top {v : Nat} (h : v < 4294967296) : ax_in v ax_top := ax_in_sp (lo := 0) (hi := 4294967295) h (Nat.zero_le _) (by omega)
def ax_hl : ax_R → ax_R
  | [] => []
  | a :: l => match ax_hl l with
    | [] => [a]
    | b :: _ => [(ax_min a.1 b.1, ax_max a.2 b.2)]
theorem ax_in_hl {v : Nat} (hv : v < 4294967296) : ∀ {A : ax_R}, (∃ r ∈ A, r.1 ≤ v ∧ v ≤ r.2) → ∃ r ∈ ax_hl A, r.1 ≤ v ∧ v ≤ r.2
  | [], h => by obtain ⟨r, hr, _⟩ := h; cases hr
  | a :: l, h => by
    obtain ⟨r, hr, h1, h2⟩ := h
    show ∃ r ∈ (match ax_hl l with
      | [] => [a]
      | b :: _ => [(ax_min a.1 b.1, ax_max a.2 b.2)]), r.1 ≤ v ∧ v ≤ r.2
    have hlen : ∀ l : ax_R, ∀ b t, ax_hl l = b :: t → t = [] := by
      intro l b t hb
      cases l with
      | nil => cases hb
      | cons x y =>
        have hb' : (match ax_hl y with
          | [] => [x]
          | b :: _ => [(ax_min x.1 b.1, ax_max x.2 b.2)]) = b :: t := hb
        cases hy : ax_hl y with
        | nil => rw [hy] at hb'; cases hb'; rfl
        | cons c d => rw [hy] at hb'; cases hb'; rfl
    rcases List.mem_cons.mp hr with rfl | hr
    · cases hl : ax_hl l with
      | nil => exact ⟨r, List.mem_cons_self, h1, h2⟩
      | cons b t => exact ⟨_, List.mem_cons_self, Nat.le_trans (ax_min_le _ _).1 h1, Nat.le_trans h2 (ax_le_max _ _).1⟩
    · obtain ⟨q, hq, h3, h4⟩ := ax_in_hl hv ⟨r, hr, h1, h2⟩
      cases hl : ax_hl l with
      | nil => rw [hl] at hq; cases hq
      | cons b t =>
        rw [hl, hlen l b t hl] at hq
        have : q = b := List.mem_singleton.mp hq
        subst this
        exact ⟨_, List.mem_cons_self, Nat.le_trans (ax_min_le _ _).2 h3, Nat.le_trans h4 (ax_le_max _ _).2⟩
def ax_nrm (l : ax_R) : ax_R := bif Nat.ble l.length 2 then l else ax_hl (l.filter fun r => Nat.blt r.1 2147483648) ++ ax_hl (l.filter fun r => Nat.ble 2147483648 r.1)
theorem ax_in_nrm {v : Nat} {A : ax_R} (h : ax_in v A) : ax_in v (ax_nrm A) := by
  unfold ax_nrm
  cases Nat.ble A.length 2
  · obtain ⟨h1, r, hr, h2, h3⟩ := h
    cases hb : Nat.blt r.1 2147483648
    · have hc : Nat.ble 2147483648 r.1 = true := Nat.ble_eq_true_of_le (ax_blt_f hb)
      exact ax_in_r ⟨h1, ax_in_hl h1 ⟨r, List.mem_filter.mpr ⟨hr, hc⟩, h2, h3⟩⟩
    · exact ax_in_l ⟨h1, ax_in_hl h1 ⟨r, List.mem_filter.mpr ⟨hr, hb⟩, h2, h3⟩⟩
  · exact h
/-! pairs of ranges -/
abbrev ax_G : Type := Nat × Nat → Nat × Nat → Option ax_R
def ax_b1 (g : ax_G) (a : Nat × Nat) : ax_R → Option ax_R
  | [] => some []
  | b :: B => match g a b with
    | some r => match ax_b1 g a B with
      | some l => some (r ++ l)
      | none => none
    | none => none
def ax_b2 (g : ax_G) (B : ax_R) : ax_R → Option ax_R
  | [] => some []
  | a :: A => match ax_b1 g a B with
    | some r => match ax_b2 g B A with
      | some l => some (r ++ l)
      | none => none
    | none => none
def ax_bn (g : ax_G) (A B : ax_R) : Option ax_R := match ax_b2 g B A with
  | some l => some (ax_nrm l)
  | none => none
def ax_Gok (f : Nat → Nat → Nat) (Q : Nat → Nat → Prop) (g : ax_G) : Prop := ∀ (a b : Nat × Nat) (r : ax_R) (x y : Nat), g a b = some r → a.1 ≤ x → x ≤ a.2 → b.1 ≤ y → y ≤ b.2 → x < 4294967296 → y < 4294967296 → ax_in (f x y) r ∧ Q x y
theorem ax_b1_ok {f : Nat → Nat → Nat} {Q : Nat → Nat → Prop} {g : ax_G} (hg : ax_Gok f Q g) {a : Nat × Nat} {x y : Nat} (h1 : a.1 ≤ x) (h2 : x ≤ a.2) (hx : x < 4294967296) (hy : y < 4294967296) : ∀ {B R : ax_R}, ax_b1 g a B = some R → (∃ b ∈ B, b.1 ≤ y ∧ y ≤ b.2) → ax_in (f x y) R ∧ Q x y
  | [], R, _, h => by obtain ⟨b, hb, _⟩ := h; cases hb
  | b :: B, R, e, h => by
    have e' : (match g a b with
      | some r => match ax_b1 g a B with
        | some l => some (r ++ l)
        | none => none
      | none => none) = some R := e
    cases hr : g a b with
    | none => rw [hr] at e'; cases e'
    | some r =>
      rw [hr] at e'
      cases hl : ax_b1 g a B with
      | none => rw [hl] at e'; cases e'
      | some l =>
        rw [hl] at e'
        cases e'
        obtain ⟨q, hq, h3, h4⟩ := h
        rcases List.mem_cons.mp hq with rfl | hq
        · obtain ⟨p1, p2⟩ := hg a q r x y hr h1 h2 h3 h4 hx hy
          exact ⟨ax_in_l p1, p2⟩
        · obtain ⟨p1, p2⟩ := ax_b1_ok hg h1 h2 hx hy hl ⟨q, hq, h3, h4⟩
          exact ⟨ax_in_r p1, p2⟩
theorem ax_b2_ok {f : Nat → Nat → Nat} {Q : Nat → Nat → Prop} {g : ax_G} (hg : ax_Gok f Q g) {B : ax_R} {x y : Nat} (hx : x < 4294967296) (hy : ax_in y B) : ∀ {A R : ax_R}, ax_b2 g B A = some R → (∃ a ∈ A, a.1 ≤ x ∧ x ≤ a.2) → ax_in (f x y) R ∧ Q x y
  | [], R, _, h => by obtain ⟨b, hb, _⟩ := h; cases hb
  | a :: A, R, e, h => by
    have e' : (match ax_b1 g a B with
      | some r => match ax_b2 g B A with
        | some l => some (r ++ l)
        | none => none
      | none => none) = some R := e
    cases hr : ax_b1 g a B with
    | none => rw [hr] at e'; cases e'
    | some r =>
      rw [hr] at e'
      cases hl : ax_b2 g B A with
      | none => rw [hl] at e'; cases e'
      | some l =>
        rw [hl] at e'
        cases e'
        obtain ⟨q, hq, h3, h4⟩ := h
        rcases List.mem_cons.mp hq with rfl | hq
        · obtain ⟨p1, p2⟩ := ax_b1_ok hg h3 h4 hx hy.1 hr hy.2
          exact ⟨ax_in_l p1, p2⟩
        · obtain ⟨p1, p2⟩ := ax_b2_ok hg hx hy hl ⟨q, hq, h3, h4⟩
          exact ⟨ax_in_r p1, p2⟩
theorem ax_bn_ok {f : Nat → Nat → Nat} {Q : Nat → Nat → Prop} {g : ax_G} (hg : ax_Gok f Q g) {A B R : ax_R} {x y : Nat} (e : ax_bn g A B = some R) (hx : ax_in x A) (hy : ax_in y B) : ax_in (f x y) R ∧ Q x y := by
  unfold ax_bn at e
  cases hl : ax_b2 g B A with
  | none => rw [hl] at e; cases e
  | some l =>
    rw [hl] at e
    cases e
    obtain ⟨p1, p2⟩ := ax_b2_ok hg hx.1 hy hl hx.2
    exact ⟨ax_in_nrm p1, p2⟩
def ax_wr (lo hi : Nat) : ax_R := bif Nat.blt hi 4294967296 then ax_sp lo hi else (bif Nat.blt hi 8589934592 then (bif Nat.ble 4294967296 lo then ax_sp (lo - 4294967296) (hi - 4294967296) else ax_sp lo 4294967295 ++ ax_sp 0 (hi - 4294967296)) else ax_top)
theorem ax_in_wr {v lo hi : Nat} (h1 : lo ≤ v) (h2 : v ≤ hi) : ax_in (v % 4294967296) (ax_wr lo hi) := by
  have hm := Nat.mod_lt v (show 0 < 4294967296 by decide)
  unfold ax_wr
  cases hb : Nat.blt hi 4294967296
  · rw [cond_false]
    cases hc : Nat.blt hi 8589934592
    · rw [cond_false]
      exact ax_in_top hm
    · rw [cond_true]
      have hb' := ax_blt_f hb
      have hc' := ax_blt_t hc
      cases hd : Nat.ble 4294967296 lo
      · rw [cond_false]
        have hd' := ax_ble_f hd
        by_cases hv : v < 4294967296
        · rw [Nat.mod_eq_of_lt hv]
          exact ax_in_l (ax_in_sp hv h1 (by omega))
        · exact ax_in_r (ax_in_sp hm (Nat.zero_le _) (by omega))
      · rw [cond_true]
        have hd' := ax_ble_t hd
        have hv : v % 4294967296 = v - 4294967296 := by rw [Nat.mod_eq_sub_mod (by omega), Nat.mod_eq_of_lt (by omega)]
        rw [hv] at hm ⊢
        exact ax_in_sp hm (by omega) (by omega)
  · rw [cond_true]
    have hb' := ax_blt_t hb
    rw [Nat.mod_eq_of_lt (by omega)]
    exact ax_in_sp (by omega) h1 h2
def ax_gadd : ax_G := fun a b => some (ax_wr (a.1 + b.1) (a.2 + b.2))
theorem ax_gadd_ok : ax_Gok am_add (fun _ _ => True) ax_gadd := fun a b r x y e h1 h2 h3 h4 hx hy => by
  cases e
  exact ⟨ax_in_wr (by omega) (by omega), trivial⟩
def ax_gsub : ax_G := fun a b => some (ax_wr (a.1 + 4294967296 - b.2) (a.2 + 4294967296 - b.1))
theorem ax_gsub_ok : ax_Gok am_sub (fun _ _ => True) ax_gsub := fun a b r x y e h1 h2 h3 h4 hx hy => by
  cases e
  refine ⟨?_, trivial⟩
  show ax_in ((x + (4294967296 - y % 4294967296)) % 4294967296) _
  rw [Nat.mod_eq_of_lt hy]
  exact ax_in_wr (by omega) (by omega)
def ax_gmul : ax_G := fun a b => some (bif Nat.blt (a.2 * b.2) 4294967296 then ax_sp (a.1 * b.1) (a.2 * b.2) else ax_top)
theorem ax_gmul_ok : ax_Gok am_mul (fun _ _ => True) ax_gmul := fun a b r x y e h1 h2 h3 h4 hx hy => by
  cases e
  refine ⟨?_, trivial⟩
  show ax_in ((x * y) % 4294967296) _
  have hm := Nat.mod_lt (x * y) (show 0 < 4294967296 by decide)
  cases hb : Nat.blt (a.2 * b.2) 4294967296
  · rw [cond_false]
    exact ax_in_top hm
  · rw [cond_true]
    have hb' := ax_blt_t hb
    have q1 := Nat.mul_le_mul h1 h3
    have q2 := Nat.mul_le_mul h2 h4
    rw [Nat.mod_eq_of_lt (by omega)]
    exact ax_in_sp (by omega) q1 q2
def ax_gand : ax_G := fun a b => some (ax_sp 0 (ax_min a.2 b.2))
theorem ax_gand_ok : ax_Gok (fun a b => a &&& b) (fun _ _ => True) ax_gand := fun a b r x y e h1 h2 h3 h4 hx hy => by
  cases e
  have q1 : x &&& y ≤ x := Nat.and_le_left
  have q2 : x &&& y ≤ y := Nat.and_le_right
  exact ⟨show ax_in (x &&& y) _ from ax_in_sp (by omega) (Nat.zero_le _) (ax_le_min (by omega) (by omega)), trivial⟩
def ax_bl (m : Nat) : Nat := 2 ^ (Nat.log2 m + 1) - 1
theorem ax_bl_ok {m x : Nat} (h : x ≤ m) : x < 2 ^ (Nat.log2 m + 1) := Nat.lt_of_le_of_lt h Nat.lt_log2_self
def ax_gor : ax_G := fun a b => some (ax_sp (ax_max a.1 b.1) (ax_bl (ax_max a.2 b.2)))
theorem ax_gor_ok : ax_Gok (fun a b => a ||| b) (fun _ _ => True) ax_gor := fun a b r x y e h1 h2 h3 h4 hx hy => by
  cases e
  have q1 : x ≤ x ||| y := Nat.left_le_or
  have q2 : y ≤ x ||| y := Nat.right_le_or
  have q3 : x ||| y < 2 ^ 32 := Nat.or_lt_two_pow hx hy
  have q4 := Nat.or_lt_two_pow (ax_bl_ok (Nat.le_trans h2 (ax_le_max a.2 b.2).1)) (ax_bl_ok (Nat.le_trans h4 (ax_le_max a.2 b.2).2))
  refine ⟨show ax_in (x ||| y) _ from ax_in_sp q3 (ax_max_le (by omega) (by omega)) ?_, trivial⟩
  unfold ax_bl
  exact Nat.le_sub_one_of_lt q4
def ax_gxor : ax_G := fun a b => some (ax_sp 0 (ax_bl (ax_max a.2 b.2)))
theorem ax_gxor_ok : ax_Gok (fun a b => a ^^^ b) (fun _ _ => True) ax_gxor := fun a b r x y e h1 h2 h3 h4 hx hy => by
  cases e
  have q3 : x ^^^ y < 2 ^ 32 := Nat.xor_lt_two_pow hx hy
  have q4 := Nat.xor_lt_two_pow (ax_bl_ok (Nat.le_trans h2 (ax_le_max a.2 b.2).1)) (ax_bl_ok (Nat.le_trans h4 (ax_le_max a.2 b.2).2))
  refine ⟨show ax_in (x ^^^ y) _ from ax_in_sp q3 (Nat.zero_le _) ?_, trivial⟩
  unfold ax_bl
  exact Nat.le_sub_one_of_lt q4
def ax_gshl : ax_G := fun a b => some (bif Nat.blt b.2 32 && Nat.blt (a.2 <<< b.2) 4294967296 then ax_sp (a.1 <<< b.1) (a.2 <<< b.2) else ax_top)
theorem ax_shl_mono {a b x y : Nat} (h1 : a ≤ x) (h2 : b ≤ y) : a <<< b ≤ x <<< y := by
  rw [Nat.shiftLeft_eq, Nat.shiftLeft_eq]
  exact Nat.mul_le_mul h1 (Nat.pow_le_pow_right (by decide) h2)
theorem ax_shr_mono {a b x y : Nat} (h1 : a ≤ x) (h2 : y ≤ b) : a >>> b ≤ x >>> y := by
  rw [Nat.shiftRight_eq_div_pow, Nat.shiftRight_eq_div_pow]
  exact Nat.div_le_div h1 (Nat.pow_le_pow_right (by decide) h2) (Nat.ne_of_gt (Nat.two_pow_pos y))
theorem ax_gshl_ok : ax_Gok am_shl (fun _ _ => True) ax_gshl := fun a b r x y e h1 h2 h3 h4 hx hy => by
  cases e
  refine ⟨?_, trivial⟩
  show ax_in ((x <<< (y % 32)) % 4294967296) _
  have hm := Nat.mod_lt (x <<< (y % 32)) (show 0 < 4294967296 by decide)
  cases hb : Nat.blt b.2 32 && Nat.blt (a.2 <<< b.2) 4294967296
  · rw [cond_false]
    exact ax_in_top hm
  · rw [cond_true]
    rw [Bool.and_eq_true] at hb
    have hb1 := ax_blt_t hb.1
    have hb2 := ax_blt_t hb.2
    rw [Nat.mod_eq_of_lt (a := y) (by omega)]
    have q1 := ax_shl_mono h1 h3
    have q2 := ax_shl_mono h2 h4
    rw [Nat.mod_eq_of_lt (by omega)]
    exact ax_in_sp (by omega) q1 q2
def ax_gush : ax_G := fun a b => some (bif Nat.blt b.2 32 then ax_sp (a.1 >>> b.2) (a.2 >>> b.1) else ax_sp 0 a.2)
theorem ax_shr_le (x y : Nat) : x >>> y ≤ x := by
  rw [Nat.shiftRight_eq_div_pow]
  exact Nat.div_le_self _ _
theorem ax_shr_in {a b : Nat × Nat} {x y : Nat} (h1 : a.1 ≤ x) (h2 : x ≤ a.2) (h3 : b.1 ≤ y) (h4 : y ≤ b.2) (hx : x < 4294967296) : ax_in (x >>> (y % 32)) (bif Nat.blt b.2 32 then ax_sp (a.1 >>> b.2) (a.2 >>> b.1) else ax_sp 0 a.2) := by
  have q := ax_shr_le x (y % 32)
  cases hb : Nat.blt b.2 32
  · rw [cond_false]
    exact ax_in_sp (by omega) (Nat.zero_le _) (by omega)
  · rw [cond_true]
    have hb1 := ax_blt_t hb
    rw [Nat.mod_eq_of_lt (a := y) (by omega)] at q ⊢
    exact ax_in_sp (by omega) (ax_shr_mono h1 h4) (ax_shr_mono h2 h3)
theorem ax_gush_ok : ax_Gok am_ushr (fun _ _ => True) ax_gush := fun a b r x y e h1 h2 h3 h4 hx hy => by
  cases e
  refine ⟨?_, trivial⟩
  show ax_in ((x % 4294967296) >>> (y % 32)) _
  rw [Nat.mod_eq_of_lt hx]
  exact ax_shr_in h1 h2 h3 h4 hx
def ax_gshr : ax_G := fun a b => bif Nat.blt a.2 2147483648 then some (bif Nat.blt b.2 32 then ax_sp (a.1 >>> b.2) (a.2 >>> b.1) else ax_sp 0 a.2) else none
theorem ax_gshr_ok : ax_Gok am_xshr (fun x _ => x < 2147483648) ax_gshr := fun a b r x y e h1 h2 h3 h4 hx hy => by
  unfold ax_gshr at e
  cases hb : Nat.blt a.2 2147483648
  · rw [hb] at e
    cases e
  · rw [hb] at e
    cases e
    have := ax_blt_t hb
    exact ⟨ax_shr_in h1 h2 h3 h4 hx, by omega⟩
def ax_gdiv : ax_G := fun a b => bif Nat.blt a.2 2147483648 && (Nat.blt b.2 2147483648 && Nat.ble 1 b.1) then some (ax_sp (a.1 / b.2) (a.2 / b.1)) else none
def ax_grem : ax_G := fun a b => bif Nat.blt a.2 2147483648 && (Nat.blt b.2 2147483648 && Nat.ble 1 b.1) then some (ax_sp 0 (ax_min a.2 (b.2 - 1))) else none
def ax_Qd (x y : Nat) : Prop := x < 2147483648 ∧ y < 2147483648 ∧ 0 < y
theorem ax_gdiv_ok : ax_Gok (fun a b => a / b) ax_Qd ax_gdiv := fun a b r x y e h1 h2 h3 h4 hx hy => by
  unfold ax_gdiv at e
  cases hb : Nat.blt a.2 2147483648 && (Nat.blt b.2 2147483648 && Nat.ble 1 b.1)
  · rw [hb] at e
    cases e
  · rw [hb] at e
    cases e
    rw [Bool.and_eq_true, Bool.and_eq_true] at hb
    have q1 := ax_blt_t hb.1
    have q2 := ax_blt_t hb.2.1
    have q3 := ax_ble_t hb.2.2
    have q4 : x / y ≤ x := Nat.div_le_self _ _
    exact ⟨show ax_in (x / y) _ from ax_in_sp (show x / y < 4294967296 by omega) (Nat.div_le_div h1 h4 (by omega)) (Nat.div_le_div h2 h3 (by omega)), by unfold ax_Qd; omega⟩
theorem ax_grem_ok : ax_Gok (fun a b => a % b) ax_Qd ax_grem := fun a b r x y e h1 h2 h3 h4 hx hy => by
  unfold ax_grem at e
  cases hb : Nat.blt a.2 2147483648 && (Nat.blt b.2 2147483648 && Nat.ble 1 b.1)
  · rw [hb] at e
    cases e
  · rw [hb] at e
    cases e
    rw [Bool.and_eq_true, Bool.and_eq_true] at hb
    have q1 := ax_blt_t hb.1
    have q2 := ax_blt_t hb.2.1
    have q3 := ax_ble_t hb.2.2
    have q4 : x % y ≤ x := Nat.mod_le _ _
    have q5 : x % y < y := Nat.mod_lt _ (by omega)
    exact ⟨show ax_in (x % y) _ from ax_in_sp (show x % y < 4294967296 by omega) (Nat.zero_le _) (ax_le_min (by omega) (by omega)), by unfold ax_Qd; omega⟩
/-! tests -/
def ax_bi (x : Nat) : Nat := (x + 2147483648) % 4294967296
def ax_x (r : Nat × Nat) : Bool := (Nat.blt r.1 2147483648 && Nat.ble 2147483648 r.2) || Nat.ble 4294967296 r.2
def ax_lo (r : Nat × Nat) : Nat := bif ax_x r then 0 else ax_bi r.1
def ax_hi (r : Nat × Nat) : Nat := bif ax_x r then 4294967295 else ax_bi r.2
theorem ax_x_f {r : Nat × Nat} (h : ax_x r = false) : r.2 < 4294967296 ∧ (r.2 < 2147483648 ∨ 2147483648 ≤ r.1) := by
  unfold ax_x at h
  rw [Bool.or_eq_false_iff, Bool.and_eq_false_iff] at h
  have h2 := ax_ble_f h.2
  refine ⟨h2, ?_⟩
  rcases h.1 with q | q
  · exact Or.inr (ax_blt_f q)
  · exact Or.inl (ax_ble_f q)
theorem ax_bi_lt (x : Nat) : ax_bi x < 4294967296 := Nat.mod_lt _ (by decide)
theorem ax_bi_a {x : Nat} (h : x < 2147483648) : ax_bi x = x + 2147483648 := by
  unfold ax_bi
  exact Nat.mod_eq_of_lt (by omega)
theorem ax_bi_b {x : Nat} (h1 : 2147483648 ≤ x) (h2 : x < 4294967296) : ax_bi x = x - 2147483648 := by
  unfold ax_bi
  rw [Nat.mod_eq_sub_mod (by omega), Nat.mod_eq_of_lt (by omega)]
  omega
theorem ax_lo_f {r : Nat × Nat} (h : ax_x r = false) : ax_lo r = ax_bi r.1 := by
  unfold ax_lo
  rw [h, cond_false]
theorem ax_hi_f {r : Nat × Nat} (h : ax_x r = false) : ax_hi r = ax_bi r.2 := by
  unfold ax_hi
  rw [h, cond_false]
theorem ax_lohi {r : Nat × Nat} {v : Nat} (hv : v < 4294967296) (h1 : r.1 ≤ v) (h2 : v ≤ r.2) : ax_lo r ≤ ax_bi v ∧ ax_bi v ≤ ax_hi r := by
  have hb := ax_bi_lt v
  cases hx : ax_x r
  · obtain ⟨q1, q2⟩ := ax_x_f hx
    rw [ax_lo_f hx, ax_hi_f hx]
    rcases q2 with q2 | q2
    · rw [ax_bi_a (x := r.1) (by omega), ax_bi_a (x := v) (by omega), ax_bi_a (x := r.2) (by omega)]
      omega
    · rw [ax_bi_b (x := r.1) (by omega) (by omega), ax_bi_b (x := v) (by omega) (by omega), ax_bi_b (x := r.2) (by omega) (by omega)]
      omega
  · unfold ax_lo ax_hi
    rw [hx, cond_true, cond_true]
    omega
def ax_mn : ax_R → Nat
  | [] => 4294967295
  | r :: l => ax_min (ax_lo r) (ax_mn l)
def ax_mx : ax_R → Nat
  | [] => 0
  | r :: l => ax_max (ax_hi r) (ax_mx l)
theorem ax_mn_le {v : Nat} (hv : v < 4294967296) : ∀ {A : ax_R}, (∃ r ∈ A, r.1 ≤ v ∧ v ≤ r.2) → ax_mn A ≤ ax_bi v
  | [], h => by obtain ⟨r, hr, _⟩ := h; cases hr
  | a :: l, h => by
    obtain ⟨r, hr, h1, h2⟩ := h
    rcases List.mem_cons.mp hr with rfl | hr
    · exact Nat.le_trans (ax_min_le _ _).1 (ax_lohi hv h1 h2).1
    · exact Nat.le_trans (ax_min_le _ _).2 (ax_mn_le hv ⟨r, hr, h1, h2⟩)
theorem ax_le_mx {v : Nat} (hv : v < 4294967296) : ∀ {A : ax_R}, (∃ r ∈ A, r.1 ≤ v ∧ v ≤ r.2) → ax_bi v ≤ ax_mx A
  | [], h => by obtain ⟨r, hr, _⟩ := h; cases hr
  | a :: l, h => by
    obtain ⟨r, hr, h1, h2⟩ := h
    rcases List.mem_cons.mp hr with rfl | hr
    · exact Nat.le_trans (ax_lohi hv h1 h2).2 (ax_le_max _ _).1
    · exact Nat.le_trans (ax_le_mx hv ⟨r, hr, h1, h2⟩) (ax_le_max _ _).2
def ax_cut1 (lo hi : Nat) (r : Nat × Nat) : ax_R := bif ax_x r then [r] else (bif Nat.ble (ax_max (ax_lo r) lo) (ax_min (ax_hi r) hi) then [(ax_bi (ax_max (ax_lo r) lo), ax_bi (ax_min (ax_hi r) hi))] else [])
def ax_cut (A : ax_R) (lo hi : Nat) : ax_R := match A with
  | [] => []
  | r :: l => ax_cut1 lo hi r ++ ax_cut l lo hi
theorem ax_in_cut1 {v lo hi : Nat} {r : Nat × Nat} (hv : v < 4294967296) (h1 : r.1 ≤ v) (h2 : v ≤ r.2) (h3 : lo ≤ ax_bi v) (h4 : ax_bi v ≤ hi) : ax_in v (ax_cut1 lo hi r) := by
  have hb := ax_bi_lt v
  have hl := ax_lohi hv h1 h2
  unfold ax_cut1
  cases hx : ax_x r
  · rw [cond_false]
    have q1 := ax_max_le hl.1 h3
    have q2 := ax_le_min hl.2 h4
    have q3 := ax_le_max (ax_lo r) lo
    have q4 := ax_min_le (ax_hi r) hi
    rw [Nat.ble_eq_true_of_le (Nat.le_trans q1 q2), cond_true]
    generalize ax_max (ax_lo r) lo = x at q1 q3 ⊢
    generalize ax_min (ax_hi r) hi = y at q2 q4 ⊢
    obtain ⟨z1, z2⟩ := ax_x_f hx
    have e1 := ax_lo_f hx
    have e2 := ax_hi_f hx
    rw [e1] at q3
    rw [e2] at q4
    have q31 := q3.1
    have q41 := q4.1
    rcases z2 with z2 | z2
    · rw [ax_bi_a (x := r.1) (by omega)] at q31
      rw [ax_bi_a (x := r.2) (by omega)] at q41
      rw [ax_bi_a (x := v) (by omega)] at q1 q2
      refine ax_in_1 hv ?_ ?_
      · rw [ax_bi_b (x := x) (by omega) (by omega)]
        omega
      · rw [ax_bi_b (x := y) (by omega) (by omega)]
        omega
    · rw [ax_bi_b (x := r.1) (by omega) (by omega)] at q31
      rw [ax_bi_b (x := r.2) (by omega) (by omega)] at q41
      rw [ax_bi_b (x := v) (by omega) (by omega)] at q1 q2
      refine ax_in_1 hv ?_ ?_
      · rw [ax_bi_a (x := x) (by omega)]
        omega
      · rw [ax_bi_a (x := y) (by omega)]
        omega
  · rw [cond_true]
    exact ⟨hv, r, List.mem_cons_self, h1, h2⟩
theorem ax_in_cut {v lo hi : Nat} : ∀ {A : ax_R}, ax_in v A → lo ≤ ax_bi v → ax_bi v ≤ hi → ax_in v (ax_cut A lo hi)
  | [], h, _, _ => by obtain ⟨_, r, hr, _⟩ := h; cases hr
  | a :: l, h, h3, h4 => by
    obtain ⟨hv, r, hr, h1, h2⟩ := h
    rcases List.mem_cons.mp hr with rfl | hr
    · exact ax_in_l (ax_in_cut1 hv h1 h2 h3 h4)
    · exact ax_in_r (ax_in_cut ⟨hv, r, hr, h1, h2⟩ h3 h4)
def ax_is1 (a b : Nat × Nat) : ax_R := bif Nat.ble (ax_max a.1 b.1) (ax_min a.2 b.2) then [(ax_max a.1 b.1, ax_min a.2 b.2)] else []
def ax_isec (A B : ax_R) : ax_R := ax_nrm (A.flatMap fun a => B.flatMap fun b => ax_is1 a b)
theorem ax_in_isec {v : Nat} {A B : ax_R} (h1 : ax_in v A) (h2 : ax_in v B) : ax_in v (ax_isec A B) := by
  obtain ⟨hv, a, ha, a1, a2⟩ := h1
  obtain ⟨_, b, hb, b1, b2⟩ := h2
  refine ax_in_nrm ⟨hv, (ax_max a.1 b.1, ax_min a.2 b.2), ?_, ax_max_le a1 b1, ax_le_min a2 b2⟩
  refine List.mem_flatMap.mpr ⟨a, ha, List.mem_flatMap.mpr ⟨b, hb, ?_⟩⟩
  unfold ax_is1
  rw [Nat.ble_eq_true_of_le (Nat.le_trans (ax_max_le a1 b1) (ax_le_min a2 b2))]
  exact List.mem_cons_self
def ax_rm1 (v : Nat) (a : Nat × Nat) : ax_R := bif Nat.ble a.1 v && Nat.ble v a.2 then (bif Nat.blt a.1 v then [(a.1, v - 1)] else []) ++ (bif Nat.blt v a.2 then [(v + 1, a.2)] else []) else [a]
def ax_rm (A B : ax_R) : ax_R := match B with
  | [r] => bif Nat.beq r.1 r.2 then ax_nrm (A.flatMap (ax_rm1 r.1)) else A
  | _ => A
theorem ax_in_rm {x y : Nat} {A B : ax_R} (hx : ax_in x A) (hy : ax_in y B) (hn : x ≠ y) : ax_in x (ax_rm A B) := by
  unfold ax_rm
  split
  · rename_i r
    cases hb : Nat.beq r.1 r.2
    · exact hx
    · have hb' := Nat.eq_of_beq_eq_true hb
      obtain ⟨_, q, hq, b1, b2⟩ := hy
      have : q = r := List.mem_singleton.mp hq
      subst this
      have hy' : y = q.1 := by omega
      obtain ⟨hv, a, ha, a1, a2⟩ := hx
      have goal : ∃ s ∈ ax_rm1 q.1 a, s.1 ≤ x ∧ x ≤ s.2 := by
        unfold ax_rm1
        cases hc : Nat.ble a.1 q.1 && Nat.ble q.1 a.2
        · exact ⟨a, List.mem_cons_self, a1, a2⟩
        · by_cases hlt : x < q.1
          · refine ⟨(a.1, q.1 - 1), List.mem_append_left _ ?_, a1, by show x ≤ q.1 - 1; omega⟩
            rw [show Nat.blt a.1 q.1 = true from Nat.ble_eq_true_of_le (by omega)]
            exact List.mem_cons_self
          · refine ⟨(q.1 + 1, a.2), List.mem_append_right _ ?_, by show q.1 + 1 ≤ x; omega, a2⟩
            rw [show Nat.blt q.1 a.2 = true from Nat.ble_eq_true_of_le (by omega)]
            exact List.mem_cons_self
      obtain ⟨s, hs, s1, s2⟩ := goal
      exact ax_in_nrm ⟨hv, s, List.mem_flatMap.mpr ⟨a, ha, hs⟩, s1, s2⟩
  · exact hx
def ax_rf (c : Jvm.ClassFile.Cond) (A B : ax_R) : ax_R × ax_R := match c with
  | .eq => (ax_isec A B, ax_isec A B)
  | .ne => (ax_rm A B, ax_rm B A)
  | .lt => (ax_cut A 0 (ax_mx B - 1), ax_cut B (ax_mn A + 1) 4294967295)
  | .ge => (ax_cut A (ax_mn B) 4294967295, ax_cut B 0 (ax_mx A))
  | .gt => (ax_cut A (ax_mn B + 1) 4294967295, ax_cut B 0 (ax_mx A - 1))
  | .le => (ax_cut A 0 (ax_mx B), ax_cut B (ax_mn A) 4294967295)
def ax_ng (c : Jvm.ClassFile.Cond) : Jvm.ClassFile.Cond := match c with
  | .eq => .ne
  | .ne => .eq
  | .lt => .ge
  | .ge => .lt
  | .gt => .le
  | .le => .gt
theorem ax_ng_ok (c : Jvm.ClassFile.Cond) (a b : Nat) : am_tc (ax_ng c) a b = !am_tc c a b := by
  cases c <;> simp [ax_ng, am_tc]
theorem ax_rf_ok {c : Jvm.ClassFile.Cond} {x y : Nat} {A B : ax_R} (hx : ax_in x A) (hy : ax_in y B) (h : am_tc c x y = true) : ax_in x (ax_rf c A B).1 ∧ ax_in y (ax_rf c A B).2 := by
  have x1 := ax_bi_lt x
  have y1 := ax_bi_lt y
  have xm := ax_mn_le hx.1 hx.2
  have xM := ax_le_mx hx.1 hx.2
  have ym := ax_mn_le hy.1 hy.2
  have yM := ax_le_mx hy.1 hy.2
  have hxl := hx.1
  have hyl := hy.1
  have lt_t : ∀ {p q : Nat}, am_tlt p q = true → ax_bi p < ax_bi q := fun h => ax_blt_t h
  have lt_f : ∀ {p q : Nat}, am_tlt p q = false → ax_bi q ≤ ax_bi p := fun h => ax_blt_f h
  cases c
  · have e : x = y := by
      have := Nat.eq_of_beq_eq_true (show Nat.beq (x % 4294967296) (y % 4294967296) = true from h)
      omega
    subst e
    exact ⟨ax_in_isec hx hy, ax_in_isec hx hy⟩
  · have e : x ≠ y := by
      rintro rfl
      have h' : (!Nat.beq (x % 4294967296) (x % 4294967296)) = true := h
      rw [Nat.beq_refl] at h'
      cases h'
    exact ⟨ax_in_rm hx hy e, ax_in_rm hy hx (Ne.symm e)⟩
  · have h' := lt_t (show am_tlt x y = true from h)
    exact ⟨ax_in_cut hx (Nat.zero_le _) (by omega), ax_in_cut hy (by omega) (by omega)⟩
  · have h' := lt_f (p := x) (q := y) (by simpa [am_tc] using h)
    exact ⟨ax_in_cut hx (by omega) (by omega), ax_in_cut hy (Nat.zero_le _) (by omega)⟩
  · have h' := lt_t (p := y) (q := x) (by simpa [am_tc] using h)
    exact ⟨ax_in_cut hx (by omega) (by omega), ax_in_cut hy (Nat.zero_le _) (by omega)⟩
  · have h' := lt_f (p := y) (q := x) (by simpa [am_tc] using h)
    exact ⟨ax_in_cut hx (Nat.zero_le _) (by omega), ax_in_cut hy (by omega) (by omega)⟩
/-! division of any numbers -/
def am_gdvf (a b : Nat) : Nat := (Int32.ofNat a / Int32.ofNat b).toUInt32.toNat
def am_grmf (a b : Nat) : Nat := (Int32.ofNat a - Int32.ofNat a / Int32.ofNat b * Int32.ofNat b).toUInt32.toNat
theorem ax_ofn {b : Nat} (h0 : 0 < b) (hb : b < 4294967296) : ¬ Int32.ofNat b = 0 := by
  intro h
  have h1 : (Int32.ofNat b).toUInt32.toNat = (0 : Int32).toUInt32.toNat := by rw [h]
  rw [show (0 : Int32).toUInt32.toNat = 0 from by decide] at h1
  have h2 : (Int32.ofNat b).toUInt32.toNat = b % 4294967296 := by
    show (UInt32.ofNat b).toNat = _
    simp
  rw [h2, Nat.mod_eq_of_lt hb] at h1
  omega
def ax_ggd : ax_G := fun _ b => bif Nat.blt 0 b.1 then some ax_top else none
theorem ax_ggd_ok {f : Nat → Nat → Nat} (hf : ∀ x y, f x y < 4294967296) : ax_Gok f (fun _ y => 0 < y ∧ y < 4294967296) ax_ggd := fun a b r x y e h1 h2 h3 h4 hx hy => by
  unfold ax_ggd at e
  cases hb : Nat.blt 0 b.1
  · rw [hb] at e
    cases e
  · rw [hb] at e
    cases e
    have := ax_blt_t hb
    exact ⟨ax_in_top (hf x y), by omega, hy⟩
theorem am_gdvf_lt (a b : Nat) : am_gdvf a b < 4294967296 := UInt32.toNat_lt _
theorem am_grmf_lt (a b : Nat) : am_grmf a b < 4294967296 := UInt32.toNat_lt _
theorem ax_of (x : Int32) : Int32.ofNat x.toUInt32.toNat = x := by
  apply Int32.toBitVec_inj.mp
  apply BitVec.eq_of_toNat_eq
  rw [an_tn]
  show x.toBitVec.toNat % 4294967296 = x.toBitVec.toNat
  exact Nat.mod_eq_of_lt x.toBitVec.isLt
theorem ax_grm_lt {a b : Nat} (h0 : 0 < b) (hb : b < 2147483648) (h : am_grmf a b < 2147483648) : am_grmf a b < b := by
  have hy : (Int32.ofNat b).toInt = b := an_toIntS hb
  have e : Int32.ofNat a - Int32.ofNat a / Int32.ofNat b * Int32.ofNat b = Int32.ofNat a % Int32.ofNat b := by
    apply Int32.toInt_inj.mp
    rw [Int32.toInt_mod, Int32.toInt_sub, Int32.toInt_mul, Int32.toInt_div, hy]
    generalize (Int32.ofNat a).toInt = X
    simp only [Int.sub_bmod_bmod, Int.bmod_mul_bmod]
    rw [show X - X.tdiv (b : Int) * (b : Int) = X.tmod (b : Int) from by rw [Int.tmod_def, Int.mul_comm]]
    have p1 := Int.tmod_lt_of_pos X (show (0 : Int) < (b : Int) by omega)
    have p2 := Int.lt_tmod_of_pos X (show (0 : Int) < (b : Int) by omega)
    generalize X.tmod (b : Int) = t at p1 p2 ⊢
    rw [show ((2 : Nat) ^ 32) = 4294967296 from rfl]
    simp only [Int.bmod]
    omega
  have k : (Int32.ofNat (am_grmf a b)).toInt < b := by
    unfold am_grmf
    rw [ax_of, e, Int32.toInt_mod, hy]
    exact Int.tmod_lt_of_pos _ (by omega)
  rw [an_toIntS h] at k
  omega
