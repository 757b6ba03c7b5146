/-! ===== what a screen shows, purely ===== -/
/-- n numbers from a place on are set -/
def fl (x o v : Nat) : Nat → Nat
  | 0 => x
  | n + 1 => am_as (fl x o v n) (o + n) v
theorem fl_ag (x o v : Nat) : ∀ (n i : Nat), am_ag (fl x o v n) i = if o ≤ i ∧ i < o + n then v % 4294967296 else am_ag x i
  | 0, i => by
    rw [if_neg (by omega)]
    rfl
  | n + 1, i => by
    show am_ag (am_as (fl x o v n) (o + n) v) i = _
    rw [am_ag_as, fl_ag x o v n i]
    by_cases q : i = o + n
    · rw [if_pos q, if_pos (by omega)]
    · rw [if_neg q]
      by_cases q2 : o ≤ i ∧ i < o + n
      · rw [if_pos q2, if_pos (by omega)]
      · rw [if_neg q2, if_neg (by omega)]
/-- row i (so many numbers wide) is of station s and minute t -/
def sc_c (x w i s t : Nat) : Bool := Nat.beq (am_ag x (w * i)) s && (Nat.ble (am_ag x (w * i + 1)) t && Nat.ble t (am_ag x (w * i + 2)))
theorem sc_c_iff {x w i s t : Nat} : sc_c x w i s t = true ↔ am_ag x (w * i) = s ∧ am_ag x (w * i + 1) ≤ t ∧ t ≤ am_ag x (w * i + 2) := by
  unfold sc_c
  rw [Bool.and_eq_true, Bool.and_eq_true]
  exact ⟨fun ⟨a, b, c⟩ => ⟨Nat.eq_of_beq_eq_true a, Nat.le_of_ble_eq_true b, Nat.le_of_ble_eq_true c⟩, fun ⟨a, b, c⟩ => ⟨by rw [a]; exact Nat.beq_refl s, Nat.ble_eq_true_of_le b, Nat.ble_eq_true_of_le c⟩⟩
/-- what the last of the first n rows tells, else b -/
def pk (x w : Nat) (on : Nat → Bool) (v : Nat → Nat) (b s t : Nat) : Nat → Nat
  | 0 => b
  | n + 1 => if on n = true ∧ sc_c x w n s t = true then v n else pk x w on v b s t n
/-- one of the first n rows is of it -/
def sc_b (x w : Nat) (on : Nat → Bool) (s t : Nat) : Nat → Bool
  | 0 => false
  | n + 1 => sc_b x w on s t n || (on n && sc_c x w n s t)
theorem pk_c {x w : Nat} {on : Nat → Bool} {v b s t : Nat} : ∀ n, pk x w on (fun _ => v) b s t n = if sc_b x w on s t n = true then v else b
  | 0 => rfl
  | n + 1 => by
    show (if on n = true ∧ sc_c x w n s t = true then v else pk x w on (fun _ => v) b s t n) = if (sc_b x w on s t n || (on n && sc_c x w n s t)) = true then v else b
    rw [pk_c n]
    by_cases q : on n = true ∧ sc_c x w n s t = true
    · rw [if_pos q, q.1, q.2, Bool.and_self, Bool.or_true, if_pos rfl]
    · rw [if_neg q]
      have : (on n && sc_c x w n s t) = false := by
        cases h1 : on n
        · rfl
        · cases h2 : sc_c x w n s t
          · rfl
          · exact absurd ⟨h1, h2⟩ q
      rw [this, Bool.or_false]
theorem sc_c_cg {x y w i s t : Nat} (hw : 3 ≤ w) (h : ∀ j, j < w → am_ag x (w * i + j) = am_ag y (w * i + j)) : sc_c x w i s t = sc_c y w i s t := by
  unfold sc_c
  rw [show am_ag x (w * i) = am_ag y (w * i) from h 0 (by omega), h 1 (by omega), h 2 (by omega)]
theorem row_lt {w i j n : Nat} (hi : i < n) (hj : j < w) : w * i + j < n * w := by
  have h1 : w * (i + 1) ≤ w * n := Nat.mul_le_mul_left w hi
  rw [Nat.mul_add, Nat.mul_one] at h1
  rw [Nat.mul_comm n w]
  omega
theorem sc_b_cg {x y w : Nat} {on : Nat → Bool} {s t : Nat} (hw : 3 ≤ w) : ∀ {n : Nat}, (∀ i, i < n * w → am_ag x i = am_ag y i) → sc_b x w on s t n = sc_b y w on s t n
  | 0, _ => rfl
  | n + 1, h => by
    show (sc_b x w on s t n || (on n && sc_c x w n s t)) = (sc_b y w on s t n || (on n && sc_c y w n s t))
    rw [sc_b_cg hw (n := n) (fun i hi => h i (by rw [Nat.add_mul]; omega)), sc_c_cg hw (fun j hj => h _ (row_lt (Nat.lt_succ_self n) hj))]
theorem pk_cg {x y w : Nat} {on : Nat → Bool} {u v : Nat → Nat} {b s t : Nat} (hw : 3 ≤ w) : ∀ {n : Nat}, (∀ i, i < n * w → am_ag x i = am_ag y i) → (∀ i, i < n → u i = v i) → pk x w on u b s t n = pk y w on v b s t n
  | 0, _, _ => rfl
  | n + 1, h, hu => by
    show (if on n = true ∧ sc_c x w n s t = true then u n else pk x w on u b s t n) = (if on n = true ∧ sc_c y w n s t = true then v n else pk y w on v b s t n)
    rw [pk_cg hw (n := n) (fun i hi => h i (by rw [Nat.add_mul]; omega)) (fun i hi => hu i (by omega)), sc_c_cg hw (fun j hj => h _ (row_lt (Nat.lt_succ_self n) hj)), hu n (Nat.lt_succ_self n)]
theorem pk_P {P : Nat → Prop} {x w : Nat} {on : Nat → Bool} {v : Nat → Nat} {b s t : Nat} (hb : P b) : ∀ {n : Nat}, (∀ i, i < n → P (v i)) → P (pk x w on v b s t n)
  | 0, _ => hb
  | n + 1, h => by
    show P (if on n = true ∧ sc_c x w n s t = true then v n else pk x w on v b s t n)
    split
    · exact h n (Nat.lt_succ_self n)
    · exact pk_P hb (fun i hi => h i (by omega))
/-- rows laid over stations, q minutes wide each -/
def sw (q x w : Nat) (on : Nat → Bool) (v : Nat → Nat) (y : Nat) : Nat → Nat
  | 0 => y
  | n + 1 => if on n = true then fl (sw q x w on v y n) (q * am_ag x (w * n) + am_ag x (w * n + 1)) (v n) (am_ag x (w * n + 2) + 1 - am_ag x (w * n + 1)) else sw q x w on v y n
theorem sw_ag {q x w : Nat} {on : Nat → Bool} {v : Nat → Nat} {y s t : Nat} (hq : 60 ≤ q) (ht : t < q) : ∀ {n : Nat}, (∀ i, i < n → am_ag x (w * i + 2) ≤ 59) → (∀ i, i < n → v i < 4294967296) → am_ag (sw q x w on v y n) (q * s + t) = pk x w on v (am_ag y (q * s + t)) s t n
  | 0, _, _ => rfl
  | n + 1, h, hv => by
    have ih := sw_ag (x := x) (w := w) (on := on) (v := v) (y := y) (s := s) hq ht (n := n) (fun i hi => h i (by omega)) (fun i hi => hv i (by omega))
    have b1 := h n (Nat.lt_succ_self n)
    have b2 := hv n (Nat.lt_succ_self n)
    show am_ag (if on n = true then fl (sw q x w on v y n) (q * am_ag x (w * n) + am_ag x (w * n + 1)) (v n) (am_ag x (w * n + 2) + 1 - am_ag x (w * n + 1)) else sw q x w on v y n) (q * s + t) = if on n = true ∧ sc_c x w n s t = true then v n else pk x w on v (am_ag y (q * s + t)) s t n
    by_cases q1 : on n = true
    · rw [if_pos q1, fl_ag, ih]
      have key : (q * am_ag x (w * n) + am_ag x (w * n + 1) ≤ q * s + t ∧ q * s + t < q * am_ag x (w * n) + am_ag x (w * n + 1) + (am_ag x (w * n + 2) + 1 - am_ag x (w * n + 1))) ↔ sc_c x w n s t = true := by
        rw [sc_c_iff]
        constructor
        · rintro ⟨a1, a2⟩
          have e : am_ag x (w * n) = s := by
            rcases Nat.lt_trichotomy (am_ag x (w * n)) s with hlt | he | hgt
            · have h3 : q * (am_ag x (w * n) + 1) ≤ q * s := Nat.mul_le_mul_left q hlt
              rw [Nat.mul_add, Nat.mul_one] at h3
              omega
            · exact he
            · have h3 : q * (s + 1) ≤ q * am_ag x (w * n) := Nat.mul_le_mul_left q hgt
              rw [Nat.mul_add, Nat.mul_one] at h3
              omega
          rw [e] at a1 a2
          exact ⟨e, by omega, by omega⟩
        · rintro ⟨rfl, a2, a3⟩
          exact ⟨by omega, by omega⟩
      by_cases q2 : sc_c x w n s t = true
      · rw [if_pos (key.mpr q2), if_pos ⟨q1, q2⟩, Nat.mod_eq_of_lt b2]
      · rw [if_neg (fun a => q2 (key.mp a)), if_neg (fun a => q2 a.2)]
    · rw [if_neg q1, if_neg (fun a => q1 a.1), ih]
theorem fl_P {P : Nat → Prop} {x o v : Nat} (hx : ∀ i, P (am_ag x i)) (hv : P (v % 4294967296)) (n i : Nat) : P (am_ag (fl x o v n) i) := by
  rw [fl_ag]
  split
  · exact hv
  · exact hx i
theorem fl_Pb {P : Nat → Prop} {N x o v : Nat} (hx : ∀ i, i < N → P (am_ag x i)) (hv : P (v % 4294967296)) (n i : Nat) (hi : i < N) : P (am_ag (fl x o v n) i) := by
  rw [fl_ag]
  split
  · exact hv
  · exact hx i hi
theorem sw_P {P : Nat → Prop} {N q x w : Nat} {on : Nat → Bool} {v : Nat → Nat} {y : Nat} (hx : ∀ i, i < N → P (am_ag y i)) : ∀ {n : Nat}, (∀ i, i < n → P (v i % 4294967296)) → ∀ i, i < N → P (am_ag (sw q x w on v y n) i)
  | 0, _, i, hi => hx i hi
  | n + 1, h, i, hi => by
    show P (am_ag (if on n = true then fl (sw q x w on v y n) _ (v n) _ else sw q x w on v y n) i)
    split
    · exact fl_Pb (sw_P hx (fun i hi => h i (by omega))) (h n (Nat.lt_succ_self n)) _ i hi
    · exact sw_P hx (fun i hi => h i (by omega)) i hi
/-- the first of all: every station's own -/
def ss (q : Nat) (v : Nat → Nat) (y : Nat) : Nat → Nat
  | 0 => y
  | n + 1 => fl (ss q v y n) (q * n) (v n) 60
theorem ss_ag {q : Nat} {v : Nat → Nat} {y s t : Nat} (hq : 60 ≤ q) (ht : t < 60) : ∀ {n : Nat}, (∀ i, i < n → v i < 4294967296) → am_ag (ss q v y n) (q * s + t) = if s < n then v s else am_ag y (q * s + t)
  | 0, _ => by
    rw [if_neg (Nat.not_lt_zero s)]
    rfl
  | n + 1, hv => by
    show am_ag (fl (ss q v y n) (q * n) (v n) 60) (q * s + t) = _
    rw [fl_ag, ss_ag hq ht (fun i hi => hv i (by omega))]
    by_cases e : s = n
    · subst e
      rw [if_pos ⟨by omega, by omega⟩, if_pos (Nat.lt_succ_self s), Nat.mod_eq_of_lt (hv s (Nat.lt_succ_self s))]
    · have hne : ¬ (q * n ≤ q * s + t ∧ q * s + t < q * n + 60) := by
        rintro ⟨a1, a2⟩
        rcases Nat.lt_or_gt_of_ne e with h | h
        · have h3 : q * (s + 1) ≤ q * n := Nat.mul_le_mul_left q h
          rw [Nat.mul_add, Nat.mul_one] at h3
          omega
        · have h3 : q * (n + 1) ≤ q * s := Nat.mul_le_mul_left q h
          rw [Nat.mul_add, Nat.mul_one] at h3
          omega
      rw [if_neg hne]
      by_cases q2 : s < n
      · rw [if_pos q2, if_pos (by omega)]
      · rw [if_neg q2, if_neg (by omega)]
theorem ss_P {P : Nat → Prop} {N q : Nat} {v : Nat → Nat} {y : Nat} (hx : ∀ i, i < N → P (am_ag y i)) : ∀ {n : Nat}, (∀ i, i < n → P (v i % 4294967296)) → ∀ i, i < N → P (am_ag (ss q v y n) i)
  | 0, _, i, hi => hx i hi
  | n + 1, h, i, hi => fl_Pb (ss_P hx (fun i hi => h i (by omega))) (h n (Nat.lt_succ_self n)) _ i hi
/-- the evening's screen: breaks (some by chance), worth, facts; without one scene -/
def sc_B (Z R : Nat → Nat) (come s t : Nat) : Bool := sc_b (R 2) 3 (fun _ => true) s t (Z 2) || sc_b (R 3) 4 (fun c => come.testBit c) s t (Z 3)
def sc_ne (wo n : Nat) : Bool := !Nat.beq n wo
def sc_sw (Z R : Nat → Nat) (wo s t : Nat) : Nat := pk (R 1) 5 (sc_ne wo) (fun n => am_ag (R 1) (5 * n + 3)) (am_ag (R 0) s) s t (Z 1)
def sc_sf (Z R : Nat → Nat) (wo s t : Nat) : Nat := pk (R 1) 5 (sc_ne wo) (fun n => am_ag (R 1) (5 * n + 4)) 8 s t (Z 1)
def sc_W (Z R : Nat → Nat) (come wo s t : Nat) : Nat := if sc_B Z R come s t = true then 0 else sc_sw Z R wo s t
def sc_F (Z R : Nat → Nat) (come wo s t : Nat) : Nat := if sc_B Z R come s t = true then 8 else sc_sf Z R wo s t
theorem sc_B_cg {Z X Y : Nat → Nat} (h2 : ∀ i, i < Z 2 * 3 → am_ag (X 2) i = am_ag (Y 2) i) (h3 : ∀ i, i < Z 3 * 4 → am_ag (X 3) i = am_ag (Y 3) i) (come s t : Nat) : sc_B Z X come s t = sc_B Z Y come s t := by
  unfold sc_B
  rw [sc_b_cg (by decide) h2, sc_b_cg (by decide) h3]
theorem sc_sw_cg {Z X Y : Nat → Nat} (h0 : ∀ i, i < Z 0 * 1 → am_ag (X 0) i = am_ag (Y 0) i) (h1 : ∀ i, i < Z 1 * 5 → am_ag (X 1) i = am_ag (Y 1) i) (wo s t : Nat) (hs : s < Z 0) : sc_sw Z X wo s t = sc_sw Z Y wo s t := by
  unfold sc_sw
  rw [h0 s (by omega)]
  exact pk_cg (by decide) h1 (fun i hi => h1 _ (row_lt hi (by decide)))
theorem sc_sf_cg {Z X Y : Nat → Nat} (h1 : ∀ i, i < Z 1 * 5 → am_ag (X 1) i = am_ag (Y 1) i) (wo s t : Nat) : sc_sf Z X wo s t = sc_sf Z Y wo s t := by
  unfold sc_sf
  exact pk_cg (by decide) h1 (fun i hi => h1 _ (row_lt hi (by decide)))
theorem sc_W_cg {Z X Y : Nat → Nat} (h0 : ∀ i, i < Z 0 * 1 → am_ag (X 0) i = am_ag (Y 0) i) (h1 : ∀ i, i < Z 1 * 5 → am_ag (X 1) i = am_ag (Y 1) i) (h2 : ∀ i, i < Z 2 * 3 → am_ag (X 2) i = am_ag (Y 2) i) (h3 : ∀ i, i < Z 3 * 4 → am_ag (X 3) i = am_ag (Y 3) i) (come wo s t : Nat) (hs : s < Z 0) : sc_W Z X come wo s t = sc_W Z Y come wo s t := by
  unfold sc_W
  rw [sc_B_cg h2 h3, sc_sw_cg h0 h1 wo s t hs]
theorem sc_F_cg {Z X Y : Nat → Nat} (h1 : ∀ i, i < Z 1 * 5 → am_ag (X 1) i = am_ag (Y 1) i) (h2 : ∀ i, i < Z 2 * 3 → am_ag (X 2) i = am_ag (Y 2) i) (h3 : ∀ i, i < Z 3 * 4 → am_ag (X 3) i = am_ag (Y 3) i) (come wo s t : Nat) : sc_F Z X come wo s t = sc_F Z Y come wo s t := by
  unfold sc_F
  rw [sc_B_cg h2 h3, sc_sf_cg h1]
/-- what the class's screen holds behind show -/
def shW (Z R : Nat → Nat) (come wo W : Nat) : Nat := sw 60 (R 3) 4 (fun c => come.testBit c) (fun _ => 0) (sw 60 (R 2) 3 (fun _ => true) (fun _ => 0) (sw 60 (R 1) 5 (sc_ne wo) (fun n => am_ag (R 1) (5 * n + 3)) (ss 60 (am_ag (R 0)) W (Z 0)) (Z 1)) (Z 2)) (Z 3)
def shF (Z R : Nat → Nat) (come wo F : Nat) : Nat := sw 60 (R 3) 4 (fun c => come.testBit c) (fun _ => 8) (sw 60 (R 2) 3 (fun _ => true) (fun _ => 8) (sw 60 (R 1) 5 (sc_ne wo) (fun n => am_ag (R 1) (5 * n + 4)) (ss 60 (fun _ => 8) F (Z 0)) (Z 1)) (Z 2)) (Z 3)
def shB (Z R : Nat → Nat) (come wo B : Nat) : Nat := sw 60 (R 3) 4 (fun c => come.testBit c) (fun _ => 1) (sw 60 (R 2) 3 (fun _ => true) (fun _ => 1) (sw 60 (R 1) 5 (sc_ne wo) (fun _ => 0) (ss 60 (fun _ => 0) B (Z 0)) (Z 1)) (Z 2)) (Z 3)
/-- the rows' bounds that matter here -/
def sc_bd (Z R : Nat → Nat) : Prop := (∀ i, i < Z 1 → am_ag (R 1) (5 * i + 2) ≤ 59) ∧ (∀ i, i < Z 2 → am_ag (R 2) (3 * i + 2) ≤ 59) ∧ (∀ i, i < Z 3 → am_ag (R 3) (4 * i + 2) ≤ 59)
theorem shW_ag {Z R : Nat → Nat} (hb : sc_bd Z R) {come wo W s t : Nat} (hs : s < Z 0) (ht : t < 60) : am_ag (shW Z R come wo W) (60 * s + t) = sc_W Z R come wo s t := by
  unfold shW
  rw [sw_ag (Nat.le_refl _) ht hb.2.2 (fun _ _ => by decide), sw_ag (Nat.le_refl _) ht hb.2.1 (fun _ _ => by decide), sw_ag (Nat.le_refl _) ht hb.1 (fun _ _ => am_ag_lt _ _), ss_ag (Nat.le_refl _) ht (fun _ _ => am_ag_lt _ _), if_pos hs, pk_c, pk_c]
  unfold sc_W sc_B sc_sw
  cases sc_b (R 2) 3 (fun _ => true) s t (Z 2) <;> cases sc_b (R 3) 4 (fun c => come.testBit c) s t (Z 3) <;> rfl
theorem shF_ag {Z R : Nat → Nat} (hb : sc_bd Z R) {come wo F s t : Nat} (hs : s < Z 0) (ht : t < 60) : am_ag (shF Z R come wo F) (60 * s + t) = sc_F Z R come wo s t := by
  unfold shF
  rw [sw_ag (Nat.le_refl _) ht hb.2.2 (fun _ _ => by decide), sw_ag (Nat.le_refl _) ht hb.2.1 (fun _ _ => by decide), sw_ag (Nat.le_refl _) ht hb.1 (fun _ _ => am_ag_lt _ _), ss_ag (Nat.le_refl _) ht (fun _ _ => by decide), if_pos hs, pk_c, pk_c]
  unfold sc_F sc_B sc_sf
  cases sc_b (R 2) 3 (fun _ => true) s t (Z 2) <;> cases sc_b (R 3) 4 (fun c => come.testBit c) s t (Z 3) <;> rfl
theorem shB_ag {Z R : Nat → Nat} (hb : sc_bd Z R) {come wo B s t : Nat} (hs : s < Z 0) (ht : t < 60) : am_ag (shB Z R come wo B) (60 * s + t) = if sc_B Z R come s t = true then 1 else 0 := by
  unfold shB
  rw [sw_ag (Nat.le_refl _) ht hb.2.2 (fun _ _ => by decide), sw_ag (Nat.le_refl _) ht hb.2.1 (fun _ _ => by decide), sw_ag (Nat.le_refl _) ht hb.1 (fun _ _ => by decide), ss_ag (Nat.le_refl _) ht (fun _ _ => by decide), if_pos hs, pk_c, pk_c, pk_c, ite_self]
  unfold sc_B
  cases sc_b (R 2) 3 (fun _ => true) s t (Z 2) <;> cases sc_b (R 3) 4 (fun c => come.testBit c) s t (Z 3) <;> rfl
theorem shW_P {P : Nat → Prop} {N : Nat} {Z R : Nat → Nat} {come wo W : Nat} (h : ∀ i, i < N → P (am_ag W i)) (h0 : P 0) (hs : ∀ i, i < Z 0 → P (am_ag (R 0) i)) (hm : ∀ i, i < Z 1 → P (am_ag (R 1) (5 * i + 3))) : ∀ i, i < N → P (am_ag (shW Z R come wo W) i) := by
  unfold shW
  refine sw_P (sw_P (sw_P (ss_P h fun i hi => ?_) fun i hi => ?_) fun i hi => h0) fun i hi => h0
  · rw [Nat.mod_eq_of_lt (am_ag_lt _ _)]
    exact hs i hi
  · rw [Nat.mod_eq_of_lt (am_ag_lt _ _)]
    exact hm i hi
theorem shF_P {P : Nat → Prop} {N : Nat} {Z R : Nat → Nat} {come wo F : Nat} (h : ∀ i, i < N → P (am_ag F i)) (h8 : P 8) (hm : ∀ i, i < Z 1 → P (am_ag (R 1) (5 * i + 4))) : ∀ i, i < N → P (am_ag (shF Z R come wo F) i) := by
  unfold shF
  refine sw_P (sw_P (sw_P (ss_P h fun i hi => h8) fun i hi => ?_) fun i hi => h8) fun i hi => h8
  rw [Nat.mod_eq_of_lt (am_ag_lt _ _)]
  exact hm i hi
theorem shB_P {P : Nat → Prop} {N : Nat} {Z R : Nat → Nat} {come wo B : Nat} (h : ∀ i, i < N → P (am_ag B i)) (h0 : P 0) (h1 : P 1) : ∀ i, i < N → P (am_ag (shB Z R come wo B) i) := by
  unfold shB
  exact sw_P (sw_P (sw_P (ss_P h fun i hi => h0) fun i hi => h0) fun i hi => h1) fun i hi => h1
