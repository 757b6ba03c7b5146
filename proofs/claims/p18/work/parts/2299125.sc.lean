/-! ===== what the reference's screen shows, purely ===== -/
/-- all numbers from the first on are set, one behind the other -/
def zf (g : Nat → Nat) (x : Nat) : Nat → Nat
  | 0 => x
  | n + 1 => am_as (zf g x n) n (g n)
theorem zf_ag (g : Nat → Nat) (x : Nat) : ∀ (n i : Nat), am_ag (zf g x n) i = if i < n then g i % 4294967296 else am_ag x i
  | 0, i => by
    rw [if_neg (Nat.not_lt_zero i)]
    rfl
  | n + 1, i => by
    show am_ag (am_as (zf g x n) n (g n)) i = _
    rw [am_ag_as, zf_ag g x n i]
    by_cases q : i = n
    · subst q
      rw [if_pos rfl, if_pos (Nat.lt_succ_self i)]
    · rw [if_neg q]
      by_cases q2 : i < n
      · rw [if_pos q2, if_pos (by omega)]
      · rw [if_neg q2, if_neg (by omega)]
theorem zf_P {P : Nat → Prop} {g : Nat → Nat} {x n : Nat} (h : ∀ i, i < n → P (g i % 4294967296)) : ∀ i, i < n → P (am_ag (zf g x n) i) := fun i hi => by
  rw [zf_ag, if_pos hi]
  exact h i hi
/-- what the reference's screen holds behind layCase -/
def lcw (Z R : Nat → Nat) (wo w : Nat) : Nat := sw 64 (R 1) 5 (sc_ne wo) (fun n => am_ag (R 1) (5 * n + 3)) (zf (fun k => am_ag (R 0) (k / 64)) w 256) (Z 1)
def lc_8 (x : Nat) : Nat := if x = 8 then 4294967292 else x
def lcf (Z R : Nat → Nat) (wo f : Nat) : Nat := sw 64 (R 1) 5 (sc_ne wo) (fun n => lc_8 (am_ag (R 1) (5 * n + 4))) (zf (fun _ => 4294967292) f 256) (Z 1)
def lcB (Z R : Nat → Nat) (come b : Nat) : Nat := sw 64 (R 3) 4 (fun c => come.testBit c) (fun _ => 1) (sw 64 (R 2) 3 (fun _ => true) (fun _ => 1) (zf (fun _ => 0) b 256) (Z 2)) (Z 3)
def lb (bb x v : Nat) (k : Nat) : Nat := if am_ag bb k = 0 then am_ag x k else v
def lcW (Z R : Nat → Nat) (come wo w b : Nat) : Nat := zf (lb (lcB Z R come b) (lcw Z R wo w) 0) (lcw Z R wo w) 256
def lcF (Z R : Nat → Nat) (come wo f b : Nat) : Nat := zf (lb (lcB Z R come b) (lcf Z R wo f) 4294967292) (lcf Z R wo f) 256
theorem lcB_ag {Z R : Nat → Nat} (hb : sc_bd Z R) {come b s t : Nat} (hs : s < 4) (ht : t < 64) : am_ag (lcB Z R come b) (64 * s + t) = if sc_B Z R come s t = true then 1 else 0 := by
  unfold lcB
  rw [sw_ag (by decide) ht hb.2.2 (fun _ _ => by decide), sw_ag (by decide) ht hb.2.1 (fun _ _ => by decide), zf_ag, if_pos (by omega), pk_c, pk_c]
  unfold sc_B
  cases sc_b (R 2) 3 (fun _ => true) s t (Z 2) <;> cases sc_b (R 3) 4 (fun c => come.testBit c) s t (Z 3) <;> rfl
theorem lcw_ag {Z R : Nat → Nat} (hb : sc_bd Z R) {wo w s t : Nat} (hs : s < 4) (ht : t < 64) : am_ag (lcw Z R wo w) (64 * s + t) = sc_sw Z R wo s t := by
  unfold lcw sc_sw
  rw [sw_ag (by decide) ht hb.1 (fun _ _ => am_ag_lt _ _), zf_ag, if_pos (by omega), Nat.mod_eq_of_lt (am_ag_lt _ _), show (64 * s + t) / 64 = s by omega]
theorem lc_8_lt (x : Nat) (h : x < 4294967296) : lc_8 x < 4294967296 := by
  unfold lc_8
  split
  · decide
  · exact h
theorem pk_8 {x w : Nat} {on : Nat → Bool} {v : Nat → Nat} {b s t : Nat} : ∀ n, pk x w on (fun i => lc_8 (v i)) (lc_8 b) s t n = lc_8 (pk x w on v b s t n)
  | 0 => rfl
  | n + 1 => by
    show (if on n = true ∧ sc_c x w n s t = true then lc_8 (v n) else pk x w on (fun i => lc_8 (v i)) (lc_8 b) s t n) = lc_8 (if on n = true ∧ sc_c x w n s t = true then v n else pk x w on v b s t n)
    rw [pk_8 n]
    split <;> rfl
theorem lcf_ag {Z R : Nat → Nat} (hb : sc_bd Z R) {wo f s t : Nat} (hs : s < 4) (ht : t < 64) : am_ag (lcf Z R wo f) (64 * s + t) = lc_8 (sc_sf Z R wo s t) := by
  unfold lcf sc_sf
  rw [sw_ag (by decide) ht hb.1 (fun _ _ => lc_8_lt _ (am_ag_lt _ _)), zf_ag, if_pos (by omega), ← pk_8]
  rfl
theorem lcW_ag {Z R : Nat → Nat} (hb : sc_bd Z R) {come wo w b s t : Nat} (hs : s < 4) (ht : t < 64) : am_ag (lcW Z R come wo w b) (64 * s + t) = sc_W Z R come wo s t := by
  unfold lcW lb
  rw [zf_ag, if_pos (by omega), lcB_ag hb hs ht, lcw_ag hb hs ht]
  unfold sc_W
  have h1 : sc_sw Z R wo s t < 4294967296 := by
    unfold sc_sw
    exact pk_P (P := fun n => n < 4294967296) (am_ag_lt _ _) (fun i _ => am_ag_lt _ _)
  cases sc_B Z R come s t
  · rw [if_pos (show (if false = true then (1 : Nat) else 0) = 0 from rfl), Nat.mod_eq_of_lt h1]
    rfl
  · rfl
theorem lcF_ag {Z R : Nat → Nat} (hb : sc_bd Z R) {come wo f b s t : Nat} (hs : s < 4) (ht : t < 64) : am_ag (lcF Z R come wo f b) (64 * s + t) = lc_8 (sc_F Z R come wo s t) := by
  unfold lcF lb
  rw [zf_ag, if_pos (by omega), lcB_ag hb hs ht, lcf_ag hb hs ht]
  unfold sc_F
  have h1 : sc_sf Z R wo s t < 4294967296 := by
    unfold sc_sf
    exact pk_P (P := fun n => n < 4294967296) (by decide) (fun i _ => am_ag_lt _ _)
  cases sc_B Z R come s t
  · rw [if_pos (show (if false = true then (1 : Nat) else 0) = 0 from rfl), Nat.mod_eq_of_lt (lc_8_lt _ h1)]
    rfl
  · rfl
theorem lcw_P {P : Nat → Prop} {Z R : Nat → Nat} {wo w : Nat} (hs : ∀ i, i < 4 → P (am_ag (R 0) i)) (hm : ∀ i, i < Z 1 → P (am_ag (R 1) (5 * i + 3))) : ∀ i, i < 256 → P (am_ag (lcw Z R wo w) i) := by
  unfold lcw
  refine sw_P (zf_P fun i hi => ?_) fun i hi => ?_
  · rw [Nat.mod_eq_of_lt (am_ag_lt _ _)]
    exact hs _ (by omega)
  · rw [Nat.mod_eq_of_lt (am_ag_lt _ _)]
    exact hm i hi
theorem lcf_P {P : Nat → Prop} {Z R : Nat → Nat} {wo f : Nat} (h0 : P 4294967292) (hm : ∀ i, i < Z 1 → P (lc_8 (am_ag (R 1) (5 * i + 4)))) : ∀ i, i < 256 → P (am_ag (lcf Z R wo f) i) := by
  unfold lcf
  refine sw_P (zf_P fun i hi => h0) fun i hi => ?_
  rw [Nat.mod_eq_of_lt (lc_8_lt _ (am_ag_lt _ _))]
  exact hm i hi
theorem lcB_P {P : Nat → Prop} {Z R : Nat → Nat} {come b : Nat} (h0 : P 0) (h1 : P 1) : ∀ i, i < 256 → P (am_ag (lcB Z R come b) i) := by
  unfold lcB
  exact sw_P (sw_P (zf_P fun i hi => h0) fun i hi => h1) fun i hi => h1
theorem lb_P {P : Nat → Prop} {bb x v : Nat} (hx : ∀ i, i < 256 → P (am_ag x i)) (hv : P (v % 4294967296)) : ∀ i, i < 256 → P (am_ag (zf (lb bb x v) x 256) i) := zf_P fun i hi => by
  unfold lb
  split
  · rw [Nat.mod_eq_of_lt (am_ag_lt _ _)]
    exact hx i hi
  · exact hv
