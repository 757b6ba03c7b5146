/-! ===== night: what is drawn, what is seen ===== -/
def ni_E (z t s : Nat) : Int64 := let x := ((((7919 : Int64) * (Int32.ofNat z).toInt64) + ((6151 : Int64) * (Int32.ofNat t).toInt64)) + ((3571 : Int64) * (Int32.ofNat s).toInt64)) + Int64.ofNat 1; let y := (x * x) - (x * x) / (65521 : Int64) * (65521 : Int64); y - y / (4 : Int64) * (4 : Int64)
theorem ng_cmp {a : Int64} (h : ¬ a = 0) : ∃ v, lg_cmp a (Int64.ofNat 0) = Int32.ofNat v ∧ v % 4294967296 ≠ 0 := by
  have h' : ¬ a = Int64.ofNat 0 := h
  unfold lg_cmp
  by_cases h1 : a > Int64.ofNat 0
  · exact ⟨1, by rw [if_pos h1]; rfl, by decide⟩
  · exact ⟨4294967295, by rw [if_neg h1, if_neg h']; rfl, by decide⟩
def mp_ (f : Nat → Nat → Nat) : Nat → Nat → Nat → Nat
  | 0, _, c => c
  | m + 1, k, c => mp_ f m (k + 1) (am_as c k (f k (am_ag c k)))
theorem ag_mp (f : Nat → Nat → Nat) : ∀ (m k c j : Nat), am_ag (mp_ f m k c) j = if k ≤ j ∧ j < k + m then f j (am_ag c j) % 4294967296 else am_ag c j
  | 0, k, c, j => by
    rw [if_neg (by omega)]
    rfl
  | m + 1, k, c, j => by
    show am_ag (mp_ f m (k + 1) (am_as c k (f k (am_ag c k)))) j = _
    rw [ag_mp f m (k + 1), am_ag_as]
    by_cases h1 : j = k
    · subst h1
      rw [if_neg (by omega), if_pos rfl, if_pos (by omega)]
    · rw [if_neg h1]
      by_cases h2 : k + 1 ≤ j ∧ j < k + 1 + m
      · rw [if_pos h2, if_pos (by omega)]
      · rw [if_neg h2, if_neg (by omega)]
theorem am_as_same (c k : Nat) : am_as c k (am_ag c k) = c := by
  unfold am_as
  rw [Nat.mod_eq_of_lt (am_ag_lt c k), Nat.xor_self, Nat.zero_shiftLeft, Nat.xor_zero]
def fx_ (z s v : Nat) (j x : Nat) : Nat := if ni_E z (j - s * 60) s = 0 then v else x
theorem fx_at (z s v t x : Nat) : fx_ z s v (s * 60 + t) x = if ni_E z t s = 0 then v else x := by
  unfold fx_
  rw [Nat.add_sub_cancel_left]
theorem mpx_t {z t s : Nat} (hE : ni_E z t s = 0) (v m c : Nat) : mp_ (fx_ z s v) (m + 1) (s * 60 + t) c = mp_ (fx_ z s v) m (s * 60 + t + 1) (am_as c (s * 60 + t) v) := by
  show mp_ (fx_ z s v) m (s * 60 + t + 1) (am_as c (s * 60 + t) (fx_ z s v (s * 60 + t) (am_ag c (s * 60 + t)))) = _
  rw [fx_at, if_pos hE]
theorem mpx_f {z t s : Nat} (hE : ¬ ni_E z t s = 0) (v m c : Nat) : mp_ (fx_ z s v) (m + 1) (s * 60 + t) c = mp_ (fx_ z s v) m (s * 60 + t + 1) c := by
  show mp_ (fx_ z s v) m (s * 60 + t + 1) (am_as c (s * 60 + t) (fx_ z s v (s * 60 + t) (am_ag c (s * 60 + t)))) = _
  rw [fx_at, if_neg hE, am_as_same]
def nz_ (z v c : Nat) : Nat := mp_ (fx_ z 1 v) 12 (1 * 60 + 0) (mp_ (fx_ z 0 v) 12 (0 * 60 + 0) c)
theorem ng_if {p : Prop} [Decidable p] {a b : Nat} (h1 : a < 4294967296) (h2 : b < 4294967296) : (if p then a else b) % 4294967296 = if p then a else b := by
  split
  · exact Nat.mod_eq_of_lt h1
  · exact Nat.mod_eq_of_lt h2
theorem nz_at (z v c s t : Nat) (hs : s < 2) (ht : t < 12) (hv : v < 4294967296) : am_ag (nz_ z v c) (s * 60 + t) = if ni_E z t s = 0 then v else am_ag c (s * 60 + t) := by
  have c2 : s = 0 ∨ s = 1 := by omega
  unfold nz_
  rw [ag_mp, ag_mp]
  rcases c2 with rfl | rfl
  · rw [if_neg (by omega), if_pos (by omega), fx_at, ng_if hv (am_ag_lt _ _)]
  · rw [if_pos (by omega), if_neg (by omega), fx_at, ng_if hv (am_ag_lt _ _)]
def fm_ (z s : Nat) (j _x : Nat) : Nat := if ni_E z (j - 64 * s) s = 0 then 1 else 0
theorem fm_at (z s t x : Nat) : fm_ z s (64 * s + t) x = if ni_E z t s = 0 then 1 else 0 := by
  unfold fm_
  rw [Nat.add_sub_cancel_left]
theorem mpm_t {z t s : Nat} (hE : ni_E z t s = 0) (m c : Nat) : mp_ (fm_ z s) (m + 1) (64 * s + t) c = mp_ (fm_ z s) m (64 * s + t + 1) (am_as c (64 * s + t) 1) := by
  show mp_ (fm_ z s) m (64 * s + t + 1) (am_as c (64 * s + t) (fm_ z s (64 * s + t) (am_ag c (64 * s + t)))) = _
  rw [fm_at, if_pos hE]
theorem mpm_f {z t s : Nat} (hE : ¬ ni_E z t s = 0) (m c : Nat) : mp_ (fm_ z s) (m + 1) (64 * s + t) c = mp_ (fm_ z s) m (64 * s + t + 1) (am_as c (64 * s + t) 0) := by
  show mp_ (fm_ z s) m (64 * s + t + 1) (am_as c (64 * s + t) (fm_ z s (64 * s + t) (am_ag c (64 * s + t)))) = _
  rw [fm_at, if_neg hE]
def ny_ (z c : Nat) : Nat := mp_ (fm_ z 1) 12 (64 * 1 + 0) (mp_ (fm_ z 0) 12 (64 * 0 + 0) c)
theorem ny_at (z c s t : Nat) (hs : s < 2) (ht : t < 12) : am_ag (ny_ z c) (64 * s + t) = if ni_E z t s = 0 then 1 else 0 := by
  have c2 : s = 0 ∨ s = 1 := by omega
  unfold ny_
  rw [ag_mp, ag_mp]
  rcases c2 with rfl | rfl
  · rw [if_neg (by omega), if_pos (by omega), fm_at, ng_if (by decide) (by decide)]
  · rw [if_pos (by omega), fm_at, ng_if (by decide) (by decide)]
def fb_ (k v : Nat) (j x : Nat) : Nat := if am_ag k j = 0 then x else v
theorem mpb_t {k j : Nat} (h : am_ag k j = 0) (v m c : Nat) : mp_ (fb_ k v) (m + 1) j c = mp_ (fb_ k v) m (j + 1) (am_as c j (am_ag c j)) := by
  show mp_ (fb_ k v) m (j + 1) (am_as c j (fb_ k v j (am_ag c j))) = _
  unfold fb_
  rw [if_pos h]
theorem mpb_f {k j : Nat} (h : ¬ am_ag k j = 0) (v m c : Nat) : mp_ (fb_ k v) (m + 1) j c = mp_ (fb_ k v) m (j + 1) (am_as c j v) := by
  show mp_ (fb_ k v) m (j + 1) (am_as c j (fb_ k v j (am_ag c j))) = _
  unfold fb_
  rw [if_neg h]
def ov_ (he x y : Nat) : Nat := if x = 0 then he else if y = 0 then 1 - he else he
def be_ (he w0 w1 : Nat) : Nat := if he = 0 then (if w0 < w1 then 1 else 0) else (if w1 < w0 then 0 else 1)
def wi_ (K own he b0 b1 w0 w1 : Nat) : Nat := if K = 0 then he else if K = 1 then (if he = 0 then ov_ 0 b0 b1 else ov_ 1 b1 b0) else if K = 2 then (if (if own = 0 then b0 else b1) = 0 then own else (if he = 0 then ov_ 0 b0 b1 else ov_ 1 b1 b0)) else be_ he w0 w1
theorem wi_lt {K own he : Nat} (h1 : own < 2) (h2 : he < 2) (b0 b1 w0 w1 : Nat) : wi_ K own he b0 b1 w0 w1 < 2 := by
  unfold wi_ ov_ be_
  repeat' split
  all_goals omega
def ws_ (w b : Nat → Nat → Nat) (K own : Nat) : Nat → Nat → Nat → Nat → Nat → Nat × Nat
  | 0, _, _, wo, go => (wo, go)
  | m + 1, t, he, wo, go => if wi_ K own he (b 0 t) (b 1 t) (w 0 t) (w 1 t) = he then ws_ w b K own m (t + 1) he ((wo + w he t) % 4294967296) go else ws_ w b K own m (t + 1) (wi_ K own he (b 0 t) (b 1 t) (w 0 t) (w 1 t)) wo ((go + 1) % 4294967296)
theorem ws_s {w b : Nat → Nat → Nat} {K own t he : Nat} (h : wi_ K own he (b 0 t) (b 1 t) (w 0 t) (w 1 t) = he) (m wo go : Nat) : ws_ w b K own (m + 1) t he wo go = ws_ w b K own m (t + 1) he ((wo + w he t) % 4294967296) go := by
  show (if wi_ K own he (b 0 t) (b 1 t) (w 0 t) (w 1 t) = he then _ else _) = _
  rw [if_pos h]
theorem ws_d {w b : Nat → Nat → Nat} {K own t he : Nat} (h : ¬ wi_ K own he (b 0 t) (b 1 t) (w 0 t) (w 1 t) = he) (m wo go : Nat) : ws_ w b K own (m + 1) t he wo go = ws_ w b K own m (t + 1) (wi_ K own he (b 0 t) (b 1 t) (w 0 t) (w 1 t)) wo ((go + 1) % 4294967296) := by
  show (if wi_ K own he (b 0 t) (b 1 t) (w 0 t) (w 1 t) = he then _ else _) = _
  rw [if_neg h]
