/-! ===== layMost of the reference ===== -/
def jm_st (c1 cm u s : Nat) : Nat := (am_ag c1 (64 * s + u) + am_ag cm (4 * (u + 1) + s)) % 4294967296
/-- what is laid at u, s is what staying gives, or what the best going gives -/
def jm_R (c1 cm g n u s : Nat) : Prop := am_ag cm (4 * u + s) = jm_st c1 cm u s ∨ (jm_bf (jm_by c1 cm g u) s n ≠ 4294967292 ∧ am_ag cm (4 * u + s) = jm_by c1 cm g u (jm_bf (jm_by c1 cm g u) s n))
theorem jm_ag_ne {cm i j v : Nat} (h : j ≠ i) : am_ag (am_as cm i v) j = am_ag cm j := by rw [am_ag_as, if_neg h]
theorem jm_by_as {c1 cm g t s v u x : Nat} (hs : s < 4) (hu : t ≤ u) : jm_by c1 (am_as cm (4 * t + s) v) g u x = jm_by c1 cm g u x := by
  unfold jm_by
  by_cases hg : g = 0
  · rw [if_pos hg, if_pos hg, jm_ag_ne (by omega)]
  · rw [if_neg hg, if_neg hg, jm_ag_ne (by omega)]
theorem jm_bf_congr {f f' : Nat → Nat} (h : ∀ x, f' x = f x) (s : Nat) : ∀ n, jm_bf f' s n = jm_bf f s n
  | 0 => rfl
  | n + 1 => by
    have ih := jm_bf_congr h s n
    show (if n = s then jm_bf f' s n else if jm_bf f' s n = 4294967292 then n else if am_tlt (f' (jm_bf f' s n)) (f' n) = true then n else jm_bf f' s n) = (if n = s then jm_bf f s n else if jm_bf f s n = 4294967292 then n else if am_tlt (f (jm_bf f s n)) (f n) = true then n else jm_bf f s n)
    rw [ih, h, h]
theorem jm_R_as {c1 cm g n t s v u x : Nat} (hs : s < 4) (hx : x < 4) (hu : t < u ∨ (t = u ∧ x ≠ s)) (hR : jm_R c1 cm g n u x) : jm_R c1 (am_as cm (4 * t + s) v) g n u x := by
  have hu' : t ≤ u := by omega
  have e1 : am_ag (am_as cm (4 * t + s) v) (4 * u + x) = am_ag cm (4 * u + x) := jm_ag_ne (by omega)
  have e2 : jm_st c1 (am_as cm (4 * t + s) v) u x = jm_st c1 cm u x := by unfold jm_st; rw [jm_ag_ne (by omega)]
  have e3 : jm_bf (jm_by c1 (am_as cm (4 * t + s) v) g u) x n = jm_bf (jm_by c1 cm g u) x n := jm_bf_congr (fun y => jm_by_as hs hu') x n
  unfold jm_R
  rw [e1, e2, e3, jm_by_as hs hu']
  exact hR
/-- what has just been laid -/
theorem jm_R_new {c1 cm g n t s v : Nat} (hs : s < 4) (hv : v < 4294967296) (h : v = jm_st c1 cm t s ∨ (jm_bf (jm_by c1 cm g t) s n ≠ 4294967292 ∧ v = jm_by c1 cm g t (jm_bf (jm_by c1 cm g t) s n))) : jm_R c1 (am_as cm (4 * t + s) v) g n t s := by
  have e1 : am_ag (am_as cm (4 * t + s) v) (4 * t + s) = v := by rw [am_ag_as, if_pos rfl, Nat.mod_eq_of_lt hv]
  have e2 : jm_st c1 (am_as cm (4 * t + s) v) t s = jm_st c1 cm t s := by unfold jm_st; rw [jm_ag_ne (by omega)]
  have e3 : jm_bf (jm_by c1 (am_as cm (4 * t + s) v) g t) s n = jm_bf (jm_by c1 cm g t) s n := jm_bf_congr (fun y => jm_by_as hs (Nat.le_refl _)) s n
  unfold jm_R
  rw [e1, e2, e3, jm_by_as hs (Nat.le_refl _)]
  exact h
