/-! ===== routes of the reference ===== -/
def mr_T (cm t s : Nat) : Nat := if t < 64 then am_ag cm (4 * t + s) else 0
theorem rt_row' {fw T T' : Nat → Nat → Nat} {go n mi t s : Nat} (ht : t < mi) (hs : s < n) (e : ∀ u, t < u → ∀ k, k < n → T u k = T' u k) (e2 : ∀ k, k < n → k ≠ s → T t k = T' t k) (ev : T' t s = rt_v fw T go n t s) (h : rt_R fw T go n mi (t + 1)) (hr : ∀ k, k < s → T t k = rt_v fw T go n t k) : rt_R fw T' go n mi (t + 1) ∧ ∀ k, k < s + 1 → T' t k = rt_v fw T' go n t k := by
  refine ⟨⟨fun u hu hm' k hk => ?_, fun u hu k hk => ?_⟩, fun k hk => ?_⟩
  · rw [← e u (by omega) k hk, h.1 u hu hm' k hk]
    exact rt_v_cg (mi := mi) hk (fun _ _ => rfl) (fun w hw j hj => e w (by omega) j hj)
  · rw [← e u (by omega) k hk]; exact h.2 u hu k hk
  · rw [← rt_v_cg (mi := mi) (fw := fw) (fw' := fw) (T := T) (show k < n by omega) (fun _ _ => rfl) e]
    by_cases hq : k = s
    · subst hq; exact ev
    · rw [← e2 k (by omega) hq]; exact hr k (by omega)
theorem mr_mo {f : Nat → Nat} {s b : Nat} : ∀ {n : Nat}, n ≤ 4 → (∀ k, k < n → f k < 2147483648) → (jm_bf f s n = 4294967292 ∧ rt_mo f s b n = b) ∨ (jm_bf f s n < n ∧ rt_mo f s b n = max b (f (jm_bf f s n)))
  | 0, _, _ => Or.inl ⟨rfl, rfl⟩
  | n + 1, hn, hf => by
    have i := mr_mo (f := f) (s := s) (b := b) (n := n) (by omega) (fun k hk => hf k (by omega))
    have e1 : rt_mo f s b (n + 1) = if n = s then rt_mo f s b n else max (rt_mo f s b n) (f n) := rfl
    have e2 : jm_bf f s (n + 1) = if n = s then jm_bf f s n else if jm_bf f s n = 4294967292 then n else if am_tlt (f (jm_bf f s n)) (f n) = true then n else jm_bf f s n := rfl
    rw [e1, e2]
    have l1 := hf n (by omega)
    by_cases hs : n = s
    · rw [if_pos hs, if_pos hs]
      rcases i with ⟨a, c⟩ | ⟨a, c⟩
      · exact Or.inl ⟨a, c⟩
      · exact Or.inr ⟨by omega, c⟩
    · rw [if_neg hs, if_neg hs]
      rcases i with ⟨a, c⟩ | ⟨a, c⟩
      · rw [if_pos a, c]; exact Or.inr ⟨by omega, rfl⟩
      · have l2 := hf (jm_bf f s n) (by omega)
        rw [if_neg (by omega), c]
        by_cases q : f (jm_bf f s n) < f n
        · rw [if_pos (show am_tlt _ _ = true from sk_lt_t q l1)]
          exact Or.inr ⟨by omega, by omega⟩
        · rw [if_neg (by rw [show am_tlt (f (jm_bf f s n)) (f n) = false from sk_lt_f (by omega) l2]; decide)]
          exact Or.inr ⟨by omega, by omega⟩
theorem mr_st {c1 cm Len g n t s : Nat} (hL : Len ≤ 60) (hn : n ≤ 4) (h99 : ∀ s t, s < n → t < Len → am_ag c1 (64 * s + t) ≤ 99) (hB : ∀ u, t + 1 ≤ u → ∀ k, k < n → mr_T cm u k ≤ 5940) (ht : t < Len) (hs : s < n) : jm_st c1 cm t s = am_ag c1 (64 * s + t) + mr_T cm (t + 1) s ∧ jm_st c1 cm t s ≤ 6039 := by
  have a := h99 s t hs ht
  have b := hB (t + 1) (by omega) s hs
  unfold mr_T at b ⊢
  rw [if_pos (by omega)] at b ⊢
  unfold jm_st
  rw [Nat.mod_eq_of_lt (by omega)]
  exact ⟨rfl, by omega⟩
theorem mr_by {c1 cm Len g n t s : Nat} (hL : Len ≤ 60) (hl : g < 4) (hn : n ≤ 4) (h99 : ∀ s t, s < n → t < Len → am_ag c1 (64 * s + t) ≤ 99) (hB : ∀ u, t + 1 ≤ u → ∀ k, k < n → mr_T cm u k ≤ 5940) (ht : t < Len) (hs : s < n) : jm_by c1 cm g t s = rt_by (fun s t => am_ag c1 (64 * s + t)) (mr_T cm) g t s ∧ jm_by c1 cm g t s ≤ 6039 := by
  unfold jm_by rt_by
  by_cases hg : g = 0
  · rw [if_pos hg, if_pos hg]
    exact mr_st (g := g) hL hn h99 hB ht hs
  · rw [if_neg hg, if_neg hg]
    have b := hB (t + g) (by omega) s hs
    unfold mr_T at b ⊢
    rw [if_pos (by omega)] at b ⊢
    exact ⟨rfl, by omega⟩
/-- what is laid is the most -/
theorem mr_v {c1 cm Len g n t s : Nat} (hL : Len ≤ 60) (hl : g < 4) (hn : n ≤ 4) (h99 : ∀ s t, s < n → t < Len → am_ag c1 (64 * s + t) ≤ 99) (hB : ∀ u, t + 1 ≤ u → ∀ k, k < n → mr_T cm u k ≤ 5940) (ht : t < Len) (hs : s < n) : (jm_bf (jm_by c1 cm g t) s n = 4294967292 ∧ rt_v (fun s t => am_ag c1 (64 * s + t)) (mr_T cm) g n t s = jm_st c1 cm t s) ∨ (jm_bf (jm_by c1 cm g t) s n < n ∧ rt_v (fun s t => am_ag c1 (64 * s + t)) (mr_T cm) g n t s = max (jm_st c1 cm t s) (jm_by c1 cm g t (jm_bf (jm_by c1 cm g t) s n))) := by
  have e : rt_v (fun s t => am_ag c1 (64 * s + t)) (mr_T cm) g n t s = rt_mo (jm_by c1 cm g t) s (jm_st c1 cm t s) n := by
    unfold rt_v
    rw [(mr_st (g := g) hL hn h99 hB ht hs).1]
    exact rt_mo_cg (fun k hk => (mr_by hL hl hn h99 hB ht hk).1.symm)
  rw [e]
  exact mr_mo hn (fun k hk => Nat.lt_of_le_of_lt (mr_by hL hl hn h99 hB ht hk).2 (by decide))
theorem mr_as {c1 cm Len g n t s v : Nat} (hL : Len ≤ 60) (hn : n ≤ 4) (ht : t < Len) (hs : s < n) (hv : v < 4294967296) (ev : v = rt_v (fun s t => am_ag c1 (64 * s + t)) (mr_T cm) g n t s) (h : rt_R (fun s t => am_ag c1 (64 * s + t)) (mr_T cm) g n Len (t + 1)) (hr : ∀ k, k < s → mr_T cm t k = rt_v (fun s t => am_ag c1 (64 * s + t)) (mr_T cm) g n t k) : rt_R (fun s t => am_ag c1 (64 * s + t)) (mr_T (am_as cm (4 * t + s) v)) g n Len (t + 1) ∧ ∀ k, k < s + 1 → mr_T (am_as cm (4 * t + s) v) t k = rt_v (fun s t => am_ag c1 (64 * s + t)) (mr_T (am_as cm (4 * t + s) v)) g n t k := by
  refine rt_row' ht hs (fun u hu k hk => ?_) (fun k hk hq => ?_) ?_ h hr
  · unfold mr_T
    by_cases hq : u < 64
    · rw [if_pos hq, if_pos hq, am_ag_as, if_neg (by omega)]
    · rw [if_neg hq, if_neg hq]
  · unfold mr_T
    rw [if_pos (by omega), if_pos (by omega), am_ag_as, if_neg (by omega)]
  · rw [← ev]
    unfold mr_T
    rw [if_pos (by omega), am_ag_as, if_pos rfl, Nat.mod_eq_of_lt hv]
theorem mr_lin {h : am_H} {c1 c0 Len g n : Nat} (hH : jm_H h c1 c0 Len g n) (hL1 : 1 ≤ Len) (hL : Len ≤ 60) (hl : g < 4) (hn : n ≤ 4) (h99 : ∀ s t, s < n → t < Len → am_ag c1 (64 * s + t) ≤ 99) {t : Nat} (ht : t < Len) (hK : ∀ cm v3 v4, rt_R (fun s t => am_ag c1 (64 * s + t)) (mr_T cm) g n Len t → ∃ cf, rt_R (fun s t => am_ag c1 (64 * s + t)) (mr_T cf) g n Len 0 ∧ am_Good mi_172 35 [some (.ref 66), some (.retAddr t), some (.retAddr n), v3, v4] [] (jm_M h cm) (none, jm_M h cf)) : ∀ (k s cm : Nat) (v3 v4 : Option Value), s + k = n → rt_R (fun s t => am_ag c1 (64 * s + t)) (mr_T cm) g n Len (t + 1) → (∀ j, j < s → mr_T cm t j = rt_v (fun s t => am_ag c1 (64 * s + t)) (mr_T cm) g n t j) → ∃ cf, rt_R (fun s t => am_ag c1 (64 * s + t)) (mr_T cf) g n Len 0 ∧ am_Good mi_172 35 [some (.ref 66), some (.retAddr t), some (.retAddr s), v3, v4] [] (jm_M h cm) (none, jm_M h cf)
  | 0, s, cm, v3, v4, e, hR, hr => by
    have e' : s = n := by omega
    subst e'
    exact hK cm v3 v4 (rt_R_row hR hr)
  | k + 1, s, cm, v3, v4, e, hR, hr => by
    have hs : s < n := by omega
    have hB := rt_bd' hL h99 hR
    have b1 := (mr_st (g := g) hL hn h99 hB ht hs).2
    rcases mr_v hL hl hn h99 hB ht hs with ⟨h1, ev⟩ | ⟨h1, ev⟩
    · obtain ⟨p1, p2⟩ := mr_as (v := jm_st c1 cm t s) hL hn ht hs (Nat.lt_of_le_of_lt b1 (by decide)) ev.symm hR hr
      obtain ⟨cf, p, q⟩ := mr_lin hH hL1 hL hl hn h99 ht hK k (s + 1) (am_as cm (4 * t + s) (jm_st c1 cm t s)) _ _ (by omega) p1 p2
      exact ⟨cf, p, jm_li_n hH hL hl hn ht hs rfl rfl rfl h1 q⟩
    · have b2 := (mr_by hL hl hn h99 hB ht h1).2
      by_cases h2 : jm_st c1 cm t s < jm_by c1 cm g t (jm_bf (jm_by c1 cm g t) s n)
      · rw [Nat.max_eq_right (by omega)] at ev
        obtain ⟨p1, p2⟩ := mr_as (v := jm_by c1 cm g t (jm_bf (jm_by c1 cm g t) s n)) hL hn ht hs (Nat.lt_of_le_of_lt b2 (by decide)) ev.symm hR hr
        obtain ⟨cf, p, q⟩ := mr_lin hH hL1 hL hl hn h99 ht hK k (s + 1) (am_as cm (4 * t + s) (jm_by c1 cm g t (jm_bf (jm_by c1 cm g t) s n))) _ _ (by omega) p1 p2
        exact ⟨cf, p, jm_li_g hH hL hl hn ht hs rfl rfl rfl h1 (show am_tlt _ _ = true from sk_lt_t h2 (by omega)) q⟩
      · rw [Nat.max_eq_left (by omega)] at ev
        have h3 : am_tlt (jm_st c1 cm t s) (jm_by c1 cm g t (jm_bf (jm_by c1 cm g t) s n)) = false := sk_lt_f (by omega) (by omega)
        obtain ⟨p1, p2⟩ := mr_as (v := jm_st c1 cm t s) hL hn ht hs (Nat.lt_of_le_of_lt b1 (by decide)) ev.symm hR hr
        obtain ⟨cf, p, q⟩ := mr_lin hH hL1 hL hl hn h99 ht hK k (s + 1) (am_as cm (4 * t + s) (jm_st c1 cm t s)) _ _ (by omega) p1 p2
        exact ⟨cf, p, jm_li_l hH hL hl hn ht hs rfl rfl rfl h1 h3 q⟩
theorem mr_lou {h : am_H} {c1 c0 Len g n : Nat} (hH : jm_H h c1 c0 Len g n) (hL1 : 1 ≤ Len) (hL : Len ≤ 60) (hl : g < 4) (hn : n ≤ 4) (h99 : ∀ s t, s < n → t < Len → am_ag c1 (64 * s + t) ≤ 99) : ∀ (m cm : Nat) (v2 v3 v4 : Option Value), m ≤ Len → rt_R (fun s t => am_ag c1 (64 * s + t)) (mr_T cm) g n Len m → ∃ cf, rt_R (fun s t => am_ag c1 (64 * s + t)) (mr_T cf) g n Len 0 ∧ am_Good mi_172 29 [some (.ref 66), some (.retAddr ((m + 4294967295) % 4294967296)), v2, v3, v4] [] (jm_M h cm) (none, jm_M h cf)
  | 0, cm, v2, v3, v4, hm, hR => ⟨cm, hR, jm_loe⟩
  | m + 1, cm, v2, v3, v4, hm, hR => by
    have e : (m + 1 + 4294967295) % 4294967296 = m := by omega
    rw [e]
    obtain ⟨cf, p, q⟩ := mr_lin hH hL1 hL hl hn h99 (t := m) (by omega) (fun cm' v3' v4' hR' => by
      obtain ⟨cf, p, q⟩ := mr_lou hH hL1 hL hl hn h99 m cm' _ _ _ (by omega) hR'
      exact ⟨cf, p, jm_lie hH hL hl hn (by omega) q⟩) n 0 cm v3 v4 (by omega) hR (fun j hj => absurd hj (Nat.not_lt_zero j))
    exact ⟨cf, p, jm_loi hH hL hl hn (by omega) q⟩
theorem mr_l1 {h : am_H} {c1 c0 Len g n : Nat} (hH : jm_H h c1 c0 Len g n) (hL1 : 1 ≤ Len) (hL : Len ≤ 60) (hl : g < 4) (hn : n ≤ 4) (h99 : ∀ s t, s < n → t < Len → am_ag c1 (64 * s + t) ≤ 99) : ∀ (k j cm : Nat), j + k = 256 → (∀ i, i < j → am_ag cm i = 0) → ∃ cf, rt_R (fun s t => am_ag c1 (64 * s + t)) (mr_T cf) g n Len 0 ∧ am_Good mi_172 2 [some (.ref 66), some (.retAddr j), none, none, none] [] (jm_M h cm) (none, jm_M h cf)
  | 0, j, cm, e, hz => by
    have e' : j = 256 := by omega
    subst e'
    obtain ⟨cf, p, q⟩ := mr_lou hH hL1 hL hl hn h99 Len cm none none none (Nat.le_refl _) ⟨fun u h1 h2 => by omega, fun u hu s hs => by
      unfold mr_T
      by_cases hq : u < 64
      · rw [if_pos hq]; exact hz _ (by omega)
      · rw [if_neg hq]⟩
    rw [show (Len + 4294967295) % 4294967296 = Len - 1 by omega] at q
    exact ⟨cf, p, jm_l1e hH hL hl hn hL1 q⟩
  | k + 1, j, cm, e, hz => by
    obtain ⟨cf, p, q⟩ := mr_l1 hH hL1 hL hl hn h99 k (j + 1) (am_as cm j 0) (by omega) (fun i hi => by
      rw [am_ag_as]
      by_cases e : i = j
      · rw [if_pos e]
      · rw [if_neg e]
        exact hz i (by omega))
    exact ⟨cf, p, jm_l1s hH hL hl hn (by omega) q⟩
theorem mr_layMost {h : am_H} {c1 c0 Len g n : Nat} (hH : jm_H h c1 c0 Len g n) (hL1 : 1 ≤ Len) (hL : Len ≤ 60) (hl : g < 4) (hn : n ≤ 4) (h99 : ∀ s t, s < n → t < Len → am_ag c1 (64 * s + t) ≤ 99) : ∃ cf, rt_R (fun s t => am_ag c1 (64 * s + t)) (mr_T cf) g n Len 0 ∧ am_EG mi_172 [.ref 66] h (none, jm_M h cf) := by
  obtain ⟨cf, p, q⟩ := mr_l1 hH hL1 hL hl hn h99 256 0 c0 (by omega) (fun i hi => by omega)
  refine ⟨cf, p, ?_⟩
  rw [jm_M_self hH] at q
  refine am_enter (n := 4) tk_172.2.1 (by simp [Value.category]) (Nat.le_of_ble_eq_true rfl) ?_
  show am_Good mi_172 0 [some (.ref 66), none, none, none, none] [] h _
  refine g_iconst dd_172_0 ic_0 ?_
  refine g_istore_n (i := 1) dd_172_1 (am_nlb_ok rfl) (by decide) ?_
  exact q
