/-! ===== the last going, purely ===== -/
theorem jm_bf_cg {f f' : Nat → Nat} {s : Nat} : ∀ {n : Nat}, n ≤ 4 → (∀ k, k < n → f k = f' k) → jm_bf f s n = jm_bf f' s n
  | 0, _, _ => rfl
  | n + 1, hn, h => by
    have i := jm_bf_cg (s := s) (n := n) (by omega) (fun k hk => h k (by omega))
    have hb := jm_bf_lt f' s n
    show (if n = s then jm_bf f s n else if jm_bf f s n = 4294967292 then n else if am_tlt (f (jm_bf f s n)) (f n) = true then n else jm_bf f s n) = (if n = s then jm_bf f' s n else if jm_bf f' s n = 4294967292 then n else if am_tlt (f' (jm_bf f' s n)) (f' n) = true then n else jm_bf f' s n)
    rw [i, h n (by omega)]
    by_cases hq : jm_bf f' s n = 4294967292
    · rw [if_pos hq, if_pos hq]
    · rw [h (jm_bf f' s n) (by omega)]
theorem jm_bf_sp {f : Nat → Nat} {s : Nat} : ∀ {n : Nat}, n ≤ 4 → (∀ k, k < n → f k < 2147483648) → (jm_bf f s n = 4294967292 ∧ ∀ k, k < n → k = s) ∨ (jm_bf f s n < n ∧ jm_bf f s n ≠ s ∧ ∀ k, k < n → k ≠ s → f k ≤ f (jm_bf f s n) ∧ (k < jm_bf f s n → f k < f (jm_bf f s n)))
  | 0, _, _ => Or.inl ⟨rfl, fun k hk => absurd hk (Nat.not_lt_zero k)⟩
  | n + 1, hn, hf => by
    have i := jm_bf_sp (f := f) (s := s) (n := n) (by omega) (fun k hk => hf k (by omega))
    have e2 : jm_bf f s (n + 1) = if n = s then jm_bf f s n else if jm_bf f s n = 4294967292 then n else if am_tlt (f (jm_bf f s n)) (f n) = true then n else jm_bf f s n := rfl
    rw [e2]
    have l1 := hf n (by omega)
    by_cases hs : n = s
    · rw [if_pos hs]
      rcases i with ⟨a, c⟩ | ⟨a, b, c⟩
      · refine Or.inl ⟨a, fun k hk => ?_⟩
        by_cases hq : k = n
        · omega
        · exact c k (by omega)
      · exact Or.inr ⟨by omega, b, fun k hk hq => c k (by omega) hq⟩
    · rw [if_neg hs]
      rcases i with ⟨a, c⟩ | ⟨a, b, c⟩
      · rw [if_pos a]
        refine Or.inr ⟨by omega, hs, fun k hk hq => ?_⟩
        by_cases h2 : k = n
        · subst h2; exact ⟨Nat.le_refl _, fun h3 => absurd h3 (Nat.lt_irrefl _)⟩
        · exact absurd (c k (by omega)) hq
      · have l2 := hf (jm_bf f s n) (by omega)
        rw [if_neg (by omega)]
        by_cases q : f (jm_bf f s n) < f n
        · rw [if_pos (show am_tlt _ _ = true from sk_lt_t q l1)]
          refine Or.inr ⟨by omega, hs, fun k hk hq => ?_⟩
          by_cases h2 : k = n
          · subst h2; exact ⟨Nat.le_refl _, fun h3 => absurd h3 (Nat.lt_irrefl _)⟩
          · have := (c k (by omega) hq).1
            exact ⟨by omega, fun _ => by omega⟩
        · rw [if_neg (by rw [show am_tlt (f (jm_bf f s n)) (f n) = false from sk_lt_f (by omega) l2]; decide)]
          refine Or.inr ⟨by omega, b, fun k hk hq => ?_⟩
          by_cases h2 : k = n
          · subst h2; exact ⟨by omega, fun h3 => by omega⟩
          · exact c k (by omega) hq
theorem lg_ic {p q : Prop} [Decidable p] [Decidable q] {a b : Nat} (h : p ↔ q) : (if p then a else b) = if q then a else b := by
  by_cases hq : q
  · rw [if_pos hq, if_pos (h.mpr hq)]
  · rw [if_neg hq, if_neg (fun hp => hq (h.mp hp))]
/-- the first of those that give v -/
def mg_w (f : Nat → Nat) (x v : Nat) : Nat → Nat → Nat
  | 0, _ => 4294967292
  | k + 1, i => if i = x then mg_w f x v k (i + 1) else if f i = v then i else mg_w f x v k (i + 1)
theorem mg_sp {f : Nat → Nat} {x v : Nat} : ∀ c i, (mg_w f x v c i = 4294967292 ∧ ∀ k, i ≤ k → k < i + c → k ≠ x → f k ≠ v) ∨ (i ≤ mg_w f x v c i ∧ mg_w f x v c i < i + c ∧ mg_w f x v c i ≠ x ∧ f (mg_w f x v c i) = v ∧ ∀ k, i ≤ k → k < mg_w f x v c i → k ≠ x → f k ≠ v)
  | 0, i => Or.inl ⟨rfl, fun k h1 h2 => by omega⟩
  | c + 1, i => by
    have e : mg_w f x v (c + 1) i = if i = x then mg_w f x v c (i + 1) else if f i = v then i else mg_w f x v c (i + 1) := rfl
    rw [e]
    have r := mg_sp (f := f) (x := x) (v := v) c (i + 1)
    have go : (∀ h : i ≠ x, f i ≠ v) → (mg_w f x v c (i + 1) = 4294967292 ∧ ∀ k, i ≤ k → k < i + (c + 1) → k ≠ x → f k ≠ v) ∨ (i ≤ mg_w f x v c (i + 1) ∧ mg_w f x v c (i + 1) < i + (c + 1) ∧ mg_w f x v c (i + 1) ≠ x ∧ f (mg_w f x v c (i + 1)) = v ∧ ∀ k, i ≤ k → k < mg_w f x v c (i + 1) → k ≠ x → f k ≠ v) := fun hi => by
      rcases r with ⟨a, b⟩ | ⟨a, b, d, e, g⟩
      · refine Or.inl ⟨a, fun k h1 h2 h3 => ?_⟩
        by_cases hk : k = i
        · subst hk; exact hi h3
        · exact b k (by omega) (by omega) h3
      · refine Or.inr ⟨by omega, by omega, d, e, fun k h1 h2 h3 => ?_⟩
        by_cases hk : k = i
        · subst hk; exact hi h3
        · exact g k (by omega) h2 h3
    by_cases hx : i = x
    · rw [if_pos hx]; exact go (fun h => absurd hx h)
    · rw [if_neg hx]
      by_cases hv : f i = v
      · rw [if_pos hv]; exact Or.inr ⟨Nat.le_refl _, by omega, hx, hv, fun k h1 h2 => by omega⟩
      · rw [if_neg hv]; exact go (fun _ => hv)
theorem mg_eq {f : Nat → Nat} {x n v : Nat} (hn : n ≤ 4) (hb : ∀ k, k < n → f k < 2147483648) (hv : ∀ k, k < n → k ≠ x → f k ≤ v) : mg_w f x v n 0 = if jm_bf f x n ≠ 4294967292 ∧ f (jm_bf f x n) = v then jm_bf f x n else 4294967292 := by
  rcases mg_sp (f := f) (x := x) (v := v) n 0 with ⟨a, b⟩ | ⟨-, b, d, e, g⟩
  · rw [a]
    rcases jm_bf_sp (s := x) hn hb with ⟨p, -⟩ | ⟨p, q, -⟩
    · rw [if_neg (fun h => h.1 p)]
    · rw [if_neg (fun h => b _ (Nat.zero_le _) (by omega) q h.2)]
  · rw [Nat.zero_add] at b
    rcases jm_bf_sp (s := x) hn hb with ⟨p, q⟩ | ⟨p, q, r⟩
    · exact absurd (q _ b) d
    · have r1 := r _ b d
      have r2 := hv _ p q
      have r3 : f (jm_bf f x n) = v := by omega
      rw [if_pos ⟨by omega, r3⟩]
      rcases Nat.lt_trichotomy (mg_w f x v n 0) (jm_bf f x n) with h | h | h
      · have := r1.2 h; omega
      · exact h
      · exact absurd r3 (g _ (Nat.zero_le _) h q)
/-- what has been had by staying at x from y on -/
def lg_s (fw : Nat → Nat → Nat) (x y : Nat) : Nat → Nat
  | 0 => 0
  | j + 1 => lg_s fw x y j + fw x (y + j)
/-- the best to go to -/
def lg_b (fw T : Nat → Nat → Nat) (go n x u : Nat) : Nat := jm_bf (rt_by fw T go u) x n
abbrev lg_h (fw T : Nat → Nat → Nat) (go n x y j : Nat) : Prop := lg_b fw T go n x (y + j) ≠ 4294967292 ∧ lg_s fw x y j + rt_by fw T go (y + j) (lg_b fw T go n x (y + j)) = T y x
/-- the minute, the place -/
def lg_m (fw T : Nat → Nat → Nat) (go n x y : Nat) : Nat → Nat
  | 0 => 4294967292
  | j + 1 => if lg_h fw T go n x y j then y + j else lg_m fw T go n x y j
def lg_f (fw T : Nat → Nat → Nat) (go n x y : Nat) : Nat → Nat
  | 0 => 4294967292
  | j + 1 => if lg_h fw T go n x y j then lg_b fw T go n x (y + j) else lg_f fw T go n x y j
theorem rt_mo_ge {f : Nat → Nat} {s b : Nat} : ∀ {n : Nat}, b ≤ rt_mo f s b n ∧ ∀ k, k < n → k ≠ s → f k ≤ rt_mo f s b n
  | 0 => ⟨Nat.le_refl _, fun k hk => absurd hk (Nat.not_lt_zero k)⟩
  | n + 1 => by
    have i := rt_mo_ge (f := f) (s := s) (b := b) (n := n)
    have e1 : rt_mo f s b (n + 1) = if n = s then rt_mo f s b n else max (rt_mo f s b n) (f n) := rfl
    rw [e1]
    by_cases hs : n = s
    · rw [if_pos hs]
      refine ⟨i.1, fun k hk hq => i.2 k (by omega) hq⟩
    · rw [if_neg hs]
      refine ⟨by omega, fun k hk hq => ?_⟩
      by_cases h2 : k = n
      · subst h2; omega
      · have := i.2 k (by omega) hq; omega
theorem lg_ge {fw T : Nat → Nat → Nat} {go n mi x u : Nat} (hR : rt_R fw T go n mi 0) (hu : u < mi) (hx : x < n) : fw x u + T (u + 1) x ≤ T u x ∧ ∀ k, k < n → k ≠ x → rt_by fw T go u k ≤ T u x := by
  rw [hR.1 u (Nat.zero_le _) hu x hx]
  exact rt_mo_ge
/-- what is left is never less than what there is to be had -/
theorem lg_le {fw T : Nat → Nat → Nat} {go n mi x y : Nat} (hR : rt_R fw T go n mi 0) (hx : x < n) : ∀ j, y + j ≤ mi → lg_s fw x y j + T (y + j) x ≤ T y x
  | 0, _ => by show 0 + T (y + 0) x ≤ T y x; rw [Nat.zero_add, Nat.add_zero]; exact Nat.le_refl _
  | j + 1, h => by
    have i := lg_le (y := y) hR hx j (by omega)
    have g := (lg_ge hR (show y + j < mi by omega) hx).1
    show lg_s fw x y j + fw x (y + j) + T (y + j + 1) x ≤ T y x
    omega
theorem lg_by {fw T : Nat → Nat → Nat} {go n mi : Nat} (hm : mi ≤ 60) (h99 : ∀ s t, s < n → t < mi → fw s t ≤ 99) (hR : rt_R fw T go n mi 0) {u k : Nat} (hu : u < mi) (hk : k < n) : rt_by fw T go u k ≤ 6039 := rw_by h99 (fun w hw j hj => rt_bd' hm h99 hR w (Nat.zero_le _) j hj) hk hu
/-- the first that gives all that is left -/
theorem lg_w {fw T : Nat → Nat → Nat} {go n mi x y j : Nat} (hn : n ≤ 4) (hm : mi ≤ 60) (h99 : ∀ s t, s < n → t < mi → fw s t ≤ 99) (hR : rt_R fw T go n mi 0) (hx : x < n) (hj : y + j < mi) : mg_w (rt_by fw T go (y + j)) x (T y x - lg_s fw x y j) n 0 = if lg_h fw T go n x y j then lg_b fw T go n x (y + j) else 4294967292 := by
  have l := lg_le (y := y) hR hx j (Nat.le_of_lt hj)
  have g := (lg_ge hR hj hx).2
  rw [mg_eq hn (fun k hk => Nat.lt_of_le_of_lt (lg_by hm h99 hR hj hk) (by decide)) (fun k hk hq => by have := g k hk hq; omega)]
  refine lg_ic ?_
  have hq : ∀ B, (rt_by fw T go (y + j) B = T y x - lg_s fw x y j ↔ lg_s fw x y j + rt_by fw T go (y + j) B = T y x) := fun B => ⟨fun h => by omega, fun h => by omega⟩
  exact and_congr Iff.rfl (hq _)
theorem lg_m_r {fw T : Nat → Nat → Nat} {go n x y : Nat} : ∀ j, (lg_m fw T go n x y j = 4294967292 ∧ lg_f fw T go n x y j = 4294967292) ∨ (lg_m fw T go n x y j < y + j ∧ lg_f fw T go n x y j = lg_b fw T go n x (lg_m fw T go n x y j))
  | 0 => Or.inl ⟨rfl, rfl⟩
  | j + 1 => by
    have i := lg_m_r (fw := fw) (T := T) (go := go) (n := n) (x := x) (y := y) j
    have e1 : lg_m fw T go n x y (j + 1) = if lg_h fw T go n x y j then y + j else lg_m fw T go n x y j := rfl
    have e2 : lg_f fw T go n x y (j + 1) = if lg_h fw T go n x y j then lg_b fw T go n x (y + j) else lg_f fw T go n x y j := rfl
    rw [e1, e2]
    by_cases h : lg_h fw T go n x y j
    · rw [if_pos h, if_pos h]; exact Or.inr ⟨by omega, rfl⟩
    · rw [if_neg h, if_neg h]
      rcases i with i | ⟨i, k⟩
      · exact Or.inl i
      · exact Or.inr ⟨by omega, k⟩
/-- as long as no going was found, nothing is lost by staying -/
theorem lg_no {fw T : Nat → Nat → Nat} {go n mi x y : Nat} (hn : n ≤ 4) (hm : mi ≤ 60) (h99 : ∀ s t, s < n → t < mi → fw s t ≤ 99) (hR : rt_R fw T go n mi 0) (hx : x < n) : ∀ j, y + j ≤ mi → lg_m fw T go n x y j = 4294967292 → T y x = lg_s fw x y j + T (y + j) x
  | 0, _, _ => by show T y x = 0 + T (y + 0) x; rw [Nat.zero_add, Nat.add_zero]
  | j + 1, h, h0 => by
    have e1 : lg_m fw T go n x y (j + 1) = if lg_h fw T go n x y j then y + j else lg_m fw T go n x y j := rfl
    rw [e1] at h0
    by_cases hh : lg_h fw T go n x y j
    · rw [if_pos hh] at h0; omega
    · rw [if_neg hh] at h0
      have i := lg_no hn hm h99 hR hx j (by omega) h0
      have hu : y + j < mi := by omega
      have e : T (y + j) x = rt_v fw T go n (y + j) x := hR.1 _ (Nat.zero_le _) hu x hx
      show T y x = lg_s fw x y j + fw x (y + j) + T (y + j + 1) x
      rcases mr_mo (f := rt_by fw T go (y + j)) (s := x) (b := fw x (y + j) + T (y + j + 1) x) hn (fun k hk => Nat.lt_of_le_of_lt (lg_by hm h99 hR hu hk) (by decide)) with ⟨-, b⟩ | ⟨a, b⟩
      · have e' : rt_v fw T go n (y + j) x = fw x (y + j) + T (y + j + 1) x := b
        omega
      · have e' : rt_v fw T go n (y + j) x = max (fw x (y + j) + T (y + j + 1) x) (rt_by fw T go (y + j) (jm_bf (rt_by fw T go (y + j)) x n)) := b
        have ne : ¬ lg_s fw x y j + rt_by fw T go (y + j) (jm_bf (rt_by fw T go (y + j)) x n) = T y x := fun q => hh ⟨by show jm_bf (rt_by fw T go (y + j)) x n ≠ 4294967292; omega, q⟩
        omega
/-- the answer -/
def lg_r (fw T : Nat → Nat → Nat) (go n mi x y z : Nat) : Nat := if z = 0 then T y x else if lg_s fw x y (mi - y) = T y x then 4294967292 else if z = 1 then lg_m fw T go n x y (mi - y) else lg_f fw T go n x y (mi - y)
theorem lg_s_cg {fw fw' : Nat → Nat → Nat} {mi x y : Nat} (hf : ∀ t, t < mi → fw x t = fw' x t) : ∀ j, y + j ≤ mi → lg_s fw x y j = lg_s fw' x y j
  | 0, _ => rfl
  | j + 1, h => by
    show lg_s fw x y j + fw x (y + j) = lg_s fw' x y j + fw' x (y + j)
    rw [lg_s_cg hf j (by omega), hf _ (by omega)]
theorem lg_h_cg {fw fw' T T' : Nat → Nat → Nat} {go n mi x y : Nat} (hn : n ≤ 4) (hx : x < n) (hf : ∀ t, t < mi → ∀ k, k < n → fw k t = fw' k t) (hT : ∀ t, ∀ k, k < n → T t k = T' t k) {j : Nat} (hj : y + j < mi) : lg_b fw T go n x (y + j) = lg_b fw' T' go n x (y + j) ∧ (lg_h fw T go n x y j ↔ lg_h fw' T' go n x y j) := by
  have e : ∀ k, k < n → rt_by fw T go (y + j) k = rt_by fw' T' go (y + j) k := fun k hk => by
    unfold rt_by
    rw [hf _ hj k hk, hT _ k hk, hT _ k hk]
  have eb : lg_b fw T go n x (y + j) = lg_b fw' T' go n x (y + j) := jm_bf_cg hn e
  refine ⟨eb, ?_⟩
  unfold lg_h
  rw [eb, lg_s_cg (mi := mi) (fun t ht => hf t ht x hx) j (Nat.le_of_lt hj), hT y x hx]
  refine and_congr_right fun hq => ?_
  have hb : lg_b fw' T' go n x (y + j) < n := by
    rcases jm_bf_lt (rt_by fw' T' go (y + j)) x n with h | h
    · exact absurd h hq
    · exact h
  rw [e _ hb]
theorem lg_cg {fw fw' T T' : Nat → Nat → Nat} {go n mi x y : Nat} (hn : n ≤ 4) (hx : x < n) (hf : ∀ t, t < mi → ∀ k, k < n → fw k t = fw' k t) (hT : ∀ t, ∀ k, k < n → T t k = T' t k) : ∀ j, y + j ≤ mi → lg_m fw T go n x y j = lg_m fw' T' go n x y j ∧ lg_f fw T go n x y j = lg_f fw' T' go n x y j
  | 0, _ => ⟨rfl, rfl⟩
  | j + 1, h => by
    obtain ⟨a, b⟩ := lg_cg (y := y) hn hx hf hT j (by omega)
    obtain ⟨c, d⟩ := lg_h_cg (go := go) (y := y) hn hx hf hT (show y + j < mi by omega)
    show (if lg_h fw T go n x y j then y + j else lg_m fw T go n x y j) = (if lg_h fw' T' go n x y j then y + j else lg_m fw' T' go n x y j) ∧ (if lg_h fw T go n x y j then lg_b fw T go n x (y + j) else lg_f fw T go n x y j) = (if lg_h fw' T' go n x y j then lg_b fw' T' go n x (y + j) else lg_f fw' T' go n x y j)
    by_cases h : lg_h fw' T' go n x y j
    · rw [if_pos (d.mpr h), if_pos h, if_pos (d.mpr h), if_pos h]; exact ⟨rfl, c⟩
    · rw [if_neg (fun q => h (d.mp q)), if_neg h, if_neg (fun q => h (d.mp q)), if_neg h]; exact ⟨a, b⟩
theorem lg_r_cg {fw fw' T T' : Nat → Nat → Nat} {go n mi x y z : Nat} (hn : n ≤ 4) (hx : x < n) (hy : y < mi) (hf : ∀ t, t < mi → ∀ k, k < n → fw k t = fw' k t) (hT : ∀ t, ∀ k, k < n → T t k = T' t k) : lg_r fw T go n mi x y z = lg_r fw' T' go n mi x y z := by
  obtain ⟨a, b⟩ := lg_cg (go := go) (y := y) hn hx hf hT (mi - y) (by omega)
  unfold lg_r
  rw [a, b, hT y x hx, lg_s_cg (mi := mi) (fun t ht => hf t ht x hx) (mi - y) (by omega)]
/-! ===== the class finds the going ===== -/
theorem gg_e {h : am_H} {n mi go : Nat} (hH : rv_ok h) {q : Nat} {vq : List Value} {fw : Nat → Nat → Nat} (qS : ∀ m fm fs G, am_get (rv h m fm fs G) q = some (.inr (9, vq))) (cw : ∀ m fm fs G s t, s < n → t < mi → am_EG mi_41 [.ref q, .retAddr s, .retAddr t] (rv h m fm fs G) (some (.retAddr (fw s t)), rv h m fm fs G)) (hn : n ≤ 4) (hm1 : 1 ≤ mi) (hm : mi ≤ 60) (hgo : go ≤ 3) (h99 : ∀ s t, s < n → t < mi → fw s t ≤ 99) {E a0 : Nat} {vE w0 : List Value} (nE : am_lk [(43, am_e0), (44, am_e0)] E = none) (qE : am_get h E = some (.inr (1, vE))) (e0 : vE[0]? = some (.ref a0)) (e6 : vE[6]? = some (.retAddr mi)) (e7 : vE[7]? = some (.retAddr go)) (nA : am_lk [(43, am_e0), (44, am_e0)] a0 = none) (r0 : am_get h a0 = some (.inr (8, w0))) (s0 : w0[3]? = some (.retAddr n)) {fm fs G x u w : Nat} (hx : x < n) (hu : u < mi) (hw : w < 2147483648) (hB : ∀ t, u < t → ∀ k, k < n → rt_T G mi t k ≤ 5940) : am_Good mi_89 3 [some (.ref 43), some (.ref E), some (.ref q), some (.retAddr x), some (.retAddr u), some (.retAddr w), some (.retAddr n)] [] (rv h mi fm fs G) (some (.retAddr 4294967292), (rv h mi fm fs G)) := by
  refine g_iload dd_89_3 rfl ?_
  refine g_aload_n (i := 1) dd_89_5 rfl ?_
  refine g_getfield (k := 0) am_ck1 (by decide) (Or.inr ⟨_, w_83⟩) dd_89_6 ((rv_o hH nE).trans qE) e0 ?_
  refine g_getfield (k := 3) am_ck8 (by decide) (Or.inr ⟨_, w_64⟩) dd_89_9 ((rv_o hH nA).trans r0) s0 ?_
  refine g_icmp_ge_t (t := 48) dd_89_12 (by decide) (by first | exact sk_ge_t (by omega) (by omega) | exact tk_ge_t (by omega)) ?_
  refine g_bipush dd_89_48 bi_m4 ?_
  exact g_ireturn rfl dd_89_50
theorem gg_x {h : am_H} {n mi go : Nat} (hH : rv_ok h) {q : Nat} {vq : List Value} {fw : Nat → Nat → Nat} (qS : ∀ m fm fs G, am_get (rv h m fm fs G) q = some (.inr (9, vq))) (cw : ∀ m fm fs G s t, s < n → t < mi → am_EG mi_41 [.ref q, .retAddr s, .retAddr t] (rv h m fm fs G) (some (.retAddr (fw s t)), rv h m fm fs G)) (hn : n ≤ 4) (hm1 : 1 ≤ mi) (hm : mi ≤ 60) (hgo : go ≤ 3) (h99 : ∀ s t, s < n → t < mi → fw s t ≤ 99) {E a0 : Nat} {vE w0 : List Value} (nE : am_lk [(43, am_e0), (44, am_e0)] E = none) (qE : am_get h E = some (.inr (1, vE))) (e0 : vE[0]? = some (.ref a0)) (e6 : vE[6]? = some (.retAddr mi)) (e7 : vE[7]? = some (.retAddr go)) (nA : am_lk [(43, am_e0), (44, am_e0)] a0 = none) (r0 : am_get h a0 = some (.inr (8, w0))) (s0 : w0[3]? = some (.retAddr n)) {fm fs G x u w : Nat} (hx : x < n) (hu : u < mi) (hw : w < 2147483648) (hB : ∀ t, u < t → ∀ k, k < n → rt_T G mi t k ≤ 5940) {r : am_R} {k : Nat} (hk : k < n) (hc : k = x) (hg : am_Good mi_89 3 [some (.ref 43), some (.ref E), some (.ref q), some (.retAddr x), some (.retAddr u), some (.retAddr w), some (.retAddr (k + 1))] [] (rv h mi fm fs G) r) : am_Good mi_89 3 [some (.ref 43), some (.ref E), some (.ref q), some (.retAddr x), some (.retAddr u), some (.retAddr w), some (.retAddr k)] [] (rv h mi fm fs G) r := by
  refine g_iload dd_89_3 rfl ?_
  refine g_aload_n (i := 1) dd_89_5 rfl ?_
  refine g_getfield (k := 0) am_ck1 (by decide) (Or.inr ⟨_, w_83⟩) dd_89_6 ((rv_o hH nE).trans qE) e0 ?_
  refine g_getfield (k := 3) am_ck8 (by decide) (Or.inr ⟨_, w_64⟩) dd_89_9 ((rv_o hH nA).trans r0) s0 ?_
  refine g_icmp_ge_f (t := 48) dd_89_12 (by decide) (by first | exact sk_ge_f (by omega) (by omega) | exact tk_ge_f (by omega)) ?_
  refine g_iload dd_89_15 rfl ?_
  refine g_iload_n (i := 3) dd_89_17 rfl ?_
  refine g_icmp_eq_t (t := 42) dd_89_18 (by decide) (tk_eq_t (by omega)) ?_
  refine e_iinc (v := 1) (w := k + 1) dd_89_42 rfl ic_1 (am_nlb_ok rfl) (by decide) (by omega) ?_
  refine g_goto (t := 3) dd_89_45 (by decide) ?_
  exact hg
theorem gg_n {h : am_H} {n mi go : Nat} (hH : rv_ok h) {q : Nat} {vq : List Value} {fw : Nat → Nat → Nat} (qS : ∀ m fm fs G, am_get (rv h m fm fs G) q = some (.inr (9, vq))) (cw : ∀ m fm fs G s t, s < n → t < mi → am_EG mi_41 [.ref q, .retAddr s, .retAddr t] (rv h m fm fs G) (some (.retAddr (fw s t)), rv h m fm fs G)) (hn : n ≤ 4) (hm1 : 1 ≤ mi) (hm : mi ≤ 60) (hgo : go ≤ 3) (h99 : ∀ s t, s < n → t < mi → fw s t ≤ 99) {E a0 : Nat} {vE w0 : List Value} (nE : am_lk [(43, am_e0), (44, am_e0)] E = none) (qE : am_get h E = some (.inr (1, vE))) (e0 : vE[0]? = some (.ref a0)) (e6 : vE[6]? = some (.retAddr mi)) (e7 : vE[7]? = some (.retAddr go)) (nA : am_lk [(43, am_e0), (44, am_e0)] a0 = none) (r0 : am_get h a0 = some (.inr (8, w0))) (s0 : w0[3]? = some (.retAddr n)) {fm fs G x u w : Nat} (hx : x < n) (hu : u < mi) (hw : w < 2147483648) (hB : ∀ t, u < t → ∀ k, k < n → rt_T G mi t k ≤ 5940) {r : am_R} {k : Nat} (hk : k < n) (hc : ¬ k = x) (hv : ¬ rt_by fw (rt_T G mi) go u k = w) (hg : am_Good mi_89 3 [some (.ref 43), some (.ref E), some (.ref q), some (.retAddr x), some (.retAddr u), some (.retAddr w), some (.retAddr (k + 1))] [] (rv h mi fm fs G) r) : am_Good mi_89 3 [some (.ref 43), some (.ref E), some (.ref q), some (.retAddr x), some (.retAddr u), some (.retAddr w), some (.retAddr k)] [] (rv h mi fm fs G) r := by
  have b1 := rw_by (go := go) h99 hB hk hu
  refine g_iload dd_89_3 rfl ?_
  refine g_aload_n (i := 1) dd_89_5 rfl ?_
  refine g_getfield (k := 0) am_ck1 (by decide) (Or.inr ⟨_, w_83⟩) dd_89_6 ((rv_o hH nE).trans qE) e0 ?_
  refine g_getfield (k := 3) am_ck8 (by decide) (Or.inr ⟨_, w_64⟩) dd_89_9 ((rv_o hH nA).trans r0) s0 ?_
  refine g_icmp_ge_f (t := 48) dd_89_12 (by decide) (by first | exact sk_ge_f (by omega) (by omega) | exact tk_ge_f (by omega)) ?_
  refine g_iload dd_89_15 rfl ?_
  refine g_iload_n (i := 3) dd_89_17 rfl ?_
  refine g_icmp_eq_f (t := 42) dd_89_18 (by decide) (tk_eq_f (by omega)) ?_
  refine g_aload_n (i := 0) dd_89_21 rfl ?_
  refine g_aload_n (i := 2) dd_89_22 rfl ?_
  refine g_iload dd_89_23 rfl ?_
  refine g_iload dd_89_25 rfl ?_
  refine g_aload_n (i := 1) dd_89_27 rfl ?_
  refine g_getfield (k := 7) am_ck1 (by decide) (Or.inr ⟨_, w_116⟩) dd_89_28 ((rv_o hH nE).trans qE) e7 ?_
  refine g_virtual (M' := mi_43) (n := 4) (ci := 7) (b := 43) (as := [.ref q, .retAddr k, .retAddr u, .retAddr go]) (st := []) (r1 := (some (.retAddr (rt_by fw (rt_T G mi) go u k)), (rv h mi fm fs G))) w_498 w_500 ps_43 ⟨lk_43.1, lk_43.2.1, lk_43.2.2, by decide, by decide⟩ rfl (rv_g43 hH) rfl (by simp [Value.category]) dd_89_31 (rw_g hH qS cw hn hm1 hm hgo h99 (by omega) (by omega) hB) ?_
  show am_Good mi_89 34 [some (.ref 43), some (.ref E), some (.ref q), some (.retAddr x), some (.retAddr u), some (.retAddr w), some (.retAddr k)] [.retAddr (rt_by fw (rt_T G mi) go u k)] (rv h mi fm fs G) _
  refine g_iload dd_89_34 rfl ?_
  refine g_icmp_ne_t (t := 42) dd_89_36 (by decide) (tk_ne_t (by omega)) ?_
  refine e_iinc (v := 1) (w := k + 1) dd_89_42 rfl ic_1 (am_nlb_ok rfl) (by decide) (by omega) ?_
  refine g_goto (t := 3) dd_89_45 (by decide) ?_
  exact hg
theorem gg_f {h : am_H} {n mi go : Nat} (hH : rv_ok h) {q : Nat} {vq : List Value} {fw : Nat → Nat → Nat} (qS : ∀ m fm fs G, am_get (rv h m fm fs G) q = some (.inr (9, vq))) (cw : ∀ m fm fs G s t, s < n → t < mi → am_EG mi_41 [.ref q, .retAddr s, .retAddr t] (rv h m fm fs G) (some (.retAddr (fw s t)), rv h m fm fs G)) (hn : n ≤ 4) (hm1 : 1 ≤ mi) (hm : mi ≤ 60) (hgo : go ≤ 3) (h99 : ∀ s t, s < n → t < mi → fw s t ≤ 99) {E a0 : Nat} {vE w0 : List Value} (nE : am_lk [(43, am_e0), (44, am_e0)] E = none) (qE : am_get h E = some (.inr (1, vE))) (e0 : vE[0]? = some (.ref a0)) (e6 : vE[6]? = some (.retAddr mi)) (e7 : vE[7]? = some (.retAddr go)) (nA : am_lk [(43, am_e0), (44, am_e0)] a0 = none) (r0 : am_get h a0 = some (.inr (8, w0))) (s0 : w0[3]? = some (.retAddr n)) {fm fs G x u w : Nat} (hx : x < n) (hu : u < mi) (hw : w < 2147483648) (hB : ∀ t, u < t → ∀ k, k < n → rt_T G mi t k ≤ 5940) {k : Nat} (hk : k < n) (hc : ¬ k = x) (hv : rt_by fw (rt_T G mi) go u k = w) : am_Good mi_89 3 [some (.ref 43), some (.ref E), some (.ref q), some (.retAddr x), some (.retAddr u), some (.retAddr w), some (.retAddr k)] [] (rv h mi fm fs G) (some (.retAddr k), (rv h mi fm fs G)) := by
  have b1 := rw_by (go := go) h99 hB hk hu
  refine g_iload dd_89_3 rfl ?_
  refine g_aload_n (i := 1) dd_89_5 rfl ?_
  refine g_getfield (k := 0) am_ck1 (by decide) (Or.inr ⟨_, w_83⟩) dd_89_6 ((rv_o hH nE).trans qE) e0 ?_
  refine g_getfield (k := 3) am_ck8 (by decide) (Or.inr ⟨_, w_64⟩) dd_89_9 ((rv_o hH nA).trans r0) s0 ?_
  refine g_icmp_ge_f (t := 48) dd_89_12 (by decide) (by first | exact sk_ge_f (by omega) (by omega) | exact tk_ge_f (by omega)) ?_
  refine g_iload dd_89_15 rfl ?_
  refine g_iload_n (i := 3) dd_89_17 rfl ?_
  refine g_icmp_eq_f (t := 42) dd_89_18 (by decide) (tk_eq_f (by omega)) ?_
  refine g_aload_n (i := 0) dd_89_21 rfl ?_
  refine g_aload_n (i := 2) dd_89_22 rfl ?_
  refine g_iload dd_89_23 rfl ?_
  refine g_iload dd_89_25 rfl ?_
  refine g_aload_n (i := 1) dd_89_27 rfl ?_
  refine g_getfield (k := 7) am_ck1 (by decide) (Or.inr ⟨_, w_116⟩) dd_89_28 ((rv_o hH nE).trans qE) e7 ?_
  refine g_virtual (M' := mi_43) (n := 4) (ci := 7) (b := 43) (as := [.ref q, .retAddr k, .retAddr u, .retAddr go]) (st := []) (r1 := (some (.retAddr (rt_by fw (rt_T G mi) go u k)), (rv h mi fm fs G))) w_498 w_500 ps_43 ⟨lk_43.1, lk_43.2.1, lk_43.2.2, by decide, by decide⟩ rfl (rv_g43 hH) rfl (by simp [Value.category]) dd_89_31 (rw_g hH qS cw hn hm1 hm hgo h99 (by omega) (by omega) hB) ?_
  show am_Good mi_89 34 [some (.ref 43), some (.ref E), some (.ref q), some (.retAddr x), some (.retAddr u), some (.retAddr w), some (.retAddr k)] [.retAddr (rt_by fw (rt_T G mi) go u k)] (rv h mi fm fs G) _
  refine g_iload dd_89_34 rfl ?_
  refine g_icmp_ne_f (t := 42) dd_89_36 (by decide) (tk_ne_f (by omega)) ?_
  refine g_iload dd_89_39 rfl ?_
  exact g_ireturn rfl dd_89_41
theorem gg_l {h : am_H} {n mi go : Nat} (hH : rv_ok h) {q : Nat} {vq : List Value} {fw : Nat → Nat → Nat} (qS : ∀ m fm fs G, am_get (rv h m fm fs G) q = some (.inr (9, vq))) (cw : ∀ m fm fs G s t, s < n → t < mi → am_EG mi_41 [.ref q, .retAddr s, .retAddr t] (rv h m fm fs G) (some (.retAddr (fw s t)), rv h m fm fs G)) (hn : n ≤ 4) (hm1 : 1 ≤ mi) (hm : mi ≤ 60) (hgo : go ≤ 3) (h99 : ∀ s t, s < n → t < mi → fw s t ≤ 99) {E a0 : Nat} {vE w0 : List Value} (nE : am_lk [(43, am_e0), (44, am_e0)] E = none) (qE : am_get h E = some (.inr (1, vE))) (e0 : vE[0]? = some (.ref a0)) (e6 : vE[6]? = some (.retAddr mi)) (e7 : vE[7]? = some (.retAddr go)) (nA : am_lk [(43, am_e0), (44, am_e0)] a0 = none) (r0 : am_get h a0 = some (.inr (8, w0))) (s0 : w0[3]? = some (.retAddr n)) {fm fs G x u w : Nat} (hx : x < n) (hu : u < mi) (hw : w < 2147483648) (hB : ∀ t, u < t → ∀ k, k < n → rt_T G mi t k ≤ 5940) : ∀ (c k : Nat), k + c = n → am_Good mi_89 3 [some (.ref 43), some (.ref E), some (.ref q), some (.retAddr x), some (.retAddr u), some (.retAddr w), some (.retAddr k)] [] (rv h mi fm fs G) (some (.retAddr (mg_w (rt_by fw (rt_T G mi) go u) x w c k)), (rv h mi fm fs G))
  | 0, k, e => by
    have e' : k = n := by omega
    subst e'
    exact gg_e hH qS cw hn hm1 hm hgo h99 nE qE e0 e6 e7 nA r0 s0 hx hu hw hB
  | c + 1, k, e => by
    have q := gg_l hH qS cw hn hm1 hm hgo h99 nE qE e0 e6 e7 nA r0 s0 (fm := fm) (fs := fs) hx hu hw hB c (k + 1) (by omega)
    show am_Good mi_89 3 _ _ _ (some (.retAddr (if k = x then mg_w (rt_by fw (rt_T G mi) go u) x w c (k + 1) else if rt_by fw (rt_T G mi) go u k = w then k else mg_w (rt_by fw (rt_T G mi) go u) x w c (k + 1))), _)
    by_cases hc : k = x
    · rw [if_pos hc]; exact gg_x hH qS cw hn hm1 hm hgo h99 nE qE e0 e6 e7 nA r0 s0 hx hu hw hB (by omega) hc q
    · rw [if_neg hc]
      by_cases hv : rt_by fw (rt_T G mi) go u k = w
      · rw [if_pos hv]; exact gg_f hH qS cw hn hm1 hm hgo h99 nE qE e0 e6 e7 nA r0 s0 hx hu hw hB (by omega) hc hv
      · rw [if_neg hv]; exact gg_n hH qS cw hn hm1 hm hgo h99 nE qE e0 e6 e7 nA r0 s0 hx hu hw hB (by omega) hc hv q
theorem gg_m {h : am_H} {n mi go : Nat} (hH : rv_ok h) {q : Nat} {vq : List Value} {fw : Nat → Nat → Nat} (qS : ∀ m fm fs G, am_get (rv h m fm fs G) q = some (.inr (9, vq))) (cw : ∀ m fm fs G s t, s < n → t < mi → am_EG mi_41 [.ref q, .retAddr s, .retAddr t] (rv h m fm fs G) (some (.retAddr (fw s t)), rv h m fm fs G)) (hn : n ≤ 4) (hm1 : 1 ≤ mi) (hm : mi ≤ 60) (hgo : go ≤ 3) (h99 : ∀ s t, s < n → t < mi → fw s t ≤ 99) {E a0 : Nat} {vE w0 : List Value} (nE : am_lk [(43, am_e0), (44, am_e0)] E = none) (qE : am_get h E = some (.inr (1, vE))) (e0 : vE[0]? = some (.ref a0)) (e6 : vE[6]? = some (.retAddr mi)) (e7 : vE[7]? = some (.retAddr go)) (nA : am_lk [(43, am_e0), (44, am_e0)] a0 = none) (r0 : am_get h a0 = some (.inr (8, w0))) (s0 : w0[3]? = some (.retAddr n)) {fm fs G x u w : Nat} (hx : x < n) (hu : u < mi) (hw : w < 2147483648) (hB : ∀ t, u < t → ∀ k, k < n → rt_T G mi t k ≤ 5940) : am_EG mi_89 [.ref 43, .ref E, .ref q, .retAddr x, .retAddr u, .retAddr w] (rv h mi fm fs G) (some (.retAddr (mg_w (rt_by fw (rt_T G mi) go u) x w n 0)), (rv h mi fm fs G)) := by
  refine am_enter (n := 1) tk_89.2.1 (by simp [Value.category]) (Nat.le_of_ble_eq_true rfl) ?_
  show am_Good mi_89 0 [some (.ref 43), some (.ref E), some (.ref q), some (.retAddr x), some (.retAddr u), some (.retAddr w), none] [] (rv h mi fm fs G) _
  refine g_iconst dd_89_0 ic_0 ?_
  refine g_istore dd_89_1 (am_nlb_ok rfl) (by decide) ?_
  exact gg_l hH qS cw hn hm1 hm hgo h99 nE qE e0 e6 e7 nA r0 s0 hx hu hw hB n 0 (by omega)
theorem fg_z {h : am_H} {n mi go : Nat} (hH : rv_ok h) {q : Nat} {vq : List Value} {fw : Nat → Nat → Nat} (qS : ∀ m fm fs G, am_get (rv h m fm fs G) q = some (.inr (9, vq))) (cw : ∀ m fm fs G s t, s < n → t < mi → am_EG mi_41 [.ref q, .retAddr s, .retAddr t] (rv h m fm fs G) (some (.retAddr (fw s t)), rv h m fm fs G)) (hn : n ≤ 4) (hm1 : 1 ≤ mi) (hm : mi ≤ 60) (hgo : go ≤ 3) (h99 : ∀ s t, s < n → t < mi → fw s t ≤ 99) {E a0 : Nat} {vE w0 : List Value} (nE : am_lk [(43, am_e0), (44, am_e0)] E = none) (qE : am_get h E = some (.inr (1, vE))) (e0 : vE[0]? = some (.ref a0)) (e6 : vE[6]? = some (.retAddr mi)) (e7 : vE[7]? = some (.retAddr go)) (nA : am_lk [(43, am_e0), (44, am_e0)] a0 = none) (r0 : am_get h a0 = some (.inr (8, w0))) (s0 : w0[3]? = some (.retAddr n)) {fm fs G x y le u : Nat} {v7 : Option Value} (hx : x < n) (hle : le < 2147483648) (h0 : le = 0) (hu : u = mi) : am_Good mi_88 25 [some (.ref 43), some (.ref E), some (.ref q), some (.retAddr x), some (.retAddr y), some (.retAddr le), some (.retAddr u), v7] [] (rv h mi fm fs G) (none, (rv h mi 4294967292 4294967292 G)) := by
  refine g_iload dd_88_25 rfl ?_
  refine g_aload_n (i := 0) dd_88_27 rfl ?_
  refine g_getfield (k := 1) am_ck7 (by decide) (Or.inl w_201) dd_88_28 (rv_g43 hH) rfl ?_
  refine g_icmp_ge_t (t := 84) dd_88_31 (by decide) (by first | exact sk_ge_t (by omega) (by omega) | exact tk_ge_t (by omega)) ?_
  refine g_iload dd_88_84 rfl ?_
  refine g_if_ne_f (t := 101) dd_88_86 (by decide) (tk_ne_f (by omega)) ?_
  refine g_aload_n (i := 0) dd_88_89 rfl ?_
  refine g_bipush dd_88_90 bi_m4 ?_
  refine g_putfield (k := 2) am_ck7 (by decide) (Or.inl w_202) (Or.inl rfl) dd_88_92 (rv_g43 hH) (Nat.le_of_ble_eq_true rfl) trivial ?_
  refine am_heq (rv_u43 hH) ?_
  show am_Good mi_88 95 [some (.ref 43), some (.ref E), some (.ref q), some (.retAddr x), some (.retAddr y), some (.retAddr le), some (.retAddr u), v7] [] (rv h mi 4294967292 fs G) _
  refine g_aload_n (i := 0) dd_88_95 rfl ?_
  refine g_bipush dd_88_96 bi_m4 ?_
  refine g_putfield (k := 3) am_ck7 (by decide) (Or.inl w_204) (Or.inl rfl) dd_88_98 (rv_g43 hH) (Nat.le_of_ble_eq_true rfl) trivial ?_
  refine am_heq (rv_u43 hH) ?_
  show am_Good mi_88 101 [some (.ref 43), some (.ref E), some (.ref q), some (.retAddr x), some (.retAddr y), some (.retAddr le), some (.retAddr u), v7] [] (rv h mi 4294967292 4294967292 G) _
  exact g_return rfl dd_88_101
theorem fg_e {h : am_H} {n mi go : Nat} (hH : rv_ok h) {q : Nat} {vq : List Value} {fw : Nat → Nat → Nat} (qS : ∀ m fm fs G, am_get (rv h m fm fs G) q = some (.inr (9, vq))) (cw : ∀ m fm fs G s t, s < n → t < mi → am_EG mi_41 [.ref q, .retAddr s, .retAddr t] (rv h m fm fs G) (some (.retAddr (fw s t)), rv h m fm fs G)) (hn : n ≤ 4) (hm1 : 1 ≤ mi) (hm : mi ≤ 60) (hgo : go ≤ 3) (h99 : ∀ s t, s < n → t < mi → fw s t ≤ 99) {E a0 : Nat} {vE w0 : List Value} (nE : am_lk [(43, am_e0), (44, am_e0)] E = none) (qE : am_get h E = some (.inr (1, vE))) (e0 : vE[0]? = some (.ref a0)) (e6 : vE[6]? = some (.retAddr mi)) (e7 : vE[7]? = some (.retAddr go)) (nA : am_lk [(43, am_e0), (44, am_e0)] a0 = none) (r0 : am_get h a0 = some (.inr (8, w0))) (s0 : w0[3]? = some (.retAddr n)) {fm fs G x y le u : Nat} {v7 : Option Value} (hx : x < n) (hle : le < 2147483648) (h0 : ¬ le = 0) (hu : u = mi) : am_Good mi_88 25 [some (.ref 43), some (.ref E), some (.ref q), some (.retAddr x), some (.retAddr y), some (.retAddr le), some (.retAddr u), v7] [] (rv h mi fm fs G) (none, (rv h mi fm fs G)) := by
  refine g_iload dd_88_25 rfl ?_
  refine g_aload_n (i := 0) dd_88_27 rfl ?_
  refine g_getfield (k := 1) am_ck7 (by decide) (Or.inl w_201) dd_88_28 (rv_g43 hH) rfl ?_
  refine g_icmp_ge_t (t := 84) dd_88_31 (by decide) (by first | exact sk_ge_t (by omega) (by omega) | exact tk_ge_t (by omega)) ?_
  refine g_iload dd_88_84 rfl ?_
  refine g_if_ne_t (t := 101) dd_88_86 (by decide) (tk_ne_t (by omega)) ?_
  exact g_return rfl dd_88_101
theorem fg_n {h : am_H} {n mi go : Nat} (hH : rv_ok h) {q : Nat} {vq : List Value} {fw : Nat → Nat → Nat} (qS : ∀ m fm fs G, am_get (rv h m fm fs G) q = some (.inr (9, vq))) (cw : ∀ m fm fs G s t, s < n → t < mi → am_EG mi_41 [.ref q, .retAddr s, .retAddr t] (rv h m fm fs G) (some (.retAddr (fw s t)), rv h m fm fs G)) (hn : n ≤ 4) (hm1 : 1 ≤ mi) (hm : mi ≤ 60) (hgo : go ≤ 3) (h99 : ∀ s t, s < n → t < mi → fw s t ≤ 99) {E a0 : Nat} {vE w0 : List Value} (nE : am_lk [(43, am_e0), (44, am_e0)] E = none) (qE : am_get h E = some (.inr (1, vE))) (e0 : vE[0]? = some (.ref a0)) (e6 : vE[6]? = some (.retAddr mi)) (e7 : vE[7]? = some (.retAddr go)) (nA : am_lk [(43, am_e0), (44, am_e0)] a0 = none) (r0 : am_get h a0 = some (.inr (8, w0))) (s0 : w0[3]? = some (.retAddr n)) {fm fs G x y le u : Nat} {v7 : Option Value} (hx : x < n) (hle : le < 2147483648) {r : am_R} {rr : Nat} (hu : u < mi) (hf : fw x u ≤ le) (hr : rr = 4294967292) (e9 : am_EG mi_89 [.ref 43, .ref E, .ref q, .retAddr x, .retAddr u, .retAddr le] (rv h mi fm fs G) (some (.retAddr rr), (rv h mi fm fs G))) (hg : am_Good mi_88 25 [some (.ref 43), some (.ref E), some (.ref q), some (.retAddr x), some (.retAddr y), some (.retAddr (le - fw x u)), some (.retAddr (u + 1)), some (.retAddr rr)] [] (rv h mi fm fs G) r) : am_Good mi_88 25 [some (.ref 43), some (.ref E), some (.ref q), some (.retAddr x), some (.retAddr y), some (.retAddr le), some (.retAddr u), v7] [] (rv h mi fm fs G) r := by
  have b2 := h99 x u hx hu
  refine g_iload dd_88_25 rfl ?_
  refine g_aload_n (i := 0) dd_88_27 rfl ?_
  refine g_getfield (k := 1) am_ck7 (by decide) (Or.inl w_201) dd_88_28 (rv_g43 hH) rfl ?_
  refine g_icmp_ge_f (t := 84) dd_88_31 (by decide) (by first | exact sk_ge_f (by omega) (by omega) | exact tk_ge_f (by omega)) ?_
  refine g_aload_n (i := 0) dd_88_34 rfl ?_
  refine g_aload_n (i := 1) dd_88_35 rfl ?_
  refine g_aload_n (i := 2) dd_88_36 rfl ?_
  refine g_iload_n (i := 3) dd_88_37 rfl ?_
  refine g_iload dd_88_38 rfl ?_
  refine g_iload dd_88_40 rfl ?_
  refine g_virtual (M' := mi_89) (n := 5) (ci := 7) (b := 43) (as := [.ref E, .ref q, .retAddr x, .retAddr u, .retAddr le]) (st := []) (r1 := (some (.retAddr rr), (rv h mi fm fs G))) w_744 w_746 ps_89 ⟨lk_89.1, lk_89.2.1, lk_89.2.2, by decide, by decide⟩ rfl (rv_g43 hH) rfl (by simp [Value.category]) dd_88_42 (e9) ?_
  show am_Good mi_88 45 [some (.ref 43), some (.ref E), some (.ref q), some (.retAddr x), some (.retAddr y), some (.retAddr le), some (.retAddr u), v7] [.retAddr rr] (rv h mi fm fs G) _
  refine g_istore dd_88_45 (am_nlb_ok rfl) (by decide) ?_
  refine g_iload dd_88_47 rfl ?_
  refine g_bipush dd_88_49 bi_m4 ?_
  refine g_icmp_eq_t (t := 66) dd_88_51 (by decide) (tk_eq_t (by omega)) ?_
  refine g_iload dd_88_66 rfl ?_
  refine g_aload_n (i := 2) dd_88_68 rfl ?_
  refine g_iload_n (i := 3) dd_88_69 rfl ?_
  refine g_iload dd_88_70 rfl ?_
  refine g_virtual (M' := mi_41) (n := 2) (ci := 9) (b := q) (as := [.retAddr x, .retAddr u]) (st := [.retAddr le]) (r1 := (some (.retAddr (fw x u)), (rv h mi fm fs G))) w_490 w_491 w_492 ⟨lk_41.1, lk_41.2.1, lk_41.2.2, by decide, by decide⟩ rfl (qS _ _ _ _) rfl (by simp [Value.category]) dd_88_72 (cw _ _ _ _ _ _ (by omega) (by omega)) ?_
  show am_Good mi_88 75 [some (.ref 43), some (.ref E), some (.ref q), some (.retAddr x), some (.retAddr y), some (.retAddr le), some (.retAddr u), some (.retAddr rr)] [.retAddr (fw x u), .retAddr le] (rv h mi fm fs G) _
  refine e_isub (v := le - fw x u) dd_88_75 (by omega) ?_
  refine g_istore dd_88_76 (am_nlb_ok rfl) (by decide) ?_
  refine e_iinc (v := 1) (w := u + 1) dd_88_78 rfl ic_1 (am_nlb_ok rfl) (by decide) (by omega) ?_
  refine g_goto (t := 25) dd_88_81 (by decide) ?_
  exact hg
theorem fg_h {h : am_H} {n mi go : Nat} (hH : rv_ok h) {q : Nat} {vq : List Value} {fw : Nat → Nat → Nat} (qS : ∀ m fm fs G, am_get (rv h m fm fs G) q = some (.inr (9, vq))) (cw : ∀ m fm fs G s t, s < n → t < mi → am_EG mi_41 [.ref q, .retAddr s, .retAddr t] (rv h m fm fs G) (some (.retAddr (fw s t)), rv h m fm fs G)) (hn : n ≤ 4) (hm1 : 1 ≤ mi) (hm : mi ≤ 60) (hgo : go ≤ 3) (h99 : ∀ s t, s < n → t < mi → fw s t ≤ 99) {E a0 : Nat} {vE w0 : List Value} (nE : am_lk [(43, am_e0), (44, am_e0)] E = none) (qE : am_get h E = some (.inr (1, vE))) (e0 : vE[0]? = some (.ref a0)) (e6 : vE[6]? = some (.retAddr mi)) (e7 : vE[7]? = some (.retAddr go)) (nA : am_lk [(43, am_e0), (44, am_e0)] a0 = none) (r0 : am_get h a0 = some (.inr (8, w0))) (s0 : w0[3]? = some (.retAddr n)) {fm fs G x y le u : Nat} {v7 : Option Value} (hx : x < n) (hle : le < 2147483648) {r : am_R} {rr : Nat} (hu : u < mi) (hf : fw x u ≤ le) (hr : rr < n) (e9 : am_EG mi_89 [.ref 43, .ref E, .ref q, .retAddr x, .retAddr u, .retAddr le] (rv h mi fm fs G) (some (.retAddr rr), (rv h mi fm fs G))) (hg : am_Good mi_88 25 [some (.ref 43), some (.ref E), some (.ref q), some (.retAddr x), some (.retAddr y), some (.retAddr (le - fw x u)), some (.retAddr (u + 1)), some (.retAddr rr)] [] (rv h mi u rr G) r) : am_Good mi_88 25 [some (.ref 43), some (.ref E), some (.ref q), some (.retAddr x), some (.retAddr y), some (.retAddr le), some (.retAddr u), v7] [] (rv h mi fm fs G) r := by
  have b2 := h99 x u hx hu
  refine g_iload dd_88_25 rfl ?_
  refine g_aload_n (i := 0) dd_88_27 rfl ?_
  refine g_getfield (k := 1) am_ck7 (by decide) (Or.inl w_201) dd_88_28 (rv_g43 hH) rfl ?_
  refine g_icmp_ge_f (t := 84) dd_88_31 (by decide) (by first | exact sk_ge_f (by omega) (by omega) | exact tk_ge_f (by omega)) ?_
  refine g_aload_n (i := 0) dd_88_34 rfl ?_
  refine g_aload_n (i := 1) dd_88_35 rfl ?_
  refine g_aload_n (i := 2) dd_88_36 rfl ?_
  refine g_iload_n (i := 3) dd_88_37 rfl ?_
  refine g_iload dd_88_38 rfl ?_
  refine g_iload dd_88_40 rfl ?_
  refine g_virtual (M' := mi_89) (n := 5) (ci := 7) (b := 43) (as := [.ref E, .ref q, .retAddr x, .retAddr u, .retAddr le]) (st := []) (r1 := (some (.retAddr rr), (rv h mi fm fs G))) w_744 w_746 ps_89 ⟨lk_89.1, lk_89.2.1, lk_89.2.2, by decide, by decide⟩ rfl (rv_g43 hH) rfl (by simp [Value.category]) dd_88_42 (e9) ?_
  show am_Good mi_88 45 [some (.ref 43), some (.ref E), some (.ref q), some (.retAddr x), some (.retAddr y), some (.retAddr le), some (.retAddr u), v7] [.retAddr rr] (rv h mi fm fs G) _
  refine g_istore dd_88_45 (am_nlb_ok rfl) (by decide) ?_
  refine g_iload dd_88_47 rfl ?_
  refine g_bipush dd_88_49 bi_m4 ?_
  refine g_icmp_eq_f (t := 66) dd_88_51 (by decide) (tk_eq_f (by omega)) ?_
  refine g_aload_n (i := 0) dd_88_54 rfl ?_
  refine g_iload dd_88_55 rfl ?_
  refine g_putfield (k := 2) am_ck7 (by decide) (Or.inl w_202) (Or.inl rfl) dd_88_57 (rv_g43 hH) (Nat.le_of_ble_eq_true rfl) trivial ?_
  refine am_heq (rv_u43 hH) ?_
  show am_Good mi_88 60 [some (.ref 43), some (.ref E), some (.ref q), some (.retAddr x), some (.retAddr y), some (.retAddr le), some (.retAddr u), some (.retAddr rr)] [] (rv h mi u fs G) _
  refine g_aload_n (i := 0) dd_88_60 rfl ?_
  refine g_iload dd_88_61 rfl ?_
  refine g_putfield (k := 3) am_ck7 (by decide) (Or.inl w_204) (Or.inl rfl) dd_88_63 (rv_g43 hH) (Nat.le_of_ble_eq_true rfl) trivial ?_
  refine am_heq (rv_u43 hH) ?_
  show am_Good mi_88 66 [some (.ref 43), some (.ref E), some (.ref q), some (.retAddr x), some (.retAddr y), some (.retAddr le), some (.retAddr u), some (.retAddr rr)] [] (rv h mi u rr G) _
  refine g_iload dd_88_66 rfl ?_
  refine g_aload_n (i := 2) dd_88_68 rfl ?_
  refine g_iload_n (i := 3) dd_88_69 rfl ?_
  refine g_iload dd_88_70 rfl ?_
  refine g_virtual (M' := mi_41) (n := 2) (ci := 9) (b := q) (as := [.retAddr x, .retAddr u]) (st := [.retAddr le]) (r1 := (some (.retAddr (fw x u)), (rv h mi u rr G))) w_490 w_491 w_492 ⟨lk_41.1, lk_41.2.1, lk_41.2.2, by decide, by decide⟩ rfl (qS _ _ _ _) rfl (by simp [Value.category]) dd_88_72 (cw _ _ _ _ _ _ (by omega) (by omega)) ?_
  show am_Good mi_88 75 [some (.ref 43), some (.ref E), some (.ref q), some (.retAddr x), some (.retAddr y), some (.retAddr le), some (.retAddr u), some (.retAddr rr)] [.retAddr (fw x u), .retAddr le] (rv h mi u rr G) _
  refine e_isub (v := le - fw x u) dd_88_75 (by omega) ?_
  refine g_istore dd_88_76 (am_nlb_ok rfl) (by decide) ?_
  refine e_iinc (v := 1) (w := u + 1) dd_88_78 rfl ic_1 (am_nlb_ok rfl) (by decide) (by omega) ?_
  refine g_goto (t := 25) dd_88_81 (by decide) ?_
  exact hg
theorem fg_l {h : am_H} {n mi go : Nat} (hH : rv_ok h) {q : Nat} {vq : List Value} {fw : Nat → Nat → Nat} (qS : ∀ m fm fs G, am_get (rv h m fm fs G) q = some (.inr (9, vq))) (cw : ∀ m fm fs G s t, s < n → t < mi → am_EG mi_41 [.ref q, .retAddr s, .retAddr t] (rv h m fm fs G) (some (.retAddr (fw s t)), rv h m fm fs G)) (hn : n ≤ 4) (hm1 : 1 ≤ mi) (hm : mi ≤ 60) (hgo : go ≤ 3) (h99 : ∀ s t, s < n → t < mi → fw s t ≤ 99) {E a0 : Nat} {vE w0 : List Value} (nE : am_lk [(43, am_e0), (44, am_e0)] E = none) (qE : am_get h E = some (.inr (1, vE))) (e0 : vE[0]? = some (.ref a0)) (e6 : vE[6]? = some (.retAddr mi)) (e7 : vE[7]? = some (.retAddr go)) (nA : am_lk [(43, am_e0), (44, am_e0)] a0 = none) (r0 : am_get h a0 = some (.inr (8, w0))) (s0 : w0[3]? = some (.retAddr n)) {G x y : Nat} (hx : x < n) (hy : y < mi) (hR : rt_R fw (rt_T G mi) go n mi 0) : ∀ (c j : Nat) (v7 : Option Value), y + j + c = mi → am_Good mi_88 25 [some (.ref 43), some (.ref E), some (.ref q), some (.retAddr x), some (.retAddr y), some (.retAddr (rt_T G mi y x - lg_s fw x y j)), some (.retAddr (y + j)), v7] [] (rv h mi (lg_m fw (rt_T G mi) go n x y j) (lg_f fw (rt_T G mi) go n x y j) G) (none, rv h mi (lg_r fw (rt_T G mi) go n mi x y 1) (lg_r fw (rt_T G mi) go n mi x y 2) G)
  | 0, j, v7, e => by
    have e' : mi - y = j := by omega
    have b0 := rt_bd' hm h99 hR y (Nat.zero_le _) x hx
    have l := lg_le (y := y) hR hx j (by omega)
    have r1 : lg_r fw (rt_T G mi) go n mi x y 1 = if lg_s fw x y (mi - y) = rt_T G mi y x then 4294967292 else lg_m fw (rt_T G mi) go n x y (mi - y) := rfl
    have r2 : lg_r fw (rt_T G mi) go n mi x y 2 = if lg_s fw x y (mi - y) = rt_T G mi y x then 4294967292 else lg_f fw (rt_T G mi) go n x y (mi - y) := rfl
    rw [r1, r2, e']
    by_cases h0 : lg_s fw x y j = rt_T G mi y x
    · rw [if_pos h0, if_pos h0]
      exact fg_z hH qS cw hn hm1 hm hgo h99 nE qE e0 e6 e7 nA r0 s0 hx (by omega) (by omega) (by omega)
    · rw [if_neg h0, if_neg h0]
      exact fg_e hH qS cw hn hm1 hm hgo h99 nE qE e0 e6 e7 nA r0 s0 hx (by omega) (by omega) (by omega)
  | c + 1, j, v7, e => by
    have hj : y + j < mi := by omega
    have b0 := rt_bd' hm h99 hR y (Nat.zero_le _) x hx
    have l := lg_le (y := y) hR hx j (by omega)
    have l1 := lg_le (y := y) hR hx (j + 1) (by omega)
    have l2 : lg_s fw x y (j + 1) = lg_s fw x y j + fw x (y + j) := rfl
    have q := fg_l hH qS cw hn hm1 hm hgo h99 nE qE e0 e6 e7 nA r0 s0 hx hy hR c (j + 1) (some (.retAddr (mg_w (rt_by fw (rt_T G mi) go (y + j)) x (rt_T G mi y x - lg_s fw x y j) n 0))) (by omega)
    have w := lg_w hn hm h99 hR hx hj
    rw [show rt_T G mi y x - lg_s fw x y (j + 1) = rt_T G mi y x - lg_s fw x y j - fw x (y + j) by omega, show lg_m fw (rt_T G mi) go n x y (j + 1) = if lg_h fw (rt_T G mi) go n x y j then y + j else lg_m fw (rt_T G mi) go n x y j from rfl, show lg_f fw (rt_T G mi) go n x y (j + 1) = if lg_h fw (rt_T G mi) go n x y j then lg_b fw (rt_T G mi) go n x (y + j) else lg_f fw (rt_T G mi) go n x y j from rfl] at q
    have e9 := gg_m hH qS cw hn hm1 hm hgo h99 nE qE e0 e6 e7 nA r0 s0 (fm := lg_m fw (rt_T G mi) go n x y j) (fs := lg_f fw (rt_T G mi) go n x y j) (w := rt_T G mi y x - lg_s fw x y j) hx hj (by omega) (fun t ht k hk => rt_bd' hm h99 hR t (Nat.zero_le _) k hk)
    by_cases hh : lg_h fw (rt_T G mi) go n x y j
    · rw [if_pos hh] at w
      rw [if_pos hh, if_pos hh] at q
      have hb : lg_b fw (rt_T G mi) go n x (y + j) < n := by
        rcases jm_bf_lt (rt_by fw (rt_T G mi) go (y + j)) x n with h2 | h2
        · exact absurd h2 hh.1
        · exact h2
      rw [w] at q e9
      exact fg_h hH qS cw hn hm1 hm hgo h99 nE qE e0 e6 e7 nA r0 s0 hx (by omega) hj (by omega) hb e9 q
    · rw [if_neg hh] at w
      rw [if_neg hh, if_neg hh] at q
      rw [w] at q e9
      exact fg_n hH qS cw hn hm1 hm hgo h99 nE qE e0 e6 e7 nA r0 s0 hx (by omega) hj (by omega) rfl e9 q
theorem fg_m {h : am_H} {n mi go : Nat} (hH : rv_ok h) {q : Nat} {vq : List Value} {fw : Nat → Nat → Nat} (qS : ∀ m fm fs G, am_get (rv h m fm fs G) q = some (.inr (9, vq))) (cw : ∀ m fm fs G s t, s < n → t < mi → am_EG mi_41 [.ref q, .retAddr s, .retAddr t] (rv h m fm fs G) (some (.retAddr (fw s t)), rv h m fm fs G)) (hn : n ≤ 4) (hm1 : 1 ≤ mi) (hm : mi ≤ 60) (hgo : go ≤ 3) (h99 : ∀ s t, s < n → t < mi → fw s t ≤ 99) {E a0 : Nat} {vE w0 : List Value} (nE : am_lk [(43, am_e0), (44, am_e0)] E = none) (qE : am_get h E = some (.inr (1, vE))) (e0 : vE[0]? = some (.ref a0)) (e6 : vE[6]? = some (.retAddr mi)) (e7 : vE[7]? = some (.retAddr go)) (nA : am_lk [(43, am_e0), (44, am_e0)] a0 = none) (r0 : am_get h a0 = some (.inr (8, w0))) (s0 : w0[3]? = some (.retAddr n)) {fm fs G x y : Nat} (hx : x < n) (hy : y < mi) (hR : rt_R fw (rt_T G mi) go n mi 0) : am_EG mi_88 [.ref 43, .ref E, .ref q, .retAddr x, .retAddr y] (rv h mi fm fs G) (none, rv h mi (lg_r fw (rt_T G mi) go n mi x y 1) (lg_r fw (rt_T G mi) go n mi x y 2) G) := by
  refine am_enter (n := 3) tk_88.2.1 (by simp [Value.category]) (Nat.le_of_ble_eq_true rfl) ?_
  show am_Good mi_88 0 [some (.ref 43), some (.ref E), some (.ref q), some (.retAddr x), some (.retAddr y), none, none, none] [] (rv h mi fm fs G) _
  refine g_aload_n (i := 0) dd_88_0 rfl ?_
  refine g_bipush dd_88_1 bi_m4 ?_
  refine g_putfield (k := 2) am_ck7 (by decide) (Or.inl w_202) (Or.inl rfl) dd_88_3 (rv_g43 hH) (Nat.le_of_ble_eq_true rfl) trivial ?_
  refine am_heq (rv_u43 hH) ?_
  show am_Good mi_88 6 [some (.ref 43), some (.ref E), some (.ref q), some (.retAddr x), some (.retAddr y), none, none, none] [] (rv h mi 4294967292 fs G) _
  refine g_aload_n (i := 0) dd_88_6 rfl ?_
  refine g_bipush dd_88_7 bi_m4 ?_
  refine g_putfield (k := 3) am_ck7 (by decide) (Or.inl w_204) (Or.inl rfl) dd_88_9 (rv_g43 hH) (Nat.le_of_ble_eq_true rfl) trivial ?_
  refine am_heq (rv_u43 hH) ?_
  show am_Good mi_88 12 [some (.ref 43), some (.ref E), some (.ref q), some (.retAddr x), some (.retAddr y), none, none, none] [] (rv h mi 4294967292 4294967292 G) _
  refine g_aload_n (i := 0) dd_88_12 rfl ?_
  refine g_iload_n (i := 3) dd_88_13 rfl ?_
  refine g_iload dd_88_14 rfl ?_
  refine g_virtual (M' := mi_42) (n := 2) (ci := 7) (b := 43) (as := [.retAddr x, .retAddr y]) (st := []) (r1 := (some (.retAddr (rt_T G mi y x)), (rv h mi 4294967292 4294967292 G))) w_494 w_495 w_496 ⟨lk_42.1, lk_42.2.1, lk_42.2.2, by decide, by decide⟩ rfl (rv_g43 hH) rfl (by simp [Value.category]) dd_88_16 (rw_f hH (by omega) (by omega) hm) ?_
  show am_Good mi_88 19 [some (.ref 43), some (.ref E), some (.ref q), some (.retAddr x), some (.retAddr y), none, none, none] [.retAddr (rt_T G mi y x)] (rv h mi 4294967292 4294967292 G) _
  refine g_istore dd_88_19 (am_nlb_ok rfl) (by decide) ?_
  refine g_iload dd_88_21 rfl ?_
  refine g_istore dd_88_23 (am_nlb_ok rfl) (by decide) ?_
  exact fg_l hH qS cw hn hm1 hm hgo h99 nE qE e0 e6 e7 nA r0 s0 hx hy hR (mi - y) 0 none (by omega)
