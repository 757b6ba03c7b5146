/-! ===== fair, purely: bounds, ways one behind the other ===== -/
theorem fa_s_le {f : Nat → Nat} {a M : Nat} : ∀ {k : Nat}, (∀ j, j < k → f (a + j) ≤ M) → fa_s f a k ≤ M * k
  | 0, _ => Nat.zero_le _
  | k + 1, h => by
    have i := fa_s_le (f := f) (a := a) (M := M) (k := k) (fun j hj => h j (by omega))
    have q := h k (by omega)
    show fa_s f a k + f (a + k) ≤ M * (k + 1)
    rw [Nat.mul_succ]
    omega
theorem fa_s_cg {f f' : Nat → Nat} {a : Nat} : ∀ {k : Nat}, (∀ j, j < k → f (a + j) = f' (a + j)) → fa_s f a k = fa_s f' a k
  | 0, _ => rfl
  | k + 1, h => by
    show fa_s f a k + f (a + k) = fa_s f' a k + f' (a + k)
    rw [fa_s_cg (k := k) (fun j hj => h j (by omega)), h k (by omega)]
theorem fa_e_b (mi r : Nat) : fa_e mi r ≤ 10 * r + 10 ∧ fa_e mi r ≤ mi := by
  unfold fa_e
  by_cases h : 10 * r + 10 < mi
  · rw [if_pos h]; omega
  · rw [if_neg h]; omega
theorem fa_p_le {fw : Nat → Nat → Nat} {mi r s d M : Nat} (h : ∀ t, t < mi → fw s t ≤ M) : fa_p fw mi r s d ≤ M * 10 := by
  unfold fa_p
  have e := fa_e_b mi r
  exact Nat.le_trans (fa_s_le (M := M) (fun j hj => h _ (by omega))) (Nat.mul_le_mul_left _ (by omega))
theorem fa_p_cg {fw fw' : Nat → Nat → Nat} {mi r s d : Nat} (h : ∀ t, t < mi → fw s t = fw' s t) : fa_p fw mi r s d = fa_p fw' mi r s d := by
  unfold fa_p
  have e := fa_e_b mi r
  exact fa_s_cg (fun j hj => h _ (by omega))
theorem fa_w_le {fw : Nat → Nat → Nat} {mi go s M : Nat} {on : Nat → Nat} (h : ∀ t, t < mi → fw s t ≤ M) : ∀ n, fa_w fw mi go on s n ≤ M * 10 * n
  | 0 => Nat.zero_le _
  | n + 1 => by
    have i := fa_w_le (go := go) (on := on) h n
    have p := fa_p_le (r := n) (d := fa_l go on n) h
    show (if on n = s then fa_w fw mi go on s n + fa_p fw mi n s (fa_l go on n) else fa_w fw mi go on s n) ≤ M * 10 * (n + 1)
    rw [Nat.mul_succ]
    by_cases c : on n = s
    · rw [if_pos c]; omega
    · rw [if_neg c]; omega
theorem fa_l_cg {go n : Nat} {on on' : Nat → Nat} (h : ∀ r, r < n + 1 → on r = on' r) : fa_l go on n = fa_l go on' n := by
  unfold fa_l
  by_cases z : n = 0
  · rw [if_pos z, if_pos z]
  · rw [if_neg z, if_neg z, h (n - 1) (by omega), h n (by omega)]
theorem fa_w_cg {fw fw' : Nat → Nat → Nat} {mi go s : Nat} {on on' : Nat → Nat} : ∀ {n : Nat}, (∀ r, r < n → on r = on' r) → (∀ r, r < n → ∀ t, t < mi → fw (on r) t = fw' (on r) t) → fa_w fw mi go on s n = fa_w fw' mi go on' s n
  | 0, _, _ => rfl
  | n + 1, h, g => by
    have i := fa_w_cg (fw := fw) (fw' := fw') (mi := mi) (go := go) (s := s) (n := n) (fun r hr => h r (by omega)) (fun r hr => g r (by omega))
    have e : on n = on' n := h n (by omega)
    have el : fa_l go on n = fa_l go on' n := fa_l_cg h
    show (if on n = s then fa_w fw mi go on s n + fa_p fw mi n s (fa_l go on n) else fa_w fw mi go on s n) = (if on' n = s then fa_w fw' mi go on' s n + fa_p fw' mi n s (fa_l go on' n) else fa_w fw' mi go on' s n)
    rw [← e, ← el, i]
    by_cases c : on n = s
    · rw [if_pos c, if_pos c]
      have q : ∀ t, t < mi → fw s t = fw' s t := fun t ht => by
        have := g n (by omega) t ht
        rw [c] at this
        exact this
      rw [fa_p_cg q]
    · rw [if_neg c, if_neg c]
theorem fa_m_cg {f f' : Nat → Nat} {b : Nat} : ∀ {k : Nat}, (∀ i, i < k → f i = f' i) → fa_m f b k = fa_m f' b k
  | 0, _ => rfl
  | k + 1, h => by
    show (if f k < fa_m f b k then f k else fa_m f b k) = (if f' k < fa_m f' b k then f' k else fa_m f' b k)
    rw [fa_m_cg (k := k) (fun i hi => h i (by omega)), h k (by omega)]
theorem fa_m_le {f : Nat → Nat} {b : Nat} : ∀ k, fa_m f b k ≤ b
  | 0 => Nat.le_refl _
  | k + 1 => by
    have i := fa_m_le (f := f) (b := b) k
    show (if f k < fa_m f b k then f k else fa_m f b k) ≤ b
    by_cases c : f k < fa_m f b k
    · rw [if_pos c]; omega
    · rw [if_neg c]; exact i
theorem fa_m_0 {f : Nat → Nat} {b : Nat} (h : f 0 ≤ b) : ∀ k, fa_m f (f 0) (k + 1) = fa_m f b (k + 1)
  | 0 => by
    show (if f 0 < f 0 then f 0 else f 0) = (if f 0 < b then f 0 else b)
    rw [if_neg (Nat.lt_irrefl _)]
    by_cases c : f 0 < b
    · rw [if_pos c]
    · rw [if_neg c]; omega
  | k + 1 => by
    have i := fa_m_0 h k
    show (if f (k + 1) < fa_m f (f 0) (k + 1) then f (k + 1) else fa_m f (f 0) (k + 1)) = (if f (k + 1) < fa_m f b (k + 1) then f (k + 1) else fa_m f b (k + 1))
    rw [i]
theorem fa_b_lt {L : Nat → Nat} : ∀ {n : Nat}, 0 < n → fa_b L n < n
  | 0, h => absurd h (Nat.lt_irrefl _)
  | n + 1, _ => by
    show (if L (fa_b L n) < L n then n else fa_b L n) < n + 1
    by_cases c : L (fa_b L n) < L n
    · rw [if_pos c]; omega
    · rw [if_neg c]
      by_cases z : n = 0
      · subst z; show 0 < 1; omega
      · have := fa_b_lt (L := L) (n := n) (by omega); omega
theorem fa_b_cg {L L' : Nat → Nat} : ∀ {n : Nat}, (∀ i, i < n → L i = L' i) → fa_b L n = fa_b L' n
  | 0, _ => rfl
  | n + 1, h => by
    have i := fa_b_cg (L := L) (L' := L') (n := n) (fun i hi => h i (by omega))
    show (if L (fa_b L n) < L n then n else fa_b L n) = (if L' (fa_b L' n) < L' n then n else fa_b L' n)
    have e : L (fa_b L' n) = L' (fa_b L' n) := by
      by_cases z : n = 0
      · subst z; exact h 0 (by omega)
      · have := fa_b_lt (L := L') (n := n) (by omega)
        exact h _ (by omega)
    rw [i, e, h n (by omega)]
theorem fa_pw {w tn : Nat} (hw : w ≤ 4) (ht : tn ≤ 6) : w ^ tn ≤ 4096 := Nat.le_trans (Nat.pow_le_pow_left hw tn) (Nat.le_trans (Nat.pow_le_pow_right (by decide) ht) (by decide))
theorem fa_d_lt {w tn way r : Nat} (hw : 0 < w) : fa_d w tn way r < w := Nat.mod_lt _ hw
theorem fa_d_0 {w tn r : Nat} : fa_d w tn 0 r = 0 := by
  unfold fa_d
  rw [Nat.zero_div, Nat.zero_mod]
theorem fa_L_cg {fw fw' : Nat → Nat → Nat} {mi go w n way : Nat} {own own' : Nat → Nat} (hw : 0 < w) (ho : ∀ i, i < w → own i = own' i) (hn : ∀ i, i < w → own' i < n) (h : ∀ s, s < n → ∀ t, t < mi → fw s t = fw' s t) : fa_L fw mi go w own way = fa_L fw' mi go w own' way := by
  unfold fa_L
  refine fa_m_cg (fun i hi => ?_)
  rw [ho i hi]
  exact fa_w_cg (fun r _ => ho _ (fa_d_lt hw)) (fun r _ t ht => by
    have q : fa_d w (fa_tn mi) way r < w := fa_d_lt hw
    show fw (own (fa_d w (fa_tn mi) way r)) t = fw' (own (fa_d w (fa_tn mi) way r)) t
    rw [ho _ q]
    exact h _ (hn _ q) t ht)
theorem fa_L_le {fw : Nat → Nat → Nat} {mi go w way : Nat} {own : Nat → Nat} : fa_L fw mi go w own way ≤ 1000 := fa_m_le w
/-- a number that ends in zeros behind one more -/
theorem fa_q {P way c : Nat} (hP : 0 < P) (hc : 0 < c) (e : way + 1 = P * c) : way / P = c - 1 ∧ (way + 1) / P = c := by
  obtain ⟨b, rfl⟩ : ∃ b, c = b + 1 := ⟨c - 1, by omega⟩
  rw [Nat.mul_succ] at e
  refine ⟨?_, ?_⟩
  · have h1 : b ≤ way / P := (Nat.le_div_iff_mul_le hP).mpr (by rw [Nat.mul_comm]; omega)
    have h2 : way / P < b + 1 := (Nat.div_lt_iff_lt_mul hP).mpr (by rw [Nat.mul_comm, Nat.mul_succ]; omega)
    omega
  · rw [e, ← Nat.mul_succ]
    exact Nat.mul_div_cancel_left _ hP
theorem fa_c {w j way : Nat} (hw : 0 < w) (hz : (way + 1) % w ^ j = 0) : ∃ c, 0 < c ∧ way + 1 = w ^ j * c ∧ way / w ^ j = c - 1 ∧ (way + 1) / w ^ j = c := by
  obtain ⟨c, hc⟩ := Nat.dvd_of_mod_eq_zero hz
  have hP : 0 < w ^ j := Nat.pow_pos hw
  have c0 : 0 < c := by
    rcases Nat.eq_zero_or_pos c with z | z
    · subst z; rw [Nat.mul_zero] at hc; omega
    · exact z
  exact ⟨c, c0, hc, fa_q hP c0 hc⟩
/-- one more, no carry at the digit j from the end -/
theorem fa_up {w tn j way : Nat} (hw : 0 < w) (hj : j < tn) (hz : (way + 1) % w ^ j = 0) (hd : fa_d w tn way (tn - 1 - j) + 1 < w) (hl : way < w ^ tn) : way + 1 < w ^ tn ∧ (∀ r, r < tn - 1 - j → fa_d w tn (way + 1) r = fa_d w tn way r) ∧ fa_d w tn (way + 1) (tn - 1 - j) = fa_d w tn way (tn - 1 - j) + 1 ∧ ∀ r, tn - 1 - j < r → r < tn → fa_d w tn (way + 1) r = 0 := by
  obtain ⟨c, c0, hc, q1, q2⟩ := fa_c hw hz
  have hk : tn - 1 - (tn - 1 - j) = j := by omega
  have ed : fa_d w tn way (tn - 1 - j) = (c - 1) % w := by unfold fa_d; rw [hk, q1]
  rw [ed] at hd
  have dm := Nat.div_add_mod (c - 1) w
  have cc : c = w * ((c - 1) / w) + ((c - 1) % w + 1) := by omega
  have m1 : c % w = (c - 1) % w + 1 := by
    rw [congrArg (fun x => x % w) cc, Nat.mul_add_mod]
    exact Nat.mod_eq_of_lt hd
  have m2 : c / w = (c - 1) / w := by
    rw [congrArg (fun x => x / w) cc, Nat.mul_add_div hw, Nat.div_eq_of_lt hd, Nat.add_zero]
  have e1 : fa_d w tn (way + 1) (tn - 1 - j) = (c - 1) % w + 1 := by
    unfold fa_d; rw [hk, q2]; exact m1
  refine ⟨?_, fun r hr => ?_, by rw [e1, ed], fun r h1 h2 => ?_⟩
  · by_cases q : way + 1 < w ^ tn
    · exact q
    · exfalso
      have e : way + 1 = w ^ tn := by omega
      obtain ⟨m, hm⟩ : ∃ m, tn = j + (1 + m) := ⟨tn - j - 1, by omega⟩
      have z : fa_d w tn (way + 1) (tn - 1 - j) = 0 := by
        unfold fa_d
        rw [hk, e, congrArg (fun x => w ^ x) hm, Nat.pow_add w j, Nat.pow_add w 1, Nat.pow_one, Nat.mul_div_cancel_left _ (Nat.pow_pos hw), Nat.mul_mod_right]
      rw [e1] at z
      omega
  · obtain ⟨m, hm⟩ : ∃ m, tn - 1 - r = j + (1 + m) := ⟨tn - 1 - r - j - 1, by omega⟩
    have g : ∀ a, a / w ^ (j + (1 + m)) = a / w ^ j / w / w ^ m := fun a => by
      rw [Nat.pow_add w j, Nat.pow_add w 1, Nat.pow_one, ← Nat.div_div_eq_div_mul, ← Nat.div_div_eq_div_mul]
    unfold fa_d
    rw [hm, g, g, q1, q2, m2]
  · obtain ⟨m, hm⟩ : ∃ m, j = (tn - 1 - r) + (1 + m) := ⟨j - (tn - 1 - r) - 1, by omega⟩
    unfold fa_d
    rw [hc, congrArg (fun x => w ^ x) hm, Nat.pow_add w (tn - 1 - r), Nat.pow_add w 1, Nat.pow_one, Nat.mul_assoc, Nat.mul_div_cancel_left _ (Nat.pow_pos hw), Nat.mul_assoc, Nat.mul_mod_right]
theorem fa_cy {w tn j way : Nat} (hw : 0 < w) (hj : j < tn) (hz : (way + 1) % w ^ j = 0) (hd : ¬ fa_d w tn way (tn - 1 - j) + 1 < w) : (way + 1) % w ^ (j + 1) = 0 := by
  obtain ⟨c, c0, hc, q1, q2⟩ := fa_c hw hz
  have hk : tn - 1 - (tn - 1 - j) = j := by omega
  have ed : fa_d w tn way (tn - 1 - j) = (c - 1) % w := by unfold fa_d; rw [hk, q1]
  rw [ed] at hd
  have l := Nat.mod_lt (c - 1) hw
  have dm := Nat.div_add_mod (c - 1) w
  have cc : c = w * ((c - 1) / w + 1) := by rw [Nat.mul_succ]; omega
  rw [hc, congrArg (fun x => w ^ j * x) cc, Nat.pow_succ, ← Nat.mul_assoc, Nat.mul_mod_right]
theorem fa_en {w tn way : Nat} (hz : (way + 1) % w ^ tn = 0) (hl : way < w ^ tn) : way + 1 = w ^ tn := by
  have := Nat.le_of_dvd (by omega) (Nat.dvd_of_mod_eq_zero hz)
  omega
theorem fa_dv {w tn way j : Nat} (hj : j < tn) : way / w ^ j % w = fa_d w tn way (tn - 1 - j) ∧ way / w ^ j / w = way / w ^ (j + 1) := by
  refine ⟨?_, ?_⟩
  · unfold fa_d
    rw [show tn - 1 - (tn - 1 - j) = j by omega]
  · rw [Nat.div_div_eq_div_mul, Nat.pow_succ]
