/-! ===== an evening as somebody passes it, purely ===== -/
/-- a fact as a bit -/
def fbt (x : Nat) : Nat := if x < 8 then 2 ^ x else 0
theorem fbt_all : jv_all (fun x => Nat.beq ((1 <<< (x % 32)) % 4294967296 &&& 255) (fbt x)) 9 = true := by decide +kernel
theorem fbt_eq {x : Nat} (h : x ≤ 8) : (1 <<< (x % 32)) % 4294967296 &&& 255 = fbt x := Nat.eq_of_beq_eq_true (jv_all_ok fbt_all x (by omega))
theorem fbt_lt (x : Nat) : fbt x < 256 := by
  unfold fbt
  split
  · rename_i h
    exact Nat.lt_of_le_of_lt (Nat.pow_le_pow_right (n := 2) (by decide) (show x ≤ 7 by omega)) (by decide)
  · decide
/-- the next station without a break -/
def wk_ub (fb : Nat → Nat → Bool) (n t he : Nat) : Nat → Nat → Nat
  | 0, _ => he
  | k + 1, s => if fb s t = true then wk_ub fb n t he k (if s + 1 < n then s + 1 else 0) else s
/-- the worthiest of the first stations, and where he is -/
def wk_be (fw : Nat → Nat → Nat) (t he : Nat) : Nat → Nat
  | 0 => he
  | s + 1 => if fw (wk_be fw t he s) t < fw s t then s else wk_be fw t he s
def wk_wi (fw : Nat → Nat → Nat) (fb : Nat → Nat → Bool) (n kind own t he : Nat) : Nat := if kind = 0 then he else if kind = 1 then wk_ub fb n t he n he else if kind = 2 then (if fb own t = true then wk_ub fb n t he n he else own) else wk_be fw t he n
abbrev wkS : Type := Nat × Nat × Nat × Nat × Nat
def wk_h (fw : Nat → Nat → Nat) (fb : Nat → Nat → Bool) (n kind own t : Nat) (σ : wkS) : Nat := if σ.2.1 ≤ t then wk_wi fw fb n kind own t σ.1 else σ.1
def wk_f (fw : Nat → Nat → Nat) (fb : Nat → Nat → Bool) (n go kind own t : Nat) (σ : wkS) : Nat := if wk_h fw fb n kind own t σ = σ.1 then σ.2.1 else t + go
def wk_s (fw ff : Nat → Nat → Nat) (fb : Nat → Nat → Bool) (n go kind own t : Nat) (σ : wkS) : wkS := (wk_h fw fb n kind own t σ, wk_f fw fb n go kind own t σ, if t < wk_f fw fb n go kind own t σ then σ.2.2.1 else σ.2.2.1 + fw (wk_h fw fb n kind own t σ) t, if t < wk_f fw fb n go kind own t σ then σ.2.2.2.1 else σ.2.2.2.1 ||| fbt (ff (wk_h fw fb n kind own t σ) t), if wk_h fw fb n kind own t σ = σ.1 then σ.2.2.2.2 else σ.2.2.2.2 + 1)
/-- behind so many minutes: where, free from, worth, seen, goings -/
def wk (fw ff : Nat → Nat → Nat) (fb : Nat → Nat → Bool) (n go kind own : Nat) : Nat → wkS
  | 0 => (own, 0, 0, 0, 0)
  | t + 1 => wk_s fw ff fb n go kind own t (wk fw ff fb n go kind own t)
/-- on which station in a minute -/
def wk_p (fw ff : Nat → Nat → Nat) (fb : Nat → Nat → Bool) (n go kind own t : Nat) : Nat := if t < (wk fw ff fb n go kind own (t + 1)).2.1 then 4294967292 else (wk fw ff fb n go kind own (t + 1)).1
theorem wk_ub_lt {fb : Nat → Nat → Bool} {n t he : Nat} (hh : he < n) : ∀ {k s : Nat}, s < n → wk_ub fb n t he k s < n
  | 0, _, _ => hh
  | k + 1, s, hs => by
    show (if fb s t = true then wk_ub fb n t he k (if s + 1 < n then s + 1 else 0) else s) < n
    split
    · refine wk_ub_lt hh ?_
      split <;> omega
    · exact hs
theorem wk_be_lt {fw : Nat → Nat → Nat} {n t he : Nat} (hh : he < n) : ∀ {s : Nat}, s ≤ n → wk_be fw t he s < n
  | 0, _ => hh
  | s + 1, hs => by
    show (if fw (wk_be fw t he s) t < fw s t then s else wk_be fw t he s) < n
    split
    · omega
    · exact wk_be_lt hh (by omega)
theorem wk_wi_lt {fw : Nat → Nat → Nat} {fb : Nat → Nat → Bool} {n kind own t he : Nat} (hh : he < n) (ho : own < n) : wk_wi fw fb n kind own t he < n := by
  unfold wk_wi
  split
  · exact hh
  · split
    · exact wk_ub_lt hh hh
    · split
      · split
        · exact wk_ub_lt hh hh
        · exact ho
      · exact wk_be_lt hh (Nat.le_refl n)
theorem wk_h_lt {fw : Nat → Nat → Nat} {fb : Nat → Nat → Bool} {n kind own t : Nat} {σ : wkS} (hh : σ.1 < n) (ho : own < n) : wk_h fw fb n kind own t σ < n := by
  unfold wk_h
  split
  · exact wk_wi_lt hh ho
  · exact hh
/-- bounds -/
theorem wk_inv {fw ff : Nat → Nat → Nat} {fb : Nat → Nat → Bool} {n go kind own m : Nat} (hw : ∀ s t, s < n → t < m → fw s t ≤ 99) (ho : own < n) (hg : go ≤ 3) : ∀ {t : Nat}, t ≤ m → (wk fw ff fb n go kind own t).1 < n ∧ (wk fw ff fb n go kind own t).2.1 ≤ t + 2 ∧ (wk fw ff fb n go kind own t).2.2.1 ≤ 99 * t ∧ (wk fw ff fb n go kind own t).2.2.2.1 < 256 ∧ (wk fw ff fb n go kind own t).2.2.2.2 ≤ t
  | 0, _ => ⟨ho, Nat.zero_le _, Nat.zero_le _, by show 0 < 256; decide, Nat.le_refl _⟩
  | t + 1, ht => by
    obtain ⟨i1, i2, i3, i4, i5⟩ := wk_inv (ff := ff) (fb := fb) (kind := kind) hw ho hg (t := t) (by omega)
    show (wk_s fw ff fb n go kind own t (wk fw ff fb n go kind own t)).1 < n ∧ (wk_s fw ff fb n go kind own t (wk fw ff fb n go kind own t)).2.1 ≤ t + 1 + 2 ∧ (wk_s fw ff fb n go kind own t (wk fw ff fb n go kind own t)).2.2.1 ≤ 99 * (t + 1) ∧ (wk_s fw ff fb n go kind own t (wk fw ff fb n go kind own t)).2.2.2.1 < 256 ∧ (wk_s fw ff fb n go kind own t (wk fw ff fb n go kind own t)).2.2.2.2 ≤ t + 1
    generalize wk fw ff fb n go kind own t = σ at i1 i2 i3 i4 i5
    have hl := wk_h_lt (fw := fw) (fb := fb) (kind := kind) (t := t) i1 ho
    have hq := hw _ t hl (by omega)
    refine ⟨hl, ?_, ?_, ?_, ?_⟩
    · show wk_f fw fb n go kind own t σ ≤ t + 1 + 2
      unfold wk_f
      split <;> omega
    · show (if t < wk_f fw fb n go kind own t σ then σ.2.2.1 else σ.2.2.1 + fw (wk_h fw fb n kind own t σ) t) ≤ 99 * (t + 1)
      split <;> omega
    · show (if t < wk_f fw fb n go kind own t σ then σ.2.2.2.1 else σ.2.2.2.1 ||| fbt (ff (wk_h fw fb n kind own t σ) t)) < 256
      split
      · exact i4
      · exact Nat.or_lt_two_pow (n := 8) i4 (fbt_lt _)
    · show (if wk_h fw fb n kind own t σ = σ.1 then σ.2.2.2.2 else σ.2.2.2.2 + 1) ≤ t + 1
      split <;> omega
theorem wk_p_c {fw ff : Nat → Nat → Nat} {fb : Nat → Nat → Bool} {n go kind own m : Nat} (hw : ∀ s t, s < n → t < m → fw s t ≤ 99) (ho : own < n) (hg : go ≤ 3) {t : Nat} (ht : t < m) : wk_p fw ff fb n go kind own t < n ∨ wk_p fw ff fb n go kind own t = 4294967292 := by
  unfold wk_p
  split
  · exact Or.inr rfl
  · exact Or.inl (wk_inv hw ho hg (t := t + 1) (by omega)).1
/-- only the screen's own numbers matter -/
theorem wk_ub_cg {fb gb : Nat → Nat → Bool} {n t he : Nat} (h : ∀ s, s < n → fb s t = gb s t) : ∀ {k s : Nat}, s < n → wk_ub fb n t he k s = wk_ub gb n t he k s
  | 0, _, _ => rfl
  | k + 1, s, hs => by
    show (if fb s t = true then wk_ub fb n t he k (if s + 1 < n then s + 1 else 0) else s) = (if gb s t = true then wk_ub gb n t he k (if s + 1 < n then s + 1 else 0) else s)
    rw [h s hs, wk_ub_cg h (k := k) (s := if s + 1 < n then s + 1 else 0) (by split <;> omega)]
theorem wk_be_cg {fw gw : Nat → Nat → Nat} {n t he : Nat} (h : ∀ s, s < n → fw s t = gw s t) (hh : he < n) : ∀ {s : Nat}, s ≤ n → wk_be fw t he s = wk_be gw t he s
  | 0, _ => rfl
  | s + 1, hs => by
    show (if fw (wk_be fw t he s) t < fw s t then s else wk_be fw t he s) = (if gw (wk_be gw t he s) t < gw s t then s else wk_be gw t he s)
    rw [wk_be_cg h hh (s := s) (by omega), h s (by omega), h _ (wk_be_lt (fw := gw) (t := t) hh (by omega))]
theorem wk_wi_cg {fw gw : Nat → Nat → Nat} {fb gb : Nat → Nat → Bool} {n kind own t he : Nat} (hw : ∀ s, s < n → fw s t = gw s t) (hb : ∀ s, s < n → fb s t = gb s t) (hh : he < n) (ho : own < n) : wk_wi fw fb n kind own t he = wk_wi gw gb n kind own t he := by
  unfold wk_wi
  rw [wk_ub_cg hb hh, wk_be_cg hw hh (Nat.le_refl n), hb own ho]
theorem wk_cg {fw gw ff gf : Nat → Nat → Nat} {fb gb : Nat → Nat → Bool} {n go kind own m : Nat} (hw : ∀ s t, s < n → t < m → fw s t = gw s t) (hf : ∀ s t, s < n → t < m → ff s t = gf s t) (hb : ∀ s t, s < n → t < m → fb s t = gb s t) (h99 : ∀ s t, s < n → t < m → gw s t ≤ 99) (ho : own < n) (hg : go ≤ 3) : ∀ {t : Nat}, t ≤ m → wk fw ff fb n go kind own t = wk gw gf gb n go kind own t
  | 0, _ => rfl
  | t + 1, ht => by
    have ih := wk_cg (kind := kind) hw hf hb h99 ho hg (t := t) (by omega)
    obtain ⟨i1, -⟩ := wk_inv (ff := gf) (fb := gb) (kind := kind) h99 ho hg (t := t) (by omega)
    show wk_s fw ff fb n go kind own t (wk fw ff fb n go kind own t) = wk_s gw gf gb n go kind own t (wk gw gf gb n go kind own t)
    rw [ih]
    generalize wk gw gf gb n go kind own t = σ at i1
    have e1 : wk_h fw fb n kind own t σ = wk_h gw gb n kind own t σ := by
      unfold wk_h
      rw [wk_wi_cg (fun s hs => hw s t hs (by omega)) (fun s hs => hb s t hs (by omega)) i1 ho]
    have e2 : wk_f fw fb n go kind own t σ = wk_f gw gb n go kind own t σ := by
      unfold wk_f
      rw [e1]
    have hl := wk_h_lt (fw := gw) (fb := gb) (kind := kind) (t := t) i1 ho
    unfold wk_s
    rw [e1, e2, hw _ t hl (by omega), hf _ t hl (by omega)]
/-- the reference's way to the next station -/
theorem wk_nx {n he k : Nat} (hn : 1 ≤ n) (h4 : n ≤ 4) (hh : he < n) : (if (he + k) % n + 1 < n then (he + k) % n + 1 else 0) = (he + (k + 1)) % n := by
  rcases (show n = 1 ∨ n = 2 ∨ n = 3 ∨ n = 4 by omega) with rfl | rfl | rfl | rfl <;> (split <;> omega)
