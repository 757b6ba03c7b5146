/-! ===== routes, purely ===== -/
/-- what is still to be had at minute t and station s, told by a row -/
def rt_T (G mi t s : Nat) : Nat := if t < mi then am_ag G (60 * s + t) else 0
/-- what is had by going -/
def rt_by (fw T : Nat → Nat → Nat) (go t s : Nat) : Nat := if go = 0 then fw s t + T (t + 1) s else T (t + go) s
/-- the most, s left out -/
def rt_mo (f : Nat → Nat) (s b : Nat) : Nat → Nat
  | 0 => b
  | k + 1 => if k = s then rt_mo f s b k else max (rt_mo f s b k) (f k)
def rt_v (fw T : Nat → Nat → Nat) (go n t s : Nat) : Nat := rt_mo (rt_by fw T go t) s (fw s t + T (t + 1) s) n
/-- what routes hold from minute u on -/
def rt_R (fw T : Nat → Nat → Nat) (go n mi u : Nat) : Prop := (∀ t, u ≤ t → t < mi → ∀ s, s < n → T t s = rt_v fw T go n t s) ∧ ∀ t, mi ≤ t → ∀ s, s < n → T t s = 0
theorem rt_mo_cg {f f' : Nat → Nat} {s b : Nat} : ∀ {n : Nat}, (∀ k, k < n → f k = f' k) → rt_mo f s b n = rt_mo f' s b n
  | 0, _ => rfl
  | n + 1, h => by
    show (if n = s then rt_mo f s b n else max (rt_mo f s b n) (f n)) = (if n = s then rt_mo f' s b n else max (rt_mo f' s b n) (f' n))
    rw [rt_mo_cg (n := n) (fun k hk => h k (by omega)), h n (by omega)]
theorem rt_v_cg {fw fw' T T' : Nat → Nat → Nat} {go n mi t s : Nat} (hs : s < n) (hf : ∀ k, k < n → fw k t = fw' k t) (hT : ∀ u, t < u → ∀ k, k < n → T u k = T' u k) : rt_v fw T go n t s = rt_v fw' T' go n t s := by
  unfold rt_v
  rw [hf s hs, hT (t + 1) (by omega) s hs]
  refine rt_mo_cg (fun k hk => ?_)
  unfold rt_by
  by_cases g : go = 0
  · rw [if_pos g, if_pos g, hf k hk, hT (t + 1) (by omega) k hk]
  · rw [if_neg g, if_neg g, hT (t + go) (by omega) k hk]
/-- only one -/
theorem rt_one {fw fw' T T' : Nat → Nat → Nat} {go n mi : Nat} (hf : ∀ t, t < mi → ∀ k, k < n → fw k t = fw' k t) (h : rt_R fw T go n mi 0) (h' : rt_R fw' T' go n mi 0) : ∀ f t, mi ≤ t + f → ∀ s, s < n → T t s = T' t s
  | 0, t, e, s, hs => by rw [h.2 t (by omega) s hs, h'.2 t (by omega) s hs]
  | f + 1, t, e, s, hs => by
    by_cases ht : t < mi
    · rw [h.1 t (by omega) ht s hs, h'.1 t (by omega) ht s hs]
      exact rt_v_cg (mi := mi) hs (hf t ht) (fun u hu k hk => rt_one hf h h' f u (by omega) k hk)
    · rw [h.2 t (by omega) s hs, h'.2 t (by omega) s hs]
theorem rt_R_cg {fw fw' T : Nat → Nat → Nat} {go n mi u : Nat} (hf : ∀ t, t < mi → ∀ k, k < n → fw k t = fw' k t) (h : rt_R fw T go n mi u) : rt_R fw' T go n mi u := ⟨fun t h1 h2 s hs => by
  rw [h.1 t h1 h2 s hs]
  exact rt_v_cg (mi := mi) hs (hf t h2) (fun _ _ _ _ => rfl), h.2⟩
