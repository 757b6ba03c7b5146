/-! ===== symbolic runs: names for values, what is known of the heap ===== -/
def ax_vl (ρ : Nat → Nat) (n : Nat) : Nat := if n < 4294967296 then n else ρ (n - 4294967296)
def ax_ag (c : Nat) (ρ ρ' : Nat → Nat) : Prop := ∀ i, i < c → ρ' i = ρ i
theorem ax_ag.rf {c : Nat} {ρ : Nat → Nat} : ax_ag c ρ ρ := fun _ _ => rfl
theorem ax_ag.tr {c d : Nat} {ρ ρ1 ρ2 : Nat → Nat} (h1 : ax_ag c ρ ρ1) (h2 : ax_ag d ρ1 ρ2) (hcd : c ≤ d) : ax_ag c ρ ρ2 := fun i hi => (h2 i (by omega)).trans (h1 i hi)
theorem ax_ag.le {c d : Nat} {ρ ρ1 : Nat → Nat} (h1 : ax_ag d ρ ρ1) (hcd : c ≤ d) : ax_ag c ρ ρ1 := fun i hi => h1 i (by omega)
theorem ax_vl_c {ρ : Nat → Nat} {n : Nat} (h : n < 4294967296) : ax_vl ρ n = n := by unfold ax_vl; rw [if_pos h]
theorem ax_vl_i {ρ : Nat → Nat} {n : Nat} : ax_vl ρ (4294967296 + n) = ρ n := by
  unfold ax_vl
  rw [if_neg (by omega), show 4294967296 + n - 4294967296 = n by omega]
theorem ax_vl_ag {c n : Nat} {ρ ρ' : Nat → Nat} (h : ax_ag c ρ ρ') (hn : n < 4294967296 + c) : ax_vl ρ' n = ax_vl ρ n := by
  unfold ax_vl
  by_cases h1 : n < 4294967296
  · rw [if_pos h1, if_pos h1]
  · rw [if_neg h1, if_neg h1]
    exact h _ (by omega)
/-- the operation, the two it is made of, its ranges -/
abbrev ax_N : Type := Nat × Nat × Nat × ax_R
def ax_f (op : Nat) : Nat → Nat → Nat := match op with
  | 1 => am_add
  | 2 => am_sub
  | 3 => am_mul
  | 4 => Nat.land
  | 5 => Nat.lor
  | 6 => Nat.xor
  | 7 => am_shl
  | 8 => am_ushr
  | 9 => am_xshr
  | 10 => Nat.div
  | 11 => Nat.mod
  | 12 => am_gdvf
  | 13 => am_grmf
  | 20 => fun a b => bif am_tlt a b then 1 else 0
  | _ => fun _ _ => 0
def ax_s1 (ρ : Nat → Nat) (e : ax_N) (i : Nat) : Prop := ax_in (ρ i) e.2.2.2 ∧ (e.1 ≠ 0 → e.2.1 < 4294967296 + i ∧ e.2.2.1 < 4294967296 + i ∧ ρ i = ax_f e.1 (ax_vl ρ e.2.1) (ax_vl ρ e.2.2.1))
theorem ax_s1.ag {ρ ρ' : Nat → Nat} {e : ax_N} {i c : Nat} (h : ax_ag c ρ ρ') (hi : i < c) (hs : ax_s1 ρ e i) : ax_s1 ρ' e i := by
  refine ⟨by rw [h i hi]; exact hs.1, fun h0 => ?_⟩
  obtain ⟨h1, h2, h3⟩ := hs.2 h0
  exact ⟨h1, h2, by rw [h i hi, ax_vl_ag h (by omega), ax_vl_ag h (by omega)]; exact h3⟩
def ax_se (ρ : Nat → Nat) (l : List ax_N) : Prop := ∀ (k : Nat) (e : ax_N), l[k]? = some e → ax_s1 ρ e (l.length - 1 - k)
theorem ax_se.ag {ρ ρ' : Nat → Nat} {l : List ax_N} (h : ax_ag l.length ρ ρ') (hs : ax_se ρ l) : ax_se ρ' l := fun k e hk => by
  have := (List.getElem?_eq_some_iff.mp hk).1
  exact (hs k e hk).ag h (by omega)
theorem ax_se.cons {ρ : Nat → Nat} {l : List ax_N} {e : ax_N} (h : ax_s1 ρ e l.length) (hs : ax_se ρ l) : ax_se ρ (e :: l) := fun k x hk => by
  cases k with
  | zero =>
    cases hk
    simpa using h
  | succ k =>
    have := hs k x (by simpa using hk)
    rwa [show (e :: l).length - 1 - (k + 1) = l.length - 1 - k by simp; omega]
theorem ax_se.set {ρ : Nat → Nat} {l : List ax_N} {e e' : ax_N} {k : Nat} (hs : ax_se ρ l) (hk : l[k]? = some e) (h : ax_s1 ρ e' (l.length - 1 - k)) : ax_se ρ (l.set k e') := fun j x hj => by
  have hl := (List.getElem?_eq_some_iff.mp hk).1
  rw [List.length_set]
  by_cases hjk : j = k
  · subst hjk
    rw [List.getElem?_set_self hl] at hj
    cases hj
    exact h
  · rw [List.getElem?_set_ne (fun q => hjk q.symm)] at hj
    exact hs j x hj
abbrev ax_X : Type := Nat × List ax_N × List (Nat × Nat × Nat) × List (Nat × Nat × Nat)
/-! the heap's shape: a field is a number of ranges (0, may be written, ranges) or a place (1, place, _); a row: kind, length, may be written, columns -/
abbrev ax_F : Type := Nat × Nat × ax_R
abbrev ax_C : Type := (Nat × Nat × Nat × List ax_R) ⊕ (Nat × List ax_F)
abbrev ax_Sh : Type := List (List ax_C)
noncomputable def ax_at (sh : ax_Sh) (a : Nat) : Option ax_C := Option.rec (motive := fun _ => Option ax_C) none (fun b => am_nth b (a % 8)) (am_nth sh (a / 8))
def ax_fok (f : ax_F) (v : Value) : Prop := if f.1 = 0 then ∃ n, v = .retAddr n ∧ ax_in n f.2.2 else v = .ref f.2.1
def ax_ok (s : ax_C) (e : am_E) : Prop := match s, e with
  | .inl (kd, n, _, cols), .inl (kd', n', x) => kd' = kd ∧ n' = n ∧ ∀ i : Nat, i < n → ∃ R, cols[i % cols.length]? = some R ∧ ax_in (am_ag x i) R
  | .inr (ci, fs), .inr (ci', vs) => ci' = ci ∧ vs.length = fs.length ∧ ∀ (k : Nat) (f : ax_F) (v : Value), fs[k]? = some f → vs[k]? = some v → ax_fok f v
  | _, _ => False
def ax_I (sh : ax_Sh) (h : am_H) : Prop := ∀ a s, ax_at sh a = some s → ∃ e, am_get h a = some e ∧ ax_ok s e
noncomputable def ax_fv (h : am_H) (a k : Nat) : Option Value := match am_get h a with
  | some (.inr (_, vs)) => vs[k]?
  | _ => none
noncomputable def ax_av (h : am_H) (a i : Nat) : Option Nat := match am_get h a with
  | some (.inl (_, _, x)) => some (am_ag x i)
  | _ => none
def ax_Fr (sh : ax_Sh) (h h' : am_H) : Prop := h'.1 = h.1 ∧ h'.2.1 = h.2.1 ∧ (∀ a, ax_at sh a = none → am_get h' a = am_get h a) ∧ (∀ a kd n cols, ax_at sh a = some (.inl (kd, n, 0, cols)) → am_get h' a = am_get h a) ∧ (∀ (a ci : Nat) (fs : List ax_F) (k : Nat) (R : ax_R), ax_at sh a = some (.inr (ci, fs)) → fs[k]? = some (0, 0, R) → ax_fv h' a k = ax_fv h a k)
theorem ax_Fr.rf {sh : ax_Sh} {h : am_H} : ax_Fr sh h h := ⟨rfl, rfl, fun _ _ => rfl, fun _ _ _ _ _ => rfl, fun _ _ _ _ _ _ _ => rfl⟩
theorem ax_Fr.tr {sh : ax_Sh} {h h1 h2 : am_H} (f1 : ax_Fr sh h h1) (f2 : ax_Fr sh h1 h2) : ax_Fr sh h h2 :=
  ⟨f2.1.trans f1.1, f2.2.1.trans f1.2.1, fun a q => (f2.2.2.1 a q).trans (f1.2.2.1 a q), fun a kd n c q => (f2.2.2.2.1 a kd n c q).trans (f1.2.2.2.1 a kd n c q), fun a ci fs k R q1 q2 => (f2.2.2.2.2 a ci fs k R q1 q2).trans (f1.2.2.2.2 a ci fs k R q1 q2)⟩
def ax_fcok (ρ : Nat → Nat) (c : Nat) (h : am_H) (fc : List (Nat × Nat × Nat)) : Prop := ∀ q ∈ fc, q.2.2 < 4294967296 + c ∧ ax_fv h q.1 q.2.1 = some (.retAddr (ax_vl ρ q.2.2))
def ax_acok (ρ : Nat → Nat) (c : Nat) (h : am_H) (ac : List (Nat × Nat × Nat)) : Prop := ∀ q ∈ ac, q.2.1 < 4294967296 + c ∧ q.2.2 < 4294967296 + c ∧ ax_av h q.1 (ax_vl ρ q.2.1) = some (ax_vl ρ q.2.2)
theorem ax_fcok.ag {ρ ρ' : Nat → Nat} {c d : Nat} {h : am_H} {fc : List (Nat × Nat × Nat)} (ha : ax_ag c ρ ρ') (hd : c ≤ d) (hf : ax_fcok ρ c h fc) : ax_fcok ρ' d h fc := fun q hq => by
  obtain ⟨h1, h2⟩ := hf q hq
  exact ⟨by omega, by rw [ax_vl_ag ha h1]; exact h2⟩
theorem ax_acok.ag {ρ ρ' : Nat → Nat} {c d : Nat} {h : am_H} {ac : List (Nat × Nat × Nat)} (ha : ax_ag c ρ ρ') (hd : c ≤ d) (hf : ax_acok ρ c h ac) : ax_acok ρ' d h ac := fun q hq => by
  obtain ⟨h1, h2, h3⟩ := hf q hq
  exact ⟨by omega, by omega, by rw [ax_vl_ag ha h1, ax_vl_ag ha h2]; exact h3⟩
def ax_xo (sh : ax_Sh) (ρ : Nat → Nat) (X : ax_X) (h : am_H) : Prop := X.1 = X.2.1.length ∧ ax_se ρ X.2.1 ∧ ax_fcok ρ X.1 h X.2.2.1 ∧ ax_acok ρ X.1 h X.2.2.2 ∧ ax_I sh h
theorem ax_xo.ag {sh : ax_Sh} {ρ ρ' : Nat → Nat} {X : ax_X} {h : am_H} (ha : ax_ag X.1 ρ ρ') (hx : ax_xo sh ρ X h) : ax_xo sh ρ' X h :=
  ⟨hx.1, hx.2.1.ag (by rw [← hx.1]; exact ha), hx.2.2.1.ag ha (Nat.le_refl _), hx.2.2.2.1.ag ha (Nat.le_refl _), hx.2.2.2.2⟩
/-! values -/
def ax_rv (ρ : Nat → Nat) (c : Nat) (a v : Value) : Prop := match a with
  | .retAddr n => n < 4294967296 + c ∧ v = .retAddr (ax_vl ρ n)
  | .ref b => v = .ref b
  | .long w => v = .long w
  | .double _ => ∃ w, v = .long w
  | _ => False
theorem ax_rv.ag {ρ ρ' : Nat → Nat} {c d : Nat} {a v : Value} (h : ax_ag c ρ ρ') (hd : c ≤ d) (hr : ax_rv ρ c a v) : ax_rv ρ' d a v := by
  cases a <;> first | exact hr | skip
  obtain ⟨h1, h2⟩ := hr
  exact ⟨by omega, by rw [ax_vl_ag h h1]; exact h2⟩
def ax_rs (ρ : Nat → Nat) (c : Nat) : List Value → List Value → Prop
  | [], [] => True
  | a :: l, v :: m => ax_rv ρ c a v ∧ ax_rs ρ c l m
  | _, _ => False
theorem ax_rs.ag {ρ ρ' : Nat → Nat} {c d : Nat} (h : ax_ag c ρ ρ') (hd : c ≤ d) : ∀ {l m : List Value}, ax_rs ρ c l m → ax_rs ρ' d l m
  | [], [], _ => trivial
  | [], _ :: _, hr => hr.elim
  | _ :: _, [], hr => hr.elim
  | a :: l, v :: m, hr => ⟨hr.1.ag h hd, ax_rs.ag h hd hr.2⟩
def ax_ro (ρ : Nat → Nat) (c : Nat) (a v : Option Value) : Prop := match a, v with
  | none, none => True
  | some a, some v => ax_rv ρ c a v
  | _, _ => False
theorem ax_ro.ag {ρ ρ' : Nat → Nat} {c d : Nat} {a v : Option Value} (h : ax_ag c ρ ρ') (hd : c ≤ d) (hr : ax_ro ρ c a v) : ax_ro ρ' d a v := by
  cases a <;> cases v <;> first | exact hr | exact ax_rv.ag h hd hr
def ax_rl (ρ : Nat → Nat) (c : Nat) : am_L → am_L → Prop
  | [], [] => True
  | a :: l, v :: m => ax_ro ρ c a v ∧ ax_rl ρ c l m
  | _, _ => False
theorem ax_rl.ag {ρ ρ' : Nat → Nat} {c d : Nat} (h : ax_ag c ρ ρ') (hd : c ≤ d) : ∀ {l m : am_L}, ax_rl ρ c l m → ax_rl ρ' d l m
  | [], [], _ => trivial
  | [], _ :: _, hr => hr.elim
  | _ :: _, [], hr => hr.elim
  | a :: l, v :: m, hr => ⟨hr.1.ag h hd, ax_rl.ag h hd hr.2⟩
theorem ax_rl.get {ρ : Nat → Nat} {c : Nat} : ∀ {l m : am_L} {i : Nat} {a : Option Value}, ax_rl ρ c l m → l[i]? = some a → ∃ v, m[i]? = some v ∧ ax_ro ρ c a v
  | [], [], _, _, _, h => by cases h
  | [], _ :: _, _, _, hr, _ => hr.elim
  | _ :: _, [], _, _, hr, _ => hr.elim
  | a :: l, v :: m, 0, x, hr, h => by
    cases h
    exact ⟨v, rfl, hr.1⟩
  | a :: l, v :: m, i + 1, x, hr, h => by
    obtain ⟨w, h1, h2⟩ := ax_rl.get (i := i) hr.2 (by simpa using h)
    exact ⟨w, by simpa using h1, h2⟩
theorem ax_rl.get1 {ρ : Nat → Nat} {c : Nat} {l m : am_L} {i : Nat} {a : Value} (hr : ax_rl ρ c l m) (h : l[i]? = some (some a)) : ∃ v, m[i]? = some (some v) ∧ ax_rv ρ c a v := by
  obtain ⟨v, h1, h2⟩ := hr.get h
  cases v with
  | none => exact h2.elim
  | some v => exact ⟨v, h1, h2⟩
theorem ax_rl.set {ρ : Nat → Nat} {c : Nat} {a v : Option Value} (ha : ax_ro ρ c a v) : ∀ {l m : am_L} {i : Nat}, ax_rl ρ c l m → ax_rl ρ c (l.set i a) (m.set i v)
  | [], [], _, _ => trivial
  | [], _ :: _, _, hr => hr.elim
  | _ :: _, [], _, hr => hr.elim
  | _ :: l, _ :: m, 0, hr => ⟨ha, hr.2⟩
  | _ :: l, _ :: m, i + 1, hr => ⟨hr.1, ax_rl.set ha (i := i) hr.2⟩
theorem ax_rl.none {ρ : Nat → Nat} {c : Nat} : ∀ {l m : am_L} {i : Nat}, ax_rl ρ c l m → l[i]? = none → m[i]? = none
  | [], [], _, _, _ => by simp
  | [], _ :: _, _, hr, _ => hr.elim
  | _ :: _, [], _, hr, _ => hr.elim
  | _ :: l, _ :: m, 0, hr, h => by cases h
  | _ :: l, _ :: m, i + 1, hr, h => by
    have := ax_rl.none (i := i) hr.2 (by simpa using h)
    simpa using this
theorem ax_nlb {ρ : Nat → Nat} {c : Nat} {l m : am_L} {i : Nat} (hr : ax_rl ρ c l m) : am_nlb m i = am_nlb l i := by
  cases i with
  | zero => rfl
  | succ j =>
    show (match am_nth m j with
      | some (some (.long _)) => false
      | some (some (.double _)) => false
      | _ => true) = (match am_nth l j with
      | some (some (.long _)) => false
      | some (some (.double _)) => false
      | _ => true)
    rw [am_nth_eq, am_nth_eq]
    cases hl : l[j]? with
    | none => rw [hr.none hl]
    | some a =>
      obtain ⟨v, h1, h2⟩ := hr.get hl
      rw [h1]
      cases a with
      | none => cases v with
        | none => rfl
        | some v => exact h2.elim
      | some a => cases v with
        | none => exact h2.elim
        | some v =>
          cases a with
          | retAddr n => obtain ⟨_, rfl⟩ := h2; rfl
          | ref b => have h2' : v = .ref b := h2; subst h2'; rfl
          | long w => have h2' : v = .long w := h2; subst h2'; rfl
          | double w => obtain ⟨w', rfl⟩ := h2; rfl
          | int _ => exact h2.elim
          | float _ => exact h2.elim
          | null => exact h2.elim
theorem ax_c1 {ρ : Nat → Nat} {c : Nat} {a v : Value} (h2 : ax_rv ρ c a v) : am_c1 v = am_c1 a := by
  cases a with
  | retAddr n => obtain ⟨_, rfl⟩ := h2; rfl
  | ref b => have h2' : v = .ref b := h2; subst h2'; rfl
  | long w => have h2' : v = .long w := h2; subst h2'; rfl
  | double w => obtain ⟨w', rfl⟩ := h2; rfl
  | int _ => exact h2.elim
  | float _ => exact h2.elim
  | null => exact h2.elim
theorem ax_csum {ρ : Nat → Nat} {c : Nat} : ∀ {l m : List Value}, ax_rs ρ c l m → am_csum m = am_csum l
  | [], [], _ => rfl
  | [], _ :: _, hr => hr.elim
  | _ :: _, [], hr => hr.elim
  | a :: l, v :: m, hr => by
    show (bif am_c1 v then am_csum m + 1 else am_csum m + 2) = (bif am_c1 a then am_csum l + 1 else am_csum l + 2)
    rw [ax_c1 hr.1, ax_csum hr.2]
/-! looking up, and new names -/
noncomputable def ax_rg (X : ax_X) (n : Nat) : ax_R := bif Nat.blt n 4294967296 then [(n, n)] else (match am_nth X.2.1 (X.1 - 1 - (n - 4294967296)) with
  | some e => e.2.2.2
  | none => [])
theorem ax_id {sh : ax_Sh} {ρ : Nat → Nat} {X : ax_X} {h : am_H} (hx : ax_xo sh ρ X h) {n : Nat} (h1 : ¬ n < 4294967296) (hn : n < 4294967296 + X.1) : ∃ e, X.2.1[X.1 - 1 - (n - 4294967296)]? = some e ∧ ax_s1 ρ e (n - 4294967296) := by
  have hl := hx.1
  have hk : X.1 - 1 - (n - 4294967296) < X.2.1.length := by omega
  refine ⟨X.2.1[X.1 - 1 - (n - 4294967296)], List.getElem?_eq_getElem hk, ?_⟩
  have := hx.2.1 _ _ (List.getElem?_eq_getElem hk)
  rwa [show X.2.1.length - 1 - (X.1 - 1 - (n - 4294967296)) = n - 4294967296 by omega] at this
theorem ax_rg_ok {sh : ax_Sh} {ρ : Nat → Nat} {X : ax_X} {h : am_H} (hx : ax_xo sh ρ X h) {n : Nat} (hn : n < 4294967296 + X.1) : ax_in (ax_vl ρ n) (ax_rg X n) := by
  unfold ax_rg
  cases hb : Nat.blt n 4294967296
  · have h1 := ax_blt_f hb
    obtain ⟨e, he, hs⟩ := ax_id hx (by omega) hn
    rw [am_nth_eq, he]
    unfold ax_vl
    rw [if_neg (by omega)]
    exact hs.1
  · have h1 := ax_blt_t hb
    rw [ax_vl_c h1]
    exact ax_in_1 h1 (Nat.le_refl _) (Nat.le_refl _)
noncomputable def ax_frc {β : Type} (R : ax_R) : (ax_R → β) → β := List.rec (motive := fun _ => (ax_R → β) → β) (fun k => k []) (fun r _ ih k => match r with
  | (a, b) => am_force a fun a' => am_force b fun b' => ih fun l => k ((a', b') :: l)) R
theorem ax_frc_eq {β : Type} (R : ax_R) (k : ax_R → β) : ax_frc R k = k R := by
  induction R generalizing k with
  | nil => rfl
  | cons r l ih =>
    obtain ⟨a, b⟩ := r
    show am_force a (fun a' => am_force b fun b' => ax_frc l fun l => k ((a', b') :: l)) = _
    rw [am_force_eq, am_force_eq, ih]
def ax_one1 (R : ax_R) : Bool := match R with
  | [r] => Nat.beq r.1 r.2
  | _ => false
def ax_hd (R : ax_R) : Nat := match R with
  | r :: _ => r.1
  | _ => 0
noncomputable def ax_new {β : Type} (X : ax_X) (op a b : Nat) (R : ax_R) (k : Nat → ax_X → β) : β := match X with
  | (c, es, q) => bif ax_one1 R then k (ax_hd R) (c, es, q) else am_force (c + 1) fun c' => am_force (4294967296 + c) fun n => k n (c', (op, a, b, R) :: es, q)
theorem ax_new_ok {β : Type} {sh : ax_Sh} {ρ : Nat → Nat} {X : ax_X} {h : am_H} (hx : ax_xo sh ρ X h) {op a b w : Nat} {R : ax_R} (hw : ax_in w R) (hf : op ≠ 0 → a < 4294967296 + X.1 ∧ b < 4294967296 + X.1 ∧ w = ax_f op (ax_vl ρ a) (ax_vl ρ b)) (k : Nat → ax_X → β) : ∃ n X' ρ', ax_new X op a b R k = k n X' ∧ ax_ag X.1 ρ ρ' ∧ X.1 ≤ X'.1 ∧ n < 4294967296 + X'.1 ∧ ax_vl ρ' n = w ∧ ax_xo sh ρ' X' h ∧ X'.2.2 = X.2.2 := by
  obtain ⟨c, es, fc, ac⟩ := X
  unfold ax_new
  cases hb : ax_one1 R
  · refine ⟨4294967296 + c, (c + 1, (op, a, b, R) :: es, fc, ac), fun i => if i = c then w else ρ i, by simp only [am_force_eq, cond_false], fun i hi => ?_, Nat.le_succ _, by show _ < 4294967296 + (c + 1); omega, by rw [ax_vl_i]; simp, ?_, rfl⟩
    · have hi' : i < c := hi
      show (if i = c then w else ρ i) = ρ i
      rw [if_neg (by omega)]
    · have ha : ax_ag c ρ (fun i => if i = c then w else ρ i) := fun i hi => by
        show (if i = c then w else ρ i) = ρ i
        rw [if_neg (by omega)]
      have hl : c = es.length := hx.1
      refine ⟨by show c + 1 = (_ :: es).length; rw [List.length_cons, hl], ?_, hx.2.2.1.ag ha (Nat.le_succ _), hx.2.2.2.1.ag ha (Nat.le_succ _), hx.2.2.2.2⟩
      refine ax_se.cons ?_ (hx.2.1.ag (by show ax_ag es.length _ _; rw [← hl]; exact ha))
      rw [← hl]
      refine ⟨by show ax_in (if c = c then w else ρ c) R; rw [if_pos rfl]; exact hw, fun h0 => ?_⟩
      obtain ⟨q1, q2, q3⟩ := hf h0
      refine ⟨q1, q2, ?_⟩
      show (if c = c then w else ρ c) = ax_f op (ax_vl _ a) (ax_vl _ b)
      rw [if_pos rfl, ax_vl_ag ha q1, ax_vl_ag ha q2]
      exact q3
  · have h1 : w = ax_hd R := by
      match R, hb with
      | [r], hb =>
        have hb' := Nat.eq_of_beq_eq_true hb
        obtain ⟨_, q, hq, q1, q2⟩ := hw
        have : q = r := List.mem_singleton.mp hq
        subst this
        show w = q.1
        omega
    refine ⟨ax_hd R, (c, es, fc, ac), ρ, by simp only [cond_true], ax_ag.rf, Nat.le_refl _, ?_, ?_, hx, rfl⟩
    · have := hw.1
      show ax_hd R < 4294967296 + c
      omega
    · rw [← h1]
      exact ax_vl_c hw.1
/-- where such a name stands -/
noncomputable def ax_fd (op a b : Nat) (es : List ax_N) : Nat → Option Nat := List.rec (motive := fun _ => Nat → Option Nat) (fun _ => none) (fun e _ ih i => bif Nat.beq e.1 op && (Nat.beq e.2.1 a && Nat.beq e.2.2.1 b) then some i else ih (i + 1)) es
theorem ax_fd_ok {op a b : Nat} : ∀ {es : List ax_N} {i k : Nat}, ax_fd op a b es i = some k → ∃ e, i ≤ k ∧ es[k - i]? = some e ∧ e.1 = op ∧ e.2.1 = a ∧ e.2.2.1 = b
  | [], i, k, h => by cases h
  | e :: l, i, k, h => by
    have h' : (bif Nat.beq e.1 op && (Nat.beq e.2.1 a && Nat.beq e.2.2.1 b) then some i else ax_fd op a b l (i + 1)) = some k := h
    cases hb : Nat.beq e.1 op && (Nat.beq e.2.1 a && Nat.beq e.2.2.1 b)
    · rw [hb] at h'
      obtain ⟨x, h1, h2, h3⟩ := ax_fd_ok (es := l) (i := i + 1) h'
      refine ⟨x, by omega, ?_, h3⟩
      rw [show k - i = (k - (i + 1)) + 1 by omega]
      simpa using h2
    · rw [hb] at h'
      cases h'
      rw [Bool.and_eq_true, Bool.and_eq_true] at hb
      exact ⟨e, Nat.le_refl _, by simp, Nat.eq_of_beq_eq_true hb.1, Nat.eq_of_beq_eq_true hb.2.1, Nat.eq_of_beq_eq_true hb.2.2⟩
/-- a name's ranges made smaller -/
noncomputable def ax_sr {β : Type} (X : ax_X) (n : Nat) (R : ax_R) (k : ax_X → β) : β := bif Nat.blt n 4294967296 then k X else (match X with
  | (c, es, q) => match am_nth es (c - 1 - (n - 4294967296)) with
    | some e => ax_frc R fun R' => am_setc es (e.1, e.2.1, e.2.2.1, R') (c - 1 - (n - 4294967296)) fun es' => k (c, es', q)
    | none => k X)
theorem ax_sr_ok {β : Type} {sh : ax_Sh} {ρ : Nat → Nat} {X : ax_X} {h : am_H} (hx : ax_xo sh ρ X h) {n : Nat} (hn : n < 4294967296 + X.1) {R : ax_R} (hR : ax_in (ax_vl ρ n) R) (k : ax_X → β) : ∃ X', ax_sr X n R k = k X' ∧ X'.1 = X.1 ∧ ax_xo sh ρ X' h := by
  obtain ⟨c, es, fc, ac⟩ := X
  unfold ax_sr
  cases hb : Nat.blt n 4294967296
  · have h1 := ax_blt_f hb
    obtain ⟨e, he, hs⟩ := ax_id hx (by omega) hn
    have he' : es[c - 1 - (n - 4294967296)]? = some e := he
    have hl : c = es.length := hx.1
    have hn' : n < 4294967296 + c := hn
    simp only [cond_false, am_nth_eq, he', ax_frc_eq, am_setc_eq]
    refine ⟨_, rfl, rfl, by show c = (es.set _ _).length; rw [List.length_set]; exact hl, ?_, hx.2.2⟩
    refine ax_se.set hx.2.1 he' ?_
    have e1 : es.length - 1 - (c - 1 - (n - 4294967296)) = n - 4294967296 := by omega
    rw [e1]
    refine ⟨?_, hs.2⟩
    unfold ax_vl at hR
    rw [if_neg (by omega)] at hR
    exact hR
  · exact ⟨(c, es, fc, ac), rfl, rfl, hx⟩
