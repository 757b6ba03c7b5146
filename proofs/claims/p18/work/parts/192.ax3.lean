/-! ===== symbolic runs: instructions ===== -/
abbrev ax_S : Type := Nat × am_L × List Value × ax_X
abbrev ax_E : Type := Option Value × ax_X
abbrev ax_Z : Type := List (ax_S ⊕ ax_E)
abbrev ax_Ev : Type := Nat → List Value → ax_X → Option (List ax_E)
abbrev ax_Op : Type := ax_Ev → am_L → List Value → ax_X → Option ax_Z
def ax_en (sh : ax_Sh) (ρ : Nat → Nat) (c : Nat) (h : am_H) (e : ax_E) (P : Option Value → am_H → Prop) : Prop := ∃ ρ', ax_ag c ρ ρ' ∧ c ≤ e.2.1 ∧ ∃ v h', P v h' ∧ ax_ro ρ' e.2.1 e.1 v ∧ ax_xo sh ρ' e.2 h' ∧ ax_Fr sh h h'
def ax_EvOk (sh : ax_Sh) (aev : ax_Ev) : Prop := ∀ j as X fs, aev j as X = some fs → ∀ ρ vs h, ax_rs ρ X.1 as vs → ax_xo sh ρ X h → ∃ e ∈ fs, ax_en sh ρ X.1 h e (fun v h' => am_EG (am_mi j) vs h (v, h'))
def ax_nx (sh : ax_Sh) (ρ : Nat → Nat) (c : Nat) (h : am_H) (z : am_Z) (y : ax_S ⊕ ax_E) : Prop := match y with
  | .inl s => ∃ ρ', ax_ag c ρ ρ' ∧ c ≤ s.2.2.2.1 ∧ ∃ L st h', z = .inl (s.1, L, st, h') ∧ ax_rl ρ' s.2.2.2.1 s.2.1 L ∧ ax_rs ρ' s.2.2.2.1 s.2.2.1 st ∧ ax_xo sh ρ' s.2.2.2 h' ∧ ax_Fr sh h h'
  | .inr e => ax_en sh ρ c h e (fun v h' => z = .inr (some (v, h')))
def ax_Sim (sh : ax_Sh) (op : am_Op) (aop : ax_Op) : Prop := ∀ aev, ax_EvOk sh aev → ∀ A S X z, aop aev A S X = some z → ∀ ρ L st h, ax_rl ρ X.1 A L → ax_rs ρ X.1 S st → ax_xo sh ρ X h → ∃ ev, am_EvOk ev ∧ ∃ y ∈ z, ax_nx sh ρ X.1 h (op ev L st h) y
def ax_Simp (sh : ax_Sh) (op : am_Op) (aop : ax_Op) : Prop := ∀ aev A S X z, aop aev A S X = some z → ∀ ρ L st h, ax_rl ρ X.1 A L → ax_rs ρ X.1 S st → ax_xo sh ρ X h → ∃ y ∈ z, ∀ ev, ax_nx sh ρ X.1 h (op ev L st h) y
theorem ax_Simp.s {sh : ax_Sh} {op : am_Op} {aop : ax_Op} (h : ax_Simp sh op aop) : ax_Sim sh op aop := fun aev _ A S X z e ρ L st hh h1 h2 h3 => by
  obtain ⟨y, hy, hn⟩ := h aev A S X z e ρ L st hh h1 h2 h3
  exact ⟨fun _ _ _ => none, fun j as h r q => (by cases q), y, hy, hn _⟩
theorem ax_st1 {sh : ax_Sh} {ρ : Nat → Nat} {X : ax_X} {h : am_H} {z : am_Z} {pc : Nat} {A L : am_L} {S st : List Value} (hz : z = .inl (pc, L, st, h)) (hl : ax_rl ρ X.1 A L) (hs : ax_rs ρ X.1 S st) (hx : ax_xo sh ρ X h) : ax_nx sh ρ X.1 h z (.inl (pc, A, S, X)) := ⟨ρ, ax_ag.rf, Nat.le_refl _, L, st, h, hz, hl, hs, hx, ax_Fr.rf⟩
theorem ax_rs1 {ρ : Nat → Nat} {c : Nat} {a : Value} {l m : List Value} (h : ax_rs ρ c (a :: l) m) : ∃ v m', m = v :: m' ∧ ax_rv ρ c a v ∧ ax_rs ρ c l m' := by
  cases m with
  | nil => exact h.elim
  | cons v m' => exact ⟨v, m', rfl, h.1, h.2⟩
theorem ax_rs0 {ρ : Nat → Nat} {c : Nat} {m : List Value} (h : ax_rs ρ c [] m) : m = [] := by
  cases m with
  | nil => rfl
  | cons v m' => exact h.elim
theorem ax_rs.c {ρ : Nat → Nat} {c : Nat} {a v : Value} {l m : List Value} (h1 : ax_rv ρ c a v) (h2 : ax_rs ρ c l m) : ax_rs ρ c (a :: l) (v :: m) := And.intro h1 h2
theorem ax_rvi {ρ : Nat → Nat} {c n m : Nat} (h1 : n < 4294967296 + c) (h2 : ax_vl ρ n = m) : ax_rv ρ c (.retAddr n) (.retAddr m) := And.intro h1 (by rw [h2])
theorem ax_rvl {ρ : Nat → Nat} {c : Nat} {b : UInt64} {w : Int64} : ax_rv ρ c (.double b) (.long w) := Exists.intro w rfl
theorem ax_rvk {ρ : Nat → Nat} {c : Nat} {w : Int64} : ax_rv ρ c (.long w) (.long w) := rfl
theorem ax_rvr {ρ : Nat → Nat} {c b : Nat} : ax_rv ρ c (.ref b) (.ref b) := rfl
theorem ax_rlset {ρ : Nat → Nat} {c : Nat} {a v : Value} {l m : am_L} {i : Nat} (h1 : ax_rv ρ c a v) (h2 : ax_rl ρ c l m) : ax_rl ρ c (l.set i (some a)) (m.set i (some v)) := ax_rl.set (a := some a) (v := some v) h1 h2
theorem ax_new_e {β : Type} {sh : ax_Sh} {ρ : Nat → Nat} {X : ax_X} {h : am_H} (hx : ax_xo sh ρ X h) {op a b w : Nat} {R : ax_R} (hw : ax_in w R) (hf : op ≠ 0 → a < 4294967296 + X.1 ∧ b < 4294967296 + X.1 ∧ w = ax_f op (ax_vl ρ a) (ax_vl ρ b)) {k : Nat → ax_X → β} {z : β} (e : ax_new X op a b R k = z) : ∃ n X' ρ', k n X' = z ∧ ax_ag X.1 ρ ρ' ∧ X.1 ≤ X'.1 ∧ n < 4294967296 + X'.1 ∧ ax_vl ρ' n = w ∧ ax_xo sh ρ' X' h ∧ X'.2.2 = X.2.2 := by
  obtain ⟨n, X', ρ', n1, q⟩ := ax_new_ok hx hw hf k
  rw [n1] at e
  exact ⟨n, X', ρ', e, q⟩
/-! moving -/
noncomputable def ax_ild (i nx : Nat) : ax_Op := fun _ L st X => match am_nth L i with
  | some (some (.retAddr n)) => some [.inl (nx, L, .retAddr n :: st, X)]
  | _ => none
theorem sm_ild {sh : ax_Sh} {i nx : Nat} : ax_Simp sh (am_ild i nx) (ax_ild i nx) := by
  intro aev A S X z e ρ L st h hl hs hx
  simp only [ax_ild, am_nth_eq] at e
  split at e
  · rename_i n hn
    cases e
    obtain ⟨v, h1, h2⟩ := hl.get1 hn
    have h3 : v = .retAddr (ax_vl ρ n) := h2.2
    subst h3
    exact ⟨_, List.mem_cons_self, fun ev => ax_st1 (by simp only [am_ild, am_nth_eq, h1]) hl (ax_rs.c h2 hs) hx⟩
  · cases e
noncomputable def ax_ald0 (i nx : Nat) : ax_Op := fun _ L st X => match am_nth L i with
  | some (some (.ref n)) => some [.inl (nx, L, .ref n :: st, X)]
  | _ => none
theorem sm_ald0 {sh : ax_Sh} {i nx : Nat} : ax_Simp sh (am_ald0 i nx) (ax_ald0 i nx) := by
  intro aev A S X z e ρ L st h hl hs hx
  simp only [ax_ald0, am_nth_eq] at e
  split at e
  · rename_i n hn
    cases e
    obtain ⟨v, h1, h2⟩ := hl.get1 hn
    have h3 : v = .ref n := h2
    subst h3
    exact ⟨_, List.mem_cons_self, fun ev => ax_st1 (by simp only [am_ald0, am_nth_eq, h1]) hl (ax_rs.c h2 hs) hx⟩
  · cases e
noncomputable def ax_lld (i nx : Nat) : ax_Op := fun _ L st X => match am_nth L i with
  | some (some (.long n)) => some [.inl (nx, L, .long n :: st, X)]
  | some (some (.double n)) => some [.inl (nx, L, .double n :: st, X)]
  | _ => none
theorem sm_lld {sh : ax_Sh} {i nx : Nat} : ax_Simp sh (am_lld i nx) (ax_lld i nx) := by
  intro aev A S X z e ρ L st h hl hs hx
  simp only [ax_lld, am_nth_eq] at e
  split at e
  · rename_i n hn
    cases e
    obtain ⟨v, h1, h2⟩ := hl.get1 hn
    have h3 : v = .long n := h2
    subst h3
    exact ⟨_, List.mem_cons_self, fun ev => ax_st1 (by simp only [am_lld, am_nth_eq, h1]) hl (ax_rs.c h2 hs) hx⟩
  · rename_i n hn
    cases e
    obtain ⟨v, h1, h2⟩ := hl.get1 hn
    obtain ⟨w, rfl⟩ : ∃ w, v = .long w := h2
    exact ⟨_, List.mem_cons_self, fun ev => ax_st1 (by simp only [am_lld, am_nth_eq, h1]) hl (ax_rs.c (v := .long w) ax_rvl hs) hx⟩
  · cases e
noncomputable def ax_ist (i nx : Nat) : ax_Op := fun _ L st X => match st with
  | .retAddr n :: st' => bif am_nlb L i then am_setc L (some (.retAddr n)) i fun L' => some [.inl (nx, L', st', X)] else none
  | _ => none
theorem sm_ist {sh : ax_Sh} {i nx : Nat} : ax_Simp sh (am_ist i nx) (ax_ist i nx) := by
  intro aev A S X z e ρ L st h hl hs hx
  simp only [ax_ist, am_setc_eq] at e
  split at e
  · rename_i n S'
    obtain ⟨v, st', rfl, h2, hs'⟩ := ax_rs1 hs
    have h3 : v = .retAddr (ax_vl ρ n) := h2.2
    subst h3
    cases hb : am_nlb A i
    · rw [hb] at e
      cases e
    · rw [hb] at e
      cases e
      have hb' : am_nlb L i = true := by rw [ax_nlb hl]; exact hb
      exact ⟨_, List.mem_cons_self, fun ev => ax_st1 (by simp only [am_ist, am_setc_eq, hb', cond_true]) (ax_rlset h2 hl) hs' hx⟩
  · cases e
noncomputable def ax_ast0 (i nx : Nat) : ax_Op := fun _ L st X => match st with
  | .ref n :: st' => bif am_nlb L i then am_setc L (some (.ref n)) i fun L' => some [.inl (nx, L', st', X)] else none
  | _ => none
theorem sm_ast0 {sh : ax_Sh} {i nx : Nat} : ax_Simp sh (am_ast0 i nx) (ax_ast0 i nx) := by
  intro aev A S X z e ρ L st h hl hs hx
  simp only [ax_ast0, am_setc_eq] at e
  split at e
  · rename_i n S'
    obtain ⟨v, st', rfl, h2, hs'⟩ := ax_rs1 hs
    have h3 : v = .ref n := h2
    subst h3
    cases hb : am_nlb A i
    · rw [hb] at e
      cases e
    · rw [hb] at e
      cases e
      have hb' : am_nlb L i = true := by rw [ax_nlb hl]; exact hb
      exact ⟨_, List.mem_cons_self, fun ev => ax_st1 (by simp only [am_ast0, am_setc_eq, hb', cond_true]) (ax_rlset h2 hl) hs' hx⟩
  · cases e
noncomputable def ax_lst (i nx : Nat) : ax_Op := fun _ L st X => match st with
  | .double n :: st' => bif am_nlb L i then am_setc L (some (.double n)) i fun L1 => am_setc L1 none (i + 1) fun L' => some [.inl (nx, L', st', X)] else none
  | _ => none
theorem sm_lst {sh : ax_Sh} {i nx : Nat} : ax_Simp sh (am_lst i nx) (ax_lst i nx) := by
  intro aev A S X z e ρ L st h hl hs hx
  simp only [ax_lst, am_setc_eq] at e
  split at e
  · rename_i n S'
    obtain ⟨v, st', rfl, h2, hs'⟩ := ax_rs1 hs
    obtain ⟨w, rfl⟩ : ∃ w, v = .long w := h2
    cases hb : am_nlb A i
    · rw [hb] at e
      cases e
    · rw [hb] at e
      cases e
      have hb' : am_nlb L i = true := by rw [ax_nlb hl]; exact hb
      exact ⟨_, List.mem_cons_self, fun ev => ax_st1 (by simp only [am_lst, am_setc_eq, hb', cond_true]) (ax_rl.set (a := none) (v := none) trivial (ax_rlset (v := .long w) ax_rvl hl)) hs' hx⟩
  · cases e
def ax_pshi (n nx : Nat) : ax_Op := fun _ L st X => bif Nat.blt n 4294967296 then some [.inl (nx, L, .retAddr n :: st, X)] else none
theorem sm_pshi {sh : ax_Sh} {n nx : Nat} : ax_Simp sh (am_psh (.retAddr n) nx) (ax_pshi n nx) := by
  intro aev A S X z e ρ L st h hl hs hx
  unfold ax_pshi at e
  cases hb : Nat.blt n 4294967296
  · rw [hb] at e
    cases e
  · rw [hb] at e
    cases e
    have hb' := ax_blt_t hb
    exact ⟨_, List.mem_cons_self, fun ev => ax_st1 rfl hl (ax_rs.c (ax_rvi (by omega) (ax_vl_c hb')) hs) hx⟩
def ax_pshl (w : Int64) (nx : Nat) : ax_Op := fun _ L st X => some [.inl (nx, L, .long w :: st, X)]
theorem sm_pshl {sh : ax_Sh} {w : Int64} {nx : Nat} : ax_Simp sh (am_psh (.long w) nx) (ax_pshl w nx) := by
  intro aev A S X z e ρ L st h hl hs hx
  cases e
  exact ⟨_, List.mem_cons_self, fun ev => ax_st1 rfl hl (ax_rs.c ax_rvk hs) hx⟩
def ax_dup (nx : Nat) : ax_Op := fun _ L st X => match st with
  | v :: st' => bif am_c1 v then some [.inl (nx, L, v :: v :: st', X)] else none
  | _ => none
theorem sm_dup {sh : ax_Sh} {nx : Nat} : ax_Simp sh (am_dup nx) (ax_dup nx) := by
  intro aev A S X z e ρ L st h hl hs hx
  unfold ax_dup at e
  split at e
  · rename_i a S'
    obtain ⟨v, st', rfl, h2, hs'⟩ := ax_rs1 hs
    cases hb : am_c1 a
    · rw [hb] at e
      cases e
    · rw [hb] at e
      cases e
      have hb' : am_c1 v = true := by rw [ax_c1 h2]; exact hb
      exact ⟨_, List.mem_cons_self, fun ev => ax_st1 (by simp only [am_dup, hb', cond_true]) hl (ax_rs.c h2 (ax_rs.c h2 hs')) hx⟩
  · cases e
def ax_dup2 (nx : Nat) : ax_Op := fun _ L st X => match st with
  | u :: v :: st' => bif am_c1 u then (bif am_c1 v then some [.inl (nx, L, u :: v :: u :: v :: st', X)] else none) else none
  | _ => none
theorem sm_dup2 {sh : ax_Sh} {nx : Nat} : ax_Simp sh (am_dup2 nx) (ax_dup2 nx) := by
  intro aev A S X z e ρ L st h hl hs hx
  unfold ax_dup2 at e
  split at e
  · rename_i a b S'
    obtain ⟨v, st', rfl, h2, hs'⟩ := ax_rs1 hs
    obtain ⟨w, st2, rfl, h3, hs2⟩ := ax_rs1 hs'
    cases hb : am_c1 a
    · rw [hb] at e
      cases e
    · rw [hb] at e
      cases hc : am_c1 b
      · rw [hc] at e
        cases e
      · rw [hc] at e
        cases e
        have hb' : am_c1 v = true := by rw [ax_c1 h2]; exact hb
        have hc' : am_c1 w = true := by rw [ax_c1 h3]; exact hc
        exact ⟨_, List.mem_cons_self, fun ev => ax_st1 (by simp only [am_dup2, hb', hc', cond_true]) hl (ax_rs.c h2 (ax_rs.c h3 (ax_rs.c h2 (ax_rs.c h3 hs2)))) hx⟩
  · cases e
def ax_pp (nx : Nat) : ax_Op := fun _ L st X => match st with
  | v :: st' => bif am_c1 v then some [.inl (nx, L, st', X)] else none
  | _ => none
theorem sm_pp {sh : ax_Sh} {nx : Nat} : ax_Simp sh (am_pp nx) (ax_pp nx) := by
  intro aev A S X z e ρ L st h hl hs hx
  unfold ax_pp at e
  split at e
  · rename_i a S'
    obtain ⟨v, st', rfl, h2, hs'⟩ := ax_rs1 hs
    cases hb : am_c1 a
    · rw [hb] at e
      cases e
    · rw [hb] at e
      cases e
      have hb' : am_c1 v = true := by rw [ax_c1 h2]; exact hb
      exact ⟨_, List.mem_cons_self, fun ev => ax_st1 (by simp only [am_pp, hb', cond_true]) hl hs' hx⟩
  · cases e
def ax_jmp (t : Nat) : ax_Op := fun _ L st X => some [.inl (t, L, st, X)]
theorem sm_jmp {sh : ax_Sh} {t : Nat} : ax_Simp sh (am_jmp t) (ax_jmp t) := by
  intro aev A S X z e ρ L st h hl hs hx
  cases e
  exact ⟨_, List.mem_cons_self, fun ev => ax_st1 rfl hl hs hx⟩
/-! numbers -/
noncomputable def ax_b (op : Nat) (f : Nat → Nat → Nat) (g : ax_G) (pf : Bool) (X : ax_X) (a b : Nat) (k : Nat → ax_X → Option ax_Z) : Option ax_Z :=
  bif pf && (Nat.blt a 4294967296 && Nat.blt b 4294967296) then am_force (f a b) fun v => k v X else (match ax_bn g (ax_rg X a) (ax_rg X b) with
    | none => none
    | some R => match ax_fd op a b X.2.1 0 with
      | some i => am_force (4294967296 + (X.1 - 1 - i)) fun n => k n X
      | none => ax_frc R fun R' => ax_new X op a b R' k)
def ax_Bok (op : Nat) (f : Nat → Nat → Nat) (Q : Nat → Nat → Prop) (g : ax_G) (pf : Bool) : Prop := op ≠ 0 ∧ ax_f op = f ∧ ax_Gok f Q g ∧ (pf = true → ∀ x y, x < 4294967296 → y < 4294967296 → f x y < 4294967296 ∧ Q x y)
theorem ax_b_ok {sh : ax_Sh} {op : Nat} {f : Nat → Nat → Nat} {Q : Nat → Nat → Prop} {g : ax_G} {pf : Bool} (hB : ax_Bok op f Q g pf) {ρ : Nat → Nat} {X : ax_X} {h : am_H} (hx : ax_xo sh ρ X h) {a b : Nat} (ha : a < 4294967296 + X.1) (hb : b < 4294967296 + X.1) {k : Nat → ax_X → Option ax_Z} {z : ax_Z} (e : ax_b op f g pf X a b k = some z) : Q (ax_vl ρ a) (ax_vl ρ b) ∧ ∃ n X' ρ', k n X' = some z ∧ ax_ag X.1 ρ ρ' ∧ X.1 ≤ X'.1 ∧ n < 4294967296 + X'.1 ∧ ax_vl ρ' n = f (ax_vl ρ a) (ax_vl ρ b) ∧ ax_xo sh ρ' X' h := by
  obtain ⟨h0, hf, hg, hp⟩ := hB
  unfold ax_b at e
  cases hc : pf && (Nat.blt a 4294967296 && Nat.blt b 4294967296)
  · rw [hc] at e
    have e' : (match ax_bn g (ax_rg X a) (ax_rg X b) with
    | none => none
    | some R => match ax_fd op a b X.2.1 0 with
      | some i => am_force (4294967296 + (X.1 - 1 - i)) fun n => k n X
      | none => ax_frc R fun R' => ax_new X op a b R' k) = some z := e
    cases hR : ax_bn g (ax_rg X a) (ax_rg X b) with
    | none => rw [hR] at e'; cases e'
    | some R =>
      rw [hR] at e'
      obtain ⟨q1, q2⟩ := ax_bn_ok hg hR (ax_rg_ok hx ha) (ax_rg_ok hx hb)
      refine ⟨q2, ?_⟩
      cases hd : ax_fd op a b X.2.1 0 with
      | some i =>
        rw [hd] at e'
        have e2 : am_force (4294967296 + (X.1 - 1 - i)) (fun n => k n X) = some z := e'
        rw [am_force_eq] at e2
        obtain ⟨x, -, hxe, x1, x2, x3⟩ := ax_fd_ok hd
        rw [Nat.sub_zero] at hxe
        have hl := (List.getElem?_eq_some_iff.mp hxe).1
        have hX := hx.1
        have hs := (hx.2.1 i x hxe).2 (by rw [x1]; exact h0)
        refine ⟨_, X, ρ, e2, ax_ag.rf, Nat.le_refl _, by omega, ?_, hx⟩
        rw [ax_vl_i, hX, hs.2.2, x1, x2, x3, hf]
      | none =>
        rw [hd] at e'
        have e2 : ax_frc R (fun R' => ax_new X op a b R' k) = some z := e'
        rw [ax_frc_eq] at e2
        obtain ⟨n, X', ρ', n1, n2, n3, n4, n5, n6, -⟩ := ax_new_ok hx q1 (op := op) (a := a) (b := b) (fun _ => ⟨ha, hb, by rw [hf]⟩) k
        rw [n1] at e2
        exact ⟨n, X', ρ', e2, n2, n3, n4, n5, n6⟩
  · rw [hc] at e
    rw [Bool.and_eq_true, Bool.and_eq_true] at hc
    have c1 := ax_blt_t hc.2.1
    have c2 := ax_blt_t hc.2.2
    have e2 : am_force (f a b) (fun v => k v X) = some z := e
    rw [am_force_eq] at e2
    obtain ⟨p1, p2⟩ := hp hc.1 a b c1 c2
    refine ⟨by rw [ax_vl_c c1, ax_vl_c c2]; exact p2, f a b, X, ρ, e2, ax_ag.rf, Nat.le_refl _, by omega, ?_, hx⟩
    rw [ax_vl_c p1, ax_vl_c c1, ax_vl_c c2]
noncomputable def ax_bin (op : Nat) (f : Nat → Nat → Nat) (g : ax_G) (pf : Bool) (nx : Nat) : ax_Op := fun _ L st X => match st with
  | .retAddr b :: .retAddr a :: st' => ax_b op f g pf X a b fun n X' => some [.inl (nx, L, .retAddr n :: st', X')]
  | _ => none
theorem ax_bin_sim {sh : ax_Sh} {op : Nat} {f : Nat → Nat → Nat} {Q : Nat → Nat → Prop} {g : ax_G} {pf : Bool} {nx : Nat} {o : am_Op} (hB : ax_Bok op f Q g pf) (ho : ∀ ev L x y st h, Q x y → o ev L (.retAddr y :: .retAddr x :: st) h = .inl (nx, L, .retAddr (f x y) :: st, h)) : ax_Simp sh o (ax_bin op f g pf nx) := by
  intro aev A S X z e ρ L st h hl hs hx
  unfold ax_bin at e
  split at e
  · rename_i b a S'
    obtain ⟨v, st', rfl, h2, hs'⟩ := ax_rs1 hs
    obtain ⟨w, st2, rfl, h3, hs2⟩ := ax_rs1 hs'
    obtain ⟨b1, rfl⟩ := h2
    obtain ⟨a1, rfl⟩ := h3
    obtain ⟨hQ, n, X', ρ', e2, n2, n3, n4, n5, n6⟩ := ax_b_ok hB hx a1 b1 e
    cases e2
    refine ⟨_, List.mem_cons_self, fun ev => ⟨ρ', n2, n3, L, _, h, ho ev L _ _ _ _ hQ, hl.ag n2 n3, ax_rs.c (ax_rvi n4 n5) (hs2.ag n2 n3), n6, ax_Fr.rf⟩⟩
  · cases e
theorem ax_Bok_t {op : Nat} {f : Nat → Nat → Nat} {g : ax_G} {pf : Bool} (h0 : op ≠ 0) (hf : ax_f op = f) (hg : ax_Gok f (fun _ _ => True) g) (hp : ∀ x y, x < 4294967296 → y < 4294967296 → f x y < 4294967296) : ax_Bok op f (fun _ _ => True) g pf := ⟨h0, hf, hg, fun _ x y h1 h2 => ⟨hp x y h1 h2, trivial⟩⟩
theorem ax_bin_o {f : Nat → Nat → Nat} {nx : Nat} (ev : am_Ev) (L : am_L) (x y : Nat) (st : List Value) (h : am_H) : am_bin f nx ev L (.retAddr y :: .retAddr x :: st) h = .inl (nx, L, .retAddr (f x y) :: st, h) := by
  simp only [am_bin, am_force_eq]
theorem bk_add : ax_Bok 1 am_add (fun _ _ => True) ax_gadd true := ax_Bok_t (by decide) rfl ax_gadd_ok (fun x y _ _ => Nat.mod_lt _ (by decide))
theorem sm_add {sh : ax_Sh} {nx : Nat} : ax_Simp sh (am_bin am_add nx) (ax_bin 1 am_add ax_gadd true nx) := ax_bin_sim bk_add (fun ev L x y st h _ => ax_bin_o ev L x y st h)
theorem sm_sub {sh : ax_Sh} {nx : Nat} : ax_Simp sh (am_bin am_sub nx) (ax_bin 2 am_sub ax_gsub true nx) := ax_bin_sim (ax_Bok_t (by decide) rfl ax_gsub_ok (fun x y _ _ => Nat.mod_lt _ (by decide))) (fun ev L x y st h _ => ax_bin_o ev L x y st h)
theorem sm_mul {sh : ax_Sh} {nx : Nat} : ax_Simp sh (am_bin am_mul nx) (ax_bin 3 am_mul ax_gmul true nx) := ax_bin_sim (ax_Bok_t (by decide) rfl ax_gmul_ok (fun x y _ _ => Nat.mod_lt _ (by decide))) (fun ev L x y st h _ => ax_bin_o ev L x y st h)
theorem sm_and {sh : ax_Sh} {nx : Nat} : ax_Simp sh (am_bin Nat.land nx) (ax_bin 4 Nat.land ax_gand true nx) := ax_bin_sim (ax_Bok_t (by decide) rfl ax_gand_ok (fun x y hx _ => Nat.lt_of_le_of_lt (show x &&& y ≤ x from Nat.and_le_left) hx)) (fun ev L x y st h _ => ax_bin_o ev L x y st h)
theorem sm_or {sh : ax_Sh} {nx : Nat} : ax_Simp sh (am_bin Nat.lor nx) (ax_bin 5 Nat.lor ax_gor true nx) := ax_bin_sim (ax_Bok_t (by decide) rfl ax_gor_ok (fun x y hx hy => show x ||| y < 2 ^ 32 from Nat.or_lt_two_pow hx hy)) (fun ev L x y st h _ => ax_bin_o ev L x y st h)
theorem sm_xor {sh : ax_Sh} {nx : Nat} : ax_Simp sh (am_bin Nat.xor nx) (ax_bin 6 Nat.xor ax_gxor true nx) := ax_bin_sim (ax_Bok_t (by decide) rfl ax_gxor_ok (fun x y hx hy => show x ^^^ y < 2 ^ 32 from Nat.xor_lt_two_pow hx hy)) (fun ev L x y st h _ => ax_bin_o ev L x y st h)
theorem sm_shl {sh : ax_Sh} {nx : Nat} : ax_Simp sh (am_bin am_shl nx) (ax_bin 7 am_shl ax_gshl true nx) := ax_bin_sim (ax_Bok_t (by decide) rfl ax_gshl_ok (fun x y _ _ => Nat.mod_lt _ (by decide))) (fun ev L x y st h _ => ax_bin_o ev L x y st h)
theorem sm_ush {sh : ax_Sh} {nx : Nat} : ax_Simp sh (am_bin am_ushr nx) (ax_bin 8 am_ushr ax_gush true nx) := ax_bin_sim (ax_Bok_t (by decide) rfl ax_gush_ok (fun x y hx _ => Nat.lt_of_le_of_lt (ax_shr_le _ _) (Nat.mod_lt _ (by decide)))) (fun ev L x y st h _ => ax_bin_o ev L x y st h)
theorem sm_shr {sh : ax_Sh} {nx : Nat} : ax_Simp sh (am_bin1 am_xshr nx) (ax_bin 9 am_xshr ax_gshr false nx) := ax_bin_sim (Q := fun x _ => x < 2147483648) ⟨by decide, rfl, ax_gshr_ok, fun q => by cases q⟩ (fun ev L x y st h hQ => by
  simp only [am_bin1, am_force_eq, show Nat.blt x 2147483648 = true from Nat.ble_eq_true_of_le hQ, cond_true])
theorem ax_bin2_o {f : Nat → Nat → Nat} {nx : Nat} (ev : am_Ev) (L : am_L) (x y : Nat) (st : List Value) (h : am_H) (hQ : ax_Qd x y) : am_bin2 f nx ev L (.retAddr y :: .retAddr x :: st) h = .inl (nx, L, .retAddr (f x y) :: st, h) := by
  simp only [am_bin2, am_force_eq, show Nat.blt x 2147483648 = true from Nat.ble_eq_true_of_le hQ.1, show Nat.blt y 2147483648 = true from Nat.ble_eq_true_of_le hQ.2.1, show Nat.blt 0 y = true from Nat.ble_eq_true_of_le hQ.2.2, cond_true]
theorem sm_div {sh : ax_Sh} {nx : Nat} : ax_Simp sh (am_bin2 Nat.div nx) (ax_bin 10 Nat.div ax_gdiv false nx) := ax_bin_sim (Q := ax_Qd) ⟨by decide, rfl, ax_gdiv_ok, fun q => by cases q⟩ (fun ev L x y st h hQ => ax_bin2_o ev L x y st h hQ)
theorem sm_rem {sh : ax_Sh} {nx : Nat} : ax_Simp sh (am_bin2 Nat.mod nx) (ax_bin 11 Nat.mod ax_grem false nx) := ax_bin_sim (Q := ax_Qd) ⟨by decide, rfl, ax_grem_ok, fun q => by cases q⟩ (fun ev L x y st h hQ => ax_bin2_o ev L x y st h hQ)
noncomputable def ax_inc (i v nx : Nat) : ax_Op := fun _ L st X => match am_nth L i with
  | some (some (.retAddr n)) => bif am_nlb L i && Nat.blt v 4294967296 then ax_b 1 am_add ax_gadd true X n v fun r X' => am_setc L (some (.retAddr r)) i fun L' => some [.inl (nx, L', st, X')] else none
  | _ => none
theorem sm_inc {sh : ax_Sh} {i v nx : Nat} : ax_Simp sh (am_inc i v nx) (ax_inc i v nx) := by
  intro aev A S X z e ρ L st h hl hs hx
  simp only [ax_inc, am_nth_eq, am_setc_eq] at e
  split at e
  · rename_i n hn
    obtain ⟨w, h1, h2⟩ := hl.get1 hn
    obtain ⟨a1, rfl⟩ := h2
    cases hb : am_nlb A i && Nat.blt v 4294967296
    · rw [hb] at e
      cases e
    · rw [hb] at e
      rw [Bool.and_eq_true] at hb
      have hb' : am_nlb L i = true := by rw [ax_nlb hl]; exact hb.1
      have hv := ax_blt_t hb.2
      obtain ⟨-, n', X', ρ', e2, n2, n3, n4, n5, n6⟩ := ax_b_ok bk_add hx a1 (b := v) (by omega) (show ax_b 1 am_add ax_gadd true X n v (fun r X' => some [.inl (nx, A.set i (some (.retAddr r)), S, X')]) = some z from e)
      cases e2
      refine ⟨_, List.mem_cons_self, fun ev => ⟨ρ', n2, n3, L.set i (some (.retAddr (am_add (ax_vl ρ n) (ax_vl ρ v)))), st, h, ?_, ax_rlset (ax_rvi n4 n5) (hl.ag n2 n3), hs.ag n2 n3, n6, ax_Fr.rf⟩⟩
      simp only [am_inc, am_nth_eq, h1, hb', cond_true, am_force_eq, am_setc_eq, ax_vl_c hv]
      rfl
  · cases e
def ax_all (p : Nat × Nat → Bool) : ax_R → Bool
  | [] => true
  | r :: l => bif p r then ax_all p l else false
theorem ax_all_ok {p : Nat × Nat → Bool} : ∀ {R : ax_R}, ax_all p R = true → ∀ r ∈ R, p r = true
  | [], _, r, hr => by cases hr
  | a :: l, h, r, hr => by
    have h' : (bif p a then ax_all p l else false) = true := h
    cases hp : p a
    · rw [hp] at h'
      cases h'
    · rw [hp] at h'
      rcases List.mem_cons.mp hr with rfl | hr
      · exact hp
      · exact ax_all_ok h' r hr
/-- all of them lie below n -/
def ax_lt (R : ax_R) (n : Nat) : Bool := ax_all (fun r => Nat.blt r.2 n) R
theorem ax_lt_ok {R : ax_R} {n v : Nat} (h : ax_lt R n = true) (hv : ax_in v R) : v < n := by
  obtain ⟨_, r, hr, _, h2⟩ := hv
  have := ax_blt_t (ax_all_ok h r hr)
  omega
noncomputable def ax_i2c (nx : Nat) : ax_Op := fun _ L st X => match st with
  | .retAddr a :: st' => bif ax_lt (ax_rg X a) 65536 then some [.inl (nx, L, .retAddr a :: st', X)] else none
  | _ => none
theorem sm_i2c {sh : ax_Sh} {nx : Nat} : ax_Simp sh (am_i2c nx) (ax_i2c nx) := by
  intro aev A S X z e ρ L st h hl hs hx
  unfold ax_i2c at e
  split at e
  · rename_i a S'
    obtain ⟨v, st', rfl, h2, hs'⟩ := ax_rs1 hs
    obtain ⟨a1, rfl⟩ := h2
    cases hb : ax_lt (ax_rg X a) 65536
    · rw [hb] at e
      cases e
    · rw [hb] at e
      cases e
      have := ax_lt_ok hb (ax_rg_ok hx a1)
      exact ⟨_, List.mem_cons_self, fun ev => ax_st1 (by simp only [am_i2c, am_force_eq, Nat.mod_eq_of_lt this]) hl (ax_rs.c (ax_rvi a1 rfl) hs') hx⟩
  · cases e
def ax_i2l (nx : Nat) : ax_Op := fun _ L st X => match st with
  | .retAddr _ :: st' => some [.inl (nx, L, .double 0 :: st', X)]
  | _ => none
theorem sm_i2l {sh : ax_Sh} {nx : Nat} : ax_Simp sh (am_i2l nx) (ax_i2l nx) := by
  intro aev A S X z e ρ L st h hl hs hx
  unfold ax_i2l at e
  split at e
  · obtain ⟨v, st', rfl, h2, hs'⟩ := ax_rs1 hs
    obtain ⟨a1, rfl⟩ := h2
    cases e
    exact ⟨_, List.mem_cons_self, fun ev => ax_st1 rfl hl (ax_rs.c ax_rvl hs') hx⟩
  · cases e
def ax_isl (v : Value) : Bool := match v with
  | .long _ => true
  | .double _ => true
  | _ => false
theorem ax_isl_ok {ρ : Nat → Nat} {c : Nat} {a v : Value} (h : ax_isl a = true) (hr : ax_rv ρ c a v) : ∃ w, v = .long w := by
  cases a with
  | long w => exact ⟨w, hr⟩
  | double w => exact hr
  | retAddr _ => cases h
  | ref _ => cases h
  | int _ => cases h
  | float _ => cases h
  | null => cases h
def ax_lbin (nx : Nat) : ax_Op := fun _ L st X => match st with
  | b :: a :: st' => bif ax_isl a && ax_isl b then some [.inl (nx, L, .double 0 :: st', X)] else none
  | _ => none
theorem sm_lbin {sh : ax_Sh} {f : Int64 → Int64 → Int64} {nx : Nat} : ax_Simp sh (am_lbin f nx) (ax_lbin nx) := by
  intro aev A S X z e ρ L st h hl hs hx
  unfold ax_lbin at e
  split at e
  · rename_i b a S'
    obtain ⟨v, st', rfl, h2, hs'⟩ := ax_rs1 hs
    obtain ⟨w, st2, rfl, h3, hs2⟩ := ax_rs1 hs'
    cases hb : ax_isl a && ax_isl b
    · rw [hb] at e
      cases e
    · rw [hb] at e
      cases e
      rw [Bool.and_eq_true] at hb
      obtain ⟨x, rfl⟩ := ax_isl_ok hb.1 h3
      obtain ⟨y, rfl⟩ := ax_isl_ok hb.2 h2
      exact ⟨_, List.mem_cons_self, fun ev => ax_st1 rfl hl (ax_rs.c ax_rvl hs2) hx⟩
  · cases e
def ax_lrm (nx : Nat) : ax_Op := fun _ L st X => match st with
  | .long b :: a :: st' => bif ax_isl a && !decide (b = 0) then some [.inl (nx, L, .double 0 :: st', X)] else none
  | _ => none
theorem sm_lrm {sh : ax_Sh} {nx : Nat} : ax_Simp sh (am_lrm nx) (ax_lrm nx) := by
  intro aev A S X z e ρ L st h hl hs hx
  unfold ax_lrm at e
  split at e
  · rename_i b a S'
    obtain ⟨v, st', rfl, h2, hs'⟩ := ax_rs1 hs
    obtain ⟨w, st2, rfl, h3, hs2⟩ := ax_rs1 hs'
    cases hb : ax_isl a && !decide (b = 0)
    · rw [hb] at e
      cases e
    · rw [hb] at e
      cases e
      rw [Bool.and_eq_true] at hb
      obtain ⟨x, rfl⟩ := ax_isl_ok hb.1 h3
      have h2' : v = .long b := h2
      subst h2'
      have hd : decide (b = 0) = false := by simpa using hb.2
      exact ⟨_, List.mem_cons_self, fun ev => ax_st1 (by simp only [am_lrm, hd, cond_false]) hl (ax_rs.c (v := .long (x - x / b * b)) ax_rvl hs2) hx⟩
  · cases e
noncomputable def ax_lcp (nx : Nat) : ax_Op := fun _ L st X => match st with
  | b :: a :: st' => bif ax_isl a && ax_isl b then ax_new X 0 0 0 [(0, 1), (4294967295, 4294967295)] fun n X' => some [.inl (nx, L, .retAddr n :: st', X')] else none
  | _ => none
theorem sm_lcp {sh : ax_Sh} {nx : Nat} : ax_Simp sh (am_lcp nx) (ax_lcp nx) := by
  intro aev A S X z e ρ L st h hl hs hx
  unfold ax_lcp at e
  split at e
  · rename_i b a S'
    obtain ⟨v, st', rfl, h2, hs'⟩ := ax_rs1 hs
    obtain ⟨w, st2, rfl, h3, hs2⟩ := ax_rs1 hs'
    cases hb : ax_isl a && ax_isl b
    · rw [hb] at e
      cases e
    · rw [hb] at e
      rw [Bool.and_eq_true] at hb
      obtain ⟨x, rfl⟩ := ax_isl_ok hb.1 h3
      obtain ⟨y, rfl⟩ := ax_isl_ok hb.2 h2
      have hw : ax_in (am_lcv x y) [(0, 1), (4294967295, 4294967295)] := by
        unfold am_lcv
        cases decide (y < x)
        · cases decide (x = y)
          · show ax_in 4294967295 _
            exact ⟨by decide, (4294967295, 4294967295), by simp, by decide, by decide⟩
          · show ax_in 0 _
            exact ⟨by decide, (0, 1), by simp, by decide, by decide⟩
        · show ax_in 1 _
          exact ⟨by decide, (0, 1), by simp, by decide, by decide⟩
      obtain ⟨n, X', ρ', e2, n2, n3, n4, n5, n6, -⟩ := ax_new_e hx hw (op := 0) (a := 0) (b := 0) (fun q => absurd rfl q) (show ax_new X 0 0 0 [(0, 1), (4294967295, 4294967295)] (fun n X' => some [Sum.inl (nx, A, Value.retAddr n :: S', X')]) = some z from e)
      cases e2
      exact ⟨_, List.mem_cons_self, fun ev => ⟨ρ', n2, n3, L, _, h, rfl, hl.ag n2 n3, ax_rs.c (ax_rvi n4 n5) (hs2.ag n2 n3), n6, ax_Fr.rf⟩⟩
  · cases e
