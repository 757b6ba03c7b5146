/-! ===== what holds ahead of the first call ===== -/
def jv_inR (v : Nat) (R : ax_R) : Bool := Nat.blt v 4294967296 && ax_any (fun r => Nat.ble r.1 v && Nat.ble v r.2) R
theorem jv_inR_ok {v : Nat} {R : ax_R} (h : jv_inR v R = true) : ax_in v R := by
  unfold jv_inR at h
  rw [Bool.and_eq_true] at h
  obtain ⟨r, hr, hq⟩ := ax_any_ok h.2
  rw [Bool.and_eq_true] at hq
  exact ⟨ax_blt_t h.1, r, hr, ax_ble_t hq.1, ax_ble_t hq.2⟩
def jv_f1 (f : ax_F) (v : Value) : Bool := bif Nat.beq f.1 0 then (match v with
  | .retAddr n => jv_inR n f.2.2
  | _ => false) else (match v with
  | .ref b => Nat.beq b f.2.1
  | _ => false)
theorem jv_f1_ok {f : ax_F} {v : Value} (h1 : jv_f1 f v = true) : ax_fok f v := by
  unfold jv_f1 at h1
  unfold ax_fok
  cases hb : Nat.beq f.1 0
  · rw [hb, cond_false] at h1
    rw [if_neg (fun q => by rw [q] at hb; cases hb)]
    split at h1
    · rw [Nat.eq_of_beq_eq_true h1]
    · cases h1
  · rw [hb, cond_true] at h1
    rw [if_pos (Nat.eq_of_beq_eq_true hb)]
    split at h1
    · exact ⟨_, rfl, jv_inR_ok h1⟩
    · cases h1
def jv_f0 : List ax_F → List Value → Bool
  | [], [] => true
  | f :: l, v :: m => jv_f1 f v && jv_f0 l m
  | _, _ => false
theorem jv_f0_ok : ∀ {fs : List ax_F} {vs : List Value}, jv_f0 fs vs = true → vs.length = fs.length ∧ ∀ (k : Nat) (f : ax_F) (v : Value), fs[k]? = some f → vs[k]? = some v → ax_fok f v
  | [], [], _ => ⟨rfl, fun k f v hf _ => by cases hf⟩
  | [], _ :: _, h => by cases h
  | _ :: _, [], h => by cases h
  | f :: l, v :: m, h => by
    have h' : (jv_f1 f v && jv_f0 l m) = true := h
    rw [Bool.and_eq_true] at h'
    obtain ⟨i1, i2⟩ := jv_f0_ok h'.2
    refine ⟨by simp [i1], fun k f' v' hf hv => ?_⟩
    cases k with
    | zero =>
      cases hf
      cases hv
      exact jv_f1_ok h'.1
    | succ k => exact i2 k f' v' (by simpa using hf) (by simpa using hv)
def jv_e0 (s : ax_C) (e : am_E) : Bool := match s, e with
  | .inl (kd, n, _, cols), .inl (kd', n', x) => (Nat.beq kd' kd && Nat.beq n' n) && (jv_ec cols [ax_top] || jv_all (fun i => match cols[i % cols.length]? with
    | some R => jv_inR (am_ag x i) R
    | none => false) n)
  | .inr (ci, fs), .inr (ci', vs) => Nat.beq ci' ci && jv_f0 fs vs
  | _, _ => false
theorem jv_e0_ok {s : ax_C} {e : am_E} (h : jv_e0 s e = true) : ax_ok s e := by
  rcases s with ⟨kd, n, w, cols⟩ | ⟨ci, fs⟩
  · rcases e with ⟨kd', n', x⟩ | ⟨ci', vs⟩
    · have h' : ((Nat.beq kd' kd && Nat.beq n' n) && (jv_ec cols [ax_top] || jv_all (fun i => match cols[i % cols.length]? with
        | some R => jv_inR (am_ag x i) R
        | none => false) n)) = true := h
      rw [Bool.and_eq_true, Bool.and_eq_true, Bool.or_eq_true] at h'
      refine And.intro (Nat.eq_of_beq_eq_true h'.1.1) (And.intro (Nat.eq_of_beq_eq_true h'.1.2) fun i hi => ?_)
      rcases h'.2 with q | q
      · have e1 := jv_ec_ok q
        subst e1
        exact ⟨ax_top, by rw [show ([ax_top] : List ax_R).length = 1 from rfl, Nat.mod_one]; rfl, ax_in_top (am_ag_lt _ _)⟩
      · have q1 := jv_all_ok q i hi
        split at q1
        · rename_i R hR
          exact ⟨R, hR, jv_inR_ok q1⟩
        · cases q1
    · cases h
  · rcases e with ⟨kd', n', x⟩ | ⟨ci', vs⟩
    · cases h
    · have h' : (Nat.beq ci' ci && jv_f0 fs vs) = true := h
      rw [Bool.and_eq_true] at h'
      obtain ⟨i1, i2⟩ := jv_f0_ok h'.2
      exact And.intro (Nat.eq_of_beq_eq_true h'.1) (And.intro i1 i2)
noncomputable def jv_i0 (sh : ax_Sh) (h : am_H) (a : Nat) : Bool := match ax_at sh a with
  | none => true
  | some s => match am_get h a with
    | some e => jv_e0 s e
    | none => false
theorem jv_i0_ok {sh : ax_Sh} {h : am_H} (hl : sh.length ≤ 12) (hd : jv_all (jv_i0 sh h) 96 = true) : ax_I sh h := by
  intro a s hs
  by_cases ha : a < 96
  · have hq := jv_all_ok hd a ha
    unfold jv_i0 at hq
    rw [hs] at hq
    dsimp only at hq
    split at hq
    · rename_i e he
      exact ⟨e, he, jv_e0_ok hq⟩
    · cases hq
  · rw [ax_at_far (by omega)] at hs
    cases hs
theorem jv_0x : jv_all (jv_i0 sb0 hp_0) 96 = true := by decide +kernel
theorem jv_0m : jv_all (jv_i0 sbm hp_0) 96 = true := by decide +kernel
theorem jv_0r (k : Nat) (hk : k < 6) : jv_all (fun i => Nat.ble (am_ag (rowv hp_0 (67 + k)) i) (je_b k (i % je_w k))) (je_l k) = true := by
  match k, hk with
  | 0, _ => decide +kernel
  | 1, _ => decide +kernel
  | 2, _ => decide +kernel
  | 3, _ => decide +kernel
  | 4, _ => decide +kernel
  | 5, _ => decide +kernel
  | k + 6, hk => exact absurd hk (by omega)
theorem jv_0a (k : Nat) (hk : k < 6) : jv_all (fun i => Nat.beq (am_ag (rowv hp_0 (6 + 2 * k)) i) (am_ag (rowv hp_0 (67 + k)) i)) (fldv hp_0 (5 + 2 * k) 3 * je_w k) = true := by
  match k, hk with
  | 0, _ => decide +kernel
  | 1, _ => decide +kernel
  | 2, _ => decide +kernel
  | 3, _ => decide +kernel
  | 4, _ => decide +kernel
  | 5, _ => decide +kernel
  | k + 6, hk => exact absurd hk (by omega)
theorem jv_0z (k : Nat) (hk : k < 6) : Nat.ble (fldv hp_0 (5 + 2 * k) 3) (je_z k) = true := by
  match k, hk with
  | 0, _ => decide +kernel
  | 1, _ => decide +kernel
  | 2, _ => decide +kernel
  | 3, _ => decide +kernel
  | 4, _ => decide +kernel
  | 5, _ => decide +kernel
  | k + 6, hk => exact absurd hk (by omega)
theorem jv_0c : jv_all (fun s => Nat.beq (am_ag (rowv hp_0 31) s) (cl_k (rowv hp_0 71) (fldv hp_0 13 3) 6 s)) 256 = true := by decide +kernel
noncomputable def jv_Z0 (k : Nat) : Nat := fldv hp_0 (5 + 2 * k) 3
noncomputable def jv_Y0 (k : Nat) : Nat := rowv hp_0 (67 + k)
theorem jv_0s : jv_all (fun s => jv_all (fun t => Nat.beq (am_ag (rowv hp_0 33) (60 * s + t)) (sc_W jv_Z0 jv_Y0 0 4294967292 s t) && (Nat.beq (am_ag (rowv hp_0 34) (60 * s + t)) (sc_F jv_Z0 jv_Y0 0 4294967292 s t) && Nat.beq (am_ag (rowv hp_0 35) (60 * s + t)) (if sc_B jv_Z0 jv_Y0 0 s t = true then 1 else 0))) 60) 2 = true := by decide +kernel
theorem jv_0r4 : jv_all (fun t => jv_all (fun s => Nat.beq (rt_T (rowv hp_0 44) 12 t s) (rt_v (fun s t => sc_W jv_Z0 jv_Y0 0 4294967292 s t) (rt_T (rowv hp_0 44) 12) 1 2 t s)) 2) 12 = true := by decide +kernel
theorem jv_0T : je_T hp_0 12 1 (fun k => fldv hp_0 (5 + 2 * k) 3) (fun k => rowv hp_0 (67 + k)) := by
  refine ⟨⟨rowv hp_0 31, rfl, fun s hs => Nat.eq_of_beq_eq_true (jv_all_ok jv_0c s hs)⟩, ⟨rowv hp_0 33, rowv hp_0 34, rowv hp_0 35, rfl, rfl, rfl, fun s hs t ht => ?_⟩, ⟨rowv hp_0 44, rfl, rfl, fun t _ ht s hs => Nat.eq_of_beq_eq_true (jv_all_ok (jv_all_ok jv_0r4 t ht) s (show s < 2 from hs)), fun t ht s _ => by
    unfold rt_T
    exact if_neg (Nat.not_lt.mpr ht)⟩, Or.inl rfl, fx_X, rfl, fun i hi => Nat.eq_of_beq_eq_true (am_all_ok fx_all i hi)⟩
  have hs2 : s < 2 := hs
  have q := jv_all_ok (jv_all_ok jv_0s s hs2) t ht
  rw [Bool.and_eq_true, Bool.and_eq_true] at q
  exact ⟨Nat.eq_of_beq_eq_true q.1, Nat.eq_of_beq_eq_true q.2.1, Nat.eq_of_beq_eq_true q.2.2⟩
theorem jv_0o : jv_all (fun i => Nat.ble (am_ag (rowv hp_0 (67 + 5)) (2 * i + 1) + 1) (fldv hp_0 (5 + 2 * 0) 3)) (fldv hp_0 (5 + 2 * 5) 3) = true := by decide +kernel
theorem jv_0D : jv_D hp_0 4 := by
  refine ⟨12, 1, fun k => fldv hp_0 (5 + 2 * k) 3, fun k => rowv hp_0 (6 + 2 * k), fun k => rowv hp_0 (67 + k), ⟨rfl, rfl, fun k hk => ?_⟩, ⟨rfl, rfl, fun k hk => ?_⟩, ⟨⟨by decide, by decide, by decide, by decide +kernel⟩, fun k hk => Nat.le_of_ble_eq_true (jv_0z k hk), fun k hk i hi => Nat.le_of_ble_eq_true (jv_all_ok (jv_0r k hk) i hi), fun k hk i hi => Nat.eq_of_beq_eq_true (jv_all_ok (jv_0a k hk) i hi), fun i hi => Nat.lt_of_succ_le (Nat.le_of_ble_eq_true (jv_all_ok jv_0o i hi))⟩, jv_0T⟩
  · match k, hk with
    | 0, _ => exact ⟨rfl, rfl⟩
    | 1, _ => exact ⟨rfl, rfl⟩
    | 2, _ => exact ⟨rfl, rfl⟩
    | 3, _ => exact ⟨rfl, rfl⟩
    | 4, _ => exact ⟨rfl, rfl⟩
    | 5, _ => exact ⟨rfl, rfl⟩
    | k + 6, hk => exact absurd hk (by omega)
  · match k, hk with
    | 0, _ => exact ⟨rfl, rfl⟩
    | 1, _ => exact ⟨rfl, rfl⟩
    | 2, _ => exact ⟨rfl, rfl⟩
    | 3, _ => exact ⟨rfl, rfl⟩
    | 4, _ => exact ⟨rfl, rfl⟩
    | 5, _ => exact ⟨rfl, rfl⟩
    | k + 6, hk => exact absurd hk (by omega)
theorem jv_0I : ax_I sb0 hp_0 := jv_i0_ok (by decide) jv_0x
theorem jv_0 : Jv hp_0 := ⟨⟨Or.inl jv_0I, jv_i0_ok (by decide) jv_0m⟩, ⟨0, rfl, rfl, _, _, rfl, rfl, fun i hi => absurd hi (Nat.not_lt_zero _), ⟨0, rfl, rfl⟩, Or.inl ⟨jv_0I, jv_0D⟩⟩, 0, 0, 0, rfl, rfl, rfl, Nat.le_refl _⟩
