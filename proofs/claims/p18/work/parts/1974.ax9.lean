/-! ===== shapes but for what may be written; runs whose ends are looked at ===== -/
def ax_sf (f : ax_F) : ax_F := bif Nat.beq f.1 0 then (0, 0, f.2.2) else f
def ax_sc (s : ax_C) : ax_C := match s with
  | .inl (kd, n, _, cols) => .inl (kd, n, 0, cols)
  | .inr (ci, fs) => .inr (ci, fs.map ax_sf)
def ax_ss (sh : ax_Sh) : ax_Sh := sh.map (fun b => b.map ax_sc)
theorem ax_at_ss (sh : ax_Sh) (a : Nat) : ax_at (ax_ss sh) a = (ax_at sh a).map ax_sc := by
  unfold ax_at ax_ss
  rw [am_nth_eq, am_nth_eq, List.getElem?_map]
  cases sh[a / 8]? with
  | none => rfl
  | some b =>
    show am_nth (b.map ax_sc) (a % 8) = (am_nth b (a % 8)).map ax_sc
    rw [am_nth_eq, am_nth_eq, List.getElem?_map]
theorem ax_fok_sf (f : ax_F) (v : Value) : ax_fok (ax_sf f) v ↔ ax_fok f v := by
  unfold ax_fok ax_sf
  cases h : Nat.beq f.1 0
  · rw [cond_false]
  · rw [cond_true, if_pos (Nat.eq_of_beq_eq_true h), if_pos rfl]
theorem ax_ok_sc (s : ax_C) (e : am_E) : ax_ok (ax_sc s) e ↔ ax_ok s e := by
  rcases s with ⟨kd, n, w, cols⟩ | ⟨ci, fs⟩
  · rcases e with ⟨kd', n', x⟩ | ⟨ci', vs⟩
    · exact Iff.rfl
    · exact Iff.rfl
  · rcases e with ⟨kd', n', x⟩ | ⟨ci', vs⟩
    · exact Iff.rfl
    · show (ci' = ci ∧ vs.length = (fs.map ax_sf).length ∧ ∀ (k : Nat) (f : ax_F) (v : Value), (fs.map ax_sf)[k]? = some f → vs[k]? = some v → ax_fok f v) ↔ (ci' = ci ∧ vs.length = fs.length ∧ ∀ (k : Nat) (f : ax_F) (v : Value), fs[k]? = some f → vs[k]? = some v → ax_fok f v)
      rw [List.length_map]
      refine ⟨fun ⟨h1, h2, h3⟩ => ⟨h1, h2, fun k f v hf hv => (ax_fok_sf f v).mp (h3 k (ax_sf f) v (by rw [List.getElem?_map, hf]; rfl) hv)⟩, fun ⟨h1, h2, h3⟩ => ⟨h1, h2, fun k f v hf hv => ?_⟩⟩
      rw [List.getElem?_map] at hf
      cases hk : fs[k]? with
      | none => rw [hk] at hf; cases hf
      | some g =>
        rw [hk] at hf
        cases hf
        exact (ax_fok_sf g v).mpr (h3 k g v hk hv)
theorem ax_I_ss {sh : ax_Sh} {h : am_H} : ax_I (ax_ss sh) h ↔ ax_I sh h := by
  refine ⟨fun q a s hs => ?_, fun q a s hs => ?_⟩
  · obtain ⟨e, h1, h2⟩ := q a (ax_sc s) (by rw [ax_at_ss, hs]; rfl)
    exact ⟨e, h1, (ax_ok_sc s e).mp h2⟩
  · rw [ax_at_ss] at hs
    cases ha : ax_at sh a with
    | none => rw [ha] at hs; cases hs
    | some s' =>
      rw [ha] at hs
      cases hs
      obtain ⟨e, h1, h2⟩ := q a s' ha
      exact ⟨e, h1, (ax_ok_sc s' e).mpr h2⟩
theorem ax_I_to {sh sb : ax_Sh} (e : ax_ss sh = sb) {h : am_H} : ax_I sb h ↔ ax_I sh h := by rw [← e]; exact ax_I_ss
def ax_ck (p : ax_E → Bool) (x : Option (List ax_E)) : Bool := match x with
  | some fs => ax_allE p fs
  | none => false
/-- what a run says of the method, at names X for the numbers -/
theorem ax_run {sh : ax_Sh} {tab : List (List ax_Mt)} (hT : ax_TbOk sh tab) {d j : Nat} {p : ax_E → Bool} {as vs : List Value} {X : ax_X} (e : ax_ck p (ax_evd tab d j as X) = true) {ρ : Nat → Nat} {h : am_H} (hr : ax_rs ρ X.1 as vs) (hx : ax_xo sh ρ X h) : ∃ en, p en = true ∧ ax_en sh ρ X.1 h en (fun v h' => am_EG (am_mi j) vs h (v, h')) := by
  unfold ax_ck at e
  split at e
  · rename_i fs hf
    obtain ⟨en, he, hn⟩ := ax_evd_ok hT d j as X fs hf ρ vs h hr hx
    exact ⟨en, ax_allE_ok e en he, hn⟩
  · cases e
/-- the method comes to its end with a number, whatever numbers it is given -/
def ax_Cn (sh : ax_Sh) (j : Nat) (vs : List Value) : Prop := ∀ h, ax_I sh h → ∃ n h', am_EG (am_mi j) vs h (some (.retAddr n), h') ∧ ax_I sh h' ∧ ax_Fr sh h h'
theorem ax_is_ok {ρ : Nat → Nat} {c : Nat} {en : ax_E} {v : Option Value} (h : ax_is en = true) (hr : ax_ro ρ c en.1 v) : ∃ n, ax_rn en = some n ∧ v = some (.retAddr (ax_vl ρ n)) := by
  unfold ax_is at h
  split at h
  · rename_i n hn
    rw [ax_rn_ok hn] at hr
    cases v with
    | none => exact hr.elim
    | some v =>
      obtain ⟨-, rfl⟩ : ax_rv ρ c (.retAddr n) v := hr
      exact ⟨n, hn, rfl⟩
  · cases h
theorem ax_cm {sh : ax_Sh} {tab : List (List ax_Mt)} (hT : ax_TbOk sh tab) {d j k : Nat} {as vs : List Value} (e : ax_ck ax_is (ax_evd tab d j as (ax_x0 k)) = true) (ρ : Nat → Nat) (hρ : ∀ i, ρ i < 4294967296) (hr : ax_rs ρ k as vs) : ax_Cn sh j vs := by
  intro h hI
  obtain ⟨en, hp, ρ', -, -, v, h', q1, q2, q3, q4⟩ := ax_run hT e (ρ := ρ) hr (ax_x0_ok hρ hI)
  obtain ⟨n, -, rfl⟩ := ax_is_ok hp q2
  exact ⟨_, h', q1, q3.2.2.2.2, q4⟩
def ax_r3 (a b c : Nat) (i : Nat) : Nat := match i with
  | 0 => a % 4294967296
  | 1 => b % 4294967296
  | 2 => c % 4294967296
  | _ => 0
theorem ax_r3_lt (a b c i : Nat) : ax_r3 a b c i < 4294967296 := by
  unfold ax_r3
  split <;> first | exact Nat.mod_lt _ (by decide) | decide
theorem ax_cm0 {sh : ax_Sh} {tab : List (List ax_Mt)} (hT : ax_TbOk sh tab) {d j b : Nat} (e : ax_ck ax_is (ax_evd tab d j [.ref b] (ax_x0 0)) = true) : ax_Cn sh j [.ref b] := ax_cm hT e (fun _ => 0) (fun _ => by decide) (ax_rs.c ax_rvr trivial)
theorem ax_rv3 {ρ : Nat → Nat} {k i n : Nat} (hi : i < k) (hn : n < 4294967296) (h : ρ i = n % 4294967296) : ax_rv ρ k (.retAddr (4294967296 + i)) (.retAddr n) := ax_rvi (by omega) (by rw [ax_vl_i, h, Nat.mod_eq_of_lt hn])
theorem ax_cm1 {sh : ax_Sh} {tab : List (List ax_Mt)} (hT : ax_TbOk sh tab) {d j b : Nat} (e : ax_ck ax_is (ax_evd tab d j [.ref b, .retAddr (4294967296 + 0)] (ax_x0 1)) = true) (x : Nat) (hx : x < 4294967296) : ax_Cn sh j [.ref b, .retAddr x] := ax_cm hT e (ax_r3 x 0 0) (ax_r3_lt x 0 0) (ax_rs.c ax_rvr (ax_rs.c (ax_rv3 (by decide) hx rfl) trivial))
theorem ax_cm2 {sh : ax_Sh} {tab : List (List ax_Mt)} (hT : ax_TbOk sh tab) {d j b : Nat} (e : ax_ck ax_is (ax_evd tab d j [.ref b, .retAddr (4294967296 + 0), .retAddr (4294967296 + 1)] (ax_x0 2)) = true) (x y : Nat) (hx : x < 4294967296) (hy : y < 4294967296) : ax_Cn sh j [.ref b, .retAddr x, .retAddr y] := ax_cm hT e (ax_r3 x y 0) (ax_r3_lt x y 0) (ax_rs.c ax_rvr (ax_rs.c (ax_rv3 (by decide) hx rfl) (ax_rs.c (ax_rv3 (by decide) hy rfl) trivial)))
theorem ax_cm3 {sh : ax_Sh} {tab : List (List ax_Mt)} (hT : ax_TbOk sh tab) {d j b : Nat} (e : ax_ck ax_is (ax_evd tab d j [.ref b, .retAddr (4294967296 + 0), .retAddr (4294967296 + 1), .retAddr (4294967296 + 2)] (ax_x0 3)) = true) (x y z : Nat) (hx : x < 4294967296) (hy : y < 4294967296) (hz : z < 4294967296) : ax_Cn sh j [.ref b, .retAddr x, .retAddr y, .retAddr z] := ax_cm hT e (ax_r3 x y z) (ax_r3_lt x y z) (ax_rs.c ax_rvr (ax_rs.c (ax_rv3 (by decide) hx rfl) (ax_rs.c (ax_rv3 (by decide) hy rfl) (ax_rs.c (ax_rv3 (by decide) hz rfl) trivial))))
