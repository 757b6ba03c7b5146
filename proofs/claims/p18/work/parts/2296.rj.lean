/-! ===== the readers: what is laid, purely ===== -/
theorem rd_inv_110 {n : Nat} {v Z : Nat → Nat} (h : rd_ok 110 n v Z) : n = 1 ∧ 1 ≤ v 0 ∧ v 0 ≤ 60 := by
  unfold rd_ok at h
  rcases h with ⟨e, q⟩ | ⟨e, q⟩ | ⟨e, q⟩ | ⟨e, q⟩ | ⟨e, q⟩ | ⟨e, q⟩ | ⟨e, q⟩ | ⟨e, q⟩ <;> first | exact q | exact absurd e (by decide)
theorem rd_inv_103 {n : Nat} {v Z : Nat → Nat} (h : rd_ok 103 n v Z) : n = 1 ∧ v 0 ≤ 3 := by
  unfold rd_ok at h
  rcases h with ⟨e, q⟩ | ⟨e, q⟩ | ⟨e, q⟩ | ⟨e, q⟩ | ⟨e, q⟩ | ⟨e, q⟩ | ⟨e, q⟩ | ⟨e, q⟩ <;> first | exact q | exact absurd e (by decide)
theorem rd_inv_115 {n : Nat} {v Z : Nat → Nat} (h : rd_ok 115 n v Z) : n = 1 ∧ v 0 ≤ 9 ∧ Z 0 < 4 := by
  unfold rd_ok at h
  rcases h with ⟨e, q⟩ | ⟨e, q⟩ | ⟨e, q⟩ | ⟨e, q⟩ | ⟨e, q⟩ | ⟨e, q⟩ | ⟨e, q⟩ | ⟨e, q⟩ <;> first | exact q | exact absurd e (by decide)
theorem rd_inv_109 {n : Nat} {v Z : Nat → Nat} (h : rd_ok 109 n v Z) : n = 5 ∧ rd_sn v Z ∧ v 3 ≤ 9 ∧ v 4 ≤ 8 ∧ Z 1 < 9 := by
  unfold rd_ok at h
  rcases h with ⟨e, q⟩ | ⟨e, q⟩ | ⟨e, q⟩ | ⟨e, q⟩ | ⟨e, q⟩ | ⟨e, q⟩ | ⟨e, q⟩ | ⟨e, q⟩ <;> first | exact q | exact absurd e (by decide)
theorem rd_inv_98 {n : Nat} {v Z : Nat → Nat} (h : rd_ok 98 n v Z) : n = 3 ∧ rd_sn v Z ∧ Z 2 < 6 := by
  unfold rd_ok at h
  rcases h with ⟨e, q⟩ | ⟨e, q⟩ | ⟨e, q⟩ | ⟨e, q⟩ | ⟨e, q⟩ | ⟨e, q⟩ | ⟨e, q⟩ | ⟨e, q⟩ <;> first | exact q | exact absurd e (by decide)
theorem rd_inv_117 {n : Nat} {v Z : Nat → Nat} (h : rd_ok 117 n v Z) : n = 4 ∧ rd_sn v Z ∧ v 3 ≤ 10 ∧ Z 3 < 4 := by
  unfold rd_ok at h
  rcases h with ⟨e, q⟩ | ⟨e, q⟩ | ⟨e, q⟩ | ⟨e, q⟩ | ⟨e, q⟩ | ⟨e, q⟩ | ⟨e, q⟩ | ⟨e, q⟩ <;> first | exact q | exact absurd e (by decide)
theorem rd_inv_102 {n : Nat} {v Z : Nat → Nat} (h : rd_ok 102 n v Z) : n = 3 ∧ v 0 ≤ 7 ∧ v 1 ≤ 7 ∧ v 2 ≤ 7 ∧ Z 4 < 6 := by
  unfold rd_ok at h
  rcases h with ⟨e, q⟩ | ⟨e, q⟩ | ⟨e, q⟩ | ⟨e, q⟩ | ⟨e, q⟩ | ⟨e, q⟩ | ⟨e, q⟩ | ⟨e, q⟩ <;> first | exact q | exact absurd e (by decide)
theorem rd_inv_119 {n : Nat} {v Z : Nat → Nat} (h : rd_ok 119 n v Z) : n = 2 ∧ v 0 ≤ 3 ∧ v 1 < Z 0 ∧ Z 5 < 4 := by
  unfold rd_ok at h
  rcases h with ⟨e, q⟩ | ⟨e, q⟩ | ⟨e, q⟩ | ⟨e, q⟩ | ⟨e, q⟩ | ⟨e, q⟩ | ⟨e, q⟩ | ⟨e, q⟩ <;> first | exact q | exact absurd e (by decide)
theorem rd_ok_congr {ch n : Nat} {v v' Z : Nat → Nat} (h : ∀ j, j < n → v j = v' j) (hk : rd_ok ch n v Z) : rd_ok ch n v' Z := by
  unfold rd_ok rd_sn at hk ⊢
  rcases hk with ⟨e, rfl, q⟩ | ⟨e, rfl, q⟩ | ⟨e, rfl, q⟩ | ⟨e, rfl, q⟩ | ⟨e, rfl, q⟩ | ⟨e, rfl, q⟩ | ⟨e, rfl, q⟩ | ⟨e, rfl, q⟩
  · rw [h 0 (by decide)] at q
    exact Or.inl ⟨e, rfl, q⟩
  · rw [h 0 (by decide)] at q
    exact Or.inr (Or.inl ⟨e, rfl, q⟩)
  · rw [h 0 (by decide)] at q
    exact Or.inr (Or.inr (Or.inl ⟨e, rfl, q⟩))
  · rw [h 0 (by decide), h 1 (by decide), h 2 (by decide), h 3 (by decide), h 4 (by decide)] at q
    exact Or.inr (Or.inr (Or.inr (Or.inl ⟨e, rfl, q⟩)))
  · rw [h 0 (by decide), h 1 (by decide), h 2 (by decide)] at q
    exact Or.inr (Or.inr (Or.inr (Or.inr (Or.inl ⟨e, rfl, q⟩))))
  · rw [h 0 (by decide), h 1 (by decide), h 2 (by decide), h 3 (by decide)] at q
    exact Or.inr (Or.inr (Or.inr (Or.inr (Or.inr (Or.inl ⟨e, rfl, q⟩)))))
  · rw [h 0 (by decide), h 1 (by decide), h 2 (by decide)] at q
    exact Or.inr (Or.inr (Or.inr (Or.inr (Or.inr (Or.inr (Or.inl ⟨e, rfl, q⟩))))))
  · rw [h 0 (by decide), h 1 (by decide)] at q
    exact Or.inr (Or.inr (Or.inr (Or.inr (Or.inr (Or.inr (Or.inr (⟨e, rfl, q⟩)))))))
theorem rd_ok_n {ch n : Nat} {v Z : Nat → Nat} (hk : rd_ok ch n v Z) : 1 ≤ n ∧ n ≤ 5 := by
  unfold rd_ok at hk
  rcases hk with ⟨e, rfl, q⟩ | ⟨e, rfl, q⟩ | ⟨e, rfl, q⟩ | ⟨e, rfl, q⟩ | ⟨e, rfl, q⟩ | ⟨e, rfl, q⟩ | ⟨e, rfl, q⟩ | ⟨e, rfl, q⟩ <;> decide
def rd_o (k z : Nat) : Nat := if k = 0 then z else rd_w k * z
/-- numbers put into a row, one behind the other -/
def rd_pt (y td o : Nat) : Nat → Nat
  | 0 => y
  | i + 1 => am_as (rd_pt y td o i) (o + i) (am_ag td i)
theorem rd_pt_ag (y td o : Nat) : ∀ (w i : Nat), am_ag (rd_pt y td o w) i = if o ≤ i ∧ i < o + w then am_ag td (i - o) else am_ag y i
  | 0, i => by
    rw [if_neg (by omega)]
    rfl
  | w + 1, i => by
    show am_ag (am_as (rd_pt y td o w) (o + w) (am_ag td w)) i = _
    rw [am_ag_as, rd_pt_ag y td o w i]
    by_cases q : i = o + w
    · rw [if_pos q, if_pos (by omega), Nat.mod_eq_of_lt (am_ag_lt _ _), show i - o = w by omega]
    · rw [if_neg q]
      by_cases q2 : o ≤ i ∧ i < o + w
      · rw [if_pos q2, if_pos (by omega)]
      · rw [if_neg q2, if_neg (by omega)]
def rd_Y (ch td : Nat) (Z Y : Nat → Nat) (k : Nat) : Nat := if rd_row ch = k then rd_pt (Y k) td (rd_o k (Z k)) (rd_w k) else Y k
def rd_yl (k : Nat) : Nat := if k = 0 then 4 else if k = 1 then 45 else if k = 2 then 18 else if k = 3 then 16 else if k = 4 then 18 else 8
def rd_b (k i : Nat) : Nat := if k = 0 then 9 else if k = 4 then 7 else if k = 5 then 3 else if i = 0 then 3 else if i = 1 then 59 else if i = 2 then 59 else if i = 3 then (if k = 1 then 9 else 10) else 8
def rd_xb (k : Nat) : Nat := if k = 4 then 7 else 99
/-- what holds of what is being read -/
def rd_V (mi go N nr td : Nat) (Z X Y : Nat → Nat) : Prop := (1 ≤ mi ∧ mi ≤ 60 ∧ go ≤ 3 ∧ 1 ≤ N ∧ N ≤ 5) ∧ (∀ j, j < 5 → am_ag nr j ≤ 99) ∧ (∀ j, j < 5 → am_ag td j ≤ 99) ∧ (∀ k, k < 6 → Z k ≤ rd_l k) ∧ (∀ k, k < 6 → ∀ i, i < 45 → am_ag (X k) i ≤ rd_xb k) ∧ (∀ k, k < 6 → ∀ i, i < rd_yl k → am_ag (Y k) i ≤ rd_b k (i % rd_w k)) ∧ (∀ k, k < 6 → ∀ i, i < Z k * rd_w k → am_ag (X k) i = am_ag (Y k) i) ∧ (∀ i, i < Z 5 → am_ag (Y 5) (2 * i + 1) < Z 0)
def rd_im (c : Nat → Nat) (len p ch : Nat) (Z Y : Nat → Nat) (rl rg b at' td' rl' rg' : Nat) (Z' Y' : Nat → Nat) : Prop := ((b = 1 ∧ ∃ n, 1 ≤ n ∧ n ≤ 5 ∧ rd_A c (p + 1) n ∧ rd_ok ch n (am_ag td') Z ∧ at' = rd_ps c (p + 1) n ∧ (∀ j, j < n → am_ag td' j = rd_vl c (rd_ps c (p + 1) j)) ∧ rl' = rd_mi ch (am_ag td' 0) rl ∧ rg' = rd_go ch (am_ag td' 0) rg ∧ Z' = rd_Z ch Z ∧ Y' = rd_Y ch td' Z Y) ∨ (b = 0 ∧ (∀ n, 1 ≤ n → n ≤ 5 → rd_A c (p + 1) n → ¬ rd_ok ch n (fun j => rd_vl c (rd_ps c (p + 1) j)) Z) ∧ rl' = rl ∧ rg' = rg ∧ Z' = Z ∧ Y' = Y)) ∧ (∀ j, j < 5 → am_ag td' j ≤ 99) ∧ at' ≤ len
theorem rd_w_1 (k : Nat) : 1 ≤ rd_w k ∧ rd_w k ≤ 5 := by
  unfold rd_w
  split <;> (try split) <;> (try split) <;> (try split) <;> (try split) <;> decide
theorem rd_V_item {mi go N nr td ch n N' nr' td' : Nat} {Z X Y : Nat → Nat} (hV : rd_V mi go N nr td Z X Y) (hk : rd_ok ch n (am_ag nr') Z) (he : ∀ j, j < n → am_ag nr' j = am_ag td' j) (hN1 : 1 ≤ N') (hN5 : N' ≤ 5) (hn : ∀ j, j < 5 → am_ag nr' j ≤ 99) (ht : ∀ j, j < 5 → am_ag td' j ≤ 99) : rd_V (rd_mi ch (am_ag nr' 0) mi) (rd_go ch (am_ag nr' 0) go) N' nr' td' (rd_Z ch Z) (rd_X ch nr' Z X) (rd_Y ch td' Z Y) := by
  obtain ⟨⟨v1, v2, v3, v4, v5⟩, -, -, vZ, vX, vY, vC, vO⟩ := hV
  have row : ∀ k, k < 6 → rd_row ch = k → (n = rd_w k ∧ Z k + 1 ≤ rd_l k ∧ (∀ j, j < rd_w k → am_ag nr' j ≤ rd_xb k) ∧ ∀ j, j < rd_w k → am_ag td' j ≤ rd_b k j) := by
    intro k hk6 hr
    have z0 : Z 0 ≤ 4 := vZ 0 (by decide)
    have hk0 := hk
    unfold rd_ok rd_sn at hk
    rcases hk with ⟨rfl, rfl, q⟩ | ⟨rfl, rfl, q⟩ | ⟨rfl, rfl, q⟩ | ⟨rfl, rfl, q⟩ | ⟨rfl, rfl, q⟩ | ⟨rfl, rfl, q⟩ | ⟨rfl, rfl, q⟩ | ⟨rfl, rfl, q⟩
    · exact absurd hr (by rw [show rd_row 110 = 6 from rfl]; omega)
    · exact absurd hr (by rw [show rd_row 103 = 6 from rfl]; omega)
    · rw [show rd_row 115 = 0 from rfl] at hr
      subst hr
      have e0 := he 0 (by decide)
      have s0 := hn 0 (by decide)
      refine ⟨rfl, by show Z 0 + 1 ≤ 4; omega, fun j hj => ?_, fun j hj => ?_⟩
      · have hj : j < 1 := hj
        match j, hj with
        | 0, _ => show am_ag nr' 0 ≤ 99; omega
        | j + 1, hj => exact absurd hj (by omega)
      · have hj : j < 1 := hj
        match j, hj with
        | 0, _ => show am_ag td' 0 ≤ 9; omega
        | j + 1, hj => exact absurd hj (by omega)
    · rw [show rd_row 109 = 1 from rfl] at hr
      subst hr
      have e0 := he 0 (by decide)
      have s0 := hn 0 (by decide)
      have e1 := he 1 (by decide)
      have s1 := hn 1 (by decide)
      have e2 := he 2 (by decide)
      have s2 := hn 2 (by decide)
      have e3 := he 3 (by decide)
      have s3 := hn 3 (by decide)
      have e4 := he 4 (by decide)
      have s4 := hn 4 (by decide)
      refine ⟨rfl, by show Z 1 + 1 ≤ 9; omega, fun j hj => ?_, fun j hj => ?_⟩
      · have hj : j < 5 := hj
        match j, hj with
        | 0, _ => show am_ag nr' 0 ≤ 99; omega
        | 1, _ => show am_ag nr' 1 ≤ 99; omega
        | 2, _ => show am_ag nr' 2 ≤ 99; omega
        | 3, _ => show am_ag nr' 3 ≤ 99; omega
        | 4, _ => show am_ag nr' 4 ≤ 99; omega
        | j + 5, hj => exact absurd hj (by omega)
      · have hj : j < 5 := hj
        match j, hj with
        | 0, _ => show am_ag td' 0 ≤ 3; omega
        | 1, _ => show am_ag td' 1 ≤ 59; omega
        | 2, _ => show am_ag td' 2 ≤ 59; omega
        | 3, _ => show am_ag td' 3 ≤ 9; omega
        | 4, _ => show am_ag td' 4 ≤ 8; omega
        | j + 5, hj => exact absurd hj (by omega)
    · rw [show rd_row 98 = 2 from rfl] at hr
      subst hr
      have e0 := he 0 (by decide)
      have s0 := hn 0 (by decide)
      have e1 := he 1 (by decide)
      have s1 := hn 1 (by decide)
      have e2 := he 2 (by decide)
      have s2 := hn 2 (by decide)
      refine ⟨rfl, by show Z 2 + 1 ≤ 6; omega, fun j hj => ?_, fun j hj => ?_⟩
      · have hj : j < 3 := hj
        match j, hj with
        | 0, _ => show am_ag nr' 0 ≤ 99; omega
        | 1, _ => show am_ag nr' 1 ≤ 99; omega
        | 2, _ => show am_ag nr' 2 ≤ 99; omega
        | j + 3, hj => exact absurd hj (by omega)
      · have hj : j < 3 := hj
        match j, hj with
        | 0, _ => show am_ag td' 0 ≤ 3; omega
        | 1, _ => show am_ag td' 1 ≤ 59; omega
        | 2, _ => show am_ag td' 2 ≤ 59; omega
        | j + 3, hj => exact absurd hj (by omega)
    · rw [show rd_row 117 = 3 from rfl] at hr
      subst hr
      have e0 := he 0 (by decide)
      have s0 := hn 0 (by decide)
      have e1 := he 1 (by decide)
      have s1 := hn 1 (by decide)
      have e2 := he 2 (by decide)
      have s2 := hn 2 (by decide)
      have e3 := he 3 (by decide)
      have s3 := hn 3 (by decide)
      refine ⟨rfl, by show Z 3 + 1 ≤ 4; omega, fun j hj => ?_, fun j hj => ?_⟩
      · have hj : j < 4 := hj
        match j, hj with
        | 0, _ => show am_ag nr' 0 ≤ 99; omega
        | 1, _ => show am_ag nr' 1 ≤ 99; omega
        | 2, _ => show am_ag nr' 2 ≤ 99; omega
        | 3, _ => show am_ag nr' 3 ≤ 99; omega
        | j + 4, hj => exact absurd hj (by omega)
      · have hj : j < 4 := hj
        match j, hj with
        | 0, _ => show am_ag td' 0 ≤ 3; omega
        | 1, _ => show am_ag td' 1 ≤ 59; omega
        | 2, _ => show am_ag td' 2 ≤ 59; omega
        | 3, _ => show am_ag td' 3 ≤ 10; omega
        | j + 4, hj => exact absurd hj (by omega)
    · rw [show rd_row 102 = 4 from rfl] at hr
      subst hr
      have e0 := he 0 (by decide)
      have s0 := hn 0 (by decide)
      have e1 := he 1 (by decide)
      have s1 := hn 1 (by decide)
      have e2 := he 2 (by decide)
      have s2 := hn 2 (by decide)
      refine ⟨rfl, by show Z 4 + 1 ≤ 6; omega, fun j hj => ?_, fun j hj => ?_⟩
      · have hj : j < 3 := hj
        match j, hj with
        | 0, _ => show am_ag nr' 0 ≤ 7; omega
        | 1, _ => show am_ag nr' 1 ≤ 7; omega
        | 2, _ => show am_ag nr' 2 ≤ 7; omega
        | j + 3, hj => exact absurd hj (by omega)
      · have hj : j < 3 := hj
        match j, hj with
        | 0, _ => show am_ag td' 0 ≤ 7; omega
        | 1, _ => show am_ag td' 1 ≤ 7; omega
        | 2, _ => show am_ag td' 2 ≤ 7; omega
        | j + 3, hj => exact absurd hj (by omega)
    · rw [show rd_row 119 = 5 from rfl] at hr
      subst hr
      have e0 := he 0 (by decide)
      have s0 := hn 0 (by decide)
      have e1 := he 1 (by decide)
      have s1 := hn 1 (by decide)
      refine ⟨rfl, by show Z 5 + 1 ≤ 4; omega, fun j hj => ?_, fun j hj => ?_⟩
      · have hj : j < 2 := hj
        match j, hj with
        | 0, _ => show am_ag nr' 0 ≤ 99; omega
        | 1, _ => show am_ag nr' 1 ≤ 99; omega
        | j + 2, hj => exact absurd hj (by omega)
      · have hj : j < 2 := hj
        match j, hj with
        | 0, _ => show am_ag td' 0 ≤ 3; omega
        | 1, _ => show am_ag td' 1 ≤ 3; omega
        | j + 2, hj => exact absurd hj (by omega)
  have hm : (1 ≤ rd_mi ch (am_ag nr' 0) mi ∧ rd_mi ch (am_ag nr' 0) mi ≤ 60) ∧ rd_go ch (am_ag nr' 0) go ≤ 3 := by
    unfold rd_mi rd_go
    refine ⟨?_, ?_⟩
    · by_cases q : ch = 110
      · rw [if_pos q]
        subst q
        exact (rd_inv_110 hk).2
      · rw [if_neg q]
        exact ⟨v1, v2⟩
    · by_cases q : ch = 103
      · rw [if_pos q]
        subst q
        exact (rd_inv_103 hk).2
      · rw [if_neg q]
        exact v3
  refine ⟨⟨hm.1.1, hm.1.2, hm.2, hN1, hN5⟩, hn, ht, fun k h6 => ?_, fun k h6 i hi => ?_, fun k h6 i hi => ?_, fun k h6 i hi => ?_, fun i hi => ?_⟩
  · unfold rd_Z
    by_cases q : rd_row ch = k
    · rw [if_pos q]; exact (row k h6 q).2.1
    · rw [if_neg q]; exact vZ k h6
  · unfold rd_X
    by_cases q : rd_row ch = k
    · rw [if_pos q, am_ag_cp]
      by_cases q2 : Z k * rd_w k ≤ i ∧ i < Z k * rd_w k + rd_w k
      · rw [if_pos q2]; exact (row k h6 q).2.2.1 _ (by omega)
      · rw [if_neg q2]; exact vX k h6 i hi
    · rw [if_neg q]; exact vX k h6 i hi
  · unfold rd_Y
    by_cases q : rd_row ch = k
    · rw [if_pos q, rd_pt_ag]
      have w1 := rd_w_1 k
      have oo : rd_o k (Z k) = rd_w k * Z k := by
        unfold rd_o
        by_cases k0 : k = 0
        · rw [if_pos k0, k0, show rd_w 0 = 1 from rfl, Nat.one_mul]
        · rw [if_neg k0]
      rw [oo]
      by_cases q2 : rd_w k * Z k ≤ i ∧ i < rd_w k * Z k + rd_w k
      · rw [if_pos q2]
        obtain ⟨j, rfl⟩ : ∃ j, i = rd_w k * Z k + j := ⟨i - rd_w k * Z k, by omega⟩
        rw [Nat.add_sub_cancel_left, Nat.mul_add_mod, Nat.mod_eq_of_lt (show j < rd_w k by omega)]
        exact (row k h6 q).2.2.2 j (by omega)
      · rw [if_neg q2]; exact vY k h6 i hi
    · rw [if_neg q]; exact vY k h6 i hi
  · unfold rd_X rd_Y
    unfold rd_Z at hi
    by_cases q : rd_row ch = k
    · rw [if_pos q] at hi
      rw [if_pos q, if_pos q, rd_pt_ag, am_ag_cp]
      have oo : rd_o k (Z k) = Z k * rd_w k := by
        unfold rd_o
        by_cases k0 : k = 0
        · rw [if_pos k0, k0, show rd_w 0 = 1 from rfl, Nat.mul_one]
        · rw [if_neg k0, Nat.mul_comm]
      rw [oo]
      rw [Nat.add_mul, Nat.one_mul] at hi
      by_cases q2 : Z k * rd_w k ≤ i ∧ i < Z k * rd_w k + rd_w k
      · rw [if_pos q2, if_pos q2, Nat.zero_add]
        exact he _ (by rw [(row k h6 q).1]; omega)
      · rw [if_neg q2, if_neg q2]
        exact vC k h6 i (by omega)
    · rw [if_neg q] at hi
      rw [if_neg q, if_neg q]
      exact vC k h6 i hi
  · unfold rd_Y
    unfold rd_Z at hi ⊢
    by_cases q : rd_row ch = 5
    · have c119 : ch = 119 := by
        unfold rd_row at q
        by_cases c1 : ch = 115
        · rw [if_pos c1] at q; exact absurd q (by decide)
        by_cases c2 : ch = 109
        · rw [if_neg c1, if_pos c2] at q; exact absurd q (by decide)
        by_cases c3 : ch = 98
        · rw [if_neg c1, if_neg c2, if_pos c3] at q; exact absurd q (by decide)
        by_cases c4 : ch = 117
        · rw [if_neg c1, if_neg c2, if_neg c3, if_pos c4] at q; exact absurd q (by decide)
        by_cases c5 : ch = 102
        · rw [if_neg c1, if_neg c2, if_neg c3, if_neg c4, if_pos c5] at q; exact absurd q (by decide)
        by_cases c6 : ch = 119
        · exact c6
        · rw [if_neg c1, if_neg c2, if_neg c3, if_neg c4, if_neg c5, if_neg c6] at q; exact absurd q (by decide)
      have q0 : ¬ rd_row ch = 0 := by omega
      rw [if_pos q] at hi
      rw [if_pos q, if_neg q0, rd_pt_ag]
      have o5 : rd_o 5 (Z 5) = 2 * Z 5 := rfl
      have w5 : rd_w 5 = 2 := rfl
      rw [o5, w5]
      by_cases e : i = Z 5
      · rw [if_pos (by omega), show 2 * i + 1 - 2 * Z 5 = 1 by omega]
        subst c119
        obtain ⟨n2, -, v, -⟩ := rd_inv_119 hk
        rw [← he 1 (by omega)]
        exact v
      · rw [if_neg (by omega)]
        exact vO i (by omega)
    · rw [if_neg q] at hi
      rw [if_neg q]
      have q1 := vO i hi
      by_cases q0 : rd_row ch = 0
      · rw [if_pos q0]; omega
      · rw [if_neg q0]; exact q1
theorem m_it_110 {len rl rg tm td p : Nat} {Z Y : Nat → Nat} (hlen : len ≤ 200) (h126 : ∀ i, i < 200 → am_ag tm i ≤ 126) (hp : p < len) (hZ : ∀ k, k < 6 → Z k ≤ rd_l k) (h5 : ∀ j, j < 5 → am_ag td j ≤ 99) (hch : am_ag tm p = 110) : ∃ b at' td' rl' rg' Z' Y', (∀ (h : am_H) (f : Nat → Value), rm_ok h → am_EG mi_136 [.ref 66] (rm h f len p rl rg (Z 0) (Z 1) (Z 2) (Z 3) (Z 4) (Z 5) tm td (Y 0) (Y 1) (Y 2) (Y 3) (Y 4) (Y 5)) (some (.retAddr b), (rm h f len (at') (rl') (rg') (Z' 0) (Z' 1) (Z' 2) (Z' 3) (Z' 4) (Z' 5) tm (td') (Y' 0) (Y' 1) (Y' 2) (Y' 3) (Y' 4) (Y' 5)))) ∧ rd_im (rd_c tm len) len p (am_ag tm p) Z Y rl rg b at' td' rl' rg' Z' Y' ∧ b < 2 := by
  rw [hch]
  have z0 : Z 0 ≤ 4 := hZ 0 (by decide)
  have z1 : Z 1 ≤ 9 := hZ 1 (by decide)
  have z2 : Z 2 ≤ 6 := hZ 2 (by decide)
  have z3 : Z 3 ≤ 4 := hZ 3 (by decide)
  have z4 : Z 4 ≤ 6 := hZ 4 (by decide)
  have z5 : Z 5 ≤ 4 := hZ 5 (by decide)
  obtain ⟨b, at', td', e, g⟩ := m_rn (at_ := p + 1) (rl := rl) (rg := rg) (z1 := Z 0) (z2 := Z 1) (z3 := Z 2) (z4 := Z 3) (z5 := Z 4) (z6 := Z 5) (y1 := Y 0) (y2 := Y 1) (y3 := Y 2) (y4 := Y 3) (y5 := Y 4) (y6 := Y 5) hlen (n := 1) (by decide) (by decide) h126 (by omega) h5
  rcases g with ⟨⟨rfl, gA, gat, gv⟩ | ⟨rfl, gA⟩, g5, gl⟩
  · by_cases hc : 1 ≤ am_ag td' 0 ∧ am_ag td' 0 ≤ 60
    · exact ⟨1, at', td', _, _, rd_Z 110 Z, rd_Y 110 td' Z Y, fun h f hH => m_r110 hH hlen hp hch (by decide) (m_i110_1 hH (e h f hH) g5 z0 z1 z2 z3 z4 z5 hc), ⟨Or.inl ⟨rfl, 1, by decide, by decide, gA, Or.inl ⟨rfl, rfl, hc.1, hc.2⟩, gat, gv, rfl, rfl, rfl, rfl⟩, g5, gl⟩, by decide⟩
    · refine ⟨0, at', td', _, _, Z, Y, fun h f hH => m_r110 hH hlen hp hch (by decide) (m_i110_0 hH (e h f hH) g5 z0 z1 z2 z3 z4 z5 hc), ⟨Or.inr ⟨rfl, fun n h1 h2 hA hok => ?_, rfl, rfl, rfl, rfl⟩, g5, gl⟩, by decide⟩
      have hok2 := hok
      have en := (rd_inv_110 hok).1
      subst en
      obtain ⟨-, ⟨a, b⟩⟩ := rd_inv_110 (rd_ok_congr (v' := am_ag td') (fun j hj => (gv j hj).symm) hok2)
      exact hc ⟨a, b⟩
  · refine ⟨0, at', td', _, _, Z, Y, fun h f hH => m_r110 hH hlen hp hch (by decide) (m_i110_n hH (e h f hH) g5 z0 z1 z2 z3 z4 z5), ⟨Or.inr ⟨rfl, fun n h1 h2 hA hok => ?_, rfl, rfl, rfl, rfl⟩, g5, gl⟩, by decide⟩
    have en := (rd_inv_110 hok).1
    subst en
    exact gA hA
theorem m_it_103 {len rl rg tm td p : Nat} {Z Y : Nat → Nat} (hlen : len ≤ 200) (h126 : ∀ i, i < 200 → am_ag tm i ≤ 126) (hp : p < len) (hZ : ∀ k, k < 6 → Z k ≤ rd_l k) (h5 : ∀ j, j < 5 → am_ag td j ≤ 99) (hch : am_ag tm p = 103) : ∃ b at' td' rl' rg' Z' Y', (∀ (h : am_H) (f : Nat → Value), rm_ok h → am_EG mi_136 [.ref 66] (rm h f len p rl rg (Z 0) (Z 1) (Z 2) (Z 3) (Z 4) (Z 5) tm td (Y 0) (Y 1) (Y 2) (Y 3) (Y 4) (Y 5)) (some (.retAddr b), (rm h f len (at') (rl') (rg') (Z' 0) (Z' 1) (Z' 2) (Z' 3) (Z' 4) (Z' 5) tm (td') (Y' 0) (Y' 1) (Y' 2) (Y' 3) (Y' 4) (Y' 5)))) ∧ rd_im (rd_c tm len) len p (am_ag tm p) Z Y rl rg b at' td' rl' rg' Z' Y' ∧ b < 2 := by
  rw [hch]
  have z0 : Z 0 ≤ 4 := hZ 0 (by decide)
  have z1 : Z 1 ≤ 9 := hZ 1 (by decide)
  have z2 : Z 2 ≤ 6 := hZ 2 (by decide)
  have z3 : Z 3 ≤ 4 := hZ 3 (by decide)
  have z4 : Z 4 ≤ 6 := hZ 4 (by decide)
  have z5 : Z 5 ≤ 4 := hZ 5 (by decide)
  obtain ⟨b, at', td', e, g⟩ := m_rn (at_ := p + 1) (rl := rl) (rg := rg) (z1 := Z 0) (z2 := Z 1) (z3 := Z 2) (z4 := Z 3) (z5 := Z 4) (z6 := Z 5) (y1 := Y 0) (y2 := Y 1) (y3 := Y 2) (y4 := Y 3) (y5 := Y 4) (y6 := Y 5) hlen (n := 1) (by decide) (by decide) h126 (by omega) h5
  rcases g with ⟨⟨rfl, gA, gat, gv⟩ | ⟨rfl, gA⟩, g5, gl⟩
  · by_cases hc : am_ag td' 0 ≤ 3
    · exact ⟨1, at', td', _, _, rd_Z 103 Z, rd_Y 103 td' Z Y, fun h f hH => m_r103 hH hlen hp hch (by decide) (m_i103_1 hH (e h f hH) g5 z0 z1 z2 z3 z4 z5 hc), ⟨Or.inl ⟨rfl, 1, by decide, by decide, gA, Or.inr (Or.inl ⟨rfl, rfl, hc⟩), gat, gv, rfl, rfl, rfl, rfl⟩, g5, gl⟩, by decide⟩
    · refine ⟨0, at', td', _, _, Z, Y, fun h f hH => m_r103 hH hlen hp hch (by decide) (m_i103_0 hH (e h f hH) g5 z0 z1 z2 z3 z4 z5 hc), ⟨Or.inr ⟨rfl, fun n h1 h2 hA hok => ?_, rfl, rfl, rfl, rfl⟩, g5, gl⟩, by decide⟩
      have hok2 := hok
      have en := (rd_inv_103 hok).1
      subst en
      obtain ⟨-, a⟩ := rd_inv_103 (rd_ok_congr (v' := am_ag td') (fun j hj => (gv j hj).symm) hok2)
      exact hc a
  · refine ⟨0, at', td', _, _, Z, Y, fun h f hH => m_r103 hH hlen hp hch (by decide) (m_i103_n hH (e h f hH) g5 z0 z1 z2 z3 z4 z5), ⟨Or.inr ⟨rfl, fun n h1 h2 hA hok => ?_, rfl, rfl, rfl, rfl⟩, g5, gl⟩, by decide⟩
    have en := (rd_inv_103 hok).1
    subst en
    exact gA hA
theorem m_it_115 {len rl rg tm td p : Nat} {Z Y : Nat → Nat} (hlen : len ≤ 200) (h126 : ∀ i, i < 200 → am_ag tm i ≤ 126) (hp : p < len) (hZ : ∀ k, k < 6 → Z k ≤ rd_l k) (h5 : ∀ j, j < 5 → am_ag td j ≤ 99) (hch : am_ag tm p = 115) : ∃ b at' td' rl' rg' Z' Y', (∀ (h : am_H) (f : Nat → Value), rm_ok h → am_EG mi_136 [.ref 66] (rm h f len p rl rg (Z 0) (Z 1) (Z 2) (Z 3) (Z 4) (Z 5) tm td (Y 0) (Y 1) (Y 2) (Y 3) (Y 4) (Y 5)) (some (.retAddr b), (rm h f len (at') (rl') (rg') (Z' 0) (Z' 1) (Z' 2) (Z' 3) (Z' 4) (Z' 5) tm (td') (Y' 0) (Y' 1) (Y' 2) (Y' 3) (Y' 4) (Y' 5)))) ∧ rd_im (rd_c tm len) len p (am_ag tm p) Z Y rl rg b at' td' rl' rg' Z' Y' ∧ b < 2 := by
  rw [hch]
  have z0 : Z 0 ≤ 4 := hZ 0 (by decide)
  have z1 : Z 1 ≤ 9 := hZ 1 (by decide)
  have z2 : Z 2 ≤ 6 := hZ 2 (by decide)
  have z3 : Z 3 ≤ 4 := hZ 3 (by decide)
  have z4 : Z 4 ≤ 6 := hZ 4 (by decide)
  have z5 : Z 5 ≤ 4 := hZ 5 (by decide)
  by_cases hf : Z 0 < 4
  case neg =>
    refine ⟨0, p + 1, td, _, _, Z, Y, fun h f hH => m_r115 hH hlen hp hch (by decide) (m_i115_f hH (by omega)), ⟨Or.inr ⟨rfl, fun n h1 h2 hA hok => ?_, rfl, rfl, rfl, rfl⟩, h5, by omega⟩, by decide⟩
    obtain ⟨-, ⟨a, z⟩⟩ := rd_inv_115 hok
    exact hf z
  obtain ⟨b, at', td', e, g⟩ := m_rn (at_ := p + 1) (rl := rl) (rg := rg) (z1 := Z 0) (z2 := Z 1) (z3 := Z 2) (z4 := Z 3) (z5 := Z 4) (z6 := Z 5) (y1 := Y 0) (y2 := Y 1) (y3 := Y 2) (y4 := Y 3) (y5 := Y 4) (y6 := Y 5) hlen (n := 1) (by decide) (by decide) h126 (by omega) h5
  rcases g with ⟨⟨rfl, gA, gat, gv⟩ | ⟨rfl, gA⟩, g5, gl⟩
  · by_cases hc : am_ag td' 0 ≤ 9
    · exact ⟨1, at', td', _, _, rd_Z 115 Z, rd_Y 115 td' Z Y, fun h f hH => m_r115 hH hlen hp hch (by decide) (m_i115_1 hH (e h f hH) g5 z0 z1 z2 z3 z4 z5 hf hc), ⟨Or.inl ⟨rfl, 1, by decide, by decide, gA, Or.inr (Or.inr (Or.inl ⟨rfl, rfl, hc, hf⟩)), gat, gv, rfl, rfl, rfl, rfl⟩, g5, gl⟩, by decide⟩
    · refine ⟨0, at', td', _, _, Z, Y, fun h f hH => m_r115 hH hlen hp hch (by decide) (m_i115_0 hH (e h f hH) g5 z0 z1 z2 z3 z4 z5 hf hc), ⟨Or.inr ⟨rfl, fun n h1 h2 hA hok => ?_, rfl, rfl, rfl, rfl⟩, g5, gl⟩, by decide⟩
      have hok2 := hok
      have en := (rd_inv_115 hok).1
      subst en
      obtain ⟨-, ⟨a, z⟩⟩ := rd_inv_115 (rd_ok_congr (v' := am_ag td') (fun j hj => (gv j hj).symm) hok2)
      exact hc a
  · refine ⟨0, at', td', _, _, Z, Y, fun h f hH => m_r115 hH hlen hp hch (by decide) (m_i115_n hH (e h f hH) g5 z0 z1 z2 z3 z4 z5 hf), ⟨Or.inr ⟨rfl, fun n h1 h2 hA hok => ?_, rfl, rfl, rfl, rfl⟩, g5, gl⟩, by decide⟩
    have en := (rd_inv_115 hok).1
    subst en
    exact gA hA
theorem m_it_109 {len rl rg tm td p : Nat} {Z Y : Nat → Nat} (hlen : len ≤ 200) (h126 : ∀ i, i < 200 → am_ag tm i ≤ 126) (hp : p < len) (hZ : ∀ k, k < 6 → Z k ≤ rd_l k) (h5 : ∀ j, j < 5 → am_ag td j ≤ 99) (hch : am_ag tm p = 109) : ∃ b at' td' rl' rg' Z' Y', (∀ (h : am_H) (f : Nat → Value), rm_ok h → am_EG mi_136 [.ref 66] (rm h f len p rl rg (Z 0) (Z 1) (Z 2) (Z 3) (Z 4) (Z 5) tm td (Y 0) (Y 1) (Y 2) (Y 3) (Y 4) (Y 5)) (some (.retAddr b), (rm h f len (at') (rl') (rg') (Z' 0) (Z' 1) (Z' 2) (Z' 3) (Z' 4) (Z' 5) tm (td') (Y' 0) (Y' 1) (Y' 2) (Y' 3) (Y' 4) (Y' 5)))) ∧ rd_im (rd_c tm len) len p (am_ag tm p) Z Y rl rg b at' td' rl' rg' Z' Y' ∧ b < 2 := by
  rw [hch]
  have z0 : Z 0 ≤ 4 := hZ 0 (by decide)
  have z1 : Z 1 ≤ 9 := hZ 1 (by decide)
  have z2 : Z 2 ≤ 6 := hZ 2 (by decide)
  have z3 : Z 3 ≤ 4 := hZ 3 (by decide)
  have z4 : Z 4 ≤ 6 := hZ 4 (by decide)
  have z5 : Z 5 ≤ 4 := hZ 5 (by decide)
  by_cases hf : Z 1 < 9
  case neg =>
    refine ⟨0, p + 1, td, _, _, Z, Y, fun h f hH => m_r109 hH hlen hp hch (by decide) (m_i109_f hH (by omega)), ⟨Or.inr ⟨rfl, fun n h1 h2 hA hok => ?_, rfl, rfl, rfl, rfl⟩, h5, by omega⟩, by decide⟩
    obtain ⟨-, ⟨a, b, c, z⟩⟩ := rd_inv_109 hok
    exact hf z
  obtain ⟨b, at', td', e, g⟩ := m_rn (at_ := p + 1) (rl := rl) (rg := rg) (z1 := Z 0) (z2 := Z 1) (z3 := Z 2) (z4 := Z 3) (z5 := Z 4) (z6 := Z 5) (y1 := Y 0) (y2 := Y 1) (y3 := Y 2) (y4 := Y 3) (y5 := Y 4) (y6 := Y 5) hlen (n := 5) (by decide) (by decide) h126 (by omega) h5
  rcases g with ⟨⟨rfl, gA, gat, gv⟩ | ⟨rfl, gA⟩, g5, gl⟩
  · by_cases hc : (am_ag td' 0 < Z 0 ∧ am_ag td' 1 ≤ 59 ∧ am_ag td' 2 ≤ 59 ∧ am_ag td' 1 ≤ am_ag td' 2) ∧ am_ag td' 3 ≤ 9 ∧ am_ag td' 4 ≤ 8
    · exact ⟨1, at', td', _, _, rd_Z 109 Z, rd_Y 109 td' Z Y, fun h f hH => m_r109 hH hlen hp hch (by decide) (m_i109_1 hH (e h f hH) g5 z0 z1 z2 z3 z4 z5 hf hc), ⟨Or.inl ⟨rfl, 5, by decide, by decide, gA, Or.inr (Or.inr (Or.inr (Or.inl ⟨rfl, rfl, hc.1, hc.2.1, hc.2.2, hf⟩))), gat, gv, rfl, rfl, rfl, rfl⟩, g5, gl⟩, by decide⟩
    · refine ⟨0, at', td', _, _, Z, Y, fun h f hH => m_r109 hH hlen hp hch (by decide) (m_i109_0 hH (e h f hH) g5 z0 z1 z2 z3 z4 z5 hf hc), ⟨Or.inr ⟨rfl, fun n h1 h2 hA hok => ?_, rfl, rfl, rfl, rfl⟩, g5, gl⟩, by decide⟩
      have hok2 := hok
      have en := (rd_inv_109 hok).1
      subst en
      obtain ⟨-, ⟨a, b, c, z⟩⟩ := rd_inv_109 (rd_ok_congr (v' := am_ag td') (fun j hj => (gv j hj).symm) hok2)
      exact hc ⟨a, b, c⟩
  · refine ⟨0, at', td', _, _, Z, Y, fun h f hH => m_r109 hH hlen hp hch (by decide) (m_i109_n hH (e h f hH) g5 z0 z1 z2 z3 z4 z5 hf), ⟨Or.inr ⟨rfl, fun n h1 h2 hA hok => ?_, rfl, rfl, rfl, rfl⟩, g5, gl⟩, by decide⟩
    have en := (rd_inv_109 hok).1
    subst en
    exact gA hA
theorem m_it_98 {len rl rg tm td p : Nat} {Z Y : Nat → Nat} (hlen : len ≤ 200) (h126 : ∀ i, i < 200 → am_ag tm i ≤ 126) (hp : p < len) (hZ : ∀ k, k < 6 → Z k ≤ rd_l k) (h5 : ∀ j, j < 5 → am_ag td j ≤ 99) (hch : am_ag tm p = 98) : ∃ b at' td' rl' rg' Z' Y', (∀ (h : am_H) (f : Nat → Value), rm_ok h → am_EG mi_136 [.ref 66] (rm h f len p rl rg (Z 0) (Z 1) (Z 2) (Z 3) (Z 4) (Z 5) tm td (Y 0) (Y 1) (Y 2) (Y 3) (Y 4) (Y 5)) (some (.retAddr b), (rm h f len (at') (rl') (rg') (Z' 0) (Z' 1) (Z' 2) (Z' 3) (Z' 4) (Z' 5) tm (td') (Y' 0) (Y' 1) (Y' 2) (Y' 3) (Y' 4) (Y' 5)))) ∧ rd_im (rd_c tm len) len p (am_ag tm p) Z Y rl rg b at' td' rl' rg' Z' Y' ∧ b < 2 := by
  rw [hch]
  have z0 : Z 0 ≤ 4 := hZ 0 (by decide)
  have z1 : Z 1 ≤ 9 := hZ 1 (by decide)
  have z2 : Z 2 ≤ 6 := hZ 2 (by decide)
  have z3 : Z 3 ≤ 4 := hZ 3 (by decide)
  have z4 : Z 4 ≤ 6 := hZ 4 (by decide)
  have z5 : Z 5 ≤ 4 := hZ 5 (by decide)
  by_cases hf : Z 2 < 6
  case neg =>
    refine ⟨0, p + 1, td, _, _, Z, Y, fun h f hH => m_r98 hH hlen hp hch (by decide) (m_i98_f hH (by omega)), ⟨Or.inr ⟨rfl, fun n h1 h2 hA hok => ?_, rfl, rfl, rfl, rfl⟩, h5, by omega⟩, by decide⟩
    obtain ⟨-, ⟨a, z⟩⟩ := rd_inv_98 hok
    exact hf z
  obtain ⟨b, at', td', e, g⟩ := m_rn (at_ := p + 1) (rl := rl) (rg := rg) (z1 := Z 0) (z2 := Z 1) (z3 := Z 2) (z4 := Z 3) (z5 := Z 4) (z6 := Z 5) (y1 := Y 0) (y2 := Y 1) (y3 := Y 2) (y4 := Y 3) (y5 := Y 4) (y6 := Y 5) hlen (n := 3) (by decide) (by decide) h126 (by omega) h5
  rcases g with ⟨⟨rfl, gA, gat, gv⟩ | ⟨rfl, gA⟩, g5, gl⟩
  · by_cases hc : am_ag td' 0 < Z 0 ∧ am_ag td' 1 ≤ 59 ∧ am_ag td' 2 ≤ 59 ∧ am_ag td' 1 ≤ am_ag td' 2
    · exact ⟨1, at', td', _, _, rd_Z 98 Z, rd_Y 98 td' Z Y, fun h f hH => m_r98 hH hlen hp hch (by decide) (m_i98_1 hH (e h f hH) g5 z0 z1 z2 z3 z4 z5 hf hc), ⟨Or.inl ⟨rfl, 3, by decide, by decide, gA, Or.inr (Or.inr (Or.inr (Or.inr (Or.inl ⟨rfl, rfl, hc, hf⟩)))), gat, gv, rfl, rfl, rfl, rfl⟩, g5, gl⟩, by decide⟩
    · refine ⟨0, at', td', _, _, Z, Y, fun h f hH => m_r98 hH hlen hp hch (by decide) (m_i98_0 hH (e h f hH) g5 z0 z1 z2 z3 z4 z5 hf hc), ⟨Or.inr ⟨rfl, fun n h1 h2 hA hok => ?_, rfl, rfl, rfl, rfl⟩, g5, gl⟩, by decide⟩
      have hok2 := hok
      have en := (rd_inv_98 hok).1
      subst en
      obtain ⟨-, ⟨a, z⟩⟩ := rd_inv_98 (rd_ok_congr (v' := am_ag td') (fun j hj => (gv j hj).symm) hok2)
      exact hc a
  · refine ⟨0, at', td', _, _, Z, Y, fun h f hH => m_r98 hH hlen hp hch (by decide) (m_i98_n hH (e h f hH) g5 z0 z1 z2 z3 z4 z5 hf), ⟨Or.inr ⟨rfl, fun n h1 h2 hA hok => ?_, rfl, rfl, rfl, rfl⟩, g5, gl⟩, by decide⟩
    have en := (rd_inv_98 hok).1
    subst en
    exact gA hA
theorem m_it_117 {len rl rg tm td p : Nat} {Z Y : Nat → Nat} (hlen : len ≤ 200) (h126 : ∀ i, i < 200 → am_ag tm i ≤ 126) (hp : p < len) (hZ : ∀ k, k < 6 → Z k ≤ rd_l k) (h5 : ∀ j, j < 5 → am_ag td j ≤ 99) (hch : am_ag tm p = 117) : ∃ b at' td' rl' rg' Z' Y', (∀ (h : am_H) (f : Nat → Value), rm_ok h → am_EG mi_136 [.ref 66] (rm h f len p rl rg (Z 0) (Z 1) (Z 2) (Z 3) (Z 4) (Z 5) tm td (Y 0) (Y 1) (Y 2) (Y 3) (Y 4) (Y 5)) (some (.retAddr b), (rm h f len (at') (rl') (rg') (Z' 0) (Z' 1) (Z' 2) (Z' 3) (Z' 4) (Z' 5) tm (td') (Y' 0) (Y' 1) (Y' 2) (Y' 3) (Y' 4) (Y' 5)))) ∧ rd_im (rd_c tm len) len p (am_ag tm p) Z Y rl rg b at' td' rl' rg' Z' Y' ∧ b < 2 := by
  rw [hch]
  have z0 : Z 0 ≤ 4 := hZ 0 (by decide)
  have z1 : Z 1 ≤ 9 := hZ 1 (by decide)
  have z2 : Z 2 ≤ 6 := hZ 2 (by decide)
  have z3 : Z 3 ≤ 4 := hZ 3 (by decide)
  have z4 : Z 4 ≤ 6 := hZ 4 (by decide)
  have z5 : Z 5 ≤ 4 := hZ 5 (by decide)
  by_cases hf : Z 3 < 4
  case neg =>
    refine ⟨0, p + 1, td, _, _, Z, Y, fun h f hH => m_r117 hH hlen hp hch (by decide) (m_i117_f hH (by omega)), ⟨Or.inr ⟨rfl, fun n h1 h2 hA hok => ?_, rfl, rfl, rfl, rfl⟩, h5, by omega⟩, by decide⟩
    obtain ⟨-, ⟨a, b, z⟩⟩ := rd_inv_117 hok
    exact hf z
  obtain ⟨b, at', td', e, g⟩ := m_rn (at_ := p + 1) (rl := rl) (rg := rg) (z1 := Z 0) (z2 := Z 1) (z3 := Z 2) (z4 := Z 3) (z5 := Z 4) (z6 := Z 5) (y1 := Y 0) (y2 := Y 1) (y3 := Y 2) (y4 := Y 3) (y5 := Y 4) (y6 := Y 5) hlen (n := 4) (by decide) (by decide) h126 (by omega) h5
  rcases g with ⟨⟨rfl, gA, gat, gv⟩ | ⟨rfl, gA⟩, g5, gl⟩
  · by_cases hc : (am_ag td' 0 < Z 0 ∧ am_ag td' 1 ≤ 59 ∧ am_ag td' 2 ≤ 59 ∧ am_ag td' 1 ≤ am_ag td' 2) ∧ am_ag td' 3 ≤ 10
    · exact ⟨1, at', td', _, _, rd_Z 117 Z, rd_Y 117 td' Z Y, fun h f hH => m_r117 hH hlen hp hch (by decide) (m_i117_1 hH (e h f hH) g5 z0 z1 z2 z3 z4 z5 hf hc), ⟨Or.inl ⟨rfl, 4, by decide, by decide, gA, Or.inr (Or.inr (Or.inr (Or.inr (Or.inr (Or.inl ⟨rfl, rfl, hc.1, hc.2, hf⟩))))), gat, gv, rfl, rfl, rfl, rfl⟩, g5, gl⟩, by decide⟩
    · refine ⟨0, at', td', _, _, Z, Y, fun h f hH => m_r117 hH hlen hp hch (by decide) (m_i117_0 hH (e h f hH) g5 z0 z1 z2 z3 z4 z5 hf hc), ⟨Or.inr ⟨rfl, fun n h1 h2 hA hok => ?_, rfl, rfl, rfl, rfl⟩, g5, gl⟩, by decide⟩
      have hok2 := hok
      have en := (rd_inv_117 hok).1
      subst en
      obtain ⟨-, ⟨a, b, z⟩⟩ := rd_inv_117 (rd_ok_congr (v' := am_ag td') (fun j hj => (gv j hj).symm) hok2)
      exact hc ⟨a, b⟩
  · refine ⟨0, at', td', _, _, Z, Y, fun h f hH => m_r117 hH hlen hp hch (by decide) (m_i117_n hH (e h f hH) g5 z0 z1 z2 z3 z4 z5 hf), ⟨Or.inr ⟨rfl, fun n h1 h2 hA hok => ?_, rfl, rfl, rfl, rfl⟩, g5, gl⟩, by decide⟩
    have en := (rd_inv_117 hok).1
    subst en
    exact gA hA
theorem m_it_102 {len rl rg tm td p : Nat} {Z Y : Nat → Nat} (hlen : len ≤ 200) (h126 : ∀ i, i < 200 → am_ag tm i ≤ 126) (hp : p < len) (hZ : ∀ k, k < 6 → Z k ≤ rd_l k) (h5 : ∀ j, j < 5 → am_ag td j ≤ 99) (hch : am_ag tm p = 102) : ∃ b at' td' rl' rg' Z' Y', (∀ (h : am_H) (f : Nat → Value), rm_ok h → am_EG mi_136 [.ref 66] (rm h f len p rl rg (Z 0) (Z 1) (Z 2) (Z 3) (Z 4) (Z 5) tm td (Y 0) (Y 1) (Y 2) (Y 3) (Y 4) (Y 5)) (some (.retAddr b), (rm h f len (at') (rl') (rg') (Z' 0) (Z' 1) (Z' 2) (Z' 3) (Z' 4) (Z' 5) tm (td') (Y' 0) (Y' 1) (Y' 2) (Y' 3) (Y' 4) (Y' 5)))) ∧ rd_im (rd_c tm len) len p (am_ag tm p) Z Y rl rg b at' td' rl' rg' Z' Y' ∧ b < 2 := by
  rw [hch]
  have z0 : Z 0 ≤ 4 := hZ 0 (by decide)
  have z1 : Z 1 ≤ 9 := hZ 1 (by decide)
  have z2 : Z 2 ≤ 6 := hZ 2 (by decide)
  have z3 : Z 3 ≤ 4 := hZ 3 (by decide)
  have z4 : Z 4 ≤ 6 := hZ 4 (by decide)
  have z5 : Z 5 ≤ 4 := hZ 5 (by decide)
  by_cases hf : Z 4 < 6
  case neg =>
    refine ⟨0, p + 1, td, _, _, Z, Y, fun h f hH => m_r102 hH hlen hp hch (by decide) (m_i102_f hH (by omega)), ⟨Or.inr ⟨rfl, fun n h1 h2 hA hok => ?_, rfl, rfl, rfl, rfl⟩, h5, by omega⟩, by decide⟩
    obtain ⟨-, ⟨a, b, c, z⟩⟩ := rd_inv_102 hok
    exact hf z
  obtain ⟨b, at', td', e, g⟩ := m_rn (at_ := p + 1) (rl := rl) (rg := rg) (z1 := Z 0) (z2 := Z 1) (z3 := Z 2) (z4 := Z 3) (z5 := Z 4) (z6 := Z 5) (y1 := Y 0) (y2 := Y 1) (y3 := Y 2) (y4 := Y 3) (y5 := Y 4) (y6 := Y 5) hlen (n := 3) (by decide) (by decide) h126 (by omega) h5
  rcases g with ⟨⟨rfl, gA, gat, gv⟩ | ⟨rfl, gA⟩, g5, gl⟩
  · by_cases hc : am_ag td' 0 ≤ 7 ∧ am_ag td' 1 ≤ 7 ∧ am_ag td' 2 ≤ 7
    · exact ⟨1, at', td', _, _, rd_Z 102 Z, rd_Y 102 td' Z Y, fun h f hH => m_r102 hH hlen hp hch (by decide) (m_i102_1 hH (e h f hH) g5 z0 z1 z2 z3 z4 z5 hf hc), ⟨Or.inl ⟨rfl, 3, by decide, by decide, gA, Or.inr (Or.inr (Or.inr (Or.inr (Or.inr (Or.inr (Or.inl ⟨rfl, rfl, hc.1, hc.2.1, hc.2.2, hf⟩)))))), gat, gv, rfl, rfl, rfl, rfl⟩, g5, gl⟩, by decide⟩
    · refine ⟨0, at', td', _, _, Z, Y, fun h f hH => m_r102 hH hlen hp hch (by decide) (m_i102_0 hH (e h f hH) g5 z0 z1 z2 z3 z4 z5 hf hc), ⟨Or.inr ⟨rfl, fun n h1 h2 hA hok => ?_, rfl, rfl, rfl, rfl⟩, g5, gl⟩, by decide⟩
      have hok2 := hok
      have en := (rd_inv_102 hok).1
      subst en
      obtain ⟨-, ⟨a, b, c, z⟩⟩ := rd_inv_102 (rd_ok_congr (v' := am_ag td') (fun j hj => (gv j hj).symm) hok2)
      exact hc ⟨a, b, c⟩
  · refine ⟨0, at', td', _, _, Z, Y, fun h f hH => m_r102 hH hlen hp hch (by decide) (m_i102_n hH (e h f hH) g5 z0 z1 z2 z3 z4 z5 hf), ⟨Or.inr ⟨rfl, fun n h1 h2 hA hok => ?_, rfl, rfl, rfl, rfl⟩, g5, gl⟩, by decide⟩
    have en := (rd_inv_102 hok).1
    subst en
    exact gA hA
theorem m_it_119 {len rl rg tm td p : Nat} {Z Y : Nat → Nat} (hlen : len ≤ 200) (h126 : ∀ i, i < 200 → am_ag tm i ≤ 126) (hp : p < len) (hZ : ∀ k, k < 6 → Z k ≤ rd_l k) (h5 : ∀ j, j < 5 → am_ag td j ≤ 99) (hch : am_ag tm p = 119) : ∃ b at' td' rl' rg' Z' Y', (∀ (h : am_H) (f : Nat → Value), rm_ok h → am_EG mi_136 [.ref 66] (rm h f len p rl rg (Z 0) (Z 1) (Z 2) (Z 3) (Z 4) (Z 5) tm td (Y 0) (Y 1) (Y 2) (Y 3) (Y 4) (Y 5)) (some (.retAddr b), (rm h f len (at') (rl') (rg') (Z' 0) (Z' 1) (Z' 2) (Z' 3) (Z' 4) (Z' 5) tm (td') (Y' 0) (Y' 1) (Y' 2) (Y' 3) (Y' 4) (Y' 5)))) ∧ rd_im (rd_c tm len) len p (am_ag tm p) Z Y rl rg b at' td' rl' rg' Z' Y' ∧ b < 2 := by
  rw [hch]
  have z0 : Z 0 ≤ 4 := hZ 0 (by decide)
  have z1 : Z 1 ≤ 9 := hZ 1 (by decide)
  have z2 : Z 2 ≤ 6 := hZ 2 (by decide)
  have z3 : Z 3 ≤ 4 := hZ 3 (by decide)
  have z4 : Z 4 ≤ 6 := hZ 4 (by decide)
  have z5 : Z 5 ≤ 4 := hZ 5 (by decide)
  by_cases hf : Z 5 < 4
  case neg =>
    refine ⟨0, p + 1, td, _, _, Z, Y, fun h f hH => m_r119 hH hlen hp hch (by decide) (m_i119_f hH (by omega)), ⟨Or.inr ⟨rfl, fun n h1 h2 hA hok => ?_, rfl, rfl, rfl, rfl⟩, h5, by omega⟩, by decide⟩
    obtain ⟨-, ⟨a, b, z⟩⟩ := rd_inv_119 hok
    exact hf z
  obtain ⟨b, at', td', e, g⟩ := m_rn (at_ := p + 1) (rl := rl) (rg := rg) (z1 := Z 0) (z2 := Z 1) (z3 := Z 2) (z4 := Z 3) (z5 := Z 4) (z6 := Z 5) (y1 := Y 0) (y2 := Y 1) (y3 := Y 2) (y4 := Y 3) (y5 := Y 4) (y6 := Y 5) hlen (n := 2) (by decide) (by decide) h126 (by omega) h5
  rcases g with ⟨⟨rfl, gA, gat, gv⟩ | ⟨rfl, gA⟩, g5, gl⟩
  · by_cases hc : am_ag td' 0 ≤ 3 ∧ am_ag td' 1 < Z 0
    · exact ⟨1, at', td', _, _, rd_Z 119 Z, rd_Y 119 td' Z Y, fun h f hH => m_r119 hH hlen hp hch (by decide) (m_i119_1 hH (e h f hH) g5 z0 z1 z2 z3 z4 z5 hf hc), ⟨Or.inl ⟨rfl, 2, by decide, by decide, gA, Or.inr (Or.inr (Or.inr (Or.inr (Or.inr (Or.inr (Or.inr (⟨rfl, rfl, hc.1, hc.2, hf⟩))))))), gat, gv, rfl, rfl, rfl, rfl⟩, g5, gl⟩, by decide⟩
    · refine ⟨0, at', td', _, _, Z, Y, fun h f hH => m_r119 hH hlen hp hch (by decide) (m_i119_0 hH (e h f hH) g5 z0 z1 z2 z3 z4 z5 hf hc), ⟨Or.inr ⟨rfl, fun n h1 h2 hA hok => ?_, rfl, rfl, rfl, rfl⟩, g5, gl⟩, by decide⟩
      have hok2 := hok
      have en := (rd_inv_119 hok).1
      subst en
      obtain ⟨-, ⟨a, b, z⟩⟩ := rd_inv_119 (rd_ok_congr (v' := am_ag td') (fun j hj => (gv j hj).symm) hok2)
      exact hc ⟨a, b⟩
  · refine ⟨0, at', td', _, _, Z, Y, fun h f hH => m_r119 hH hlen hp hch (by decide) (m_i119_n hH (e h f hH) g5 z0 z1 z2 z3 z4 z5 hf), ⟨Or.inr ⟨rfl, fun n h1 h2 hA hok => ?_, rfl, rfl, rfl, rfl⟩, g5, gl⟩, by decide⟩
    have en := (rd_inv_119 hok).1
    subst en
    exact gA hA
theorem rd_no_let {ch n : Nat} {v Z : Nat → Nat} (h : ch < 98 ∨ 119 < ch ∨ ch = 99 ∨ ch = 100 ∨ ch = 101 ∨ (104 ≤ ch ∧ ch ≤ 108) ∨ (111 ≤ ch ∧ ch ≤ 114) ∨ ch = 116 ∨ ch = 118) (hk : rd_ok ch n v Z) : False := by
  unfold rd_ok at hk
  rcases hk with ⟨e, -⟩ | ⟨e, -⟩ | ⟨e, -⟩ | ⟨e, -⟩ | ⟨e, -⟩ | ⟨e, -⟩ | ⟨e, -⟩ | ⟨e, -⟩ <;> omega
theorem m_item {len rl rg tm td p : Nat} {Z Y : Nat → Nat} (hlen : len ≤ 200) (h126 : ∀ i, i < 200 → am_ag tm i ≤ 126) (hp : p < len) (hZ : ∀ k, k < 6 → Z k ≤ rd_l k) (h5 : ∀ j, j < 5 → am_ag td j ≤ 99) : ∃ b at' td' rl' rg' Z' Y', (∀ (h : am_H) (f : Nat → Value), rm_ok h → am_EG mi_136 [.ref 66] (rm h f len p rl rg (Z 0) (Z 1) (Z 2) (Z 3) (Z 4) (Z 5) tm td (Y 0) (Y 1) (Y 2) (Y 3) (Y 4) (Y 5)) (some (.retAddr b), (rm h f len (at') (rl') (rg') (Z' 0) (Z' 1) (Z' 2) (Z' 3) (Z' 4) (Z' 5) tm (td') (Y' 0) (Y' 1) (Y' 2) (Y' 3) (Y' 4) (Y' 5)))) ∧ rd_im (rd_c tm len) len p (am_ag tm p) Z Y rl rg b at' td' rl' rg' Z' Y' ∧ b < 2 := by
  have nl : ∀ ch, am_ag tm p = ch → (ch < 98 ∨ 119 < ch ∨ ch = 99 ∨ ch = 100 ∨ ch = 101 ∨ (104 ≤ ch ∧ ch ≤ 108) ∨ (111 ≤ ch ∧ ch ≤ 114) ∨ ch = 116 ∨ ch = 118) → (∀ (h : am_H) (f : Nat → Value), rm_ok h → am_EG mi_136 [.ref 66] (rm h f len p rl rg (Z 0) (Z 1) (Z 2) (Z 3) (Z 4) (Z 5) tm td (Y 0) (Y 1) (Y 2) (Y 3) (Y 4) (Y 5)) (some (.retAddr 0), (rm h f len (p + 1) rl rg (Z 0) (Z 1) (Z 2) (Z 3) (Z 4) (Z 5) tm td (Y 0) (Y 1) (Y 2) (Y 3) (Y 4) (Y 5)))) → ∃ b at' td' rl' rg' Z' Y', (∀ (h : am_H) (f : Nat → Value), rm_ok h → am_EG mi_136 [.ref 66] (rm h f len p rl rg (Z 0) (Z 1) (Z 2) (Z 3) (Z 4) (Z 5) tm td (Y 0) (Y 1) (Y 2) (Y 3) (Y 4) (Y 5)) (some (.retAddr b), (rm h f len (at') (rl') (rg') (Z' 0) (Z' 1) (Z' 2) (Z' 3) (Z' 4) (Z' 5) tm (td') (Y' 0) (Y' 1) (Y' 2) (Y' 3) (Y' 4) (Y' 5)))) ∧ rd_im (rd_c tm len) len p (am_ag tm p) Z Y rl rg b at' td' rl' rg' Z' Y' ∧ b < 2 := fun ch hch hl e =>
    ⟨0, p + 1, td, rl, rg, Z, Y, e, ⟨Or.inr ⟨rfl, fun n h1 h2 hA hok => rd_no_let (by rw [hch]; exact hl) hok, rfl, rfl, rfl, rfl⟩, h5, by omega⟩, by decide⟩
  by_cases h1 : am_ag tm p < 98 ∨ 119 < am_ag tm p
  · exact nl _ rfl (by omega) (fun h f hH => m_rout hH hlen hp h1)
  · obtain ⟨k, hk⟩ : ∃ k, am_ag tm p = 98 + k := ⟨am_ag tm p - 98, by omega⟩
    have h3 : k < 22 := by omega
    match k, h3, hk with
    | 0, _, hk => exact m_it_98 hlen h126 hp hZ h5 hk
    | 1, _, hk => exact nl 99 hk (by omega) (fun h f hH => m_r99 hH hlen hp hk)
    | 2, _, hk => exact nl 100 hk (by omega) (fun h f hH => m_r100 hH hlen hp hk)
    | 3, _, hk => exact nl 101 hk (by omega) (fun h f hH => m_r101 hH hlen hp hk)
    | 4, _, hk => exact m_it_102 hlen h126 hp hZ h5 hk
    | 5, _, hk => exact m_it_103 hlen h126 hp hZ h5 hk
    | 6, _, hk => exact nl 104 hk (by omega) (fun h f hH => m_r104 hH hlen hp hk)
    | 7, _, hk => exact nl 105 hk (by omega) (fun h f hH => m_r105 hH hlen hp hk)
    | 8, _, hk => exact nl 106 hk (by omega) (fun h f hH => m_r106 hH hlen hp hk)
    | 9, _, hk => exact nl 107 hk (by omega) (fun h f hH => m_r107 hH hlen hp hk)
    | 10, _, hk => exact nl 108 hk (by omega) (fun h f hH => m_r108 hH hlen hp hk)
    | 11, _, hk => exact m_it_109 hlen h126 hp hZ h5 hk
    | 12, _, hk => exact m_it_110 hlen h126 hp hZ h5 hk
    | 13, _, hk => exact nl 111 hk (by omega) (fun h f hH => m_r111 hH hlen hp hk)
    | 14, _, hk => exact nl 112 hk (by omega) (fun h f hH => m_r112 hH hlen hp hk)
    | 15, _, hk => exact nl 113 hk (by omega) (fun h f hH => m_r113 hH hlen hp hk)
    | 16, _, hk => exact nl 114 hk (by omega) (fun h f hH => m_r114 hH hlen hp hk)
    | 17, _, hk => exact m_it_115 hlen h126 hp hZ h5 hk
    | 18, _, hk => exact nl 116 hk (by omega) (fun h f hH => m_r116 hH hlen hp hk)
    | 19, _, hk => exact m_it_117 hlen h126 hp hZ h5 hk
    | 20, _, hk => exact nl 118 hk (by omega) (fun h f hH => m_r118 hH hlen hp hk)
    | 21, _, hk => exact m_it_119 hlen h126 hp hZ h5 hk
    | k + 22, h3, _ => exact absurd h3 (by omega)
