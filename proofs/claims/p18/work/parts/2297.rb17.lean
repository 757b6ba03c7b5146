/-! ===== both readers, evening 17 ===== -/
theorem x17_rnum {h : am_H} {tx N nr mi go z1 c1 z2 c2 z3 c3 z4 c4 z5 c5 z6 c6 : Nat} (hH : rx17_ok h) {len fr : Nat} (hch : ∀ i, i < 200 → am_ag tx i < 65536) (hlen : len ≤ 200) (hfr : fr ≤ len) (h5 : ∀ j, j < 5 → am_ag nr j ≤ 99) (hN1 : 1 ≤ N) (hN5 : N ≤ 5) : ∃ res nr' N', am_EG mi_17 [.ref 2, .ref 1, .retAddr len, .retAddr fr] (rx17 h tx N nr mi go z1 c1 z2 c2 z3 c3 z4 c4 z5 c5 z6 c6) (some (.retAddr res), (rx17 h tx (N') (nr') mi go z1 c1 z2 c2 z3 c3 z4 c4 z5 c5 z6 c6)) ∧ rd_rx (rd_c tx len) fr res nr' N' := by
  obtain ⟨res, nr', N', q, g⟩ := x17_nl (fr := fr) (mi := mi) (go := go) (z1 := z1) (c1 := c1) (z2 := z2) (c2 := c2) (z3 := z3) (c3 := c3) (z4 := z4) (c4 := c4) (z5 := z5) (c5 := c5) (z6 := z6) (c6 := c6) hH hch hlen hfr 5 0 nr N none none (by omega) hfr (fun j hj => absurd hj (Nat.not_lt_zero _)) h5 hN1 hN5
  refine ⟨res, nr', N', ?_, g⟩
  refine am_enter (n := 4) tk_17.2.1 (by simp [Value.category]) (Nat.le_of_ble_eq_true rfl) ?_
  show am_Good mi_17 0 [some (.ref 2), some (.ref 1), some (.retAddr len), some (.retAddr fr), none, none, none, none] [] (rx17 h tx N nr mi go z1 c1 z2 c2 z3 c3 z4 c4 z5 c5 z6 c6) _
  refine g_iload_n (i := 3) dd_17_0 rfl ?_
  refine g_istore dd_17_1 (am_nlb_ok rfl) (by decide) ?_
  refine g_iconst dd_17_3 ic_0 ?_
  refine g_istore dd_17_4 (am_nlb_ok rfl) (by decide) ?_
  exact q
theorem x17_join {h : am_H} {tx tm len : Nat} (hX : rx17_ok h) (hlen : len ≤ 200) (hch : ∀ i, i < 200 → am_ag tx i < 65536) (h126 : ∀ i, i < 200 → am_ag tm i ≤ 126) (hc : ∀ i, i < len → am_ag tx i = am_ag tm i) : ∀ (r p mi go N nr td : Nat) (Z X Y : Nat → Nat) (v6 v1 : Option Value), len ≤ p + r → p ≤ len → rd_V mi go N nr td Z X Y → ∃ res mi' go' N' nr' td' at' Z' X' Y', am_Good mi_13 15 [some (.ref 2), some (.ref 1), some (.retAddr len), some (.ref 17), some (.retAddr len), some (.retAddr p), v6] [] (rx17 h tx N nr mi go (Z 0) (X 0) (Z 1) (X 1) (Z 2) (X 2) (Z 3) (X 3) (Z 4) (X 4) (Z 5) (X 5)) (some (.retAddr res), (rx17 h tx (N') (nr') (mi') (go') (Z' 0) (X' 0) (Z' 1) (X' 1) (Z' 2) (X' 2) (Z' 3) (X' 3) (Z' 4) (X' 4) (Z' 5) (X' 5))) ∧ (∀ (g : am_H) (f : Nat → Value), rm_ok g → am_Good mi_135 46 [some (.ref 66), v1] [] (rm g f len p mi go (Z 0) (Z 1) (Z 2) (Z 3) (Z 4) (Z 5) tm td (Y 0) (Y 1) (Y 2) (Y 3) (Y 4) (Y 5)) (some (.retAddr res), (rm g f len (at') (mi') (go') (Z' 0) (Z' 1) (Z' 2) (Z' 3) (Z' 4) (Z' 5) tm (td') (Y' 0) (Y' 1) (Y' 2) (Y' 3) (Y' 4) (Y' 5)))) ∧ rd_V mi' go' N' nr' td' Z' X' Y' ∧ at' ≤ len := by
  intro r
  induction r with
  | zero =>
    intro p mi go N nr td Z X Y v6 v1 h1 h2 hV
    have e : p = len := by omega
    exact ⟨_, mi, go, N, nr, td, p, Z, X, Y, x17_re hX hlen e, fun g f hM => m_fe hM hlen e, hV, h2⟩
  | succ r ih =>
    intro p mi go N nr td Z X Y v6 v1 h1 h2 hV
    by_cases hp : p < len
    case neg =>
      have e : p = len := by omega
      exact ⟨_, mi, go, N, nr, td, p, Z, X, Y, x17_re hX hlen e, fun g f hM => m_fe hM hlen e, hV, h2⟩
    have hV0 := hV
    obtain ⟨⟨v1_, v2_, v3_, v4_, v5_⟩, hn, ht, hZ, -⟩ := hV0
    obtain ⟨res, nr', N', e1, ⟨g1a, g1n, g1N1, g1N5⟩⟩ := x17_rnum (tx := tx) (N := N) (nr := nr) (mi := mi) (go := go) (z1 := Z 0) (c1 := X 0) (z2 := Z 1) (c2 := X 1) (z3 := Z 2) (c3 := X 2) (z4 := Z 3) (c4 := X 3) (z5 := Z 4) (c5 := X 4) (z6 := Z 5) (c6 := X 5) hX hch hlen (fr := p + 1) (by omega) hn v4_ v5_
    obtain ⟨b, at', td', rl', rg', Z', Y', e2, ⟨g2a, g2t, g2l⟩, hb⟩ := m_item (rl := mi) (rg := go) (Y := Y) hlen h126 hp hZ ht
    have ec : rd_c tx len = rd_c tm len := rd_c_eq hc
    have ech : am_ag tx p = am_ag tm p := hc p hp
    rw [ec] at g1a
    rcases g2a with ⟨rfl, n, n1, n5, nA, nok, rfl, nv, rfl, rfl, rfl, rfl⟩ | ⟨rfl, nno, rfl, rfl, rfl, rfl⟩
    · rcases g1a with ⟨-, g1no⟩ | ⟨-, -, gA, gres, gv⟩
      · exact absurd nA (g1no n n1 n5)
      · have eN : N' = n := rd_A_uniq g1N1 n1 gA nA
        subst eN
        have he : ∀ j, j < N' → am_ag nr' j = am_ag td' j := fun j hj => (gv j hj).trans (nv j hj).symm
        have hk : rd_ok (am_ag tm p) N' (am_ag nr') Z := rd_ok_congr (fun j hj => (he j hj).symm) nok
        have e0 := he 0 (by omega)
        simp only [← e0] at e2
        have hT := x17_tk1 (h := h) (tx := tx) (mi := mi) (go := go) (X := X) hX g1N5 g1n hZ hk
        rw [← ech] at hT
        have hV2 := rd_V_item hV hk he g1N1 g1N5 g1n g2t
        have gt := rd_ps_gt (rd_c tm len) (p + 1) N'
        obtain ⟨res2, mi2, go2, N2, nr2, td2, at2, Z2, X2, Y2, k1, k2, k3, k4⟩ := ih (rd_ps (rd_c tm len) (p + 1) N') _ _ _ _ _ _ _ _ (some (.retAddr (rd_ps (rd_c tm len) (p + 1) N'))) (some (.retAddr p)) (by omega) g2l hV2
        subst gres
        rw [← ech] at k1
        exact ⟨res2, mi2, go2, N2, nr2, td2, at2, Z2, X2, Y2, x17_ry hX hlen hp e1 ⟨by omega, by omega⟩ hT k1, fun g f hM => m_fy hM hlen hp (e2 g f hM) (k2 g f hM), k3, k4⟩
    · have hV2 : rd_V rl' rg' N' nr' td' Z' X Y' := ⟨⟨v1_, v2_, v3_, g1N1, g1N5⟩, g1n, g2t, hV.2.2.2⟩
      rcases g1a with ⟨g1r, -⟩ | ⟨-, -, gA, gres, gv⟩
      · exact ⟨p, rl', rg', N', nr', td', at', Z', X, Y', x17_rb hX hlen hp e1 g1r, fun g f hM => m_fb hM hlen hp (e2 g f hM), hV2, g2l⟩
      · have hno : ¬ rd_ok (am_ag tm p) N' (am_ag nr') Z' := fun hk => nno N' g1N1 g1N5 gA (rd_ok_congr gv hk)
        have hT := x17_tk0 (h := h) (tx := tx) (mi := rl') (go := rg') (X := X) hX g1N5 g1n hZ (by have := hch p (by omega); omega) hno
        rw [← ech] at hT
        have gt := rd_ps_gt (rd_c tm len) (p + 1) N'
        have gl : rd_ps (rd_c tm len) (p + 1) N' ≤ len := by
          have q := rd_Q_sp (tx := tm) (len := len) (sep := 59) (by decide) gA.2
          rw [show N' - 1 + 1 = N' by omega] at q
          exact q
        subst gres
        exact ⟨p, rl', rg', N', nr', td', at', Z', X, Y', x17_rn hX hlen hp e1 ⟨by omega, by omega⟩ hT, fun g f hM => m_fb hM hlen hp (e2 g f hM), hV2, g2l⟩
/-- both readers answer alike -/
theorem x17_both {h : am_H} {tx tm len N nr mi go td : Nat} {Z X Y : Nat → Nat} (hX : rx17_ok h) (hlen : len ≤ 200) (hch : ∀ i, i < 200 → am_ag tx i < 65536) (h126 : ∀ i, i < 200 → am_ag tm i ≤ 126) (hc : ∀ i, i < len → am_ag tx i = am_ag tm i) (hV : rd_V 30 1 N nr td (fun _ => 0) X Y) : ∃ res mi' go' N' nr' td' at' Z' X' Y', am_EG mi_13 [.ref 2, .ref 1, .retAddr len, .ref 17] (rx17 h tx N nr mi go (Z 0) (X 0) (Z 1) (X 1) (Z 2) (X 2) (Z 3) (X 3) (Z 4) (X 4) (Z 5) (X 5)) (some (.retAddr res), (rx17 h tx (N') (nr') (mi') (go') (Z' 0) (X' 0) (Z' 1) (X' 1) (Z' 2) (X' 2) (Z' 3) (X' 3) (Z' 4) (X' 4) (Z' 5) (X' 5))) ∧ (∀ (g : am_H) (f : Nat → Value) (at_ rl rg : Nat) (Zm : Nat → Nat), rm_ok g → am_EG mi_135 [.ref 66] (rm g f len at_ rl rg (Zm 0) (Zm 1) (Zm 2) (Zm 3) (Zm 4) (Zm 5) tm td (Y 0) (Y 1) (Y 2) (Y 3) (Y 4) (Y 5)) (some (.retAddr res), (rm g f len (at') (mi') (go') (Z' 0) (Z' 1) (Z' 2) (Z' 3) (Z' 4) (Z' 5) tm (td') (Y' 0) (Y' 1) (Y' 2) (Y' 3) (Y' 4) (Y' 5)))) ∧ rd_V mi' go' N' nr' td' Z' X' Y' ∧ at' ≤ len := by
  obtain ⟨res, mi', go', N', nr', td', at', Z', X', Y', k1, k2, k3, k4⟩ := x17_join hX hlen hch h126 hc len 0 30 1 N nr td (fun _ => 0) X Y none none (by omega) (Nat.zero_le _) hV
  exact ⟨res, mi', go', N', nr', td', at', Z', X', Y', x17_r0 hX hlen k1, fun g f at_ rl rg Zm hM => m_f0 hM (k2 g f hM), k3, k4⟩
