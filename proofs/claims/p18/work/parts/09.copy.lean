/-! ===== rule: System.arraycopy of ints ===== -/
theorem g_acopy {M : am_MI} {pc idx a a0 n n0 n1 c0 c1 sp dp : Nat} {L : am_L} {st : List Value} {h : am_H} {r : am_R} (hl : Cond.methodLink M.1.cls idx arraycopyName ∈ am_tbl) (hnat : Cond.native arraycopyName ∈ am_tbl) (hst : Cond.static arraycopyName ∈ am_tbl) (hini : Cond.initialized "java/lang/System" ∈ am_tbl) (hR : 1 ≤ M.2.2.2.2.1 ∧ 26 ≤ M.2.2.2.2.2) (hcat : (st.map fun v => v.category).sum ≤ 8) (hd : decode M.2.1 pc = .ok (.invokestatic idx, 3)) (h0 : am_get h a0 = some (.inl (0, n0, c0))) (h1 : am_get h a = some (.inl (0, n1, c1))) (hs : sp + n ≤ n0) (ht : dp + n ≤ n1) (hb0 : n0 < 2147483648) (hb1 : n1 < 2147483648) (hg : am_Good M (pc + 3) L st (am_upd h a (.inl (0, n1, am_cp c0 c1 sp dp n))) r) : am_Good M pc L (.retAddr n :: .retAddr dp :: .ref a :: .retAddr sp :: .ref a0 :: st) h r := by
  refine am_Good.put hg fun p l e R s m args below meth c B N0 S0 D dA H locs ls Q X kk => ?_
  obtain ⟨⟨hx, hb, hml, hown, hts, hlk, hr, hnm⟩, ⟨xf, xl, xc, xs⟩, ⟨xn, xt, xB⟩, hK, hw, hS, hL⟩ := X
  have hcat2 : ((st.map (am_v B)).map fun v => v.category).sum ≤ 8 := by rw [List.map_map]; simp only [Function.comp_def, am_v_cat]; exact hcat
  intro T hT ST
  have hc0 : H[B + a0]? = some (vp_cell (dA 0) (n0, .inl (fun j => Int32.ofNat (am_ag c0 j)))) := hw.2 a0 _ h0
  have hc1 : H[B + a]? = some (vp_cell (dA 0) (n1, .inl (fun j => Int32.ofNat (am_ag c1 j)))) := hw.2 a _ h1
  obtain ⟨-, k0, hk0, cm0, hkk0⟩ := (hK.1.2 0 _ rfl).1 n0 (fun j => .int (Int32.ofNat (am_ag c0 j)))
  have q1 : ¬ Int32.ofNat sp < 0 := an_nonneg (by omega)
  have q2 : ¬ Int32.ofNat dp < 0 := an_nonneg (by omega)
  have q3 : ¬ Int32.ofNat n < 0 := an_nonneg (by omega)
  have z1 : (Int32.ofNat sp).toNatClampNeg = sp := an_clamp (by omega)
  have z2 : (Int32.ofNat dp).toNatClampNeg = dp := an_clamp (by omega)
  have z3 : (Int32.ofNat n).toNatClampNeg = n := an_clamp (by omega)
  have y1 : (Int32.ofNat sp).toInt = sp := an_toIntS (by omega)
  have y2 : (Int32.ofNat dp).toInt = dp := an_toIntS (by omega)
  have y3 : (Int32.ofNat n).toInt = n := an_toIntS (by omega)
  obtain ⟨vm', X', step⟩ := ST.arraycopy hx hown (hts _ hl) (hts _ hnat) (hts _ hst) (hts _ hini) (src := B + a0) (dst := B + a) (cs := vp_cell (dA 0) (n0, .inl (fun j => Int32.ofNat (am_ag c0 j)))) (cd := vp_cell (dA 0) (n1, .inl (fun j => Int32.ofNat (am_ag c1 j)))) (srcPos := Int32.ofNat sp) (destPos := Int32.ofNat dp) (n := Int32.ofNat n) (by rw [hT]; exact hc0) (by rw [hT]; exact hc1)
    (fun _ h => by cases h) (fun _ h => by cases h) (fun h => by cases h) (fun h => by cases h) hk0 hk0 hkk0 hkk0 (by rfl) q1 q2 q3
    (by rw [y1, y3]; show ¬ _ > ((arrV (dA 0) n0 (fun j => .int (Int32.ofNat (am_ag c0 j)))).slots.size : Int); rw [arrV_size]; omega)
    (by rw [y2, y3]; show ¬ _ > ((arrV (dA 0) n1 (fun j => .int (Int32.ofNat (am_ag c1 j)))).slots.size : Int); rw [arrV_size]; omega)
    (fun vm₁ _ i hi => by
      rw [z3] at hi
      have e : (vp_cell (dA 0) (n0, .inl (fun j => Int32.ofNat (am_ag c0 j)))).slots.getD ((Int32.ofNat sp).toNatClampNeg + i) .null = .int (Int32.ofNat (am_ag c0 (sp + i))) := by
        show (arrV (dA 0) n0 (fun j => .int (Int32.ofNat (am_ag c0 j)))).slots.getD _ _ = _
        rw [z1, Array.getD_eq_getD_getElem?, arrV_read _ _ (by omega)]
        rfl
      refine ⟨?_, ?_⟩
      · rw [e]
        rfl
      · rw [e]
        exact trivial)
    (g := F0 m pc ls (.int (Int32.ofNat n) :: .int (Int32.ofNat dp) :: .ref (B + a) :: .int (Int32.ofNat sp) :: .ref (B + a0) :: st.map (am_v B))) rfl (by rw [hml]; exact hL.1) (rest := st.map (am_v B)) rfl (by rw [hb]; exact hd) (by rw [xf]; exact hR.1) (by have w : nativeFrameWords "java/lang/System" "arraycopy" 5 = 7 := (by decide); have := hR.2; show 2 * 0 + _ + _ ≤ _; rw [xl]; first | omega | (rw [w]; omega))
  have e1 : copied (vp_cell (dA 0) (n0, .inl (fun j => Int32.ofNat (am_ag c0 j)))) (vp_cell (dA 0) (n1, .inl (fun j => Int32.ofNat (am_ag c1 j)))) (Int32.ofNat sp) (Int32.ofNat dp) (Int32.ofNat n) = vp_cell (dA 0) (n1, .inl (fun j => Int32.ofNat (am_ag (am_cp c0 c1 sp dp n) j))) := by
    have e0 : copied (vp_cell (dA 0) (n0, .inl (fun j => Int32.ofNat (am_ag c0 j)))) (vp_cell (dA 0) (n1, .inl (fun j => Int32.ofNat (am_ag c1 j)))) (Int32.ofNat sp) (Int32.ofNat dp) (Int32.ofNat n) = vp_cell (dA 0) (n1, .inl (va_cpy (fun j => Int32.ofNat (am_ag c0 j)) (fun j => Int32.ofNat (am_ag c1 j)) (Int32.ofNat sp).toNatClampNeg (Int32.ofNat dp).toNatClampNeg (Int32.ofNat n).toNatClampNeg)) := va_copied (fun z => .int z) (dA 0) (dA 0) (fun j => Int32.ofNat (am_ag c0 j)) (fun j => Int32.ofNat (am_ag c1 j)) (by rw [z1, z3]; exact hs)
    rw [e0, z1, z2, z3]
    congr 3
    funext j
    rw [am_ag_cp]
    unfold va_cpy
    by_cases hj : dp ≤ j ∧ j < dp + n
    · rw [if_pos hj, if_pos hj]
    · rw [if_neg hj, if_neg hj]
  rw [e1] at X' step
  have hl : B + a < H.size := (Array.getElem?_eq_some_iff.mp hc1).1
  have hheap : ((T.setVm vm').setCell (B + a) (vp_cell (dA 0) (n1, .inl (fun j => Int32.ofNat (am_ag (am_cp c0 c1 sp dp n) j))))).heap = H.setIfInBounds (B + a) (vp_cell (dA 0) (n1, .inl (fun j => Int32.ofNat (am_ag (am_cp c0 c1 sp dp n) j)))) := by rw [← hT]; rfl
  have oq : ∀ q : Nat, q ≠ B + a → (H.setIfInBounds (B + a) (vp_cell (dA 0) (n1, .inl (fun j => Int32.ofNat (am_ag (am_cp c0 c1 sp dp n) j)))))[q]? = H[q]? := fun q hq => by simp [Array.getElem?_setIfInBounds, Ne.symm hq]
  obtain ⟨t, a1, b1⟩ := kk _ _ (hw.upd (e := .inl (0, n1, am_cp c0 c1 sp dp n)) h1 (show (H.setIfInBounds (B + a) _)[B + a]? = some _ by simp [Array.getElem?_setIfInBounds, hl]) (by simp) oq) ⟨by simp; exact hS.1, fun q g1 g2 => by
      rw [oq q (fun e => g2 (by rw [e]; exact Nat.le_add_right _ _))]
      exact hS.2.1 q g1 g2, fun q hq => by
      rcases List.mem_append.mp hq with h | h
      · exact hS.2.2 q h
      · obtain ⟨z, -, hz⟩ := List.mem_map.mp h
        rw [← hz]
        exact Nat.le_add_right _ _⟩ _ hheap X'
  exact ⟨t, step t a1, b1⟩
