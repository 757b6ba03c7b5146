theorem wx_14 : (Jvm.Cond.initialized "java/lang/String") ∈ am_tbl := am_tbl_t (List.mem_append_left _ (List.mem_of_getElem? (l := tables_1_1) (i := 14) rfl)) rfl
/-! ===== the first text at the law's entry ===== -/
theorem lw_sx {s : State} {b : Nat} (hts : ∀ w ∈ lw_tbl, w.before #[Value.ref b] s = true) (hgv : (Jvm.Cond.and given_1 narrow_1).before #[Value.ref b] s = true) : am_Sx s.heap.size s := by
  have hs := flat_of_before _ hgv
  have hA : ∀ a : Nat, a < s.heap.size → ¬ (fun q => s.heap.size ≤ q) a := fun a h => Nat.not_le.mpr h
  have h0 : ∀ i : Nat, i < 1 → i = 0 := fun i hi => by omega
  have hel : ∀ j, j < 73 → Cond.eq (.elem (.field (.string "OverAndBack" 104) "java/lang/String" "value" "[B") (.int (Int32.ofNat j))) (.int (am_fby.getD j 0)) ∈ flatC (Jvm.Cond.and given_1 narrow_1) := by decide +kernel
  obtain ⟨adK, adV, h1, h2⟩ := vk_Sof (args := #[Value.ref b]) (s := s) (N := 1) (tm := fun _ => Term.string "OverAndBack" 104) (len := [73]) (byt := [am_fby]) (A := fun q => s.heap.size ≤ q) (by decide)
    (fun i _ => hs _ (by decide +kernel)) (fun i _ => hs _ (by decide +kernel)) (fun i _ => hs _ (by decide +kernel))
    (fun i hi => by rw [h0 i hi]; exact hs _ (by decide +kernel)) (fun i hi j hj => by rw [h0 i hi] at hj ⊢; exact hs _ (hel j hj)) (fun i j hi hj hn => absurd ((h0 i hi).trans (h0 j hj).symm) hn) hA
  refine ⟨adK, adV, vk_R.of (A := #[Value.ref b]) (hts _ (List.mem_append_right _ (List.mem_append_right _ (List.mem_append_left _ (List.mem_of_getElem? (l := tables_1_2) (i := 94) rfl))))) (h2 0 (by decide)), h1, ?_⟩
  exact va_Zof (args := #[Value.ref b]) (hts _ (List.mem_append_right _ (List.mem_append_right _ (List.mem_append_left _ (List.mem_of_getElem? (l := tables_1_2) (i := 104) rfl))))) (hts _ (am_tbl_in wx_14)) (va_eqt (hs _ (by decide +kernel))) hA
