/-! ===== begin, over, undo of the reference ===== -/
theorem rq_begin_0 : ax_ck (fun e => ax_is e && (jq_p 1 0 0 [0, 1, 2, 3, 4, 5, 6, 7] e || jq_p 1 1 0 [8, 1, 2, 3, 4, 5, 6, 7] e)) (ax_evd (ax_tab mb) 9 176 [.ref 66, .retAddr (4294967296 + 0)] (jq_X 1 0 [(0, 9)] (fun _ => jq_A))) = true := by decide +kernel
theorem rq_begin_1 : ax_ck (fun e => ax_is e && (jq_p 1 1 0 [0, 1, 2, 3, 4, 5, 6, 7] e || jq_p 1 2 0 [0, 8, 2, 3, 4, 5, 6, 7] e)) (ax_evd (ax_tab mb) 9 176 [.ref 66, .retAddr (4294967296 + 0)] (jq_X 1 1 [(0, 9)] (fun _ => jq_A))) = true := by decide +kernel
theorem rq_begin_2 : ax_ck (fun e => ax_is e && (jq_p 1 2 0 [0, 1, 2, 3, 4, 5, 6, 7] e || jq_p 1 3 0 [0, 1, 8, 3, 4, 5, 6, 7] e)) (ax_evd (ax_tab mb) 9 176 [.ref 66, .retAddr (4294967296 + 0)] (jq_X 1 2 [(0, 9)] (fun _ => jq_A))) = true := by decide +kernel
theorem rq_begin_3 : ax_ck (fun e => ax_is e && (jq_p 1 3 0 [0, 1, 2, 3, 4, 5, 6, 7] e || jq_p 1 4 0 [0, 1, 2, 8, 4, 5, 6, 7] e)) (ax_evd (ax_tab mb) 9 176 [.ref 66, .retAddr (4294967296 + 0)] (jq_X 1 3 [(0, 9)] (fun _ => jq_A))) = true := by decide +kernel
theorem rq_begin_4 : ax_ck (fun e => ax_is e && (jq_p 1 4 0 [0, 1, 2, 3, 4, 5, 6, 7] e || jq_p 1 5 0 [0, 1, 2, 3, 8, 5, 6, 7] e)) (ax_evd (ax_tab mb) 9 176 [.ref 66, .retAddr (4294967296 + 0)] (jq_X 1 4 [(0, 9)] (fun _ => jq_A))) = true := by decide +kernel
theorem rq_begin_5 : ax_ck (fun e => ax_is e && (jq_p 1 5 0 [0, 1, 2, 3, 4, 5, 6, 7] e || jq_p 1 6 0 [0, 1, 2, 3, 4, 8, 6, 7] e)) (ax_evd (ax_tab mb) 9 176 [.ref 66, .retAddr (4294967296 + 0)] (jq_X 1 5 [(0, 9)] (fun _ => jq_A))) = true := by decide +kernel
theorem rq_begin_6 : ax_ck (fun e => ax_is e && (jq_p 1 6 0 [0, 1, 2, 3, 4, 5, 6, 7] e || jq_p 1 7 0 [0, 1, 2, 3, 4, 5, 8, 7] e)) (ax_evd (ax_tab mb) 9 176 [.ref 66, .retAddr (4294967296 + 0)] (jq_X 1 6 [(0, 9)] (fun _ => jq_A))) = true := by decide +kernel
theorem rq_begin_7 : ax_ck (fun e => ax_is e && (jq_p 1 7 0 [0, 1, 2, 3, 4, 5, 6, 7] e || jq_p 1 8 0 [0, 1, 2, 3, 4, 5, 6, 8] e)) (ax_evd (ax_tab mb) 9 176 [.ref 66, .retAddr (4294967296 + 0)] (jq_X 1 7 [(0, 9)] (fun _ => jq_A))) = true := by decide +kernel
theorem rq_begin_8 : ax_ck (fun e => ax_is e && (jq_p 1 8 0 [0, 1, 2, 3, 4, 5, 6, 7] e || jq_p 1 8 0 [1, 2, 3, 4, 5, 6, 7, 8] e)) (ax_evd (ax_tab mb) 9 176 [.ref 66, .retAddr (4294967296 + 0)] (jq_X 1 8 [(0, 9)] (fun _ => jq_A))) = true := by decide +kernel
theorem jm_begin (u : Nat) (hu : u < 4294967296) (h : am_H) (hJ : Jv h) : ∃ n h', am_EG (am_mi 176) [.ref 66, .retAddr u] h (some (.retAddr n), h') ∧ Jv h' ∧ h'.1 = h.1 ∧ h'.2.1 = h.2.1 := by
  obtain ⟨a, g, x, q1, q2, q3, q4, q5, q6, q7⟩ := jq_in hJ.1.2 hJ.2.2
  have hG : ax_in g [(0, 9)] := ax_in_1 (by omega) (Nat.zero_le _) q6
  have hI := (ax_I_to st_mb).mp hJ.1.2
  match a, q5 with
  | 0, _ =>
    obtain ⟨en, hp, ρ', r0, -, v, h', r1, r2, r3, r4⟩ := ax_run (ax_tab_ok mb) rq_begin_0 (ρ := jq_r 1 (fun _ => u) g x) (vs := [.ref 66, .retAddr u]) (ax_rs.c ax_rvr (ax_rs.c (ax_rvi (by decide) (by rw [ax_vl_i]; exact Nat.mod_eq_of_lt hu)) trivial)) (jq_X_ok hI (by decide) q1 q2 q3 hG q7)
    rw [Bool.and_eq_true, Bool.or_eq_true] at hp
    obtain ⟨hi, hp⟩ := hp
    obtain ⟨n, -, rfl⟩ := ax_is_ok hi r2
    refine ⟨_, h', r1, jq_b hJ r3.2.2.2.2 r4 ?_, r4.1, r4.2.1⟩
    rcases hp with hp | hp
    · exact jq_same q4 (Nat.le_refl _) (by decide) (jq_F_ok (ns := [0, 1, 2, 3, 4, 5, 6, 7]) (by decide) (by decide) r3 r0 hp)
    · exact jq_push q4 q6 (by decide) rfl (Or.inl ⟨rfl, rfl⟩) (jq_F_ok (ns := [8, 1, 2, 3, 4, 5, 6, 7]) (by decide) (by decide) r3 r0 hp)
  | 1, _ =>
    obtain ⟨en, hp, ρ', r0, -, v, h', r1, r2, r3, r4⟩ := ax_run (ax_tab_ok mb) rq_begin_1 (ρ := jq_r 1 (fun _ => u) g x) (vs := [.ref 66, .retAddr u]) (ax_rs.c ax_rvr (ax_rs.c (ax_rvi (by decide) (by rw [ax_vl_i]; exact Nat.mod_eq_of_lt hu)) trivial)) (jq_X_ok hI (by decide) q1 q2 q3 hG q7)
    rw [Bool.and_eq_true, Bool.or_eq_true] at hp
    obtain ⟨hi, hp⟩ := hp
    obtain ⟨n, -, rfl⟩ := ax_is_ok hi r2
    refine ⟨_, h', r1, jq_b hJ r3.2.2.2.2 r4 ?_, r4.1, r4.2.1⟩
    rcases hp with hp | hp
    · exact jq_same q4 (Nat.le_refl _) (by decide) (jq_F_ok (ns := [0, 1, 2, 3, 4, 5, 6, 7]) (by decide) (by decide) r3 r0 hp)
    · exact jq_push q4 q6 (by decide) rfl (Or.inl ⟨rfl, rfl⟩) (jq_F_ok (ns := [0, 8, 2, 3, 4, 5, 6, 7]) (by decide) (by decide) r3 r0 hp)
  | 2, _ =>
    obtain ⟨en, hp, ρ', r0, -, v, h', r1, r2, r3, r4⟩ := ax_run (ax_tab_ok mb) rq_begin_2 (ρ := jq_r 1 (fun _ => u) g x) (vs := [.ref 66, .retAddr u]) (ax_rs.c ax_rvr (ax_rs.c (ax_rvi (by decide) (by rw [ax_vl_i]; exact Nat.mod_eq_of_lt hu)) trivial)) (jq_X_ok hI (by decide) q1 q2 q3 hG q7)
    rw [Bool.and_eq_true, Bool.or_eq_true] at hp
    obtain ⟨hi, hp⟩ := hp
    obtain ⟨n, -, rfl⟩ := ax_is_ok hi r2
    refine ⟨_, h', r1, jq_b hJ r3.2.2.2.2 r4 ?_, r4.1, r4.2.1⟩
    rcases hp with hp | hp
    · exact jq_same q4 (Nat.le_refl _) (by decide) (jq_F_ok (ns := [0, 1, 2, 3, 4, 5, 6, 7]) (by decide) (by decide) r3 r0 hp)
    · exact jq_push q4 q6 (by decide) rfl (Or.inl ⟨rfl, rfl⟩) (jq_F_ok (ns := [0, 1, 8, 3, 4, 5, 6, 7]) (by decide) (by decide) r3 r0 hp)
  | 3, _ =>
    obtain ⟨en, hp, ρ', r0, -, v, h', r1, r2, r3, r4⟩ := ax_run (ax_tab_ok mb) rq_begin_3 (ρ := jq_r 1 (fun _ => u) g x) (vs := [.ref 66, .retAddr u]) (ax_rs.c ax_rvr (ax_rs.c (ax_rvi (by decide) (by rw [ax_vl_i]; exact Nat.mod_eq_of_lt hu)) trivial)) (jq_X_ok hI (by decide) q1 q2 q3 hG q7)
    rw [Bool.and_eq_true, Bool.or_eq_true] at hp
    obtain ⟨hi, hp⟩ := hp
    obtain ⟨n, -, rfl⟩ := ax_is_ok hi r2
    refine ⟨_, h', r1, jq_b hJ r3.2.2.2.2 r4 ?_, r4.1, r4.2.1⟩
    rcases hp with hp | hp
    · exact jq_same q4 (Nat.le_refl _) (by decide) (jq_F_ok (ns := [0, 1, 2, 3, 4, 5, 6, 7]) (by decide) (by decide) r3 r0 hp)
    · exact jq_push q4 q6 (by decide) rfl (Or.inl ⟨rfl, rfl⟩) (jq_F_ok (ns := [0, 1, 2, 8, 4, 5, 6, 7]) (by decide) (by decide) r3 r0 hp)
  | 4, _ =>
    obtain ⟨en, hp, ρ', r0, -, v, h', r1, r2, r3, r4⟩ := ax_run (ax_tab_ok mb) rq_begin_4 (ρ := jq_r 1 (fun _ => u) g x) (vs := [.ref 66, .retAddr u]) (ax_rs.c ax_rvr (ax_rs.c (ax_rvi (by decide) (by rw [ax_vl_i]; exact Nat.mod_eq_of_lt hu)) trivial)) (jq_X_ok hI (by decide) q1 q2 q3 hG q7)
    rw [Bool.and_eq_true, Bool.or_eq_true] at hp
    obtain ⟨hi, hp⟩ := hp
    obtain ⟨n, -, rfl⟩ := ax_is_ok hi r2
    refine ⟨_, h', r1, jq_b hJ r3.2.2.2.2 r4 ?_, r4.1, r4.2.1⟩
    rcases hp with hp | hp
    · exact jq_same q4 (Nat.le_refl _) (by decide) (jq_F_ok (ns := [0, 1, 2, 3, 4, 5, 6, 7]) (by decide) (by decide) r3 r0 hp)
    · exact jq_push q4 q6 (by decide) rfl (Or.inl ⟨rfl, rfl⟩) (jq_F_ok (ns := [0, 1, 2, 3, 8, 5, 6, 7]) (by decide) (by decide) r3 r0 hp)
  | 5, _ =>
    obtain ⟨en, hp, ρ', r0, -, v, h', r1, r2, r3, r4⟩ := ax_run (ax_tab_ok mb) rq_begin_5 (ρ := jq_r 1 (fun _ => u) g x) (vs := [.ref 66, .retAddr u]) (ax_rs.c ax_rvr (ax_rs.c (ax_rvi (by decide) (by rw [ax_vl_i]; exact Nat.mod_eq_of_lt hu)) trivial)) (jq_X_ok hI (by decide) q1 q2 q3 hG q7)
    rw [Bool.and_eq_true, Bool.or_eq_true] at hp
    obtain ⟨hi, hp⟩ := hp
    obtain ⟨n, -, rfl⟩ := ax_is_ok hi r2
    refine ⟨_, h', r1, jq_b hJ r3.2.2.2.2 r4 ?_, r4.1, r4.2.1⟩
    rcases hp with hp | hp
    · exact jq_same q4 (Nat.le_refl _) (by decide) (jq_F_ok (ns := [0, 1, 2, 3, 4, 5, 6, 7]) (by decide) (by decide) r3 r0 hp)
    · exact jq_push q4 q6 (by decide) rfl (Or.inl ⟨rfl, rfl⟩) (jq_F_ok (ns := [0, 1, 2, 3, 4, 8, 6, 7]) (by decide) (by decide) r3 r0 hp)
  | 6, _ =>
    obtain ⟨en, hp, ρ', r0, -, v, h', r1, r2, r3, r4⟩ := ax_run (ax_tab_ok mb) rq_begin_6 (ρ := jq_r 1 (fun _ => u) g x) (vs := [.ref 66, .retAddr u]) (ax_rs.c ax_rvr (ax_rs.c (ax_rvi (by decide) (by rw [ax_vl_i]; exact Nat.mod_eq_of_lt hu)) trivial)) (jq_X_ok hI (by decide) q1 q2 q3 hG q7)
    rw [Bool.and_eq_true, Bool.or_eq_true] at hp
    obtain ⟨hi, hp⟩ := hp
    obtain ⟨n, -, rfl⟩ := ax_is_ok hi r2
    refine ⟨_, h', r1, jq_b hJ r3.2.2.2.2 r4 ?_, r4.1, r4.2.1⟩
    rcases hp with hp | hp
    · exact jq_same q4 (Nat.le_refl _) (by decide) (jq_F_ok (ns := [0, 1, 2, 3, 4, 5, 6, 7]) (by decide) (by decide) r3 r0 hp)
    · exact jq_push q4 q6 (by decide) rfl (Or.inl ⟨rfl, rfl⟩) (jq_F_ok (ns := [0, 1, 2, 3, 4, 5, 8, 7]) (by decide) (by decide) r3 r0 hp)
  | 7, _ =>
    obtain ⟨en, hp, ρ', r0, -, v, h', r1, r2, r3, r4⟩ := ax_run (ax_tab_ok mb) rq_begin_7 (ρ := jq_r 1 (fun _ => u) g x) (vs := [.ref 66, .retAddr u]) (ax_rs.c ax_rvr (ax_rs.c (ax_rvi (by decide) (by rw [ax_vl_i]; exact Nat.mod_eq_of_lt hu)) trivial)) (jq_X_ok hI (by decide) q1 q2 q3 hG q7)
    rw [Bool.and_eq_true, Bool.or_eq_true] at hp
    obtain ⟨hi, hp⟩ := hp
    obtain ⟨n, -, rfl⟩ := ax_is_ok hi r2
    refine ⟨_, h', r1, jq_b hJ r3.2.2.2.2 r4 ?_, r4.1, r4.2.1⟩
    rcases hp with hp | hp
    · exact jq_same q4 (Nat.le_refl _) (by decide) (jq_F_ok (ns := [0, 1, 2, 3, 4, 5, 6, 7]) (by decide) (by decide) r3 r0 hp)
    · exact jq_push q4 q6 (by decide) rfl (Or.inl ⟨rfl, rfl⟩) (jq_F_ok (ns := [0, 1, 2, 3, 4, 5, 6, 8]) (by decide) (by decide) r3 r0 hp)
  | 8, _ =>
    obtain ⟨en, hp, ρ', r0, -, v, h', r1, r2, r3, r4⟩ := ax_run (ax_tab_ok mb) rq_begin_8 (ρ := jq_r 1 (fun _ => u) g x) (vs := [.ref 66, .retAddr u]) (ax_rs.c ax_rvr (ax_rs.c (ax_rvi (by decide) (by rw [ax_vl_i]; exact Nat.mod_eq_of_lt hu)) trivial)) (jq_X_ok hI (by decide) q1 q2 q3 hG q7)
    rw [Bool.and_eq_true, Bool.or_eq_true] at hp
    obtain ⟨hi, hp⟩ := hp
    obtain ⟨n, -, rfl⟩ := ax_is_ok hi r2
    refine ⟨_, h', r1, jq_b hJ r3.2.2.2.2 r4 ?_, r4.1, r4.2.1⟩
    rcases hp with hp | hp
    · exact jq_same q4 (Nat.le_refl _) (by decide) (jq_F_ok (ns := [0, 1, 2, 3, 4, 5, 6, 7]) (by decide) (by decide) r3 r0 hp)
    · exact jq_shift q4 q6 (by decide) rfl (Or.inl ⟨rfl, rfl⟩) (jq_F_ok (ns := [1, 2, 3, 4, 5, 6, 7, 8]) (by decide) (by decide) r3 r0 hp)
  | a + 9, h9 => exact absurd h9 (by omega)
theorem rq_over_0 : ax_ck (fun e => ax_is e && (jq_p 2 0 0 [0, 1, 2, 3, 4, 5, 6, 7] e || jq_p 2 1 1 [9, 1, 2, 3, 4, 5, 6, 7] e)) (ax_evd (ax_tab mb) 9 178 [.ref 66, .retAddr (4294967296 + 0), .retAddr (4294967296 + 1)] (jq_X 2 0 [(0, 9)] (fun _ => jq_A))) = true := by decide +kernel
theorem rq_over_1 : ax_ck (fun e => ax_is e && (jq_p 2 1 0 [0, 1, 2, 3, 4, 5, 6, 7] e || jq_p 2 2 1 [0, 9, 2, 3, 4, 5, 6, 7] e)) (ax_evd (ax_tab mb) 9 178 [.ref 66, .retAddr (4294967296 + 0), .retAddr (4294967296 + 1)] (jq_X 2 1 [(0, 9)] (fun _ => jq_A))) = true := by decide +kernel
theorem rq_over_2 : ax_ck (fun e => ax_is e && (jq_p 2 2 0 [0, 1, 2, 3, 4, 5, 6, 7] e || jq_p 2 3 1 [0, 1, 9, 3, 4, 5, 6, 7] e)) (ax_evd (ax_tab mb) 9 178 [.ref 66, .retAddr (4294967296 + 0), .retAddr (4294967296 + 1)] (jq_X 2 2 [(0, 9)] (fun _ => jq_A))) = true := by decide +kernel
theorem rq_over_3 : ax_ck (fun e => ax_is e && (jq_p 2 3 0 [0, 1, 2, 3, 4, 5, 6, 7] e || jq_p 2 4 1 [0, 1, 2, 9, 4, 5, 6, 7] e)) (ax_evd (ax_tab mb) 9 178 [.ref 66, .retAddr (4294967296 + 0), .retAddr (4294967296 + 1)] (jq_X 2 3 [(0, 9)] (fun _ => jq_A))) = true := by decide +kernel
theorem rq_over_4 : ax_ck (fun e => ax_is e && (jq_p 2 4 0 [0, 1, 2, 3, 4, 5, 6, 7] e || jq_p 2 5 1 [0, 1, 2, 3, 9, 5, 6, 7] e)) (ax_evd (ax_tab mb) 9 178 [.ref 66, .retAddr (4294967296 + 0), .retAddr (4294967296 + 1)] (jq_X 2 4 [(0, 9)] (fun _ => jq_A))) = true := by decide +kernel
theorem rq_over_5 : ax_ck (fun e => ax_is e && (jq_p 2 5 0 [0, 1, 2, 3, 4, 5, 6, 7] e || jq_p 2 6 1 [0, 1, 2, 3, 4, 9, 6, 7] e)) (ax_evd (ax_tab mb) 9 178 [.ref 66, .retAddr (4294967296 + 0), .retAddr (4294967296 + 1)] (jq_X 2 5 [(0, 9)] (fun _ => jq_A))) = true := by decide +kernel
theorem rq_over_6 : ax_ck (fun e => ax_is e && (jq_p 2 6 0 [0, 1, 2, 3, 4, 5, 6, 7] e || jq_p 2 7 1 [0, 1, 2, 3, 4, 5, 9, 7] e)) (ax_evd (ax_tab mb) 9 178 [.ref 66, .retAddr (4294967296 + 0), .retAddr (4294967296 + 1)] (jq_X 2 6 [(0, 9)] (fun _ => jq_A))) = true := by decide +kernel
theorem rq_over_7 : ax_ck (fun e => ax_is e && (jq_p 2 7 0 [0, 1, 2, 3, 4, 5, 6, 7] e || jq_p 2 8 1 [0, 1, 2, 3, 4, 5, 6, 9] e)) (ax_evd (ax_tab mb) 9 178 [.ref 66, .retAddr (4294967296 + 0), .retAddr (4294967296 + 1)] (jq_X 2 7 [(0, 9)] (fun _ => jq_A))) = true := by decide +kernel
theorem rq_over_8 : ax_ck (fun e => ax_is e && (jq_p 2 8 0 [0, 1, 2, 3, 4, 5, 6, 7] e || jq_p 2 8 1 [1, 2, 3, 4, 5, 6, 7, 9] e)) (ax_evd (ax_tab mb) 9 178 [.ref 66, .retAddr (4294967296 + 0), .retAddr (4294967296 + 1)] (jq_X 2 8 [(0, 9)] (fun _ => jq_A))) = true := by decide +kernel
theorem jm_over (u w : Nat) (hu : u < 4294967296) (hw : w < 4294967296) (h : am_H) (hJ : Jv h) : ∃ n h', am_EG (am_mi 178) [.ref 66, .retAddr u, .retAddr w] h (some (.retAddr n), h') ∧ Jv h' ∧ h'.1 = h.1 ∧ h'.2.1 = h.2.1 := by
  obtain ⟨a, g, x, q1, q2, q3, q4, q5, q6, q7⟩ := jq_in hJ.1.2 hJ.2.2
  have hG : ax_in g [(0, 9)] := ax_in_1 (by omega) (Nat.zero_le _) q6
  have hI := (ax_I_to st_mb).mp hJ.1.2
  match a, q5 with
  | 0, _ =>
    obtain ⟨en, hp, ρ', r0, -, v, h', r1, r2, r3, r4⟩ := ax_run (ax_tab_ok mb) rq_over_0 (ρ := jq_r 2 (fun i => if i = 0 then u else w) g x) (vs := [.ref 66, .retAddr u, .retAddr w]) (ax_rs.c ax_rvr (ax_rs.c (ax_rvi (by decide) (by rw [ax_vl_i]; exact Nat.mod_eq_of_lt hu)) (ax_rs.c (ax_rvi (by decide) (by rw [ax_vl_i]; exact Nat.mod_eq_of_lt hw)) trivial))) (jq_X_ok hI (by decide) q1 q2 q3 hG q7)
    rw [Bool.and_eq_true, Bool.or_eq_true] at hp
    obtain ⟨hi, hp⟩ := hp
    obtain ⟨n, -, rfl⟩ := ax_is_ok hi r2
    refine ⟨_, h', r1, jq_b hJ r3.2.2.2.2 r4 ?_, r4.1, r4.2.1⟩
    rcases hp with hp | hp
    · exact jq_same q4 (Nat.le_refl _) (by decide) (jq_F_ok (ns := [0, 1, 2, 3, 4, 5, 6, 7]) (by decide) (by decide) r3 r0 hp)
    · exact jq_push q4 q6 (by decide) rfl (Or.inr ⟨rfl, rfl⟩) (jq_F_ok (ns := [9, 1, 2, 3, 4, 5, 6, 7]) (by decide) (by decide) r3 r0 hp)
  | 1, _ =>
    obtain ⟨en, hp, ρ', r0, -, v, h', r1, r2, r3, r4⟩ := ax_run (ax_tab_ok mb) rq_over_1 (ρ := jq_r 2 (fun i => if i = 0 then u else w) g x) (vs := [.ref 66, .retAddr u, .retAddr w]) (ax_rs.c ax_rvr (ax_rs.c (ax_rvi (by decide) (by rw [ax_vl_i]; exact Nat.mod_eq_of_lt hu)) (ax_rs.c (ax_rvi (by decide) (by rw [ax_vl_i]; exact Nat.mod_eq_of_lt hw)) trivial))) (jq_X_ok hI (by decide) q1 q2 q3 hG q7)
    rw [Bool.and_eq_true, Bool.or_eq_true] at hp
    obtain ⟨hi, hp⟩ := hp
    obtain ⟨n, -, rfl⟩ := ax_is_ok hi r2
    refine ⟨_, h', r1, jq_b hJ r3.2.2.2.2 r4 ?_, r4.1, r4.2.1⟩
    rcases hp with hp | hp
    · exact jq_same q4 (Nat.le_refl _) (by decide) (jq_F_ok (ns := [0, 1, 2, 3, 4, 5, 6, 7]) (by decide) (by decide) r3 r0 hp)
    · exact jq_push q4 q6 (by decide) rfl (Or.inr ⟨rfl, rfl⟩) (jq_F_ok (ns := [0, 9, 2, 3, 4, 5, 6, 7]) (by decide) (by decide) r3 r0 hp)
  | 2, _ =>
    obtain ⟨en, hp, ρ', r0, -, v, h', r1, r2, r3, r4⟩ := ax_run (ax_tab_ok mb) rq_over_2 (ρ := jq_r 2 (fun i => if i = 0 then u else w) g x) (vs := [.ref 66, .retAddr u, .retAddr w]) (ax_rs.c ax_rvr (ax_rs.c (ax_rvi (by decide) (by rw [ax_vl_i]; exact Nat.mod_eq_of_lt hu)) (ax_rs.c (ax_rvi (by decide) (by rw [ax_vl_i]; exact Nat.mod_eq_of_lt hw)) trivial))) (jq_X_ok hI (by decide) q1 q2 q3 hG q7)
    rw [Bool.and_eq_true, Bool.or_eq_true] at hp
    obtain ⟨hi, hp⟩ := hp
    obtain ⟨n, -, rfl⟩ := ax_is_ok hi r2
    refine ⟨_, h', r1, jq_b hJ r3.2.2.2.2 r4 ?_, r4.1, r4.2.1⟩
    rcases hp with hp | hp
    · exact jq_same q4 (Nat.le_refl _) (by decide) (jq_F_ok (ns := [0, 1, 2, 3, 4, 5, 6, 7]) (by decide) (by decide) r3 r0 hp)
    · exact jq_push q4 q6 (by decide) rfl (Or.inr ⟨rfl, rfl⟩) (jq_F_ok (ns := [0, 1, 9, 3, 4, 5, 6, 7]) (by decide) (by decide) r3 r0 hp)
  | 3, _ =>
    obtain ⟨en, hp, ρ', r0, -, v, h', r1, r2, r3, r4⟩ := ax_run (ax_tab_ok mb) rq_over_3 (ρ := jq_r 2 (fun i => if i = 0 then u else w) g x) (vs := [.ref 66, .retAddr u, .retAddr w]) (ax_rs.c ax_rvr (ax_rs.c (ax_rvi (by decide) (by rw [ax_vl_i]; exact Nat.mod_eq_of_lt hu)) (ax_rs.c (ax_rvi (by decide) (by rw [ax_vl_i]; exact Nat.mod_eq_of_lt hw)) trivial))) (jq_X_ok hI (by decide) q1 q2 q3 hG q7)
    rw [Bool.and_eq_true, Bool.or_eq_true] at hp
    obtain ⟨hi, hp⟩ := hp
    obtain ⟨n, -, rfl⟩ := ax_is_ok hi r2
    refine ⟨_, h', r1, jq_b hJ r3.2.2.2.2 r4 ?_, r4.1, r4.2.1⟩
    rcases hp with hp | hp
    · exact jq_same q4 (Nat.le_refl _) (by decide) (jq_F_ok (ns := [0, 1, 2, 3, 4, 5, 6, 7]) (by decide) (by decide) r3 r0 hp)
    · exact jq_push q4 q6 (by decide) rfl (Or.inr ⟨rfl, rfl⟩) (jq_F_ok (ns := [0, 1, 2, 9, 4, 5, 6, 7]) (by decide) (by decide) r3 r0 hp)
  | 4, _ =>
    obtain ⟨en, hp, ρ', r0, -, v, h', r1, r2, r3, r4⟩ := ax_run (ax_tab_ok mb) rq_over_4 (ρ := jq_r 2 (fun i => if i = 0 then u else w) g x) (vs := [.ref 66, .retAddr u, .retAddr w]) (ax_rs.c ax_rvr (ax_rs.c (ax_rvi (by decide) (by rw [ax_vl_i]; exact Nat.mod_eq_of_lt hu)) (ax_rs.c (ax_rvi (by decide) (by rw [ax_vl_i]; exact Nat.mod_eq_of_lt hw)) trivial))) (jq_X_ok hI (by decide) q1 q2 q3 hG q7)
    rw [Bool.and_eq_true, Bool.or_eq_true] at hp
    obtain ⟨hi, hp⟩ := hp
    obtain ⟨n, -, rfl⟩ := ax_is_ok hi r2
    refine ⟨_, h', r1, jq_b hJ r3.2.2.2.2 r4 ?_, r4.1, r4.2.1⟩
    rcases hp with hp | hp
    · exact jq_same q4 (Nat.le_refl _) (by decide) (jq_F_ok (ns := [0, 1, 2, 3, 4, 5, 6, 7]) (by decide) (by decide) r3 r0 hp)
    · exact jq_push q4 q6 (by decide) rfl (Or.inr ⟨rfl, rfl⟩) (jq_F_ok (ns := [0, 1, 2, 3, 9, 5, 6, 7]) (by decide) (by decide) r3 r0 hp)
  | 5, _ =>
    obtain ⟨en, hp, ρ', r0, -, v, h', r1, r2, r3, r4⟩ := ax_run (ax_tab_ok mb) rq_over_5 (ρ := jq_r 2 (fun i => if i = 0 then u else w) g x) (vs := [.ref 66, .retAddr u, .retAddr w]) (ax_rs.c ax_rvr (ax_rs.c (ax_rvi (by decide) (by rw [ax_vl_i]; exact Nat.mod_eq_of_lt hu)) (ax_rs.c (ax_rvi (by decide) (by rw [ax_vl_i]; exact Nat.mod_eq_of_lt hw)) trivial))) (jq_X_ok hI (by decide) q1 q2 q3 hG q7)
    rw [Bool.and_eq_true, Bool.or_eq_true] at hp
    obtain ⟨hi, hp⟩ := hp
    obtain ⟨n, -, rfl⟩ := ax_is_ok hi r2
    refine ⟨_, h', r1, jq_b hJ r3.2.2.2.2 r4 ?_, r4.1, r4.2.1⟩
    rcases hp with hp | hp
    · exact jq_same q4 (Nat.le_refl _) (by decide) (jq_F_ok (ns := [0, 1, 2, 3, 4, 5, 6, 7]) (by decide) (by decide) r3 r0 hp)
    · exact jq_push q4 q6 (by decide) rfl (Or.inr ⟨rfl, rfl⟩) (jq_F_ok (ns := [0, 1, 2, 3, 4, 9, 6, 7]) (by decide) (by decide) r3 r0 hp)
  | 6, _ =>
    obtain ⟨en, hp, ρ', r0, -, v, h', r1, r2, r3, r4⟩ := ax_run (ax_tab_ok mb) rq_over_6 (ρ := jq_r 2 (fun i => if i = 0 then u else w) g x) (vs := [.ref 66, .retAddr u, .retAddr w]) (ax_rs.c ax_rvr (ax_rs.c (ax_rvi (by decide) (by rw [ax_vl_i]; exact Nat.mod_eq_of_lt hu)) (ax_rs.c (ax_rvi (by decide) (by rw [ax_vl_i]; exact Nat.mod_eq_of_lt hw)) trivial))) (jq_X_ok hI (by decide) q1 q2 q3 hG q7)
    rw [Bool.and_eq_true, Bool.or_eq_true] at hp
    obtain ⟨hi, hp⟩ := hp
    obtain ⟨n, -, rfl⟩ := ax_is_ok hi r2
    refine ⟨_, h', r1, jq_b hJ r3.2.2.2.2 r4 ?_, r4.1, r4.2.1⟩
    rcases hp with hp | hp
    · exact jq_same q4 (Nat.le_refl _) (by decide) (jq_F_ok (ns := [0, 1, 2, 3, 4, 5, 6, 7]) (by decide) (by decide) r3 r0 hp)
    · exact jq_push q4 q6 (by decide) rfl (Or.inr ⟨rfl, rfl⟩) (jq_F_ok (ns := [0, 1, 2, 3, 4, 5, 9, 7]) (by decide) (by decide) r3 r0 hp)
  | 7, _ =>
    obtain ⟨en, hp, ρ', r0, -, v, h', r1, r2, r3, r4⟩ := ax_run (ax_tab_ok mb) rq_over_7 (ρ := jq_r 2 (fun i => if i = 0 then u else w) g x) (vs := [.ref 66, .retAddr u, .retAddr w]) (ax_rs.c ax_rvr (ax_rs.c (ax_rvi (by decide) (by rw [ax_vl_i]; exact Nat.mod_eq_of_lt hu)) (ax_rs.c (ax_rvi (by decide) (by rw [ax_vl_i]; exact Nat.mod_eq_of_lt hw)) trivial))) (jq_X_ok hI (by decide) q1 q2 q3 hG q7)
    rw [Bool.and_eq_true, Bool.or_eq_true] at hp
    obtain ⟨hi, hp⟩ := hp
    obtain ⟨n, -, rfl⟩ := ax_is_ok hi r2
    refine ⟨_, h', r1, jq_b hJ r3.2.2.2.2 r4 ?_, r4.1, r4.2.1⟩
    rcases hp with hp | hp
    · exact jq_same q4 (Nat.le_refl _) (by decide) (jq_F_ok (ns := [0, 1, 2, 3, 4, 5, 6, 7]) (by decide) (by decide) r3 r0 hp)
    · exact jq_push q4 q6 (by decide) rfl (Or.inr ⟨rfl, rfl⟩) (jq_F_ok (ns := [0, 1, 2, 3, 4, 5, 6, 9]) (by decide) (by decide) r3 r0 hp)
  | 8, _ =>
    obtain ⟨en, hp, ρ', r0, -, v, h', r1, r2, r3, r4⟩ := ax_run (ax_tab_ok mb) rq_over_8 (ρ := jq_r 2 (fun i => if i = 0 then u else w) g x) (vs := [.ref 66, .retAddr u, .retAddr w]) (ax_rs.c ax_rvr (ax_rs.c (ax_rvi (by decide) (by rw [ax_vl_i]; exact Nat.mod_eq_of_lt hu)) (ax_rs.c (ax_rvi (by decide) (by rw [ax_vl_i]; exact Nat.mod_eq_of_lt hw)) trivial))) (jq_X_ok hI (by decide) q1 q2 q3 hG q7)
    rw [Bool.and_eq_true, Bool.or_eq_true] at hp
    obtain ⟨hi, hp⟩ := hp
    obtain ⟨n, -, rfl⟩ := ax_is_ok hi r2
    refine ⟨_, h', r1, jq_b hJ r3.2.2.2.2 r4 ?_, r4.1, r4.2.1⟩
    rcases hp with hp | hp
    · exact jq_same q4 (Nat.le_refl _) (by decide) (jq_F_ok (ns := [0, 1, 2, 3, 4, 5, 6, 7]) (by decide) (by decide) r3 r0 hp)
    · exact jq_shift q4 q6 (by decide) rfl (Or.inr ⟨rfl, rfl⟩) (jq_F_ok (ns := [1, 2, 3, 4, 5, 6, 7, 9]) (by decide) (by decide) r3 r0 hp)
  | a + 9, h9 => exact absurd h9 (by omega)
theorem rq_undo_0 : ax_ck (fun e => ax_is e && jq_p 0 0 0 [0, 1, 2, 3, 4, 5, 6, 7] e) (ax_evd (ax_tab mb) 9 179 [.ref 66] (jq_X 0 0 [(0, 9)] (fun _ => jq_A))) = true := by decide +kernel
theorem rq_undoN_1 : ax_ck (fun e => ax_is e && jq_p 0 0 2 [0, 1, 2, 3, 4, 5, 6, 7] e) (ax_evd (ax_tab mb) 9 179 [.ref 66] (jq_X 0 1 [(1, 9)] (fun i => bif Nat.beq i 0 then [(4294967292, 4294967292)] else jq_A))) = true := by decide +kernel
theorem rq_undoS_1 : ax_ck (fun e => ax_is e && jq_p 0 0 0 [0, 1, 2, 3, 4, 5, 6, 7] e) (ax_evd (ax_tab mb) 9 179 [.ref 66] (jq_X 0 1 [(0, 9)] (fun i => bif Nat.beq i 0 then [(0, 3)] else jq_A))) = true := by decide +kernel
theorem rq_undoN_2 : ax_ck (fun e => ax_is e && jq_p 0 1 2 [0, 1, 2, 3, 4, 5, 6, 7] e) (ax_evd (ax_tab mb) 9 179 [.ref 66] (jq_X 0 2 [(1, 9)] (fun i => bif Nat.beq i 1 then [(4294967292, 4294967292)] else jq_A))) = true := by decide +kernel
theorem rq_undoS_2 : ax_ck (fun e => ax_is e && jq_p 0 1 0 [0, 1, 2, 3, 4, 5, 6, 7] e) (ax_evd (ax_tab mb) 9 179 [.ref 66] (jq_X 0 2 [(0, 9)] (fun i => bif Nat.beq i 1 then [(0, 3)] else jq_A))) = true := by decide +kernel
theorem rq_undoN_3 : ax_ck (fun e => ax_is e && jq_p 0 2 2 [0, 1, 2, 3, 4, 5, 6, 7] e) (ax_evd (ax_tab mb) 9 179 [.ref 66] (jq_X 0 3 [(1, 9)] (fun i => bif Nat.beq i 2 then [(4294967292, 4294967292)] else jq_A))) = true := by decide +kernel
theorem rq_undoS_3 : ax_ck (fun e => ax_is e && jq_p 0 2 0 [0, 1, 2, 3, 4, 5, 6, 7] e) (ax_evd (ax_tab mb) 9 179 [.ref 66] (jq_X 0 3 [(0, 9)] (fun i => bif Nat.beq i 2 then [(0, 3)] else jq_A))) = true := by decide +kernel
theorem rq_undoN_4 : ax_ck (fun e => ax_is e && jq_p 0 3 2 [0, 1, 2, 3, 4, 5, 6, 7] e) (ax_evd (ax_tab mb) 9 179 [.ref 66] (jq_X 0 4 [(1, 9)] (fun i => bif Nat.beq i 3 then [(4294967292, 4294967292)] else jq_A))) = true := by decide +kernel
theorem rq_undoS_4 : ax_ck (fun e => ax_is e && jq_p 0 3 0 [0, 1, 2, 3, 4, 5, 6, 7] e) (ax_evd (ax_tab mb) 9 179 [.ref 66] (jq_X 0 4 [(0, 9)] (fun i => bif Nat.beq i 3 then [(0, 3)] else jq_A))) = true := by decide +kernel
theorem rq_undoN_5 : ax_ck (fun e => ax_is e && jq_p 0 4 2 [0, 1, 2, 3, 4, 5, 6, 7] e) (ax_evd (ax_tab mb) 9 179 [.ref 66] (jq_X 0 5 [(1, 9)] (fun i => bif Nat.beq i 4 then [(4294967292, 4294967292)] else jq_A))) = true := by decide +kernel
theorem rq_undoS_5 : ax_ck (fun e => ax_is e && jq_p 0 4 0 [0, 1, 2, 3, 4, 5, 6, 7] e) (ax_evd (ax_tab mb) 9 179 [.ref 66] (jq_X 0 5 [(0, 9)] (fun i => bif Nat.beq i 4 then [(0, 3)] else jq_A))) = true := by decide +kernel
theorem rq_undoN_6 : ax_ck (fun e => ax_is e && jq_p 0 5 2 [0, 1, 2, 3, 4, 5, 6, 7] e) (ax_evd (ax_tab mb) 9 179 [.ref 66] (jq_X 0 6 [(1, 9)] (fun i => bif Nat.beq i 5 then [(4294967292, 4294967292)] else jq_A))) = true := by decide +kernel
theorem rq_undoS_6 : ax_ck (fun e => ax_is e && jq_p 0 5 0 [0, 1, 2, 3, 4, 5, 6, 7] e) (ax_evd (ax_tab mb) 9 179 [.ref 66] (jq_X 0 6 [(0, 9)] (fun i => bif Nat.beq i 5 then [(0, 3)] else jq_A))) = true := by decide +kernel
theorem rq_undoN_7 : ax_ck (fun e => ax_is e && jq_p 0 6 2 [0, 1, 2, 3, 4, 5, 6, 7] e) (ax_evd (ax_tab mb) 9 179 [.ref 66] (jq_X 0 7 [(1, 9)] (fun i => bif Nat.beq i 6 then [(4294967292, 4294967292)] else jq_A))) = true := by decide +kernel
theorem rq_undoS_7 : ax_ck (fun e => ax_is e && jq_p 0 6 0 [0, 1, 2, 3, 4, 5, 6, 7] e) (ax_evd (ax_tab mb) 9 179 [.ref 66] (jq_X 0 7 [(0, 9)] (fun i => bif Nat.beq i 6 then [(0, 3)] else jq_A))) = true := by decide +kernel
theorem rq_undoN_8 : ax_ck (fun e => ax_is e && jq_p 0 7 2 [0, 1, 2, 3, 4, 5, 6, 7] e) (ax_evd (ax_tab mb) 9 179 [.ref 66] (jq_X 0 8 [(1, 9)] (fun i => bif Nat.beq i 7 then [(4294967292, 4294967292)] else jq_A))) = true := by decide +kernel
theorem rq_undoS_8 : ax_ck (fun e => ax_is e && jq_p 0 7 0 [0, 1, 2, 3, 4, 5, 6, 7] e) (ax_evd (ax_tab mb) 9 179 [.ref 66] (jq_X 0 8 [(0, 9)] (fun i => bif Nat.beq i 7 then [(0, 3)] else jq_A))) = true := by decide +kernel
theorem jq_top {x c i : Nat} {R : ax_R} (hA : ∀ i, i < 8 → ax_in (am_ag x i) jq_A) (ht : ax_in (am_ag x c) R) (hi : i < 8) : ax_in (am_ag x i) (bif Nat.beq i c then R else jq_A) := by
  cases hb : Nat.beq i c
  · rw [cond_false]
    exact hA i hi
  · rw [cond_true, Nat.eq_of_beq_eq_true hb]
    exact ht
theorem jq_topS {x c : Nat} (hA : ax_in (am_ag x c) jq_A) (hn : ¬ am_ag x c = 4294967292) : ax_in (am_ag x c) [(0, 3)] := by
  obtain ⟨h1, r, hr, r1, r2⟩ := hA
  simp only [jq_A, List.mem_cons, List.not_mem_nil, or_false] at hr
  rcases hr with rfl | rfl
  · exact ⟨h1, (0, 3), by simp, r1, r2⟩
  · exact absurd (Nat.le_antisymm r2 r1) hn
theorem jm_undo (h : am_H) (hJ : Jv h) : ∃ n h', am_EG (am_mi 179) [.ref 66] h (some (.retAddr n), h') ∧ Jv h' ∧ h'.1 = h.1 ∧ h'.2.1 = h.2.1 := by
  obtain ⟨a, g, x, q1, q2, q3, q4, q5, q6, q7⟩ := jq_in hJ.1.2 hJ.2.2
  have hG : ax_in g [(0, 9)] := ax_in_1 (by omega) (Nat.zero_le _) q6
  have hI := (ax_I_to st_mb).mp hJ.1.2
  match a, q5 with
  | 0, _ =>
    obtain ⟨en, hp, ρ', r0, -, v, h', r1, r2, r3, r4⟩ := ax_run (ax_tab_ok mb) rq_undo_0 (ρ := jq_r 0 (fun _ => 0) g x) (vs := [.ref 66]) (ax_rs.c ax_rvr trivial) (jq_X_ok hI (by decide) q1 q2 q3 hG q7)
    rw [Bool.and_eq_true] at hp
    obtain ⟨hi, hp⟩ := hp
    obtain ⟨n, -, rfl⟩ := ax_is_ok hi r2
    exact ⟨_, h', r1, jq_b hJ r3.2.2.2.2 r4 (jq_same q4 (Nat.le_refl _) (by decide) (jq_F_ok (ns := [0, 1, 2, 3, 4, 5, 6, 7]) (by decide) (by decide) r3 r0 hp)), r4.1, r4.2.1⟩
  | 1, _ =>
    by_cases ht : am_ag x 0 = 4294967292
    · have hG1 : ax_in g [(1, 9)] := by
        have q8 := q4
        rw [jv_c_s, if_pos ht] at q8
        exact ax_in_1 (by omega) (by omega) q6
      obtain ⟨en, hp, ρ', r0, -, v, h', r1, r2, r3, r4⟩ := ax_run (ax_tab_ok mb) rq_undoN_1 (ρ := jq_r 0 (fun _ => 0) g x) (vs := [.ref 66]) (ax_rs.c ax_rvr trivial) (jq_X_ok hI (by decide) q1 q2 q3 hG1 (fun i hi => jq_top q7 (by rw [ht]; exact ax_in_1 (by decide) (by decide) (by decide)) hi))
      rw [Bool.and_eq_true] at hp
      obtain ⟨hi, hp⟩ := hp
      obtain ⟨n, -, rfl⟩ := ax_is_ok hi r2
      exact ⟨_, h', r1, jq_b hJ r3.2.2.2.2 r4 (jq_pop q4 q6 ht (by decide) (jq_F_ok (ns := [0, 1, 2, 3, 4, 5, 6, 7]) (by decide) (by decide) r3 r0 hp)), r4.1, r4.2.1⟩
    · obtain ⟨en, hp, ρ', r0, -, v, h', r1, r2, r3, r4⟩ := ax_run (ax_tab_ok mb) rq_undoS_1 (ρ := jq_r 0 (fun _ => 0) g x) (vs := [.ref 66]) (ax_rs.c ax_rvr trivial) (jq_X_ok hI (by decide) q1 q2 q3 hG (fun i hi => jq_top q7 (jq_topS (q7 0 (by decide)) ht) hi))
      rw [Bool.and_eq_true] at hp
      obtain ⟨hi, hp⟩ := hp
      obtain ⟨n, -, rfl⟩ := ax_is_ok hi r2
      exact ⟨_, h', r1, jq_b hJ r3.2.2.2.2 r4 (jq_same (c := 1) q4 (by decide) (by decide) (jq_F_ok (ns := [0, 1, 2, 3, 4, 5, 6, 7]) (by decide) (by decide) r3 r0 hp)), r4.1, r4.2.1⟩
  | 2, _ =>
    by_cases ht : am_ag x 1 = 4294967292
    · have hG1 : ax_in g [(1, 9)] := by
        have q8 := q4
        rw [jv_c_s, if_pos ht] at q8
        exact ax_in_1 (by omega) (by omega) q6
      obtain ⟨en, hp, ρ', r0, -, v, h', r1, r2, r3, r4⟩ := ax_run (ax_tab_ok mb) rq_undoN_2 (ρ := jq_r 0 (fun _ => 0) g x) (vs := [.ref 66]) (ax_rs.c ax_rvr trivial) (jq_X_ok hI (by decide) q1 q2 q3 hG1 (fun i hi => jq_top q7 (by rw [ht]; exact ax_in_1 (by decide) (by decide) (by decide)) hi))
      rw [Bool.and_eq_true] at hp
      obtain ⟨hi, hp⟩ := hp
      obtain ⟨n, -, rfl⟩ := ax_is_ok hi r2
      exact ⟨_, h', r1, jq_b hJ r3.2.2.2.2 r4 (jq_pop q4 q6 ht (by decide) (jq_F_ok (ns := [0, 1, 2, 3, 4, 5, 6, 7]) (by decide) (by decide) r3 r0 hp)), r4.1, r4.2.1⟩
    · obtain ⟨en, hp, ρ', r0, -, v, h', r1, r2, r3, r4⟩ := ax_run (ax_tab_ok mb) rq_undoS_2 (ρ := jq_r 0 (fun _ => 0) g x) (vs := [.ref 66]) (ax_rs.c ax_rvr trivial) (jq_X_ok hI (by decide) q1 q2 q3 hG (fun i hi => jq_top q7 (jq_topS (q7 1 (by decide)) ht) hi))
      rw [Bool.and_eq_true] at hp
      obtain ⟨hi, hp⟩ := hp
      obtain ⟨n, -, rfl⟩ := ax_is_ok hi r2
      exact ⟨_, h', r1, jq_b hJ r3.2.2.2.2 r4 (jq_same (c := 2) q4 (by decide) (by decide) (jq_F_ok (ns := [0, 1, 2, 3, 4, 5, 6, 7]) (by decide) (by decide) r3 r0 hp)), r4.1, r4.2.1⟩
  | 3, _ =>
    by_cases ht : am_ag x 2 = 4294967292
    · have hG1 : ax_in g [(1, 9)] := by
        have q8 := q4
        rw [jv_c_s, if_pos ht] at q8
        exact ax_in_1 (by omega) (by omega) q6
      obtain ⟨en, hp, ρ', r0, -, v, h', r1, r2, r3, r4⟩ := ax_run (ax_tab_ok mb) rq_undoN_3 (ρ := jq_r 0 (fun _ => 0) g x) (vs := [.ref 66]) (ax_rs.c ax_rvr trivial) (jq_X_ok hI (by decide) q1 q2 q3 hG1 (fun i hi => jq_top q7 (by rw [ht]; exact ax_in_1 (by decide) (by decide) (by decide)) hi))
      rw [Bool.and_eq_true] at hp
      obtain ⟨hi, hp⟩ := hp
      obtain ⟨n, -, rfl⟩ := ax_is_ok hi r2
      exact ⟨_, h', r1, jq_b hJ r3.2.2.2.2 r4 (jq_pop q4 q6 ht (by decide) (jq_F_ok (ns := [0, 1, 2, 3, 4, 5, 6, 7]) (by decide) (by decide) r3 r0 hp)), r4.1, r4.2.1⟩
    · obtain ⟨en, hp, ρ', r0, -, v, h', r1, r2, r3, r4⟩ := ax_run (ax_tab_ok mb) rq_undoS_3 (ρ := jq_r 0 (fun _ => 0) g x) (vs := [.ref 66]) (ax_rs.c ax_rvr trivial) (jq_X_ok hI (by decide) q1 q2 q3 hG (fun i hi => jq_top q7 (jq_topS (q7 2 (by decide)) ht) hi))
      rw [Bool.and_eq_true] at hp
      obtain ⟨hi, hp⟩ := hp
      obtain ⟨n, -, rfl⟩ := ax_is_ok hi r2
      exact ⟨_, h', r1, jq_b hJ r3.2.2.2.2 r4 (jq_same (c := 3) q4 (by decide) (by decide) (jq_F_ok (ns := [0, 1, 2, 3, 4, 5, 6, 7]) (by decide) (by decide) r3 r0 hp)), r4.1, r4.2.1⟩
  | 4, _ =>
    by_cases ht : am_ag x 3 = 4294967292
    · have hG1 : ax_in g [(1, 9)] := by
        have q8 := q4
        rw [jv_c_s, if_pos ht] at q8
        exact ax_in_1 (by omega) (by omega) q6
      obtain ⟨en, hp, ρ', r0, -, v, h', r1, r2, r3, r4⟩ := ax_run (ax_tab_ok mb) rq_undoN_4 (ρ := jq_r 0 (fun _ => 0) g x) (vs := [.ref 66]) (ax_rs.c ax_rvr trivial) (jq_X_ok hI (by decide) q1 q2 q3 hG1 (fun i hi => jq_top q7 (by rw [ht]; exact ax_in_1 (by decide) (by decide) (by decide)) hi))
      rw [Bool.and_eq_true] at hp
      obtain ⟨hi, hp⟩ := hp
      obtain ⟨n, -, rfl⟩ := ax_is_ok hi r2
      exact ⟨_, h', r1, jq_b hJ r3.2.2.2.2 r4 (jq_pop q4 q6 ht (by decide) (jq_F_ok (ns := [0, 1, 2, 3, 4, 5, 6, 7]) (by decide) (by decide) r3 r0 hp)), r4.1, r4.2.1⟩
    · obtain ⟨en, hp, ρ', r0, -, v, h', r1, r2, r3, r4⟩ := ax_run (ax_tab_ok mb) rq_undoS_4 (ρ := jq_r 0 (fun _ => 0) g x) (vs := [.ref 66]) (ax_rs.c ax_rvr trivial) (jq_X_ok hI (by decide) q1 q2 q3 hG (fun i hi => jq_top q7 (jq_topS (q7 3 (by decide)) ht) hi))
      rw [Bool.and_eq_true] at hp
      obtain ⟨hi, hp⟩ := hp
      obtain ⟨n, -, rfl⟩ := ax_is_ok hi r2
      exact ⟨_, h', r1, jq_b hJ r3.2.2.2.2 r4 (jq_same (c := 4) q4 (by decide) (by decide) (jq_F_ok (ns := [0, 1, 2, 3, 4, 5, 6, 7]) (by decide) (by decide) r3 r0 hp)), r4.1, r4.2.1⟩
  | 5, _ =>
    by_cases ht : am_ag x 4 = 4294967292
    · have hG1 : ax_in g [(1, 9)] := by
        have q8 := q4
        rw [jv_c_s, if_pos ht] at q8
        exact ax_in_1 (by omega) (by omega) q6
      obtain ⟨en, hp, ρ', r0, -, v, h', r1, r2, r3, r4⟩ := ax_run (ax_tab_ok mb) rq_undoN_5 (ρ := jq_r 0 (fun _ => 0) g x) (vs := [.ref 66]) (ax_rs.c ax_rvr trivial) (jq_X_ok hI (by decide) q1 q2 q3 hG1 (fun i hi => jq_top q7 (by rw [ht]; exact ax_in_1 (by decide) (by decide) (by decide)) hi))
      rw [Bool.and_eq_true] at hp
      obtain ⟨hi, hp⟩ := hp
      obtain ⟨n, -, rfl⟩ := ax_is_ok hi r2
      exact ⟨_, h', r1, jq_b hJ r3.2.2.2.2 r4 (jq_pop q4 q6 ht (by decide) (jq_F_ok (ns := [0, 1, 2, 3, 4, 5, 6, 7]) (by decide) (by decide) r3 r0 hp)), r4.1, r4.2.1⟩
    · obtain ⟨en, hp, ρ', r0, -, v, h', r1, r2, r3, r4⟩ := ax_run (ax_tab_ok mb) rq_undoS_5 (ρ := jq_r 0 (fun _ => 0) g x) (vs := [.ref 66]) (ax_rs.c ax_rvr trivial) (jq_X_ok hI (by decide) q1 q2 q3 hG (fun i hi => jq_top q7 (jq_topS (q7 4 (by decide)) ht) hi))
      rw [Bool.and_eq_true] at hp
      obtain ⟨hi, hp⟩ := hp
      obtain ⟨n, -, rfl⟩ := ax_is_ok hi r2
      exact ⟨_, h', r1, jq_b hJ r3.2.2.2.2 r4 (jq_same (c := 5) q4 (by decide) (by decide) (jq_F_ok (ns := [0, 1, 2, 3, 4, 5, 6, 7]) (by decide) (by decide) r3 r0 hp)), r4.1, r4.2.1⟩
  | 6, _ =>
    by_cases ht : am_ag x 5 = 4294967292
    · have hG1 : ax_in g [(1, 9)] := by
        have q8 := q4
        rw [jv_c_s, if_pos ht] at q8
        exact ax_in_1 (by omega) (by omega) q6
      obtain ⟨en, hp, ρ', r0, -, v, h', r1, r2, r3, r4⟩ := ax_run (ax_tab_ok mb) rq_undoN_6 (ρ := jq_r 0 (fun _ => 0) g x) (vs := [.ref 66]) (ax_rs.c ax_rvr trivial) (jq_X_ok hI (by decide) q1 q2 q3 hG1 (fun i hi => jq_top q7 (by rw [ht]; exact ax_in_1 (by decide) (by decide) (by decide)) hi))
      rw [Bool.and_eq_true] at hp
      obtain ⟨hi, hp⟩ := hp
      obtain ⟨n, -, rfl⟩ := ax_is_ok hi r2
      exact ⟨_, h', r1, jq_b hJ r3.2.2.2.2 r4 (jq_pop q4 q6 ht (by decide) (jq_F_ok (ns := [0, 1, 2, 3, 4, 5, 6, 7]) (by decide) (by decide) r3 r0 hp)), r4.1, r4.2.1⟩
    · obtain ⟨en, hp, ρ', r0, -, v, h', r1, r2, r3, r4⟩ := ax_run (ax_tab_ok mb) rq_undoS_6 (ρ := jq_r 0 (fun _ => 0) g x) (vs := [.ref 66]) (ax_rs.c ax_rvr trivial) (jq_X_ok hI (by decide) q1 q2 q3 hG (fun i hi => jq_top q7 (jq_topS (q7 5 (by decide)) ht) hi))
      rw [Bool.and_eq_true] at hp
      obtain ⟨hi, hp⟩ := hp
      obtain ⟨n, -, rfl⟩ := ax_is_ok hi r2
      exact ⟨_, h', r1, jq_b hJ r3.2.2.2.2 r4 (jq_same (c := 6) q4 (by decide) (by decide) (jq_F_ok (ns := [0, 1, 2, 3, 4, 5, 6, 7]) (by decide) (by decide) r3 r0 hp)), r4.1, r4.2.1⟩
  | 7, _ =>
    by_cases ht : am_ag x 6 = 4294967292
    · have hG1 : ax_in g [(1, 9)] := by
        have q8 := q4
        rw [jv_c_s, if_pos ht] at q8
        exact ax_in_1 (by omega) (by omega) q6
      obtain ⟨en, hp, ρ', r0, -, v, h', r1, r2, r3, r4⟩ := ax_run (ax_tab_ok mb) rq_undoN_7 (ρ := jq_r 0 (fun _ => 0) g x) (vs := [.ref 66]) (ax_rs.c ax_rvr trivial) (jq_X_ok hI (by decide) q1 q2 q3 hG1 (fun i hi => jq_top q7 (by rw [ht]; exact ax_in_1 (by decide) (by decide) (by decide)) hi))
      rw [Bool.and_eq_true] at hp
      obtain ⟨hi, hp⟩ := hp
      obtain ⟨n, -, rfl⟩ := ax_is_ok hi r2
      exact ⟨_, h', r1, jq_b hJ r3.2.2.2.2 r4 (jq_pop q4 q6 ht (by decide) (jq_F_ok (ns := [0, 1, 2, 3, 4, 5, 6, 7]) (by decide) (by decide) r3 r0 hp)), r4.1, r4.2.1⟩
    · obtain ⟨en, hp, ρ', r0, -, v, h', r1, r2, r3, r4⟩ := ax_run (ax_tab_ok mb) rq_undoS_7 (ρ := jq_r 0 (fun _ => 0) g x) (vs := [.ref 66]) (ax_rs.c ax_rvr trivial) (jq_X_ok hI (by decide) q1 q2 q3 hG (fun i hi => jq_top q7 (jq_topS (q7 6 (by decide)) ht) hi))
      rw [Bool.and_eq_true] at hp
      obtain ⟨hi, hp⟩ := hp
      obtain ⟨n, -, rfl⟩ := ax_is_ok hi r2
      exact ⟨_, h', r1, jq_b hJ r3.2.2.2.2 r4 (jq_same (c := 7) q4 (by decide) (by decide) (jq_F_ok (ns := [0, 1, 2, 3, 4, 5, 6, 7]) (by decide) (by decide) r3 r0 hp)), r4.1, r4.2.1⟩
  | 8, _ =>
    by_cases ht : am_ag x 7 = 4294967292
    · have hG1 : ax_in g [(1, 9)] := by
        have q8 := q4
        rw [jv_c_s, if_pos ht] at q8
        exact ax_in_1 (by omega) (by omega) q6
      obtain ⟨en, hp, ρ', r0, -, v, h', r1, r2, r3, r4⟩ := ax_run (ax_tab_ok mb) rq_undoN_8 (ρ := jq_r 0 (fun _ => 0) g x) (vs := [.ref 66]) (ax_rs.c ax_rvr trivial) (jq_X_ok hI (by decide) q1 q2 q3 hG1 (fun i hi => jq_top q7 (by rw [ht]; exact ax_in_1 (by decide) (by decide) (by decide)) hi))
      rw [Bool.and_eq_true] at hp
      obtain ⟨hi, hp⟩ := hp
      obtain ⟨n, -, rfl⟩ := ax_is_ok hi r2
      exact ⟨_, h', r1, jq_b hJ r3.2.2.2.2 r4 (jq_pop q4 q6 ht (by decide) (jq_F_ok (ns := [0, 1, 2, 3, 4, 5, 6, 7]) (by decide) (by decide) r3 r0 hp)), r4.1, r4.2.1⟩
    · obtain ⟨en, hp, ρ', r0, -, v, h', r1, r2, r3, r4⟩ := ax_run (ax_tab_ok mb) rq_undoS_8 (ρ := jq_r 0 (fun _ => 0) g x) (vs := [.ref 66]) (ax_rs.c ax_rvr trivial) (jq_X_ok hI (by decide) q1 q2 q3 hG (fun i hi => jq_top q7 (jq_topS (q7 7 (by decide)) ht) hi))
      rw [Bool.and_eq_true] at hp
      obtain ⟨hi, hp⟩ := hp
      obtain ⟨n, -, rfl⟩ := ax_is_ok hi r2
      exact ⟨_, h', r1, jq_b hJ r3.2.2.2.2 r4 (jq_same (c := 8) q4 (by decide) (by decide) (jq_F_ok (ns := [0, 1, 2, 3, 4, 5, 6, 7]) (by decide) (by decide) r3 r0 hp)), r4.1, r4.2.1⟩
  | a + 9, h9 => exact absurd h9 (by omega)
