/-! ===== learning: learn of the class ===== -/
theorem lea_4 {n : Nat} (hn : n ≤ 4) : (bif am_tlt 4 n then 4 else n) = n := by
  rw [show am_tlt 4 n = false from sk_lt_f hn (by decide), cond_false]
theorem lz_c0_i {en fr : Nat} (i : Nat) : lz_cm (lz_okc en 7) lz_ixc (fun _ => 99) 0 fr 0 0 i = lz_c0 fr i := by
  have o : lz_okc en 7 0 0 = true := by unfold lz_okc; rw [decide_eq_true (Nat.zero_le en)]; rfl
  unfold lz_cm lz_pu lz_c0
  rw [if_pos o]
  by_cases q : i = lz_ixc 0 fr 0
  · simp only [if_pos q]; rfl
  · simp only [if_neg q]
theorem lel_0 {h : am_H} (hH : lea_ok h) {v32 v30 : List Value} {f : Nat → Nat → Nat} {cl : Nat → Nat} (q32 : am_get h 32 = some (.inr (9, v32))) (q30 : am_get h 30 = some (.inr (2, v30))) (ck : ∀ sn gg al en fg mf ma gb c s t, s < 4 → t ≤ 60 → am_EG mi_68 [.ref 32, .retAddr s, .retAddr t] (lea h sn gg al en fg mf ma gb c) (some (.retAddr (f s t)), lea h sn gg al en fg mf ma gb c)) (cf : ∀ sn gg al en fg mf ma gb c x, x < 256 → am_EG mi_57 [.ref 30, .retAddr x] (lea h sn gg al en fg mf ma gb c) (some (.retAddr (cl x)), lea h sn gg al en fg mf ma gb c)) (hf : ∀ s t, f s t < 256) (hcl : ∀ x, x < 256 → cl x < 256) {E a0 mi go n : Nat} {vE w0 : List Value} (nE : am_lk [(45, am_e0), (46, am_e0)] E = none) (qE : am_get h E = some (.inr (1, vE))) (e0 : vE[0]? = some (.ref a0)) (e6 : vE[6]? = some (.retAddr mi)) (e7 : vE[7]? = some (.retAddr go)) (nA : am_lk [(45, am_e0), (46, am_e0)] a0 = none) (r0 : am_get h a0 = some (.inr (8, w0))) (s0 : w0[3]? = some (.retAddr n)) (hmi : mi ≤ 60) (hn : n ≤ 4) (hgo : go ≤ 3) {sn gg al en fg mf ma gb c : Nat} {fr set : Nat} (hfr : fr < 4) (hset : set < 256) (hc : ¬ cl (lz_ut f n mi).1 &&& set = set) (hal : cl (lz_ut f n mi).1 < 256) : am_EG mi_91 [.ref 45, .ref E, .retAddr fr, .retAddr set] (lea h sn gg al en fg mf ma gb c) (none, (lea h n go (cl (lz_ut f n mi).1) ((lz_ut f n mi).2) 4294967292 4294967292 4294967292 7 c)) := by
  refine am_enter (n := 2) tk_91.2.1 (by simp [Value.category]) (Nat.le_of_ble_eq_true rfl) ?_
  show am_Good mi_91 0 [some (.ref 45), some (.ref E), some (.retAddr fr), some (.retAddr set), none, none] [] (lea h sn gg al en fg mf ma gb c) _
  have xl : cl (lz_ut f n mi).1 &&& set < 256 := Nat.lt_of_le_of_lt Nat.and_le_left hal
  refine g_aload_n (i := 0) dd_91_0 rfl ?_
  refine g_aload_n (i := 1) dd_91_1 rfl ?_
  refine g_getfield (k := 0) am_ck1 (by decide) (Or.inr ⟨_, w_81⟩) dd_91_2 ((lea_o hH nE).trans qE) e0 ?_
  refine g_getfield (k := 3) am_ck8 (by decide) (Or.inr ⟨_, w_61⟩) dd_91_5 ((lea_o hH nA).trans r0) s0 ?_
  refine g_iconst dd_91_8 ic_4 ?_
  refine g_mmin w_756 w_393 w_18 w_394 ⟨by decide, by decide⟩ (by simp [Value.category]) dd_91_9 ?_
  rw [show (bif am_tlt 4 n then 4 else n) = n from (lea_4 hn)]
  refine g_putfield (k := 3) am_ck3 (by decide) (Or.inl w_227) (Or.inl rfl) dd_91_12 (lea_g45 hH) (Nat.le_of_ble_eq_true rfl) trivial ?_
  refine am_heq (lea_u45 hH) ?_
  show am_Good mi_91 15 [some (.ref 45), some (.ref E), some (.retAddr fr), some (.retAddr set), none, none] [] (lea h n gg al en fg mf ma gb c) _
  refine g_aload_n (i := 0) dd_91_15 rfl ?_
  refine g_aload_n (i := 1) dd_91_16 rfl ?_
  refine g_getfield (k := 7) am_ck1 (by decide) (Or.inr ⟨_, w_114⟩) dd_91_17 ((lea_o hH nE).trans qE) e7 ?_
  refine g_putfield (k := 4) am_ck3 (by decide) (Or.inl w_228) (Or.inl rfl) dd_91_20 (lea_g45 hH) (Nat.le_of_ble_eq_true rfl) trivial ?_
  refine am_heq (lea_u45 hH) ?_
  show am_Good mi_91 23 [some (.ref 45), some (.ref E), some (.retAddr fr), some (.retAddr set), none, none] [] (lea h n go al en fg mf ma gb c) _
  refine g_aload_n (i := 0) dd_91_23 rfl ?_
  refine g_bipush dd_91_24 bi_m4 ?_
  refine g_putfield (k := 7) am_ck3 (by decide) (Or.inl w_231) (Or.inl rfl) dd_91_26 (lea_g45 hH) (Nat.le_of_ble_eq_true rfl) trivial ?_
  refine am_heq (lea_u45 hH) ?_
  show am_Good mi_91 29 [some (.ref 45), some (.ref E), some (.retAddr fr), some (.retAddr set), none, none] [] (lea h n go al en 4294967292 mf ma gb c) _
  refine g_aload_n (i := 0) dd_91_29 rfl ?_
  refine g_bipush dd_91_30 bi_m4 ?_
  refine g_putfield (k := 8) am_ck3 (by decide) (Or.inl w_233) (Or.inl rfl) dd_91_32 (lea_g45 hH) (Nat.le_of_ble_eq_true rfl) trivial ?_
  refine am_heq (lea_u45 hH) ?_
  show am_Good mi_91 35 [some (.ref 45), some (.ref E), some (.retAddr fr), some (.retAddr set), none, none] [] (lea h n go al en 4294967292 4294967292 ma gb c) _
  refine g_aload_n (i := 0) dd_91_35 rfl ?_
  refine g_bipush dd_91_36 bi_m4 ?_
  refine g_putfield (k := 9) am_ck3 (by decide) (Or.inl w_235) (Or.inl rfl) dd_91_38 (lea_g45 hH) (Nat.le_of_ble_eq_true rfl) trivial ?_
  refine am_heq (lea_u45 hH) ?_
  show am_Good mi_91 41 [some (.ref 45), some (.ref E), some (.retAddr fr), some (.retAddr set), none, none] [] (lea h n go al en 4294967292 4294967292 4294967292 gb c) _
  refine g_aload_n (i := 0) dd_91_41 rfl ?_
  refine g_bipush dd_91_42 bi_7 ?_
  refine g_putfield (k := 10) am_ck3 (by decide) (Or.inl w_237) (Or.inl rfl) dd_91_44 (lea_g45 hH) (Nat.le_of_ble_eq_true rfl) trivial ?_
  refine am_heq (lea_u45 hH) ?_
  show am_Good mi_91 47 [some (.ref 45), some (.ref E), some (.retAddr fr), some (.retAddr set), none, none] [] (lea h n go al en 4294967292 4294967292 4294967292 7 c) _
  refine g_aload_n (i := 0) dd_91_47 rfl ?_
  refine g_aload_n (i := 1) dd_91_48 rfl ?_
  refine g_getfield (k := 6) am_ck1 (by decide) (Or.inr ⟨_, w_108⟩) dd_91_49 ((lea_o hH nE).trans qE) e6 ?_
  refine g_virtual (M' := mi_92) (n := 1) (ci := 3) (b := 45) (as := [.retAddr mi]) (st := []) (r1 := (none, (lea h n go (cl (lz_ut f n mi).1) ((lz_ut f n mi).2) 4294967292 4294967292 4294967292 7 c))) w_757 w_759 ps_92 ⟨lk_92.1, lk_92.2.1, lk_92.2.2, by decide, by decide⟩ rfl (lea_g45 hH) rfl (by simp [Value.category]) dd_91_52 (lea_vm hH q32 q30 ck cf hf hcl hmi hn) ?_
  show am_Good mi_91 55 [some (.ref 45), some (.ref E), some (.retAddr fr), some (.retAddr set), none, none] [] (lea h n go (cl (lz_ut f n mi).1) ((lz_ut f n mi).2) 4294967292 4294967292 4294967292 7 c) _
  refine g_aload_n (i := 0) dd_91_55 rfl ?_
  refine g_getfield (k := 5) am_ck3 (by decide) (Or.inl w_229) dd_91_56 (lea_g45 hH) rfl ?_
  refine g_iload_n (i := 3) dd_91_59 rfl ?_
  refine e_iand (v := cl (lz_ut f n mi).1 &&& set) dd_91_60 rfl ?_
  refine g_iload_n (i := 3) dd_91_61 rfl ?_
  refine g_icmp_eq_f (t := 66) dd_91_62 (by decide) (tk_eq_f (by omega)) ?_
  exact g_return rfl dd_91_65
theorem lel_1 {h : am_H} (hH : lea_ok h) {v32 v30 : List Value} {f : Nat → Nat → Nat} {cl : Nat → Nat} (q32 : am_get h 32 = some (.inr (9, v32))) (q30 : am_get h 30 = some (.inr (2, v30))) (ck : ∀ sn gg al en fg mf ma gb c s t, s < 4 → t ≤ 60 → am_EG mi_68 [.ref 32, .retAddr s, .retAddr t] (lea h sn gg al en fg mf ma gb c) (some (.retAddr (f s t)), lea h sn gg al en fg mf ma gb c)) (cf : ∀ sn gg al en fg mf ma gb c x, x < 256 → am_EG mi_57 [.ref 30, .retAddr x] (lea h sn gg al en fg mf ma gb c) (some (.retAddr (cl x)), lea h sn gg al en fg mf ma gb c)) (hf : ∀ s t, f s t < 256) (hcl : ∀ x, x < 256 → cl x < 256) {E a0 mi go n : Nat} {vE w0 : List Value} (nE : am_lk [(45, am_e0), (46, am_e0)] E = none) (qE : am_get h E = some (.inr (1, vE))) (e0 : vE[0]? = some (.ref a0)) (e6 : vE[6]? = some (.retAddr mi)) (e7 : vE[7]? = some (.retAddr go)) (nA : am_lk [(45, am_e0), (46, am_e0)] a0 = none) (r0 : am_get h a0 = some (.inr (8, w0))) (s0 : w0[3]? = some (.retAddr n)) (hmi : mi ≤ 60) (hn : n ≤ 4) (hgo : go ≤ 3) {sn gg al en fg mf ma gb c : Nat} {fr set : Nat} (hfr : fr < 4) (hset : set < 256) {c2 : Nat} {r : am_R} (hc : cl (lz_ut f n mi).1 &&& set = set) (hal : cl (lz_ut f n mi).1 < 256) (e1_ : am_EG mi_93 [.ref 45, .retAddr 0, .retAddr fr, .retAddr 0, .retAddr 0] (lea h n go (cl (lz_ut f n mi).1) ((lz_ut f n mi).2) 4294967292 4294967292 4294967292 7 c) (none, (lea h n go (cl (lz_ut f n mi).1) ((lz_ut f n mi).2) 4294967292 4294967292 4294967292 7 c2))) (hg : am_Good mi_91 77 [some (.ref 45), some (.ref E), some (.retAddr fr), some (.retAddr set), some (.retAddr 0), none] [] (lea h n go (cl (lz_ut f n mi).1) ((lz_ut f n mi).2) 4294967292 4294967292 4294967292 7 c2) r) : am_EG mi_91 [.ref 45, .ref E, .retAddr fr, .retAddr set] (lea h sn gg al en fg mf ma gb c) r := by
  refine am_enter (n := 2) tk_91.2.1 (by simp [Value.category]) (Nat.le_of_ble_eq_true rfl) ?_
  show am_Good mi_91 0 [some (.ref 45), some (.ref E), some (.retAddr fr), some (.retAddr set), none, none] [] (lea h sn gg al en fg mf ma gb c) _
  refine g_aload_n (i := 0) dd_91_0 rfl ?_
  refine g_aload_n (i := 1) dd_91_1 rfl ?_
  refine g_getfield (k := 0) am_ck1 (by decide) (Or.inr ⟨_, w_81⟩) dd_91_2 ((lea_o hH nE).trans qE) e0 ?_
  refine g_getfield (k := 3) am_ck8 (by decide) (Or.inr ⟨_, w_61⟩) dd_91_5 ((lea_o hH nA).trans r0) s0 ?_
  refine g_iconst dd_91_8 ic_4 ?_
  refine g_mmin w_756 w_393 w_18 w_394 ⟨by decide, by decide⟩ (by simp [Value.category]) dd_91_9 ?_
  rw [show (bif am_tlt 4 n then 4 else n) = n from (lea_4 hn)]
  refine g_putfield (k := 3) am_ck3 (by decide) (Or.inl w_227) (Or.inl rfl) dd_91_12 (lea_g45 hH) (Nat.le_of_ble_eq_true rfl) trivial ?_
  refine am_heq (lea_u45 hH) ?_
  show am_Good mi_91 15 [some (.ref 45), some (.ref E), some (.retAddr fr), some (.retAddr set), none, none] [] (lea h n gg al en fg mf ma gb c) _
  refine g_aload_n (i := 0) dd_91_15 rfl ?_
  refine g_aload_n (i := 1) dd_91_16 rfl ?_
  refine g_getfield (k := 7) am_ck1 (by decide) (Or.inr ⟨_, w_114⟩) dd_91_17 ((lea_o hH nE).trans qE) e7 ?_
  refine g_putfield (k := 4) am_ck3 (by decide) (Or.inl w_228) (Or.inl rfl) dd_91_20 (lea_g45 hH) (Nat.le_of_ble_eq_true rfl) trivial ?_
  refine am_heq (lea_u45 hH) ?_
  show am_Good mi_91 23 [some (.ref 45), some (.ref E), some (.retAddr fr), some (.retAddr set), none, none] [] (lea h n go al en fg mf ma gb c) _
  refine g_aload_n (i := 0) dd_91_23 rfl ?_
  refine g_bipush dd_91_24 bi_m4 ?_
  refine g_putfield (k := 7) am_ck3 (by decide) (Or.inl w_231) (Or.inl rfl) dd_91_26 (lea_g45 hH) (Nat.le_of_ble_eq_true rfl) trivial ?_
  refine am_heq (lea_u45 hH) ?_
  show am_Good mi_91 29 [some (.ref 45), some (.ref E), some (.retAddr fr), some (.retAddr set), none, none] [] (lea h n go al en 4294967292 mf ma gb c) _
  refine g_aload_n (i := 0) dd_91_29 rfl ?_
  refine g_bipush dd_91_30 bi_m4 ?_
  refine g_putfield (k := 8) am_ck3 (by decide) (Or.inl w_233) (Or.inl rfl) dd_91_32 (lea_g45 hH) (Nat.le_of_ble_eq_true rfl) trivial ?_
  refine am_heq (lea_u45 hH) ?_
  show am_Good mi_91 35 [some (.ref 45), some (.ref E), some (.retAddr fr), some (.retAddr set), none, none] [] (lea h n go al en 4294967292 4294967292 ma gb c) _
  refine g_aload_n (i := 0) dd_91_35 rfl ?_
  refine g_bipush dd_91_36 bi_m4 ?_
  refine g_putfield (k := 9) am_ck3 (by decide) (Or.inl w_235) (Or.inl rfl) dd_91_38 (lea_g45 hH) (Nat.le_of_ble_eq_true rfl) trivial ?_
  refine am_heq (lea_u45 hH) ?_
  show am_Good mi_91 41 [some (.ref 45), some (.ref E), some (.retAddr fr), some (.retAddr set), none, none] [] (lea h n go al en 4294967292 4294967292 4294967292 gb c) _
  refine g_aload_n (i := 0) dd_91_41 rfl ?_
  refine g_bipush dd_91_42 bi_7 ?_
  refine g_putfield (k := 10) am_ck3 (by decide) (Or.inl w_237) (Or.inl rfl) dd_91_44 (lea_g45 hH) (Nat.le_of_ble_eq_true rfl) trivial ?_
  refine am_heq (lea_u45 hH) ?_
  show am_Good mi_91 47 [some (.ref 45), some (.ref E), some (.retAddr fr), some (.retAddr set), none, none] [] (lea h n go al en 4294967292 4294967292 4294967292 7 c) _
  refine g_aload_n (i := 0) dd_91_47 rfl ?_
  refine g_aload_n (i := 1) dd_91_48 rfl ?_
  refine g_getfield (k := 6) am_ck1 (by decide) (Or.inr ⟨_, w_108⟩) dd_91_49 ((lea_o hH nE).trans qE) e6 ?_
  refine g_virtual (M' := mi_92) (n := 1) (ci := 3) (b := 45) (as := [.retAddr mi]) (st := []) (r1 := (none, (lea h n go (cl (lz_ut f n mi).1) ((lz_ut f n mi).2) 4294967292 4294967292 4294967292 7 c))) w_757 w_759 ps_92 ⟨lk_92.1, lk_92.2.1, lk_92.2.2, by decide, by decide⟩ rfl (lea_g45 hH) rfl (by simp [Value.category]) dd_91_52 (lea_vm hH q32 q30 ck cf hf hcl hmi hn) ?_
  show am_Good mi_91 55 [some (.ref 45), some (.ref E), some (.retAddr fr), some (.retAddr set), none, none] [] (lea h n go (cl (lz_ut f n mi).1) ((lz_ut f n mi).2) 4294967292 4294967292 4294967292 7 c) _
  refine g_aload_n (i := 0) dd_91_55 rfl ?_
  refine g_getfield (k := 5) am_ck3 (by decide) (Or.inl w_229) dd_91_56 (lea_g45 hH) rfl ?_
  refine g_iload_n (i := 3) dd_91_59 rfl ?_
  refine e_iand (v := cl (lz_ut f n mi).1 &&& set) dd_91_60 rfl ?_
  refine g_iload_n (i := 3) dd_91_61 rfl ?_
  refine g_icmp_eq_t (t := 66) dd_91_62 (by decide) (tk_eq_t (by omega)) ?_
  refine g_aload_n (i := 0) dd_91_66 rfl ?_
  refine g_iconst dd_91_67 ic_0 ?_
  refine g_iload_n (i := 2) dd_91_68 rfl ?_
  refine g_iconst dd_91_69 ic_0 ?_
  refine g_iconst dd_91_70 ic_0 ?_
  refine g_virtual (M' := mi_93) (n := 4) (ci := 3) (b := 45) (as := [.retAddr 0, .retAddr fr, .retAddr 0, .retAddr 0]) (st := []) (r1 := (none, (lea h n go (cl (lz_ut f n mi).1) ((lz_ut f n mi).2) 4294967292 4294967292 4294967292 7 c2))) w_763 w_765 ps_93 ⟨lk_93.1, lk_93.2.1, lk_93.2.2, by decide, by decide⟩ rfl (lea_g45 hH) rfl (by simp [Value.category]) dd_91_71 (e1_) ?_
  show am_Good mi_91 74 [some (.ref 45), some (.ref E), some (.retAddr fr), some (.retAddr set), none, none] [] (lea h n go (cl (lz_ut f n mi).1) ((lz_ut f n mi).2) 4294967292 4294967292 4294967292 7 c2) _
  refine g_iconst dd_91_74 ic_0 ?_
  refine g_istore dd_91_75 (am_nlb_ok rfl) (by decide) ?_
  exact hg
theorem lel_e {h : am_H} (hH : lea_ok h) {v32 v30 : List Value} {f : Nat → Nat → Nat} {cl : Nat → Nat} (q32 : am_get h 32 = some (.inr (9, v32))) (q30 : am_get h 30 = some (.inr (2, v30))) (ck : ∀ sn gg al en fg mf ma gb c s t, s < 4 → t ≤ 60 → am_EG mi_68 [.ref 32, .retAddr s, .retAddr t] (lea h sn gg al en fg mf ma gb c) (some (.retAddr (f s t)), lea h sn gg al en fg mf ma gb c)) (cf : ∀ sn gg al en fg mf ma gb c x, x < 256 → am_EG mi_57 [.ref 30, .retAddr x] (lea h sn gg al en fg mf ma gb c) (some (.retAddr (cl x)), lea h sn gg al en fg mf ma gb c)) (hf : ∀ s t, f s t < 256) (hcl : ∀ x, x < 256 → cl x < 256) {E a0 mi go n : Nat} {vE w0 : List Value} (nE : am_lk [(45, am_e0), (46, am_e0)] E = none) (qE : am_get h E = some (.inr (1, vE))) (e0 : vE[0]? = some (.ref a0)) (e6 : vE[6]? = some (.retAddr mi)) (e7 : vE[7]? = some (.retAddr go)) (nA : am_lk [(45, am_e0), (46, am_e0)] a0 = none) (r0 : am_get h a0 = some (.inr (8, w0))) (s0 : w0[3]? = some (.retAddr n)) (hmi : mi ≤ 60) (hn : n ≤ 4) (hgo : go ≤ 3) {sn gg al en fg mf ma gb c : Nat} {fr set : Nat} (hfr : fr < 4) (hset : set < 256) {v5 : Option Value} {t : Nat} (ht : ¬ t ≤ en) (h1 : t ≤ 100) (h2 : en ≤ 60) : am_Good mi_91 77 [some (.ref 45), some (.ref E), some (.retAddr fr), some (.retAddr set), some (.retAddr t), v5] [] (lea h sn gg al en fg mf ma gb c) (none, (lea h sn gg al en fg mf ma gb c)) := by
  refine g_iload dd_91_77 rfl ?_
  refine g_aload_n (i := 0) dd_91_79 rfl ?_
  refine g_getfield (k := 6) am_ck3 (by decide) (Or.inl w_230) dd_91_80 (lea_g45 hH) rfl ?_
  refine g_icmp_gt_t (t := 119) dd_91_83 (by decide) (by first | exact sk_gt_t (by omega) (by omega) | exact tk_gt_t (by omega)) ?_
  exact g_return rfl dd_91_119
theorem lel_s {h : am_H} (hH : lea_ok h) {v32 v30 : List Value} {f : Nat → Nat → Nat} {cl : Nat → Nat} (q32 : am_get h 32 = some (.inr (9, v32))) (q30 : am_get h 30 = some (.inr (2, v30))) (ck : ∀ sn gg al en fg mf ma gb c s t, s < 4 → t ≤ 60 → am_EG mi_68 [.ref 32, .retAddr s, .retAddr t] (lea h sn gg al en fg mf ma gb c) (some (.retAddr (f s t)), lea h sn gg al en fg mf ma gb c)) (cf : ∀ sn gg al en fg mf ma gb c x, x < 256 → am_EG mi_57 [.ref 30, .retAddr x] (lea h sn gg al en fg mf ma gb c) (some (.retAddr (cl x)), lea h sn gg al en fg mf ma gb c)) (hf : ∀ s t, f s t < 256) (hcl : ∀ x, x < 256 → cl x < 256) {E a0 mi go n : Nat} {vE w0 : List Value} (nE : am_lk [(45, am_e0), (46, am_e0)] E = none) (qE : am_get h E = some (.inr (1, vE))) (e0 : vE[0]? = some (.ref a0)) (e6 : vE[6]? = some (.retAddr mi)) (e7 : vE[7]? = some (.retAddr go)) (nA : am_lk [(45, am_e0), (46, am_e0)] a0 = none) (r0 : am_get h a0 = some (.inr (8, w0))) (s0 : w0[3]? = some (.retAddr n)) (hmi : mi ≤ 60) (hn : n ≤ 4) (hgo : go ≤ 3) {sn gg al en fg mf ma gb c : Nat} {fr set : Nat} (hfr : fr < 4) (hset : set < 256) {v5 : Option Value} {t : Nat} {r : am_R} (ht : t ≤ en) (h2 : en ≤ 60) (hg : am_Good mi_91 89 [some (.ref 45), some (.ref E), some (.retAddr fr), some (.retAddr set), some (.retAddr t), some (.retAddr 0)] [] (lea h sn gg al en fg mf ma gb c) r) : am_Good mi_91 77 [some (.ref 45), some (.ref E), some (.retAddr fr), some (.retAddr set), some (.retAddr t), v5] [] (lea h sn gg al en fg mf ma gb c) r := by
  refine g_iload dd_91_77 rfl ?_
  refine g_aload_n (i := 0) dd_91_79 rfl ?_
  refine g_getfield (k := 6) am_ck3 (by decide) (Or.inl w_230) dd_91_80 (lea_g45 hH) rfl ?_
  refine g_icmp_gt_f (t := 119) dd_91_83 (by decide) (by first | exact sk_gt_f (by omega) (by omega) | exact tk_gt_f (by omega)) ?_
  refine g_iconst dd_91_86 ic_0 ?_
  refine g_istore dd_91_87 (am_nlb_ok rfl) (by decide) ?_
  exact hg
theorem lel_o {h : am_H} (hH : lea_ok h) {v32 v30 : List Value} {f : Nat → Nat → Nat} {cl : Nat → Nat} (q32 : am_get h 32 = some (.inr (9, v32))) (q30 : am_get h 30 = some (.inr (2, v30))) (ck : ∀ sn gg al en fg mf ma gb c s t, s < 4 → t ≤ 60 → am_EG mi_68 [.ref 32, .retAddr s, .retAddr t] (lea h sn gg al en fg mf ma gb c) (some (.retAddr (f s t)), lea h sn gg al en fg mf ma gb c)) (cf : ∀ sn gg al en fg mf ma gb c x, x < 256 → am_EG mi_57 [.ref 30, .retAddr x] (lea h sn gg al en fg mf ma gb c) (some (.retAddr (cl x)), lea h sn gg al en fg mf ma gb c)) (hf : ∀ s t, f s t < 256) (hcl : ∀ x, x < 256 → cl x < 256) {E a0 mi go n : Nat} {vE w0 : List Value} (nE : am_lk [(45, am_e0), (46, am_e0)] E = none) (qE : am_get h E = some (.inr (1, vE))) (e0 : vE[0]? = some (.ref a0)) (e6 : vE[6]? = some (.retAddr mi)) (e7 : vE[7]? = some (.retAddr go)) (nA : am_lk [(45, am_e0), (46, am_e0)] a0 = none) (r0 : am_get h a0 = some (.inr (8, w0))) (s0 : w0[3]? = some (.retAddr n)) (hmi : mi ≤ 60) (hn : n ≤ 4) (hgo : go ≤ 3) {sn gg al en fg mf ma gb c : Nat} {fr set : Nat} (hfr : fr < 4) (hset : set < 256) {t : Nat} {r : am_R} (ht : t ≤ 60) (hsn : sn ≤ 4) (hg : am_Good mi_91 77 [some (.ref 45), some (.ref E), some (.retAddr fr), some (.retAddr set), some (.retAddr (t + 1)), some (.retAddr sn)] [] (lea h sn gg al en fg mf ma gb c) r) : am_Good mi_91 89 [some (.ref 45), some (.ref E), some (.retAddr fr), some (.retAddr set), some (.retAddr t), some (.retAddr sn)] [] (lea h sn gg al en fg mf ma gb c) r := by
  refine g_iload dd_91_89 rfl ?_
  refine g_aload_n (i := 0) dd_91_91 rfl ?_
  refine g_getfield (k := 3) am_ck3 (by decide) (Or.inl w_227) dd_91_92 (lea_g45 hH) rfl ?_
  refine g_icmp_ge_t (t := 113) dd_91_95 (by decide) (by first | exact sk_ge_t (by omega) (by omega) | exact tk_ge_t (by omega)) ?_
  refine e_iinc (v := 1) (w := t + 1) dd_91_113 rfl ic_1 (am_nlb_ok rfl) (by decide) (by omega) ?_
  refine g_goto (t := 77) dd_91_116 (by decide) ?_
  exact hg
theorem lel_i {h : am_H} (hH : lea_ok h) {v32 v30 : List Value} {f : Nat → Nat → Nat} {cl : Nat → Nat} (q32 : am_get h 32 = some (.inr (9, v32))) (q30 : am_get h 30 = some (.inr (2, v30))) (ck : ∀ sn gg al en fg mf ma gb c s t, s < 4 → t ≤ 60 → am_EG mi_68 [.ref 32, .retAddr s, .retAddr t] (lea h sn gg al en fg mf ma gb c) (some (.retAddr (f s t)), lea h sn gg al en fg mf ma gb c)) (cf : ∀ sn gg al en fg mf ma gb c x, x < 256 → am_EG mi_57 [.ref 30, .retAddr x] (lea h sn gg al en fg mf ma gb c) (some (.retAddr (cl x)), lea h sn gg al en fg mf ma gb c)) (hf : ∀ s t, f s t < 256) (hcl : ∀ x, x < 256 → cl x < 256) {E a0 mi go n : Nat} {vE w0 : List Value} (nE : am_lk [(45, am_e0), (46, am_e0)] E = none) (qE : am_get h E = some (.inr (1, vE))) (e0 : vE[0]? = some (.ref a0)) (e6 : vE[6]? = some (.retAddr mi)) (e7 : vE[7]? = some (.retAddr go)) (nA : am_lk [(45, am_e0), (46, am_e0)] a0 = none) (r0 : am_get h a0 = some (.inr (8, w0))) (s0 : w0[3]? = some (.retAddr n)) (hmi : mi ≤ 60) (hn : n ≤ 4) (hgo : go ≤ 3) {sn gg al en fg mf ma gb c : Nat} {fr set : Nat} (hfr : fr < 4) (hset : set < 256) {t s fg2 mf2 ma2 gb2 c2 : Nat} {r : am_R} (ht : t ≤ 60) (hs : s < sn) (hsn : sn ≤ 4) (e1_ : am_EG mi_96 [.ref 45, .retAddr t, .retAddr s, .retAddr set] (lea h sn gg al en fg mf ma gb c) (none, (lea h sn gg al en fg2 mf2 ma2 gb2 c2))) (hg : am_Good mi_91 89 [some (.ref 45), some (.ref E), some (.retAddr fr), some (.retAddr set), some (.retAddr t), some (.retAddr (s + 1))] [] (lea h sn gg al en fg2 mf2 ma2 gb2 c2) r) : am_Good mi_91 89 [some (.ref 45), some (.ref E), some (.retAddr fr), some (.retAddr set), some (.retAddr t), some (.retAddr s)] [] (lea h sn gg al en fg mf ma gb c) r := by
  refine g_iload dd_91_89 rfl ?_
  refine g_aload_n (i := 0) dd_91_91 rfl ?_
  refine g_getfield (k := 3) am_ck3 (by decide) (Or.inl w_227) dd_91_92 (lea_g45 hH) rfl ?_
  refine g_icmp_ge_f (t := 113) dd_91_95 (by decide) (by first | exact sk_ge_f (by omega) (by omega) | exact tk_ge_f (by omega)) ?_
  refine g_aload_n (i := 0) dd_91_98 rfl ?_
  refine g_iload dd_91_99 rfl ?_
  refine g_iload dd_91_101 rfl ?_
  refine g_iload_n (i := 3) dd_91_103 rfl ?_
  refine g_virtual (M' := mi_96) (n := 3) (ci := 3) (b := 45) (as := [.retAddr t, .retAddr s, .retAddr set]) (st := []) (r1 := (none, (lea h sn gg al en fg2 mf2 ma2 gb2 c2))) w_773 w_775 ps_96 ⟨lk_96.1, lk_96.2.1, lk_96.2.2, by decide, by decide⟩ rfl (lea_g45 hH) rfl (by simp [Value.category]) dd_91_104 (e1_) ?_
  show am_Good mi_91 107 [some (.ref 45), some (.ref E), some (.retAddr fr), some (.retAddr set), some (.retAddr t), some (.retAddr s)] [] (lea h sn gg al en fg2 mf2 ma2 gb2 c2) _
  refine e_iinc (v := 1) (w := s + 1) dd_91_107 rfl ic_1 (am_nlb_ok rfl) (by decide) (by omega) ?_
  refine g_goto (t := 89) dd_91_110 (by decide) ?_
  exact hg
theorem lea_Is {en A : Nat} {cl : Nat → Nat} {f : Nat → Nat → Nat} {go st set t : Nat} {σ : (Nat → Nat) × Nat × Nat × Nat × Nat} (ht : t ≤ 60) (hI : lea_yI σ) : ∀ s, lea_yI (lz_ws en A cl f go st set t σ s)
  | 0 => hI
  | s + 1 => lea_yIx ht (lea_Is ht hI s) (A + 1)
theorem lea_It {en A : Nat} {cl : Nat → Nat} {f : Nat → Nat → Nat} {go st set : Nat} {σ : (Nat → Nat) × Nat × Nat × Nat × Nat} (hI : lea_yI σ) : ∀ t, t ≤ 61 → lea_yI (lz_wt en A cl f go st set σ t)
  | 0, _ => hI
  | t + 1, h => lea_Is (by omega) (lea_It hI t (by omega)) st
theorem lel_il {h : am_H} (hH : lea_ok h) {v32 v30 : List Value} {f : Nat → Nat → Nat} {cl : Nat → Nat} (q32 : am_get h 32 = some (.inr (9, v32))) (q30 : am_get h 30 = some (.inr (2, v30))) (ck : ∀ sn gg al en fg mf ma gb c s t, s < 4 → t ≤ 60 → am_EG mi_68 [.ref 32, .retAddr s, .retAddr t] (lea h sn gg al en fg mf ma gb c) (some (.retAddr (f s t)), lea h sn gg al en fg mf ma gb c)) (cf : ∀ sn gg al en fg mf ma gb c x, x < 256 → am_EG mi_57 [.ref 30, .retAddr x] (lea h sn gg al en fg mf ma gb c) (some (.retAddr (cl x)), lea h sn gg al en fg mf ma gb c)) (hf : ∀ s t, f s t < 256) (hcl : ∀ x, x < 256 → cl x < 256) {E a0 mi go n : Nat} {vE w0 : List Value} (nE : am_lk [(45, am_e0), (46, am_e0)] E = none) (qE : am_get h E = some (.inr (1, vE))) (e0 : vE[0]? = some (.ref a0)) (e6 : vE[6]? = some (.retAddr mi)) (e7 : vE[7]? = some (.retAddr go)) (nA : am_lk [(45, am_e0), (46, am_e0)] a0 = none) (r0 : am_get h a0 = some (.inr (8, w0))) (s0 : w0[3]? = some (.retAddr n)) (hmi : mi ≤ 60) (hn : n ≤ 4) (hgo : go ≤ 3) {sn gg al en : Nat} {σ : (Nat → Nat) × Nat × Nat × Nat × Nat}  {fr set : Nat} (hfr : fr < 4) (hset : set < 256) {t : Nat} (ht : t ≤ 60) (hsn : sn ≤ 4) (hgg : gg ≤ 3) (hen : en ≤ 60) (hal : al < 256) (hI : lea_yI σ) : ∀ (d s : Nat) (g : am_H), s + d = sn → lea_yH h sn gg al en (lz_ws en al cl f gg sn set t σ s) g → ∃ g', lea_yH h sn gg al en (lz_ws en al cl f gg sn set t σ sn) g' ∧ ∀ r, am_Good mi_91 77 [some (.ref 45), some (.ref E), some (.retAddr fr), some (.retAddr set), some (.retAddr (t + 1)), some (.retAddr sn)] [] g' r → am_Good mi_91 89 [some (.ref 45), some (.ref E), some (.retAddr fr), some (.retAddr set), some (.retAddr t), some (.retAddr s)] [] g r
  | 0, s, g, e, hg => by
    have e' : s = sn := by omega
    subst e'
    refine ⟨g, hg, fun r hr => ?_⟩
    obtain ⟨c, rfl, hc⟩ := hg
    exact lel_o hH q32 q30 ck cf hf hcl nE qE e0 e6 e7 nA r0 s0 hmi hn hgo hfr hset ht hsn hr
  | d + 1, s, g, e, hg => by
    obtain ⟨g1, h1, e1⟩ := lea_km hH q32 q30 ck cf hf hcl (s := s) ht (by omega) hset hsn hgg hen hal (lea_Is ht hI s) hg
    obtain ⟨g', h2, k⟩ := lel_il hH q32 q30 ck cf hf hcl nE qE e0 e6 e7 nA r0 s0 hmi hn hgo hfr hset ht hsn hgg hen hal hI d (s + 1) g1 (by omega) h1
    refine ⟨g', h2, fun r hr => ?_⟩
    have q := k r hr
    obtain ⟨c, rfl, hc⟩ := hg
    obtain ⟨c1, rfl, hc1⟩ := h1
    exact lel_i hH q32 q30 ck cf hf hcl nE qE e0 e6 e7 nA r0 s0 hmi hn hgo hfr hset ht (by omega) hsn e1 q
theorem lel_ol {h : am_H} (hH : lea_ok h) {v32 v30 : List Value} {f : Nat → Nat → Nat} {cl : Nat → Nat} (q32 : am_get h 32 = some (.inr (9, v32))) (q30 : am_get h 30 = some (.inr (2, v30))) (ck : ∀ sn gg al en fg mf ma gb c s t, s < 4 → t ≤ 60 → am_EG mi_68 [.ref 32, .retAddr s, .retAddr t] (lea h sn gg al en fg mf ma gb c) (some (.retAddr (f s t)), lea h sn gg al en fg mf ma gb c)) (cf : ∀ sn gg al en fg mf ma gb c x, x < 256 → am_EG mi_57 [.ref 30, .retAddr x] (lea h sn gg al en fg mf ma gb c) (some (.retAddr (cl x)), lea h sn gg al en fg mf ma gb c)) (hf : ∀ s t, f s t < 256) (hcl : ∀ x, x < 256 → cl x < 256) {E a0 mi go n : Nat} {vE w0 : List Value} (nE : am_lk [(45, am_e0), (46, am_e0)] E = none) (qE : am_get h E = some (.inr (1, vE))) (e0 : vE[0]? = some (.ref a0)) (e6 : vE[6]? = some (.retAddr mi)) (e7 : vE[7]? = some (.retAddr go)) (nA : am_lk [(45, am_e0), (46, am_e0)] a0 = none) (r0 : am_get h a0 = some (.inr (8, w0))) (s0 : w0[3]? = some (.retAddr n)) (hmi : mi ≤ 60) (hn : n ≤ 4) (hgo : go ≤ 3) {sn gg al en : Nat} {σ : (Nat → Nat) × Nat × Nat × Nat × Nat}  {fr set : Nat} (hfr : fr < 4) (hset : set < 256) (hsn : sn ≤ 4) (hgg : gg ≤ 3) (hen : en ≤ 60) (hal : al < 256) (hI : lea_yI σ) : ∀ (d t : Nat) (g : am_H) (v5 : Option Value), t + d = en + 1 → lea_yH h sn gg al en (lz_wt en al cl f gg sn set σ t) g → ∃ g', lea_yH h sn gg al en (lz_wt en al cl f gg sn set σ (en + 1)) g' ∧ am_Good mi_91 77 [some (.ref 45), some (.ref E), some (.retAddr fr), some (.retAddr set), some (.retAddr t), v5] [] g (none, g')
  | 0, t, g, v5, e, hg => by
    have e' : t = en + 1 := by omega
    subst e'
    refine ⟨g, hg, ?_⟩
    obtain ⟨c, rfl, hc⟩ := hg
    exact lel_e hH q32 q30 ck cf hf hcl nE qE e0 e6 e7 nA r0 s0 hmi hn hgo hfr hset (by omega) (by omega) hen
  | d + 1, t, g, v5, e, hg => by
    obtain ⟨g1, h1, k⟩ := lel_il hH q32 q30 ck cf hf hcl nE qE e0 e6 e7 nA r0 s0 hmi hn hgo hfr hset (t := t) (by omega) hsn hgg hen hal (lea_It hI t (by omega)) sn 0 g (by omega) hg
    obtain ⟨g', h2, q⟩ := lel_ol hH q32 q30 ck cf hf hcl nE qE e0 e6 e7 nA r0 s0 hmi hn hgo hfr hset hsn hgg hen hal hI d (t + 1) g1 (some (.retAddr sn)) (by omega) h1
    refine ⟨g', h2, ?_⟩
    have q2 := k _ q
    obtain ⟨c, rfl, hc⟩ := hg
    exact lel_s hH q32 q30 ck cf hf hcl nE qE e0 e6 e7 nA r0 s0 hmi hn hgo hfr hset (by omega) hen q2
theorem lel_m {h : am_H} (hH : lea_ok h) {v32 v30 : List Value} {f : Nat → Nat → Nat} {cl : Nat → Nat} (q32 : am_get h 32 = some (.inr (9, v32))) (q30 : am_get h 30 = some (.inr (2, v30))) (ck : ∀ sn gg al en fg mf ma gb c s t, s < 4 → t ≤ 60 → am_EG mi_68 [.ref 32, .retAddr s, .retAddr t] (lea h sn gg al en fg mf ma gb c) (some (.retAddr (f s t)), lea h sn gg al en fg mf ma gb c)) (cf : ∀ sn gg al en fg mf ma gb c x, x < 256 → am_EG mi_57 [.ref 30, .retAddr x] (lea h sn gg al en fg mf ma gb c) (some (.retAddr (cl x)), lea h sn gg al en fg mf ma gb c)) (hf : ∀ s t, f s t < 256) (hcl : ∀ x, x < 256 → cl x < 256) {E a0 mi go n : Nat} {vE w0 : List Value} (nE : am_lk [(45, am_e0), (46, am_e0)] E = none) (qE : am_get h E = some (.inr (1, vE))) (e0 : vE[0]? = some (.ref a0)) (e6 : vE[6]? = some (.retAddr mi)) (e7 : vE[7]? = some (.retAddr go)) (nA : am_lk [(45, am_e0), (46, am_e0)] a0 = none) (r0 : am_get h a0 = some (.inr (8, w0))) (s0 : w0[3]? = some (.retAddr n)) (hmi : mi ≤ 60) (hn : n ≤ 4) (hgo : go ≤ 3) {sn gg al en fg mf ma gb c : Nat}  {fr set : Nat} (hfr : fr < 4) (hset : set < 256) (hc99 : ∀ i, i < 4096 → am_ag c i = 99) (hal : cl (lz_ut f n mi).1 < 256) (hc : cl (lz_ut f n mi).1 &&& set = set) : ∃ g', lea_yH h n go (cl (lz_ut f n mi).1) (lz_ut f n mi).2 (lz_wt (lz_ut f n mi).2 (cl (lz_ut f n mi).1) cl f go n set (lz_c0 fr, 7, 4294967292, 4294967292, 4294967292) ((lz_ut f n mi).2 + 1)) g' ∧ am_EG mi_91 [.ref 45, .ref E, .retAddr fr, .retAddr set] (lea h sn gg al en fg mf ma gb c) (none, g') := by
  have he : (lz_ut f n mi).2 ≤ 60 := Nat.le_trans (lz_ut_p (st := n) hf mi).1.2 hmi
  obtain ⟨c1, a1, b1⟩ := lea_rm hH q32 q30 ck cf hf hcl (sn := n) (gg := go) (al := cl (lz_ut f n mi).1) (en := (lz_ut f n mi).2) (fg := 4294967292) (mf := 4294967292) (ma := 4294967292) (gb := 7) (c := c) (e := fun _ => 99) (t := 0) (s := fr) (x := 0) (n := 0) (by decide) hfr (by decide) (by decide) he (by decide) hc99 (fun _ => Nat.le_refl _)
  have hI : lea_yI (lz_c0 fr, 7, 4294967292, 4294967292, 4294967292) := ⟨fun i => by
    show lz_c0 fr i = 99 ∨ lz_c0 fr i ≤ 6
    unfold lz_c0
    by_cases q : i = lz_ixc 0 fr 0
    · rw [if_pos q]; exact Or.inr (by decide)
    · rw [if_neg q]; exact Or.inl rfl, Nat.le_refl _, show 4294967292 < 4294967296 by decide⟩
  obtain ⟨g', h2, q⟩ := lel_ol hH q32 q30 ck cf hf hcl nE qE e0 e6 e7 nA r0 s0 hmi hn hgo hfr hset hn hgo he hal hI ((lz_ut f n mi).2 + 1) 0 _ none (by omega) ⟨c1, rfl, fun i hi => (a1 i hi).trans (lz_c0_i i)⟩
  exact ⟨g', h2, lel_1 hH q32 q30 ck cf hf hcl nE qE e0 e6 e7 nA r0 s0 hmi hn hgo hfr hset hc hal b1 q⟩
