/-! ===== matters: both ===== -/
/-- the class shows a case on its trial screen -/
theorem sh_q {h : am_H} (hJ : Jv h) {E mi go : Nat} {Z X Y : Nat → Nat} (hA : je_A h E mi go Z X Y) {come wo : Nat} (hco : come < 65536) (hwo : wo < 4294967296) : ∃ g, am_EG mi_32 [.ref 36, .ref E, .retAddr come, .retAddr wo] h (none, g) ∧ Jv g ∧ je_A g E mi go Z X Y ∧ (g.1 = h.1 ∧ g.2.1 = h.2.1) ∧ scR g Z Y come wo 36 37 38 39 := by
  have hP := hA.2.2.2.1
  have vC := hP.2.2.2.1
  have hBX : je_B Z X := je_bX hP.2.1 hP.2.2.1 vC
  obtain ⟨v0, q0, -, -, -, -, -, -, -, -, -, -, -, -, -, q36, -⟩ := je_xo hA
  have key : ∀ (sb : ax_Sh), ax_I sb h → (am_EG mi_32 [.ref 36, .ref E, .retAddr come, .retAddr wo] h (none, sv36 h (shW Z X come wo (rowv h 37)) (shF Z X come wo (rowv h 38)) (shB Z X come wo (rowv h 39))) ∧ ax_I sb (sv36 h (shW Z X come wo (rowv h 37)) (shF Z X come wo (rowv h 38)) (shB Z X come wo (rowv h 39))) ∧ sv36_ok h) → (ax_I sb0 h → ax_I sb0 (sv36 h (shW Z X come wo (rowv h 37)) (shF Z X come wo (rowv h 38)) (shB Z X come wo (rowv h 39)))) → (ax_I sb1 h → ax_I sb1 (sv36 h (shW Z X come wo (rowv h 37)) (shF Z X come wo (rowv h 38)) (shB Z X come wo (rowv h 39)))) → ∃ g, am_EG mi_32 [.ref 36, .ref E, .retAddr come, .retAddr wo] h (none, g) ∧ Jv g ∧ je_A g E mi go Z X Y ∧ (g.1 = h.1 ∧ g.2.1 = h.2.1) ∧ scR g Z Y come wo 36 37 38 39 := fun sb hI ⟨e, i, hH⟩ i0 i1 => by
    have k4 : kp h (sv36 h (shW Z X come wo (rowv h 37)) (shF Z X come wo (rowv h 38)) (shB Z X come wo (rowv h 39))) 4 := kp_ck [37, 38, 39] (fun a ha => sv36_o hH ha) (by decide) (fun k _ => ax_fv_get (sv36_o hH rfl) k)
    have k17 : kp h (sv36 h (shW Z X come wo (rowv h 37)) (shF Z X come wo (rowv h 38)) (shB Z X come wo (rowv h 39))) 17 := kp_ck [37, 38, 39] (fun a ha => sv36_o hH ha) (by decide) (fun k _ => ax_fv_get (sv36_o hH rfl) k)
    have kE : kp h (sv36 h (shW Z X come wo (rowv h 37)) (shF Z X come wo (rowv h 38)) (shB Z X come wo (rowv h 39))) E := by
      rcases hA.1 with ⟨rfl, -⟩ | ⟨rfl, -⟩
      · exact k4
      · exact k17
    refine ⟨_, e, Jv_x hJ (fun a ha => sv36_o hH (am_lk_ct (ks := [37, 38, 39]) (by simp; omega))) (fun q => ⟨i0 q, k4⟩) (fun q => ⟨i1 q, k17⟩) (sv36_o hH rfl) (ax_fv_get (sv36_o hH rfl) 1) (ax_fv_get (sv36_o hH rfl) 16), je_A_kp kE i0 i1 hA, by unfold sv36; exact am_ups_1 _, _, _, _, (sv36_o hH rfl).trans q36, sv36_g37 hH, sv36_g38 hH, sv36_g39 hH, fun s hs t ht => ?_⟩
    have bd := je_B_bd hBX
    rw [← sc_W_cg (vC 0 (by decide)) (vC 1 (by decide)) (vC 2 (by decide)) (vC 3 (by decide)) come wo s t hs, ← sc_F_cg (vC 1 (by decide)) (vC 2 (by decide)) (vC 3 (by decide)) come wo s t, ← sc_B_cg (vC 2 (by decide)) (vC 3 (by decide)) come s t]
    exact ⟨shW_ag bd hs ht, shF_ag bd hs ht, shB_ag bd hs ht⟩
  have d1 := hA.2.1
  rcases hA.1 with ⟨rfl, i⟩ | ⟨rfl, i⟩
  · have e := sh1_36 i d1 hP.2.1 hBX hco hwo
    exact key sb0 i e (fun _ => e.2.1) (fun q => (sb_no i q).elim)
  · have e := sh0_36 i d1 hP.2.1 hBX hco hwo
    exact key sb1 i e (fun q => (sb_no q i).elim) (fun _ => e.2.1)
theorem mtx_w {h g k : am_H} {r : am_R} {E a1 n1 i wN kN acc s wok sek ck : Nat} {v0 : List Value} (q0 : am_get h 0 = some (.inr (11, v0))) (x3 : v0[3]? = some (.ref E)) (x5 : v0[5]? = some (.ref 30)) (x6 : v0[6]? = some (.ref 32)) (x7 : v0[7]? = some (.ref 36)) (x8 : v0[8]? = some (.ref 40)) {vE w1 : List Value} (qE : am_get h E = some (.inr (1, vE))) (e1 : vE[1]? = some (.ref a1)) (r1 : am_get h a1 = some (.inr (8, w1))) (s1 : w1[3]? = some (.retAddr n1)) {v36 : List Value} (q36 : am_get h 36 = some (.inr (9, v36))) {v0g : List Value} (q0g : am_get g 0 = some (.inr (11, v0g))) (x3g : v0g[3]? = some (.ref E)) (x5g : v0g[5]? = some (.ref 30)) (x6g : v0g[6]? = some (.ref 32)) (x7g : v0g[7]? = some (.ref 36)) (x8g : v0g[8]? = some (.ref 40)) {v0k : List Value} (q0k : am_get k 0 = some (.inr (11, v0k))) (x3k : v0k[3]? = some (.ref E)) (x5k : v0k[5]? = some (.ref 30)) (x6k : v0k[6]? = some (.ref 32)) (x7k : v0k[7]? = some (.ref 36)) (x8k : v0k[8]? = some (.ref 40)) {v40k : List Value} (q40k : am_get k 40 = some (.inr (10, v40k))) (t4k : v40k[4]? = some (.retAddr wok)) (t5k : v40k[5]? = some (.retAddr sek)) {v30k : List Value} (q30k : am_get k 30 = some (.inr (2, v30k))) (hn : n1 ≤ 9) (hs : s < n1) (hw1 : wN < 2147483648) (hw2 : wok < 2147483648) (hk1 : kN < 256) (hk2 : ck < 256) (e1_ : am_EG mi_32 [.ref 36, .ref E, .retAddr 0, .retAddr s] h (none, g)) (e2_ : am_EG mi_60 [.ref 0, .retAddr i, .ref 36] g (none, k)) (e3_ : am_EG mi_57 [.ref 30, .retAddr sek] k (some (.retAddr ck), k)) (hc : wok ≠ wN) (hg : am_Good mi_121 48 [some (.ref 0), some (.retAddr i), some (.retAddr wN), some (.retAddr kN), some (.retAddr (acc ||| 2 ^ s)), some (.retAddr (s + 1))] [] k r) : am_Good mi_121 48 [some (.ref 0), some (.retAddr i), some (.retAddr wN), some (.retAddr kN), some (.retAddr acc), some (.retAddr s)] [] h r := by
  refine g_iload dd_121_48 rfl ?_
  refine g_aload_n (i := 0) dd_121_50 rfl ?_
  refine g_getfield (k := 3) am_ck11 (by decide) (Or.inl w_514) dd_121_51 q0 x3 ?_
  refine g_getfield (k := 1) am_ck1 (by decide) (Or.inr ⟨_, w_89⟩) dd_121_54 qE e1 ?_
  refine g_getfield (k := 3) am_ck8 (by decide) (Or.inr ⟨_, w_67⟩) dd_121_57 r1 s1 ?_
  refine g_icmp_ge_f (t := 130) dd_121_60 (by decide) (by first | exact sk_ge_f (by omega) (by omega) | exact tk_ge_f (by omega)) ?_
  refine g_aload_n (i := 0) dd_121_63 rfl ?_
  refine g_getfield (k := 7) am_ck11 (by decide) (Or.inl w_518) dd_121_64 q0 x7 ?_
  refine g_aload_n (i := 0) dd_121_67 rfl ?_
  refine g_getfield (k := 3) am_ck11 (by decide) (Or.inl w_514) dd_121_68 q0 x3 ?_
  refine g_iconst dd_121_71 ic_0 ?_
  refine g_iload dd_121_72 rfl ?_
  refine g_virtual (M' := mi_32) (n := 3) (ci := 9) (b := 36) (as := [.ref E, .retAddr 0, .retAddr s]) (st := []) (r1 := (none, g)) w_453 w_454 w_455 ⟨lk_32.1, lk_32.2.1, lk_32.2.2, by decide, by decide⟩ rfl q36 rfl (by simp [Value.category]) dd_121_74 (e1_) ?_
  show am_Good mi_121 77 [some (.ref 0), some (.retAddr i), some (.retAddr wN), some (.retAddr kN), some (.retAddr acc), some (.retAddr s)] [] g _
  refine g_aload_n (i := 0) dd_121_77 rfl ?_
  refine g_iload_n (i := 1) dd_121_78 rfl ?_
  refine g_aload_n (i := 0) dd_121_79 rfl ?_
  refine g_getfield (k := 7) am_ck11 (by decide) (Or.inl w_518) dd_121_80 q0g x7g ?_
  refine g_virtual (M' := mi_60) (n := 2) (ci := 11) (b := 0) (as := [.retAddr i, .ref 36]) (st := []) (r1 := (none, k)) w_620 w_622 ps_60 ⟨lk_60.1, lk_60.2.1, lk_60.2.2, by decide, by decide⟩ rfl q0g rfl (by simp [Value.category]) dd_121_83 (e2_) ?_
  show am_Good mi_121 86 [some (.ref 0), some (.retAddr i), some (.retAddr wN), some (.retAddr kN), some (.retAddr acc), some (.retAddr s)] [] k _
  refine g_aload_n (i := 0) dd_121_86 rfl ?_
  refine g_getfield (k := 8) am_ck11 (by decide) (Or.inl w_519) dd_121_87 q0k x8k ?_
  refine g_getfield (k := 4) am_ck10 (by decide) (Or.inr ⟨_, w_174⟩) dd_121_90 q40k t4k ?_
  refine g_iload_n (i := 2) dd_121_93 rfl ?_
  refine g_icmp_ne_t (t := 115) dd_121_94 (by decide) (tk_ne_t (by omega)) ?_
  refine g_iload dd_121_115 rfl ?_
  refine g_iconst dd_121_117 ic_1 ?_
  refine g_iload dd_121_118 rfl ?_
  refine e_ishl (v := 2 ^ s) dd_121_120 (sh_b (by omega)) ?_
  refine e_ior (v := acc ||| 2 ^ s) dd_121_121 rfl ?_
  refine g_istore dd_121_122 (am_nlb_ok rfl) (by decide) ?_
  refine e_iinc (v := 1) (w := s + 1) dd_121_124 rfl ic_1 (am_nlb_ok rfl) (by decide) (by omega) ?_
  refine g_goto (t := 48) dd_121_127 (by decide) ?_
  exact hg
theorem mtx_k {h g k : am_H} {r : am_R} {E a1 n1 i wN kN acc s wok sek ck : Nat} {v0 : List Value} (q0 : am_get h 0 = some (.inr (11, v0))) (x3 : v0[3]? = some (.ref E)) (x5 : v0[5]? = some (.ref 30)) (x6 : v0[6]? = some (.ref 32)) (x7 : v0[7]? = some (.ref 36)) (x8 : v0[8]? = some (.ref 40)) {vE w1 : List Value} (qE : am_get h E = some (.inr (1, vE))) (e1 : vE[1]? = some (.ref a1)) (r1 : am_get h a1 = some (.inr (8, w1))) (s1 : w1[3]? = some (.retAddr n1)) {v36 : List Value} (q36 : am_get h 36 = some (.inr (9, v36))) {v0g : List Value} (q0g : am_get g 0 = some (.inr (11, v0g))) (x3g : v0g[3]? = some (.ref E)) (x5g : v0g[5]? = some (.ref 30)) (x6g : v0g[6]? = some (.ref 32)) (x7g : v0g[7]? = some (.ref 36)) (x8g : v0g[8]? = some (.ref 40)) {v0k : List Value} (q0k : am_get k 0 = some (.inr (11, v0k))) (x3k : v0k[3]? = some (.ref E)) (x5k : v0k[5]? = some (.ref 30)) (x6k : v0k[6]? = some (.ref 32)) (x7k : v0k[7]? = some (.ref 36)) (x8k : v0k[8]? = some (.ref 40)) {v40k : List Value} (q40k : am_get k 40 = some (.inr (10, v40k))) (t4k : v40k[4]? = some (.retAddr wok)) (t5k : v40k[5]? = some (.retAddr sek)) {v30k : List Value} (q30k : am_get k 30 = some (.inr (2, v30k))) (hn : n1 ≤ 9) (hs : s < n1) (hw1 : wN < 2147483648) (hw2 : wok < 2147483648) (hk1 : kN < 256) (hk2 : ck < 256) (e1_ : am_EG mi_32 [.ref 36, .ref E, .retAddr 0, .retAddr s] h (none, g)) (e2_ : am_EG mi_60 [.ref 0, .retAddr i, .ref 36] g (none, k)) (e3_ : am_EG mi_57 [.ref 30, .retAddr sek] k (some (.retAddr ck), k)) (hc : wok = wN) (hd : ck ≠ kN) (hg : am_Good mi_121 48 [some (.ref 0), some (.retAddr i), some (.retAddr wN), some (.retAddr kN), some (.retAddr (acc ||| 2 ^ s)), some (.retAddr (s + 1))] [] k r) : am_Good mi_121 48 [some (.ref 0), some (.retAddr i), some (.retAddr wN), some (.retAddr kN), some (.retAddr acc), some (.retAddr s)] [] h r := by
  refine g_iload dd_121_48 rfl ?_
  refine g_aload_n (i := 0) dd_121_50 rfl ?_
  refine g_getfield (k := 3) am_ck11 (by decide) (Or.inl w_514) dd_121_51 q0 x3 ?_
  refine g_getfield (k := 1) am_ck1 (by decide) (Or.inr ⟨_, w_89⟩) dd_121_54 qE e1 ?_
  refine g_getfield (k := 3) am_ck8 (by decide) (Or.inr ⟨_, w_67⟩) dd_121_57 r1 s1 ?_
  refine g_icmp_ge_f (t := 130) dd_121_60 (by decide) (by first | exact sk_ge_f (by omega) (by omega) | exact tk_ge_f (by omega)) ?_
  refine g_aload_n (i := 0) dd_121_63 rfl ?_
  refine g_getfield (k := 7) am_ck11 (by decide) (Or.inl w_518) dd_121_64 q0 x7 ?_
  refine g_aload_n (i := 0) dd_121_67 rfl ?_
  refine g_getfield (k := 3) am_ck11 (by decide) (Or.inl w_514) dd_121_68 q0 x3 ?_
  refine g_iconst dd_121_71 ic_0 ?_
  refine g_iload dd_121_72 rfl ?_
  refine g_virtual (M' := mi_32) (n := 3) (ci := 9) (b := 36) (as := [.ref E, .retAddr 0, .retAddr s]) (st := []) (r1 := (none, g)) w_453 w_454 w_455 ⟨lk_32.1, lk_32.2.1, lk_32.2.2, by decide, by decide⟩ rfl q36 rfl (by simp [Value.category]) dd_121_74 (e1_) ?_
  show am_Good mi_121 77 [some (.ref 0), some (.retAddr i), some (.retAddr wN), some (.retAddr kN), some (.retAddr acc), some (.retAddr s)] [] g _
  refine g_aload_n (i := 0) dd_121_77 rfl ?_
  refine g_iload_n (i := 1) dd_121_78 rfl ?_
  refine g_aload_n (i := 0) dd_121_79 rfl ?_
  refine g_getfield (k := 7) am_ck11 (by decide) (Or.inl w_518) dd_121_80 q0g x7g ?_
  refine g_virtual (M' := mi_60) (n := 2) (ci := 11) (b := 0) (as := [.retAddr i, .ref 36]) (st := []) (r1 := (none, k)) w_620 w_622 ps_60 ⟨lk_60.1, lk_60.2.1, lk_60.2.2, by decide, by decide⟩ rfl q0g rfl (by simp [Value.category]) dd_121_83 (e2_) ?_
  show am_Good mi_121 86 [some (.ref 0), some (.retAddr i), some (.retAddr wN), some (.retAddr kN), some (.retAddr acc), some (.retAddr s)] [] k _
  refine g_aload_n (i := 0) dd_121_86 rfl ?_
  refine g_getfield (k := 8) am_ck11 (by decide) (Or.inl w_519) dd_121_87 q0k x8k ?_
  refine g_getfield (k := 4) am_ck10 (by decide) (Or.inr ⟨_, w_174⟩) dd_121_90 q40k t4k ?_
  refine g_iload_n (i := 2) dd_121_93 rfl ?_
  refine g_icmp_ne_f (t := 115) dd_121_94 (by decide) (tk_ne_f (by omega)) ?_
  refine g_aload_n (i := 0) dd_121_97 rfl ?_
  refine g_getfield (k := 5) am_ck11 (by decide) (Or.inl w_516) dd_121_98 q0k x5k ?_
  refine g_aload_n (i := 0) dd_121_101 rfl ?_
  refine g_getfield (k := 8) am_ck11 (by decide) (Or.inl w_519) dd_121_102 q0k x8k ?_
  refine g_getfield (k := 5) am_ck10 (by decide) (Or.inr ⟨_, w_176⟩) dd_121_105 q40k t5k ?_
  refine g_virtual (M' := mi_57) (n := 1) (ci := 2) (b := 30) (as := [.retAddr sek]) (st := []) (r1 := (some (.retAddr ck), k)) w_608 w_609 w_610 ⟨lk_57.1, lk_57.2.1, lk_57.2.2, by decide, by decide⟩ rfl q30k rfl (by simp [Value.category]) dd_121_108 (e3_) ?_
  show am_Good mi_121 111 [some (.ref 0), some (.retAddr i), some (.retAddr wN), some (.retAddr kN), some (.retAddr acc), some (.retAddr s)] [.retAddr ck] k _
  refine g_iload_n (i := 3) dd_121_111 rfl ?_
  refine g_icmp_eq_f (t := 124) dd_121_112 (by decide) (tk_eq_f (by omega)) ?_
  refine g_iload dd_121_115 rfl ?_
  refine g_iconst dd_121_117 ic_1 ?_
  refine g_iload dd_121_118 rfl ?_
  refine e_ishl (v := 2 ^ s) dd_121_120 (sh_b (by omega)) ?_
  refine e_ior (v := acc ||| 2 ^ s) dd_121_121 rfl ?_
  refine g_istore dd_121_122 (am_nlb_ok rfl) (by decide) ?_
  refine e_iinc (v := 1) (w := s + 1) dd_121_124 rfl ic_1 (am_nlb_ok rfl) (by decide) (by omega) ?_
  refine g_goto (t := 48) dd_121_127 (by decide) ?_
  exact hg
theorem mtx_n {h g k : am_H} {r : am_R} {E a1 n1 i wN kN acc s wok sek ck : Nat} {v0 : List Value} (q0 : am_get h 0 = some (.inr (11, v0))) (x3 : v0[3]? = some (.ref E)) (x5 : v0[5]? = some (.ref 30)) (x6 : v0[6]? = some (.ref 32)) (x7 : v0[7]? = some (.ref 36)) (x8 : v0[8]? = some (.ref 40)) {vE w1 : List Value} (qE : am_get h E = some (.inr (1, vE))) (e1 : vE[1]? = some (.ref a1)) (r1 : am_get h a1 = some (.inr (8, w1))) (s1 : w1[3]? = some (.retAddr n1)) {v36 : List Value} (q36 : am_get h 36 = some (.inr (9, v36))) {v0g : List Value} (q0g : am_get g 0 = some (.inr (11, v0g))) (x3g : v0g[3]? = some (.ref E)) (x5g : v0g[5]? = some (.ref 30)) (x6g : v0g[6]? = some (.ref 32)) (x7g : v0g[7]? = some (.ref 36)) (x8g : v0g[8]? = some (.ref 40)) {v0k : List Value} (q0k : am_get k 0 = some (.inr (11, v0k))) (x3k : v0k[3]? = some (.ref E)) (x5k : v0k[5]? = some (.ref 30)) (x6k : v0k[6]? = some (.ref 32)) (x7k : v0k[7]? = some (.ref 36)) (x8k : v0k[8]? = some (.ref 40)) {v40k : List Value} (q40k : am_get k 40 = some (.inr (10, v40k))) (t4k : v40k[4]? = some (.retAddr wok)) (t5k : v40k[5]? = some (.retAddr sek)) {v30k : List Value} (q30k : am_get k 30 = some (.inr (2, v30k))) (hn : n1 ≤ 9) (hs : s < n1) (hw1 : wN < 2147483648) (hw2 : wok < 2147483648) (hk1 : kN < 256) (hk2 : ck < 256) (e1_ : am_EG mi_32 [.ref 36, .ref E, .retAddr 0, .retAddr s] h (none, g)) (e2_ : am_EG mi_60 [.ref 0, .retAddr i, .ref 36] g (none, k)) (e3_ : am_EG mi_57 [.ref 30, .retAddr sek] k (some (.retAddr ck), k)) (hc : wok = wN) (hd : ck = kN) (hg : am_Good mi_121 48 [some (.ref 0), some (.retAddr i), some (.retAddr wN), some (.retAddr kN), some (.retAddr acc), some (.retAddr (s + 1))] [] k r) : am_Good mi_121 48 [some (.ref 0), some (.retAddr i), some (.retAddr wN), some (.retAddr kN), some (.retAddr acc), some (.retAddr s)] [] h r := by
  refine g_iload dd_121_48 rfl ?_
  refine g_aload_n (i := 0) dd_121_50 rfl ?_
  refine g_getfield (k := 3) am_ck11 (by decide) (Or.inl w_514) dd_121_51 q0 x3 ?_
  refine g_getfield (k := 1) am_ck1 (by decide) (Or.inr ⟨_, w_89⟩) dd_121_54 qE e1 ?_
  refine g_getfield (k := 3) am_ck8 (by decide) (Or.inr ⟨_, w_67⟩) dd_121_57 r1 s1 ?_
  refine g_icmp_ge_f (t := 130) dd_121_60 (by decide) (by first | exact sk_ge_f (by omega) (by omega) | exact tk_ge_f (by omega)) ?_
  refine g_aload_n (i := 0) dd_121_63 rfl ?_
  refine g_getfield (k := 7) am_ck11 (by decide) (Or.inl w_518) dd_121_64 q0 x7 ?_
  refine g_aload_n (i := 0) dd_121_67 rfl ?_
  refine g_getfield (k := 3) am_ck11 (by decide) (Or.inl w_514) dd_121_68 q0 x3 ?_
  refine g_iconst dd_121_71 ic_0 ?_
  refine g_iload dd_121_72 rfl ?_
  refine g_virtual (M' := mi_32) (n := 3) (ci := 9) (b := 36) (as := [.ref E, .retAddr 0, .retAddr s]) (st := []) (r1 := (none, g)) w_453 w_454 w_455 ⟨lk_32.1, lk_32.2.1, lk_32.2.2, by decide, by decide⟩ rfl q36 rfl (by simp [Value.category]) dd_121_74 (e1_) ?_
  show am_Good mi_121 77 [some (.ref 0), some (.retAddr i), some (.retAddr wN), some (.retAddr kN), some (.retAddr acc), some (.retAddr s)] [] g _
  refine g_aload_n (i := 0) dd_121_77 rfl ?_
  refine g_iload_n (i := 1) dd_121_78 rfl ?_
  refine g_aload_n (i := 0) dd_121_79 rfl ?_
  refine g_getfield (k := 7) am_ck11 (by decide) (Or.inl w_518) dd_121_80 q0g x7g ?_
  refine g_virtual (M' := mi_60) (n := 2) (ci := 11) (b := 0) (as := [.retAddr i, .ref 36]) (st := []) (r1 := (none, k)) w_620 w_622 ps_60 ⟨lk_60.1, lk_60.2.1, lk_60.2.2, by decide, by decide⟩ rfl q0g rfl (by simp [Value.category]) dd_121_83 (e2_) ?_
  show am_Good mi_121 86 [some (.ref 0), some (.retAddr i), some (.retAddr wN), some (.retAddr kN), some (.retAddr acc), some (.retAddr s)] [] k _
  refine g_aload_n (i := 0) dd_121_86 rfl ?_
  refine g_getfield (k := 8) am_ck11 (by decide) (Or.inl w_519) dd_121_87 q0k x8k ?_
  refine g_getfield (k := 4) am_ck10 (by decide) (Or.inr ⟨_, w_174⟩) dd_121_90 q40k t4k ?_
  refine g_iload_n (i := 2) dd_121_93 rfl ?_
  refine g_icmp_ne_f (t := 115) dd_121_94 (by decide) (tk_ne_f (by omega)) ?_
  refine g_aload_n (i := 0) dd_121_97 rfl ?_
  refine g_getfield (k := 5) am_ck11 (by decide) (Or.inl w_516) dd_121_98 q0k x5k ?_
  refine g_aload_n (i := 0) dd_121_101 rfl ?_
  refine g_getfield (k := 8) am_ck11 (by decide) (Or.inl w_519) dd_121_102 q0k x8k ?_
  refine g_getfield (k := 5) am_ck10 (by decide) (Or.inr ⟨_, w_176⟩) dd_121_105 q40k t5k ?_
  refine g_virtual (M' := mi_57) (n := 1) (ci := 2) (b := 30) (as := [.retAddr sek]) (st := []) (r1 := (some (.retAddr ck), k)) w_608 w_609 w_610 ⟨lk_57.1, lk_57.2.1, lk_57.2.2, by decide, by decide⟩ rfl q30k rfl (by simp [Value.category]) dd_121_108 (e3_) ?_
  show am_Good mi_121 111 [some (.ref 0), some (.retAddr i), some (.retAddr wN), some (.retAddr kN), some (.retAddr acc), some (.retAddr s)] [.retAddr ck] k _
  refine g_iload_n (i := 3) dd_121_111 rfl ?_
  refine g_icmp_eq_t (t := 124) dd_121_112 (by decide) (tk_eq_t (by omega)) ?_
  refine e_iinc (v := 1) (w := s + 1) dd_121_124 rfl ic_1 (am_nlb_ok rfl) (by decide) (by omega) ?_
  refine g_goto (t := 48) dd_121_127 (by decide) ?_
  exact hg
theorem mtx_e {h : am_H} {E a1 n1 i wN kN acc : Nat} {v0 : List Value} (q0 : am_get h 0 = some (.inr (11, v0))) (x3 : v0[3]? = some (.ref E)) (x5 : v0[5]? = some (.ref 30)) (x6 : v0[6]? = some (.ref 32)) (x7 : v0[7]? = some (.ref 36)) (x8 : v0[8]? = some (.ref 40)) {vE w1 : List Value} (qE : am_get h E = some (.inr (1, vE))) (e1 : vE[1]? = some (.ref a1)) (r1 : am_get h a1 = some (.inr (8, w1))) (s1 : w1[3]? = some (.retAddr n1)) (hn : n1 ≤ 9) : am_Good mi_121 48 [some (.ref 0), some (.retAddr i), some (.retAddr wN), some (.retAddr kN), some (.retAddr acc), some (.retAddr n1)] [] h (some (.retAddr acc), h) := by
  refine g_iload dd_121_48 rfl ?_
  refine g_aload_n (i := 0) dd_121_50 rfl ?_
  refine g_getfield (k := 3) am_ck11 (by decide) (Or.inl w_514) dd_121_51 q0 x3 ?_
  refine g_getfield (k := 1) am_ck1 (by decide) (Or.inr ⟨_, w_89⟩) dd_121_54 qE e1 ?_
  refine g_getfield (k := 3) am_ck8 (by decide) (Or.inr ⟨_, w_67⟩) dd_121_57 r1 s1 ?_
  refine g_icmp_ge_t (t := 130) dd_121_60 (by decide) (by first | exact sk_ge_t (by omega) (by omega) | exact tk_ge_t (by omega)) ?_
  refine g_iload dd_121_130 rfl ?_
  exact g_ireturn rfl dd_121_132
theorem mtx_0 {h : am_H} {E a0 a5 mi go z0 z5 : Nat} {v0 vE w0 w5 : List Value} (q0 : am_get h 0 = some (.inr (11, v0))) (x3 : v0[3]? = some (.ref E)) (qE : am_get h E = some (.inr (1, vE))) (e0 : vE[0]? = some (.ref a0)) (e5 : vE[5]? = some (.ref a5)) (e6 : vE[6]? = some (.retAddr mi)) (e7 : vE[7]? = some (.retAddr go)) (r0 : am_get h a0 = some (.inr (8, w0))) (s0 : w0[3]? = some (.retAddr z0)) (r5 : am_get h a5 = some (.inr (8, w5))) (s5 : w5[3]? = some (.retAddr z5)) (zm : mi ≤ 60) (zz0 : z0 ≤ 4) (zz5 : z5 ≤ 4) (x6 : v0[6]? = some (.ref 32)) {i : Nat} (g_i : i < 4294967296) (h1 : ¬ i < z5) : am_EG mi_121 [.ref 0, .retAddr i] h (some (.retAddr 4294967295), h) := by
  refine am_enter (n := 4) tk_121.2.1 (by simp [Value.category]) (Nat.le_of_ble_eq_true rfl) ?_
  show am_Good mi_121 0 [some (.ref 0), some (.retAddr i), none, none, none, none] [] h _
  refine g_aload_n (i := 0) dd_121_0 rfl ?_
  refine g_iload_n (i := 1) dd_121_1 rfl ?_
  refine g_virtual (M' := mi_59) (n := 1) (ci := 11) (b := 0) (as := [.retAddr i]) (st := []) (r1 := (some (.retAddr 0), h)) w_616 w_618 ps_59 ⟨lk_59.1, lk_59.2.1, lk_59.2.2, by decide, by decide⟩ rfl q0 rfl (by simp [Value.category]) dd_121_2 (iwa_0 q0 x3 qE e0 e5 e6 e7 r0 s0 r5 s5 zm zz0 zz5 h1 g_i) ?_
  show am_Good mi_121 5 [some (.ref 0), some (.retAddr i), none, none, none, none] [.retAddr 0] h _
  refine g_if_ne_f (t := 10) dd_121_5 (by decide) (by decide) ?_
  refine g_iconst dd_121_8 ic_m1 ?_
  exact g_ireturn rfl dd_121_9
theorem mtx_s {h : am_H} {E a0 a5 mi go z0 z5 : Nat} {v0 vE w0 w5 : List Value} (q0 : am_get h 0 = some (.inr (11, v0))) (x3 : v0[3]? = some (.ref E)) (qE : am_get h E = some (.inr (1, vE))) (e0 : vE[0]? = some (.ref a0)) (e5 : vE[5]? = some (.ref a5)) (e6 : vE[6]? = some (.retAddr mi)) (e7 : vE[7]? = some (.retAddr go)) (r0 : am_get h a0 = some (.inr (8, w0))) (s0 : w0[3]? = some (.retAddr z0)) (r5 : am_get h a5 = some (.inr (8, w5))) (s5 : w5[3]? = some (.retAddr z5)) (zm : mi ≤ 60) (zz0 : z0 ≤ 4) (zz5 : z5 ≤ 4) (x6 : v0[6]? = some (.ref 32)) {i : Nat} (g_i : i < 4294967296) (h1 : i < z5) {k : am_H} {r : am_R} {wok sek ck : Nat} {v0k : List Value} (q0k : am_get k 0 = some (.inr (11, v0k))) (x3k : v0k[3]? = some (.ref E)) (x5k : v0k[5]? = some (.ref 30)) (x6k : v0k[6]? = some (.ref 32)) (x7k : v0k[7]? = some (.ref 36)) (x8k : v0k[8]? = some (.ref 40)) {v40k : List Value} (q40k : am_get k 40 = some (.inr (10, v40k))) (t4k : v40k[4]? = some (.retAddr wok)) (t5k : v40k[5]? = some (.retAddr sek)) {v30k : List Value} (q30k : am_get k 30 = some (.inr (2, v30k))) (e2_ : am_EG mi_60 [.ref 0, .retAddr i, .ref 32] h (none, k)) (e3_ : am_EG mi_57 [.ref 30, .retAddr sek] k (some (.retAddr ck), k)) (hg : am_Good mi_121 48 [some (.ref 0), some (.retAddr i), some (.retAddr wok), some (.retAddr ck), some (.retAddr 0), some (.retAddr 0)] [] k r) : am_EG mi_121 [.ref 0, .retAddr i] h r := by
  refine am_enter (n := 4) tk_121.2.1 (by simp [Value.category]) (Nat.le_of_ble_eq_true rfl) ?_
  show am_Good mi_121 0 [some (.ref 0), some (.retAddr i), none, none, none, none] [] h _
  refine g_aload_n (i := 0) dd_121_0 rfl ?_
  refine g_iload_n (i := 1) dd_121_1 rfl ?_
  refine g_virtual (M' := mi_59) (n := 1) (ci := 11) (b := 0) (as := [.retAddr i]) (st := []) (r1 := (some (.retAddr 1), h)) w_616 w_618 ps_59 ⟨lk_59.1, lk_59.2.1, lk_59.2.2, by decide, by decide⟩ rfl q0 rfl (by simp [Value.category]) dd_121_2 (iwa_1 q0 x3 qE e0 e5 e6 e7 r0 s0 r5 s5 zm zz0 zz5 h1) ?_
  show am_Good mi_121 5 [some (.ref 0), some (.retAddr i), none, none, none, none] [.retAddr 1] h _
  refine g_if_ne_t (t := 10) dd_121_5 (by decide) (by decide) ?_
  refine g_aload_n (i := 0) dd_121_10 rfl ?_
  refine g_iload_n (i := 1) dd_121_11 rfl ?_
  refine g_aload_n (i := 0) dd_121_12 rfl ?_
  refine g_getfield (k := 6) am_ck11 (by decide) (Or.inl w_517) dd_121_13 q0 x6 ?_
  refine g_virtual (M' := mi_60) (n := 2) (ci := 11) (b := 0) (as := [.retAddr i, .ref 32]) (st := []) (r1 := (none, k)) w_620 w_622 ps_60 ⟨lk_60.1, lk_60.2.1, lk_60.2.2, by decide, by decide⟩ rfl q0 rfl (by simp [Value.category]) dd_121_16 (e2_) ?_
  show am_Good mi_121 19 [some (.ref 0), some (.retAddr i), none, none, none, none] [] k _
  refine g_aload_n (i := 0) dd_121_19 rfl ?_
  refine g_getfield (k := 8) am_ck11 (by decide) (Or.inl w_519) dd_121_20 q0k x8k ?_
  refine g_getfield (k := 4) am_ck10 (by decide) (Or.inr ⟨_, w_174⟩) dd_121_23 q40k t4k ?_
  refine g_istore_n (i := 2) dd_121_26 (am_nlb_ok rfl) (by decide) ?_
  refine g_aload_n (i := 0) dd_121_27 rfl ?_
  refine g_getfield (k := 5) am_ck11 (by decide) (Or.inl w_516) dd_121_28 q0k x5k ?_
  refine g_aload_n (i := 0) dd_121_31 rfl ?_
  refine g_getfield (k := 8) am_ck11 (by decide) (Or.inl w_519) dd_121_32 q0k x8k ?_
  refine g_getfield (k := 5) am_ck10 (by decide) (Or.inr ⟨_, w_176⟩) dd_121_35 q40k t5k ?_
  refine g_virtual (M' := mi_57) (n := 1) (ci := 2) (b := 30) (as := [.retAddr sek]) (st := []) (r1 := (some (.retAddr ck), k)) w_608 w_609 w_610 ⟨lk_57.1, lk_57.2.1, lk_57.2.2, by decide, by decide⟩ rfl q30k rfl (by simp [Value.category]) dd_121_38 (e3_) ?_
  show am_Good mi_121 41 [some (.ref 0), some (.retAddr i), some (.retAddr wok), none, none, none] [.retAddr ck] k _
  refine g_istore_n (i := 3) dd_121_41 (am_nlb_ok rfl) (by decide) ?_
  refine g_iconst dd_121_42 ic_0 ?_
  refine g_istore dd_121_43 (am_nlb_ok rfl) (by decide) ?_
  refine g_iconst dd_121_45 ic_0 ?_
  refine g_istore dd_121_46 (am_nlb_ok rfl) (by decide) ?_
  exact hg
theorem mtm_w {h g k : am_H} {r : am_R} {n1 i wN kN acc s wok sek ck : Nat} {vs : List Value} (q66 : am_get h 66 = some (.inr (12, vs))) (f4 : vs[4]? = some (.retAddr n1)) {vsg : List Value} (q66g : am_get g 66 = some (.inr (12, vsg))) {vsk : List Value} (q66k : am_get k 66 = some (.inr (12, vsk))) (f36k : vsk[36]? = some (.retAddr wok)) (f37k : vsk[37]? = some (.retAddr sek)) (hn : n1 ≤ 9) (hs : s < n1) (hw1 : wN < 2147483648) (hw2 : wok < 2147483648) (hk1 : kN < 256) (hk2 : ck < 256) (e1_ : am_EG mi_155 [.ref 66, .retAddr 0, .retAddr s] h (none, g)) (e2_ : am_EG mi_165 [.ref 66, .retAddr i] g (none, k)) (e3_ : am_EG mi_162 [.ref 66, .retAddr sek] k (some (.retAddr ck), k)) (hc : wok ≠ wN) (hg : am_Good mi_204 42 [some (.ref 66), some (.retAddr i), some (.retAddr wN), some (.retAddr kN), some (.retAddr (acc ||| 2 ^ s)), some (.retAddr (s + 1))] [] k r) : am_Good mi_204 42 [some (.ref 66), some (.retAddr i), some (.retAddr wN), some (.retAddr kN), some (.retAddr acc), some (.retAddr s)] [] h r := by
  refine g_iload dd_204_42 rfl ?_
  refine g_aload_n (i := 0) dd_204_44 rfl ?_
  refine g_getfield (k := 4) am_ck12 (by decide) (Or.inl w_939) dd_204_45 q66 f4 ?_
  refine g_icmp_ge_f (t := 102) dd_204_48 (by decide) (by first | exact sk_ge_f (by omega) (by omega) | exact tk_ge_f (by omega)) ?_
  refine g_aload_n (i := 0) dd_204_51 rfl ?_
  refine g_iconst dd_204_52 ic_0 ?_
  refine g_iload dd_204_53 rfl ?_
  refine g_virtual (M' := mi_155) (n := 2) (ci := 12) (b := 66) (as := [.retAddr 0, .retAddr s]) (st := []) (r1 := (none, g)) w_1192 w_1194 ps_155 ⟨lk_155.1, lk_155.2.1, lk_155.2.2, by decide, by decide⟩ rfl q66 rfl (by simp [Value.category]) dd_204_55 (e1_) ?_
  show am_Good mi_204 58 [some (.ref 66), some (.retAddr i), some (.retAddr wN), some (.retAddr kN), some (.retAddr acc), some (.retAddr s)] [] g _
  refine g_aload_n (i := 0) dd_204_58 rfl ?_
  refine g_iload_n (i := 1) dd_204_59 rfl ?_
  refine g_virtual (M' := mi_165) (n := 1) (ci := 12) (b := 66) (as := [.retAddr i]) (st := []) (r1 := (none, k)) w_1230 w_1232 ps_165 ⟨lk_165.1, lk_165.2.1, lk_165.2.2, by decide, by decide⟩ rfl q66g rfl (by simp [Value.category]) dd_204_60 (e2_) ?_
  show am_Good mi_204 63 [some (.ref 66), some (.retAddr i), some (.retAddr wN), some (.retAddr kN), some (.retAddr acc), some (.retAddr s)] [] k _
  refine g_iload dd_204_63 rfl ?_
  refine g_aload_n (i := 0) dd_204_65 rfl ?_
  refine g_getfield (k := 36) am_ck12 (by decide) (Or.inl w_971) dd_204_66 q66k f36k ?_
  refine g_iload_n (i := 2) dd_204_69 rfl ?_
  refine g_icmp_ne_t (t := 85) dd_204_70 (by decide) (tk_ne_t (by omega)) ?_
  refine g_iconst dd_204_85 ic_1 ?_
  refine g_iload dd_204_86 rfl ?_
  refine e_ishl (v := 2 ^ s) dd_204_88 (sh_b (by omega)) ?_
  refine g_goto (t := 93) dd_204_89 (by decide) ?_
  refine e_ior (v := acc ||| 2 ^ s) dd_204_93 rfl ?_
  refine g_istore dd_204_94 (am_nlb_ok rfl) (by decide) ?_
  refine e_iinc (v := 1) (w := s + 1) dd_204_96 rfl ic_1 (am_nlb_ok rfl) (by decide) (by omega) ?_
  refine g_goto (t := 42) dd_204_99 (by decide) ?_
  exact hg
theorem mtm_k {h g k : am_H} {r : am_R} {n1 i wN kN acc s wok sek ck : Nat} {vs : List Value} (q66 : am_get h 66 = some (.inr (12, vs))) (f4 : vs[4]? = some (.retAddr n1)) {vsg : List Value} (q66g : am_get g 66 = some (.inr (12, vsg))) {vsk : List Value} (q66k : am_get k 66 = some (.inr (12, vsk))) (f36k : vsk[36]? = some (.retAddr wok)) (f37k : vsk[37]? = some (.retAddr sek)) (hn : n1 ≤ 9) (hs : s < n1) (hw1 : wN < 2147483648) (hw2 : wok < 2147483648) (hk1 : kN < 256) (hk2 : ck < 256) (e1_ : am_EG mi_155 [.ref 66, .retAddr 0, .retAddr s] h (none, g)) (e2_ : am_EG mi_165 [.ref 66, .retAddr i] g (none, k)) (e3_ : am_EG mi_162 [.ref 66, .retAddr sek] k (some (.retAddr ck), k)) (hc : wok = wN) (hd : ck ≠ kN) (hg : am_Good mi_204 42 [some (.ref 66), some (.retAddr i), some (.retAddr wN), some (.retAddr kN), some (.retAddr (acc ||| 2 ^ s)), some (.retAddr (s + 1))] [] k r) : am_Good mi_204 42 [some (.ref 66), some (.retAddr i), some (.retAddr wN), some (.retAddr kN), some (.retAddr acc), some (.retAddr s)] [] h r := by
  refine g_iload dd_204_42 rfl ?_
  refine g_aload_n (i := 0) dd_204_44 rfl ?_
  refine g_getfield (k := 4) am_ck12 (by decide) (Or.inl w_939) dd_204_45 q66 f4 ?_
  refine g_icmp_ge_f (t := 102) dd_204_48 (by decide) (by first | exact sk_ge_f (by omega) (by omega) | exact tk_ge_f (by omega)) ?_
  refine g_aload_n (i := 0) dd_204_51 rfl ?_
  refine g_iconst dd_204_52 ic_0 ?_
  refine g_iload dd_204_53 rfl ?_
  refine g_virtual (M' := mi_155) (n := 2) (ci := 12) (b := 66) (as := [.retAddr 0, .retAddr s]) (st := []) (r1 := (none, g)) w_1192 w_1194 ps_155 ⟨lk_155.1, lk_155.2.1, lk_155.2.2, by decide, by decide⟩ rfl q66 rfl (by simp [Value.category]) dd_204_55 (e1_) ?_
  show am_Good mi_204 58 [some (.ref 66), some (.retAddr i), some (.retAddr wN), some (.retAddr kN), some (.retAddr acc), some (.retAddr s)] [] g _
  refine g_aload_n (i := 0) dd_204_58 rfl ?_
  refine g_iload_n (i := 1) dd_204_59 rfl ?_
  refine g_virtual (M' := mi_165) (n := 1) (ci := 12) (b := 66) (as := [.retAddr i]) (st := []) (r1 := (none, k)) w_1230 w_1232 ps_165 ⟨lk_165.1, lk_165.2.1, lk_165.2.2, by decide, by decide⟩ rfl q66g rfl (by simp [Value.category]) dd_204_60 (e2_) ?_
  show am_Good mi_204 63 [some (.ref 66), some (.retAddr i), some (.retAddr wN), some (.retAddr kN), some (.retAddr acc), some (.retAddr s)] [] k _
  refine g_iload dd_204_63 rfl ?_
  refine g_aload_n (i := 0) dd_204_65 rfl ?_
  refine g_getfield (k := 36) am_ck12 (by decide) (Or.inl w_971) dd_204_66 q66k f36k ?_
  refine g_iload_n (i := 2) dd_204_69 rfl ?_
  refine g_icmp_ne_f (t := 85) dd_204_70 (by decide) (tk_ne_f (by omega)) ?_
  refine g_aload_n (i := 0) dd_204_73 rfl ?_
  refine g_aload_n (i := 0) dd_204_74 rfl ?_
  refine g_getfield (k := 37) am_ck12 (by decide) (Or.inl w_972) dd_204_75 q66k f37k ?_
  refine g_virtual (M' := mi_162) (n := 1) (ci := 12) (b := 66) (as := [.retAddr sek]) (st := [.retAddr acc]) (r1 := (some (.retAddr ck), k)) w_1218 w_1220 ps_162 ⟨lk_162.1, lk_162.2.1, lk_162.2.2, by decide, by decide⟩ rfl q66k rfl (by simp [Value.category]) dd_204_78 (e3_) ?_
  show am_Good mi_204 81 [some (.ref 66), some (.retAddr i), some (.retAddr wN), some (.retAddr kN), some (.retAddr acc), some (.retAddr s)] [.retAddr ck, .retAddr acc] k _
  refine g_iload_n (i := 3) dd_204_81 rfl ?_
  refine g_icmp_eq_f (t := 92) dd_204_82 (by decide) (tk_eq_f (by omega)) ?_
  refine g_iconst dd_204_85 ic_1 ?_
  refine g_iload dd_204_86 rfl ?_
  refine e_ishl (v := 2 ^ s) dd_204_88 (sh_b (by omega)) ?_
  refine g_goto (t := 93) dd_204_89 (by decide) ?_
  refine e_ior (v := acc ||| 2 ^ s) dd_204_93 rfl ?_
  refine g_istore dd_204_94 (am_nlb_ok rfl) (by decide) ?_
  refine e_iinc (v := 1) (w := s + 1) dd_204_96 rfl ic_1 (am_nlb_ok rfl) (by decide) (by omega) ?_
  refine g_goto (t := 42) dd_204_99 (by decide) ?_
  exact hg
theorem mtm_n {h g k : am_H} {r : am_R} {n1 i wN kN acc s wok sek ck : Nat} {vs : List Value} (q66 : am_get h 66 = some (.inr (12, vs))) (f4 : vs[4]? = some (.retAddr n1)) {vsg : List Value} (q66g : am_get g 66 = some (.inr (12, vsg))) {vsk : List Value} (q66k : am_get k 66 = some (.inr (12, vsk))) (f36k : vsk[36]? = some (.retAddr wok)) (f37k : vsk[37]? = some (.retAddr sek)) (hn : n1 ≤ 9) (hs : s < n1) (hw1 : wN < 2147483648) (hw2 : wok < 2147483648) (hk1 : kN < 256) (hk2 : ck < 256) (e1_ : am_EG mi_155 [.ref 66, .retAddr 0, .retAddr s] h (none, g)) (e2_ : am_EG mi_165 [.ref 66, .retAddr i] g (none, k)) (e3_ : am_EG mi_162 [.ref 66, .retAddr sek] k (some (.retAddr ck), k)) (hc : wok = wN) (hd : ck = kN) (hg : am_Good mi_204 42 [some (.ref 66), some (.retAddr i), some (.retAddr wN), some (.retAddr kN), some (.retAddr acc), some (.retAddr (s + 1))] [] k r) : am_Good mi_204 42 [some (.ref 66), some (.retAddr i), some (.retAddr wN), some (.retAddr kN), some (.retAddr acc), some (.retAddr s)] [] h r := by
  refine g_iload dd_204_42 rfl ?_
  refine g_aload_n (i := 0) dd_204_44 rfl ?_
  refine g_getfield (k := 4) am_ck12 (by decide) (Or.inl w_939) dd_204_45 q66 f4 ?_
  refine g_icmp_ge_f (t := 102) dd_204_48 (by decide) (by first | exact sk_ge_f (by omega) (by omega) | exact tk_ge_f (by omega)) ?_
  refine g_aload_n (i := 0) dd_204_51 rfl ?_
  refine g_iconst dd_204_52 ic_0 ?_
  refine g_iload dd_204_53 rfl ?_
  refine g_virtual (M' := mi_155) (n := 2) (ci := 12) (b := 66) (as := [.retAddr 0, .retAddr s]) (st := []) (r1 := (none, g)) w_1192 w_1194 ps_155 ⟨lk_155.1, lk_155.2.1, lk_155.2.2, by decide, by decide⟩ rfl q66 rfl (by simp [Value.category]) dd_204_55 (e1_) ?_
  show am_Good mi_204 58 [some (.ref 66), some (.retAddr i), some (.retAddr wN), some (.retAddr kN), some (.retAddr acc), some (.retAddr s)] [] g _
  refine g_aload_n (i := 0) dd_204_58 rfl ?_
  refine g_iload_n (i := 1) dd_204_59 rfl ?_
  refine g_virtual (M' := mi_165) (n := 1) (ci := 12) (b := 66) (as := [.retAddr i]) (st := []) (r1 := (none, k)) w_1230 w_1232 ps_165 ⟨lk_165.1, lk_165.2.1, lk_165.2.2, by decide, by decide⟩ rfl q66g rfl (by simp [Value.category]) dd_204_60 (e2_) ?_
  show am_Good mi_204 63 [some (.ref 66), some (.retAddr i), some (.retAddr wN), some (.retAddr kN), some (.retAddr acc), some (.retAddr s)] [] k _
  refine g_iload dd_204_63 rfl ?_
  refine g_aload_n (i := 0) dd_204_65 rfl ?_
  refine g_getfield (k := 36) am_ck12 (by decide) (Or.inl w_971) dd_204_66 q66k f36k ?_
  refine g_iload_n (i := 2) dd_204_69 rfl ?_
  refine g_icmp_ne_f (t := 85) dd_204_70 (by decide) (tk_ne_f (by omega)) ?_
  refine g_aload_n (i := 0) dd_204_73 rfl ?_
  refine g_aload_n (i := 0) dd_204_74 rfl ?_
  refine g_getfield (k := 37) am_ck12 (by decide) (Or.inl w_972) dd_204_75 q66k f37k ?_
  refine g_virtual (M' := mi_162) (n := 1) (ci := 12) (b := 66) (as := [.retAddr sek]) (st := [.retAddr acc]) (r1 := (some (.retAddr ck), k)) w_1218 w_1220 ps_162 ⟨lk_162.1, lk_162.2.1, lk_162.2.2, by decide, by decide⟩ rfl q66k rfl (by simp [Value.category]) dd_204_78 (e3_) ?_
  show am_Good mi_204 81 [some (.ref 66), some (.retAddr i), some (.retAddr wN), some (.retAddr kN), some (.retAddr acc), some (.retAddr s)] [.retAddr ck, .retAddr acc] k _
  refine g_iload_n (i := 3) dd_204_81 rfl ?_
  refine g_icmp_eq_t (t := 92) dd_204_82 (by decide) (tk_eq_t (by omega)) ?_
  refine g_iconst dd_204_92 ic_0 ?_
  refine e_ior (v := acc) dd_204_93 (Nat.or_zero acc) ?_
  refine g_istore dd_204_94 (am_nlb_ok rfl) (by decide) ?_
  refine e_iinc (v := 1) (w := s + 1) dd_204_96 rfl ic_1 (am_nlb_ok rfl) (by decide) (by omega) ?_
  refine g_goto (t := 42) dd_204_99 (by decide) ?_
  exact hg
theorem mtm_e {h : am_H} {n1 i wN kN acc : Nat} {vs : List Value} (q66 : am_get h 66 = some (.inr (12, vs))) (f4 : vs[4]? = some (.retAddr n1)) (hn : n1 ≤ 9) : am_Good mi_204 42 [some (.ref 66), some (.retAddr i), some (.retAddr wN), some (.retAddr kN), some (.retAddr acc), some (.retAddr n1)] [] h (some (.retAddr acc), h) := by
  refine g_iload dd_204_42 rfl ?_
  refine g_aload_n (i := 0) dd_204_44 rfl ?_
  refine g_getfield (k := 4) am_ck12 (by decide) (Or.inl w_939) dd_204_45 q66 f4 ?_
  refine g_icmp_ge_t (t := 102) dd_204_48 (by decide) (by first | exact sk_ge_t (by omega) (by omega) | exact tk_ge_t (by omega)) ?_
  refine g_iload dd_204_102 rfl ?_
  exact g_ireturn rfl dd_204_104
theorem mtm_0 {h : am_H} {vs : List Value} {z5 i : Nat} (q66 : am_get h 66 = some (.inr (12, vs))) (f12 : vs[12]? = some (.retAddr z5)) (hz5 : z5 ≤ 4) (g_i : i < 4294967296) (h1 : ¬ i < z5) : am_EG mi_204 [.ref 66, .retAddr i] h (some (.retAddr 4294967295), h) := by
  refine am_enter (n := 4) tk_204.2.1 (by simp [Value.category]) (Nat.le_of_ble_eq_true rfl) ?_
  show am_Good mi_204 0 [some (.ref 66), some (.retAddr i), none, none, none, none] [] h _
  refine g_aload_n (i := 0) dd_204_0 rfl ?_
  refine g_iload_n (i := 1) dd_204_1 rfl ?_
  refine g_virtual (M' := mi_164) (n := 1) (ci := 12) (b := 66) (as := [.retAddr i]) (st := []) (r1 := (some (.retAddr 0), h)) w_1226 w_1228 ps_164 ⟨lk_164.1, lk_164.2.1, lk_164.2.2, by decide, by decide⟩ rfl q66 rfl (by simp [Value.category]) dd_204_2 (mwm_0 q66 f12 hz5 h1 g_i) ?_
  show am_Good mi_204 5 [some (.ref 66), some (.retAddr i), none, none, none, none] [.retAddr 0] h _
  refine g_if_ne_f (t := 10) dd_204_5 (by decide) (by decide) ?_
  refine g_iconst dd_204_8 ic_m1 ?_
  exact g_ireturn rfl dd_204_9
theorem mtm_s {h : am_H} {vs : List Value} {z5 i : Nat} (q66 : am_get h 66 = some (.inr (12, vs))) (f12 : vs[12]? = some (.retAddr z5)) (hz5 : z5 ≤ 4) (g_i : i < 4294967296) (h1 : i < z5) {g k : am_H} {r : am_R} {wok sek ck : Nat} {vsg : List Value} (q66g : am_get g 66 = some (.inr (12, vsg))) {vsk : List Value} (q66k : am_get k 66 = some (.inr (12, vsk))) (f36k : vsk[36]? = some (.retAddr wok)) (f37k : vsk[37]? = some (.retAddr sek)) (e1_ : am_EG mi_155 [.ref 66, .retAddr 0, .retAddr 4294967292] h (none, g)) (e2_ : am_EG mi_165 [.ref 66, .retAddr i] g (none, k)) (e3_ : am_EG mi_162 [.ref 66, .retAddr sek] k (some (.retAddr ck), k)) (hg : am_Good mi_204 42 [some (.ref 66), some (.retAddr i), some (.retAddr wok), some (.retAddr ck), some (.retAddr 0), some (.retAddr 0)] [] k r) : am_EG mi_204 [.ref 66, .retAddr i] h r := by
  refine am_enter (n := 4) tk_204.2.1 (by simp [Value.category]) (Nat.le_of_ble_eq_true rfl) ?_
  show am_Good mi_204 0 [some (.ref 66), some (.retAddr i), none, none, none, none] [] h _
  refine g_aload_n (i := 0) dd_204_0 rfl ?_
  refine g_iload_n (i := 1) dd_204_1 rfl ?_
  refine g_virtual (M' := mi_164) (n := 1) (ci := 12) (b := 66) (as := [.retAddr i]) (st := []) (r1 := (some (.retAddr 1), h)) w_1226 w_1228 ps_164 ⟨lk_164.1, lk_164.2.1, lk_164.2.2, by decide, by decide⟩ rfl q66 rfl (by simp [Value.category]) dd_204_2 (mwm_1 q66 f12 hz5 h1) ?_
  show am_Good mi_204 5 [some (.ref 66), some (.retAddr i), none, none, none, none] [.retAddr 1] h _
  refine g_if_ne_t (t := 10) dd_204_5 (by decide) (by decide) ?_
  refine g_aload_n (i := 0) dd_204_10 rfl ?_
  refine g_iconst dd_204_11 ic_0 ?_
  refine g_bipush dd_204_12 bi_m4 ?_
  refine g_virtual (M' := mi_155) (n := 2) (ci := 12) (b := 66) (as := [.retAddr 0, .retAddr 4294967292]) (st := []) (r1 := (none, g)) w_1192 w_1194 ps_155 ⟨lk_155.1, lk_155.2.1, lk_155.2.2, by decide, by decide⟩ rfl q66 rfl (by simp [Value.category]) dd_204_14 (e1_) ?_
  show am_Good mi_204 17 [some (.ref 66), some (.retAddr i), none, none, none, none] [] g _
  refine g_aload_n (i := 0) dd_204_17 rfl ?_
  refine g_iload_n (i := 1) dd_204_18 rfl ?_
  refine g_virtual (M' := mi_165) (n := 1) (ci := 12) (b := 66) (as := [.retAddr i]) (st := []) (r1 := (none, k)) w_1230 w_1232 ps_165 ⟨lk_165.1, lk_165.2.1, lk_165.2.2, by decide, by decide⟩ rfl q66g rfl (by simp [Value.category]) dd_204_19 (e2_) ?_
  show am_Good mi_204 22 [some (.ref 66), some (.retAddr i), none, none, none, none] [] k _
  refine g_aload_n (i := 0) dd_204_22 rfl ?_
  refine g_getfield (k := 36) am_ck12 (by decide) (Or.inl w_971) dd_204_23 q66k f36k ?_
  refine g_istore_n (i := 2) dd_204_26 (am_nlb_ok rfl) (by decide) ?_
  refine g_aload_n (i := 0) dd_204_27 rfl ?_
  refine g_aload_n (i := 0) dd_204_28 rfl ?_
  refine g_getfield (k := 37) am_ck12 (by decide) (Or.inl w_972) dd_204_29 q66k f37k ?_
  refine g_virtual (M' := mi_162) (n := 1) (ci := 12) (b := 66) (as := [.retAddr sek]) (st := []) (r1 := (some (.retAddr ck), k)) w_1218 w_1220 ps_162 ⟨lk_162.1, lk_162.2.1, lk_162.2.2, by decide, by decide⟩ rfl q66k rfl (by simp [Value.category]) dd_204_32 (e3_) ?_
  show am_Good mi_204 35 [some (.ref 66), some (.retAddr i), some (.retAddr wok), none, none, none] [.retAddr ck] k _
  refine g_istore_n (i := 3) dd_204_35 (am_nlb_ok rfl) (by decide) ?_
  refine g_iconst dd_204_36 ic_0 ?_
  refine g_istore dd_204_37 (am_nlb_ok rfl) (by decide) ?_
  refine g_iconst dd_204_39 ic_0 ?_
  refine g_istore dd_204_40 (am_nlb_ok rfl) (by decide) ?_
  exact hg
/-- whether a scene matters -/
def mt_p (mi go : Nat) (Z Y : Nat → Nat) (i s : Nat) : Bool := (!Nat.beq (wkA Z Y 0 s go mi (am_ag (Y 5) (2 * i)) (am_ag (Y 5) (2 * i + 1))).2.2.1 ((wkA Z Y 0 4294967292 go mi (am_ag (Y 5) (2 * i)) (am_ag (Y 5) (2 * i + 1))).2.2.1)) || (!Nat.beq (cl_k (Y 4) (Z 4) 6 (wkA Z Y 0 s go mi (am_ag (Y 5) (2 * i)) (am_ag (Y 5) (2 * i + 1))).2.2.2.1) (cl_k (Y 4) (Z 4) 6 (wkA Z Y 0 4294967292 go mi (am_ag (Y 5) (2 * i)) (am_ag (Y 5) (2 * i + 1))).2.2.2.1))
theorem mtx_l {E mi go i : Nat} {Z X Y : Nat → Nat} (hi : i < Z 5) : ∀ (f s : Nat) (h : am_H), s + f = Z 1 → Jv h → je_A h E mi go Z X Y → ∃ g, Jv g ∧ je_A g E mi go Z X Y ∧ (g.1 = h.1 ∧ g.2.1 = h.2.1) ∧ am_Good mi_121 48 [some (.ref 0), some (.retAddr i), some (.retAddr ((wkA Z Y 0 4294967292 go mi (am_ag (Y 5) (2 * i)) (am_ag (Y 5) (2 * i + 1))).2.2.1)), some (.retAddr (cl_k (Y 4) (Z 4) 6 (wkA Z Y 0 4294967292 go mi (am_ag (Y 5) (2 * i)) (am_ag (Y 5) (2 * i + 1))).2.2.2.1)), some (.retAddr (bs_i (mt_p mi go Z Y i) 0 0 s)), some (.retAddr s)] [] h (some (.retAddr (bs_i (mt_p mi go Z Y i) 0 0 (Z 1))), g)
  | 0, s, h, e, hJ, hA => by
    have e' : s = Z 1 := by omega
    subst e'
    obtain ⟨v0, q0, x3, x5, x6, x7, x8, -, -, qE, r0, r1, -, -, -, -, -⟩ := je_xo hA
    have z1 : Z 1 ≤ 9 := hA.2.2.2.1.2.1 1 (by decide)
    exact ⟨h, hJ, hA, ⟨rfl, rfl⟩, mtx_e q0 x3 x5 x6 x7 x8 qE rfl r1 rfl z1⟩
  | f + 1, s, h, e, hJ, hA => by
    obtain ⟨v0, q0, x3, x5, x6, x7, x8, -, -, qE, r0, r1, -, -, -, q36, -⟩ := je_xo hA
    have hP := hA.2.2.2.1
    have z1 : Z 1 ≤ 9 := hP.2.1 1 (by decide)
    have hBY : je_B Z Y := je_bY hP.2.1 hP.2.2.1
    have oy := hP.2.2.2.2 i hi
    obtain ⟨g, e1, J1, A1, sz1, S1⟩ := sh_q hJ hA (come := 0) (wo := s) (by decide) (by omega)
    obtain ⟨k, e2, J2, A2, sz2, ⟨t4, t5, -⟩, -⟩ := fo_q J1 A1 (Or.inr ⟨rfl, rfl, rfl, rfl⟩) S1 hi
    obtain ⟨u0, p0, y3, y5, y6, y7, y8, -, -, -, -, -, -, -, -, -, -⟩ := je_xo A1
    obtain ⟨c0, d0, w3, w5, w6, w7, w8, -, -, -, -, -, -, -, -, -, d30⟩ := je_xo A2
    obtain ⟨u40, p40⟩ := je_40 J2.1
    obtain ⟨-, -, b3, b4, -⟩ := wkA_b (come := 0) (wo := s) (kind := am_ag (Y 5) (2 * i)) hBY oy hP.1.2.2.1 hP.1.2.1
    obtain ⟨-, -, c3, c4, -⟩ := wkA_b (come := 0) (wo := 4294967292) (kind := am_ag (Y 5) (2 * i)) hBY oy hP.1.2.2.1 hP.1.2.1
    have e3 := (cl_q J2 A2).1 _ (Nat.lt_succ_of_le b4)
    have c256 := cl_k256 hP (Nat.lt_succ_of_le b4)
    have n256 := cl_k256 hP (Nat.lt_succ_of_le c4)
    obtain ⟨g', J', A', sz', q⟩ := mtx_l hi f (s + 1) k (by omega) J2 A2
    refine ⟨g', J', A', ⟨sz'.1.trans (sz2.1.trans sz1.1), sz'.2.trans (sz2.2.trans sz1.2)⟩, ?_⟩
    have hb : bs_i (mt_p mi go Z Y i) 0 0 (s + 1) = if mt_p mi go Z Y i s = true then bs_i (mt_p mi go Z Y i) 0 0 s ||| 2 ^ (0 + s) else bs_i (mt_p mi go Z Y i) 0 0 s := rfl
    rw [hb, Nat.zero_add] at q
    have iff : mt_p mi go Z Y i s = true ↔ ((wkA Z Y 0 s go mi (am_ag (Y 5) (2 * i)) (am_ag (Y 5) (2 * i + 1))).2.2.1 ≠ (wkA Z Y 0 4294967292 go mi (am_ag (Y 5) (2 * i)) (am_ag (Y 5) (2 * i + 1))).2.2.1 ∨ cl_k (Y 4) (Z 4) 6 (wkA Z Y 0 s go mi (am_ag (Y 5) (2 * i)) (am_ag (Y 5) (2 * i + 1))).2.2.2.1 ≠ (cl_k (Y 4) (Z 4) 6 (wkA Z Y 0 4294967292 go mi (am_ag (Y 5) (2 * i)) (am_ag (Y 5) (2 * i + 1))).2.2.2.1)) := by
      unfold mt_p
      rw [Bool.or_eq_true, Bool.not_eq_true', Bool.not_eq_true']
      constructor
      · rintro (a | a)
        · exact Or.inl (Nat.ne_of_beq_eq_false a)
        · exact Or.inr (Nat.ne_of_beq_eq_false a)
      · rintro (a | a)
        · refine Or.inl ?_
          cases hq : Nat.beq (wkA Z Y 0 s go mi (am_ag (Y 5) (2 * i)) (am_ag (Y 5) (2 * i + 1))).2.2.1 ((wkA Z Y 0 4294967292 go mi (am_ag (Y 5) (2 * i)) (am_ag (Y 5) (2 * i + 1))).2.2.1)
          · rfl
          · exact absurd (Nat.eq_of_beq_eq_true hq) a
        · refine Or.inr ?_
          cases hq : Nat.beq (cl_k (Y 4) (Z 4) 6 (wkA Z Y 0 s go mi (am_ag (Y 5) (2 * i)) (am_ag (Y 5) (2 * i + 1))).2.2.2.1) (cl_k (Y 4) (Z 4) 6 (wkA Z Y 0 4294967292 go mi (am_ag (Y 5) (2 * i)) (am_ag (Y 5) (2 * i + 1))).2.2.2.1)
          · rfl
          · exact absurd (Nat.eq_of_beq_eq_true hq) a
    by_cases hc : (wkA Z Y 0 s go mi (am_ag (Y 5) (2 * i)) (am_ag (Y 5) (2 * i + 1))).2.2.1 = (wkA Z Y 0 4294967292 go mi (am_ag (Y 5) (2 * i)) (am_ag (Y 5) (2 * i + 1))).2.2.1
    · by_cases hd : cl_k (Y 4) (Z 4) 6 (wkA Z Y 0 s go mi (am_ag (Y 5) (2 * i)) (am_ag (Y 5) (2 * i + 1))).2.2.2.1 = (cl_k (Y 4) (Z 4) 6 (wkA Z Y 0 4294967292 go mi (am_ag (Y 5) (2 * i)) (am_ag (Y 5) (2 * i + 1))).2.2.2.1)
      · rw [if_neg (fun a => (iff.mp a).elim (fun b => b hc) (fun b => b hd))] at q
        exact mtx_n q0 x3 x5 x6 x7 x8 qE rfl r1 rfl q36 p0 y3 y5 y6 y7 y8 d0 w3 w5 w6 w7 w8 p40 (fvg p40 t4) (fvg p40 t5) d30 z1 (by omega) (by omega) (by omega) n256 c256 e1 e2 e3 hc hd q
      · rw [if_pos (iff.mpr (Or.inr hd))] at q
        exact mtx_k q0 x3 x5 x6 x7 x8 qE rfl r1 rfl q36 p0 y3 y5 y6 y7 y8 d0 w3 w5 w6 w7 w8 p40 (fvg p40 t4) (fvg p40 t5) d30 z1 (by omega) (by omega) (by omega) n256 c256 e1 e2 e3 hc hd q
    · rw [if_pos (iff.mpr (Or.inl hc))] at q
      exact mtx_w q0 x3 x5 x6 x7 x8 qE rfl r1 rfl q36 p0 y3 y5 y6 y7 y8 d0 w3 w5 w6 w7 w8 p40 (fvg p40 t4) (fvg p40 t5) d30 z1 (by omega) (by omega) (by omega) n256 c256 e1 e2 e3 hc q
theorem mtm_l {E mi go i : Nat} {Z X Y : Nat → Nat} (hi : i < Z 5) : ∀ (f s : Nat) (h : am_H), s + f = Z 1 → Jv h → je_A h E mi go Z X Y → ∃ g, Jv g ∧ (g.1 = h.1 ∧ g.2.1 = h.2.1) ∧ am_Good mi_204 42 [some (.ref 66), some (.retAddr i), some (.retAddr ((wkA Z Y 0 4294967292 go mi (am_ag (Y 5) (2 * i)) (am_ag (Y 5) (2 * i + 1))).2.2.1)), some (.retAddr (cl_k (Y 4) (Z 4) 6 (wkA Z Y 0 4294967292 go mi (am_ag (Y 5) (2 * i)) (am_ag (Y 5) (2 * i + 1))).2.2.2.1)), some (.retAddr (bs_i (mt_p mi go Z Y i) 0 0 s)), some (.retAddr s)] [] h (some (.retAddr (bs_i (mt_p mi go Z Y i) 0 0 (Z 1))), g)
  | 0, s, h, e, hJ, hA => by
    have e' : s = Z 1 := by omega
    subst e'
    obtain ⟨vs, q66⟩ := jv_g66 hJ.1
    have z1 : Z 1 ≤ 9 := hA.2.2.2.1.2.1 1 (by decide)
    exact ⟨h, hJ, ⟨rfl, rfl⟩, mtm_e q66 (fvg q66 (hA.2.2.1.2.2 1 (by decide)).1) z1⟩
  | f + 1, s, h, e, hJ, hA => by
    obtain ⟨vs, q66⟩ := jv_g66 hJ.1
    have f4 := fvg q66 (hA.2.2.1.2.2 1 (by decide)).1
    have hP := hA.2.2.2.1
    have z1 : Z 1 ≤ 9 := hP.2.1 1 (by decide)
    have hBY : je_B Z Y := je_bY hP.2.1 hP.2.2.1
    have oy := hP.2.2.2.2 i hi
    obtain ⟨g, e1, J1, A1, sz1, S1⟩ := lc_x hJ hA (come := 0) (wo := s) (by decide) (by omega)
    obtain ⟨k, e2, J2, A2, sz2, ⟨t4, t5, -⟩, -⟩ := wf_q J1 A1 S1 hi
    obtain ⟨us, u66⟩ := jv_g66 J1.1
    obtain ⟨ws, w66⟩ := jv_g66 J2.1
    obtain ⟨-, -, b3, b4, -⟩ := wkA_b (come := 0) (wo := s) (kind := am_ag (Y 5) (2 * i)) hBY oy hP.1.2.2.1 hP.1.2.1
    obtain ⟨-, -, c3, c4, -⟩ := wkA_b (come := 0) (wo := 4294967292) (kind := am_ag (Y 5) (2 * i)) hBY oy hP.1.2.2.1 hP.1.2.1
    have e3 := (cl_q J2 A2).2 _ (Nat.lt_succ_of_le b4)
    have c256 := cl_k256 hP (Nat.lt_succ_of_le b4)
    have n256 := cl_k256 hP (Nat.lt_succ_of_le c4)
    obtain ⟨g', J', sz', q⟩ := mtm_l hi f (s + 1) k (by omega) J2 A2
    refine ⟨g', J', ⟨sz'.1.trans (sz2.1.trans sz1.1), sz'.2.trans (sz2.2.trans sz1.2)⟩, ?_⟩
    have hb : bs_i (mt_p mi go Z Y i) 0 0 (s + 1) = if mt_p mi go Z Y i s = true then bs_i (mt_p mi go Z Y i) 0 0 s ||| 2 ^ (0 + s) else bs_i (mt_p mi go Z Y i) 0 0 s := rfl
    rw [hb, Nat.zero_add] at q
    have iff : mt_p mi go Z Y i s = true ↔ ((wkA Z Y 0 s go mi (am_ag (Y 5) (2 * i)) (am_ag (Y 5) (2 * i + 1))).2.2.1 ≠ (wkA Z Y 0 4294967292 go mi (am_ag (Y 5) (2 * i)) (am_ag (Y 5) (2 * i + 1))).2.2.1 ∨ cl_k (Y 4) (Z 4) 6 (wkA Z Y 0 s go mi (am_ag (Y 5) (2 * i)) (am_ag (Y 5) (2 * i + 1))).2.2.2.1 ≠ (cl_k (Y 4) (Z 4) 6 (wkA Z Y 0 4294967292 go mi (am_ag (Y 5) (2 * i)) (am_ag (Y 5) (2 * i + 1))).2.2.2.1)) := by
      unfold mt_p
      rw [Bool.or_eq_true, Bool.not_eq_true', Bool.not_eq_true']
      constructor
      · rintro (a | a)
        · exact Or.inl (Nat.ne_of_beq_eq_false a)
        · exact Or.inr (Nat.ne_of_beq_eq_false a)
      · rintro (a | a)
        · refine Or.inl ?_
          cases hq : Nat.beq (wkA Z Y 0 s go mi (am_ag (Y 5) (2 * i)) (am_ag (Y 5) (2 * i + 1))).2.2.1 ((wkA Z Y 0 4294967292 go mi (am_ag (Y 5) (2 * i)) (am_ag (Y 5) (2 * i + 1))).2.2.1)
          · rfl
          · exact absurd (Nat.eq_of_beq_eq_true hq) a
        · refine Or.inr ?_
          cases hq : Nat.beq (cl_k (Y 4) (Z 4) 6 (wkA Z Y 0 s go mi (am_ag (Y 5) (2 * i)) (am_ag (Y 5) (2 * i + 1))).2.2.2.1) (cl_k (Y 4) (Z 4) 6 (wkA Z Y 0 4294967292 go mi (am_ag (Y 5) (2 * i)) (am_ag (Y 5) (2 * i + 1))).2.2.2.1)
          · rfl
          · exact absurd (Nat.eq_of_beq_eq_true hq) a
    by_cases hc : (wkA Z Y 0 s go mi (am_ag (Y 5) (2 * i)) (am_ag (Y 5) (2 * i + 1))).2.2.1 = (wkA Z Y 0 4294967292 go mi (am_ag (Y 5) (2 * i)) (am_ag (Y 5) (2 * i + 1))).2.2.1
    · by_cases hd : cl_k (Y 4) (Z 4) 6 (wkA Z Y 0 s go mi (am_ag (Y 5) (2 * i)) (am_ag (Y 5) (2 * i + 1))).2.2.2.1 = (cl_k (Y 4) (Z 4) 6 (wkA Z Y 0 4294967292 go mi (am_ag (Y 5) (2 * i)) (am_ag (Y 5) (2 * i + 1))).2.2.2.1)
      · rw [if_neg (fun a => (iff.mp a).elim (fun b => b hc) (fun b => b hd))] at q
        exact mtm_n q66 f4 u66 w66 (fvg w66 t4) (fvg w66 t5) z1 (by omega) (by omega) (by omega) n256 c256 e1 e2 e3 hc hd q
      · rw [if_pos (iff.mpr (Or.inr hd))] at q
        exact mtm_k q66 f4 u66 w66 (fvg w66 t4) (fvg w66 t5) z1 (by omega) (by omega) (by omega) n256 c256 e1 e2 e3 hc hd q
    · rw [if_pos (iff.mpr (Or.inl hc))] at q
      exact mtm_w q66 f4 u66 w66 (fvg w66 t4) (fvg w66 t5) z1 (by omega) (by omega) (by omega) n256 c256 e1 e2 e3 hc q
theorem jb_matters (x : Nat) (hx : x < 4294967296) : am_B2 Jv true 121 204 [.retAddr x] := by
  intro h hJ
  obtain ⟨E, mi, go, Z, X, Y, hA⟩ := je_ex hJ
  obtain ⟨v0, q0, x3, -, x6, -, -, -, -, qE, r0, -, r5, -, -, -, -⟩ := je_xo hA
  have hP := hA.2.2.2.1
  have p1 := hP.1
  have z0 : Z 0 ≤ 4 := hP.2.1 0 (by decide)
  have z5 : Z 5 ≤ 4 := hP.2.1 5 (by decide)
  obtain ⟨vs, q66⟩ := jv_g66 hJ.1
  by_cases h1 : x < Z 5
  case neg => exact je_fin hJ (mtx_0 q0 x3 qE rfl rfl rfl rfl r0 rfl r5 rfl p1.2.1 z0 z5 x6 hx h1) (mtm_0 q66 (fvg q66 (hA.2.2.1.2.2 5 (by decide)).1) z5 hx h1)
  have hBY : je_B Z Y := je_bY hP.2.1 hP.2.2.1
  have oy := hP.2.2.2.2 x h1
  obtain ⟨-, -, c3, c4, -⟩ := wkA_b (come := 0) (wo := 4294967292) (kind := am_ag (Y 5) (2 * x)) hBY oy hP.1.2.2.1 hP.1.2.1
  obtain ⟨k, e2, J2, A2, sz2, ⟨t4, t5, -⟩, -⟩ := fo_q hJ hA (Or.inl ⟨rfl, rfl, rfl, rfl⟩) (scR_32 hA) h1
  obtain ⟨c0, d0, w3, w5, w6, w7, w8, -, -, -, -, -, -, -, -, -, d30⟩ := je_xo A2
  obtain ⟨u40, p40⟩ := je_40 J2.1
  have e3 := (cl_q J2 A2).1 _ (Nat.lt_succ_of_le c4)
  obtain ⟨g', J', A', sz', q⟩ := mtx_l h1 (Z 1) 0 k (by omega) J2 A2
  have ex := mtx_s q0 x3 qE rfl rfl rfl rfl r0 rfl r5 rfl p1.2.1 z0 z5 x6 hx h1 d0 w3 w5 w6 w7 w8 p40 (fvg p40 t4) (fvg p40 t5) d30 e2 e3 q
  obtain ⟨us, u66⟩ := jv_g66 J'.1
  obtain ⟨g1, a1, B1, C1, y1, S1⟩ := lc_x J' A' (come := 0) (wo := 4294967292) (by decide) (by decide)
  obtain ⟨g2, a2, B2, C2, y2, ⟨s4, s5, -⟩, -⟩ := wf_q B1 C1 S1 h1
  obtain ⟨us1, u661⟩ := jv_g66 B1.1
  obtain ⟨us2, u662⟩ := jv_g66 B2.1
  have a3 := (cl_q B2 C2).2 _ (Nat.lt_succ_of_le c4)
  obtain ⟨g3, B3, y3, qm⟩ := mtm_l h1 (Z 1) 0 g2 (by omega) B2 C2
  have em := mtm_s u66 (fvg u66 (A'.2.2.1.2.2 5 (by decide)).1) z5 hx h1 u661 u662 (fvg u662 s4) (fvg u662 s5) a1 a2 a3 qm
  exact ⟨_, g', _, g3, ex, em, fun _ => rfl, B3, ⟨v0, q0⟩, ⟨us, u66⟩, ⟨sz'.1.trans sz2.1, sz'.2.trans sz2.2⟩, y3.1.trans (y2.1.trans y1.1), y3.2.trans (y2.2.trans y1.2)⟩
