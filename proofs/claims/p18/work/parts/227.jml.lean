/-! ===== layMost of the reference: its walk ===== -/
theorem jm_l1s {r : am_R} {h : am_H} {c1 c0 Len g n : Nat} (hH : jm_H h c1 c0 Len g n) (hL : Len ≤ 60) (hl : g < 4) (hn : n ≤ 4) {cm k : Nat} (hk : k < 256) (hg : am_Good mi_172 2 [some (.ref 66), some (.retAddr (k + 1)), none, none, none] [] (jm_M h (am_as cm k 0)) r) : am_Good mi_172 2 [some (.ref 66), some (.retAddr k), none, none, none] [] (jm_M h cm) r := by
  have hM := jm_M_H hH cm
  have hM0 := hM
  obtain ⟨vs, q66, f0, f1, f2, f32, f46, a81, a88⟩ := hM0
  refine g_iload_n (i := 1) dd_172_2 rfl ?_
  refine g_sipush dd_172_3 si_256 ?_
  refine g_icmp_ge_f (t := 22) dd_172_6 (by decide) (tk_ge_f (by omega)) ?_
  refine g_aload_n (i := 0) dd_172_9 rfl ?_
  refine g_getfield (k := 46) am_ck12 (by decide) (Or.inl w_981) dd_172_10 q66 f46 ?_
  refine g_iload_n (i := 1) dd_172_13 rfl ?_
  refine g_iconst dd_172_14 ic_0 ?_
  refine g_iastore dd_172_15 a88 (by omega) (by decide) ?_
  rw [jm_M_M hH]
  show am_Good mi_172 16 [some (.ref 66), some (.retAddr k), none, none, none] [] (jm_M h (am_as cm k 0)) _
  refine e_iinc (v := 1) (w := k + 1) dd_172_16 rfl ic_1 (am_nlb_ok rfl) (by decide) (by omega) ?_
  refine g_goto (t := 2) dd_172_19 (by decide) ?_
  exact hg
theorem jm_l1e {r : am_R} {h : am_H} {c1 c0 Len g n : Nat} (hH : jm_H h c1 c0 Len g n) (hL : Len ≤ 60) (hl : g < 4) (hn : n ≤ 4) (hL1 : 1 ≤ Len) {cm : Nat} (hg : am_Good mi_172 29 [some (.ref 66), some (.retAddr (Len - 1)), none, none, none] [] (jm_M h cm) r) : am_Good mi_172 2 [some (.ref 66), some (.retAddr 256), none, none, none] [] (jm_M h cm) r := by
  have hM := jm_M_H hH cm
  have hM0 := hM
  obtain ⟨vs, q66, f0, f1, f2, f32, f46, a81, a88⟩ := hM0
  refine g_iload_n (i := 1) dd_172_2 rfl ?_
  refine g_sipush dd_172_3 si_256 ?_
  refine g_icmp_ge_t (t := 22) dd_172_6 (by decide) (by decide) ?_
  refine g_aload_n (i := 0) dd_172_22 rfl ?_
  refine g_getfield (k := 0) am_ck12 (by decide) (Or.inl w_935) dd_172_23 q66 f0 ?_
  refine g_iconst dd_172_26 ic_1 ?_
  refine e_isub (v := Len - 1) dd_172_27 (by omega) ?_
  refine g_istore_n (i := 1) dd_172_28 (am_nlb_ok rfl) (by decide) ?_
  exact hg
theorem jm_li_n {r : am_R} {h : am_H} {c1 c0 Len g n : Nat} (hH : jm_H h c1 c0 Len g n) (hL : Len ≤ 60) (hl : g < 4) (hn : n ≤ 4) {cm t s st to by_ : Nat} {v3 v4 : Option Value} (ht : t < Len) (hs : s < n) (hst : (am_ag c1 (64 * s + t) + am_ag cm (4 * (t + 1) + s)) % 4294967296 = st) (hto : jm_bf (jm_by c1 cm g t) s n = to) (hby : jm_by c1 cm g t to = by_) (hto4 : to = 4294967292) (hg : am_Good mi_172 35 [some (.ref 66), some (.retAddr t), some (.retAddr (s + 1)), some (.retAddr st), some (.retAddr to)] [] (jm_M h (am_as cm (4 * t + s) st)) r) : am_Good mi_172 35 [some (.ref 66), some (.retAddr t), some (.retAddr s), v3, v4] [] (jm_M h cm) r := by
  have hM := jm_M_H hH cm
  have hM0 := hM
  obtain ⟨vs, q66, f0, f1, f2, f32, f46, a81, a88⟩ := hM0
  refine g_iload_n (i := 2) dd_172_35 rfl ?_
  refine g_aload_n (i := 0) dd_172_36 rfl ?_
  refine g_getfield (k := 2) am_ck12 (by decide) (Or.inl w_937) dd_172_37 q66 f2 ?_
  refine g_icmp_ge_f (t := 121) dd_172_40 (by decide) (tk_ge_f (by omega)) ?_
  refine g_aload_n (i := 0) dd_172_43 rfl ?_
  refine g_getfield (k := 32) am_ck12 (by decide) (Or.inl w_967) dd_172_44 q66 f32 ?_
  refine g_bipush dd_172_47 bi_64 ?_
  refine g_iload_n (i := 2) dd_172_49 rfl ?_
  refine e_imul (v := 64 * s) dd_172_50 (by omega) ?_
  refine g_iload_n (i := 1) dd_172_51 rfl ?_
  refine e_iadd (v := (64 * s) + t) dd_172_52 (by omega) ?_
  refine g_iaload dd_172_53 a81 (by omega) (by decide) ?_
  have hl_1 := am_ag_lt c1 ((64 * s) + t)
  refine g_aload_n (i := 0) dd_172_54 rfl ?_
  refine g_getfield (k := 46) am_ck12 (by decide) (Or.inl w_981) dd_172_55 q66 f46 ?_
  refine g_iconst dd_172_58 ic_4 ?_
  refine g_iload_n (i := 1) dd_172_59 rfl ?_
  refine g_iconst dd_172_60 ic_1 ?_
  refine e_iadd (v := t + 1) dd_172_61 (by omega) ?_
  refine e_imul (v := 4 * (t + 1)) dd_172_62 (by omega) ?_
  refine g_iload_n (i := 2) dd_172_63 rfl ?_
  refine e_iadd (v := (4 * (t + 1)) + s) dd_172_64 (by omega) ?_
  refine g_iaload dd_172_65 a88 (by omega) (by decide) ?_
  have hl_2 := am_ag_lt cm ((4 * (t + 1)) + s)
  refine e_iadd (v := st) dd_172_66 hst ?_
  refine g_istore_n (i := 3) dd_172_67 (am_nlb_ok rfl) (by decide) ?_
  refine g_aload_n (i := 0) dd_172_68 rfl ?_
  refine g_iload_n (i := 1) dd_172_69 rfl ?_
  refine g_iload_n (i := 2) dd_172_70 rfl ?_
  refine g_virtual (M' := mi_173) (n := 2) (ci := 12) (b := 66) (as := [.retAddr t, .retAddr s]) (st := []) (r1 := (some (.retAddr to), (jm_M h cm))) w_1262 w_1264 ps_173 ⟨lk_173.1, lk_173.2.1, lk_173.2.2, by decide, by decide⟩ rfl q66 rfl (by simp [Value.category]) dd_172_71 (by rw [← hto]; exact jm_bestGoing hM (by omega) (by omega) hl hn) ?_
  show am_Good mi_172 74 [some (.ref 66), some (.retAddr t), some (.retAddr s), some (.retAddr st), v4] [.retAddr to] (jm_M h cm) _
  refine g_istore dd_172_74 (am_nlb_ok rfl) (by decide) ?_
  refine g_aload_n (i := 0) dd_172_76 rfl ?_
  refine g_getfield (k := 46) am_ck12 (by decide) (Or.inl w_981) dd_172_77 q66 f46 ?_
  refine g_iconst dd_172_80 ic_4 ?_
  refine g_iload_n (i := 1) dd_172_81 rfl ?_
  refine e_imul (v := 4 * t) dd_172_82 (by omega) ?_
  refine g_iload_n (i := 2) dd_172_83 rfl ?_
  refine e_iadd (v := (4 * t) + s) dd_172_84 (by omega) ?_
  refine g_iload dd_172_85 rfl ?_
  refine g_bipush dd_172_87 bi_m4 ?_
  refine g_icmp_eq_t (t := 113) dd_172_89 (by decide) (tk_eq_t (by omega)) ?_
  refine g_iload_n (i := 3) dd_172_113 rfl ?_
  refine g_iastore dd_172_114 a88 (by omega) (by decide) ?_
  rw [jm_M_M hH]
  show am_Good mi_172 115 [some (.ref 66), some (.retAddr t), some (.retAddr s), some (.retAddr st), some (.retAddr to)] [] (jm_M h (am_as cm ((4 * t) + s) st)) _
  refine e_iinc (v := 1) (w := s + 1) dd_172_115 rfl ic_1 (am_nlb_ok rfl) (by decide) (by omega) ?_
  refine g_goto (t := 35) dd_172_118 (by decide) ?_
  exact hg
theorem jm_li_l {r : am_R} {h : am_H} {c1 c0 Len g n : Nat} (hH : jm_H h c1 c0 Len g n) (hL : Len ≤ 60) (hl : g < 4) (hn : n ≤ 4) {cm t s st to by_ : Nat} {v3 v4 : Option Value} (ht : t < Len) (hs : s < n) (hst : (am_ag c1 (64 * s + t) + am_ag cm (4 * (t + 1) + s)) % 4294967296 = st) (hto : jm_bf (jm_by c1 cm g t) s n = to) (hby : jm_by c1 cm g t to = by_) (hto4 : to < n) (hlt : am_tlt st by_ = false) (hg : am_Good mi_172 35 [some (.ref 66), some (.retAddr t), some (.retAddr (s + 1)), some (.retAddr st), some (.retAddr to)] [] (jm_M h (am_as cm (4 * t + s) st)) r) : am_Good mi_172 35 [some (.ref 66), some (.retAddr t), some (.retAddr s), v3, v4] [] (jm_M h cm) r := by
  have hM := jm_M_H hH cm
  have hM0 := hM
  obtain ⟨vs, q66, f0, f1, f2, f32, f46, a81, a88⟩ := hM0
  refine g_iload_n (i := 2) dd_172_35 rfl ?_
  refine g_aload_n (i := 0) dd_172_36 rfl ?_
  refine g_getfield (k := 2) am_ck12 (by decide) (Or.inl w_937) dd_172_37 q66 f2 ?_
  refine g_icmp_ge_f (t := 121) dd_172_40 (by decide) (tk_ge_f (by omega)) ?_
  refine g_aload_n (i := 0) dd_172_43 rfl ?_
  refine g_getfield (k := 32) am_ck12 (by decide) (Or.inl w_967) dd_172_44 q66 f32 ?_
  refine g_bipush dd_172_47 bi_64 ?_
  refine g_iload_n (i := 2) dd_172_49 rfl ?_
  refine e_imul (v := 64 * s) dd_172_50 (by omega) ?_
  refine g_iload_n (i := 1) dd_172_51 rfl ?_
  refine e_iadd (v := (64 * s) + t) dd_172_52 (by omega) ?_
  refine g_iaload dd_172_53 a81 (by omega) (by decide) ?_
  have hl_1 := am_ag_lt c1 ((64 * s) + t)
  refine g_aload_n (i := 0) dd_172_54 rfl ?_
  refine g_getfield (k := 46) am_ck12 (by decide) (Or.inl w_981) dd_172_55 q66 f46 ?_
  refine g_iconst dd_172_58 ic_4 ?_
  refine g_iload_n (i := 1) dd_172_59 rfl ?_
  refine g_iconst dd_172_60 ic_1 ?_
  refine e_iadd (v := t + 1) dd_172_61 (by omega) ?_
  refine e_imul (v := 4 * (t + 1)) dd_172_62 (by omega) ?_
  refine g_iload_n (i := 2) dd_172_63 rfl ?_
  refine e_iadd (v := (4 * (t + 1)) + s) dd_172_64 (by omega) ?_
  refine g_iaload dd_172_65 a88 (by omega) (by decide) ?_
  have hl_2 := am_ag_lt cm ((4 * (t + 1)) + s)
  refine e_iadd (v := st) dd_172_66 hst ?_
  refine g_istore_n (i := 3) dd_172_67 (am_nlb_ok rfl) (by decide) ?_
  refine g_aload_n (i := 0) dd_172_68 rfl ?_
  refine g_iload_n (i := 1) dd_172_69 rfl ?_
  refine g_iload_n (i := 2) dd_172_70 rfl ?_
  refine g_virtual (M' := mi_173) (n := 2) (ci := 12) (b := 66) (as := [.retAddr t, .retAddr s]) (st := []) (r1 := (some (.retAddr to), (jm_M h cm))) w_1262 w_1264 ps_173 ⟨lk_173.1, lk_173.2.1, lk_173.2.2, by decide, by decide⟩ rfl q66 rfl (by simp [Value.category]) dd_172_71 (by rw [← hto]; exact jm_bestGoing hM (by omega) (by omega) hl hn) ?_
  show am_Good mi_172 74 [some (.ref 66), some (.retAddr t), some (.retAddr s), some (.retAddr st), v4] [.retAddr to] (jm_M h cm) _
  refine g_istore dd_172_74 (am_nlb_ok rfl) (by decide) ?_
  refine g_aload_n (i := 0) dd_172_76 rfl ?_
  refine g_getfield (k := 46) am_ck12 (by decide) (Or.inl w_981) dd_172_77 q66 f46 ?_
  refine g_iconst dd_172_80 ic_4 ?_
  refine g_iload_n (i := 1) dd_172_81 rfl ?_
  refine e_imul (v := 4 * t) dd_172_82 (by omega) ?_
  refine g_iload_n (i := 2) dd_172_83 rfl ?_
  refine e_iadd (v := (4 * t) + s) dd_172_84 (by omega) ?_
  refine g_iload dd_172_85 rfl ?_
  refine g_bipush dd_172_87 bi_m4 ?_
  refine g_icmp_eq_f (t := 113) dd_172_89 (by decide) (tk_eq_f (by omega)) ?_
  refine g_aload_n (i := 0) dd_172_92 rfl ?_
  refine g_iload_n (i := 1) dd_172_93 rfl ?_
  refine g_iload dd_172_94 rfl ?_
  refine g_virtual (M' := mi_174) (n := 2) (ci := 12) (b := 66) (as := [.retAddr t, .retAddr to]) (st := [.retAddr ((4 * t) + s), .ref 88]) (r1 := (some (.retAddr by_), (jm_M h cm))) w_1266 w_1268 ps_174 ⟨lk_174.1, lk_174.2.1, lk_174.2.2, by decide, by decide⟩ rfl q66 rfl (by simp [Value.category]) dd_172_96 (by rw [← hby]; exact jm_byGoing hM (by omega) (by omega) hl) ?_
  show am_Good mi_172 99 [some (.ref 66), some (.retAddr t), some (.retAddr s), some (.retAddr st), some (.retAddr to)] [.retAddr by_, .retAddr ((4 * t) + s), .ref 88] (jm_M h cm) _
  refine g_iload_n (i := 3) dd_172_99 rfl ?_
  refine g_icmp_le_t (t := 113) dd_172_100 (by decide) (by rw [ax_tle, hlt]; rfl) ?_
  refine g_iload_n (i := 3) dd_172_113 rfl ?_
  refine g_iastore dd_172_114 a88 (by omega) (by decide) ?_
  rw [jm_M_M hH]
  show am_Good mi_172 115 [some (.ref 66), some (.retAddr t), some (.retAddr s), some (.retAddr st), some (.retAddr to)] [] (jm_M h (am_as cm ((4 * t) + s) st)) _
  refine e_iinc (v := 1) (w := s + 1) dd_172_115 rfl ic_1 (am_nlb_ok rfl) (by decide) (by omega) ?_
  refine g_goto (t := 35) dd_172_118 (by decide) ?_
  exact hg
theorem jm_li_g {r : am_R} {h : am_H} {c1 c0 Len g n : Nat} (hH : jm_H h c1 c0 Len g n) (hL : Len ≤ 60) (hl : g < 4) (hn : n ≤ 4) {cm t s st to by_ : Nat} {v3 v4 : Option Value} (ht : t < Len) (hs : s < n) (hst : (am_ag c1 (64 * s + t) + am_ag cm (4 * (t + 1) + s)) % 4294967296 = st) (hto : jm_bf (jm_by c1 cm g t) s n = to) (hby : jm_by c1 cm g t to = by_) (hto4 : to < n) (hlt : am_tlt st by_ = true) (hg : am_Good mi_172 35 [some (.ref 66), some (.retAddr t), some (.retAddr (s + 1)), some (.retAddr st), some (.retAddr to)] [] (jm_M h (am_as cm (4 * t + s) by_)) r) : am_Good mi_172 35 [some (.ref 66), some (.retAddr t), some (.retAddr s), v3, v4] [] (jm_M h cm) r := by
  have hM := jm_M_H hH cm
  have hM0 := hM
  obtain ⟨vs, q66, f0, f1, f2, f32, f46, a81, a88⟩ := hM0
  refine g_iload_n (i := 2) dd_172_35 rfl ?_
  refine g_aload_n (i := 0) dd_172_36 rfl ?_
  refine g_getfield (k := 2) am_ck12 (by decide) (Or.inl w_937) dd_172_37 q66 f2 ?_
  refine g_icmp_ge_f (t := 121) dd_172_40 (by decide) (tk_ge_f (by omega)) ?_
  refine g_aload_n (i := 0) dd_172_43 rfl ?_
  refine g_getfield (k := 32) am_ck12 (by decide) (Or.inl w_967) dd_172_44 q66 f32 ?_
  refine g_bipush dd_172_47 bi_64 ?_
  refine g_iload_n (i := 2) dd_172_49 rfl ?_
  refine e_imul (v := 64 * s) dd_172_50 (by omega) ?_
  refine g_iload_n (i := 1) dd_172_51 rfl ?_
  refine e_iadd (v := (64 * s) + t) dd_172_52 (by omega) ?_
  refine g_iaload dd_172_53 a81 (by omega) (by decide) ?_
  have hl_1 := am_ag_lt c1 ((64 * s) + t)
  refine g_aload_n (i := 0) dd_172_54 rfl ?_
  refine g_getfield (k := 46) am_ck12 (by decide) (Or.inl w_981) dd_172_55 q66 f46 ?_
  refine g_iconst dd_172_58 ic_4 ?_
  refine g_iload_n (i := 1) dd_172_59 rfl ?_
  refine g_iconst dd_172_60 ic_1 ?_
  refine e_iadd (v := t + 1) dd_172_61 (by omega) ?_
  refine e_imul (v := 4 * (t + 1)) dd_172_62 (by omega) ?_
  refine g_iload_n (i := 2) dd_172_63 rfl ?_
  refine e_iadd (v := (4 * (t + 1)) + s) dd_172_64 (by omega) ?_
  refine g_iaload dd_172_65 a88 (by omega) (by decide) ?_
  have hl_2 := am_ag_lt cm ((4 * (t + 1)) + s)
  refine e_iadd (v := st) dd_172_66 hst ?_
  refine g_istore_n (i := 3) dd_172_67 (am_nlb_ok rfl) (by decide) ?_
  refine g_aload_n (i := 0) dd_172_68 rfl ?_
  refine g_iload_n (i := 1) dd_172_69 rfl ?_
  refine g_iload_n (i := 2) dd_172_70 rfl ?_
  refine g_virtual (M' := mi_173) (n := 2) (ci := 12) (b := 66) (as := [.retAddr t, .retAddr s]) (st := []) (r1 := (some (.retAddr to), (jm_M h cm))) w_1262 w_1264 ps_173 ⟨lk_173.1, lk_173.2.1, lk_173.2.2, by decide, by decide⟩ rfl q66 rfl (by simp [Value.category]) dd_172_71 (by rw [← hto]; exact jm_bestGoing hM (by omega) (by omega) hl hn) ?_
  show am_Good mi_172 74 [some (.ref 66), some (.retAddr t), some (.retAddr s), some (.retAddr st), v4] [.retAddr to] (jm_M h cm) _
  refine g_istore dd_172_74 (am_nlb_ok rfl) (by decide) ?_
  refine g_aload_n (i := 0) dd_172_76 rfl ?_
  refine g_getfield (k := 46) am_ck12 (by decide) (Or.inl w_981) dd_172_77 q66 f46 ?_
  refine g_iconst dd_172_80 ic_4 ?_
  refine g_iload_n (i := 1) dd_172_81 rfl ?_
  refine e_imul (v := 4 * t) dd_172_82 (by omega) ?_
  refine g_iload_n (i := 2) dd_172_83 rfl ?_
  refine e_iadd (v := (4 * t) + s) dd_172_84 (by omega) ?_
  refine g_iload dd_172_85 rfl ?_
  refine g_bipush dd_172_87 bi_m4 ?_
  refine g_icmp_eq_f (t := 113) dd_172_89 (by decide) (tk_eq_f (by omega)) ?_
  refine g_aload_n (i := 0) dd_172_92 rfl ?_
  refine g_iload_n (i := 1) dd_172_93 rfl ?_
  refine g_iload dd_172_94 rfl ?_
  refine g_virtual (M' := mi_174) (n := 2) (ci := 12) (b := 66) (as := [.retAddr t, .retAddr to]) (st := [.retAddr ((4 * t) + s), .ref 88]) (r1 := (some (.retAddr by_), (jm_M h cm))) w_1266 w_1268 ps_174 ⟨lk_174.1, lk_174.2.1, lk_174.2.2, by decide, by decide⟩ rfl q66 rfl (by simp [Value.category]) dd_172_96 (by rw [← hby]; exact jm_byGoing hM (by omega) (by omega) hl) ?_
  show am_Good mi_172 99 [some (.ref 66), some (.retAddr t), some (.retAddr s), some (.retAddr st), some (.retAddr to)] [.retAddr by_, .retAddr ((4 * t) + s), .ref 88] (jm_M h cm) _
  refine g_iload_n (i := 3) dd_172_99 rfl ?_
  refine g_icmp_le_f (t := 113) dd_172_100 (by decide) (by rw [ax_tle, hlt]; rfl) ?_
  refine g_aload_n (i := 0) dd_172_103 rfl ?_
  refine g_iload_n (i := 1) dd_172_104 rfl ?_
  refine g_iload dd_172_105 rfl ?_
  refine g_virtual (M' := mi_174) (n := 2) (ci := 12) (b := 66) (as := [.retAddr t, .retAddr to]) (st := [.retAddr ((4 * t) + s), .ref 88]) (r1 := (some (.retAddr by_), (jm_M h cm))) w_1266 w_1268 ps_174 ⟨lk_174.1, lk_174.2.1, lk_174.2.2, by decide, by decide⟩ rfl q66 rfl (by simp [Value.category]) dd_172_107 (by rw [← hby]; exact jm_byGoing hM (by omega) (by omega) hl) ?_
  show am_Good mi_172 110 [some (.ref 66), some (.retAddr t), some (.retAddr s), some (.retAddr st), some (.retAddr to)] [.retAddr by_, .retAddr ((4 * t) + s), .ref 88] (jm_M h cm) _
  refine g_goto (t := 114) dd_172_110 (by decide) ?_
  refine g_iastore dd_172_114 a88 (by omega) (by decide) ?_
  rw [jm_M_M hH]
  show am_Good mi_172 115 [some (.ref 66), some (.retAddr t), some (.retAddr s), some (.retAddr st), some (.retAddr to)] [] (jm_M h (am_as cm ((4 * t) + s) by_)) _
  refine e_iinc (v := 1) (w := s + 1) dd_172_115 rfl ic_1 (am_nlb_ok rfl) (by decide) (by omega) ?_
  refine g_goto (t := 35) dd_172_118 (by decide) ?_
  exact hg
theorem jm_lie {r : am_R} {h : am_H} {c1 c0 Len g n : Nat} (hH : jm_H h c1 c0 Len g n) (hL : Len ≤ 60) (hl : g < 4) (hn : n ≤ 4) {cm t : Nat} {v3 v4 : Option Value} (ht : t < Len) (hg : am_Good mi_172 29 [some (.ref 66), some (.retAddr ((t + 4294967295) % 4294967296)), some (.retAddr n), v3, v4] [] (jm_M h cm) r) : am_Good mi_172 35 [some (.ref 66), some (.retAddr t), some (.retAddr n), v3, v4] [] (jm_M h cm) r := by
  have hM := jm_M_H hH cm
  have hM0 := hM
  obtain ⟨vs, q66, f0, f1, f2, f32, f46, a81, a88⟩ := hM0
  refine g_iload_n (i := 2) dd_172_35 rfl ?_
  refine g_aload_n (i := 0) dd_172_36 rfl ?_
  refine g_getfield (k := 2) am_ck12 (by decide) (Or.inl w_937) dd_172_37 q66 f2 ?_
  refine g_icmp_ge_t (t := 121) dd_172_40 (by decide) (tk_ge_t (by omega)) ?_
  refine e_iinc (v := 4294967295) (w := (t + 4294967295) % 4294967296) dd_172_121 rfl ic_m1 (am_nlb_ok rfl) (by decide) rfl ?_
  refine g_goto (t := 29) dd_172_124 (by decide) ?_
  exact hg
theorem jm_loi {r : am_R} {h : am_H} {c1 c0 Len g n : Nat} (hH : jm_H h c1 c0 Len g n) (hL : Len ≤ 60) (hl : g < 4) (hn : n ≤ 4) {cm t : Nat} {v2 v3 v4 : Option Value} (ht : t < Len) (hg : am_Good mi_172 35 [some (.ref 66), some (.retAddr t), some (.retAddr 0), v3, v4] [] (jm_M h cm) r) : am_Good mi_172 29 [some (.ref 66), some (.retAddr t), v2, v3, v4] [] (jm_M h cm) r := by
  have hM := jm_M_H hH cm
  have hM0 := hM
  obtain ⟨vs, q66, f0, f1, f2, f32, f46, a81, a88⟩ := hM0
  refine g_iload_n (i := 1) dd_172_29 rfl ?_
  refine g_if_lt_f (t := 127) dd_172_30 (by decide) (tk_lt_f (by omega)) ?_
  refine g_iconst dd_172_33 ic_0 ?_
  refine g_istore_n (i := 2) dd_172_34 (am_nlb_ok rfl) (by decide) ?_
  exact hg
theorem jm_loe {h : am_H} {cm : Nat} {v2 v3 v4 : Option Value} : am_Good mi_172 29 [some (.ref 66), some (.retAddr 4294967295), v2, v3, v4] [] (jm_M h cm) (none, jm_M h cm) := by
  refine g_iload_n (i := 1) dd_172_29 rfl ?_
  refine g_if_lt_t (t := 127) dd_172_30 (by decide) (by decide) ?_
  exact g_return rfl dd_172_127
/-- what layMost has laid once it is at t, s -/
def jm_I (c1 cm g n Len t s : Nat) : Prop := (∀ u x, x < n → u < Len → (t < u ∨ (t = u ∧ x < s)) → jm_R c1 cm g n u x) ∧ ∀ x, x < 4 → am_ag cm (4 * Len + x) = 0
theorem jm_I_new {c1 cm g n Len t s v : Nat} (hn : n ≤ 4) (ht : t < Len) (hs : s < n) (hv : v < 4294967296) (h : v = jm_st c1 cm t s ∨ (jm_bf (jm_by c1 cm g t) s n ≠ 4294967292 ∧ v = jm_by c1 cm g t (jm_bf (jm_by c1 cm g t) s n))) (hI : jm_I c1 cm g n Len t s) : jm_I c1 (am_as cm (4 * t + s) v) g n Len t (s + 1) := by
  refine ⟨fun u x hx hu hc => ?_, fun x hx => ?_⟩
  · by_cases e : t = u ∧ x = s
    · obtain ⟨rfl, rfl⟩ := e
      exact jm_R_new (by omega) hv h
    · exact jm_R_as (by omega) (by omega) (by omega) (hI.1 u x hx hu (by omega))
  · rw [jm_ag_ne (by omega)]
    exact hI.2 x hx
theorem jm_by_lt (c1 cm g t s : Nat) : jm_by c1 cm g t s < 4294967296 := by
  unfold jm_by
  split
  · exact Nat.mod_lt _ (by decide)
  · exact am_ag_lt _ _
theorem jm_lin {P : Nat → Prop} {h : am_H} {c1 c0 Len g n : Nat} (hH : jm_H h c1 c0 Len g n) (hL : Len ≤ 60) (hl : g < 4) (hn : n ≤ 4) {t : Nat} (ht : t < Len) (hK : ∀ cm v3 v4, jm_I c1 cm g n Len t n → ∃ cf, P cf ∧ am_Good mi_172 35 [some (.ref 66), some (.retAddr t), some (.retAddr n), v3, v4] [] (jm_M h cm) (none, jm_M h cf)) : ∀ (k s cm : Nat) (v3 v4 : Option Value), s + k = n → jm_I c1 cm g n Len t s → ∃ cf, P cf ∧ am_Good mi_172 35 [some (.ref 66), some (.retAddr t), some (.retAddr s), v3, v4] [] (jm_M h cm) (none, jm_M h cf)
  | 0, s, cm, v3, v4, e, hI => by
    have e' : s = n := by omega
    subst e'
    exact hK cm v3 v4 hI
  | k + 1, s, cm, v3, v4, e, hI => by
    have hb := jm_bf_lt (jm_by c1 cm g t) s n
    by_cases h1 : jm_bf (jm_by c1 cm g t) s n = 4294967292
    · obtain ⟨cf, p, q⟩ := jm_lin hH hL hl hn ht hK k (s + 1) (am_as cm (4 * t + s) (jm_st c1 cm t s)) _ _ (by omega) (jm_I_new hn ht (by omega) (Nat.mod_lt _ (by decide)) (Or.inl rfl) hI)
      exact ⟨cf, p, jm_li_n hH hL hl hn ht (by omega) rfl rfl rfl h1 q⟩
    · cases h2 : am_tlt (jm_st c1 cm t s) (jm_by c1 cm g t (jm_bf (jm_by c1 cm g t) s n))
      · obtain ⟨cf, p, q⟩ := jm_lin hH hL hl hn ht hK k (s + 1) (am_as cm (4 * t + s) (jm_st c1 cm t s)) _ _ (by omega) (jm_I_new hn ht (by omega) (Nat.mod_lt _ (by decide)) (Or.inl rfl) hI)
        exact ⟨cf, p, jm_li_l hH hL hl hn ht (by omega) rfl rfl rfl (by omega) h2 q⟩
      · obtain ⟨cf, p, q⟩ := jm_lin hH hL hl hn ht hK k (s + 1) (am_as cm (4 * t + s) (jm_by c1 cm g t (jm_bf (jm_by c1 cm g t) s n))) _ _ (by omega) (jm_I_new hn ht (by omega) (jm_by_lt _ _ _ _ _) (Or.inr ⟨h1, rfl⟩) hI)
        exact ⟨cf, p, jm_li_g hH hL hl hn ht (by omega) rfl rfl rfl (by omega) h2 q⟩
def jm_P (c1 cm g n Len : Nat) : Prop := (∀ u x, x < n → u < Len → jm_R c1 cm g n u x) ∧ ∀ x, x < 4 → am_ag cm (4 * Len + x) = 0
theorem jm_lou {h : am_H} {c1 c0 Len g n : Nat} (hH : jm_H h c1 c0 Len g n) (hL : Len ≤ 60) (hl : g < 4) (hn : n ≤ 4) : ∀ (m cm : Nat) (v2 v3 v4 : Option Value), m ≤ Len → ((∀ u x, x < n → u < Len → m ≤ u → jm_R c1 cm g n u x) ∧ ∀ x, x < 4 → am_ag cm (4 * Len + x) = 0) → ∃ cf, jm_P c1 cf g n Len ∧ am_Good mi_172 29 [some (.ref 66), some (.retAddr ((m + 4294967295) % 4294967296)), v2, v3, v4] [] (jm_M h cm) (none, jm_M h cf)
  | 0, cm, v2, v3, v4, hm, hI => ⟨cm, ⟨fun u x hx hu => hI.1 u x hx hu (Nat.zero_le _), hI.2⟩, jm_loe⟩
  | m + 1, cm, v2, v3, v4, hm, hI => by
    have e : (m + 1 + 4294967295) % 4294967296 = m := by omega
    rw [e]
    obtain ⟨cf, p, q⟩ := jm_lin (P := fun cf => jm_P c1 cf g n Len) hH hL hl hn (t := m) (by omega) (fun cm' v3' v4' hI' => by
      obtain ⟨cf, p, q⟩ := jm_lou hH hL hl hn m cm' _ _ _ (by omega) ⟨fun u x hx hu hc => hI'.1 u x hx hu (by omega), hI'.2⟩
      exact ⟨cf, p, jm_lie hH hL hl hn (by omega) q⟩) n 0 cm v3 v4 (by omega) ⟨fun u x hx hu hc => hI.1 u x hx hu (by omega), hI.2⟩
    exact ⟨cf, p, jm_loi hH hL hl hn (by omega) q⟩
theorem jm_l1 {h : am_H} {c1 c0 Len g n : Nat} (hH : jm_H h c1 c0 Len g n) (hL1 : 1 ≤ Len) (hL : Len ≤ 60) (hl : g < 4) (hn : n ≤ 4) : ∀ (k j cm : Nat), j + k = 256 → (∀ i, i < j → am_ag cm i = 0) → ∃ cf, jm_P c1 cf g n Len ∧ am_Good mi_172 2 [some (.ref 66), some (.retAddr j), none, none, none] [] (jm_M h cm) (none, jm_M h cf)
  | 0, j, cm, e, hz => by
    have e' : j = 256 := by omega
    subst e'
    obtain ⟨cf, p, q⟩ := jm_lou hH hL hl hn Len cm none none none (Nat.le_refl _) ⟨fun u x hx hu hc => by omega, fun x hx => hz _ (by omega)⟩
    rw [show (Len + 4294967295) % 4294967296 = Len - 1 by omega] at q
    exact ⟨cf, p, jm_l1e hH hL hl hn hL1 q⟩
  | k + 1, j, cm, e, hz => by
    obtain ⟨cf, p, q⟩ := jm_l1 hH hL1 hL hl hn k (j + 1) (am_as cm j 0) (by omega) (fun i hi => by
      rw [am_ag_as]
      by_cases e : i = j
      · rw [if_pos e]
      · rw [if_neg e]
        exact hz i (by omega))
    exact ⟨cf, p, jm_l1s hH hL hl hn (by omega) q⟩
theorem jm_layMost {h : am_H} {c1 c0 Len g n : Nat} (hH : jm_H h c1 c0 Len g n) (hL1 : 1 ≤ Len) (hL : Len ≤ 60) (hl : g < 4) (hn : n ≤ 4) : ∃ cf, jm_P c1 cf g n Len ∧ am_EG mi_172 [.ref 66] h (none, jm_M h cf) := by
  obtain ⟨cf, p, q⟩ := jm_l1 hH hL1 hL hl hn 256 0 c0 (by omega) (fun i hi => by omega)
  refine ⟨cf, p, ?_⟩
  rw [jm_M_self hH] at q
  refine am_enter (n := 4) tk_172.2.1 (by simp [Value.category]) (Nat.le_of_ble_eq_true rfl) ?_
  show am_Good mi_172 0 [some (.ref 66), none, none, none, none] [] h _
  refine g_iconst dd_172_0 ic_0 ?_
  refine g_istore_n (i := 1) dd_172_1 (am_nlb_ok rfl) (by decide) ?_
  exact q
