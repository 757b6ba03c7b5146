/-! ===== fair: the reference ===== -/
def fm (h : am_H)  (hr sh : Nat) : am_H := am_ups h [(90, .inl (0, 6, hr)), (91, .inl (0, 4, sh))]
def fm_ok (h : am_H) : Prop := am_ke h [90, 91]
theorem fm_g90 {h : am_H}  {hr sh : Nat} (hH : fm_ok h) : am_get (fm h  hr sh) 90 = some (.inl (0, 6, hr)) := am_ups_g hH rfl
theorem fm_u90 {h : am_H}  {hr sh : Nat} (hH : fm_ok h) {hr' : Nat} : am_upd (fm h  hr sh) 90 (.inl (0, 6, hr')) = (fm h  hr' sh) := by
  unfold fm
  refine am_upd_ups ?_ ⟨rfl, rfl⟩
  exact hH
theorem fm_g91 {h : am_H}  {hr sh : Nat} (hH : fm_ok h) : am_get (fm h  hr sh) 91 = some (.inl (0, 4, sh)) := am_ups_g hH rfl
theorem fm_u91 {h : am_H}  {hr sh : Nat} (hH : fm_ok h) {sh' : Nat} : am_upd (fm h  hr sh) 91 (.inl (0, 4, sh')) = (fm h  hr sh') := by
  unfold fm
  refine am_upd_ups ?_ ⟨rfl, rfl⟩
  exact hH
theorem fm_o {h : am_H}  {hr sh : Nat} (hH : fm_ok h) {a : Nat} (ha : am_lk [(90, am_e0), (91, am_e0)] a = none) : am_get (fm h  hr sh) a = am_get h a := by
  unfold fm
  refine am_ups_n ?_ ?_
  · exact hH
  · exact (am_lk_k (by rfl)).mp ha
theorem st_t {h : am_H} (hH : fm_ok h) {mi go w y c1 : Nat} {vs : List Value} (q66 : am_get h 66 = some (.inr (12, vs))) (f0 : vs[0]? = some (.retAddr mi)) (f1 : vs[1]? = some (.retAddr go)) (f12 : vs[12]? = some (.retAddr w)) (f13 : vs[13]? = some (.ref 72)) (f32 : vs[32]? = some (.ref 81)) (f51 : vs[51]? = some (.ref 90)) (f52 : vs[52]? = some (.ref 91)) (a72 : am_get h 72 = some (.inl (0, 8, y))) (a81 : am_get h 81 = some (.inl (0, 256, c1))) (hm1 : 1 ≤ mi) (hm : mi ≤ 60) (hgo : go ≤ 3) (hw1 : 1 ≤ w) (hw : w ≤ 4) (ho4 : ∀ i, i < w → am_ag y (2 * i + 1) < 4) (h99 : ∀ s t, s < 4 → t < 60 → am_ag c1 (64 * s + t) ≤ 99) {hr sh : Nat} : am_EG mi_195 [.ref 66] (fm h hr sh) (some (.retAddr (fa_tn mi)), (fm h hr sh)) := by
  refine am_enter (n := 0) tk_195.2.1 (by simp [Value.category]) (Nat.le_of_ble_eq_true rfl) ?_
  show am_Good mi_195 0 [some (.ref 66)] [] (fm h hr sh) _
  refine g_aload_n (i := 0) dd_195_0 rfl ?_
  refine g_getfield (k := 0) am_ck12 (by decide) (Or.inl w_935) dd_195_1 ((fm_o hH rfl).trans q66) f0 ?_
  refine g_bipush dd_195_4 bi_9 ?_
  refine e_iadd (v := mi + 9) dd_195_6 (by omega) ?_
  refine g_bipush dd_195_7 bi_10 ?_
  refine e_idiv (v := fa_tn mi) dd_195_9 ⟨by omega, by decide, by decide, rfl⟩ ?_
  exact g_ireturn rfl dd_195_10
theorem sv_z {h : am_H} (hH : fm_ok h) {mi go w y c1 : Nat} {vs : List Value} (q66 : am_get h 66 = some (.inr (12, vs))) (f0 : vs[0]? = some (.retAddr mi)) (f1 : vs[1]? = some (.retAddr go)) (f12 : vs[12]? = some (.retAddr w)) (f13 : vs[13]? = some (.ref 72)) (f32 : vs[32]? = some (.ref 81)) (f51 : vs[51]? = some (.ref 90)) (f52 : vs[52]? = some (.ref 91)) (a72 : am_get h 72 = some (.inl (0, 8, y))) (a81 : am_get h 81 = some (.inl (0, 256, c1))) (hm1 : 1 ≤ mi) (hm : mi ≤ 60) (hgo : go ≤ 3) (hw1 : 1 ≤ w) (hw : w ≤ 4) (ho4 : ∀ i, i < w → am_ag y (2 * i + 1) < 4) (h99 : ∀ s t, s < 4 → t < 60 → am_ag c1 (64 * s + t) ≤ 99) {hr sh : Nat} {r : am_R} {s : Nat} (hs : s < 4) (hg : am_Good mi_197 2 [some (.ref 66), some (.retAddr (s + 1)), none, none, none, none] [] (fm h hr (am_as sh s 0)) r) : am_Good mi_197 2 [some (.ref 66), some (.retAddr s), none, none, none, none] [] (fm h hr sh) r := by
  refine g_iload_n (i := 1) dd_197_2 rfl ?_
  refine g_iconst dd_197_3 ic_4 ?_
  refine g_icmp_ge_f (t := 20) dd_197_4 (by decide) (by first | exact sk_ge_f (by omega) (by omega) | exact tk_ge_f (by omega)) ?_
  refine g_aload_n (i := 0) dd_197_7 rfl ?_
  refine g_getfield (k := 52) am_ck12 (by decide) (Or.inl w_987) dd_197_8 ((fm_o hH rfl).trans q66) f52 ?_
  refine g_iload_n (i := 1) dd_197_11 rfl ?_
  refine g_iconst dd_197_12 ic_0 ?_
  refine g_iastore dd_197_13 (fm_g91 hH) (by omega) (by decide) ?_
  refine am_heq (fm_u91 hH) ?_
  show am_Good mi_197 14 [some (.ref 66), some (.retAddr s), none, none, none, none] [] (fm h hr (am_as sh s 0)) _
  refine e_iinc (v := 1) (w := s + 1) dd_197_14 rfl ic_1 (am_nlb_ok rfl) (by decide) (by omega) ?_
  refine g_goto (t := 2) dd_197_17 (by decide) ?_
  exact hg
theorem sv_y {h : am_H} (hH : fm_ok h) {mi go w y c1 : Nat} {vs : List Value} (q66 : am_get h 66 = some (.inr (12, vs))) (f0 : vs[0]? = some (.retAddr mi)) (f1 : vs[1]? = some (.retAddr go)) (f12 : vs[12]? = some (.retAddr w)) (f13 : vs[13]? = some (.ref 72)) (f32 : vs[32]? = some (.ref 81)) (f51 : vs[51]? = some (.ref 90)) (f52 : vs[52]? = some (.ref 91)) (a72 : am_get h 72 = some (.inl (0, 8, y))) (a81 : am_get h 81 = some (.inl (0, 256, c1))) (hm1 : 1 ≤ mi) (hm : mi ≤ 60) (hgo : go ≤ 3) (hw1 : 1 ≤ w) (hw : w ≤ 4) (ho4 : ∀ i, i < w → am_ag y (2 * i + 1) < 4) (h99 : ∀ s t, s < 4 → t < 60 → am_ag c1 (64 * s + t) ≤ 99) {hr sh : Nat} {r : am_R} (hg : am_Good mi_197 22 [some (.ref 66), some (.retAddr 0), none, none, none, none] [] (fm h hr sh) r) : am_Good mi_197 2 [some (.ref 66), some (.retAddr 4), none, none, none, none] [] (fm h hr sh) r := by
  refine g_iload_n (i := 1) dd_197_2 rfl ?_
  refine g_iconst dd_197_3 ic_4 ?_
  refine g_icmp_ge_t (t := 20) dd_197_4 (by decide) (by decide) ?_
  refine g_iconst dd_197_20 ic_0 ?_
  refine g_istore_n (i := 1) dd_197_21 (am_nlb_ok rfl) (by decide) ?_
  exact hg
theorem sv_e {h : am_H} (hH : fm_ok h) {mi go w y c1 : Nat} {vs : List Value} (q66 : am_get h 66 = some (.inr (12, vs))) (f0 : vs[0]? = some (.retAddr mi)) (f1 : vs[1]? = some (.retAddr go)) (f12 : vs[12]? = some (.retAddr w)) (f13 : vs[13]? = some (.ref 72)) (f32 : vs[32]? = some (.ref 81)) (f51 : vs[51]? = some (.ref 90)) (f52 : vs[52]? = some (.ref 91)) (a72 : am_get h 72 = some (.inl (0, 8, y))) (a81 : am_get h 81 = some (.inl (0, 256, c1))) (hm1 : 1 ≤ mi) (hm : mi ≤ 60) (hgo : go ≤ 3) (hw1 : 1 ≤ w) (hw : w ≤ 4) (ho4 : ∀ i, i < w → am_ag y (2 * i + 1) < 4) (h99 : ∀ s t, s < 4 → t < 60 → am_ag c1 (64 * s + t) ≤ 99) {hr sh : Nat} {v2 v3 v4 v5 : Option Value} : am_Good mi_197 22 [some (.ref 66), some (.retAddr (fa_tn mi)), v2, v3, v4, v5] [] (fm h hr sh) (none, (fm h hr sh)) := by
  have t6 := fa_t6 hm1 hm
  refine g_iload_n (i := 1) dd_197_22 rfl ?_
  refine g_aload_n (i := 0) dd_197_23 rfl ?_
  refine g_virtual (M' := mi_195) (n := 0) (ci := 12) (b := 66) (as := []) (st := [.retAddr (fa_tn mi)]) (r1 := (some (.retAddr (fa_tn mi)), (fm h hr sh))) w_1348 w_1350 ps_195 ⟨lk_195.1, lk_195.2.1, lk_195.2.2, by decide, by decide⟩ rfl ((fm_o hH rfl).trans q66) rfl (by simp [Value.category]) dd_197_24 (st_t hH q66 f0 f1 f12 f13 f32 f51 f52 a72 a81 hm1 hm hgo hw1 hw ho4 h99) ?_
  show am_Good mi_197 27 [some (.ref 66), some (.retAddr (fa_tn mi)), v2, v3, v4, v5] [.retAddr (fa_tn mi), .retAddr (fa_tn mi)] (fm h hr sh) _
  refine g_icmp_ge_t (t := 169) dd_197_27 (by decide) (by first | exact sk_ge_t (by omega) (by omega) | exact tk_ge_t (by omega)) ?_
  exact g_return rfl dd_197_169
theorem sv_0 {h : am_H} (hH : fm_ok h) {mi go w y c1 : Nat} {vs : List Value} (q66 : am_get h 66 = some (.inr (12, vs))) (f0 : vs[0]? = some (.retAddr mi)) (f1 : vs[1]? = some (.retAddr go)) (f12 : vs[12]? = some (.retAddr w)) (f13 : vs[13]? = some (.ref 72)) (f32 : vs[32]? = some (.ref 81)) (f51 : vs[51]? = some (.ref 90)) (f52 : vs[52]? = some (.ref 91)) (a72 : am_get h 72 = some (.inl (0, 8, y))) (a81 : am_get h 81 = some (.inl (0, 256, c1))) (hm1 : 1 ≤ mi) (hm : mi ≤ 60) (hgo : go ≤ 3) (hw1 : 1 ≤ w) (hw : w ≤ 4) (ho4 : ∀ i, i < w → am_ag y (2 * i + 1) < 4) (h99 : ∀ s t, s < 4 → t < 60 → am_ag c1 (64 * s + t) ≤ 99) {hr sh : Nat} {v2 v3 v4 v5 : Option Value} {r : am_R} (hk : 0 < fa_tn mi) (hd : am_ag hr (0) < w)  (hg : am_Good mi_197 129 [some (.ref 66), some (.retAddr 0), some (.retAddr (am_ag y (2 * am_ag hr 0 + 1))), some (.retAddr 0), some (.retAddr (fa_e mi 0)), some (.retAddr 0)] [] (fm h hr sh) r) : am_Good mi_197 22 [some (.ref 66), some (.retAddr 0), v2, v3, v4, v5] [] (fm h hr sh) r := by
  have t6 := fa_t6 hm1 hm
  have o4 := ho4 _ hd
  refine g_iload_n (i := 1) dd_197_22 rfl ?_
  refine g_aload_n (i := 0) dd_197_23 rfl ?_
  refine g_virtual (M' := mi_195) (n := 0) (ci := 12) (b := 66) (as := []) (st := [.retAddr 0]) (r1 := (some (.retAddr (fa_tn mi)), (fm h hr sh))) w_1348 w_1350 ps_195 ⟨lk_195.1, lk_195.2.1, lk_195.2.2, by decide, by decide⟩ rfl ((fm_o hH rfl).trans q66) rfl (by simp [Value.category]) dd_197_24 (st_t hH q66 f0 f1 f12 f13 f32 f51 f52 a72 a81 hm1 hm hgo hw1 hw ho4 h99) ?_
  show am_Good mi_197 27 [some (.ref 66), some (.retAddr 0), v2, v3, v4, v5] [.retAddr (fa_tn mi), .retAddr 0] (fm h hr sh) _
  refine g_icmp_ge_f (t := 169) dd_197_27 (by decide) (by first | exact sk_ge_f (by omega) (by omega) | exact tk_ge_f (by omega)) ?_
  refine g_aload_n (i := 0) dd_197_30 rfl ?_
  refine g_getfield (k := 13) am_ck12 (by decide) (Or.inl w_948) dd_197_31 ((fm_o hH rfl).trans q66) f13 ?_
  refine g_iconst dd_197_34 ic_2 ?_
  refine g_aload_n (i := 0) dd_197_35 rfl ?_
  refine g_getfield (k := 51) am_ck12 (by decide) (Or.inl w_986) dd_197_36 ((fm_o hH rfl).trans q66) f51 ?_
  refine g_iload_n (i := 1) dd_197_39 rfl ?_
  refine g_iaload dd_197_40 (fm_g90 hH) (by omega) (by decide) ?_
  have hl_1 := am_ag_lt hr 0
  refine e_imul (v := 2 * (am_ag hr 0)) dd_197_41 (by omega) ?_
  refine g_iconst dd_197_42 ic_1 ?_
  refine e_iadd (v := 2 * (am_ag hr 0) + 1) dd_197_43 (by omega) ?_
  refine g_iaload dd_197_44 ((fm_o hH rfl).trans a72) (by omega) (by decide) ?_
  have hl_2 := am_ag_lt y (2 * (am_ag hr 0) + 1)
  refine g_istore_n (i := 2) dd_197_45 (am_nlb_ok rfl) (by decide) ?_
  refine g_iload_n (i := 1) dd_197_46 rfl ?_
  refine g_if_le_t (t := 75) dd_197_47 (by decide) (by decide) ?_
  refine g_iconst dd_197_75 ic_0 ?_
  refine g_istore_n (i := 3) dd_197_76 (am_nlb_ok rfl) (by decide) ?_
  refine g_bipush dd_197_77 bi_10 ?_
  refine g_iload_n (i := 1) dd_197_79 rfl ?_
  refine e_imul (v := 10 * 0) dd_197_80 (by omega) ?_
  refine g_bipush dd_197_81 bi_10 ?_
  refine e_iadd (v := 10 * 0 + 10) dd_197_83 (by omega) ?_
  refine g_aload_n (i := 0) dd_197_84 rfl ?_
  refine g_getfield (k := 0) am_ck12 (by decide) (Or.inl w_935) dd_197_85 ((fm_o hH rfl).trans q66) f0 ?_
  by_cases hq : 10 * 0 + 10 < mi
  · refine g_icmp_ge_f (t := 101) dd_197_88 (by decide) (by first | exact sk_ge_f (by omega) (by omega) | exact tk_ge_f (by omega)) ?_
    refine g_bipush dd_197_91 bi_10 ?_
    refine g_iload_n (i := 1) dd_197_93 rfl ?_
    refine e_imul (v := 10 * 0) dd_197_94 (by omega) ?_
    refine g_bipush dd_197_95 bi_10 ?_
    refine e_iadd (v := 10 * 0 + 10) dd_197_97 (by omega) ?_
    refine g_goto (t := 105) dd_197_98 (by decide) ?_
    refine g_istore dd_197_105 (am_nlb_ok rfl) (by decide) ?_
    refine g_iload_n (i := 3) dd_197_107 rfl ?_
    refine g_if_eq_t (t := 123) dd_197_108 (by decide) (by decide) ?_
    refine g_bipush dd_197_123 bi_10 ?_
    refine g_iload_n (i := 1) dd_197_125 rfl ?_
    refine e_imul (v := 0) dd_197_126 (by omega) ?_
    refine g_istore dd_197_127 (am_nlb_ok rfl) (by decide) ?_
    rw [show fa_e mi 0 = 10 * 0 + 10 from if_pos hq] at hg
    exact hg
  · refine g_icmp_ge_t (t := 101) dd_197_88 (by decide) (by first | exact sk_ge_t (by omega) (by omega) | exact tk_ge_t (by omega)) ?_
    refine g_aload_n (i := 0) dd_197_101 rfl ?_
    refine g_getfield (k := 0) am_ck12 (by decide) (Or.inl w_935) dd_197_102 ((fm_o hH rfl).trans q66) f0 ?_
    refine g_istore dd_197_105 (am_nlb_ok rfl) (by decide) ?_
    refine g_iload_n (i := 3) dd_197_107 rfl ?_
    refine g_if_eq_t (t := 123) dd_197_108 (by decide) (by decide) ?_
    refine g_bipush dd_197_123 bi_10 ?_
    refine g_iload_n (i := 1) dd_197_125 rfl ?_
    refine e_imul (v := 0) dd_197_126 (by omega) ?_
    refine g_istore dd_197_127 (am_nlb_ok rfl) (by decide) ?_
    rw [show fa_e mi 0 = mi from if_neg hq] at hg
    exact hg
theorem sv_s {h : am_H} (hH : fm_ok h) {mi go w y c1 : Nat} {vs : List Value} (q66 : am_get h 66 = some (.inr (12, vs))) (f0 : vs[0]? = some (.retAddr mi)) (f1 : vs[1]? = some (.retAddr go)) (f12 : vs[12]? = some (.retAddr w)) (f13 : vs[13]? = some (.ref 72)) (f32 : vs[32]? = some (.ref 81)) (f51 : vs[51]? = some (.ref 90)) (f52 : vs[52]? = some (.ref 91)) (a72 : am_get h 72 = some (.inl (0, 8, y))) (a81 : am_get h 81 = some (.inl (0, 256, c1))) (hm1 : 1 ≤ mi) (hm : mi ≤ 60) (hgo : go ≤ 3) (hw1 : 1 ≤ w) (hw : w ≤ 4) (ho4 : ∀ i, i < w → am_ag y (2 * i + 1) < 4) (h99 : ∀ s t, s < 4 → t < 60 → am_ag c1 (64 * s + t) ≤ 99) {hr sh : Nat} {v2 v3 v4 v5 : Option Value} {r : am_R} {k : Nat} (hd0 : am_ag hr k < w) (hk : k + 1 < fa_tn mi) (hd : am_ag hr (k + 1) < w) (hc : am_ag y (2 * am_ag hr k + 1) = am_ag y (2 * am_ag hr (k + 1) + 1)) (hg : am_Good mi_197 129 [some (.ref 66), some (.retAddr (k + 1)), some (.retAddr (am_ag y (2 * am_ag hr (k + 1) + 1))), some (.retAddr 0), some (.retAddr (fa_e mi (k + 1))), some (.retAddr (10 * (k + 1)))] [] (fm h hr sh) r) : am_Good mi_197 22 [some (.ref 66), some (.retAddr (k + 1)), v2, v3, v4, v5] [] (fm h hr sh) r := by
  have t6 := fa_t6 hm1 hm
  have o4 := ho4 _ hd
  have o40 := ho4 _ hd0
  refine g_iload_n (i := 1) dd_197_22 rfl ?_
  refine g_aload_n (i := 0) dd_197_23 rfl ?_
  refine g_virtual (M' := mi_195) (n := 0) (ci := 12) (b := 66) (as := []) (st := [.retAddr (k + 1)]) (r1 := (some (.retAddr (fa_tn mi)), (fm h hr sh))) w_1348 w_1350 ps_195 ⟨lk_195.1, lk_195.2.1, lk_195.2.2, by decide, by decide⟩ rfl ((fm_o hH rfl).trans q66) rfl (by simp [Value.category]) dd_197_24 (st_t hH q66 f0 f1 f12 f13 f32 f51 f52 a72 a81 hm1 hm hgo hw1 hw ho4 h99) ?_
  show am_Good mi_197 27 [some (.ref 66), some (.retAddr (k + 1)), v2, v3, v4, v5] [.retAddr (fa_tn mi), .retAddr (k + 1)] (fm h hr sh) _
  refine g_icmp_ge_f (t := 169) dd_197_27 (by decide) (by first | exact sk_ge_f (by omega) (by omega) | exact tk_ge_f (by omega)) ?_
  refine g_aload_n (i := 0) dd_197_30 rfl ?_
  refine g_getfield (k := 13) am_ck12 (by decide) (Or.inl w_948) dd_197_31 ((fm_o hH rfl).trans q66) f13 ?_
  refine g_iconst dd_197_34 ic_2 ?_
  refine g_aload_n (i := 0) dd_197_35 rfl ?_
  refine g_getfield (k := 51) am_ck12 (by decide) (Or.inl w_986) dd_197_36 ((fm_o hH rfl).trans q66) f51 ?_
  refine g_iload_n (i := 1) dd_197_39 rfl ?_
  refine g_iaload dd_197_40 (fm_g90 hH) (by omega) (by decide) ?_
  have hl_1 := am_ag_lt hr (k + 1)
  refine e_imul (v := 2 * (am_ag hr (k + 1))) dd_197_41 (by omega) ?_
  refine g_iconst dd_197_42 ic_1 ?_
  refine e_iadd (v := 2 * (am_ag hr (k + 1)) + 1) dd_197_43 (by omega) ?_
  refine g_iaload dd_197_44 ((fm_o hH rfl).trans a72) (by omega) (by decide) ?_
  have hl_2 := am_ag_lt y (2 * (am_ag hr (k + 1)) + 1)
  refine g_istore_n (i := 2) dd_197_45 (am_nlb_ok rfl) (by decide) ?_
  refine g_iload_n (i := 1) dd_197_46 rfl ?_
  refine g_if_le_f (t := 75) dd_197_47 (by decide) (by first | exact sk_le_f (by omega) (by omega) | exact tk_le_f (by omega)) ?_
  refine g_aload_n (i := 0) dd_197_50 rfl ?_
  refine g_getfield (k := 13) am_ck12 (by decide) (Or.inl w_948) dd_197_51 ((fm_o hH rfl).trans q66) f13 ?_
  refine g_iconst dd_197_54 ic_2 ?_
  refine g_aload_n (i := 0) dd_197_55 rfl ?_
  refine g_getfield (k := 51) am_ck12 (by decide) (Or.inl w_986) dd_197_56 ((fm_o hH rfl).trans q66) f51 ?_
  refine g_iload_n (i := 1) dd_197_59 rfl ?_
  refine g_iconst dd_197_60 ic_1 ?_
  refine e_isub (v := k) dd_197_61 (by omega) ?_
  refine g_iaload dd_197_62 (fm_g90 hH) (by omega) (by decide) ?_
  have hl_3 := am_ag_lt hr k
  refine e_imul (v := 2 * (am_ag hr k)) dd_197_63 (by omega) ?_
  refine g_iconst dd_197_64 ic_1 ?_
  refine e_iadd (v := 2 * (am_ag hr k) + 1) dd_197_65 (by omega) ?_
  refine g_iaload dd_197_66 ((fm_o hH rfl).trans a72) (by omega) (by decide) ?_
  have hl_4 := am_ag_lt y (2 * (am_ag hr k) + 1)
  refine g_iload_n (i := 2) dd_197_67 rfl ?_
  refine g_icmp_eq_t (t := 75) dd_197_68 (by decide) (tk_eq_t (by omega)) ?_
  refine g_iconst dd_197_75 ic_0 ?_
  refine g_istore_n (i := 3) dd_197_76 (am_nlb_ok rfl) (by decide) ?_
  refine g_bipush dd_197_77 bi_10 ?_
  refine g_iload_n (i := 1) dd_197_79 rfl ?_
  refine e_imul (v := 10 * (k + 1)) dd_197_80 (by omega) ?_
  refine g_bipush dd_197_81 bi_10 ?_
  refine e_iadd (v := 10 * (k + 1) + 10) dd_197_83 (by omega) ?_
  refine g_aload_n (i := 0) dd_197_84 rfl ?_
  refine g_getfield (k := 0) am_ck12 (by decide) (Or.inl w_935) dd_197_85 ((fm_o hH rfl).trans q66) f0 ?_
  by_cases hq : 10 * (k + 1) + 10 < mi
  · refine g_icmp_ge_f (t := 101) dd_197_88 (by decide) (by first | exact sk_ge_f (by omega) (by omega) | exact tk_ge_f (by omega)) ?_
    refine g_bipush dd_197_91 bi_10 ?_
    refine g_iload_n (i := 1) dd_197_93 rfl ?_
    refine e_imul (v := 10 * (k + 1)) dd_197_94 (by omega) ?_
    refine g_bipush dd_197_95 bi_10 ?_
    refine e_iadd (v := 10 * (k + 1) + 10) dd_197_97 (by omega) ?_
    refine g_goto (t := 105) dd_197_98 (by decide) ?_
    refine g_istore dd_197_105 (am_nlb_ok rfl) (by decide) ?_
    refine g_iload_n (i := 3) dd_197_107 rfl ?_
    refine g_if_eq_t (t := 123) dd_197_108 (by decide) (by decide) ?_
    refine g_bipush dd_197_123 bi_10 ?_
    refine g_iload_n (i := 1) dd_197_125 rfl ?_
    refine e_imul (v := 10 * (k + 1)) dd_197_126 (by omega) ?_
    refine g_istore dd_197_127 (am_nlb_ok rfl) (by decide) ?_
    rw [show fa_e mi (k + 1) = 10 * (k + 1) + 10 from if_pos hq] at hg
    exact hg
  · refine g_icmp_ge_t (t := 101) dd_197_88 (by decide) (by first | exact sk_ge_t (by omega) (by omega) | exact tk_ge_t (by omega)) ?_
    refine g_aload_n (i := 0) dd_197_101 rfl ?_
    refine g_getfield (k := 0) am_ck12 (by decide) (Or.inl w_935) dd_197_102 ((fm_o hH rfl).trans q66) f0 ?_
    refine g_istore dd_197_105 (am_nlb_ok rfl) (by decide) ?_
    refine g_iload_n (i := 3) dd_197_107 rfl ?_
    refine g_if_eq_t (t := 123) dd_197_108 (by decide) (by decide) ?_
    refine g_bipush dd_197_123 bi_10 ?_
    refine g_iload_n (i := 1) dd_197_125 rfl ?_
    refine e_imul (v := 10 * (k + 1)) dd_197_126 (by omega) ?_
    refine g_istore dd_197_127 (am_nlb_ok rfl) (by decide) ?_
    rw [show fa_e mi (k + 1) = mi from if_neg hq] at hg
    exact hg
theorem sv_c {h : am_H} (hH : fm_ok h) {mi go w y c1 : Nat} {vs : List Value} (q66 : am_get h 66 = some (.inr (12, vs))) (f0 : vs[0]? = some (.retAddr mi)) (f1 : vs[1]? = some (.retAddr go)) (f12 : vs[12]? = some (.retAddr w)) (f13 : vs[13]? = some (.ref 72)) (f32 : vs[32]? = some (.ref 81)) (f51 : vs[51]? = some (.ref 90)) (f52 : vs[52]? = some (.ref 91)) (a72 : am_get h 72 = some (.inl (0, 8, y))) (a81 : am_get h 81 = some (.inl (0, 256, c1))) (hm1 : 1 ≤ mi) (hm : mi ≤ 60) (hgo : go ≤ 3) (hw1 : 1 ≤ w) (hw : w ≤ 4) (ho4 : ∀ i, i < w → am_ag y (2 * i + 1) < 4) (h99 : ∀ s t, s < 4 → t < 60 → am_ag c1 (64 * s + t) ≤ 99) {hr sh : Nat} {v2 v3 v4 v5 : Option Value} {r : am_R} {k : Nat} (hd0 : am_ag hr k < w) (hk : k + 1 < fa_tn mi) (hd : am_ag hr (k + 1) < w) (hc : am_ag y (2 * am_ag hr k + 1) ≠ am_ag y (2 * am_ag hr (k + 1) + 1)) (hg : am_Good mi_197 129 [some (.ref 66), some (.retAddr (k + 1)), some (.retAddr (am_ag y (2 * am_ag hr (k + 1) + 1))), some (.retAddr 1), some (.retAddr (fa_e mi (k + 1))), some (.retAddr (10 * (k + 1) + go))] [] (fm h hr sh) r) : am_Good mi_197 22 [some (.ref 66), some (.retAddr (k + 1)), v2, v3, v4, v5] [] (fm h hr sh) r := by
  have t6 := fa_t6 hm1 hm
  have o4 := ho4 _ hd
  have o40 := ho4 _ hd0
  refine g_iload_n (i := 1) dd_197_22 rfl ?_
  refine g_aload_n (i := 0) dd_197_23 rfl ?_
  refine g_virtual (M' := mi_195) (n := 0) (ci := 12) (b := 66) (as := []) (st := [.retAddr (k + 1)]) (r1 := (some (.retAddr (fa_tn mi)), (fm h hr sh))) w_1348 w_1350 ps_195 ⟨lk_195.1, lk_195.2.1, lk_195.2.2, by decide, by decide⟩ rfl ((fm_o hH rfl).trans q66) rfl (by simp [Value.category]) dd_197_24 (st_t hH q66 f0 f1 f12 f13 f32 f51 f52 a72 a81 hm1 hm hgo hw1 hw ho4 h99) ?_
  show am_Good mi_197 27 [some (.ref 66), some (.retAddr (k + 1)), v2, v3, v4, v5] [.retAddr (fa_tn mi), .retAddr (k + 1)] (fm h hr sh) _
  refine g_icmp_ge_f (t := 169) dd_197_27 (by decide) (by first | exact sk_ge_f (by omega) (by omega) | exact tk_ge_f (by omega)) ?_
  refine g_aload_n (i := 0) dd_197_30 rfl ?_
  refine g_getfield (k := 13) am_ck12 (by decide) (Or.inl w_948) dd_197_31 ((fm_o hH rfl).trans q66) f13 ?_
  refine g_iconst dd_197_34 ic_2 ?_
  refine g_aload_n (i := 0) dd_197_35 rfl ?_
  refine g_getfield (k := 51) am_ck12 (by decide) (Or.inl w_986) dd_197_36 ((fm_o hH rfl).trans q66) f51 ?_
  refine g_iload_n (i := 1) dd_197_39 rfl ?_
  refine g_iaload dd_197_40 (fm_g90 hH) (by omega) (by decide) ?_
  have hl_1 := am_ag_lt hr (k + 1)
  refine e_imul (v := 2 * (am_ag hr (k + 1))) dd_197_41 (by omega) ?_
  refine g_iconst dd_197_42 ic_1 ?_
  refine e_iadd (v := 2 * (am_ag hr (k + 1)) + 1) dd_197_43 (by omega) ?_
  refine g_iaload dd_197_44 ((fm_o hH rfl).trans a72) (by omega) (by decide) ?_
  have hl_2 := am_ag_lt y (2 * (am_ag hr (k + 1)) + 1)
  refine g_istore_n (i := 2) dd_197_45 (am_nlb_ok rfl) (by decide) ?_
  refine g_iload_n (i := 1) dd_197_46 rfl ?_
  refine g_if_le_f (t := 75) dd_197_47 (by decide) (by first | exact sk_le_f (by omega) (by omega) | exact tk_le_f (by omega)) ?_
  refine g_aload_n (i := 0) dd_197_50 rfl ?_
  refine g_getfield (k := 13) am_ck12 (by decide) (Or.inl w_948) dd_197_51 ((fm_o hH rfl).trans q66) f13 ?_
  refine g_iconst dd_197_54 ic_2 ?_
  refine g_aload_n (i := 0) dd_197_55 rfl ?_
  refine g_getfield (k := 51) am_ck12 (by decide) (Or.inl w_986) dd_197_56 ((fm_o hH rfl).trans q66) f51 ?_
  refine g_iload_n (i := 1) dd_197_59 rfl ?_
  refine g_iconst dd_197_60 ic_1 ?_
  refine e_isub (v := k) dd_197_61 (by omega) ?_
  refine g_iaload dd_197_62 (fm_g90 hH) (by omega) (by decide) ?_
  have hl_3 := am_ag_lt hr k
  refine e_imul (v := 2 * (am_ag hr k)) dd_197_63 (by omega) ?_
  refine g_iconst dd_197_64 ic_1 ?_
  refine e_iadd (v := 2 * (am_ag hr k) + 1) dd_197_65 (by omega) ?_
  refine g_iaload dd_197_66 ((fm_o hH rfl).trans a72) (by omega) (by decide) ?_
  have hl_4 := am_ag_lt y (2 * (am_ag hr k) + 1)
  refine g_iload_n (i := 2) dd_197_67 rfl ?_
  refine g_icmp_eq_f (t := 75) dd_197_68 (by decide) (tk_eq_f (by omega)) ?_
  refine g_iconst dd_197_71 ic_1 ?_
  refine g_goto (t := 76) dd_197_72 (by decide) ?_
  refine g_istore_n (i := 3) dd_197_76 (am_nlb_ok rfl) (by decide) ?_
  refine g_bipush dd_197_77 bi_10 ?_
  refine g_iload_n (i := 1) dd_197_79 rfl ?_
  refine e_imul (v := 10 * (k + 1)) dd_197_80 (by omega) ?_
  refine g_bipush dd_197_81 bi_10 ?_
  refine e_iadd (v := 10 * (k + 1) + 10) dd_197_83 (by omega) ?_
  refine g_aload_n (i := 0) dd_197_84 rfl ?_
  refine g_getfield (k := 0) am_ck12 (by decide) (Or.inl w_935) dd_197_85 ((fm_o hH rfl).trans q66) f0 ?_
  by_cases hq : 10 * (k + 1) + 10 < mi
  · refine g_icmp_ge_f (t := 101) dd_197_88 (by decide) (by first | exact sk_ge_f (by omega) (by omega) | exact tk_ge_f (by omega)) ?_
    refine g_bipush dd_197_91 bi_10 ?_
    refine g_iload_n (i := 1) dd_197_93 rfl ?_
    refine e_imul (v := 10 * (k + 1)) dd_197_94 (by omega) ?_
    refine g_bipush dd_197_95 bi_10 ?_
    refine e_iadd (v := 10 * (k + 1) + 10) dd_197_97 (by omega) ?_
    refine g_goto (t := 105) dd_197_98 (by decide) ?_
    refine g_istore dd_197_105 (am_nlb_ok rfl) (by decide) ?_
    refine g_iload_n (i := 3) dd_197_107 rfl ?_
    refine g_if_eq_f (t := 123) dd_197_108 (by decide) (by decide) ?_
    refine g_bipush dd_197_111 bi_10 ?_
    refine g_iload_n (i := 1) dd_197_113 rfl ?_
    refine e_imul (v := 10 * (k + 1)) dd_197_114 (by omega) ?_
    refine g_aload_n (i := 0) dd_197_115 rfl ?_
    refine g_getfield (k := 1) am_ck12 (by decide) (Or.inl w_936) dd_197_116 ((fm_o hH rfl).trans q66) f1 ?_
    refine e_iadd (v := (10 * (k + 1)) + go) dd_197_119 (by omega) ?_
    refine g_goto (t := 127) dd_197_120 (by decide) ?_
    refine g_istore dd_197_127 (am_nlb_ok rfl) (by decide) ?_
    rw [show fa_e mi (k + 1) = 10 * (k + 1) + 10 from if_pos hq] at hg
    exact hg
  · refine g_icmp_ge_t (t := 101) dd_197_88 (by decide) (by first | exact sk_ge_t (by omega) (by omega) | exact tk_ge_t (by omega)) ?_
    refine g_aload_n (i := 0) dd_197_101 rfl ?_
    refine g_getfield (k := 0) am_ck12 (by decide) (Or.inl w_935) dd_197_102 ((fm_o hH rfl).trans q66) f0 ?_
    refine g_istore dd_197_105 (am_nlb_ok rfl) (by decide) ?_
    refine g_iload_n (i := 3) dd_197_107 rfl ?_
    refine g_if_eq_f (t := 123) dd_197_108 (by decide) (by decide) ?_
    refine g_bipush dd_197_111 bi_10 ?_
    refine g_iload_n (i := 1) dd_197_113 rfl ?_
    refine e_imul (v := 10 * (k + 1)) dd_197_114 (by omega) ?_
    refine g_aload_n (i := 0) dd_197_115 rfl ?_
    refine g_getfield (k := 1) am_ck12 (by decide) (Or.inl w_936) dd_197_116 ((fm_o hH rfl).trans q66) f1 ?_
    refine e_iadd (v := (10 * (k + 1)) + go) dd_197_119 (by omega) ?_
    refine g_goto (t := 127) dd_197_120 (by decide) ?_
    refine g_istore dd_197_127 (am_nlb_ok rfl) (by decide) ?_
    rw [show fa_e mi (k + 1) = mi from if_neg hq] at hg
    exact hg
theorem sv_i {h : am_H} (hH : fm_ok h) {mi go w y c1 : Nat} {vs : List Value} (q66 : am_get h 66 = some (.inr (12, vs))) (f0 : vs[0]? = some (.retAddr mi)) (f1 : vs[1]? = some (.retAddr go)) (f12 : vs[12]? = some (.retAddr w)) (f13 : vs[13]? = some (.ref 72)) (f32 : vs[32]? = some (.ref 81)) (f51 : vs[51]? = some (.ref 90)) (f52 : vs[52]? = some (.ref 91)) (a72 : am_get h 72 = some (.inl (0, 8, y))) (a81 : am_get h 81 = some (.inl (0, 256, c1))) (hm1 : 1 ≤ mi) (hm : mi ≤ 60) (hgo : go ≤ 3) (hw1 : 1 ≤ w) (hw : w ≤ 4) (ho4 : ∀ i, i < w → am_ag y (2 * i + 1) < 4) (h99 : ∀ s t, s < 4 → t < 60 → am_ag c1 (64 * s + t) ≤ 99) {hr sh : Nat} {q o ot e t : Nat} {r : am_R} (hs : o < 4) (ht : t < e) (he : e ≤ 60) (hb : am_ag sh o ≤ 100000) (hg : am_Good mi_197 129 [some (.ref 66), some (.retAddr q), some (.retAddr o), some (.retAddr ot), some (.retAddr e), some (.retAddr (t + 1))] [] (fm h hr (am_as sh o (am_ag sh o + am_ag c1 (64 * o + t)))) r) : am_Good mi_197 129 [some (.ref 66), some (.retAddr q), some (.retAddr o), some (.retAddr ot), some (.retAddr e), some (.retAddr t)] [] (fm h hr sh) r := by
  have b1 := h99 o t hs (by omega)
  refine g_iload dd_197_129 rfl ?_
  refine g_iload dd_197_131 rfl ?_
  refine g_icmp_ge_f (t := 163) dd_197_133 (by decide) (by first | exact sk_ge_f (by omega) (by omega) | exact tk_ge_f (by omega)) ?_
  refine g_aload_n (i := 0) dd_197_136 rfl ?_
  refine g_getfield (k := 52) am_ck12 (by decide) (Or.inl w_987) dd_197_137 ((fm_o hH rfl).trans q66) f52 ?_
  refine g_iload_n (i := 2) dd_197_140 rfl ?_
  refine g_dup2 dd_197_141 rfl rfl ?_
  refine g_iaload dd_197_142 (fm_g91 hH) (by omega) (by decide) ?_
  have hl_1 := am_ag_lt sh o
  refine g_aload_n (i := 0) dd_197_143 rfl ?_
  refine g_getfield (k := 32) am_ck12 (by decide) (Or.inl w_967) dd_197_144 ((fm_o hH rfl).trans q66) f32 ?_
  refine g_bipush dd_197_147 bi_64 ?_
  refine g_iload_n (i := 2) dd_197_149 rfl ?_
  refine e_imul (v := 64 * o) dd_197_150 (by omega) ?_
  refine g_iload dd_197_151 rfl ?_
  refine e_iadd (v := 64 * o + t) dd_197_153 (by omega) ?_
  refine g_iaload dd_197_154 ((fm_o hH rfl).trans a81) (by omega) (by decide) ?_
  have hl_2 := am_ag_lt c1 (64 * o + t)
  refine e_iadd (v := (am_ag sh o) + (am_ag c1 (64 * o + t))) dd_197_155 (by omega) ?_
  refine g_iastore dd_197_156 (fm_g91 hH) (by omega) (by decide) ?_
  refine am_heq (fm_u91 hH) ?_
  show am_Good mi_197 157 [some (.ref 66), some (.retAddr q), some (.retAddr o), some (.retAddr ot), some (.retAddr e), some (.retAddr t)] [] (fm h hr (am_as sh o ((am_ag sh o) + (am_ag c1 (64 * o + t))))) _
  refine e_iinc (v := 1) (w := t + 1) dd_197_157 rfl ic_1 (am_nlb_ok rfl) (by decide) (by omega) ?_
  refine g_goto (t := 129) dd_197_160 (by decide) ?_
  exact hg
theorem sv_x {h : am_H} (hH : fm_ok h) {mi go w y c1 : Nat} {vs : List Value} (q66 : am_get h 66 = some (.inr (12, vs))) (f0 : vs[0]? = some (.retAddr mi)) (f1 : vs[1]? = some (.retAddr go)) (f12 : vs[12]? = some (.retAddr w)) (f13 : vs[13]? = some (.ref 72)) (f32 : vs[32]? = some (.ref 81)) (f51 : vs[51]? = some (.ref 90)) (f52 : vs[52]? = some (.ref 91)) (a72 : am_get h 72 = some (.inl (0, 8, y))) (a81 : am_get h 81 = some (.inl (0, 256, c1))) (hm1 : 1 ≤ mi) (hm : mi ≤ 60) (hgo : go ≤ 3) (hw1 : 1 ≤ w) (hw : w ≤ 4) (ho4 : ∀ i, i < w → am_ag y (2 * i + 1) < 4) (h99 : ∀ s t, s < 4 → t < 60 → am_ag c1 (64 * s + t) ≤ 99) {hr sh : Nat} {q o ot e t : Nat} {r : am_R} (ht : ¬ t < e) (h1 : t ≤ 200) (he : e ≤ 60) (hq : q ≤ 10) (hg : am_Good mi_197 22 [some (.ref 66), some (.retAddr (q + 1)), some (.retAddr o), some (.retAddr ot), some (.retAddr e), some (.retAddr t)] [] (fm h hr sh) r) : am_Good mi_197 129 [some (.ref 66), some (.retAddr q), some (.retAddr o), some (.retAddr ot), some (.retAddr e), some (.retAddr t)] [] (fm h hr sh) r := by
  refine g_iload dd_197_129 rfl ?_
  refine g_iload dd_197_131 rfl ?_
  refine g_icmp_ge_t (t := 163) dd_197_133 (by decide) (by first | exact sk_ge_t (by omega) (by omega) | exact tk_ge_t (by omega)) ?_
  refine e_iinc (v := 1) (w := q + 1) dd_197_163 rfl ic_1 (am_nlb_ok rfl) (by decide) (by omega) ?_
  refine g_goto (t := 22) dd_197_166 (by decide) ?_
  exact hg
theorem fa_s_add {f : Nat → Nat} {a : Nat} (k : Nat) : fa_s f a (k + 1) = fa_s f a k + f (a + k) := rfl
/-- the minutes of a turn -/
theorem sv_il {h : am_H} (hH : fm_ok h) {mi go w y c1 : Nat} {vs : List Value} (q66 : am_get h 66 = some (.inr (12, vs))) (f0 : vs[0]? = some (.retAddr mi)) (f1 : vs[1]? = some (.retAddr go)) (f12 : vs[12]? = some (.retAddr w)) (f13 : vs[13]? = some (.ref 72)) (f32 : vs[32]? = some (.ref 81)) (f51 : vs[51]? = some (.ref 90)) (f52 : vs[52]? = some (.ref 91)) (a72 : am_get h 72 = some (.inl (0, 8, y))) (a81 : am_get h 81 = some (.inl (0, 256, c1))) (hm1 : 1 ≤ mi) (hm : mi ≤ 60) (hgo : go ≤ 3) (hw1 : 1 ≤ w) (hw : w ≤ 4) (ho4 : ∀ i, i < w → am_ag y (2 * i + 1) < 4) (h99 : ∀ s t, s < 4 → t < 60 → am_ag c1 (64 * s + t) ≤ 99) {hr q o ot a : Nat} (hs : o < 4) (hq : q < fa_tn mi) (ha : a ≤ 10 * q + 3) (ho : o = (fun r => am_ag y (2 * am_ag hr r + 1)) q) (hA : a = 10 * q + fa_l go (fun r => am_ag y (2 * am_ag hr r + 1)) q) (hK : ∀ sh t, (∀ s, s < 4 → am_ag sh s = fa_w (fun s t => am_ag c1 (64 * s + t)) mi go (fun r => am_ag y (2 * am_ag hr r + 1)) s (q + 1)) → ∃ sh', (∀ s, s < 4 → am_ag sh' s = fa_w (fun s t => am_ag c1 (64 * s + t)) mi go (fun r => am_ag y (2 * am_ag hr r + 1)) s (fa_tn mi)) ∧ am_Good mi_197 22 [some (.ref 66), some (.retAddr (q + 1)), some (.retAddr o), some (.retAddr ot), some (.retAddr (fa_e mi q)), some (.retAddr t)] [] (fm h hr sh) (none, (fm h hr (sh')))) : ∀ (f j sh : Nat), j + f = fa_e mi q - a → (∀ s, s < 4 → am_ag sh s = fa_w (fun s t => am_ag c1 (64 * s + t)) mi go (fun r => am_ag y (2 * am_ag hr r + 1)) s q + (if o = s then fa_s ((fun s t => am_ag c1 (64 * s + t)) s) a j else 0)) → ∃ sh', (∀ s, s < 4 → am_ag sh' s = fa_w (fun s t => am_ag c1 (64 * s + t)) mi go (fun r => am_ag y (2 * am_ag hr r + 1)) s (fa_tn mi)) ∧ am_Good mi_197 129 [some (.ref 66), some (.retAddr q), some (.retAddr o), some (.retAddr ot), some (.retAddr (fa_e mi q)), some (.retAddr (a + j))] [] (fm h hr sh) (none, (fm h hr (sh')))
  | 0, j, sh, e, hsh => by
    obtain ⟨-, t6, -⟩ := fa_t6 hm1 hm
    have eb := fa_e_b mi q
    obtain ⟨sh', p, g⟩ := hK sh (a + j) (fun s h4 => by
      rw [hsh s h4]
      show _ = (if (fun r => am_ag y (2 * am_ag hr r + 1)) q = s then fa_w (fun s t => am_ag c1 (64 * s + t)) mi go (fun r => am_ag y (2 * am_ag hr r + 1)) s q + fa_p (fun s t => am_ag c1 (64 * s + t)) mi q s (fa_l go (fun r => am_ag y (2 * am_ag hr r + 1)) q) else fa_w (fun s t => am_ag c1 (64 * s + t)) mi go (fun r => am_ag y (2 * am_ag hr r + 1)) s q)
      rw [← ho]
      by_cases c : o = s
      · rw [if_pos c, if_pos c]
        unfold fa_p
        rw [← hA, show j = fa_e mi q - a by omega]
      · rw [if_neg c, if_neg c, Nat.add_zero])
    exact ⟨sh', p, sv_x hH q66 f0 f1 f12 f13 f32 f51 f52 a72 a81 hm1 hm hgo hw1 hw ho4 h99 (by omega) (by omega) (by omega) (by omega) g⟩
  | f + 1, j, sh, e, hsh => by
    obtain ⟨-, t6, -⟩ := fa_t6 hm1 hm
    have eb := fa_e_b mi q
    have b1 := h99 o (a + j) hs (by omega)
    have b2 : am_ag sh o ≤ 20000 := by
      rw [hsh o hs, if_pos rfl]
      have q1 := fa_w_le (fw := (fun s t => am_ag c1 (64 * s + t))) (mi := mi) (go := go) (s := o) (on := (fun r => am_ag y (2 * am_ag hr r + 1))) (M := 99) (fun t h => h99 o t hs (by omega)) q
      have q2 := fa_s_le (f := (fun s t => am_ag c1 (64 * s + t)) o) (a := a) (M := 99) (k := j) (fun i hi => h99 o _ hs (by omega))
      omega
    obtain ⟨sh', p, g⟩ := sv_il hH q66 f0 f1 f12 f13 f32 f51 f52 a72 a81 hm1 hm hgo hw1 hw ho4 h99 hs hq ha ho hA hK f (j + 1) (am_as sh o (am_ag sh o + am_ag c1 (64 * o + (a + j)))) (by omega) (fun s h4 => by
      rw [am_ag_as]
      by_cases c : s = o
      · subst c
        rw [if_pos rfl, if_pos rfl, Nat.mod_eq_of_lt (by omega), hsh s h4, if_pos rfl, fa_s_add]
        exact Nat.add_assoc _ _ _
      · rw [if_neg c, if_neg (fun h => c h.symm), hsh s h4, if_neg (fun h => c h.symm)])
    exact ⟨sh', p, sv_i hH q66 f0 f1 f12 f13 f32 f51 f52 a72 a81 hm1 hm hgo hw1 hw ho4 h99 hs (by omega) (by omega) (by omega) g⟩
theorem sv_ol {h : am_H} (hH : fm_ok h) {mi go w y c1 : Nat} {vs : List Value} (q66 : am_get h 66 = some (.inr (12, vs))) (f0 : vs[0]? = some (.retAddr mi)) (f1 : vs[1]? = some (.retAddr go)) (f12 : vs[12]? = some (.retAddr w)) (f13 : vs[13]? = some (.ref 72)) (f32 : vs[32]? = some (.ref 81)) (f51 : vs[51]? = some (.ref 90)) (f52 : vs[52]? = some (.ref 91)) (a72 : am_get h 72 = some (.inl (0, 8, y))) (a81 : am_get h 81 = some (.inl (0, 256, c1))) (hm1 : 1 ≤ mi) (hm : mi ≤ 60) (hgo : go ≤ 3) (hw1 : 1 ≤ w) (hw : w ≤ 4) (ho4 : ∀ i, i < w → am_ag y (2 * i + 1) < 4) (h99 : ∀ s t, s < 4 → t < 60 → am_ag c1 (64 * s + t) ≤ 99) {hr : Nat} (hd : ∀ r, r < fa_tn mi → am_ag hr r < w) : ∀ (f q sh : Nat) (v2 v3 v4 v5 : Option Value), q + f = fa_tn mi → (∀ s, s < 4 → am_ag sh s = fa_w (fun s t => am_ag c1 (64 * s + t)) mi go (fun r => am_ag y (2 * am_ag hr r + 1)) s q) → ∃ sh', (∀ s, s < 4 → am_ag sh' s = fa_w (fun s t => am_ag c1 (64 * s + t)) mi go (fun r => am_ag y (2 * am_ag hr r + 1)) s (fa_tn mi)) ∧ am_Good mi_197 22 [some (.ref 66), some (.retAddr q), v2, v3, v4, v5] [] (fm h hr sh) (none, (fm h hr (sh')))
  | 0, q, sh, v2, v3, v4, v5, e, hsh => by
    have e' : q = fa_tn mi := by omega
    subst e'
    exact ⟨sh, hsh, sv_e hH q66 f0 f1 f12 f13 f32 f51 f52 a72 a81 hm1 hm hgo hw1 hw ho4 h99⟩
  | f + 1, q, sh, v2, v3, v4, v5, e, hsh => by
    have hq : q < fa_tn mi := by omega
    have o4 := ho4 _ (hd q hq)
    have sta : ∀ a, ∀ s, s < 4 → am_ag sh s = fa_w (fun s t => am_ag c1 (64 * s + t)) mi go (fun r => am_ag y (2 * am_ag hr r + 1)) s q + (if (fun r => am_ag y (2 * am_ag hr r + 1)) q = s then fa_s ((fun s t => am_ag c1 (64 * s + t)) s) a 0 else 0) := fun a s h4 => by
      rw [hsh s h4]
      by_cases c : (fun r => am_ag y (2 * am_ag hr r + 1)) q = s
      · rw [if_pos c]; rfl
      · rw [if_neg c]; rfl
    match q, e, hsh, hq, o4, sta with
    | 0, e, hsh, hq, o4, sta =>
      obtain ⟨sh', p, g⟩ := sv_il hH q66 f0 f1 f12 f13 f32 f51 f52 a72 a81 hm1 hm hgo hw1 hw ho4 h99 (q := 0) (o := am_ag y (2 * am_ag hr 0 + 1)) (ot := 0) (a := 0) o4 hq (by omega) rfl rfl (fun sh t hs' => sv_ol hH q66 f0 f1 f12 f13 f32 f51 f52 a72 a81 hm1 hm hgo hw1 hw ho4 h99 hd f 1 sh _ _ _ _ (by omega) hs') (fa_e mi 0 - 0) 0 sh (by omega) (sta 0)
      exact ⟨sh', p, sv_0 hH q66 f0 f1 f12 f13 f32 f51 f52 a72 a81 hm1 hm hgo hw1 hw ho4 h99 hq (hd 0 hq) g⟩
    | k + 1, e, hsh, hq, o4, sta =>
      by_cases c : am_ag y (2 * am_ag hr k + 1) = am_ag y (2 * am_ag hr (k + 1) + 1)
      · have hl : fa_l go (fun r => am_ag y (2 * am_ag hr r + 1)) (k + 1) = 0 := by
          unfold fa_l
          rw [if_neg (by omega)]
          exact if_pos c
        obtain ⟨sh', p, g⟩ := sv_il hH q66 f0 f1 f12 f13 f32 f51 f52 a72 a81 hm1 hm hgo hw1 hw ho4 h99 (q := k + 1) (o := am_ag y (2 * am_ag hr (k + 1) + 1)) (ot := 0) (a := 10 * (k + 1)) o4 hq (by omega) rfl (by rw [hl]; rfl) (fun sh t hs' => sv_ol hH q66 f0 f1 f12 f13 f32 f51 f52 a72 a81 hm1 hm hgo hw1 hw ho4 h99 hd f (k + 1 + 1) sh _ _ _ _ (by omega) hs') (fa_e mi (k + 1) - 10 * (k + 1)) 0 sh (by omega) (sta _)
        exact ⟨sh', p, sv_s hH q66 f0 f1 f12 f13 f32 f51 f52 a72 a81 hm1 hm hgo hw1 hw ho4 h99 (hd k (by omega)) hq (hd _ hq) c g⟩
      · have hl : fa_l go (fun r => am_ag y (2 * am_ag hr r + 1)) (k + 1) = go := by
          unfold fa_l
          rw [if_neg (by omega)]
          exact if_neg c
        obtain ⟨sh', p, g⟩ := sv_il hH q66 f0 f1 f12 f13 f32 f51 f52 a72 a81 hm1 hm hgo hw1 hw ho4 h99 (q := k + 1) (o := am_ag y (2 * am_ag hr (k + 1) + 1)) (ot := 1) (a := 10 * (k + 1) + go) o4 hq (by omega) rfl (by rw [hl]) (fun sh t hs' => sv_ol hH q66 f0 f1 f12 f13 f32 f51 f52 a72 a81 hm1 hm hgo hw1 hw ho4 h99 hd f (k + 1 + 1) sh _ _ _ _ (by omega) hs') (fa_e mi (k + 1) - (10 * (k + 1) + go)) 0 sh (by omega) (sta _)
        exact ⟨sh', p, sv_c hH q66 f0 f1 f12 f13 f32 f51 f52 a72 a81 hm1 hm hgo hw1 hw ho4 h99 (hd k (by omega)) hq (hd _ hq) c g⟩
theorem sv_zl {h : am_H} (hH : fm_ok h) {mi go w y c1 : Nat} {vs : List Value} (q66 : am_get h 66 = some (.inr (12, vs))) (f0 : vs[0]? = some (.retAddr mi)) (f1 : vs[1]? = some (.retAddr go)) (f12 : vs[12]? = some (.retAddr w)) (f13 : vs[13]? = some (.ref 72)) (f32 : vs[32]? = some (.ref 81)) (f51 : vs[51]? = some (.ref 90)) (f52 : vs[52]? = some (.ref 91)) (a72 : am_get h 72 = some (.inl (0, 8, y))) (a81 : am_get h 81 = some (.inl (0, 256, c1))) (hm1 : 1 ≤ mi) (hm : mi ≤ 60) (hgo : go ≤ 3) (hw1 : 1 ≤ w) (hw : w ≤ 4) (ho4 : ∀ i, i < w → am_ag y (2 * i + 1) < 4) (h99 : ∀ s t, s < 4 → t < 60 → am_ag c1 (64 * s + t) ≤ 99) {hr : Nat} (hd : ∀ r, r < fa_tn mi → am_ag hr r < w) : ∀ (f j sh : Nat), j + f = 4 → (∀ s, s < j → am_ag sh s = 0) → ∃ sh', (∀ s, s < 4 → am_ag sh' s = fa_w (fun s t => am_ag c1 (64 * s + t)) mi go (fun r => am_ag y (2 * am_ag hr r + 1)) s (fa_tn mi)) ∧ am_Good mi_197 2 [some (.ref 66), some (.retAddr j), none, none, none, none] [] (fm h hr sh) (none, (fm h hr (sh')))
  | 0, j, sh, e, hsh => by
    have e' : j = 4 := by omega
    subst e'
    obtain ⟨sh', p, g⟩ := sv_ol hH q66 f0 f1 f12 f13 f32 f51 f52 a72 a81 hm1 hm hgo hw1 hw ho4 h99 hd (fa_tn mi) 0 sh none none none none (by omega) (fun s h4 => hsh s h4)
    exact ⟨sh', p, sv_y hH q66 f0 f1 f12 f13 f32 f51 f52 a72 a81 hm1 hm hgo hw1 hw ho4 h99 g⟩
  | f + 1, j, sh, e, hsh => by
    obtain ⟨sh', p, g⟩ := sv_zl hH q66 f0 f1 f12 f13 f32 f51 f52 a72 a81 hm1 hm hgo hw1 hw ho4 h99 hd f (j + 1) (am_as sh j 0) (by omega) (fun s h => by
      rw [am_ag_as]
      by_cases c : s = j
      · rw [if_pos c]
      · rw [if_neg c]; exact hsh s (by omega))
    exact ⟨sh', p, sv_z hH q66 f0 f1 f12 f13 f32 f51 f52 a72 a81 hm1 hm hgo hw1 hw ho4 h99 (by omega) g⟩
theorem sv_p {h : am_H} (hH : fm_ok h) {mi go w y c1 : Nat} {vs : List Value} (q66 : am_get h 66 = some (.inr (12, vs))) (f0 : vs[0]? = some (.retAddr mi)) (f1 : vs[1]? = some (.retAddr go)) (f12 : vs[12]? = some (.retAddr w)) (f13 : vs[13]? = some (.ref 72)) (f32 : vs[32]? = some (.ref 81)) (f51 : vs[51]? = some (.ref 90)) (f52 : vs[52]? = some (.ref 91)) (a72 : am_get h 72 = some (.inl (0, 8, y))) (a81 : am_get h 81 = some (.inl (0, 256, c1))) (hm1 : 1 ≤ mi) (hm : mi ≤ 60) (hgo : go ≤ 3) (hw1 : 1 ≤ w) (hw : w ≤ 4) (ho4 : ∀ i, i < w → am_ag y (2 * i + 1) < 4) (h99 : ∀ s t, s < 4 → t < 60 → am_ag c1 (64 * s + t) ≤ 99) {hr sh : Nat} {r : am_R} (hg : am_Good mi_197 2 [some (.ref 66), some (.retAddr 0), none, none, none, none] [] (fm h hr sh) r) : am_EG mi_197 [.ref 66] (fm h hr sh) r := by
  refine am_enter (n := 5) tk_197.2.1 (by simp [Value.category]) (Nat.le_of_ble_eq_true rfl) ?_
  show am_Good mi_197 0 [some (.ref 66), none, none, none, none, none] [] (fm h hr sh) _
  refine g_iconst dd_197_0 ic_0 ?_
  refine g_istore_n (i := 1) dd_197_1 (am_nlb_ok rfl) (by decide) ?_
  exact hg
theorem sv_m {h : am_H} (hH : fm_ok h) {mi go w y c1 : Nat} {vs : List Value} (q66 : am_get h 66 = some (.inr (12, vs))) (f0 : vs[0]? = some (.retAddr mi)) (f1 : vs[1]? = some (.retAddr go)) (f12 : vs[12]? = some (.retAddr w)) (f13 : vs[13]? = some (.ref 72)) (f32 : vs[32]? = some (.ref 81)) (f51 : vs[51]? = some (.ref 90)) (f52 : vs[52]? = some (.ref 91)) (a72 : am_get h 72 = some (.inl (0, 8, y))) (a81 : am_get h 81 = some (.inl (0, 256, c1))) (hm1 : 1 ≤ mi) (hm : mi ≤ 60) (hgo : go ≤ 3) (hw1 : 1 ≤ w) (hw : w ≤ 4) (ho4 : ∀ i, i < w → am_ag y (2 * i + 1) < 4) (h99 : ∀ s t, s < 4 → t < 60 → am_ag c1 (64 * s + t) ≤ 99) {hr sh : Nat} (hd : ∀ r, r < fa_tn mi → am_ag hr r < w) : ∃ sh', (∀ s, s < 4 → am_ag sh' s = fa_w (fun s t => am_ag c1 (64 * s + t)) mi go (fun r => am_ag y (2 * am_ag hr r + 1)) s (fa_tn mi)) ∧ am_EG mi_197 [.ref 66] (fm h hr sh) (none, (fm h hr (sh'))) := by
  obtain ⟨sh', p, g⟩ := sv_zl hH q66 f0 f1 f12 f13 f32 f51 f52 a72 a81 hm1 hm hgo hw1 hw ho4 h99 hd 4 0 sh (by omega) (fun s h => absurd h (Nat.not_lt_zero s))
  exact ⟨sh', p, sv_p hH q66 f0 f1 f12 f13 f32 f51 f52 a72 a81 hm1 hm hgo hw1 hw ho4 h99 g⟩
theorem sw_e {h : am_H} (hH : fm_ok h) {mi go w y c1 : Nat} {vs : List Value} (q66 : am_get h 66 = some (.inr (12, vs))) (f0 : vs[0]? = some (.retAddr mi)) (f1 : vs[1]? = some (.retAddr go)) (f12 : vs[12]? = some (.retAddr w)) (f13 : vs[13]? = some (.ref 72)) (f32 : vs[32]? = some (.ref 81)) (f51 : vs[51]? = some (.ref 90)) (f52 : vs[52]? = some (.ref 91)) (a72 : am_get h 72 = some (.inl (0, 8, y))) (a81 : am_get h 81 = some (.inl (0, 256, c1))) (hm1 : 1 ≤ mi) (hm : mi ≤ 60) (hgo : go ≤ 3) (hw1 : 1 ≤ w) (hw : w ≤ 4) (ho4 : ∀ i, i < w → am_ag y (2 * i + 1) < 4) (h99 : ∀ s t, s < 4 → t < 60 → am_ag c1 (64 * s + t) ≤ 99) {hr sh : Nat} {m : Nat} {v3 : Option Value} : am_Good mi_198 14 [some (.ref 66), some (.retAddr m), some (.retAddr w), v3] [] (fm h hr sh) (some (.retAddr m), (fm h hr sh)) := by
  refine g_iload_n (i := 2) dd_198_14 rfl ?_
  refine g_aload_n (i := 0) dd_198_15 rfl ?_
  refine g_getfield (k := 12) am_ck12 (by decide) (Or.inl w_947) dd_198_16 ((fm_o hH rfl).trans q66) f12 ?_
  refine g_icmp_ge_t (t := 55) dd_198_19 (by decide) (by first | exact sk_ge_t (by omega) (by omega) | exact tk_ge_t (by omega)) ?_
  refine g_iload_n (i := 1) dd_198_55 rfl ?_
  exact g_ireturn rfl dd_198_56
theorem sw_ll {h : am_H} (hH : fm_ok h) {mi go w y c1 : Nat} {vs : List Value} (q66 : am_get h 66 = some (.inr (12, vs))) (f0 : vs[0]? = some (.retAddr mi)) (f1 : vs[1]? = some (.retAddr go)) (f12 : vs[12]? = some (.retAddr w)) (f13 : vs[13]? = some (.ref 72)) (f32 : vs[32]? = some (.ref 81)) (f51 : vs[51]? = some (.ref 90)) (f52 : vs[52]? = some (.ref 91)) (a72 : am_get h 72 = some (.inl (0, 8, y))) (a81 : am_get h 81 = some (.inl (0, 256, c1))) (hm1 : 1 ≤ mi) (hm : mi ≤ 60) (hgo : go ≤ 3) (hw1 : 1 ≤ w) (hw : w ≤ 4) (ho4 : ∀ i, i < w → am_ag y (2 * i + 1) < 4) (h99 : ∀ s t, s < 4 → t < 60 → am_ag c1 (64 * s + t) ≤ 99) {hr sh : Nat} {r : am_R} {m i : Nat} {v3 : Option Value} (hi : i < w) (hb : am_ag sh (am_ag y (2 * i + 1)) ≤ 10000) (hb2 : m ≤ 10000) (hc : am_ag sh (am_ag y (2 * i + 1)) < m) (hg : am_Good mi_198 14 [some (.ref 66), some (.retAddr (am_ag sh (am_ag y (2 * i + 1)))), some (.retAddr (i + 1)), some (.retAddr (am_ag sh (am_ag y (2 * i + 1))))] [] (fm h hr sh) r) : am_Good mi_198 14 [some (.ref 66), some (.retAddr m), some (.retAddr i), v3] [] (fm h hr sh) r := by
  have o4 := ho4 i hi
  refine g_iload_n (i := 2) dd_198_14 rfl ?_
  refine g_aload_n (i := 0) dd_198_15 rfl ?_
  refine g_getfield (k := 12) am_ck12 (by decide) (Or.inl w_947) dd_198_16 ((fm_o hH rfl).trans q66) f12 ?_
  refine g_icmp_ge_f (t := 55) dd_198_19 (by decide) (by first | exact sk_ge_f (by omega) (by omega) | exact tk_ge_f (by omega)) ?_
  refine g_aload_n (i := 0) dd_198_22 rfl ?_
  refine g_getfield (k := 52) am_ck12 (by decide) (Or.inl w_987) dd_198_23 ((fm_o hH rfl).trans q66) f52 ?_
  refine g_aload_n (i := 0) dd_198_26 rfl ?_
  refine g_getfield (k := 13) am_ck12 (by decide) (Or.inl w_948) dd_198_27 ((fm_o hH rfl).trans q66) f13 ?_
  refine g_iconst dd_198_30 ic_2 ?_
  refine g_iload_n (i := 2) dd_198_31 rfl ?_
  refine e_imul (v := 2 * i) dd_198_32 (by omega) ?_
  refine g_iconst dd_198_33 ic_1 ?_
  refine e_iadd (v := 2 * i + 1) dd_198_34 (by omega) ?_
  refine g_iaload dd_198_35 ((fm_o hH rfl).trans a72) (by omega) (by decide) ?_
  have hl_1 := am_ag_lt y (2 * i + 1)
  refine g_iaload dd_198_36 (fm_g91 hH) (by omega) (by decide) ?_
  have hl_2 := am_ag_lt sh (am_ag y (2 * i + 1))
  refine g_istore_n (i := 3) dd_198_37 (am_nlb_ok rfl) (by decide) ?_
  refine g_iload_n (i := 3) dd_198_38 rfl ?_
  refine g_iload_n (i := 1) dd_198_39 rfl ?_
  refine g_icmp_ge_f (t := 47) dd_198_40 (by decide) (by first | exact sk_ge_f (by omega) (by omega) | exact tk_ge_f (by omega)) ?_
  refine g_iload_n (i := 3) dd_198_43 rfl ?_
  refine g_goto (t := 48) dd_198_44 (by decide) ?_
  refine g_istore_n (i := 1) dd_198_48 (am_nlb_ok rfl) (by decide) ?_
  refine e_iinc (v := 1) (w := i + 1) dd_198_49 rfl ic_1 (am_nlb_ok rfl) (by decide) (by omega) ?_
  refine g_goto (t := 14) dd_198_52 (by decide) ?_
  exact hg
theorem sw_lg {h : am_H} (hH : fm_ok h) {mi go w y c1 : Nat} {vs : List Value} (q66 : am_get h 66 = some (.inr (12, vs))) (f0 : vs[0]? = some (.retAddr mi)) (f1 : vs[1]? = some (.retAddr go)) (f12 : vs[12]? = some (.retAddr w)) (f13 : vs[13]? = some (.ref 72)) (f32 : vs[32]? = some (.ref 81)) (f51 : vs[51]? = some (.ref 90)) (f52 : vs[52]? = some (.ref 91)) (a72 : am_get h 72 = some (.inl (0, 8, y))) (a81 : am_get h 81 = some (.inl (0, 256, c1))) (hm1 : 1 ≤ mi) (hm : mi ≤ 60) (hgo : go ≤ 3) (hw1 : 1 ≤ w) (hw : w ≤ 4) (ho4 : ∀ i, i < w → am_ag y (2 * i + 1) < 4) (h99 : ∀ s t, s < 4 → t < 60 → am_ag c1 (64 * s + t) ≤ 99) {hr sh : Nat} {r : am_R} {m i : Nat} {v3 : Option Value} (hi : i < w) (hb : am_ag sh (am_ag y (2 * i + 1)) ≤ 10000) (hb2 : m ≤ 10000) (hc : ¬ am_ag sh (am_ag y (2 * i + 1)) < m) (hg : am_Good mi_198 14 [some (.ref 66), some (.retAddr m), some (.retAddr (i + 1)), some (.retAddr (am_ag sh (am_ag y (2 * i + 1))))] [] (fm h hr sh) r) : am_Good mi_198 14 [some (.ref 66), some (.retAddr m), some (.retAddr i), v3] [] (fm h hr sh) r := by
  have o4 := ho4 i hi
  refine g_iload_n (i := 2) dd_198_14 rfl ?_
  refine g_aload_n (i := 0) dd_198_15 rfl ?_
  refine g_getfield (k := 12) am_ck12 (by decide) (Or.inl w_947) dd_198_16 ((fm_o hH rfl).trans q66) f12 ?_
  refine g_icmp_ge_f (t := 55) dd_198_19 (by decide) (by first | exact sk_ge_f (by omega) (by omega) | exact tk_ge_f (by omega)) ?_
  refine g_aload_n (i := 0) dd_198_22 rfl ?_
  refine g_getfield (k := 52) am_ck12 (by decide) (Or.inl w_987) dd_198_23 ((fm_o hH rfl).trans q66) f52 ?_
  refine g_aload_n (i := 0) dd_198_26 rfl ?_
  refine g_getfield (k := 13) am_ck12 (by decide) (Or.inl w_948) dd_198_27 ((fm_o hH rfl).trans q66) f13 ?_
  refine g_iconst dd_198_30 ic_2 ?_
  refine g_iload_n (i := 2) dd_198_31 rfl ?_
  refine e_imul (v := 2 * i) dd_198_32 (by omega) ?_
  refine g_iconst dd_198_33 ic_1 ?_
  refine e_iadd (v := 2 * i + 1) dd_198_34 (by omega) ?_
  refine g_iaload dd_198_35 ((fm_o hH rfl).trans a72) (by omega) (by decide) ?_
  have hl_1 := am_ag_lt y (2 * i + 1)
  refine g_iaload dd_198_36 (fm_g91 hH) (by omega) (by decide) ?_
  have hl_2 := am_ag_lt sh (am_ag y (2 * i + 1))
  refine g_istore_n (i := 3) dd_198_37 (am_nlb_ok rfl) (by decide) ?_
  refine g_iload_n (i := 3) dd_198_38 rfl ?_
  refine g_iload_n (i := 1) dd_198_39 rfl ?_
  refine g_icmp_ge_t (t := 47) dd_198_40 (by decide) (by first | exact sk_ge_t (by omega) (by omega) | exact tk_ge_t (by omega)) ?_
  refine g_iload_n (i := 1) dd_198_47 rfl ?_
  refine g_istore_n (i := 1) dd_198_48 (am_nlb_ok rfl) (by decide) ?_
  refine e_iinc (v := 1) (w := i + 1) dd_198_49 rfl ic_1 (am_nlb_ok rfl) (by decide) (by omega) ?_
  refine g_goto (t := 14) dd_198_52 (by decide) ?_
  exact hg
theorem sw_l {h : am_H} (hH : fm_ok h) {mi go w y c1 : Nat} {vs : List Value} (q66 : am_get h 66 = some (.inr (12, vs))) (f0 : vs[0]? = some (.retAddr mi)) (f1 : vs[1]? = some (.retAddr go)) (f12 : vs[12]? = some (.retAddr w)) (f13 : vs[13]? = some (.ref 72)) (f32 : vs[32]? = some (.ref 81)) (f51 : vs[51]? = some (.ref 90)) (f52 : vs[52]? = some (.ref 91)) (a72 : am_get h 72 = some (.inl (0, 8, y))) (a81 : am_get h 81 = some (.inl (0, 256, c1))) (hm1 : 1 ≤ mi) (hm : mi ≤ 60) (hgo : go ≤ 3) (hw1 : 1 ≤ w) (hw : w ≤ 4) (ho4 : ∀ i, i < w → am_ag y (2 * i + 1) < 4) (h99 : ∀ s t, s < 4 → t < 60 → am_ag c1 (64 * s + t) ≤ 99) {hr sh : Nat} (hb : ∀ s, s < 4 → am_ag sh s ≤ 10000) : ∀ (f i : Nat) (v3 : Option Value), i + f = w → am_Good mi_198 14 [some (.ref 66), some (.retAddr (fa_m (fun i => am_ag sh (am_ag y (2 * i + 1))) (am_ag sh (am_ag y 1)) i)), some (.retAddr i), v3] [] (fm h hr sh) (some (.retAddr (fa_m (fun i => am_ag sh (am_ag y (2 * i + 1))) (am_ag sh (am_ag y 1)) w)), (fm h hr sh))
  | 0, i, v3, e => by
    have e' : i = w := by omega
    subst e'
    exact sw_e hH q66 f0 f1 f12 f13 f32 f51 f52 a72 a81 hm1 hm hgo hw1 hw ho4 h99
  | f + 1, i, v3, e => by
    have q := sw_l hH q66 f0 f1 f12 f13 f32 f51 f52 a72 a81 hm1 hm hgo hw1 hw ho4 h99 (hr := hr) hb f (i + 1) (some (.retAddr (am_ag sh (am_ag y (2 * i + 1))))) (by omega)
    have e1 : fa_m (fun i => am_ag sh (am_ag y (2 * i + 1))) (am_ag sh (am_ag y 1)) (i + 1) = if am_ag sh (am_ag y (2 * i + 1)) < fa_m (fun i => am_ag sh (am_ag y (2 * i + 1))) (am_ag sh (am_ag y 1)) i then am_ag sh (am_ag y (2 * i + 1)) else fa_m (fun i => am_ag sh (am_ag y (2 * i + 1))) (am_ag sh (am_ag y 1)) i := rfl
    have b0 : am_ag sh (am_ag y 1) ≤ 10000 := hb _ (ho4 0 (by omega))
    have b1 : fa_m (fun i => am_ag sh (am_ag y (2 * i + 1))) (am_ag sh (am_ag y 1)) i ≤ 10000 := Nat.le_trans (fa_m_le i) b0
    by_cases c : am_ag sh (am_ag y (2 * i + 1)) < fa_m (fun i => am_ag sh (am_ag y (2 * i + 1))) (am_ag sh (am_ag y 1)) i
    · rw [e1, if_pos c] at q
      exact sw_ll hH q66 f0 f1 f12 f13 f32 f51 f52 a72 a81 hm1 hm hgo hw1 hw ho4 h99 (by omega) (hb _ (ho4 i (by omega))) b1 c q
    · rw [e1, if_neg c] at q
      exact sw_lg hH q66 f0 f1 f12 f13 f32 f51 f52 a72 a81 hm1 hm hgo hw1 hw ho4 h99 (by omega) (hb _ (ho4 i (by omega))) b1 c q
theorem fa_m_1 {f : Nat → Nat} : fa_m f (f 0) 1 = f 0 := by
  show (if f 0 < f 0 then f 0 else f 0) = f 0
  exact if_neg (Nat.lt_irrefl _)
theorem sw_p {h : am_H} (hH : fm_ok h) {mi go w y c1 : Nat} {vs : List Value} (q66 : am_get h 66 = some (.inr (12, vs))) (f0 : vs[0]? = some (.retAddr mi)) (f1 : vs[1]? = some (.retAddr go)) (f12 : vs[12]? = some (.retAddr w)) (f13 : vs[13]? = some (.ref 72)) (f32 : vs[32]? = some (.ref 81)) (f51 : vs[51]? = some (.ref 90)) (f52 : vs[52]? = some (.ref 91)) (a72 : am_get h 72 = some (.inl (0, 8, y))) (a81 : am_get h 81 = some (.inl (0, 256, c1))) (hm1 : 1 ≤ mi) (hm : mi ≤ 60) (hgo : go ≤ 3) (hw1 : 1 ≤ w) (hw : w ≤ 4) (ho4 : ∀ i, i < w → am_ag y (2 * i + 1) < 4) (h99 : ∀ s t, s < 4 → t < 60 → am_ag c1 (64 * s + t) ≤ 99) {hr sh : Nat} (hb : ∀ s, s < 4 → am_ag sh s ≤ 10000) : am_EG mi_198 [.ref 66] (fm h hr sh) (some (.retAddr (fa_m (fun i => am_ag sh (am_ag y (2 * i + 1))) (am_ag sh (am_ag y 1)) w)), (fm h hr sh)) := by
  refine am_enter (n := 3) tk_198.2.1 (by simp [Value.category]) (Nat.le_of_ble_eq_true rfl) ?_
  show am_Good mi_198 0 [some (.ref 66), none, none, none] [] (fm h hr sh) _
  have o0 := ho4 0 (by omega)
  rw [show 2 * 0 + 1 = 1 from rfl] at o0
  refine g_aload_n (i := 0) dd_198_0 rfl ?_
  refine g_getfield (k := 52) am_ck12 (by decide) (Or.inl w_987) dd_198_1 ((fm_o hH rfl).trans q66) f52 ?_
  refine g_aload_n (i := 0) dd_198_4 rfl ?_
  refine g_getfield (k := 13) am_ck12 (by decide) (Or.inl w_948) dd_198_5 ((fm_o hH rfl).trans q66) f13 ?_
  refine g_iconst dd_198_8 ic_1 ?_
  refine g_iaload dd_198_9 ((fm_o hH rfl).trans a72) (by omega) (by decide) ?_
  have hl_1 := am_ag_lt y 1
  refine g_iaload dd_198_10 (fm_g91 hH) (by omega) (by decide) ?_
  have hl_2 := am_ag_lt sh (am_ag y 1)
  refine g_istore_n (i := 1) dd_198_11 (am_nlb_ok rfl) (by decide) ?_
  refine g_iconst dd_198_12 ic_1 ?_
  refine g_istore_n (i := 2) dd_198_13 (am_nlb_ok rfl) (by decide) ?_
  have q := sw_l hH q66 f0 f1 f12 f13 f32 f51 f52 a72 a81 hm1 hm hgo hw1 hw ho4 h99 (hr := hr) hb (w - 1) 1 none (by omega)
  rw [show fa_m (fun i => am_ag sh (am_ag y (2 * i + 1))) (am_ag sh (am_ag y 1)) 1 = (am_ag sh (am_ag y 1)) from fa_m_1 (f := (fun i => am_ag sh (am_ag y (2 * i + 1))))] at q
  exact q
theorem sw_m {h : am_H} (hH : fm_ok h) {mi go w y c1 : Nat} {vs : List Value} (q66 : am_get h 66 = some (.inr (12, vs))) (f0 : vs[0]? = some (.retAddr mi)) (f1 : vs[1]? = some (.retAddr go)) (f12 : vs[12]? = some (.retAddr w)) (f13 : vs[13]? = some (.ref 72)) (f32 : vs[32]? = some (.ref 81)) (f51 : vs[51]? = some (.ref 90)) (f52 : vs[52]? = some (.ref 91)) (a72 : am_get h 72 = some (.inl (0, 8, y))) (a81 : am_get h 81 = some (.inl (0, 256, c1))) (hm1 : 1 ≤ mi) (hm : mi ≤ 60) (hgo : go ≤ 3) (hw1 : 1 ≤ w) (hw : w ≤ 4) (ho4 : ∀ i, i < w → am_ag y (2 * i + 1) < 4) (h99 : ∀ s t, s < 4 → t < 60 → am_ag c1 (64 * s + t) ≤ 99) {hr sh : Nat} (hb : ∀ s, s < 4 → am_ag sh s ≤ 1000) : am_EG mi_198 [.ref 66] (fm h hr sh) (some (.retAddr (fa_m (fun i => am_ag sh (am_ag y (2 * i + 1))) 1000 w)), (fm h hr sh)) := by
  have e := sw_p hH q66 f0 f1 f12 f13 f32 f51 f52 a72 a81 hm1 hm hgo hw1 hw ho4 h99 (hr := hr) (sh := sh) (fun s h => Nat.le_trans (hb s h) (by decide))
  have b0 : (fun i => am_ag sh (am_ag y (2 * i + 1))) 0 ≤ 1000 := hb _ (ho4 0 (by omega))
  obtain ⟨k, rfl⟩ : ∃ k, w = k + 1 := ⟨w - 1, by omega⟩
  have q : fa_m (fun i => am_ag sh (am_ag y (2 * i + 1))) (am_ag sh (am_ag y 1)) (k + 1) = fa_m (fun i => am_ag sh (am_ag y (2 * i + 1))) 1000 (k + 1) := fa_m_0 b0 k
  rw [q] at e
  exact e
theorem sx_e {h : am_H} (hH : fm_ok h) {mi go w y c1 : Nat} {vs : List Value} (q66 : am_get h 66 = some (.inr (12, vs))) (f0 : vs[0]? = some (.retAddr mi)) (f1 : vs[1]? = some (.retAddr go)) (f12 : vs[12]? = some (.retAddr w)) (f13 : vs[13]? = some (.ref 72)) (f32 : vs[32]? = some (.ref 81)) (f51 : vs[51]? = some (.ref 90)) (f52 : vs[52]? = some (.ref 91)) (a72 : am_get h 72 = some (.inl (0, 8, y))) (a81 : am_get h 81 = some (.inl (0, 256, c1))) (hm1 : 1 ≤ mi) (hm : mi ≤ 60) (hgo : go ≤ 3) (hw1 : 1 ≤ w) (hw : w ≤ 4) (ho4 : ∀ i, i < w → am_ag y (2 * i + 1) < 4) (h99 : ∀ s t, s < 4 → t < 60 → am_ag c1 (64 * s + t) ≤ 99) {hr sh : Nat} {sh2 way rest : Nat} (e1_ : am_EG mi_197 [.ref 66] (fm h hr sh) (none, (fm h hr sh2))) : am_Good mi_196 9 [some (.ref 66), some (.retAddr way), some (.retAddr rest), some (.retAddr 4294967295)] [] (fm h hr sh) (none, (fm h hr sh2)) := by
  refine g_iload_n (i := 3) dd_196_9 rfl ?_
  refine g_if_lt_t (t := 38) dd_196_10 (by decide) (by decide) ?_
  refine g_aload_n (i := 0) dd_196_38 rfl ?_
  refine g_virtual (M' := mi_197) (n := 0) (ci := 12) (b := 66) (as := []) (st := []) (r1 := (none, (fm h hr sh2))) w_1356 w_1358 ps_197 ⟨lk_197.1, lk_197.2.1, lk_197.2.2, by decide, by decide⟩ rfl ((fm_o hH rfl).trans q66) rfl (by simp [Value.category]) dd_196_39 (e1_) ?_
  show am_Good mi_196 42 [some (.ref 66), some (.retAddr way), some (.retAddr rest), some (.retAddr 4294967295)] [] (fm h hr sh2) _
  exact g_return rfl dd_196_42
theorem sx_0 {h : am_H} (hH : fm_ok h) {mi go w y c1 : Nat} {vs : List Value} (q66 : am_get h 66 = some (.inr (12, vs))) (f0 : vs[0]? = some (.retAddr mi)) (f1 : vs[1]? = some (.retAddr go)) (f12 : vs[12]? = some (.retAddr w)) (f13 : vs[13]? = some (.ref 72)) (f32 : vs[32]? = some (.ref 81)) (f51 : vs[51]? = some (.ref 90)) (f52 : vs[52]? = some (.ref 91)) (a72 : am_get h 72 = some (.inl (0, 8, y))) (a81 : am_get h 81 = some (.inl (0, 256, c1))) (hm1 : 1 ≤ mi) (hm : mi ≤ 60) (hgo : go ≤ 3) (hw1 : 1 ≤ w) (hw : w ≤ 4) (ho4 : ∀ i, i < w → am_ag y (2 * i + 1) < 4) (h99 : ∀ s t, s < 4 → t < 60 → am_ag c1 (64 * s + t) ≤ 99) {hr sh : Nat} {r : am_R} {way rest : Nat} (hr1 : rest ≤ 4096) (hg : am_Good mi_196 9 [some (.ref 66), some (.retAddr way), some (.retAddr (rest / w)), some (.retAddr 4294967295)] [] (fm h (am_as hr 0 (rest % w)) sh) r) : am_Good mi_196 9 [some (.ref 66), some (.retAddr way), some (.retAddr rest), some (.retAddr 0)] [] (fm h hr sh) r := by
  refine g_iload_n (i := 3) dd_196_9 rfl ?_
  refine g_if_lt_f (t := 38) dd_196_10 (by decide) (by decide) ?_
  refine g_aload_n (i := 0) dd_196_13 rfl ?_
  refine g_getfield (k := 51) am_ck12 (by decide) (Or.inl w_986) dd_196_14 ((fm_o hH rfl).trans q66) f51 ?_
  refine g_iload_n (i := 3) dd_196_17 rfl ?_
  refine g_iload_n (i := 2) dd_196_18 rfl ?_
  refine g_aload_n (i := 0) dd_196_19 rfl ?_
  refine g_getfield (k := 12) am_ck12 (by decide) (Or.inl w_947) dd_196_20 ((fm_o hH rfl).trans q66) f12 ?_
  refine e_irem (v := rest % w) dd_196_23 ⟨by omega, by omega, by omega, rfl⟩ ?_
  refine g_iastore dd_196_24 (fm_g90 hH) (by omega) (by decide) ?_
  refine am_heq (fm_u90 hH) ?_
  show am_Good mi_196 25 [some (.ref 66), some (.retAddr way), some (.retAddr rest), some (.retAddr 0)] [] (fm h (am_as hr 0 (rest % w)) sh) _
  refine g_iload_n (i := 2) dd_196_25 rfl ?_
  refine g_aload_n (i := 0) dd_196_26 rfl ?_
  refine g_getfield (k := 12) am_ck12 (by decide) (Or.inl w_947) dd_196_27 ((fm_o hH rfl).trans q66) f12 ?_
  refine e_idiv (v := rest / w) dd_196_30 ⟨by omega, by omega, by omega, rfl⟩ ?_
  refine g_istore_n (i := 2) dd_196_31 (am_nlb_ok rfl) (by decide) ?_
  refine e_iinc (v := 4294967295) (w := 4294967295) dd_196_32 rfl ic_m1 (am_nlb_ok rfl) (by decide) (by omega) ?_
  refine g_goto (t := 9) dd_196_35 (by decide) ?_
  exact hg
theorem sx_s {h : am_H} (hH : fm_ok h) {mi go w y c1 : Nat} {vs : List Value} (q66 : am_get h 66 = some (.inr (12, vs))) (f0 : vs[0]? = some (.retAddr mi)) (f1 : vs[1]? = some (.retAddr go)) (f12 : vs[12]? = some (.retAddr w)) (f13 : vs[13]? = some (.ref 72)) (f32 : vs[32]? = some (.ref 81)) (f51 : vs[51]? = some (.ref 90)) (f52 : vs[52]? = some (.ref 91)) (a72 : am_get h 72 = some (.inl (0, 8, y))) (a81 : am_get h 81 = some (.inl (0, 256, c1))) (hm1 : 1 ≤ mi) (hm : mi ≤ 60) (hgo : go ≤ 3) (hw1 : 1 ≤ w) (hw : w ≤ 4) (ho4 : ∀ i, i < w → am_ag y (2 * i + 1) < 4) (h99 : ∀ s t, s < 4 → t < 60 → am_ag c1 (64 * s + t) ≤ 99) {hr sh : Nat} {r : am_R} {way rest : Nat} {k : Nat} (hk : k + 1 < 6) (hr1 : rest ≤ 4096) (hg : am_Good mi_196 9 [some (.ref 66), some (.retAddr way), some (.retAddr (rest / w)), some (.retAddr k)] [] (fm h (am_as hr (k + 1) (rest % w)) sh) r) : am_Good mi_196 9 [some (.ref 66), some (.retAddr way), some (.retAddr rest), some (.retAddr (k + 1))] [] (fm h hr sh) r := by
  refine g_iload_n (i := 3) dd_196_9 rfl ?_
  refine g_if_lt_f (t := 38) dd_196_10 (by decide) (by first | exact sk_lt_f (by omega) (by omega) | exact tk_lt_f (by omega)) ?_
  refine g_aload_n (i := 0) dd_196_13 rfl ?_
  refine g_getfield (k := 51) am_ck12 (by decide) (Or.inl w_986) dd_196_14 ((fm_o hH rfl).trans q66) f51 ?_
  refine g_iload_n (i := 3) dd_196_17 rfl ?_
  refine g_iload_n (i := 2) dd_196_18 rfl ?_
  refine g_aload_n (i := 0) dd_196_19 rfl ?_
  refine g_getfield (k := 12) am_ck12 (by decide) (Or.inl w_947) dd_196_20 ((fm_o hH rfl).trans q66) f12 ?_
  refine e_irem (v := rest % w) dd_196_23 ⟨by omega, by omega, by omega, rfl⟩ ?_
  refine g_iastore dd_196_24 (fm_g90 hH) (by omega) (by decide) ?_
  refine am_heq (fm_u90 hH) ?_
  show am_Good mi_196 25 [some (.ref 66), some (.retAddr way), some (.retAddr rest), some (.retAddr (k + 1))] [] (fm h (am_as hr (k + 1) (rest % w)) sh) _
  refine g_iload_n (i := 2) dd_196_25 rfl ?_
  refine g_aload_n (i := 0) dd_196_26 rfl ?_
  refine g_getfield (k := 12) am_ck12 (by decide) (Or.inl w_947) dd_196_27 ((fm_o hH rfl).trans q66) f12 ?_
  refine e_idiv (v := rest / w) dd_196_30 ⟨by omega, by omega, by omega, rfl⟩ ?_
  refine g_istore_n (i := 2) dd_196_31 (am_nlb_ok rfl) (by decide) ?_
  refine e_iinc (v := 4294967295) (w := k) dd_196_32 rfl ic_m1 (am_nlb_ok rfl) (by decide) (by omega) ?_
  refine g_goto (t := 9) dd_196_35 (by decide) ?_
  exact hg
theorem sx_c {mi w way k hr rest : Nat} (hm1 : 1 ≤ mi) (hm : mi ≤ 60) (hw1 : 1 ≤ w) (hw : w ≤ 4) (hl : way < w ^ fa_tn mi) (hk : k < fa_tn mi) (he : rest = way / w ^ (fa_tn mi - 1 - k)) (h1 : ∀ r, k < r → r < fa_tn mi → am_ag hr r = fa_d w (fa_tn mi) way r) (h3 : ∀ r, r < 6 → am_ag hr r ≤ 3) : rest ≤ 4096 ∧ rest / w = way / w ^ (fa_tn mi - 1 - k + 1) ∧ (∀ r, k ≤ r → r < fa_tn mi → am_ag (am_as hr k (rest % w)) r = fa_d w (fa_tn mi) way r) ∧ ∀ r, r < 6 → am_ag (am_as hr k (rest % w)) r ≤ 3 := by
  obtain ⟨-, t6, -⟩ := fa_t6 hm1 hm
  have p46 := fa_pw (w := w) (tn := fa_tn mi) hw t6
  have rb : rest ≤ 4096 := by
    rw [he]
    exact Nat.le_trans (Nat.div_le_self _ _) (by omega)
  obtain ⟨d1, d2⟩ := fa_dv (w := w) (tn := fa_tn mi) (way := way) (j := fa_tn mi - 1 - k) (by omega)
  rw [show fa_tn mi - 1 - (fa_tn mi - 1 - k) = k by omega, ← he] at d1
  rw [← he] at d2
  have dl : fa_d w (fa_tn mi) way k < w := fa_d_lt (by omega)
  refine ⟨rb, d2, fun r h2 h4 => ?_, fun r h2 => ?_⟩
  · rw [am_ag_as]
    by_cases c : r = k
    · subst c
      rw [if_pos rfl, d1]
      exact Nat.mod_eq_of_lt (by omega)
    · rw [if_neg c]
      exact h1 r (by omega) h4
  · rw [am_ag_as]
    by_cases c : r = k
    · rw [if_pos c, d1, Nat.mod_eq_of_lt (by omega)]
      omega
    · rw [if_neg c]
      exact h3 r h2
theorem sx_l {h : am_H} (hH : fm_ok h) {mi go w y c1 : Nat} {vs : List Value} (q66 : am_get h 66 = some (.inr (12, vs))) (f0 : vs[0]? = some (.retAddr mi)) (f1 : vs[1]? = some (.retAddr go)) (f12 : vs[12]? = some (.retAddr w)) (f13 : vs[13]? = some (.ref 72)) (f32 : vs[32]? = some (.ref 81)) (f51 : vs[51]? = some (.ref 90)) (f52 : vs[52]? = some (.ref 91)) (a72 : am_get h 72 = some (.inl (0, 8, y))) (a81 : am_get h 81 = some (.inl (0, 256, c1))) (hm1 : 1 ≤ mi) (hm : mi ≤ 60) (hgo : go ≤ 3) (hw1 : 1 ≤ w) (hw : w ≤ 4) (ho4 : ∀ i, i < w → am_ag y (2 * i + 1) < 4) (h99 : ∀ s t, s < 4 → t < 60 → am_ag c1 (64 * s + t) ≤ 99) {sh way : Nat} (hl : way < w ^ fa_tn mi) (k : Nat) : ∀ (hr rest : Nat), k < fa_tn mi → rest = way / w ^ (fa_tn mi - 1 - k) → (∀ r, k < r → r < fa_tn mi → am_ag hr r = fa_d w (fa_tn mi) way r) → (∀ r, r < 6 → am_ag hr r ≤ 3) → ∃ hr' sh', (∀ r, r < fa_tn mi → am_ag hr' r = fa_d w (fa_tn mi) way r) ∧ (∀ r, r < 6 → am_ag hr' r ≤ 3) ∧ (∀ s, s < 4 → am_ag sh' s = fa_w (fun s t => am_ag c1 (64 * s + t)) mi go (fun r => (fun i => am_ag y (2 * i + 1)) (fa_d w (fa_tn mi) way r)) s (fa_tn mi)) ∧ am_Good mi_196 9 [some (.ref 66), some (.retAddr way), some (.retAddr rest), some (.retAddr k)] [] (fm h hr sh) (none, (fm h (hr') (sh'))) := by
  obtain ⟨-, t6, -⟩ := fa_t6 hm1 hm
  induction k with
  | zero =>
    intro hr rest hk he h1 h3
    obtain ⟨rb, d2, n1, n3⟩ := sx_c hm1 hm hw1 hw hl hk he h1 h3
    have hd : ∀ r, r < fa_tn mi → am_ag (am_as hr 0 (rest % w)) r < w := fun r h => by
      rw [n1 r (Nat.zero_le _) h]
      exact fa_d_lt (by omega)
    obtain ⟨sh2, p, e⟩ := sv_m hH q66 f0 f1 f12 f13 f32 f51 f52 a72 a81 hm1 hm hgo hw1 hw ho4 h99 (hr := am_as hr 0 (rest % w)) (sh := sh) hd
    refine ⟨am_as hr 0 (rest % w), sh2, fun r h => n1 r (Nat.zero_le _) h, n3, fun s h => (p s h).trans ?_, sx_0 hH q66 f0 f1 f12 f13 f32 f51 f52 a72 a81 hm1 hm hgo hw1 hw ho4 h99 rb (sx_e hH q66 f0 f1 f12 f13 f32 f51 f52 a72 a81 hm1 hm hgo hw1 hw ho4 h99 e)⟩
    exact fa_w_cg (fun r h => congrArg (fun i => am_ag y (2 * i + 1)) (n1 r (Nat.zero_le _) h)) (fun r h t _ => rfl)
  | succ k ih =>
    intro hr rest hk he h1 h3
    obtain ⟨rb, d2, n1, n3⟩ := sx_c hm1 hm hw1 hw hl hk he h1 h3
    obtain ⟨hr', sh', p1, p2, p3, g⟩ := ih (am_as hr (k + 1) (rest % w)) (rest / w) (by omega) (by rw [d2, show fa_tn mi - 1 - (k + 1) + 1 = fa_tn mi - 1 - k by omega]) (fun r h2 h4 => n1 r (by omega) h4) n3
    exact ⟨hr', sh', p1, p2, p3, sx_s hH q66 f0 f1 f12 f13 f32 f51 f52 a72 a81 hm1 hm hgo hw1 hw ho4 h99 (by omega) rb g⟩
theorem sx_p {h : am_H} (hH : fm_ok h) {mi go w y c1 : Nat} {vs : List Value} (q66 : am_get h 66 = some (.inr (12, vs))) (f0 : vs[0]? = some (.retAddr mi)) (f1 : vs[1]? = some (.retAddr go)) (f12 : vs[12]? = some (.retAddr w)) (f13 : vs[13]? = some (.ref 72)) (f32 : vs[32]? = some (.ref 81)) (f51 : vs[51]? = some (.ref 90)) (f52 : vs[52]? = some (.ref 91)) (a72 : am_get h 72 = some (.inl (0, 8, y))) (a81 : am_get h 81 = some (.inl (0, 256, c1))) (hm1 : 1 ≤ mi) (hm : mi ≤ 60) (hgo : go ≤ 3) (hw1 : 1 ≤ w) (hw : w ≤ 4) (ho4 : ∀ i, i < w → am_ag y (2 * i + 1) < 4) (h99 : ∀ s t, s < 4 → t < 60 → am_ag c1 (64 * s + t) ≤ 99) {hr sh : Nat} {way : Nat} {r : am_R} (hg : am_Good mi_196 9 [some (.ref 66), some (.retAddr way), some (.retAddr way), some (.retAddr (fa_tn mi - 1))] [] (fm h hr sh) r) : am_EG mi_196 [.ref 66, .retAddr way] (fm h hr sh) r := by
  refine am_enter (n := 2) tk_196.2.1 (by simp [Value.category]) (Nat.le_of_ble_eq_true rfl) ?_
  show am_Good mi_196 0 [some (.ref 66), some (.retAddr way), none, none] [] (fm h hr sh) _
  have t6 := fa_t6 hm1 hm
  refine g_iload_n (i := 1) dd_196_0 rfl ?_
  refine g_istore_n (i := 2) dd_196_1 (am_nlb_ok rfl) (by decide) ?_
  refine g_aload_n (i := 0) dd_196_2 rfl ?_
  refine g_virtual (M' := mi_195) (n := 0) (ci := 12) (b := 66) (as := []) (st := []) (r1 := (some (.retAddr (fa_tn mi)), (fm h hr sh))) w_1348 w_1350 ps_195 ⟨lk_195.1, lk_195.2.1, lk_195.2.2, by decide, by decide⟩ rfl ((fm_o hH rfl).trans q66) rfl (by simp [Value.category]) dd_196_3 (st_t hH q66 f0 f1 f12 f13 f32 f51 f52 a72 a81 hm1 hm hgo hw1 hw ho4 h99) ?_
  show am_Good mi_196 6 [some (.ref 66), some (.retAddr way), some (.retAddr way), none] [.retAddr (fa_tn mi)] (fm h hr sh) _
  refine g_iconst dd_196_6 ic_1 ?_
  refine e_isub (v := (fa_tn mi) - 1) dd_196_7 (by omega) ?_
  refine g_istore_n (i := 3) dd_196_8 (am_nlb_ok rfl) (by decide) ?_
  exact hg
theorem sx_m {h : am_H} (hH : fm_ok h) {mi go w y c1 : Nat} {vs : List Value} (q66 : am_get h 66 = some (.inr (12, vs))) (f0 : vs[0]? = some (.retAddr mi)) (f1 : vs[1]? = some (.retAddr go)) (f12 : vs[12]? = some (.retAddr w)) (f13 : vs[13]? = some (.ref 72)) (f32 : vs[32]? = some (.ref 81)) (f51 : vs[51]? = some (.ref 90)) (f52 : vs[52]? = some (.ref 91)) (a72 : am_get h 72 = some (.inl (0, 8, y))) (a81 : am_get h 81 = some (.inl (0, 256, c1))) (hm1 : 1 ≤ mi) (hm : mi ≤ 60) (hgo : go ≤ 3) (hw1 : 1 ≤ w) (hw : w ≤ 4) (ho4 : ∀ i, i < w → am_ag y (2 * i + 1) < 4) (h99 : ∀ s t, s < 4 → t < 60 → am_ag c1 (64 * s + t) ≤ 99) {hr sh way : Nat} (hl : way < w ^ fa_tn mi) (h3 : ∀ r, r < 6 → am_ag hr r ≤ 3) : ∃ hr' sh', (∀ r, r < fa_tn mi → am_ag hr' r = fa_d w (fa_tn mi) way r) ∧ (∀ r, r < 6 → am_ag hr' r ≤ 3) ∧ (∀ s, s < 4 → am_ag sh' s = fa_w (fun s t => am_ag c1 (64 * s + t)) mi go (fun r => (fun i => am_ag y (2 * i + 1)) (fa_d w (fa_tn mi) way r)) s (fa_tn mi)) ∧ am_EG mi_196 [.ref 66, .retAddr way] (fm h hr sh) (none, (fm h (hr') (sh'))) := by
  obtain ⟨t1, t6, -⟩ := fa_t6 hm1 hm
  obtain ⟨hr', sh', p1, p2, p3, g⟩ := sx_l hH q66 f0 f1 f12 f13 f32 f51 f52 a72 a81 hm1 hm hgo hw1 hw ho4 h99 (sh := sh) hl (fa_tn mi - 1) hr way (by omega) (by rw [Nat.sub_self, Nat.pow_zero, Nat.div_one]) (fun r h1 h2 => by omega) h3
  exact ⟨hr', sh', p1, p2, p3, sx_p hH q66 f0 f1 f12 f13 f32 f51 f52 a72 a81 hm1 hm hgo hw1 hw ho4 h99 g⟩
theorem fa_wn {w n : Nat} (hw : w ≤ 4) (h6 : n < 6) : (w ^ n * w) % 4294967296 = w ^ (n + 1) := by
  have q := fa_pw (w := w) (tn := n + 1) hw (by omega)
  rw [← Nat.pow_succ]
  exact Nat.mod_eq_of_lt (Nat.lt_of_le_of_lt q (by decide))
theorem su_w {h : am_H} (hH : fm_ok h) {mi go w y c1 : Nat} {vs : List Value} (q66 : am_get h 66 = some (.inr (12, vs))) (f0 : vs[0]? = some (.retAddr mi)) (f1 : vs[1]? = some (.retAddr go)) (f12 : vs[12]? = some (.retAddr w)) (f13 : vs[13]? = some (.ref 72)) (f32 : vs[32]? = some (.ref 81)) (f51 : vs[51]? = some (.ref 90)) (f52 : vs[52]? = some (.ref 91)) (a72 : am_get h 72 = some (.inl (0, 8, y))) (a81 : am_get h 81 = some (.inl (0, 256, c1))) (hm1 : 1 ≤ mi) (hm : mi ≤ 60) (hgo : go ≤ 3) (hw1 : 1 ≤ w) (hw : w ≤ 4) (ho4 : ∀ i, i < w → am_ag y (2 * i + 1) < 4) (h99 : ∀ s t, s < 4 → t < 60 → am_ag c1 (64 * s + t) ≤ 99) {hr sh : Nat} {k wh mo : Nat} {n : Nat} {r : am_R} (hn : n < fa_tn mi) (h6 : n < 6) (hg : am_Good mi_194 83 [some (.ref 66), some (.retAddr k), some (.retAddr wh), some (.retAddr mo), some (.retAddr (w ^ (n + 1))), some (.retAddr (n + 1)), none, none] [] (fm h hr sh) r) : am_Good mi_194 83 [some (.ref 66), some (.retAddr k), some (.retAddr wh), some (.retAddr mo), some (.retAddr (w ^ n)), some (.retAddr n), none, none] [] (fm h hr sh) r := by
  have t6 := fa_t6 hm1 hm
  refine g_iload dd_194_83 rfl ?_
  refine g_aload_n (i := 0) dd_194_85 rfl ?_
  refine g_virtual (M' := mi_195) (n := 0) (ci := 12) (b := 66) (as := []) (st := [.retAddr n]) (r1 := (some (.retAddr (fa_tn mi)), (fm h hr sh))) w_1348 w_1350 ps_195 ⟨lk_195.1, lk_195.2.1, lk_195.2.2, by decide, by decide⟩ rfl ((fm_o hH rfl).trans q66) rfl (by simp [Value.category]) dd_194_86 (st_t hH q66 f0 f1 f12 f13 f32 f51 f52 a72 a81 hm1 hm hgo hw1 hw ho4 h99) ?_
  show am_Good mi_194 89 [some (.ref 66), some (.retAddr k), some (.retAddr wh), some (.retAddr mo), some (.retAddr (w ^ n)), some (.retAddr n), none, none] [.retAddr (fa_tn mi), .retAddr n] (fm h hr sh) _
  refine g_icmp_ge_f (t := 107) dd_194_89 (by decide) (by first | exact sk_ge_f (by omega) (by omega) | exact tk_ge_f (by omega)) ?_
  refine g_iload dd_194_92 rfl ?_
  refine g_aload_n (i := 0) dd_194_94 rfl ?_
  refine g_getfield (k := 12) am_ck12 (by decide) (Or.inl w_947) dd_194_95 ((fm_o hH rfl).trans q66) f12 ?_
  refine e_imul (v := w ^ (n + 1)) dd_194_98 (fa_wn hw h6) ?_
  refine g_istore dd_194_99 (am_nlb_ok rfl) (by decide) ?_
  refine e_iinc (v := 1) (w := n + 1) dd_194_101 rfl ic_1 (am_nlb_ok rfl) (by decide) (by omega) ?_
  refine g_goto (t := 83) dd_194_104 (by decide) ?_
  exact hg
theorem su_x {h : am_H} (hH : fm_ok h) {mi go w y c1 : Nat} {vs : List Value} (q66 : am_get h 66 = some (.inr (12, vs))) (f0 : vs[0]? = some (.retAddr mi)) (f1 : vs[1]? = some (.retAddr go)) (f12 : vs[12]? = some (.retAddr w)) (f13 : vs[13]? = some (.ref 72)) (f32 : vs[32]? = some (.ref 81)) (f51 : vs[51]? = some (.ref 90)) (f52 : vs[52]? = some (.ref 91)) (a72 : am_get h 72 = some (.inl (0, 8, y))) (a81 : am_get h 81 = some (.inl (0, 256, c1))) (hm1 : 1 ≤ mi) (hm : mi ≤ 60) (hgo : go ≤ 3) (hw1 : 1 ≤ w) (hw : w ≤ 4) (ho4 : ∀ i, i < w → am_ag y (2 * i + 1) < 4) (h99 : ∀ s t, s < 4 → t < 60 → am_ag c1 (64 * s + t) ≤ 99) {hr sh : Nat} {k wh mo : Nat} {r : am_R} (hg : am_Good mi_194 116 [some (.ref 66), some (.retAddr k), some (.retAddr wh), some (.retAddr mo), some (.retAddr (w ^ fa_tn mi)), some (.retAddr 0), some (.retAddr 4294967295), some (.retAddr 0)] [] (fm h hr sh) r) : am_Good mi_194 83 [some (.ref 66), some (.retAddr k), some (.retAddr wh), some (.retAddr mo), some (.retAddr (w ^ fa_tn mi)), some (.retAddr (fa_tn mi)), none, none] [] (fm h hr sh) r := by
  have t6 := fa_t6 hm1 hm
  refine g_iload dd_194_83 rfl ?_
  refine g_aload_n (i := 0) dd_194_85 rfl ?_
  refine g_virtual (M' := mi_195) (n := 0) (ci := 12) (b := 66) (as := []) (st := [.retAddr (fa_tn mi)]) (r1 := (some (.retAddr (fa_tn mi)), (fm h hr sh))) w_1348 w_1350 ps_195 ⟨lk_195.1, lk_195.2.1, lk_195.2.2, by decide, by decide⟩ rfl ((fm_o hH rfl).trans q66) rfl (by simp [Value.category]) dd_194_86 (st_t hH q66 f0 f1 f12 f13 f32 f51 f52 a72 a81 hm1 hm hgo hw1 hw ho4 h99) ?_
  show am_Good mi_194 89 [some (.ref 66), some (.retAddr k), some (.retAddr wh), some (.retAddr mo), some (.retAddr (w ^ fa_tn mi)), some (.retAddr (fa_tn mi)), none, none] [.retAddr (fa_tn mi), .retAddr (fa_tn mi)] (fm h hr sh) _
  refine g_icmp_ge_t (t := 107) dd_194_89 (by decide) (by first | exact sk_ge_t (by omega) (by omega) | exact tk_ge_t (by omega)) ?_
  refine g_iconst dd_194_107 ic_0 ?_
  refine g_istore dd_194_108 (am_nlb_ok rfl) (by decide) ?_
  refine g_iconst dd_194_110 ic_m1 ?_
  refine g_istore dd_194_111 (am_nlb_ok rfl) (by decide) ?_
  refine g_iconst dd_194_113 ic_0 ?_
  refine g_istore dd_194_114 (am_nlb_ok rfl) (by decide) ?_
  exact hg
theorem su_wl {h : am_H} (hH : fm_ok h) {mi go w y c1 : Nat} {vs : List Value} (q66 : am_get h 66 = some (.inr (12, vs))) (f0 : vs[0]? = some (.retAddr mi)) (f1 : vs[1]? = some (.retAddr go)) (f12 : vs[12]? = some (.retAddr w)) (f13 : vs[13]? = some (.ref 72)) (f32 : vs[32]? = some (.ref 81)) (f51 : vs[51]? = some (.ref 90)) (f52 : vs[52]? = some (.ref 91)) (a72 : am_get h 72 = some (.inl (0, 8, y))) (a81 : am_get h 81 = some (.inl (0, 256, c1))) (hm1 : 1 ≤ mi) (hm : mi ≤ 60) (hgo : go ≤ 3) (hw1 : 1 ≤ w) (hw : w ≤ 4) (ho4 : ∀ i, i < w → am_ag y (2 * i + 1) < 4) (h99 : ∀ s t, s < 4 → t < 60 → am_ag c1 (64 * s + t) ≤ 99) {hr sh : Nat} {k wh mo : Nat} {r : am_R} (hg : am_Good mi_194 83 [some (.ref 66), some (.retAddr k), some (.retAddr wh), some (.retAddr mo), some (.retAddr (w ^ fa_tn mi)), some (.retAddr (fa_tn mi)), none, none] [] (fm h hr sh) r) : ∀ (f n : Nat), n + f = fa_tn mi → am_Good mi_194 83 [some (.ref 66), some (.retAddr k), some (.retAddr wh), some (.retAddr mo), some (.retAddr (w ^ n)), some (.retAddr n), none, none] [] (fm h hr sh) r
  | 0, n, e => by
    have e' : n = fa_tn mi := by omega
    subst e'
    exact hg
  | f + 1, n, e => by
    obtain ⟨-, t6, -⟩ := fa_t6 hm1 hm
    exact su_w hH q66 f0 f1 f12 f13 f32 f51 f52 a72 a81 hm1 hm hgo hw1 hw ho4 h99 (by omega) (by omega) (su_wl hH q66 f0 f1 f12 f13 f32 f51 f52 a72 a81 hm1 hm hgo hw1 hw ho4 h99 hg f (n + 1) (by omega))
theorem su_0 {h : am_H} (hH : fm_ok h) {mi go w y c1 : Nat} {vs : List Value} (q66 : am_get h 66 = some (.inr (12, vs))) (f0 : vs[0]? = some (.retAddr mi)) (f1 : vs[1]? = some (.retAddr go)) (f12 : vs[12]? = some (.retAddr w)) (f13 : vs[13]? = some (.ref 72)) (f32 : vs[32]? = some (.ref 81)) (f51 : vs[51]? = some (.ref 90)) (f52 : vs[52]? = some (.ref 91)) (a72 : am_get h 72 = some (.inl (0, 8, y))) (a81 : am_get h 81 = some (.inl (0, 256, c1))) (hm1 : 1 ≤ mi) (hm : mi ≤ 60) (hgo : go ≤ 3) (hw1 : 1 ≤ w) (hw : w ≤ 4) (ho4 : ∀ i, i < w → am_ag y (2 * i + 1) < 4) (h99 : ∀ s t, s < 4 → t < 60 → am_ag c1 (64 * s + t) ≤ 99) {hr sh : Nat} {k wh mo : Nat} {r : am_R} (hg : am_Good mi_194 83 [some (.ref 66), some (.retAddr k), some (.retAddr wh), some (.retAddr mo), some (.retAddr (w ^ fa_tn mi)), some (.retAddr (fa_tn mi)), none, none] [] (fm h hr sh) r) : am_Good mi_194 77 [some (.ref 66), some (.retAddr k), some (.retAddr wh), some (.retAddr mo), none, none, none, none] [] (fm h hr sh) r := by
  refine g_iconst dd_194_77 ic_1 ?_
  refine g_istore dd_194_78 (am_nlb_ok rfl) (by decide) ?_
  refine g_iconst dd_194_80 ic_0 ?_
  refine g_istore dd_194_81 (am_nlb_ok rfl) (by decide) ?_
  have q := su_wl hH q66 f0 f1 f12 f13 f32 f51 f52 a72 a81 hm1 hm hgo hw1 hw ho4 h99 hg (fa_tn mi) 0 (by omega)
  rw [Nat.pow_zero] at q
  exact q
theorem su_n {h : am_H} (hH : fm_ok h) {mi go w y c1 : Nat} {vs : List Value} (q66 : am_get h 66 = some (.inr (12, vs))) (f0 : vs[0]? = some (.retAddr mi)) (f1 : vs[1]? = some (.retAddr go)) (f12 : vs[12]? = some (.retAddr w)) (f13 : vs[13]? = some (.ref 72)) (f32 : vs[32]? = some (.ref 81)) (f51 : vs[51]? = some (.ref 90)) (f52 : vs[52]? = some (.ref 91)) (a72 : am_get h 72 = some (.inl (0, 8, y))) (a81 : am_get h 81 = some (.inl (0, 256, c1))) (hm1 : 1 ≤ mi) (hm : mi ≤ 60) (hgo : go ≤ 3) (hw1 : 1 ≤ w) (hw : w ≤ 4) (ho4 : ∀ i, i < w → am_ag y (2 * i + 1) < 4) (h99 : ∀ s t, s < 4 → t < 60 → am_ag c1 (64 * s + t) ≤ 99) {hr sh : Nat} {k wh mo : Nat} {hr2 sh2 ws be lv wy : Nat} {r : am_R} (hy : wy < ws) (hys : ws ≤ 4096) (hlv : lv ≤ 1000)  (e1_ : am_EG mi_196 [.ref 66, .retAddr wy] (fm h hr sh) (none, (fm h hr2 sh2))) (e2_ : am_EG mi_198 [.ref 66] (fm h hr2 sh2) (some (.retAddr lv), (fm h hr2 sh2))) (hg : am_Good mi_194 116 [some (.ref 66), some (.retAddr k), some (.retAddr wh), some (.retAddr mo), some (.retAddr ws), some (.retAddr wy), some (.retAddr lv), some (.retAddr (wy + 1))] [] (fm h hr2 sh2) r) : am_Good mi_194 116 [some (.ref 66), some (.retAddr k), some (.retAddr wh), some (.retAddr mo), some (.retAddr ws), some (.retAddr be), some (.retAddr 4294967295), some (.retAddr wy)] [] (fm h hr sh) r := by
  refine g_iload dd_194_116 rfl ?_
  refine g_iload dd_194_118 rfl ?_
  refine g_icmp_ge_f (t := 173) dd_194_120 (by decide) (by first | exact sk_ge_f (by omega) (by omega) | exact tk_ge_f (by omega)) ?_
  refine g_aload_n (i := 0) dd_194_123 rfl ?_
  refine g_iload dd_194_124 rfl ?_
  refine g_virtual (M' := mi_196) (n := 1) (ci := 12) (b := 66) (as := [.retAddr wy]) (st := []) (r1 := (none, (fm h hr2 sh2))) w_1352 w_1354 ps_196 ⟨lk_196.1, lk_196.2.1, lk_196.2.2, by decide, by decide⟩ rfl ((fm_o hH rfl).trans q66) rfl (by simp [Value.category]) dd_194_126 (e1_) ?_
  show am_Good mi_194 129 [some (.ref 66), some (.retAddr k), some (.retAddr wh), some (.retAddr mo), some (.retAddr ws), some (.retAddr be), some (.retAddr 4294967295), some (.retAddr wy)] [] (fm h hr2 sh2) _
  refine g_aload_n (i := 0) dd_194_129 rfl ?_
  refine g_virtual (M' := mi_198) (n := 0) (ci := 12) (b := 66) (as := []) (st := []) (r1 := (some (.retAddr lv), (fm h hr2 sh2))) w_1360 w_1362 ps_198 ⟨lk_198.1, lk_198.2.1, lk_198.2.2, by decide, by decide⟩ rfl ((fm_o hH rfl).trans q66) rfl (by simp [Value.category]) dd_194_130 (e2_) ?_
  show am_Good mi_194 133 [some (.ref 66), some (.retAddr k), some (.retAddr wh), some (.retAddr mo), some (.retAddr ws), some (.retAddr be), some (.retAddr 4294967295), some (.retAddr wy)] [.retAddr lv] (fm h hr2 sh2) _
  refine g_iload dd_194_133 rfl ?_
  refine g_icmp_le_f (t := 143) dd_194_135 (by decide) (by first | exact sk_le_f (by omega) (by omega) | exact tk_le_f (by omega)) ?_
  refine g_iload dd_194_138 rfl ?_
  refine g_goto (t := 145) dd_194_140 (by decide) ?_
  refine g_istore dd_194_145 (am_nlb_ok rfl) (by decide) ?_
  refine g_aload_n (i := 0) dd_194_147 rfl ?_
  refine g_virtual (M' := mi_198) (n := 0) (ci := 12) (b := 66) (as := []) (st := []) (r1 := (some (.retAddr lv), (fm h hr2 sh2))) w_1360 w_1362 ps_198 ⟨lk_198.1, lk_198.2.1, lk_198.2.2, by decide, by decide⟩ rfl ((fm_o hH rfl).trans q66) rfl (by simp [Value.category]) dd_194_148 (e2_) ?_
  show am_Good mi_194 151 [some (.ref 66), some (.retAddr k), some (.retAddr wh), some (.retAddr mo), some (.retAddr ws), some (.retAddr wy), some (.retAddr 4294967295), some (.retAddr wy)] [.retAddr lv] (fm h hr2 sh2) _
  refine g_iload dd_194_151 rfl ?_
  refine g_icmp_le_f (t := 163) dd_194_153 (by decide) (by first | exact sk_le_f (by omega) (by omega) | exact tk_le_f (by omega)) ?_
  refine g_aload_n (i := 0) dd_194_156 rfl ?_
  refine g_virtual (M' := mi_198) (n := 0) (ci := 12) (b := 66) (as := []) (st := []) (r1 := (some (.retAddr lv), (fm h hr2 sh2))) w_1360 w_1362 ps_198 ⟨lk_198.1, lk_198.2.1, lk_198.2.2, by decide, by decide⟩ rfl ((fm_o hH rfl).trans q66) rfl (by simp [Value.category]) dd_194_157 (e2_) ?_
  show am_Good mi_194 160 [some (.ref 66), some (.retAddr k), some (.retAddr wh), some (.retAddr mo), some (.retAddr ws), some (.retAddr wy), some (.retAddr 4294967295), some (.retAddr wy)] [.retAddr lv] (fm h hr2 sh2) _
  refine g_goto (t := 165) dd_194_160 (by decide) ?_
  refine g_istore dd_194_165 (am_nlb_ok rfl) (by decide) ?_
  refine e_iinc (v := 1) (w := wy + 1) dd_194_167 rfl ic_1 (am_nlb_ok rfl) (by decide) (by omega) ?_
  refine g_goto (t := 116) dd_194_170 (by decide) ?_
  exact hg
theorem su_b {h : am_H} (hH : fm_ok h) {mi go w y c1 : Nat} {vs : List Value} (q66 : am_get h 66 = some (.inr (12, vs))) (f0 : vs[0]? = some (.retAddr mi)) (f1 : vs[1]? = some (.retAddr go)) (f12 : vs[12]? = some (.retAddr w)) (f13 : vs[13]? = some (.ref 72)) (f32 : vs[32]? = some (.ref 81)) (f51 : vs[51]? = some (.ref 90)) (f52 : vs[52]? = some (.ref 91)) (a72 : am_get h 72 = some (.inl (0, 8, y))) (a81 : am_get h 81 = some (.inl (0, 256, c1))) (hm1 : 1 ≤ mi) (hm : mi ≤ 60) (hgo : go ≤ 3) (hw1 : 1 ≤ w) (hw : w ≤ 4) (ho4 : ∀ i, i < w → am_ag y (2 * i + 1) < 4) (h99 : ∀ s t, s < 4 → t < 60 → am_ag c1 (64 * s + t) ≤ 99) {hr sh : Nat} {k wh mo : Nat} {hr2 sh2 ws be lv wy : Nat} {mu : Nat} {r : am_R} (hy : wy < ws) (hys : ws ≤ 4096) (hlv : lv ≤ 1000) (hc : mu < lv) (e1_ : am_EG mi_196 [.ref 66, .retAddr wy] (fm h hr sh) (none, (fm h hr2 sh2))) (e2_ : am_EG mi_198 [.ref 66] (fm h hr2 sh2) (some (.retAddr lv), (fm h hr2 sh2))) (hg : am_Good mi_194 116 [some (.ref 66), some (.retAddr k), some (.retAddr wh), some (.retAddr mo), some (.retAddr ws), some (.retAddr wy), some (.retAddr lv), some (.retAddr (wy + 1))] [] (fm h hr2 sh2) r) : am_Good mi_194 116 [some (.ref 66), some (.retAddr k), some (.retAddr wh), some (.retAddr mo), some (.retAddr ws), some (.retAddr be), some (.retAddr mu), some (.retAddr wy)] [] (fm h hr sh) r := by
  refine g_iload dd_194_116 rfl ?_
  refine g_iload dd_194_118 rfl ?_
  refine g_icmp_ge_f (t := 173) dd_194_120 (by decide) (by first | exact sk_ge_f (by omega) (by omega) | exact tk_ge_f (by omega)) ?_
  refine g_aload_n (i := 0) dd_194_123 rfl ?_
  refine g_iload dd_194_124 rfl ?_
  refine g_virtual (M' := mi_196) (n := 1) (ci := 12) (b := 66) (as := [.retAddr wy]) (st := []) (r1 := (none, (fm h hr2 sh2))) w_1352 w_1354 ps_196 ⟨lk_196.1, lk_196.2.1, lk_196.2.2, by decide, by decide⟩ rfl ((fm_o hH rfl).trans q66) rfl (by simp [Value.category]) dd_194_126 (e1_) ?_
  show am_Good mi_194 129 [some (.ref 66), some (.retAddr k), some (.retAddr wh), some (.retAddr mo), some (.retAddr ws), some (.retAddr be), some (.retAddr mu), some (.retAddr wy)] [] (fm h hr2 sh2) _
  refine g_aload_n (i := 0) dd_194_129 rfl ?_
  refine g_virtual (M' := mi_198) (n := 0) (ci := 12) (b := 66) (as := []) (st := []) (r1 := (some (.retAddr lv), (fm h hr2 sh2))) w_1360 w_1362 ps_198 ⟨lk_198.1, lk_198.2.1, lk_198.2.2, by decide, by decide⟩ rfl ((fm_o hH rfl).trans q66) rfl (by simp [Value.category]) dd_194_130 (e2_) ?_
  show am_Good mi_194 133 [some (.ref 66), some (.retAddr k), some (.retAddr wh), some (.retAddr mo), some (.retAddr ws), some (.retAddr be), some (.retAddr mu), some (.retAddr wy)] [.retAddr lv] (fm h hr2 sh2) _
  refine g_iload dd_194_133 rfl ?_
  refine g_icmp_le_f (t := 143) dd_194_135 (by decide) (by first | exact sk_le_f (by omega) (by omega) | exact tk_le_f (by omega)) ?_
  refine g_iload dd_194_138 rfl ?_
  refine g_goto (t := 145) dd_194_140 (by decide) ?_
  refine g_istore dd_194_145 (am_nlb_ok rfl) (by decide) ?_
  refine g_aload_n (i := 0) dd_194_147 rfl ?_
  refine g_virtual (M' := mi_198) (n := 0) (ci := 12) (b := 66) (as := []) (st := []) (r1 := (some (.retAddr lv), (fm h hr2 sh2))) w_1360 w_1362 ps_198 ⟨lk_198.1, lk_198.2.1, lk_198.2.2, by decide, by decide⟩ rfl ((fm_o hH rfl).trans q66) rfl (by simp [Value.category]) dd_194_148 (e2_) ?_
  show am_Good mi_194 151 [some (.ref 66), some (.retAddr k), some (.retAddr wh), some (.retAddr mo), some (.retAddr ws), some (.retAddr wy), some (.retAddr mu), some (.retAddr wy)] [.retAddr lv] (fm h hr2 sh2) _
  refine g_iload dd_194_151 rfl ?_
  refine g_icmp_le_f (t := 163) dd_194_153 (by decide) (by first | exact sk_le_f (by omega) (by omega) | exact tk_le_f (by omega)) ?_
  refine g_aload_n (i := 0) dd_194_156 rfl ?_
  refine g_virtual (M' := mi_198) (n := 0) (ci := 12) (b := 66) (as := []) (st := []) (r1 := (some (.retAddr lv), (fm h hr2 sh2))) w_1360 w_1362 ps_198 ⟨lk_198.1, lk_198.2.1, lk_198.2.2, by decide, by decide⟩ rfl ((fm_o hH rfl).trans q66) rfl (by simp [Value.category]) dd_194_157 (e2_) ?_
  show am_Good mi_194 160 [some (.ref 66), some (.retAddr k), some (.retAddr wh), some (.retAddr mo), some (.retAddr ws), some (.retAddr wy), some (.retAddr mu), some (.retAddr wy)] [.retAddr lv] (fm h hr2 sh2) _
  refine g_goto (t := 165) dd_194_160 (by decide) ?_
  refine g_istore dd_194_165 (am_nlb_ok rfl) (by decide) ?_
  refine e_iinc (v := 1) (w := wy + 1) dd_194_167 rfl ic_1 (am_nlb_ok rfl) (by decide) (by omega) ?_
  refine g_goto (t := 116) dd_194_170 (by decide) ?_
  exact hg
theorem su_k {h : am_H} (hH : fm_ok h) {mi go w y c1 : Nat} {vs : List Value} (q66 : am_get h 66 = some (.inr (12, vs))) (f0 : vs[0]? = some (.retAddr mi)) (f1 : vs[1]? = some (.retAddr go)) (f12 : vs[12]? = some (.retAddr w)) (f13 : vs[13]? = some (.ref 72)) (f32 : vs[32]? = some (.ref 81)) (f51 : vs[51]? = some (.ref 90)) (f52 : vs[52]? = some (.ref 91)) (a72 : am_get h 72 = some (.inl (0, 8, y))) (a81 : am_get h 81 = some (.inl (0, 256, c1))) (hm1 : 1 ≤ mi) (hm : mi ≤ 60) (hgo : go ≤ 3) (hw1 : 1 ≤ w) (hw : w ≤ 4) (ho4 : ∀ i, i < w → am_ag y (2 * i + 1) < 4) (h99 : ∀ s t, s < 4 → t < 60 → am_ag c1 (64 * s + t) ≤ 99) {hr sh : Nat} {k wh mo : Nat} {hr2 sh2 ws be lv wy : Nat} {mu : Nat} {r : am_R} (hy : wy < ws) (hys : ws ≤ 4096) (hlv : lv ≤ 1000) (hc : ¬ mu < lv) (hl : mu ≤ 1000) (e1_ : am_EG mi_196 [.ref 66, .retAddr wy] (fm h hr sh) (none, (fm h hr2 sh2))) (e2_ : am_EG mi_198 [.ref 66] (fm h hr2 sh2) (some (.retAddr lv), (fm h hr2 sh2))) (hg : am_Good mi_194 116 [some (.ref 66), some (.retAddr k), some (.retAddr wh), some (.retAddr mo), some (.retAddr ws), some (.retAddr be), some (.retAddr mu), some (.retAddr (wy + 1))] [] (fm h hr2 sh2) r) : am_Good mi_194 116 [some (.ref 66), some (.retAddr k), some (.retAddr wh), some (.retAddr mo), some (.retAddr ws), some (.retAddr be), some (.retAddr mu), some (.retAddr wy)] [] (fm h hr sh) r := by
  refine g_iload dd_194_116 rfl ?_
  refine g_iload dd_194_118 rfl ?_
  refine g_icmp_ge_f (t := 173) dd_194_120 (by decide) (by first | exact sk_ge_f (by omega) (by omega) | exact tk_ge_f (by omega)) ?_
  refine g_aload_n (i := 0) dd_194_123 rfl ?_
  refine g_iload dd_194_124 rfl ?_
  refine g_virtual (M' := mi_196) (n := 1) (ci := 12) (b := 66) (as := [.retAddr wy]) (st := []) (r1 := (none, (fm h hr2 sh2))) w_1352 w_1354 ps_196 ⟨lk_196.1, lk_196.2.1, lk_196.2.2, by decide, by decide⟩ rfl ((fm_o hH rfl).trans q66) rfl (by simp [Value.category]) dd_194_126 (e1_) ?_
  show am_Good mi_194 129 [some (.ref 66), some (.retAddr k), some (.retAddr wh), some (.retAddr mo), some (.retAddr ws), some (.retAddr be), some (.retAddr mu), some (.retAddr wy)] [] (fm h hr2 sh2) _
  refine g_aload_n (i := 0) dd_194_129 rfl ?_
  refine g_virtual (M' := mi_198) (n := 0) (ci := 12) (b := 66) (as := []) (st := []) (r1 := (some (.retAddr lv), (fm h hr2 sh2))) w_1360 w_1362 ps_198 ⟨lk_198.1, lk_198.2.1, lk_198.2.2, by decide, by decide⟩ rfl ((fm_o hH rfl).trans q66) rfl (by simp [Value.category]) dd_194_130 (e2_) ?_
  show am_Good mi_194 133 [some (.ref 66), some (.retAddr k), some (.retAddr wh), some (.retAddr mo), some (.retAddr ws), some (.retAddr be), some (.retAddr mu), some (.retAddr wy)] [.retAddr lv] (fm h hr2 sh2) _
  refine g_iload dd_194_133 rfl ?_
  refine g_icmp_le_t (t := 143) dd_194_135 (by decide) (by first | exact sk_le_t (by omega) (by omega) | exact tk_le_t (by omega)) ?_
  refine g_iload dd_194_143 rfl ?_
  refine g_istore dd_194_145 (am_nlb_ok rfl) (by decide) ?_
  refine g_aload_n (i := 0) dd_194_147 rfl ?_
  refine g_virtual (M' := mi_198) (n := 0) (ci := 12) (b := 66) (as := []) (st := []) (r1 := (some (.retAddr lv), (fm h hr2 sh2))) w_1360 w_1362 ps_198 ⟨lk_198.1, lk_198.2.1, lk_198.2.2, by decide, by decide⟩ rfl ((fm_o hH rfl).trans q66) rfl (by simp [Value.category]) dd_194_148 (e2_) ?_
  show am_Good mi_194 151 [some (.ref 66), some (.retAddr k), some (.retAddr wh), some (.retAddr mo), some (.retAddr ws), some (.retAddr be), some (.retAddr mu), some (.retAddr wy)] [.retAddr lv] (fm h hr2 sh2) _
  refine g_iload dd_194_151 rfl ?_
  refine g_icmp_le_t (t := 163) dd_194_153 (by decide) (by first | exact sk_le_t (by omega) (by omega) | exact tk_le_t (by omega)) ?_
  refine g_iload dd_194_163 rfl ?_
  refine g_istore dd_194_165 (am_nlb_ok rfl) (by decide) ?_
  refine e_iinc (v := 1) (w := wy + 1) dd_194_167 rfl ic_1 (am_nlb_ok rfl) (by decide) (by omega) ?_
  refine g_goto (t := 116) dd_194_170 (by decide) ?_
  exact hg
theorem su_e0 {h : am_H} (hH : fm_ok h) {mi go w y c1 : Nat} {vs : List Value} (q66 : am_get h 66 = some (.inr (12, vs))) (f0 : vs[0]? = some (.retAddr mi)) (f1 : vs[1]? = some (.retAddr go)) (f12 : vs[12]? = some (.retAddr w)) (f13 : vs[13]? = some (.ref 72)) (f32 : vs[32]? = some (.ref 81)) (f51 : vs[51]? = some (.ref 90)) (f52 : vs[52]? = some (.ref 91)) (a72 : am_get h 72 = some (.inl (0, 8, y))) (a81 : am_get h 81 = some (.inl (0, 256, c1))) (hm1 : 1 ≤ mi) (hm : mi ≤ 60) (hgo : go ≤ 3) (hw1 : 1 ≤ w) (hw : w ≤ 4) (ho4 : ∀ i, i < w → am_ag y (2 * i + 1) < 4) (h99 : ∀ s t, s < 4 → t < 60 → am_ag c1 (64 * s + t) ≤ 99) {hr sh : Nat} {k wh mo : Nat} {hr2 sh2 ws be mu : Nat} (hys : ws ≤ 4096) (h0 : wh = 0) (e1_ : am_EG mi_196 [.ref 66, .retAddr be] (fm h hr sh) (none, (fm h hr2 sh2))) : am_Good mi_194 116 [some (.ref 66), some (.retAddr k), some (.retAddr wh), some (.retAddr mo), some (.retAddr ws), some (.retAddr be), some (.retAddr mu), some (.retAddr ws)] [] (fm h hr sh) (some (.retAddr (mu)), (fm h hr2 sh2)) := by
  refine g_iload dd_194_116 rfl ?_
  refine g_iload dd_194_118 rfl ?_
  refine g_icmp_ge_t (t := 173) dd_194_120 (by decide) (by first | exact sk_ge_t (by omega) (by omega) | exact tk_ge_t (by omega)) ?_
  refine g_aload_n (i := 0) dd_194_173 rfl ?_
  refine g_iload dd_194_174 rfl ?_
  refine g_virtual (M' := mi_196) (n := 1) (ci := 12) (b := 66) (as := [.retAddr be]) (st := []) (r1 := (none, (fm h hr2 sh2))) w_1352 w_1354 ps_196 ⟨lk_196.1, lk_196.2.1, lk_196.2.2, by decide, by decide⟩ rfl ((fm_o hH rfl).trans q66) rfl (by simp [Value.category]) dd_194_176 (e1_) ?_
  show am_Good mi_194 179 [some (.ref 66), some (.retAddr k), some (.retAddr wh), some (.retAddr mo), some (.retAddr ws), some (.retAddr be), some (.retAddr mu), some (.retAddr ws)] [] (fm h hr2 sh2) _
  refine g_iload_n (i := 2) dd_194_179 rfl ?_
  refine g_if_ne_f (t := 188) dd_194_180 (by decide) (tk_ne_f (by omega)) ?_
  refine g_iload dd_194_183 rfl ?_
  refine g_goto (t := 217) dd_194_185 (by decide) ?_
  exact g_ireturn rfl dd_194_217
theorem su_e1 {h : am_H} (hH : fm_ok h) {mi go w y c1 : Nat} {vs : List Value} (q66 : am_get h 66 = some (.inr (12, vs))) (f0 : vs[0]? = some (.retAddr mi)) (f1 : vs[1]? = some (.retAddr go)) (f12 : vs[12]? = some (.retAddr w)) (f13 : vs[13]? = some (.ref 72)) (f32 : vs[32]? = some (.ref 81)) (f51 : vs[51]? = some (.ref 90)) (f52 : vs[52]? = some (.ref 91)) (a72 : am_get h 72 = some (.inl (0, 8, y))) (a81 : am_get h 81 = some (.inl (0, 256, c1))) (hm1 : 1 ≤ mi) (hm : mi ≤ 60) (hgo : go ≤ 3) (hw1 : 1 ≤ w) (hw : w ≤ 4) (ho4 : ∀ i, i < w → am_ag y (2 * i + 1) < 4) (h99 : ∀ s t, s < 4 → t < 60 → am_ag c1 (64 * s + t) ≤ 99) {hr sh : Nat} {k wh mo : Nat} {hr2 sh2 ws be mu : Nat} (hys : ws ≤ 4096) (h0 : wh = 1) (hk : k < 6) (e1_ : am_EG mi_196 [.ref 66, .retAddr be] (fm h hr sh) (none, (fm h hr2 sh2))) : am_Good mi_194 116 [some (.ref 66), some (.retAddr k), some (.retAddr wh), some (.retAddr mo), some (.retAddr ws), some (.retAddr be), some (.retAddr mu), some (.retAddr ws)] [] (fm h hr sh) (some (.retAddr (am_ag hr2 k)), (fm h hr2 sh2)) := by
  refine g_iload dd_194_116 rfl ?_
  refine g_iload dd_194_118 rfl ?_
  refine g_icmp_ge_t (t := 173) dd_194_120 (by decide) (by first | exact sk_ge_t (by omega) (by omega) | exact tk_ge_t (by omega)) ?_
  refine g_aload_n (i := 0) dd_194_173 rfl ?_
  refine g_iload dd_194_174 rfl ?_
  refine g_virtual (M' := mi_196) (n := 1) (ci := 12) (b := 66) (as := [.retAddr be]) (st := []) (r1 := (none, (fm h hr2 sh2))) w_1352 w_1354 ps_196 ⟨lk_196.1, lk_196.2.1, lk_196.2.2, by decide, by decide⟩ rfl ((fm_o hH rfl).trans q66) rfl (by simp [Value.category]) dd_194_176 (e1_) ?_
  show am_Good mi_194 179 [some (.ref 66), some (.retAddr k), some (.retAddr wh), some (.retAddr mo), some (.retAddr ws), some (.retAddr be), some (.retAddr mu), some (.retAddr ws)] [] (fm h hr2 sh2) _
  refine g_iload_n (i := 2) dd_194_179 rfl ?_
  refine g_if_ne_t (t := 188) dd_194_180 (by decide) (tk_ne_t (by omega)) ?_
  refine g_iload_n (i := 2) dd_194_188 rfl ?_
  refine g_iconst dd_194_189 ic_1 ?_
  refine g_icmp_ne_f (t := 202) dd_194_190 (by decide) (tk_ne_f (by omega)) ?_
  refine g_aload_n (i := 0) dd_194_193 rfl ?_
  refine g_getfield (k := 51) am_ck12 (by decide) (Or.inl w_986) dd_194_194 ((fm_o hH rfl).trans q66) f51 ?_
  refine g_iload_n (i := 1) dd_194_197 rfl ?_
  refine g_iaload dd_194_198 (fm_g90 hH) (by omega) (by decide) ?_
  have hl_1 := am_ag_lt hr2 k
  refine g_goto (t := 217) dd_194_199 (by decide) ?_
  exact g_ireturn rfl dd_194_217
theorem su_e2 {h : am_H} (hH : fm_ok h) {mi go w y c1 : Nat} {vs : List Value} (q66 : am_get h 66 = some (.inr (12, vs))) (f0 : vs[0]? = some (.retAddr mi)) (f1 : vs[1]? = some (.retAddr go)) (f12 : vs[12]? = some (.retAddr w)) (f13 : vs[13]? = some (.ref 72)) (f32 : vs[32]? = some (.ref 81)) (f51 : vs[51]? = some (.ref 90)) (f52 : vs[52]? = some (.ref 91)) (a72 : am_get h 72 = some (.inl (0, 8, y))) (a81 : am_get h 81 = some (.inl (0, 256, c1))) (hm1 : 1 ≤ mi) (hm : mi ≤ 60) (hgo : go ≤ 3) (hw1 : 1 ≤ w) (hw : w ≤ 4) (ho4 : ∀ i, i < w → am_ag y (2 * i + 1) < 4) (h99 : ∀ s t, s < 4 → t < 60 → am_ag c1 (64 * s + t) ≤ 99) {hr sh : Nat} {k wh mo : Nat} {hr2 sh2 ws be mu : Nat} (hys : ws ≤ 4096) (h0 : ¬ wh = 0) (h1 : ¬ wh = 1) (h2 : wh ≤ 2) (hk : k < w) (e1_ : am_EG mi_196 [.ref 66, .retAddr be] (fm h hr sh) (none, (fm h hr2 sh2))) : am_Good mi_194 116 [some (.ref 66), some (.retAddr k), some (.retAddr wh), some (.retAddr mo), some (.retAddr ws), some (.retAddr be), some (.retAddr mu), some (.retAddr ws)] [] (fm h hr sh) (some (.retAddr (am_ag sh2 (am_ag y (2 * k + 1)))), (fm h hr2 sh2)) := by
  have o4 := ho4 k hk
  refine g_iload dd_194_116 rfl ?_
  refine g_iload dd_194_118 rfl ?_
  refine g_icmp_ge_t (t := 173) dd_194_120 (by decide) (by first | exact sk_ge_t (by omega) (by omega) | exact tk_ge_t (by omega)) ?_
  refine g_aload_n (i := 0) dd_194_173 rfl ?_
  refine g_iload dd_194_174 rfl ?_
  refine g_virtual (M' := mi_196) (n := 1) (ci := 12) (b := 66) (as := [.retAddr be]) (st := []) (r1 := (none, (fm h hr2 sh2))) w_1352 w_1354 ps_196 ⟨lk_196.1, lk_196.2.1, lk_196.2.2, by decide, by decide⟩ rfl ((fm_o hH rfl).trans q66) rfl (by simp [Value.category]) dd_194_176 (e1_) ?_
  show am_Good mi_194 179 [some (.ref 66), some (.retAddr k), some (.retAddr wh), some (.retAddr mo), some (.retAddr ws), some (.retAddr be), some (.retAddr mu), some (.retAddr ws)] [] (fm h hr2 sh2) _
  refine g_iload_n (i := 2) dd_194_179 rfl ?_
  refine g_if_ne_t (t := 188) dd_194_180 (by decide) (tk_ne_t (by omega)) ?_
  refine g_iload_n (i := 2) dd_194_188 rfl ?_
  refine g_iconst dd_194_189 ic_1 ?_
  refine g_icmp_ne_t (t := 202) dd_194_190 (by decide) (tk_ne_t (by omega)) ?_
  refine g_aload_n (i := 0) dd_194_202 rfl ?_
  refine g_getfield (k := 52) am_ck12 (by decide) (Or.inl w_987) dd_194_203 ((fm_o hH rfl).trans q66) f52 ?_
  refine g_aload_n (i := 0) dd_194_206 rfl ?_
  refine g_getfield (k := 13) am_ck12 (by decide) (Or.inl w_948) dd_194_207 ((fm_o hH rfl).trans q66) f13 ?_
  refine g_iconst dd_194_210 ic_2 ?_
  refine g_iload_n (i := 1) dd_194_211 rfl ?_
  refine e_imul (v := 2 * k) dd_194_212 (by omega) ?_
  refine g_iconst dd_194_213 ic_1 ?_
  refine e_iadd (v := 2 * k + 1) dd_194_214 (by omega) ?_
  refine g_iaload dd_194_215 ((fm_o hH rfl).trans a72) (by omega) (by decide) ?_
  have hl_1 := am_ag_lt y (2 * k + 1)
  refine g_iaload dd_194_216 (fm_g91 hH) (by omega) (by decide) ?_
  have hl_2 := am_ag_lt sh2 (am_ag y (2 * k + 1))
  exact g_ireturn rfl dd_194_217
theorem fa_w_9 {fw : Nat → Nat → Nat} {mi go w way s tn : Nat} {own : Nat → Nat} (hw : 1 ≤ w) (h9 : ∀ i, i < w → ∀ t, t < mi → fw (own i) t ≤ 9) (t6 : tn ≤ 6) : fa_w fw mi go (fun r => own (fa_d w tn way r)) s tn ≤ 1000 := by
  by_cases c : ∃ r, r < tn ∧ own (fa_d w tn way r) = s
  · obtain ⟨r, hr, hs⟩ := c
    have q := fa_w_le (fw := fw) (mi := mi) (go := go) (s := s) (on := fun r => own (fa_d w tn way r)) (M := 9) (fun t ht => by
      rw [← hs]
      exact h9 _ (fa_d_lt (by omega)) t ht) tn
    omega
  · have z : ∀ n, n ≤ tn → fa_w fw mi go (fun r => own (fa_d w tn way r)) s n = 0 := fun n => by
      induction n with
      | zero => exact fun _ => rfl
      | succ n ih =>
        intro hn
        show (if own (fa_d w tn way n) = s then _ else _) = 0
        rw [if_neg (fun h => c ⟨n, by omega, h⟩)]
        exact ih (by omega)
    rw [z tn (Nat.le_refl _)]
    exact Nat.zero_le _
theorem su_l {h : am_H} (hH : fm_ok h) {mi go w y c1 : Nat} {vs : List Value} (q66 : am_get h 66 = some (.inr (12, vs))) (f0 : vs[0]? = some (.retAddr mi)) (f1 : vs[1]? = some (.retAddr go)) (f12 : vs[12]? = some (.retAddr w)) (f13 : vs[13]? = some (.ref 72)) (f32 : vs[32]? = some (.ref 81)) (f51 : vs[51]? = some (.ref 90)) (f52 : vs[52]? = some (.ref 91)) (a72 : am_get h 72 = some (.inl (0, 8, y))) (a81 : am_get h 81 = some (.inl (0, 256, c1))) (hm1 : 1 ≤ mi) (hm : mi ≤ 60) (hgo : go ≤ 3) (hw1 : 1 ≤ w) (hw : w ≤ 4) (ho4 : ∀ i, i < w → am_ag y (2 * i + 1) < 4) (h99 : ∀ s t, s < 4 → t < 60 → am_ag c1 (64 * s + t) ≤ 99) {k wh mo : Nat} (h9 : ∀ i, i < w → ∀ t, t < mi → am_ag c1 (64 * am_ag y (2 * i + 1) + t) ≤ 9) (hi : wh ≤ 2) (hk1 : wh = 1 → k < fa_tn mi) (hk2 : wh = 2 → k < w) : ∀ (f wy hr sh be mu : Nat), wy + f = w ^ fa_tn mi → (∀ r, r < 6 → am_ag hr r ≤ 3) → ((wy = 0 ∧ mu = 4294967295 ∧ be = 0) ∨ (0 < wy ∧ be = fa_b (fa_L (fun s t => am_ag c1 (64 * s + t)) mi go w (fun i => am_ag y (2 * i + 1))) wy ∧ mu = (fa_L (fun s t => am_ag c1 (64 * s + t)) mi go w (fun i => am_ag y (2 * i + 1))) be)) → ∃ hr' sh', (∀ r, r < 6 → am_ag hr' r ≤ 3) ∧ am_Good mi_194 116 [some (.ref 66), some (.retAddr k), some (.retAddr wh), some (.retAddr mo), some (.retAddr (w ^ fa_tn mi)), some (.retAddr be), some (.retAddr mu), some (.retAddr wy)] [] (fm h hr sh) (some (.retAddr (if wh = 0 then (fa_L (fun s t => am_ag c1 (64 * s + t)) mi go w (fun i => am_ag y (2 * i + 1))) (fa_b (fa_L (fun s t => am_ag c1 (64 * s + t)) mi go w (fun i => am_ag y (2 * i + 1))) (w ^ fa_tn mi)) else if wh = 1 then fa_d w (fa_tn mi) (fa_b (fa_L (fun s t => am_ag c1 (64 * s + t)) mi go w (fun i => am_ag y (2 * i + 1))) (w ^ fa_tn mi)) k else fa_w (fun s t => am_ag c1 (64 * s + t)) mi go (fun r => (fun i => am_ag y (2 * i + 1)) (fa_d w (fa_tn mi) (fa_b (fa_L (fun s t => am_ag c1 (64 * s + t)) mi go w (fun i => am_ag y (2 * i + 1))) (w ^ fa_tn mi)) r)) ((fun i => am_ag y (2 * i + 1)) k) (fa_tn mi))), (fm h (hr') (sh')))
  | 0, wy, hr, sh, be, mu, e, h3, hI => by
    have w1 : 0 < w ^ fa_tn mi := Nat.pow_pos (by omega)
    obtain ⟨t1, t6, -⟩ := fa_t6 hm1 hm
    have p46 := fa_pw (w := w) (tn := fa_tn mi) hw t6
    have e' : wy = w ^ fa_tn mi := by omega
    rcases hI with ⟨z, -, -⟩ | ⟨-, hb, hmu⟩
    · omega
    · rw [e'] at hb
      have bl := fa_b_lt (L := (fa_L (fun s t => am_ag c1 (64 * s + t)) mi go w (fun i => am_ag y (2 * i + 1)))) w1
      obtain ⟨hr', sh', p1, p2, p3, q⟩ := sx_m hH q66 f0 f1 f12 f13 f32 f51 f52 a72 a81 hm1 hm hgo hw1 hw ho4 h99 (hr := hr) (sh := sh) (way := be) (by rw [hb]; exact bl) h3
      refine ⟨hr', sh', p2, ?_⟩
      rw [e']
      by_cases c0 : wh = 0
      · rw [if_pos c0, ← hb, ← hmu]
        exact su_e0 hH q66 f0 f1 f12 f13 f32 f51 f52 a72 a81 hm1 hm hgo hw1 hw ho4 h99 p46 c0 q
      · rw [if_neg c0]
        by_cases c1_ : wh = 1
        · rw [if_pos c1_, ← hb, ← p1 k (hk1 c1_)]
          exact su_e1 hH q66 f0 f1 f12 f13 f32 f51 f52 a72 a81 hm1 hm hgo hw1 hw ho4 h99 p46 c1_ (by have := hk1 c1_; omega) q
        · have kw := hk2 (by omega)
          have s4 : (fun i => am_ag y (2 * i + 1)) k < 4 := ho4 k kw
          rw [if_neg c1_, ← hb, ← p3 _ s4]
          exact su_e2 hH q66 f0 f1 f12 f13 f32 f51 f52 a72 a81 hm1 hm hgo hw1 hw ho4 h99 p46 c0 c1_ hi kw q
  | f + 1, wy, hr, sh, be, mu, e, h3, hI => by
    obtain ⟨t1, t6, -⟩ := fa_t6 hm1 hm
    have p46 := fa_pw (w := w) (tn := fa_tn mi) hw t6
    obtain ⟨hr2, sh2, p1, p2, p3, q⟩ := sx_m hH q66 f0 f1 f12 f13 f32 f51 f52 a72 a81 hm1 hm hgo hw1 hw ho4 h99 (hr := hr) (sh := sh) (way := wy) (by omega) h3
    have bd : ∀ s, s < 4 → am_ag sh2 s ≤ 1000 := fun s h4 => by
      rw [p3 s h4]
      exact fa_w_9 (fw := (fun s t => am_ag c1 (64 * s + t))) (own := (fun i => am_ag y (2 * i + 1))) hw1 h9 t6
    have e2 := sw_m hH q66 f0 f1 f12 f13 f32 f51 f52 a72 a81 hm1 hm hgo hw1 hw ho4 h99 (hr := hr2) (sh := sh2) bd
    have eL : fa_m (fun i => am_ag sh2 (am_ag y (2 * i + 1))) 1000 w = (fa_L (fun s t => am_ag c1 (64 * s + t)) mi go w (fun i => am_ag y (2 * i + 1))) wy := by
      unfold fa_L
      exact fa_m_cg (fun i hi => p3 _ (ho4 i hi))
    rw [eL] at e2
    have lb : (fa_L (fun s t => am_ag c1 (64 * s + t)) mi go w (fun i => am_ag y (2 * i + 1))) wy ≤ 1000 := fa_L_le
    have bs : fa_b (fa_L (fun s t => am_ag c1 (64 * s + t)) mi go w (fun i => am_ag y (2 * i + 1))) (wy + 1) = if (fa_L (fun s t => am_ag c1 (64 * s + t)) mi go w (fun i => am_ag y (2 * i + 1))) (fa_b (fa_L (fun s t => am_ag c1 (64 * s + t)) mi go w (fun i => am_ag y (2 * i + 1))) wy) < (fa_L (fun s t => am_ag c1 (64 * s + t)) mi go w (fun i => am_ag y (2 * i + 1))) wy then wy else fa_b (fa_L (fun s t => am_ag c1 (64 * s + t)) mi go w (fun i => am_ag y (2 * i + 1))) wy := rfl
    rcases hI with ⟨z, hmu, hbe⟩ | ⟨z, hb, hmu⟩
    · have b0 : fa_b (fa_L (fun s t => am_ag c1 (64 * s + t)) mi go w (fun i => am_ag y (2 * i + 1))) (wy + 1) = wy := by
        rw [bs]
        subst z
        by_cases c : (fa_L (fun s t => am_ag c1 (64 * s + t)) mi go w (fun i => am_ag y (2 * i + 1))) (fa_b (fa_L (fun s t => am_ag c1 (64 * s + t)) mi go w (fun i => am_ag y (2 * i + 1))) 0) < (fa_L (fun s t => am_ag c1 (64 * s + t)) mi go w (fun i => am_ag y (2 * i + 1))) 0
        · rw [if_pos c]
        · rw [if_neg c]; rfl
      obtain ⟨hr', sh', g1, g⟩ := su_l hH q66 f0 f1 f12 f13 f32 f51 f52 a72 a81 hm1 hm hgo hw1 hw ho4 h99 h9 hi hk1 hk2 f (wy + 1) hr2 sh2 wy ((fa_L (fun s t => am_ag c1 (64 * s + t)) mi go w (fun i => am_ag y (2 * i + 1))) wy) (by omega) p2 (Or.inr ⟨by omega, b0.symm, rfl⟩)
      rw [hmu]
      exact ⟨hr', sh', g1, su_n hH q66 f0 f1 f12 f13 f32 f51 f52 a72 a81 hm1 hm hgo hw1 hw ho4 h99 (by omega) p46 lb q e2 g⟩
    · by_cases c : (fa_L (fun s t => am_ag c1 (64 * s + t)) mi go w (fun i => am_ag y (2 * i + 1))) (fa_b (fa_L (fun s t => am_ag c1 (64 * s + t)) mi go w (fun i => am_ag y (2 * i + 1))) wy) < (fa_L (fun s t => am_ag c1 (64 * s + t)) mi go w (fun i => am_ag y (2 * i + 1))) wy
      · have b0 : fa_b (fa_L (fun s t => am_ag c1 (64 * s + t)) mi go w (fun i => am_ag y (2 * i + 1))) (wy + 1) = wy := by rw [bs, if_pos c]
        obtain ⟨hr', sh', g1, g⟩ := su_l hH q66 f0 f1 f12 f13 f32 f51 f52 a72 a81 hm1 hm hgo hw1 hw ho4 h99 h9 hi hk1 hk2 f (wy + 1) hr2 sh2 wy ((fa_L (fun s t => am_ag c1 (64 * s + t)) mi go w (fun i => am_ag y (2 * i + 1))) wy) (by omega) p2 (Or.inr ⟨by omega, b0.symm, rfl⟩)
        exact ⟨hr', sh', g1, su_b hH q66 f0 f1 f12 f13 f32 f51 f52 a72 a81 hm1 hm hgo hw1 hw ho4 h99 (by omega) p46 lb (by rw [hmu, hb]; exact c) q e2 g⟩
      · have b0 : fa_b (fa_L (fun s t => am_ag c1 (64 * s + t)) mi go w (fun i => am_ag y (2 * i + 1))) (wy + 1) = be := by rw [bs, if_neg c, hb]
        obtain ⟨hr', sh', g1, g⟩ := su_l hH q66 f0 f1 f12 f13 f32 f51 f52 a72 a81 hm1 hm hgo hw1 hw ho4 h99 h9 hi hk1 hk2 f (wy + 1) hr2 sh2 be mu (by omega) p2 (Or.inr ⟨by omega, b0.symm, hmu⟩)
        exact ⟨hr', sh', g1, su_k hH q66 f0 f1 f12 f13 f32 f51 f52 a72 a81 hm1 hm hgo hw1 hw ho4 h99 (by omega) p46 lb (by rw [hmu, hb]; exact c) (by rw [hmu]; exact fa_L_le) q e2 g⟩
theorem su_m {h : am_H} (hH : fm_ok h) {mi go w y c1 : Nat} {vs : List Value} (q66 : am_get h 66 = some (.inr (12, vs))) (f0 : vs[0]? = some (.retAddr mi)) (f1 : vs[1]? = some (.retAddr go)) (f12 : vs[12]? = some (.retAddr w)) (f13 : vs[13]? = some (.ref 72)) (f32 : vs[32]? = some (.ref 81)) (f51 : vs[51]? = some (.ref 90)) (f52 : vs[52]? = some (.ref 91)) (a72 : am_get h 72 = some (.inl (0, 8, y))) (a81 : am_get h 81 = some (.inl (0, 256, c1))) (hm1 : 1 ≤ mi) (hm : mi ≤ 60) (hgo : go ≤ 3) (hw1 : 1 ≤ w) (hw : w ≤ 4) (ho4 : ∀ i, i < w → am_ag y (2 * i + 1) < 4) (h99 : ∀ s t, s < 4 → t < 60 → am_ag c1 (64 * s + t) ≤ 99) {hr sh k wh mo : Nat} (h9 : ∀ i, i < w → ∀ t, t < mi → am_ag c1 (64 * am_ag y (2 * i + 1) + t) ≤ 9) (hi : wh ≤ 2) (hk1 : wh = 1 → k < fa_tn mi) (hk2 : wh = 2 → k < w) (h3 : ∀ r, r < 6 → am_ag hr r ≤ 3) : ∃ hr' sh', (∀ r, r < 6 → am_ag hr' r ≤ 3) ∧ am_Good mi_194 77 [some (.ref 66), some (.retAddr k), some (.retAddr wh), some (.retAddr mo), none, none, none, none] [] (fm h hr sh) (some (.retAddr (if wh = 0 then (fa_L (fun s t => am_ag c1 (64 * s + t)) mi go w (fun i => am_ag y (2 * i + 1))) (fa_b (fa_L (fun s t => am_ag c1 (64 * s + t)) mi go w (fun i => am_ag y (2 * i + 1))) (w ^ fa_tn mi)) else if wh = 1 then fa_d w (fa_tn mi) (fa_b (fa_L (fun s t => am_ag c1 (64 * s + t)) mi go w (fun i => am_ag y (2 * i + 1))) (w ^ fa_tn mi)) k else fa_w (fun s t => am_ag c1 (64 * s + t)) mi go (fun r => (fun i => am_ag y (2 * i + 1)) (fa_d w (fa_tn mi) (fa_b (fa_L (fun s t => am_ag c1 (64 * s + t)) mi go w (fun i => am_ag y (2 * i + 1))) (w ^ fa_tn mi)) r)) ((fun i => am_ag y (2 * i + 1)) k) (fa_tn mi))), (fm h (hr') (sh'))) := by
  obtain ⟨hr', sh', g1, g⟩ := su_l hH q66 f0 f1 f12 f13 f32 f51 f52 a72 a81 hm1 hm hgo hw1 hw ho4 h99 (mo := mo) h9 hi hk1 hk2 (w ^ fa_tn mi) 0 hr sh 0 4294967295 (by omega) h3 (Or.inl ⟨rfl, rfl, rfl⟩)
  exact ⟨hr', sh', g1, su_0 hH q66 f0 f1 f12 f13 f32 f51 f52 a72 a81 hm1 hm hgo hw1 hw ho4 h99 (su_x hH q66 f0 f1 f12 f13 f32 f51 f52 a72 a81 hm1 hm hgo hw1 hw ho4 h99 g)⟩
