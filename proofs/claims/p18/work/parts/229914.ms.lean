/-! ===== the reference: screens ===== -/
def ms (h : am_H)  (w f b : Nat) : am_H := am_ups h [(81, .inl (0, 256, w)), (82, .inl (0, 256, f)), (83, .inl (2, 256, b))]
def ms_ok (h : am_H) : Prop := am_ke h [81, 82, 83]
theorem ms_g81 {h : am_H}  {w f b : Nat} (hH : ms_ok h) : am_get (ms h  w f b) 81 = some (.inl (0, 256, w)) := am_ups_g hH rfl
theorem ms_u81 {h : am_H}  {w f b : Nat} (hH : ms_ok h) {w' : Nat} : am_upd (ms h  w f b) 81 (.inl (0, 256, w')) = (ms h  w' f b) := by
  unfold ms
  refine am_upd_ups ?_ ⟨rfl, rfl⟩
  exact hH
theorem ms_g82 {h : am_H}  {w f b : Nat} (hH : ms_ok h) : am_get (ms h  w f b) 82 = some (.inl (0, 256, f)) := am_ups_g hH rfl
theorem ms_u82 {h : am_H}  {w f b : Nat} (hH : ms_ok h) {f' : Nat} : am_upd (ms h  w f b) 82 (.inl (0, 256, f')) = (ms h  w f' b) := by
  unfold ms
  refine am_upd_ups ?_ ⟨rfl, rfl⟩
  exact hH
theorem ms_g83 {h : am_H}  {w f b : Nat} (hH : ms_ok h) : am_get (ms h  w f b) 83 = some (.inl (2, 256, b)) := am_ups_g hH rfl
theorem ms_u83 {h : am_H}  {w f b : Nat} (hH : ms_ok h) {b' : Nat} : am_upd (ms h  w f b) 83 (.inl (2, 256, b')) = (ms h  w f b') := by
  unfold ms
  refine am_upd_ups ?_ ⟨rfl, rfl⟩
  exact hH
theorem ms_o {h : am_H}  {w f b : Nat} (hH : ms_ok h) {a : Nat} (ha : am_lk [(81, am_e0), (82, am_e0), (83, am_e0)] a = none) : am_get (ms h  w f b) a = am_get h a := by
  unfold ms
  refine am_ups_n ?_ ?_
  · exact hH
  · exact (am_lk_k (by rfl)).mp ha
theorem ls_1 {h : am_H} {vs : List Value} {Z R : Nat → Nat} {w f b : Nat} (hH : ms_ok h) (q66 : am_get h 66 = some (.inr (12, vs))) (f2 : vs[2]? = some (.retAddr (Z 0))) (f3 : vs[3]? = some (.ref 67)) (f4 : vs[4]? = some (.retAddr (Z 1))) (f5 : vs[5]? = some (.ref 68)) (f6 : vs[6]? = some (.retAddr (Z 2))) (f7 : vs[7]? = some (.ref 69)) (f8 : vs[8]? = some (.retAddr (Z 3))) (f9 : vs[9]? = some (.ref 70)) (f32 : vs[32]? = some (.ref 81)) (f33 : vs[33]? = some (.ref 82)) (f34 : vs[34]? = some (.ref 83)) (a67 : am_get h 67 = some (.inl (0, 4, R 0))) (a68 : am_get h 68 = some (.inl (0, 45, R 1))) (a69 : am_get h 69 = some (.inl (0, 18, R 2))) (a70 : am_get h 70 = some (.inl (0, 16, R 3))) (vZ : ∀ k, k < 6 → Z k ≤ je_z k) (hB : je_B Z R) {r : am_R} {wo k : Nat} (hk : k < 256) (hg : am_Good mi_156 2 [some (.ref 66), some (.retAddr wo), some (.retAddr (k + 1)), none, none] [] (ms h (am_as w k (am_ag (R 0) (k / 64))) (am_as f k 4294967292) (am_as b k 0)) r) : am_Good mi_156 2 [some (.ref 66), some (.retAddr wo), some (.retAddr k), none, none] [] (ms h w f b) r := by
  have z0 : Z 0 ≤ 4 := vZ 0 (by decide)
  have z1 : Z 1 ≤ 9 := vZ 1 (by decide)
  have z2 : Z 2 ≤ 6 := vZ 2 (by decide)
  have z3 : Z 3 ≤ 4 := vZ 3 (by decide)
  refine g_iload_n (i := 2) dd_156_2 rfl ?_
  refine g_sipush dd_156_3 si_256 ?_
  refine g_icmp_ge_f (t := 45) dd_156_6 (by decide) (by first | exact sk_ge_f (by omega) (by omega) | exact tk_ge_f (by omega)) ?_
  refine g_aload_n (i := 0) dd_156_9 rfl ?_
  refine g_getfield (k := 32) am_ck12 (by decide) (Or.inl w_967) dd_156_10 ((ms_o hH rfl).trans q66) f32 ?_
  refine g_iload_n (i := 2) dd_156_13 rfl ?_
  refine g_aload_n (i := 0) dd_156_14 rfl ?_
  refine g_getfield (k := 3) am_ck12 (by decide) (Or.inl w_938) dd_156_15 ((ms_o hH rfl).trans q66) f3 ?_
  refine g_iload_n (i := 2) dd_156_18 rfl ?_
  refine g_bipush dd_156_19 bi_64 ?_
  refine e_idiv (v := k / 64) dd_156_21 (by omega) ?_
  refine g_iaload dd_156_22 ((ms_o hH rfl).trans a67) (by omega) (by decide) ?_
  have hl_1 := am_ag_lt (R 0) (k / 64)
  refine g_iastore dd_156_23 (ms_g81 hH) (by omega) (by decide) ?_
  refine am_heq (ms_u81 hH) ?_
  show am_Good mi_156 24 [some (.ref 66), some (.retAddr wo), some (.retAddr k), none, none] [] (ms h (am_as w k (am_ag (R 0) (k / 64))) f b) _
  refine g_aload_n (i := 0) dd_156_24 rfl ?_
  refine g_getfield (k := 33) am_ck12 (by decide) (Or.inl w_968) dd_156_25 ((ms_o hH rfl).trans q66) f33 ?_
  refine g_iload_n (i := 2) dd_156_28 rfl ?_
  refine g_bipush dd_156_29 bi_m4 ?_
  refine g_iastore dd_156_31 (ms_g82 hH) (by omega) (by decide) ?_
  refine am_heq (ms_u82 hH) ?_
  show am_Good mi_156 32 [some (.ref 66), some (.retAddr wo), some (.retAddr k), none, none] [] (ms h (am_as w k (am_ag (R 0) (k / 64))) (am_as f k 4294967292) b) _
  refine g_aload_n (i := 0) dd_156_32 rfl ?_
  refine g_getfield (k := 34) am_ck12 (by decide) (Or.inl w_969) dd_156_33 ((ms_o hH rfl).trans q66) f34 ?_
  refine g_iload_n (i := 2) dd_156_36 rfl ?_
  refine g_iconst dd_156_37 ic_0 ?_
  refine g_zastore dd_156_38 (ms_g83 hH) (by omega) (by decide) ?_
  refine am_heq (ms_u83 hH) ?_
  show am_Good mi_156 39 [some (.ref 66), some (.retAddr wo), some (.retAddr k), none, none] [] (ms h (am_as w k (am_ag (R 0) (k / 64))) (am_as f k 4294967292) (am_as b k 0)) _
  refine e_iinc (v := 1) (w := k + 1) dd_156_39 rfl ic_1 (am_nlb_ok rfl) (by decide) (by omega) ?_
  refine g_goto (t := 2) dd_156_42 (by decide) ?_
  exact hg
theorem ls_2 {h : am_H} {vs : List Value} {Z R : Nat → Nat} {w f b : Nat} (hH : ms_ok h) (q66 : am_get h 66 = some (.inr (12, vs))) (f2 : vs[2]? = some (.retAddr (Z 0))) (f3 : vs[3]? = some (.ref 67)) (f4 : vs[4]? = some (.retAddr (Z 1))) (f5 : vs[5]? = some (.ref 68)) (f6 : vs[6]? = some (.retAddr (Z 2))) (f7 : vs[7]? = some (.ref 69)) (f8 : vs[8]? = some (.retAddr (Z 3))) (f9 : vs[9]? = some (.ref 70)) (f32 : vs[32]? = some (.ref 81)) (f33 : vs[33]? = some (.ref 82)) (f34 : vs[34]? = some (.ref 83)) (a67 : am_get h 67 = some (.inl (0, 4, R 0))) (a68 : am_get h 68 = some (.inl (0, 45, R 1))) (a69 : am_get h 69 = some (.inl (0, 18, R 2))) (a70 : am_get h 70 = some (.inl (0, 16, R 3))) (vZ : ∀ k, k < 6 → Z k ≤ je_z k) (hB : je_B Z R) {r : am_R} {wo : Nat} (hg : am_Good mi_156 47 [some (.ref 66), some (.retAddr wo), some (.retAddr 0), none, none] [] (ms h w f b) r) : am_Good mi_156 2 [some (.ref 66), some (.retAddr wo), some (.retAddr 256), none, none] [] (ms h w f b) r := by
  refine g_iload_n (i := 2) dd_156_2 rfl ?_
  refine g_sipush dd_156_3 si_256 ?_
  refine g_icmp_ge_t (t := 45) dd_156_6 (by decide) (by decide) ?_
  refine g_iconst dd_156_45 ic_0 ?_
  refine g_istore_n (i := 2) dd_156_46 (am_nlb_ok rfl) (by decide) ?_
  exact hg
theorem ls_z {h : am_H} {vs : List Value} {Z R : Nat → Nat} {w f b : Nat} (hH : ms_ok h) (q66 : am_get h 66 = some (.inr (12, vs))) (f2 : vs[2]? = some (.retAddr (Z 0))) (f3 : vs[3]? = some (.ref 67)) (f4 : vs[4]? = some (.retAddr (Z 1))) (f5 : vs[5]? = some (.ref 68)) (f6 : vs[6]? = some (.retAddr (Z 2))) (f7 : vs[7]? = some (.ref 69)) (f8 : vs[8]? = some (.retAddr (Z 3))) (f9 : vs[9]? = some (.ref 70)) (f32 : vs[32]? = some (.ref 81)) (f33 : vs[33]? = some (.ref 82)) (f34 : vs[34]? = some (.ref 83)) (a67 : am_get h 67 = some (.inl (0, 4, R 0))) (a68 : am_get h 68 = some (.inl (0, 45, R 1))) (a69 : am_get h 69 = some (.inl (0, 18, R 2))) (a70 : am_get h 70 = some (.inl (0, 16, R 3))) (vZ : ∀ k, k < 6 → Z k ≤ je_z k) (hB : je_B Z R) {r : am_R} {wo : Nat} (hg : am_Good mi_156 47 [some (.ref 66), some (.retAddr wo), some (.retAddr 0), none, none] [] (ms h (zf (fun k => am_ag (R 0) (k / 64)) w 256) (zf (fun _ => 4294967292) f 256) (zf (fun _ => 0) b 256)) r) : ∀ (k i : Nat), i + k = 256 → am_Good mi_156 2 [some (.ref 66), some (.retAddr wo), some (.retAddr i), none, none] [] (ms h (zf (fun k => am_ag (R 0) (k / 64)) w i) (zf (fun _ => 4294967292) f i) (zf (fun _ => 0) b i)) r
  | 0, i, e => by
    have e' : i = 256 := by omega
    subst e'
    exact ls_2 hH q66 f2 f3 f4 f5 f6 f7 f8 f9 f32 f33 f34 a67 a68 a69 a70 vZ hB hg
  | k + 1, i, e => by
    have q := ls_z hH q66 f2 f3 f4 f5 f6 f7 f8 f9 f32 f33 f34 a67 a68 a69 a70 vZ hB hg k (i + 1) (by omega)
    exact ls_1 hH q66 f2 f3 f4 f5 f6 f7 f8 f9 f32 f33 f34 a67 a68 a69 a70 vZ hB (by omega) q
theorem ls_3a {h : am_H} {vs : List Value} {Z R : Nat → Nat} {w f b : Nat} (hH : ms_ok h) (q66 : am_get h 66 = some (.inr (12, vs))) (f2 : vs[2]? = some (.retAddr (Z 0))) (f3 : vs[3]? = some (.ref 67)) (f4 : vs[4]? = some (.retAddr (Z 1))) (f5 : vs[5]? = some (.ref 68)) (f6 : vs[6]? = some (.retAddr (Z 2))) (f7 : vs[7]? = some (.ref 69)) (f8 : vs[8]? = some (.retAddr (Z 3))) (f9 : vs[9]? = some (.ref 70)) (f32 : vs[32]? = some (.ref 81)) (f33 : vs[33]? = some (.ref 82)) (f34 : vs[34]? = some (.ref 83)) (a67 : am_get h 67 = some (.inl (0, 4, R 0))) (a68 : am_get h 68 = some (.inl (0, 45, R 1))) (a69 : am_get h 69 = some (.inl (0, 18, R 2))) (a70 : am_get h 70 = some (.inl (0, 16, R 3))) (vZ : ∀ k, k < 6 → Z k ≤ je_z k) (hB : je_B Z R) {r : am_R} {wo i j : Nat} (hwo : wo < 4294967296) (hi : i < Z 1) (hne : i ≠ wo) (hj : am_ag (R 1) (5 * i + 1) + j ≤ am_ag (R 1) (5 * i + 2)) (h8 : am_ag (R 1) (5 * i + 4) = 8) (hg : am_Good mi_156 69 [some (.ref 66), some (.retAddr wo), some (.retAddr i), some (.retAddr (5 * i)), some (.retAddr (am_ag (R 1) (5 * i + 1) + (j + 1)))] [] (ms h (am_as w (64 * am_ag (R 1) (5 * i) + (am_ag (R 1) (5 * i + 1) + j)) (am_ag (R 1) (5 * i + 3))) (am_as f (64 * am_ag (R 1) (5 * i) + (am_ag (R 1) (5 * i + 1) + j)) 4294967292) b) r) : am_Good mi_156 69 [some (.ref 66), some (.retAddr wo), some (.retAddr i), some (.retAddr (5 * i)), some (.retAddr (am_ag (R 1) (5 * i + 1) + j))] [] (ms h w f b) r := by
  have z0 : Z 0 ≤ 4 := vZ 0 (by decide)
  have z1 : Z 1 ≤ 9 := vZ 1 (by decide)
  have z2 : Z 2 ≤ 6 := vZ 2 (by decide)
  have z3 : Z 3 ≤ 4 := vZ 3 (by decide)
  have b0 : am_ag (R 1) (5 * i + 0) ≤ 3 := hB 1 (by decide) i (by omega) 0 (by decide)
  have b1 : am_ag (R 1) (5 * i + 1) ≤ 59 := hB 1 (by decide) i (by omega) 1 (by decide)
  have b2 : am_ag (R 1) (5 * i + 2) ≤ 59 := hB 1 (by decide) i (by omega) 2 (by decide)
  have b3 : am_ag (R 1) (5 * i + 3) ≤ 9 := hB 1 (by decide) i (by omega) 3 (by decide)
  have b4 : am_ag (R 1) (5 * i + 4) ≤ 8 := hB 1 (by decide) i (by omega) 4 (by decide)
  have b0 : am_ag (R 1) (5 * i) ≤ 3 := b0
  refine g_iload dd_156_69 rfl ?_
  refine g_aload_n (i := 0) dd_156_71 rfl ?_
  refine g_getfield (k := 5) am_ck12 (by decide) (Or.inl w_940) dd_156_72 ((ms_o hH rfl).trans q66) f5 ?_
  refine g_iload_n (i := 3) dd_156_75 rfl ?_
  refine g_iconst dd_156_76 ic_2 ?_
  refine e_iadd (v := 5 * i + 2) dd_156_77 (by omega) ?_
  refine g_iaload dd_156_78 ((ms_o hH rfl).trans a68) (by omega) (by decide) ?_
  have hl_1 := am_ag_lt (R 1) (5 * i + 2)
  refine g_icmp_gt_f (t := 161) dd_156_79 (by decide) (by first | exact sk_gt_f (by omega) (by omega) | exact tk_gt_f (by omega)) ?_
  refine g_iload_n (i := 2) dd_156_82 rfl ?_
  refine g_iload_n (i := 1) dd_156_83 rfl ?_
  refine g_icmp_eq_f (t := 161) dd_156_84 (by decide) (tk_eq_f (by omega)) ?_
  refine g_aload_n (i := 0) dd_156_87 rfl ?_
  refine g_getfield (k := 32) am_ck12 (by decide) (Or.inl w_967) dd_156_88 ((ms_o hH rfl).trans q66) f32 ?_
  refine g_bipush dd_156_91 bi_64 ?_
  refine g_aload_n (i := 0) dd_156_93 rfl ?_
  refine g_getfield (k := 5) am_ck12 (by decide) (Or.inl w_940) dd_156_94 ((ms_o hH rfl).trans q66) f5 ?_
  refine g_iload_n (i := 3) dd_156_97 rfl ?_
  refine g_iaload dd_156_98 ((ms_o hH rfl).trans a68) (by omega) (by decide) ?_
  have hl_2 := am_ag_lt (R 1) (5 * i)
  refine e_imul (v := 64 * (am_ag (R 1) (5 * i))) dd_156_99 (by omega) ?_
  refine g_iload dd_156_100 rfl ?_
  refine e_iadd (v := (64 * (am_ag (R 1) (5 * i))) + (am_ag (R 1) (5 * i + 1) + j)) dd_156_102 (by omega) ?_
  refine g_aload_n (i := 0) dd_156_103 rfl ?_
  refine g_getfield (k := 5) am_ck12 (by decide) (Or.inl w_940) dd_156_104 ((ms_o hH rfl).trans q66) f5 ?_
  refine g_iload_n (i := 3) dd_156_107 rfl ?_
  refine g_iconst dd_156_108 ic_3 ?_
  refine e_iadd (v := 5 * i + 3) dd_156_109 (by omega) ?_
  refine g_iaload dd_156_110 ((ms_o hH rfl).trans a68) (by omega) (by decide) ?_
  have hl_3 := am_ag_lt (R 1) (5 * i + 3)
  refine g_iastore dd_156_111 (ms_g81 hH) (by omega) (by decide) ?_
  refine am_heq (ms_u81 hH) ?_
  show am_Good mi_156 112 [some (.ref 66), some (.retAddr wo), some (.retAddr i), some (.retAddr (5 * i)), some (.retAddr (am_ag (R 1) (5 * i + 1) + j))] [] (ms h (am_as w ((64 * (am_ag (R 1) (5 * i))) + (am_ag (R 1) (5 * i + 1) + j)) (am_ag (R 1) (5 * i + 3))) f b) _
  refine g_aload_n (i := 0) dd_156_112 rfl ?_
  refine g_getfield (k := 33) am_ck12 (by decide) (Or.inl w_968) dd_156_113 ((ms_o hH rfl).trans q66) f33 ?_
  refine g_bipush dd_156_116 bi_64 ?_
  refine g_aload_n (i := 0) dd_156_118 rfl ?_
  refine g_getfield (k := 5) am_ck12 (by decide) (Or.inl w_940) dd_156_119 ((ms_o hH rfl).trans q66) f5 ?_
  refine g_iload_n (i := 3) dd_156_122 rfl ?_
  refine g_iaload dd_156_123 ((ms_o hH rfl).trans a68) (by omega) (by decide) ?_
  have hl_4 := am_ag_lt (R 1) (5 * i)
  refine e_imul (v := 64 * (am_ag (R 1) (5 * i))) dd_156_124 (by omega) ?_
  refine g_iload dd_156_125 rfl ?_
  refine e_iadd (v := (64 * (am_ag (R 1) (5 * i))) + (am_ag (R 1) (5 * i + 1) + j)) dd_156_127 (by omega) ?_
  refine g_aload_n (i := 0) dd_156_128 rfl ?_
  refine g_getfield (k := 5) am_ck12 (by decide) (Or.inl w_940) dd_156_129 ((ms_o hH rfl).trans q66) f5 ?_
  refine g_iload_n (i := 3) dd_156_132 rfl ?_
  refine g_iconst dd_156_133 ic_4 ?_
  refine e_iadd (v := 5 * i + 4) dd_156_134 (by omega) ?_
  refine g_iaload dd_156_135 ((ms_o hH rfl).trans a68) (by omega) (by decide) ?_
  have hl_5 := am_ag_lt (R 1) (5 * i + 4)
  refine g_bipush dd_156_136 bi_8 ?_
  refine g_icmp_ne_f (t := 146) dd_156_138 (by decide) (tk_ne_f (by omega)) ?_
  refine g_bipush dd_156_141 bi_m4 ?_
  refine g_goto (t := 154) dd_156_143 (by decide) ?_
  refine g_iastore dd_156_154 (ms_g82 hH) (by omega) (by decide) ?_
  refine am_heq (ms_u82 hH) ?_
  show am_Good mi_156 155 [some (.ref 66), some (.retAddr wo), some (.retAddr i), some (.retAddr (5 * i)), some (.retAddr (am_ag (R 1) (5 * i + 1) + j))] [] (ms h (am_as w ((64 * (am_ag (R 1) (5 * i))) + (am_ag (R 1) (5 * i + 1) + j)) (am_ag (R 1) (5 * i + 3))) (am_as f ((64 * (am_ag (R 1) (5 * i))) + (am_ag (R 1) (5 * i + 1) + j)) 4294967292) b) _
  refine e_iinc (v := 1) (w := am_ag (R 1) (5 * i + 1) + j + 1) dd_156_155 rfl ic_1 (am_nlb_ok rfl) (by decide) (by omega) ?_
  refine g_goto (t := 69) dd_156_158 (by decide) ?_
  exact hg
theorem ls_3b {h : am_H} {vs : List Value} {Z R : Nat → Nat} {w f b : Nat} (hH : ms_ok h) (q66 : am_get h 66 = some (.inr (12, vs))) (f2 : vs[2]? = some (.retAddr (Z 0))) (f3 : vs[3]? = some (.ref 67)) (f4 : vs[4]? = some (.retAddr (Z 1))) (f5 : vs[5]? = some (.ref 68)) (f6 : vs[6]? = some (.retAddr (Z 2))) (f7 : vs[7]? = some (.ref 69)) (f8 : vs[8]? = some (.retAddr (Z 3))) (f9 : vs[9]? = some (.ref 70)) (f32 : vs[32]? = some (.ref 81)) (f33 : vs[33]? = some (.ref 82)) (f34 : vs[34]? = some (.ref 83)) (a67 : am_get h 67 = some (.inl (0, 4, R 0))) (a68 : am_get h 68 = some (.inl (0, 45, R 1))) (a69 : am_get h 69 = some (.inl (0, 18, R 2))) (a70 : am_get h 70 = some (.inl (0, 16, R 3))) (vZ : ∀ k, k < 6 → Z k ≤ je_z k) (hB : je_B Z R) {r : am_R} {wo i j : Nat} (hwo : wo < 4294967296) (hi : i < Z 1) (hne : i ≠ wo) (hj : am_ag (R 1) (5 * i + 1) + j ≤ am_ag (R 1) (5 * i + 2)) (h8 : am_ag (R 1) (5 * i + 4) ≠ 8) (hg : am_Good mi_156 69 [some (.ref 66), some (.retAddr wo), some (.retAddr i), some (.retAddr (5 * i)), some (.retAddr (am_ag (R 1) (5 * i + 1) + (j + 1)))] [] (ms h (am_as w (64 * am_ag (R 1) (5 * i) + (am_ag (R 1) (5 * i + 1) + j)) (am_ag (R 1) (5 * i + 3))) (am_as f (64 * am_ag (R 1) (5 * i) + (am_ag (R 1) (5 * i + 1) + j)) (am_ag (R 1) (5 * i + 4))) b) r) : am_Good mi_156 69 [some (.ref 66), some (.retAddr wo), some (.retAddr i), some (.retAddr (5 * i)), some (.retAddr (am_ag (R 1) (5 * i + 1) + j))] [] (ms h w f b) r := by
  have z0 : Z 0 ≤ 4 := vZ 0 (by decide)
  have z1 : Z 1 ≤ 9 := vZ 1 (by decide)
  have z2 : Z 2 ≤ 6 := vZ 2 (by decide)
  have z3 : Z 3 ≤ 4 := vZ 3 (by decide)
  have b0 : am_ag (R 1) (5 * i + 0) ≤ 3 := hB 1 (by decide) i (by omega) 0 (by decide)
  have b1 : am_ag (R 1) (5 * i + 1) ≤ 59 := hB 1 (by decide) i (by omega) 1 (by decide)
  have b2 : am_ag (R 1) (5 * i + 2) ≤ 59 := hB 1 (by decide) i (by omega) 2 (by decide)
  have b3 : am_ag (R 1) (5 * i + 3) ≤ 9 := hB 1 (by decide) i (by omega) 3 (by decide)
  have b4 : am_ag (R 1) (5 * i + 4) ≤ 8 := hB 1 (by decide) i (by omega) 4 (by decide)
  have b0 : am_ag (R 1) (5 * i) ≤ 3 := b0
  refine g_iload dd_156_69 rfl ?_
  refine g_aload_n (i := 0) dd_156_71 rfl ?_
  refine g_getfield (k := 5) am_ck12 (by decide) (Or.inl w_940) dd_156_72 ((ms_o hH rfl).trans q66) f5 ?_
  refine g_iload_n (i := 3) dd_156_75 rfl ?_
  refine g_iconst dd_156_76 ic_2 ?_
  refine e_iadd (v := 5 * i + 2) dd_156_77 (by omega) ?_
  refine g_iaload dd_156_78 ((ms_o hH rfl).trans a68) (by omega) (by decide) ?_
  have hl_1 := am_ag_lt (R 1) (5 * i + 2)
  refine g_icmp_gt_f (t := 161) dd_156_79 (by decide) (by first | exact sk_gt_f (by omega) (by omega) | exact tk_gt_f (by omega)) ?_
  refine g_iload_n (i := 2) dd_156_82 rfl ?_
  refine g_iload_n (i := 1) dd_156_83 rfl ?_
  refine g_icmp_eq_f (t := 161) dd_156_84 (by decide) (tk_eq_f (by omega)) ?_
  refine g_aload_n (i := 0) dd_156_87 rfl ?_
  refine g_getfield (k := 32) am_ck12 (by decide) (Or.inl w_967) dd_156_88 ((ms_o hH rfl).trans q66) f32 ?_
  refine g_bipush dd_156_91 bi_64 ?_
  refine g_aload_n (i := 0) dd_156_93 rfl ?_
  refine g_getfield (k := 5) am_ck12 (by decide) (Or.inl w_940) dd_156_94 ((ms_o hH rfl).trans q66) f5 ?_
  refine g_iload_n (i := 3) dd_156_97 rfl ?_
  refine g_iaload dd_156_98 ((ms_o hH rfl).trans a68) (by omega) (by decide) ?_
  have hl_2 := am_ag_lt (R 1) (5 * i)
  refine e_imul (v := 64 * (am_ag (R 1) (5 * i))) dd_156_99 (by omega) ?_
  refine g_iload dd_156_100 rfl ?_
  refine e_iadd (v := (64 * (am_ag (R 1) (5 * i))) + (am_ag (R 1) (5 * i + 1) + j)) dd_156_102 (by omega) ?_
  refine g_aload_n (i := 0) dd_156_103 rfl ?_
  refine g_getfield (k := 5) am_ck12 (by decide) (Or.inl w_940) dd_156_104 ((ms_o hH rfl).trans q66) f5 ?_
  refine g_iload_n (i := 3) dd_156_107 rfl ?_
  refine g_iconst dd_156_108 ic_3 ?_
  refine e_iadd (v := 5 * i + 3) dd_156_109 (by omega) ?_
  refine g_iaload dd_156_110 ((ms_o hH rfl).trans a68) (by omega) (by decide) ?_
  have hl_3 := am_ag_lt (R 1) (5 * i + 3)
  refine g_iastore dd_156_111 (ms_g81 hH) (by omega) (by decide) ?_
  refine am_heq (ms_u81 hH) ?_
  show am_Good mi_156 112 [some (.ref 66), some (.retAddr wo), some (.retAddr i), some (.retAddr (5 * i)), some (.retAddr (am_ag (R 1) (5 * i + 1) + j))] [] (ms h (am_as w ((64 * (am_ag (R 1) (5 * i))) + (am_ag (R 1) (5 * i + 1) + j)) (am_ag (R 1) (5 * i + 3))) f b) _
  refine g_aload_n (i := 0) dd_156_112 rfl ?_
  refine g_getfield (k := 33) am_ck12 (by decide) (Or.inl w_968) dd_156_113 ((ms_o hH rfl).trans q66) f33 ?_
  refine g_bipush dd_156_116 bi_64 ?_
  refine g_aload_n (i := 0) dd_156_118 rfl ?_
  refine g_getfield (k := 5) am_ck12 (by decide) (Or.inl w_940) dd_156_119 ((ms_o hH rfl).trans q66) f5 ?_
  refine g_iload_n (i := 3) dd_156_122 rfl ?_
  refine g_iaload dd_156_123 ((ms_o hH rfl).trans a68) (by omega) (by decide) ?_
  have hl_4 := am_ag_lt (R 1) (5 * i)
  refine e_imul (v := 64 * (am_ag (R 1) (5 * i))) dd_156_124 (by omega) ?_
  refine g_iload dd_156_125 rfl ?_
  refine e_iadd (v := (64 * (am_ag (R 1) (5 * i))) + (am_ag (R 1) (5 * i + 1) + j)) dd_156_127 (by omega) ?_
  refine g_aload_n (i := 0) dd_156_128 rfl ?_
  refine g_getfield (k := 5) am_ck12 (by decide) (Or.inl w_940) dd_156_129 ((ms_o hH rfl).trans q66) f5 ?_
  refine g_iload_n (i := 3) dd_156_132 rfl ?_
  refine g_iconst dd_156_133 ic_4 ?_
  refine e_iadd (v := 5 * i + 4) dd_156_134 (by omega) ?_
  refine g_iaload dd_156_135 ((ms_o hH rfl).trans a68) (by omega) (by decide) ?_
  have hl_5 := am_ag_lt (R 1) (5 * i + 4)
  refine g_bipush dd_156_136 bi_8 ?_
  refine g_icmp_ne_t (t := 146) dd_156_138 (by decide) (tk_ne_t (by omega)) ?_
  refine g_aload_n (i := 0) dd_156_146 rfl ?_
  refine g_getfield (k := 5) am_ck12 (by decide) (Or.inl w_940) dd_156_147 ((ms_o hH rfl).trans q66) f5 ?_
  refine g_iload_n (i := 3) dd_156_150 rfl ?_
  refine g_iconst dd_156_151 ic_4 ?_
  refine e_iadd (v := 5 * i + 4) dd_156_152 (by omega) ?_
  refine g_iaload dd_156_153 ((ms_o hH rfl).trans a68) (by omega) (by decide) ?_
  have hl_6 := am_ag_lt (R 1) (5 * i + 4)
  refine g_iastore dd_156_154 (ms_g82 hH) (by omega) (by decide) ?_
  refine am_heq (ms_u82 hH) ?_
  show am_Good mi_156 155 [some (.ref 66), some (.retAddr wo), some (.retAddr i), some (.retAddr (5 * i)), some (.retAddr (am_ag (R 1) (5 * i + 1) + j))] [] (ms h (am_as w ((64 * (am_ag (R 1) (5 * i))) + (am_ag (R 1) (5 * i + 1) + j)) (am_ag (R 1) (5 * i + 3))) (am_as f ((64 * (am_ag (R 1) (5 * i))) + (am_ag (R 1) (5 * i + 1) + j)) (am_ag (R 1) (5 * i + 4))) b) _
  refine e_iinc (v := 1) (w := am_ag (R 1) (5 * i + 1) + j + 1) dd_156_155 rfl ic_1 (am_nlb_ok rfl) (by decide) (by omega) ?_
  refine g_goto (t := 69) dd_156_158 (by decide) ?_
  exact hg
theorem ls_4 {h : am_H} {vs : List Value} {Z R : Nat → Nat} {w f b : Nat} (hH : ms_ok h) (q66 : am_get h 66 = some (.inr (12, vs))) (f2 : vs[2]? = some (.retAddr (Z 0))) (f3 : vs[3]? = some (.ref 67)) (f4 : vs[4]? = some (.retAddr (Z 1))) (f5 : vs[5]? = some (.ref 68)) (f6 : vs[6]? = some (.retAddr (Z 2))) (f7 : vs[7]? = some (.ref 69)) (f8 : vs[8]? = some (.retAddr (Z 3))) (f9 : vs[9]? = some (.ref 70)) (f32 : vs[32]? = some (.ref 81)) (f33 : vs[33]? = some (.ref 82)) (f34 : vs[34]? = some (.ref 83)) (a67 : am_get h 67 = some (.inl (0, 4, R 0))) (a68 : am_get h 68 = some (.inl (0, 45, R 1))) (a69 : am_get h 69 = some (.inl (0, 18, R 2))) (a70 : am_get h 70 = some (.inl (0, 16, R 3))) (vZ : ∀ k, k < 6 → Z k ≤ je_z k) (hB : je_B Z R) {r : am_R} {wo i j : Nat} (hi : i < Z 1) (hj : j ≤ 60) (ht : am_ag (R 1) (5 * i + 2) < am_ag (R 1) (5 * i + 1) + j) (hg : am_Good mi_156 47 [some (.ref 66), some (.retAddr wo), some (.retAddr (i + 1)), some (.retAddr (5 * i)), some (.retAddr (am_ag (R 1) (5 * i + 1) + j))] [] (ms h w f b) r) : am_Good mi_156 69 [some (.ref 66), some (.retAddr wo), some (.retAddr i), some (.retAddr (5 * i)), some (.retAddr (am_ag (R 1) (5 * i + 1) + j))] [] (ms h w f b) r := by
  have z0 : Z 0 ≤ 4 := vZ 0 (by decide)
  have z1 : Z 1 ≤ 9 := vZ 1 (by decide)
  have z2 : Z 2 ≤ 6 := vZ 2 (by decide)
  have z3 : Z 3 ≤ 4 := vZ 3 (by decide)
  have b1 : am_ag (R 1) (5 * i + 1) ≤ 59 := hB 1 (by decide) i (by omega) 1 (by decide)
  have b2 : am_ag (R 1) (5 * i + 2) ≤ 59 := hB 1 (by decide) i (by omega) 2 (by decide)
  refine g_iload dd_156_69 rfl ?_
  refine g_aload_n (i := 0) dd_156_71 rfl ?_
  refine g_getfield (k := 5) am_ck12 (by decide) (Or.inl w_940) dd_156_72 ((ms_o hH rfl).trans q66) f5 ?_
  refine g_iload_n (i := 3) dd_156_75 rfl ?_
  refine g_iconst dd_156_76 ic_2 ?_
  refine e_iadd (v := 5 * i + 2) dd_156_77 (by omega) ?_
  refine g_iaload dd_156_78 ((ms_o hH rfl).trans a68) (by omega) (by decide) ?_
  have hl_1 := am_ag_lt (R 1) (5 * i + 2)
  refine g_icmp_gt_t (t := 161) dd_156_79 (by decide) (by first | exact sk_gt_t (by omega) (by omega) | exact tk_gt_t (by omega)) ?_
  refine e_iinc (v := 1) (w := i + 1) dd_156_161 rfl ic_1 (am_nlb_ok rfl) (by decide) (by omega) ?_
  refine g_goto (t := 47) dd_156_164 (by decide) ?_
  exact hg
theorem ls_5 {h : am_H} {vs : List Value} {Z R : Nat → Nat} {w f b : Nat} (hH : ms_ok h) (q66 : am_get h 66 = some (.inr (12, vs))) (f2 : vs[2]? = some (.retAddr (Z 0))) (f3 : vs[3]? = some (.ref 67)) (f4 : vs[4]? = some (.retAddr (Z 1))) (f5 : vs[5]? = some (.ref 68)) (f6 : vs[6]? = some (.retAddr (Z 2))) (f7 : vs[7]? = some (.ref 69)) (f8 : vs[8]? = some (.retAddr (Z 3))) (f9 : vs[9]? = some (.ref 70)) (f32 : vs[32]? = some (.ref 81)) (f33 : vs[33]? = some (.ref 82)) (f34 : vs[34]? = some (.ref 83)) (a67 : am_get h 67 = some (.inl (0, 4, R 0))) (a68 : am_get h 68 = some (.inl (0, 45, R 1))) (a69 : am_get h 69 = some (.inl (0, 18, R 2))) (a70 : am_get h 70 = some (.inl (0, 16, R 3))) (vZ : ∀ k, k < 6 → Z k ≤ je_z k) (hB : je_B Z R) {r : am_R} {wo i j : Nat} (hi : i < Z 1) (hne : i = wo) (hj : am_ag (R 1) (5 * i + 1) + j ≤ am_ag (R 1) (5 * i + 2)) (hg : am_Good mi_156 47 [some (.ref 66), some (.retAddr wo), some (.retAddr (i + 1)), some (.retAddr (5 * i)), some (.retAddr (am_ag (R 1) (5 * i + 1) + j))] [] (ms h w f b) r) : am_Good mi_156 69 [some (.ref 66), some (.retAddr wo), some (.retAddr i), some (.retAddr (5 * i)), some (.retAddr (am_ag (R 1) (5 * i + 1) + j))] [] (ms h w f b) r := by
  have z0 : Z 0 ≤ 4 := vZ 0 (by decide)
  have z1 : Z 1 ≤ 9 := vZ 1 (by decide)
  have z2 : Z 2 ≤ 6 := vZ 2 (by decide)
  have z3 : Z 3 ≤ 4 := vZ 3 (by decide)
  have b1 : am_ag (R 1) (5 * i + 1) ≤ 59 := hB 1 (by decide) i (by omega) 1 (by decide)
  have b2 : am_ag (R 1) (5 * i + 2) ≤ 59 := hB 1 (by decide) i (by omega) 2 (by decide)
  refine g_iload dd_156_69 rfl ?_
  refine g_aload_n (i := 0) dd_156_71 rfl ?_
  refine g_getfield (k := 5) am_ck12 (by decide) (Or.inl w_940) dd_156_72 ((ms_o hH rfl).trans q66) f5 ?_
  refine g_iload_n (i := 3) dd_156_75 rfl ?_
  refine g_iconst dd_156_76 ic_2 ?_
  refine e_iadd (v := 5 * i + 2) dd_156_77 (by omega) ?_
  refine g_iaload dd_156_78 ((ms_o hH rfl).trans a68) (by omega) (by decide) ?_
  have hl_1 := am_ag_lt (R 1) (5 * i + 2)
  refine g_icmp_gt_f (t := 161) dd_156_79 (by decide) (by first | exact sk_gt_f (by omega) (by omega) | exact tk_gt_f (by omega)) ?_
  refine g_iload_n (i := 2) dd_156_82 rfl ?_
  refine g_iload_n (i := 1) dd_156_83 rfl ?_
  refine g_icmp_eq_t (t := 161) dd_156_84 (by decide) (tk_eq_t (by rw [hne])) ?_
  refine e_iinc (v := 1) (w := i + 1) dd_156_161 rfl ic_1 (am_nlb_ok rfl) (by decide) (by omega) ?_
  refine g_goto (t := 47) dd_156_164 (by decide) ?_
  exact hg
theorem ls_6 {h : am_H} {vs : List Value} {Z R : Nat → Nat} {w f b : Nat} (hH : ms_ok h) (q66 : am_get h 66 = some (.inr (12, vs))) (f2 : vs[2]? = some (.retAddr (Z 0))) (f3 : vs[3]? = some (.ref 67)) (f4 : vs[4]? = some (.retAddr (Z 1))) (f5 : vs[5]? = some (.ref 68)) (f6 : vs[6]? = some (.retAddr (Z 2))) (f7 : vs[7]? = some (.ref 69)) (f8 : vs[8]? = some (.retAddr (Z 3))) (f9 : vs[9]? = some (.ref 70)) (f32 : vs[32]? = some (.ref 81)) (f33 : vs[33]? = some (.ref 82)) (f34 : vs[34]? = some (.ref 83)) (a67 : am_get h 67 = some (.inl (0, 4, R 0))) (a68 : am_get h 68 = some (.inl (0, 45, R 1))) (a69 : am_get h 69 = some (.inl (0, 18, R 2))) (a70 : am_get h 70 = some (.inl (0, 16, R 3))) (vZ : ∀ k, k < 6 → Z k ≤ je_z k) (hB : je_B Z R) {r : am_R} {wo i : Nat} {v3 v4 : Option Value} (hi : i < Z 1) (hg : am_Good mi_156 69 [some (.ref 66), some (.retAddr wo), some (.retAddr i), some (.retAddr (5 * i)), some (.retAddr (am_ag (R 1) (5 * i + 1)))] [] (ms h w f b) r) : am_Good mi_156 47 [some (.ref 66), some (.retAddr wo), some (.retAddr i), v3, v4] [] (ms h w f b) r := by
  have z0 : Z 0 ≤ 4 := vZ 0 (by decide)
  have z1 : Z 1 ≤ 9 := vZ 1 (by decide)
  have z2 : Z 2 ≤ 6 := vZ 2 (by decide)
  have z3 : Z 3 ≤ 4 := vZ 3 (by decide)
  refine g_iload_n (i := 2) dd_156_47 rfl ?_
  refine g_aload_n (i := 0) dd_156_48 rfl ?_
  refine g_getfield (k := 4) am_ck12 (by decide) (Or.inl w_939) dd_156_49 ((ms_o hH rfl).trans q66) f4 ?_
  refine g_icmp_ge_f (t := 167) dd_156_52 (by decide) (by first | exact sk_ge_f (by omega) (by omega) | exact tk_ge_f (by omega)) ?_
  refine g_iconst dd_156_55 ic_5 ?_
  refine g_iload_n (i := 2) dd_156_56 rfl ?_
  refine e_imul (v := 5 * i) dd_156_57 (by omega) ?_
  refine g_istore_n (i := 3) dd_156_58 (am_nlb_ok rfl) (by decide) ?_
  refine g_aload_n (i := 0) dd_156_59 rfl ?_
  refine g_getfield (k := 5) am_ck12 (by decide) (Or.inl w_940) dd_156_60 ((ms_o hH rfl).trans q66) f5 ?_
  refine g_iload_n (i := 3) dd_156_63 rfl ?_
  refine g_iconst dd_156_64 ic_1 ?_
  refine e_iadd (v := 5 * i + 1) dd_156_65 (by omega) ?_
  refine g_iaload dd_156_66 ((ms_o hH rfl).trans a68) (by omega) (by decide) ?_
  have hl_1 := am_ag_lt (R 1) (5 * i + 1)
  refine g_istore dd_156_67 (am_nlb_ok rfl) (by decide) ?_
  exact hg
theorem ls_7 {h : am_H} {vs : List Value} {Z R : Nat → Nat} {w f b : Nat} (hH : ms_ok h) (q66 : am_get h 66 = some (.inr (12, vs))) (f2 : vs[2]? = some (.retAddr (Z 0))) (f3 : vs[3]? = some (.ref 67)) (f4 : vs[4]? = some (.retAddr (Z 1))) (f5 : vs[5]? = some (.ref 68)) (f6 : vs[6]? = some (.retAddr (Z 2))) (f7 : vs[7]? = some (.ref 69)) (f8 : vs[8]? = some (.retAddr (Z 3))) (f9 : vs[9]? = some (.ref 70)) (f32 : vs[32]? = some (.ref 81)) (f33 : vs[33]? = some (.ref 82)) (f34 : vs[34]? = some (.ref 83)) (a67 : am_get h 67 = some (.inl (0, 4, R 0))) (a68 : am_get h 68 = some (.inl (0, 45, R 1))) (a69 : am_get h 69 = some (.inl (0, 18, R 2))) (a70 : am_get h 70 = some (.inl (0, 16, R 3))) (vZ : ∀ k, k < 6 → Z k ≤ je_z k) (hB : je_B Z R) {wo : Nat} {v3 v4 : Option Value} : am_Good mi_156 47 [some (.ref 66), some (.retAddr wo), some (.retAddr (Z 1)), v3, v4] [] (ms h w f b) (none, (ms h w f b)) := by
  have z0 : Z 0 ≤ 4 := vZ 0 (by decide)
  have z1 : Z 1 ≤ 9 := vZ 1 (by decide)
  have z2 : Z 2 ≤ 6 := vZ 2 (by decide)
  have z3 : Z 3 ≤ 4 := vZ 3 (by decide)
  refine g_iload_n (i := 2) dd_156_47 rfl ?_
  refine g_aload_n (i := 0) dd_156_48 rfl ?_
  refine g_getfield (k := 4) am_ck12 (by decide) (Or.inl w_939) dd_156_49 ((ms_o hH rfl).trans q66) f4 ?_
  refine g_icmp_ge_t (t := 167) dd_156_52 (by decide) (by first | exact sk_ge_t (by omega) (by omega) | exact tk_ge_t (by omega)) ?_
  exact g_return rfl dd_156_167
theorem ls_il {h : am_H} {vs : List Value} {Z R : Nat → Nat} {w f b : Nat} (hH : ms_ok h) (q66 : am_get h 66 = some (.inr (12, vs))) (f2 : vs[2]? = some (.retAddr (Z 0))) (f3 : vs[3]? = some (.ref 67)) (f4 : vs[4]? = some (.retAddr (Z 1))) (f5 : vs[5]? = some (.ref 68)) (f6 : vs[6]? = some (.retAddr (Z 2))) (f7 : vs[7]? = some (.ref 69)) (f8 : vs[8]? = some (.retAddr (Z 3))) (f9 : vs[9]? = some (.ref 70)) (f32 : vs[32]? = some (.ref 81)) (f33 : vs[33]? = some (.ref 82)) (f34 : vs[34]? = some (.ref 83)) (a67 : am_get h 67 = some (.inl (0, 4, R 0))) (a68 : am_get h 68 = some (.inl (0, 45, R 1))) (a69 : am_get h 69 = some (.inl (0, 18, R 2))) (a70 : am_get h 70 = some (.inl (0, 16, R 3))) (vZ : ∀ k, k < 6 → Z k ≤ je_z k) (hB : je_B Z R) {r : am_R} {wo i : Nat} (hwo : wo < 4294967296) (hi : i < Z 1) (hne : i ≠ wo) (hg : ∀ v3 v4, am_Good mi_156 47 [some (.ref 66), some (.retAddr wo), some (.retAddr (i + 1)), v3, v4] [] (ms h (fl w (64 * am_ag (R 1) (5 * i) + am_ag (R 1) (5 * i + 1)) (am_ag (R 1) (5 * i + 3)) (am_ag (R 1) (5 * i + 2) + 1 - am_ag (R 1) (5 * i + 1))) (fl f (64 * am_ag (R 1) (5 * i) + am_ag (R 1) (5 * i + 1)) (lc_8 (am_ag (R 1) (5 * i + 4))) (am_ag (R 1) (5 * i + 2) + 1 - am_ag (R 1) (5 * i + 1))) b) r) : ∀ (k j : Nat), j + k = am_ag (R 1) (5 * i + 2) + 1 - am_ag (R 1) (5 * i + 1) → am_Good mi_156 69 [some (.ref 66), some (.retAddr wo), some (.retAddr i), some (.retAddr (5 * i)), some (.retAddr (am_ag (R 1) (5 * i + 1) + j))] [] (ms h (fl w (64 * am_ag (R 1) (5 * i) + am_ag (R 1) (5 * i + 1)) (am_ag (R 1) (5 * i + 3)) j) (fl f (64 * am_ag (R 1) (5 * i) + am_ag (R 1) (5 * i + 1)) (lc_8 (am_ag (R 1) (5 * i + 4))) j) b) r
  | 0, j, e => by
    have b1 : am_ag (R 1) (5 * i + 1) ≤ 59 := hB 1 (by decide) i (by omega) 1 (by decide)
    have b2 : am_ag (R 1) (5 * i + 2) ≤ 59 := hB 1 (by decide) i (by omega) 2 (by decide)
    have e' : j = am_ag (R 1) (5 * i + 2) + 1 - am_ag (R 1) (5 * i + 1) := by omega
    have hg := hg (some (.retAddr (5 * i))) (some (.retAddr (am_ag (R 1) (5 * i + 1) + j)))
    rw [← e'] at hg
    exact ls_4 hH q66 f2 f3 f4 f5 f6 f7 f8 f9 f32 f33 f34 a67 a68 a69 a70 vZ hB hi (by omega) (by omega) hg
  | k + 1, j, e => by
    have q := ls_il hH q66 f2 f3 f4 f5 f6 f7 f8 f9 f32 f33 f34 a67 a68 a69 a70 vZ hB hwo hi hne hg k (j + 1) (by omega)
    have ei : 64 * am_ag (R 1) (5 * i) + (am_ag (R 1) (5 * i + 1) + j) = 64 * am_ag (R 1) (5 * i) + am_ag (R 1) (5 * i + 1) + j := by omega
    by_cases h8 : am_ag (R 1) (5 * i + 4) = 8
    · refine ls_3a hH q66 f2 f3 f4 f5 f6 f7 f8 f9 f32 f33 f34 a67 a68 a69 a70 vZ hB hwo hi hne (by omega) h8 ?_
      rw [ei]
      rw [show lc_8 (am_ag (R 1) (5 * i + 4)) = 4294967292 from by unfold lc_8; rw [if_pos h8]] at q ⊢
      exact q
    · refine ls_3b hH q66 f2 f3 f4 f5 f6 f7 f8 f9 f32 f33 f34 a67 a68 a69 a70 vZ hB hwo hi hne (by omega) h8 ?_
      rw [ei]
      rw [show lc_8 (am_ag (R 1) (5 * i + 4)) = am_ag (R 1) (5 * i + 4) from by unfold lc_8; rw [if_neg h8]] at q ⊢
      exact q
theorem ls_sl {h : am_H} {vs : List Value} {Z R : Nat → Nat} {w f b : Nat} (hH : ms_ok h) (q66 : am_get h 66 = some (.inr (12, vs))) (f2 : vs[2]? = some (.retAddr (Z 0))) (f3 : vs[3]? = some (.ref 67)) (f4 : vs[4]? = some (.retAddr (Z 1))) (f5 : vs[5]? = some (.ref 68)) (f6 : vs[6]? = some (.retAddr (Z 2))) (f7 : vs[7]? = some (.ref 69)) (f8 : vs[8]? = some (.retAddr (Z 3))) (f9 : vs[9]? = some (.ref 70)) (f32 : vs[32]? = some (.ref 81)) (f33 : vs[33]? = some (.ref 82)) (f34 : vs[34]? = some (.ref 83)) (a67 : am_get h 67 = some (.inl (0, 4, R 0))) (a68 : am_get h 68 = some (.inl (0, 45, R 1))) (a69 : am_get h 69 = some (.inl (0, 18, R 2))) (a70 : am_get h 70 = some (.inl (0, 16, R 3))) (vZ : ∀ k, k < 6 → Z k ≤ je_z k) (hB : je_B Z R) {wo : Nat} (hwo : wo < 4294967296) : ∀ (k i : Nat) (v3 v4 : Option Value), i + k = Z 1 → am_Good mi_156 47 [some (.ref 66), some (.retAddr wo), some (.retAddr i), v3, v4] [] (ms h (sw 64 (R 1) 5 (sc_ne wo) (fun n => am_ag (R 1) (5 * n + 3)) w i) (sw 64 (R 1) 5 (sc_ne wo) (fun n => lc_8 (am_ag (R 1) (5 * n + 4))) f i) b) (none, (ms h (sw 64 (R 1) 5 (sc_ne wo) (fun n => am_ag (R 1) (5 * n + 3)) w (Z 1)) (sw 64 (R 1) 5 (sc_ne wo) (fun n => lc_8 (am_ag (R 1) (5 * n + 4))) f (Z 1)) b))
  | 0, i, v3, v4, e => by
    have e' : i = Z 1 := by omega
    subst e'
    exact ls_7 hH q66 f2 f3 f4 f5 f6 f7 f8 f9 f32 f33 f34 a67 a68 a69 a70 vZ hB
  | k + 1, i, v3, v4, e => by
    have hi : i < Z 1 := by omega
    have q := fun v3 v4 => ls_sl (w := w) (f := f) (b := b) hH q66 f2 f3 f4 f5 f6 f7 f8 f9 f32 f33 f34 a67 a68 a69 a70 vZ hB hwo k (i + 1) v3 v4 (by omega)
    refine ls_6 hH q66 f2 f3 f4 f5 f6 f7 f8 f9 f32 f33 f34 a67 a68 a69 a70 vZ hB hi ?_
    by_cases hw : i = wo
    · have hne : ¬ sc_ne wo i = true := by
        unfold sc_ne
        rw [hw, Nat.beq_refl]
        decide
      have s3 : ∀ (v : Nat → Nat) (x : Nat), sw 64 (R 1) 5 (sc_ne wo) v x (i + 1) = sw 64 (R 1) 5 (sc_ne wo) v x i := fun v x => if_neg hne
      rw [s3, s3] at q
      by_cases hc : am_ag (R 1) (5 * i + 1) ≤ am_ag (R 1) (5 * i + 2)
      · exact ls_5 (j := 0) hH q66 f2 f3 f4 f5 f6 f7 f8 f9 f32 f33 f34 a67 a68 a69 a70 vZ hB hi hw hc (q _ _)
      · exact ls_4 (j := 0) hH q66 f2 f3 f4 f5 f6 f7 f8 f9 f32 f33 f34 a67 a68 a69 a70 vZ hB hi (Nat.zero_le _) (by omega) (q _ _)
    · have hne : sc_ne wo i = true := by
        unfold sc_ne
        cases hb : Nat.beq i wo
        · rfl
        · exact absurd (Nat.eq_of_beq_eq_true hb) hw
      have s3 : ∀ (v : Nat → Nat) (x : Nat), sw 64 (R 1) 5 (sc_ne wo) v x (i + 1) = fl (sw 64 (R 1) 5 (sc_ne wo) v x i) (64 * am_ag (R 1) (5 * i) + am_ag (R 1) (5 * i + 1)) (v i) (am_ag (R 1) (5 * i + 2) + 1 - am_ag (R 1) (5 * i + 1)) := fun v x => if_pos hne
      rw [s3, s3] at q
      exact ls_il hH q66 f2 f3 f4 f5 f6 f7 f8 f9 f32 f33 f34 a67 a68 a69 a70 vZ hB hwo hi hw q (am_ag (R 1) (5 * i + 2) + 1 - am_ag (R 1) (5 * i + 1)) 0 (by omega)
theorem ls_m {h : am_H} {vs : List Value} {Z R : Nat → Nat} {w f b : Nat} (hH : ms_ok h) (q66 : am_get h 66 = some (.inr (12, vs))) (f2 : vs[2]? = some (.retAddr (Z 0))) (f3 : vs[3]? = some (.ref 67)) (f4 : vs[4]? = some (.retAddr (Z 1))) (f5 : vs[5]? = some (.ref 68)) (f6 : vs[6]? = some (.retAddr (Z 2))) (f7 : vs[7]? = some (.ref 69)) (f8 : vs[8]? = some (.retAddr (Z 3))) (f9 : vs[9]? = some (.ref 70)) (f32 : vs[32]? = some (.ref 81)) (f33 : vs[33]? = some (.ref 82)) (f34 : vs[34]? = some (.ref 83)) (a67 : am_get h 67 = some (.inl (0, 4, R 0))) (a68 : am_get h 68 = some (.inl (0, 45, R 1))) (a69 : am_get h 69 = some (.inl (0, 18, R 2))) (a70 : am_get h 70 = some (.inl (0, 16, R 3))) (vZ : ∀ k, k < 6 → Z k ≤ je_z k) (hB : je_B Z R) {wo : Nat} (hwo : wo < 4294967296) : am_EG mi_156 [.ref 66, .retAddr wo] (ms h w f b) (none, (ms h (lcw Z R wo w) (lcf Z R wo f) (zf (fun _ => 0) b 256))) := by
  refine am_enter (n := 3) tk_156.2.1 (by simp [Value.category]) (Nat.le_of_ble_eq_true rfl) ?_
  show am_Good mi_156 0 [some (.ref 66), some (.retAddr wo), none, none, none] [] (ms h w f b) _
  refine g_iconst dd_156_0 ic_0 ?_
  refine g_istore_n (i := 2) dd_156_1 (am_nlb_ok rfl) (by decide) ?_
  refine ls_z hH q66 f2 f3 f4 f5 f6 f7 f8 f9 f32 f33 f34 a67 a68 a69 a70 vZ hB ?_ 256 0 (by omega)
  exact ls_sl hH q66 f2 f3 f4 f5 f6 f7 f8 f9 f32 f33 f34 a67 a68 a69 a70 vZ hB hwo (Z 1) 0 none none (by omega)
theorem br2_1 {h : am_H} {vs : List Value} {Z R : Nat → Nat} {w f b : Nat} (hH : ms_ok h) (q66 : am_get h 66 = some (.inr (12, vs))) (f2 : vs[2]? = some (.retAddr (Z 0))) (f3 : vs[3]? = some (.ref 67)) (f4 : vs[4]? = some (.retAddr (Z 1))) (f5 : vs[5]? = some (.ref 68)) (f6 : vs[6]? = some (.retAddr (Z 2))) (f7 : vs[7]? = some (.ref 69)) (f8 : vs[8]? = some (.retAddr (Z 3))) (f9 : vs[9]? = some (.ref 70)) (f32 : vs[32]? = some (.ref 81)) (f33 : vs[33]? = some (.ref 82)) (f34 : vs[34]? = some (.ref 83)) (a67 : am_get h 67 = some (.inl (0, 4, R 0))) (a68 : am_get h 68 = some (.inl (0, 45, R 1))) (a69 : am_get h 69 = some (.inl (0, 18, R 2))) (a70 : am_get h 70 = some (.inl (0, 16, R 3))) (vZ : ∀ k, k < 6 → Z k ≤ je_z k) (hB : je_B Z R) {r : am_R} {i j : Nat} (hi : i < Z 2) (hj : am_ag (R 2) (3 * i + 1) + j ≤ am_ag (R 2) (3 * i + 2)) (hg : am_Good mi_157 6 [some (.ref 66), some (.ref 69), some (.retAddr (3 * i)), some (.retAddr (am_ag (R 2) (3 * i + 1) + (j + 1)))] [] (ms h w f (am_as b (64 * am_ag (R 2) (3 * i) + (am_ag (R 2) (3 * i + 1) + j)) 1)) r) : am_Good mi_157 6 [some (.ref 66), some (.ref 69), some (.retAddr (3 * i)), some (.retAddr (am_ag (R 2) (3 * i + 1) + j))] [] (ms h w f b) r := by
  have z0 : Z 0 ≤ 4 := vZ 0 (by decide)
  have z1 : Z 1 ≤ 9 := vZ 1 (by decide)
  have z2 : Z 2 ≤ 6 := vZ 2 (by decide)
  have z3 : Z 3 ≤ 4 := vZ 3 (by decide)
  have b0 : am_ag (R 2) (3 * i + 0) ≤ 3 := hB 2 (by decide) i (by omega) 0 (by decide)
  have b1 : am_ag (R 2) (3 * i + 1) ≤ 59 := hB 2 (by decide) i (by omega) 1 (by decide)
  have b2 : am_ag (R 2) (3 * i + 2) ≤ 59 := hB 2 (by decide) i (by omega) 2 (by decide)
  have b0 : am_ag (R 2) (3 * i) ≤ 3 := b0
  refine g_iload_n (i := 3) dd_157_6 rfl ?_
  refine g_aload_n (i := 1) dd_157_7 rfl ?_
  refine g_iload_n (i := 2) dd_157_8 rfl ?_
  refine g_iconst dd_157_9 ic_2 ?_
  refine e_iadd (v := 3 * i + 2) dd_157_10 (by omega) ?_
  refine g_iaload dd_157_11 ((ms_o hH rfl).trans a69) (by omega) (by decide) ?_
  have hl_1 := am_ag_lt (R 2) (3 * i + 2)
  refine g_icmp_gt_f (t := 35) dd_157_12 (by decide) (by first | exact sk_gt_f (by omega) (by omega) | exact tk_gt_f (by omega)) ?_
  refine g_aload_n (i := 0) dd_157_15 rfl ?_
  refine g_getfield (k := 34) am_ck12 (by decide) (Or.inl w_969) dd_157_16 ((ms_o hH rfl).trans q66) f34 ?_
  refine g_bipush dd_157_19 bi_64 ?_
  refine g_aload_n (i := 1) dd_157_21 rfl ?_
  refine g_iload_n (i := 2) dd_157_22 rfl ?_
  refine g_iaload dd_157_23 ((ms_o hH rfl).trans a69) (by omega) (by decide) ?_
  have hl_2 := am_ag_lt (R 2) (3 * i)
  refine e_imul (v := 64 * (am_ag (R 2) (3 * i))) dd_157_24 (by omega) ?_
  refine g_iload_n (i := 3) dd_157_25 rfl ?_
  refine e_iadd (v := (64 * (am_ag (R 2) (3 * i))) + (am_ag (R 2) (3 * i + 1) + j)) dd_157_26 (by omega) ?_
  refine g_iconst dd_157_27 ic_1 ?_
  refine g_zastore dd_157_28 (ms_g83 hH) (by omega) (by decide) ?_
  refine am_heq (ms_u83 hH) ?_
  show am_Good mi_157 29 [some (.ref 66), some (.ref 69), some (.retAddr (3 * i)), some (.retAddr (am_ag (R 2) (3 * i + 1) + j))] [] (ms h w f (am_as b ((64 * (am_ag (R 2) (3 * i))) + (am_ag (R 2) (3 * i + 1) + j)) 1)) _
  refine e_iinc (v := 1) (w := am_ag (R 2) (3 * i + 1) + j + 1) dd_157_29 rfl ic_1 (am_nlb_ok rfl) (by decide) (by omega) ?_
  refine g_goto (t := 6) dd_157_32 (by decide) ?_
  exact hg
theorem br2_2 {h : am_H} {vs : List Value} {Z R : Nat → Nat} {w f b : Nat} (hH : ms_ok h) (q66 : am_get h 66 = some (.inr (12, vs))) (f2 : vs[2]? = some (.retAddr (Z 0))) (f3 : vs[3]? = some (.ref 67)) (f4 : vs[4]? = some (.retAddr (Z 1))) (f5 : vs[5]? = some (.ref 68)) (f6 : vs[6]? = some (.retAddr (Z 2))) (f7 : vs[7]? = some (.ref 69)) (f8 : vs[8]? = some (.retAddr (Z 3))) (f9 : vs[9]? = some (.ref 70)) (f32 : vs[32]? = some (.ref 81)) (f33 : vs[33]? = some (.ref 82)) (f34 : vs[34]? = some (.ref 83)) (a67 : am_get h 67 = some (.inl (0, 4, R 0))) (a68 : am_get h 68 = some (.inl (0, 45, R 1))) (a69 : am_get h 69 = some (.inl (0, 18, R 2))) (a70 : am_get h 70 = some (.inl (0, 16, R 3))) (vZ : ∀ k, k < 6 → Z k ≤ je_z k) (hB : je_B Z R) {i j : Nat} (hi : i < Z 2) (hj : j ≤ 60) (ht : am_ag (R 2) (3 * i + 2) < am_ag (R 2) (3 * i + 1) + j) : am_Good mi_157 6 [some (.ref 66), some (.ref 69), some (.retAddr (3 * i)), some (.retAddr (am_ag (R 2) (3 * i + 1) + j))] [] (ms h w f b) (none, (ms h w f b)) := by
  have z0 : Z 0 ≤ 4 := vZ 0 (by decide)
  have z1 : Z 1 ≤ 9 := vZ 1 (by decide)
  have z2 : Z 2 ≤ 6 := vZ 2 (by decide)
  have z3 : Z 3 ≤ 4 := vZ 3 (by decide)
  have b0 : am_ag (R 2) (3 * i + 0) ≤ 3 := hB 2 (by decide) i (by omega) 0 (by decide)
  have b1 : am_ag (R 2) (3 * i + 1) ≤ 59 := hB 2 (by decide) i (by omega) 1 (by decide)
  have b2 : am_ag (R 2) (3 * i + 2) ≤ 59 := hB 2 (by decide) i (by omega) 2 (by decide)
  have b0 : am_ag (R 2) (3 * i) ≤ 3 := b0
  refine g_iload_n (i := 3) dd_157_6 rfl ?_
  refine g_aload_n (i := 1) dd_157_7 rfl ?_
  refine g_iload_n (i := 2) dd_157_8 rfl ?_
  refine g_iconst dd_157_9 ic_2 ?_
  refine e_iadd (v := 3 * i + 2) dd_157_10 (by omega) ?_
  refine g_iaload dd_157_11 ((ms_o hH rfl).trans a69) (by omega) (by decide) ?_
  have hl_1 := am_ag_lt (R 2) (3 * i + 2)
  refine g_icmp_gt_t (t := 35) dd_157_12 (by decide) (by first | exact sk_gt_t (by omega) (by omega) | exact tk_gt_t (by omega)) ?_
  exact g_return rfl dd_157_35
theorem br2_l {h : am_H} {vs : List Value} {Z R : Nat → Nat} {w f b : Nat} (hH : ms_ok h) (q66 : am_get h 66 = some (.inr (12, vs))) (f2 : vs[2]? = some (.retAddr (Z 0))) (f3 : vs[3]? = some (.ref 67)) (f4 : vs[4]? = some (.retAddr (Z 1))) (f5 : vs[5]? = some (.ref 68)) (f6 : vs[6]? = some (.retAddr (Z 2))) (f7 : vs[7]? = some (.ref 69)) (f8 : vs[8]? = some (.retAddr (Z 3))) (f9 : vs[9]? = some (.ref 70)) (f32 : vs[32]? = some (.ref 81)) (f33 : vs[33]? = some (.ref 82)) (f34 : vs[34]? = some (.ref 83)) (a67 : am_get h 67 = some (.inl (0, 4, R 0))) (a68 : am_get h 68 = some (.inl (0, 45, R 1))) (a69 : am_get h 69 = some (.inl (0, 18, R 2))) (a70 : am_get h 70 = some (.inl (0, 16, R 3))) (vZ : ∀ k, k < 6 → Z k ≤ je_z k) (hB : je_B Z R) {i : Nat} (hi : i < Z 2) : ∀ (k j : Nat), j + k = am_ag (R 2) (3 * i + 2) + 1 - am_ag (R 2) (3 * i + 1) → am_Good mi_157 6 [some (.ref 66), some (.ref 69), some (.retAddr (3 * i)), some (.retAddr (am_ag (R 2) (3 * i + 1) + j))] [] (ms h w f (fl b (64 * am_ag (R 2) (3 * i) + am_ag (R 2) (3 * i + 1)) 1 j)) (none, (ms h w f (fl b (64 * am_ag (R 2) (3 * i) + am_ag (R 2) (3 * i + 1)) 1 (am_ag (R 2) (3 * i + 2) + 1 - am_ag (R 2) (3 * i + 1)))))
  | 0, j, e => by
    have b1 : am_ag (R 2) (3 * i + 1) ≤ 59 := hB 2 (by decide) i (by omega) 1 (by decide)
    have b2 : am_ag (R 2) (3 * i + 2) ≤ 59 := hB 2 (by decide) i (by omega) 2 (by decide)
    have e' : j = am_ag (R 2) (3 * i + 2) + 1 - am_ag (R 2) (3 * i + 1) := by omega
    rw [← e']
    exact br2_2 hH q66 f2 f3 f4 f5 f6 f7 f8 f9 f32 f33 f34 a67 a68 a69 a70 vZ hB hi (by omega) (by omega)
  | k + 1, j, e => by
    have q := br2_l (w := w) (f := f) (b := b) hH q66 f2 f3 f4 f5 f6 f7 f8 f9 f32 f33 f34 a67 a68 a69 a70 vZ hB hi k (j + 1) (by omega)
    refine br2_1 hH q66 f2 f3 f4 f5 f6 f7 f8 f9 f32 f33 f34 a67 a68 a69 a70 vZ hB hi (by omega) ?_
    rw [show 64 * am_ag (R 2) (3 * i) + (am_ag (R 2) (3 * i + 1) + j) = 64 * am_ag (R 2) (3 * i) + am_ag (R 2) (3 * i + 1) + j by omega]
    exact q
theorem br2_m {h : am_H} {vs : List Value} {Z R : Nat → Nat} {w f b : Nat} (hH : ms_ok h) (q66 : am_get h 66 = some (.inr (12, vs))) (f2 : vs[2]? = some (.retAddr (Z 0))) (f3 : vs[3]? = some (.ref 67)) (f4 : vs[4]? = some (.retAddr (Z 1))) (f5 : vs[5]? = some (.ref 68)) (f6 : vs[6]? = some (.retAddr (Z 2))) (f7 : vs[7]? = some (.ref 69)) (f8 : vs[8]? = some (.retAddr (Z 3))) (f9 : vs[9]? = some (.ref 70)) (f32 : vs[32]? = some (.ref 81)) (f33 : vs[33]? = some (.ref 82)) (f34 : vs[34]? = some (.ref 83)) (a67 : am_get h 67 = some (.inl (0, 4, R 0))) (a68 : am_get h 68 = some (.inl (0, 45, R 1))) (a69 : am_get h 69 = some (.inl (0, 18, R 2))) (a70 : am_get h 70 = some (.inl (0, 16, R 3))) (vZ : ∀ k, k < 6 → Z k ≤ je_z k) (hB : je_B Z R) {i : Nat} (hi : i < Z 2) : am_EG mi_157 [.ref 66, .ref 69, .retAddr (3 * i)] (ms h w f b) (none, (ms h w f (fl b (64 * am_ag (R 2) (3 * i) + am_ag (R 2) (3 * i + 1)) 1 (am_ag (R 2) (3 * i + 2) + 1 - am_ag (R 2) (3 * i + 1))))) := by
  refine am_enter (n := 1) tk_157.2.1 (by simp [Value.category]) (Nat.le_of_ble_eq_true rfl) ?_
  show am_Good mi_157 0 [some (.ref 66), some (.ref 69), some (.retAddr (3 * i)), none] [] (ms h w f b) _
  have z0 : Z 0 ≤ 4 := vZ 0 (by decide)
  have z1 : Z 1 ≤ 9 := vZ 1 (by decide)
  have z2 : Z 2 ≤ 6 := vZ 2 (by decide)
  have z3 : Z 3 ≤ 4 := vZ 3 (by decide)
  have b0 : am_ag (R 2) (3 * i + 0) ≤ 3 := hB 2 (by decide) i (by omega) 0 (by decide)
  have b1 : am_ag (R 2) (3 * i + 1) ≤ 59 := hB 2 (by decide) i (by omega) 1 (by decide)
  have b2 : am_ag (R 2) (3 * i + 2) ≤ 59 := hB 2 (by decide) i (by omega) 2 (by decide)
  have b0 : am_ag (R 2) (3 * i) ≤ 3 := b0
  refine g_aload_n (i := 1) dd_157_0 rfl ?_
  refine g_iload_n (i := 2) dd_157_1 rfl ?_
  refine g_iconst dd_157_2 ic_1 ?_
  refine e_iadd (v := 3 * i + 1) dd_157_3 (by omega) ?_
  refine g_iaload dd_157_4 ((ms_o hH rfl).trans a69) (by omega) (by decide) ?_
  have hl_1 := am_ag_lt (R 2) (3 * i + 1)
  refine g_istore_n (i := 3) dd_157_5 (am_nlb_ok rfl) (by decide) ?_
  exact br2_l hH q66 f2 f3 f4 f5 f6 f7 f8 f9 f32 f33 f34 a67 a68 a69 a70 vZ hB hi (am_ag (R 2) (3 * i + 2) + 1 - am_ag (R 2) (3 * i + 1)) 0 (by omega)
theorem br3_1 {h : am_H} {vs : List Value} {Z R : Nat → Nat} {w f b : Nat} (hH : ms_ok h) (q66 : am_get h 66 = some (.inr (12, vs))) (f2 : vs[2]? = some (.retAddr (Z 0))) (f3 : vs[3]? = some (.ref 67)) (f4 : vs[4]? = some (.retAddr (Z 1))) (f5 : vs[5]? = some (.ref 68)) (f6 : vs[6]? = some (.retAddr (Z 2))) (f7 : vs[7]? = some (.ref 69)) (f8 : vs[8]? = some (.retAddr (Z 3))) (f9 : vs[9]? = some (.ref 70)) (f32 : vs[32]? = some (.ref 81)) (f33 : vs[33]? = some (.ref 82)) (f34 : vs[34]? = some (.ref 83)) (a67 : am_get h 67 = some (.inl (0, 4, R 0))) (a68 : am_get h 68 = some (.inl (0, 45, R 1))) (a69 : am_get h 69 = some (.inl (0, 18, R 2))) (a70 : am_get h 70 = some (.inl (0, 16, R 3))) (vZ : ∀ k, k < 6 → Z k ≤ je_z k) (hB : je_B Z R) {r : am_R} {i j : Nat} (hi : i < Z 3) (hj : am_ag (R 3) (4 * i + 1) + j ≤ am_ag (R 3) (4 * i + 2)) (hg : am_Good mi_157 6 [some (.ref 66), some (.ref 70), some (.retAddr (4 * i)), some (.retAddr (am_ag (R 3) (4 * i + 1) + (j + 1)))] [] (ms h w f (am_as b (64 * am_ag (R 3) (4 * i) + (am_ag (R 3) (4 * i + 1) + j)) 1)) r) : am_Good mi_157 6 [some (.ref 66), some (.ref 70), some (.retAddr (4 * i)), some (.retAddr (am_ag (R 3) (4 * i + 1) + j))] [] (ms h w f b) r := by
  have z0 : Z 0 ≤ 4 := vZ 0 (by decide)
  have z1 : Z 1 ≤ 9 := vZ 1 (by decide)
  have z2 : Z 2 ≤ 6 := vZ 2 (by decide)
  have z3 : Z 3 ≤ 4 := vZ 3 (by decide)
  have b0 : am_ag (R 3) (4 * i + 0) ≤ 3 := hB 3 (by decide) i (by omega) 0 (by decide)
  have b1 : am_ag (R 3) (4 * i + 1) ≤ 59 := hB 3 (by decide) i (by omega) 1 (by decide)
  have b2 : am_ag (R 3) (4 * i + 2) ≤ 59 := hB 3 (by decide) i (by omega) 2 (by decide)
  have b0 : am_ag (R 3) (4 * i) ≤ 3 := b0
  refine g_iload_n (i := 3) dd_157_6 rfl ?_
  refine g_aload_n (i := 1) dd_157_7 rfl ?_
  refine g_iload_n (i := 2) dd_157_8 rfl ?_
  refine g_iconst dd_157_9 ic_2 ?_
  refine e_iadd (v := 4 * i + 2) dd_157_10 (by omega) ?_
  refine g_iaload dd_157_11 ((ms_o hH rfl).trans a70) (by omega) (by decide) ?_
  have hl_1 := am_ag_lt (R 3) (4 * i + 2)
  refine g_icmp_gt_f (t := 35) dd_157_12 (by decide) (by first | exact sk_gt_f (by omega) (by omega) | exact tk_gt_f (by omega)) ?_
  refine g_aload_n (i := 0) dd_157_15 rfl ?_
  refine g_getfield (k := 34) am_ck12 (by decide) (Or.inl w_969) dd_157_16 ((ms_o hH rfl).trans q66) f34 ?_
  refine g_bipush dd_157_19 bi_64 ?_
  refine g_aload_n (i := 1) dd_157_21 rfl ?_
  refine g_iload_n (i := 2) dd_157_22 rfl ?_
  refine g_iaload dd_157_23 ((ms_o hH rfl).trans a70) (by omega) (by decide) ?_
  have hl_2 := am_ag_lt (R 3) (4 * i)
  refine e_imul (v := 64 * (am_ag (R 3) (4 * i))) dd_157_24 (by omega) ?_
  refine g_iload_n (i := 3) dd_157_25 rfl ?_
  refine e_iadd (v := (64 * (am_ag (R 3) (4 * i))) + (am_ag (R 3) (4 * i + 1) + j)) dd_157_26 (by omega) ?_
  refine g_iconst dd_157_27 ic_1 ?_
  refine g_zastore dd_157_28 (ms_g83 hH) (by omega) (by decide) ?_
  refine am_heq (ms_u83 hH) ?_
  show am_Good mi_157 29 [some (.ref 66), some (.ref 70), some (.retAddr (4 * i)), some (.retAddr (am_ag (R 3) (4 * i + 1) + j))] [] (ms h w f (am_as b ((64 * (am_ag (R 3) (4 * i))) + (am_ag (R 3) (4 * i + 1) + j)) 1)) _
  refine e_iinc (v := 1) (w := am_ag (R 3) (4 * i + 1) + j + 1) dd_157_29 rfl ic_1 (am_nlb_ok rfl) (by decide) (by omega) ?_
  refine g_goto (t := 6) dd_157_32 (by decide) ?_
  exact hg
theorem br3_2 {h : am_H} {vs : List Value} {Z R : Nat → Nat} {w f b : Nat} (hH : ms_ok h) (q66 : am_get h 66 = some (.inr (12, vs))) (f2 : vs[2]? = some (.retAddr (Z 0))) (f3 : vs[3]? = some (.ref 67)) (f4 : vs[4]? = some (.retAddr (Z 1))) (f5 : vs[5]? = some (.ref 68)) (f6 : vs[6]? = some (.retAddr (Z 2))) (f7 : vs[7]? = some (.ref 69)) (f8 : vs[8]? = some (.retAddr (Z 3))) (f9 : vs[9]? = some (.ref 70)) (f32 : vs[32]? = some (.ref 81)) (f33 : vs[33]? = some (.ref 82)) (f34 : vs[34]? = some (.ref 83)) (a67 : am_get h 67 = some (.inl (0, 4, R 0))) (a68 : am_get h 68 = some (.inl (0, 45, R 1))) (a69 : am_get h 69 = some (.inl (0, 18, R 2))) (a70 : am_get h 70 = some (.inl (0, 16, R 3))) (vZ : ∀ k, k < 6 → Z k ≤ je_z k) (hB : je_B Z R) {i j : Nat} (hi : i < Z 3) (hj : j ≤ 60) (ht : am_ag (R 3) (4 * i + 2) < am_ag (R 3) (4 * i + 1) + j) : am_Good mi_157 6 [some (.ref 66), some (.ref 70), some (.retAddr (4 * i)), some (.retAddr (am_ag (R 3) (4 * i + 1) + j))] [] (ms h w f b) (none, (ms h w f b)) := by
  have z0 : Z 0 ≤ 4 := vZ 0 (by decide)
  have z1 : Z 1 ≤ 9 := vZ 1 (by decide)
  have z2 : Z 2 ≤ 6 := vZ 2 (by decide)
  have z3 : Z 3 ≤ 4 := vZ 3 (by decide)
  have b0 : am_ag (R 3) (4 * i + 0) ≤ 3 := hB 3 (by decide) i (by omega) 0 (by decide)
  have b1 : am_ag (R 3) (4 * i + 1) ≤ 59 := hB 3 (by decide) i (by omega) 1 (by decide)
  have b2 : am_ag (R 3) (4 * i + 2) ≤ 59 := hB 3 (by decide) i (by omega) 2 (by decide)
  have b0 : am_ag (R 3) (4 * i) ≤ 3 := b0
  refine g_iload_n (i := 3) dd_157_6 rfl ?_
  refine g_aload_n (i := 1) dd_157_7 rfl ?_
  refine g_iload_n (i := 2) dd_157_8 rfl ?_
  refine g_iconst dd_157_9 ic_2 ?_
  refine e_iadd (v := 4 * i + 2) dd_157_10 (by omega) ?_
  refine g_iaload dd_157_11 ((ms_o hH rfl).trans a70) (by omega) (by decide) ?_
  have hl_1 := am_ag_lt (R 3) (4 * i + 2)
  refine g_icmp_gt_t (t := 35) dd_157_12 (by decide) (by first | exact sk_gt_t (by omega) (by omega) | exact tk_gt_t (by omega)) ?_
  exact g_return rfl dd_157_35
theorem br3_l {h : am_H} {vs : List Value} {Z R : Nat → Nat} {w f b : Nat} (hH : ms_ok h) (q66 : am_get h 66 = some (.inr (12, vs))) (f2 : vs[2]? = some (.retAddr (Z 0))) (f3 : vs[3]? = some (.ref 67)) (f4 : vs[4]? = some (.retAddr (Z 1))) (f5 : vs[5]? = some (.ref 68)) (f6 : vs[6]? = some (.retAddr (Z 2))) (f7 : vs[7]? = some (.ref 69)) (f8 : vs[8]? = some (.retAddr (Z 3))) (f9 : vs[9]? = some (.ref 70)) (f32 : vs[32]? = some (.ref 81)) (f33 : vs[33]? = some (.ref 82)) (f34 : vs[34]? = some (.ref 83)) (a67 : am_get h 67 = some (.inl (0, 4, R 0))) (a68 : am_get h 68 = some (.inl (0, 45, R 1))) (a69 : am_get h 69 = some (.inl (0, 18, R 2))) (a70 : am_get h 70 = some (.inl (0, 16, R 3))) (vZ : ∀ k, k < 6 → Z k ≤ je_z k) (hB : je_B Z R) {i : Nat} (hi : i < Z 3) : ∀ (k j : Nat), j + k = am_ag (R 3) (4 * i + 2) + 1 - am_ag (R 3) (4 * i + 1) → am_Good mi_157 6 [some (.ref 66), some (.ref 70), some (.retAddr (4 * i)), some (.retAddr (am_ag (R 3) (4 * i + 1) + j))] [] (ms h w f (fl b (64 * am_ag (R 3) (4 * i) + am_ag (R 3) (4 * i + 1)) 1 j)) (none, (ms h w f (fl b (64 * am_ag (R 3) (4 * i) + am_ag (R 3) (4 * i + 1)) 1 (am_ag (R 3) (4 * i + 2) + 1 - am_ag (R 3) (4 * i + 1)))))
  | 0, j, e => by
    have b1 : am_ag (R 3) (4 * i + 1) ≤ 59 := hB 3 (by decide) i (by omega) 1 (by decide)
    have b2 : am_ag (R 3) (4 * i + 2) ≤ 59 := hB 3 (by decide) i (by omega) 2 (by decide)
    have e' : j = am_ag (R 3) (4 * i + 2) + 1 - am_ag (R 3) (4 * i + 1) := by omega
    rw [← e']
    exact br3_2 hH q66 f2 f3 f4 f5 f6 f7 f8 f9 f32 f33 f34 a67 a68 a69 a70 vZ hB hi (by omega) (by omega)
  | k + 1, j, e => by
    have q := br3_l (w := w) (f := f) (b := b) hH q66 f2 f3 f4 f5 f6 f7 f8 f9 f32 f33 f34 a67 a68 a69 a70 vZ hB hi k (j + 1) (by omega)
    refine br3_1 hH q66 f2 f3 f4 f5 f6 f7 f8 f9 f32 f33 f34 a67 a68 a69 a70 vZ hB hi (by omega) ?_
    rw [show 64 * am_ag (R 3) (4 * i) + (am_ag (R 3) (4 * i + 1) + j) = 64 * am_ag (R 3) (4 * i) + am_ag (R 3) (4 * i + 1) + j by omega]
    exact q
theorem br3_m {h : am_H} {vs : List Value} {Z R : Nat → Nat} {w f b : Nat} (hH : ms_ok h) (q66 : am_get h 66 = some (.inr (12, vs))) (f2 : vs[2]? = some (.retAddr (Z 0))) (f3 : vs[3]? = some (.ref 67)) (f4 : vs[4]? = some (.retAddr (Z 1))) (f5 : vs[5]? = some (.ref 68)) (f6 : vs[6]? = some (.retAddr (Z 2))) (f7 : vs[7]? = some (.ref 69)) (f8 : vs[8]? = some (.retAddr (Z 3))) (f9 : vs[9]? = some (.ref 70)) (f32 : vs[32]? = some (.ref 81)) (f33 : vs[33]? = some (.ref 82)) (f34 : vs[34]? = some (.ref 83)) (a67 : am_get h 67 = some (.inl (0, 4, R 0))) (a68 : am_get h 68 = some (.inl (0, 45, R 1))) (a69 : am_get h 69 = some (.inl (0, 18, R 2))) (a70 : am_get h 70 = some (.inl (0, 16, R 3))) (vZ : ∀ k, k < 6 → Z k ≤ je_z k) (hB : je_B Z R) {i : Nat} (hi : i < Z 3) : am_EG mi_157 [.ref 66, .ref 70, .retAddr (4 * i)] (ms h w f b) (none, (ms h w f (fl b (64 * am_ag (R 3) (4 * i) + am_ag (R 3) (4 * i + 1)) 1 (am_ag (R 3) (4 * i + 2) + 1 - am_ag (R 3) (4 * i + 1))))) := by
  refine am_enter (n := 1) tk_157.2.1 (by simp [Value.category]) (Nat.le_of_ble_eq_true rfl) ?_
  show am_Good mi_157 0 [some (.ref 66), some (.ref 70), some (.retAddr (4 * i)), none] [] (ms h w f b) _
  have z0 : Z 0 ≤ 4 := vZ 0 (by decide)
  have z1 : Z 1 ≤ 9 := vZ 1 (by decide)
  have z2 : Z 2 ≤ 6 := vZ 2 (by decide)
  have z3 : Z 3 ≤ 4 := vZ 3 (by decide)
  have b0 : am_ag (R 3) (4 * i + 0) ≤ 3 := hB 3 (by decide) i (by omega) 0 (by decide)
  have b1 : am_ag (R 3) (4 * i + 1) ≤ 59 := hB 3 (by decide) i (by omega) 1 (by decide)
  have b2 : am_ag (R 3) (4 * i + 2) ≤ 59 := hB 3 (by decide) i (by omega) 2 (by decide)
  have b0 : am_ag (R 3) (4 * i) ≤ 3 := b0
  refine g_aload_n (i := 1) dd_157_0 rfl ?_
  refine g_iload_n (i := 2) dd_157_1 rfl ?_
  refine g_iconst dd_157_2 ic_1 ?_
  refine e_iadd (v := 4 * i + 1) dd_157_3 (by omega) ?_
  refine g_iaload dd_157_4 ((ms_o hH rfl).trans a70) (by omega) (by decide) ?_
  have hl_1 := am_ag_lt (R 3) (4 * i + 1)
  refine g_istore_n (i := 3) dd_157_5 (am_nlb_ok rfl) (by decide) ?_
  exact br3_l hH q66 f2 f3 f4 f5 f6 f7 f8 f9 f32 f33 f34 a67 a68 a69 a70 vZ hB hi (am_ag (R 3) (4 * i + 2) + 1 - am_ag (R 3) (4 * i + 1)) 0 (by omega)
theorem lb_y {h : am_H} {vs : List Value} {Z R : Nat → Nat} {w f b : Nat} (hH : ms_ok h) (q66 : am_get h 66 = some (.inr (12, vs))) (f2 : vs[2]? = some (.retAddr (Z 0))) (f3 : vs[3]? = some (.ref 67)) (f4 : vs[4]? = some (.retAddr (Z 1))) (f5 : vs[5]? = some (.ref 68)) (f6 : vs[6]? = some (.retAddr (Z 2))) (f7 : vs[7]? = some (.ref 69)) (f8 : vs[8]? = some (.retAddr (Z 3))) (f9 : vs[9]? = some (.ref 70)) (f32 : vs[32]? = some (.ref 81)) (f33 : vs[33]? = some (.ref 82)) (f34 : vs[34]? = some (.ref 83)) (a67 : am_get h 67 = some (.inl (0, 4, R 0))) (a68 : am_get h 68 = some (.inl (0, 45, R 1))) (a69 : am_get h 69 = some (.inl (0, 18, R 2))) (a70 : am_get h 70 = some (.inl (0, 16, R 3))) (vZ : ∀ k, k < 6 → Z k ≤ je_z k) (hB : je_B Z R) {r : am_R} {k : Nat} (hk : k < 256) (hb : am_ag b k ≠ 0) (hg : am_Good mi_159 2 [some (.ref 66), some (.retAddr (k + 1))] [] (ms h (am_as w k 0) (am_as f k 4294967292) b) r) : am_Good mi_159 2 [some (.ref 66), some (.retAddr k)] [] (ms h w f b) r := by
  refine g_iload_n (i := 1) dd_159_2 rfl ?_
  refine g_sipush dd_159_3 si_256 ?_
  refine g_icmp_ge_f (t := 66) dd_159_6 (by decide) (by first | exact sk_ge_f (by omega) (by omega) | exact tk_ge_f (by omega)) ?_
  refine g_aload_n (i := 0) dd_159_9 rfl ?_
  refine g_getfield (k := 32) am_ck12 (by decide) (Or.inl w_967) dd_159_10 ((ms_o hH rfl).trans q66) f32 ?_
  refine g_iload_n (i := 1) dd_159_13 rfl ?_
  refine g_aload_n (i := 0) dd_159_14 rfl ?_
  refine g_getfield (k := 34) am_ck12 (by decide) (Or.inl w_969) dd_159_15 ((ms_o hH rfl).trans q66) f34 ?_
  refine g_iload_n (i := 1) dd_159_18 rfl ?_
  refine g_zaload dd_159_19 (ms_g83 hH) (by omega) (by decide) ?_
  have hl_1 := am_ag_lt b k
  refine g_if_eq_f (t := 27) dd_159_20 (by decide) (tk_eq_f (by omega)) ?_
  refine g_iconst dd_159_23 ic_0 ?_
  refine g_goto (t := 33) dd_159_24 (by decide) ?_
  refine g_iastore dd_159_33 (ms_g81 hH) (by omega) (by decide) ?_
  refine am_heq (ms_u81 hH) ?_
  show am_Good mi_159 34 [some (.ref 66), some (.retAddr k)] [] (ms h (am_as w k 0) f b) _
  refine g_aload_n (i := 0) dd_159_34 rfl ?_
  refine g_getfield (k := 33) am_ck12 (by decide) (Or.inl w_968) dd_159_35 ((ms_o hH rfl).trans q66) f33 ?_
  refine g_iload_n (i := 1) dd_159_38 rfl ?_
  refine g_aload_n (i := 0) dd_159_39 rfl ?_
  refine g_getfield (k := 34) am_ck12 (by decide) (Or.inl w_969) dd_159_40 ((ms_o hH rfl).trans q66) f34 ?_
  refine g_iload_n (i := 1) dd_159_43 rfl ?_
  refine g_zaload dd_159_44 (ms_g83 hH) (by omega) (by decide) ?_
  have hl_2 := am_ag_lt b k
  refine g_if_eq_f (t := 53) dd_159_45 (by decide) (tk_eq_f (by omega)) ?_
  refine g_bipush dd_159_48 bi_m4 ?_
  refine g_goto (t := 59) dd_159_50 (by decide) ?_
  refine g_iastore dd_159_59 (ms_g82 hH) (by omega) (by decide) ?_
  refine am_heq (ms_u82 hH) ?_
  show am_Good mi_159 60 [some (.ref 66), some (.retAddr k)] [] (ms h (am_as w k 0) (am_as f k 4294967292) b) _
  refine e_iinc (v := 1) (w := k + 1) dd_159_60 rfl ic_1 (am_nlb_ok rfl) (by decide) (by omega) ?_
  refine g_goto (t := 2) dd_159_63 (by decide) ?_
  exact hg
theorem lb_n {h : am_H} {vs : List Value} {Z R : Nat → Nat} {w f b : Nat} (hH : ms_ok h) (q66 : am_get h 66 = some (.inr (12, vs))) (f2 : vs[2]? = some (.retAddr (Z 0))) (f3 : vs[3]? = some (.ref 67)) (f4 : vs[4]? = some (.retAddr (Z 1))) (f5 : vs[5]? = some (.ref 68)) (f6 : vs[6]? = some (.retAddr (Z 2))) (f7 : vs[7]? = some (.ref 69)) (f8 : vs[8]? = some (.retAddr (Z 3))) (f9 : vs[9]? = some (.ref 70)) (f32 : vs[32]? = some (.ref 81)) (f33 : vs[33]? = some (.ref 82)) (f34 : vs[34]? = some (.ref 83)) (a67 : am_get h 67 = some (.inl (0, 4, R 0))) (a68 : am_get h 68 = some (.inl (0, 45, R 1))) (a69 : am_get h 69 = some (.inl (0, 18, R 2))) (a70 : am_get h 70 = some (.inl (0, 16, R 3))) (vZ : ∀ k, k < 6 → Z k ≤ je_z k) (hB : je_B Z R) {r : am_R} {k : Nat} (hk : k < 256) (hb : am_ag b k = 0) (hg : am_Good mi_159 2 [some (.ref 66), some (.retAddr (k + 1))] [] (ms h (am_as w k (am_ag w k)) (am_as f k (am_ag f k)) b) r) : am_Good mi_159 2 [some (.ref 66), some (.retAddr k)] [] (ms h w f b) r := by
  refine g_iload_n (i := 1) dd_159_2 rfl ?_
  refine g_sipush dd_159_3 si_256 ?_
  refine g_icmp_ge_f (t := 66) dd_159_6 (by decide) (by first | exact sk_ge_f (by omega) (by omega) | exact tk_ge_f (by omega)) ?_
  refine g_aload_n (i := 0) dd_159_9 rfl ?_
  refine g_getfield (k := 32) am_ck12 (by decide) (Or.inl w_967) dd_159_10 ((ms_o hH rfl).trans q66) f32 ?_
  refine g_iload_n (i := 1) dd_159_13 rfl ?_
  refine g_aload_n (i := 0) dd_159_14 rfl ?_
  refine g_getfield (k := 34) am_ck12 (by decide) (Or.inl w_969) dd_159_15 ((ms_o hH rfl).trans q66) f34 ?_
  refine g_iload_n (i := 1) dd_159_18 rfl ?_
  refine g_zaload dd_159_19 (ms_g83 hH) (by omega) (by decide) ?_
  have hl_1 := am_ag_lt b k
  refine g_if_eq_t (t := 27) dd_159_20 (by decide) (tk_eq_t (by omega)) ?_
  refine g_aload_n (i := 0) dd_159_27 rfl ?_
  refine g_getfield (k := 32) am_ck12 (by decide) (Or.inl w_967) dd_159_28 ((ms_o hH rfl).trans q66) f32 ?_
  refine g_iload_n (i := 1) dd_159_31 rfl ?_
  refine g_iaload dd_159_32 (ms_g81 hH) (by omega) (by decide) ?_
  have hl_2 := am_ag_lt w k
  refine g_iastore dd_159_33 (ms_g81 hH) (by omega) (by decide) ?_
  refine am_heq (ms_u81 hH) ?_
  show am_Good mi_159 34 [some (.ref 66), some (.retAddr k)] [] (ms h (am_as w k (am_ag w k)) f b) _
  refine g_aload_n (i := 0) dd_159_34 rfl ?_
  refine g_getfield (k := 33) am_ck12 (by decide) (Or.inl w_968) dd_159_35 ((ms_o hH rfl).trans q66) f33 ?_
  refine g_iload_n (i := 1) dd_159_38 rfl ?_
  refine g_aload_n (i := 0) dd_159_39 rfl ?_
  refine g_getfield (k := 34) am_ck12 (by decide) (Or.inl w_969) dd_159_40 ((ms_o hH rfl).trans q66) f34 ?_
  refine g_iload_n (i := 1) dd_159_43 rfl ?_
  refine g_zaload dd_159_44 (ms_g83 hH) (by omega) (by decide) ?_
  have hl_3 := am_ag_lt b k
  refine g_if_eq_t (t := 53) dd_159_45 (by decide) (tk_eq_t (by omega)) ?_
  refine g_aload_n (i := 0) dd_159_53 rfl ?_
  refine g_getfield (k := 33) am_ck12 (by decide) (Or.inl w_968) dd_159_54 ((ms_o hH rfl).trans q66) f33 ?_
  refine g_iload_n (i := 1) dd_159_57 rfl ?_
  refine g_iaload dd_159_58 (ms_g82 hH) (by omega) (by decide) ?_
  have hl_4 := am_ag_lt f k
  refine g_iastore dd_159_59 (ms_g82 hH) (by omega) (by decide) ?_
  refine am_heq (ms_u82 hH) ?_
  show am_Good mi_159 60 [some (.ref 66), some (.retAddr k)] [] (ms h (am_as w k (am_ag w k)) (am_as f k (am_ag f k)) b) _
  refine e_iinc (v := 1) (w := k + 1) dd_159_60 rfl ic_1 (am_nlb_ok rfl) (by decide) (by omega) ?_
  refine g_goto (t := 2) dd_159_63 (by decide) ?_
  exact hg
theorem lb_e {h : am_H} {vs : List Value} {Z R : Nat → Nat} {w f b : Nat} (hH : ms_ok h) (q66 : am_get h 66 = some (.inr (12, vs))) (f2 : vs[2]? = some (.retAddr (Z 0))) (f3 : vs[3]? = some (.ref 67)) (f4 : vs[4]? = some (.retAddr (Z 1))) (f5 : vs[5]? = some (.ref 68)) (f6 : vs[6]? = some (.retAddr (Z 2))) (f7 : vs[7]? = some (.ref 69)) (f8 : vs[8]? = some (.retAddr (Z 3))) (f9 : vs[9]? = some (.ref 70)) (f32 : vs[32]? = some (.ref 81)) (f33 : vs[33]? = some (.ref 82)) (f34 : vs[34]? = some (.ref 83)) (a67 : am_get h 67 = some (.inl (0, 4, R 0))) (a68 : am_get h 68 = some (.inl (0, 45, R 1))) (a69 : am_get h 69 = some (.inl (0, 18, R 2))) (a70 : am_get h 70 = some (.inl (0, 16, R 3))) (vZ : ∀ k, k < 6 → Z k ≤ je_z k) (hB : je_B Z R) : am_Good mi_159 2 [some (.ref 66), some (.retAddr 256)] [] (ms h w f b) (none, (ms h w f b)) := by
  refine g_iload_n (i := 1) dd_159_2 rfl ?_
  refine g_sipush dd_159_3 si_256 ?_
  refine g_icmp_ge_t (t := 66) dd_159_6 (by decide) (by decide) ?_
  exact g_return rfl dd_159_66
theorem lb_l {h : am_H} {vs : List Value} {Z R : Nat → Nat} {w f b : Nat} (hH : ms_ok h) (q66 : am_get h 66 = some (.inr (12, vs))) (f2 : vs[2]? = some (.retAddr (Z 0))) (f3 : vs[3]? = some (.ref 67)) (f4 : vs[4]? = some (.retAddr (Z 1))) (f5 : vs[5]? = some (.ref 68)) (f6 : vs[6]? = some (.retAddr (Z 2))) (f7 : vs[7]? = some (.ref 69)) (f8 : vs[8]? = some (.retAddr (Z 3))) (f9 : vs[9]? = some (.ref 70)) (f32 : vs[32]? = some (.ref 81)) (f33 : vs[33]? = some (.ref 82)) (f34 : vs[34]? = some (.ref 83)) (a67 : am_get h 67 = some (.inl (0, 4, R 0))) (a68 : am_get h 68 = some (.inl (0, 45, R 1))) (a69 : am_get h 69 = some (.inl (0, 18, R 2))) (a70 : am_get h 70 = some (.inl (0, 16, R 3))) (vZ : ∀ k, k < 6 → Z k ≤ je_z k) (hB : je_B Z R) : ∀ (k i : Nat), i + k = 256 → am_Good mi_159 2 [some (.ref 66), some (.retAddr i)] [] (ms h (zf (lb b w 0) w i) (zf (lb b f 4294967292) f i) b) (none, (ms h (zf (lb b w 0) w 256) (zf (lb b f 4294967292) f 256) b))
  | 0, i, e => by
    have e' : i = 256 := by omega
    subst e'
    exact lb_e hH q66 f2 f3 f4 f5 f6 f7 f8 f9 f32 f33 f34 a67 a68 a69 a70 vZ hB
  | k + 1, i, e => by
    have q := lb_l (w := w) (f := f) (b := b) hH q66 f2 f3 f4 f5 f6 f7 f8 f9 f32 f33 f34 a67 a68 a69 a70 vZ hB k (i + 1) (by omega)
    have e1 : am_ag (zf (lb b w 0) w i) i = am_ag w i := by rw [zf_ag, if_neg (Nat.lt_irrefl i)]
    have e2 : am_ag (zf (lb b f 4294967292) f i) i = am_ag f i := by rw [zf_ag, if_neg (Nat.lt_irrefl i)]
    have s : ∀ x v, zf (lb b x v) x (i + 1) = am_as (zf (lb b x v) x i) i (lb b x v i) := fun _ _ => rfl
    rw [s, s] at q
    by_cases hb : am_ag b i = 0
    · have l1 : ∀ x v, lb b x v i = am_ag x i := fun x v => if_pos hb
      rw [l1, l1] at q
      refine lb_n hH q66 f2 f3 f4 f5 f6 f7 f8 f9 f32 f33 f34 a67 a68 a69 a70 vZ hB (by omega) hb ?_
      rw [e1, e2]
      exact q
    · have l1 : ∀ x v, lb b x v i = v := fun x v => if_neg hb
      rw [l1, l1] at q
      exact lb_y hH q66 f2 f3 f4 f5 f6 f7 f8 f9 f32 f33 f34 a67 a68 a69 a70 vZ hB (by omega) hb q
theorem lb_m {h : am_H} {vs : List Value} {Z R : Nat → Nat} {w f b : Nat} (hH : ms_ok h) (q66 : am_get h 66 = some (.inr (12, vs))) (f2 : vs[2]? = some (.retAddr (Z 0))) (f3 : vs[3]? = some (.ref 67)) (f4 : vs[4]? = some (.retAddr (Z 1))) (f5 : vs[5]? = some (.ref 68)) (f6 : vs[6]? = some (.retAddr (Z 2))) (f7 : vs[7]? = some (.ref 69)) (f8 : vs[8]? = some (.retAddr (Z 3))) (f9 : vs[9]? = some (.ref 70)) (f32 : vs[32]? = some (.ref 81)) (f33 : vs[33]? = some (.ref 82)) (f34 : vs[34]? = some (.ref 83)) (a67 : am_get h 67 = some (.inl (0, 4, R 0))) (a68 : am_get h 68 = some (.inl (0, 45, R 1))) (a69 : am_get h 69 = some (.inl (0, 18, R 2))) (a70 : am_get h 70 = some (.inl (0, 16, R 3))) (vZ : ∀ k, k < 6 → Z k ≤ je_z k) (hB : je_B Z R) : am_EG mi_159 [.ref 66] (ms h w f b) (none, (ms h (zf (lb b w 0) w 256) (zf (lb b f 4294967292) f 256) b)) := by
  refine am_enter (n := 1) tk_159.2.1 (by simp [Value.category]) (Nat.le_of_ble_eq_true rfl) ?_
  show am_Good mi_159 0 [some (.ref 66), none] [] (ms h w f b) _
  refine g_iconst dd_159_0 ic_0 ?_
  refine g_istore_n (i := 1) dd_159_1 (am_nlb_ok rfl) (by decide) ?_
  exact lb_l hH q66 f2 f3 f4 f5 f6 f7 f8 f9 f32 f33 f34 a67 a68 a69 a70 vZ hB 256 0 (by omega)
theorem lc2_y {h : am_H} {vs : List Value} {Z R : Nat → Nat} {w f b : Nat} (hH : ms_ok h) (q66 : am_get h 66 = some (.inr (12, vs))) (f2 : vs[2]? = some (.retAddr (Z 0))) (f3 : vs[3]? = some (.ref 67)) (f4 : vs[4]? = some (.retAddr (Z 1))) (f5 : vs[5]? = some (.ref 68)) (f6 : vs[6]? = some (.retAddr (Z 2))) (f7 : vs[7]? = some (.ref 69)) (f8 : vs[8]? = some (.retAddr (Z 3))) (f9 : vs[9]? = some (.ref 70)) (f32 : vs[32]? = some (.ref 81)) (f33 : vs[33]? = some (.ref 82)) (f34 : vs[34]? = some (.ref 83)) (a67 : am_get h 67 = some (.inl (0, 4, R 0))) (a68 : am_get h 68 = some (.inl (0, 45, R 1))) (a69 : am_get h 69 = some (.inl (0, 18, R 2))) (a70 : am_get h 70 = some (.inl (0, 16, R 3))) (vZ : ∀ k, k < 6 → Z k ≤ je_z k) (hB : je_B Z R) {r : am_R} {come wo i : Nat} (hco : come < 256) (hi : i < Z 2) (hg : am_Good mi_155 7 [some (.ref 66), some (.retAddr come), some (.retAddr wo), some (.retAddr (i + 1))] [] (ms h w f (fl b (64 * am_ag (R 2) (3 * i) + am_ag (R 2) (3 * i + 1)) 1 (am_ag (R 2) (3 * i + 2) + 1 - am_ag (R 2) (3 * i + 1)))) r) : am_Good mi_155 7 [some (.ref 66), some (.retAddr come), some (.retAddr wo), some (.retAddr i)] [] (ms h w f b) r := by
  have z0 : Z 0 ≤ 4 := vZ 0 (by decide)
  have z1 : Z 1 ≤ 9 := vZ 1 (by decide)
  have z2 : Z 2 ≤ 6 := vZ 2 (by decide)
  have z3 : Z 3 ≤ 4 := vZ 3 (by decide)
  refine g_iload_n (i := 3) dd_155_7 rfl ?_
  refine g_aload_n (i := 0) dd_155_8 rfl ?_
  refine g_getfield (k := 6) am_ck12 (by decide) (Or.inl w_941) dd_155_9 ((ms_o hH rfl).trans q66) f6 ?_
  refine g_icmp_ge_f (t := 32) dd_155_12 (by decide) (by first | exact sk_ge_f (by omega) (by omega) | exact tk_ge_f (by omega)) ?_
  refine g_aload_n (i := 0) dd_155_15 rfl ?_
  refine g_aload_n (i := 0) dd_155_16 rfl ?_
  refine g_getfield (k := 7) am_ck12 (by decide) (Or.inl w_942) dd_155_17 ((ms_o hH rfl).trans q66) f7 ?_
  refine g_iconst dd_155_20 ic_3 ?_
  refine g_iload_n (i := 3) dd_155_21 rfl ?_
  refine e_imul (v := 3 * i) dd_155_22 (by omega) ?_
  refine g_virtual (M' := mi_157) (n := 2) (ci := 12) (b := 66) (as := [.ref 69, .retAddr (3 * i)]) (st := []) (r1 := (none, (ms h w f (fl b (64 * am_ag (R 2) (3 * i) + am_ag (R 2) (3 * i + 1)) 1 (am_ag (R 2) (3 * i + 2) + 1 - am_ag (R 2) (3 * i + 1)))))) w_1200 w_1202 ps_157 ⟨lk_157.1, lk_157.2.1, lk_157.2.2, by decide, by decide⟩ rfl ((ms_o hH rfl).trans q66) rfl (by simp [Value.category]) dd_155_23 (br2_m hH q66 f2 f3 f4 f5 f6 f7 f8 f9 f32 f33 f34 a67 a68 a69 a70 vZ hB hi) ?_
  show am_Good mi_155 26 [some (.ref 66), some (.retAddr come), some (.retAddr wo), some (.retAddr i)] [] (ms h w f (fl b (64 * am_ag (R 2) (3 * i) + am_ag (R 2) (3 * i + 1)) 1 (am_ag (R 2) (3 * i + 2) + 1 - am_ag (R 2) (3 * i + 1)))) _
  refine e_iinc (v := 1) (w := i + 1) dd_155_26 rfl ic_1 (am_nlb_ok rfl) (by decide) (by omega) ?_
  refine g_goto (t := 7) dd_155_29 (by decide) ?_
  exact hg
theorem lc3_y {h : am_H} {vs : List Value} {Z R : Nat → Nat} {w f b : Nat} (hH : ms_ok h) (q66 : am_get h 66 = some (.inr (12, vs))) (f2 : vs[2]? = some (.retAddr (Z 0))) (f3 : vs[3]? = some (.ref 67)) (f4 : vs[4]? = some (.retAddr (Z 1))) (f5 : vs[5]? = some (.ref 68)) (f6 : vs[6]? = some (.retAddr (Z 2))) (f7 : vs[7]? = some (.ref 69)) (f8 : vs[8]? = some (.retAddr (Z 3))) (f9 : vs[9]? = some (.ref 70)) (f32 : vs[32]? = some (.ref 81)) (f33 : vs[33]? = some (.ref 82)) (f34 : vs[34]? = some (.ref 83)) (a67 : am_get h 67 = some (.inl (0, 4, R 0))) (a68 : am_get h 68 = some (.inl (0, 45, R 1))) (a69 : am_get h 69 = some (.inl (0, 18, R 2))) (a70 : am_get h 70 = some (.inl (0, 16, R 3))) (vZ : ∀ k, k < 6 → Z k ≤ je_z k) (hB : je_B Z R) {r : am_R} {come wo i : Nat} (hco : come < 256) (hi : i < Z 3) (hon : come.testBit i = true) (hg : am_Good mi_155 34 [some (.ref 66), some (.retAddr come), some (.retAddr wo), some (.retAddr (i + 1))] [] (ms h w f (fl b (64 * am_ag (R 3) (4 * i) + am_ag (R 3) (4 * i + 1)) 1 (am_ag (R 3) (4 * i + 2) + 1 - am_ag (R 3) (4 * i + 1)))) r) : am_Good mi_155 34 [some (.ref 66), some (.retAddr come), some (.retAddr wo), some (.retAddr i)] [] (ms h w f b) r := by
  have z0 : Z 0 ≤ 4 := vZ 0 (by decide)
  have z1 : Z 1 ≤ 9 := vZ 1 (by decide)
  have z2 : Z 2 ≤ 6 := vZ 2 (by decide)
  have z3 : Z 3 ≤ 4 := vZ 3 (by decide)
  refine g_iload_n (i := 3) dd_155_34 rfl ?_
  refine g_aload_n (i := 0) dd_155_35 rfl ?_
  refine g_getfield (k := 8) am_ck12 (by decide) (Or.inl w_943) dd_155_36 ((ms_o hH rfl).trans q66) f8 ?_
  refine g_icmp_ge_f (t := 67) dd_155_39 (by decide) (by first | exact sk_ge_f (by omega) (by omega) | exact tk_ge_f (by omega)) ?_
  refine g_iload_n (i := 1) dd_155_42 rfl ?_
  refine g_iload_n (i := 3) dd_155_43 rfl ?_
  refine g_static (M' := mi_158) (n := 2) (as := [.retAddr come, .retAddr i]) (st := []) (r1 := (some (.retAddr 1), (ms h w f b))) w_1204 w_1205 ⟨lk_158.1, lk_158.2.1, lk_158.2.2, by decide, by decide⟩ rfl (by simp [Value.category]) dd_155_44 (hs_1 (by omega) (by omega) hon) ?_
  show am_Good mi_155 47 [some (.ref 66), some (.retAddr come), some (.retAddr wo), some (.retAddr i)] [.retAddr 1] (ms h w f b) _
  refine g_if_eq_f (t := 61) dd_155_47 (by decide) (by decide) ?_
  refine g_aload_n (i := 0) dd_155_50 rfl ?_
  refine g_aload_n (i := 0) dd_155_51 rfl ?_
  refine g_getfield (k := 9) am_ck12 (by decide) (Or.inl w_944) dd_155_52 ((ms_o hH rfl).trans q66) f9 ?_
  refine g_iconst dd_155_55 ic_4 ?_
  refine g_iload_n (i := 3) dd_155_56 rfl ?_
  refine e_imul (v := 4 * i) dd_155_57 (by omega) ?_
  refine g_virtual (M' := mi_157) (n := 2) (ci := 12) (b := 66) (as := [.ref 70, .retAddr (4 * i)]) (st := []) (r1 := (none, (ms h w f (fl b (64 * am_ag (R 3) (4 * i) + am_ag (R 3) (4 * i + 1)) 1 (am_ag (R 3) (4 * i + 2) + 1 - am_ag (R 3) (4 * i + 1)))))) w_1200 w_1202 ps_157 ⟨lk_157.1, lk_157.2.1, lk_157.2.2, by decide, by decide⟩ rfl ((ms_o hH rfl).trans q66) rfl (by simp [Value.category]) dd_155_58 (br3_m hH q66 f2 f3 f4 f5 f6 f7 f8 f9 f32 f33 f34 a67 a68 a69 a70 vZ hB hi) ?_
  show am_Good mi_155 61 [some (.ref 66), some (.retAddr come), some (.retAddr wo), some (.retAddr i)] [] (ms h w f (fl b (64 * am_ag (R 3) (4 * i) + am_ag (R 3) (4 * i + 1)) 1 (am_ag (R 3) (4 * i + 2) + 1 - am_ag (R 3) (4 * i + 1)))) _
  refine e_iinc (v := 1) (w := i + 1) dd_155_61 rfl ic_1 (am_nlb_ok rfl) (by decide) (by omega) ?_
  refine g_goto (t := 34) dd_155_64 (by decide) ?_
  exact hg
theorem lc3_n {h : am_H} {vs : List Value} {Z R : Nat → Nat} {w f b : Nat} (hH : ms_ok h) (q66 : am_get h 66 = some (.inr (12, vs))) (f2 : vs[2]? = some (.retAddr (Z 0))) (f3 : vs[3]? = some (.ref 67)) (f4 : vs[4]? = some (.retAddr (Z 1))) (f5 : vs[5]? = some (.ref 68)) (f6 : vs[6]? = some (.retAddr (Z 2))) (f7 : vs[7]? = some (.ref 69)) (f8 : vs[8]? = some (.retAddr (Z 3))) (f9 : vs[9]? = some (.ref 70)) (f32 : vs[32]? = some (.ref 81)) (f33 : vs[33]? = some (.ref 82)) (f34 : vs[34]? = some (.ref 83)) (a67 : am_get h 67 = some (.inl (0, 4, R 0))) (a68 : am_get h 68 = some (.inl (0, 45, R 1))) (a69 : am_get h 69 = some (.inl (0, 18, R 2))) (a70 : am_get h 70 = some (.inl (0, 16, R 3))) (vZ : ∀ k, k < 6 → Z k ≤ je_z k) (hB : je_B Z R) {r : am_R} {come wo i : Nat} (hco : come < 256) (hi : i < Z 3) (hon : ¬ come.testBit i = true) (hg : am_Good mi_155 34 [some (.ref 66), some (.retAddr come), some (.retAddr wo), some (.retAddr (i + 1))] [] (ms h w f b) r) : am_Good mi_155 34 [some (.ref 66), some (.retAddr come), some (.retAddr wo), some (.retAddr i)] [] (ms h w f b) r := by
  have z0 : Z 0 ≤ 4 := vZ 0 (by decide)
  have z1 : Z 1 ≤ 9 := vZ 1 (by decide)
  have z2 : Z 2 ≤ 6 := vZ 2 (by decide)
  have z3 : Z 3 ≤ 4 := vZ 3 (by decide)
  refine g_iload_n (i := 3) dd_155_34 rfl ?_
  refine g_aload_n (i := 0) dd_155_35 rfl ?_
  refine g_getfield (k := 8) am_ck12 (by decide) (Or.inl w_943) dd_155_36 ((ms_o hH rfl).trans q66) f8 ?_
  refine g_icmp_ge_f (t := 67) dd_155_39 (by decide) (by first | exact sk_ge_f (by omega) (by omega) | exact tk_ge_f (by omega)) ?_
  refine g_iload_n (i := 1) dd_155_42 rfl ?_
  refine g_iload_n (i := 3) dd_155_43 rfl ?_
  refine g_static (M' := mi_158) (n := 2) (as := [.retAddr come, .retAddr i]) (st := []) (r1 := (some (.retAddr 0), (ms h w f b))) w_1204 w_1205 ⟨lk_158.1, lk_158.2.1, lk_158.2.2, by decide, by decide⟩ rfl (by simp [Value.category]) dd_155_44 (hs_0 (by omega) (by omega) hon) ?_
  show am_Good mi_155 47 [some (.ref 66), some (.retAddr come), some (.retAddr wo), some (.retAddr i)] [.retAddr 0] (ms h w f b) _
  refine g_if_eq_t (t := 61) dd_155_47 (by decide) (by decide) ?_
  refine e_iinc (v := 1) (w := i + 1) dd_155_61 rfl ic_1 (am_nlb_ok rfl) (by decide) (by omega) ?_
  refine g_goto (t := 34) dd_155_64 (by decide) ?_
  exact hg
theorem lc2_e {h : am_H} {vs : List Value} {Z R : Nat → Nat} {w f b : Nat} (hH : ms_ok h) (q66 : am_get h 66 = some (.inr (12, vs))) (f2 : vs[2]? = some (.retAddr (Z 0))) (f3 : vs[3]? = some (.ref 67)) (f4 : vs[4]? = some (.retAddr (Z 1))) (f5 : vs[5]? = some (.ref 68)) (f6 : vs[6]? = some (.retAddr (Z 2))) (f7 : vs[7]? = some (.ref 69)) (f8 : vs[8]? = some (.retAddr (Z 3))) (f9 : vs[9]? = some (.ref 70)) (f32 : vs[32]? = some (.ref 81)) (f33 : vs[33]? = some (.ref 82)) (f34 : vs[34]? = some (.ref 83)) (a67 : am_get h 67 = some (.inl (0, 4, R 0))) (a68 : am_get h 68 = some (.inl (0, 45, R 1))) (a69 : am_get h 69 = some (.inl (0, 18, R 2))) (a70 : am_get h 70 = some (.inl (0, 16, R 3))) (vZ : ∀ k, k < 6 → Z k ≤ je_z k) (hB : je_B Z R) {r : am_R} {come wo : Nat} (hg : am_Good mi_155 34 [some (.ref 66), some (.retAddr come), some (.retAddr wo), some (.retAddr 0)] [] (ms h w f b) r) : am_Good mi_155 7 [some (.ref 66), some (.retAddr come), some (.retAddr wo), some (.retAddr (Z 2))] [] (ms h w f b) r := by
  have z0 : Z 0 ≤ 4 := vZ 0 (by decide)
  have z1 : Z 1 ≤ 9 := vZ 1 (by decide)
  have z2 : Z 2 ≤ 6 := vZ 2 (by decide)
  have z3 : Z 3 ≤ 4 := vZ 3 (by decide)
  refine g_iload_n (i := 3) dd_155_7 rfl ?_
  refine g_aload_n (i := 0) dd_155_8 rfl ?_
  refine g_getfield (k := 6) am_ck12 (by decide) (Or.inl w_941) dd_155_9 ((ms_o hH rfl).trans q66) f6 ?_
  refine g_icmp_ge_t (t := 32) dd_155_12 (by decide) (by first | exact sk_ge_t (by omega) (by omega) | exact tk_ge_t (by omega)) ?_
  refine g_iconst dd_155_32 ic_0 ?_
  refine g_istore_n (i := 3) dd_155_33 (am_nlb_ok rfl) (by decide) ?_
  exact hg
theorem lc3_e {h : am_H} {vs : List Value} {Z R : Nat → Nat} {w f b : Nat} (hH : ms_ok h) (q66 : am_get h 66 = some (.inr (12, vs))) (f2 : vs[2]? = some (.retAddr (Z 0))) (f3 : vs[3]? = some (.ref 67)) (f4 : vs[4]? = some (.retAddr (Z 1))) (f5 : vs[5]? = some (.ref 68)) (f6 : vs[6]? = some (.retAddr (Z 2))) (f7 : vs[7]? = some (.ref 69)) (f8 : vs[8]? = some (.retAddr (Z 3))) (f9 : vs[9]? = some (.ref 70)) (f32 : vs[32]? = some (.ref 81)) (f33 : vs[33]? = some (.ref 82)) (f34 : vs[34]? = some (.ref 83)) (a67 : am_get h 67 = some (.inl (0, 4, R 0))) (a68 : am_get h 68 = some (.inl (0, 45, R 1))) (a69 : am_get h 69 = some (.inl (0, 18, R 2))) (a70 : am_get h 70 = some (.inl (0, 16, R 3))) (vZ : ∀ k, k < 6 → Z k ≤ je_z k) (hB : je_B Z R) {come wo : Nat} : am_Good mi_155 34 [some (.ref 66), some (.retAddr come), some (.retAddr wo), some (.retAddr (Z 3))] [] (ms h w f b) (none, (ms h (zf (lb b w 0) w 256) (zf (lb b f 4294967292) f 256) b)) := by
  have z0 : Z 0 ≤ 4 := vZ 0 (by decide)
  have z1 : Z 1 ≤ 9 := vZ 1 (by decide)
  have z2 : Z 2 ≤ 6 := vZ 2 (by decide)
  have z3 : Z 3 ≤ 4 := vZ 3 (by decide)
  refine g_iload_n (i := 3) dd_155_34 rfl ?_
  refine g_aload_n (i := 0) dd_155_35 rfl ?_
  refine g_getfield (k := 8) am_ck12 (by decide) (Or.inl w_943) dd_155_36 ((ms_o hH rfl).trans q66) f8 ?_
  refine g_icmp_ge_t (t := 67) dd_155_39 (by decide) (by first | exact sk_ge_t (by omega) (by omega) | exact tk_ge_t (by omega)) ?_
  refine g_aload_n (i := 0) dd_155_67 rfl ?_
  refine g_virtual (M' := mi_159) (n := 0) (ci := 12) (b := 66) (as := []) (st := []) (r1 := (none, (ms h (zf (lb b w 0) w 256) (zf (lb b f 4294967292) f 256) b))) w_1207 w_1209 ps_159 ⟨lk_159.1, lk_159.2.1, lk_159.2.2, by decide, by decide⟩ rfl ((ms_o hH rfl).trans q66) rfl (by simp [Value.category]) dd_155_68 (lb_m hH q66 f2 f3 f4 f5 f6 f7 f8 f9 f32 f33 f34 a67 a68 a69 a70 vZ hB) ?_
  show am_Good mi_155 71 [some (.ref 66), some (.retAddr come), some (.retAddr wo), some (.retAddr (Z 3))] [] (ms h (zf (lb b w 0) w 256) (zf (lb b f 4294967292) f 256) b) _
  exact g_return rfl dd_155_71
theorem lc2_l {h : am_H} {vs : List Value} {Z R : Nat → Nat} {w f b : Nat} (hH : ms_ok h) (q66 : am_get h 66 = some (.inr (12, vs))) (f2 : vs[2]? = some (.retAddr (Z 0))) (f3 : vs[3]? = some (.ref 67)) (f4 : vs[4]? = some (.retAddr (Z 1))) (f5 : vs[5]? = some (.ref 68)) (f6 : vs[6]? = some (.retAddr (Z 2))) (f7 : vs[7]? = some (.ref 69)) (f8 : vs[8]? = some (.retAddr (Z 3))) (f9 : vs[9]? = some (.ref 70)) (f32 : vs[32]? = some (.ref 81)) (f33 : vs[33]? = some (.ref 82)) (f34 : vs[34]? = some (.ref 83)) (a67 : am_get h 67 = some (.inl (0, 4, R 0))) (a68 : am_get h 68 = some (.inl (0, 45, R 1))) (a69 : am_get h 69 = some (.inl (0, 18, R 2))) (a70 : am_get h 70 = some (.inl (0, 16, R 3))) (vZ : ∀ k, k < 6 → Z k ≤ je_z k) (hB : je_B Z R) {come wo : Nat} (hco : come < 256) {r : am_R} (hg : am_Good mi_155 34 [some (.ref 66), some (.retAddr come), some (.retAddr wo), some (.retAddr 0)] [] (ms h w f (sw 64 (R 2) 3 (fun _ => true) (fun _ => 1) b (Z 2))) r) : ∀ (k i : Nat), i + k = Z 2 → am_Good mi_155 7 [some (.ref 66), some (.retAddr come), some (.retAddr wo), some (.retAddr i)] [] (ms h w f (sw 64 (R 2) 3 (fun _ => true) (fun _ => 1) b i)) r
  | 0, i, e => by
    have e' : i = Z 2 := by omega
    subst e'
    exact lc2_e hH q66 f2 f3 f4 f5 f6 f7 f8 f9 f32 f33 f34 a67 a68 a69 a70 vZ hB hg
  | k + 1, i, e => by
    have q := lc2_l (w := w) (f := f) (b := b) (wo := wo) hH q66 f2 f3 f4 f5 f6 f7 f8 f9 f32 f33 f34 a67 a68 a69 a70 vZ hB hco hg k (i + 1) (by omega)
    exact lc2_y hH q66 f2 f3 f4 f5 f6 f7 f8 f9 f32 f33 f34 a67 a68 a69 a70 vZ hB hco (by omega) q
theorem lc3_l {h : am_H} {vs : List Value} {Z R : Nat → Nat} {w f b : Nat} (hH : ms_ok h) (q66 : am_get h 66 = some (.inr (12, vs))) (f2 : vs[2]? = some (.retAddr (Z 0))) (f3 : vs[3]? = some (.ref 67)) (f4 : vs[4]? = some (.retAddr (Z 1))) (f5 : vs[5]? = some (.ref 68)) (f6 : vs[6]? = some (.retAddr (Z 2))) (f7 : vs[7]? = some (.ref 69)) (f8 : vs[8]? = some (.retAddr (Z 3))) (f9 : vs[9]? = some (.ref 70)) (f32 : vs[32]? = some (.ref 81)) (f33 : vs[33]? = some (.ref 82)) (f34 : vs[34]? = some (.ref 83)) (a67 : am_get h 67 = some (.inl (0, 4, R 0))) (a68 : am_get h 68 = some (.inl (0, 45, R 1))) (a69 : am_get h 69 = some (.inl (0, 18, R 2))) (a70 : am_get h 70 = some (.inl (0, 16, R 3))) (vZ : ∀ k, k < 6 → Z k ≤ je_z k) (hB : je_B Z R) {come wo : Nat} (hco : come < 256) : ∀ (k i : Nat), i + k = Z 3 → am_Good mi_155 34 [some (.ref 66), some (.retAddr come), some (.retAddr wo), some (.retAddr i)] [] (ms h w f (sw 64 (R 3) 4 (fun c => come.testBit c) (fun _ => 1) b i)) (none, (ms h (zf (lb (sw 64 (R 3) 4 (fun c => come.testBit c) (fun _ => 1) b (Z 3)) w 0) w 256) (zf (lb (sw 64 (R 3) 4 (fun c => come.testBit c) (fun _ => 1) b (Z 3)) f 4294967292) f 256) (sw 64 (R 3) 4 (fun c => come.testBit c) (fun _ => 1) b (Z 3))))
  | 0, i, e => by
    have e' : i = Z 3 := by omega
    subst e'
    exact lc3_e hH q66 f2 f3 f4 f5 f6 f7 f8 f9 f32 f33 f34 a67 a68 a69 a70 vZ hB
  | k + 1, i, e => by
    have q := lc3_l (w := w) (f := f) (b := b) (wo := wo) hH q66 f2 f3 f4 f5 f6 f7 f8 f9 f32 f33 f34 a67 a68 a69 a70 vZ hB hco k (i + 1) (by omega)
    by_cases hon : come.testBit i = true
    · have s3 : ∀ (v : Nat → Nat) (x : Nat), sw 64 (R 3) 4 (fun c => come.testBit c) v x (i + 1) = fl (sw 64 (R 3) 4 (fun c => come.testBit c) v x i) (64 * am_ag (R 3) (4 * i) + am_ag (R 3) (4 * i + 1)) (v i) (am_ag (R 3) (4 * i + 2) + 1 - am_ag (R 3) (4 * i + 1)) := fun v x => if_pos hon
      rw [s3] at q
      exact lc3_y hH q66 f2 f3 f4 f5 f6 f7 f8 f9 f32 f33 f34 a67 a68 a69 a70 vZ hB hco (by omega) hon q
    · have s3 : ∀ (v : Nat → Nat) (x : Nat), sw 64 (R 3) 4 (fun c => come.testBit c) v x (i + 1) = sw 64 (R 3) 4 (fun c => come.testBit c) v x i := fun v x => if_neg hon
      rw [s3] at q
      exact lc3_n hH q66 f2 f3 f4 f5 f6 f7 f8 f9 f32 f33 f34 a67 a68 a69 a70 vZ hB hco (by omega) hon q
theorem lc_m {h : am_H} {vs : List Value} {Z R : Nat → Nat} {w f b : Nat} (hH : ms_ok h) (q66 : am_get h 66 = some (.inr (12, vs))) (f2 : vs[2]? = some (.retAddr (Z 0))) (f3 : vs[3]? = some (.ref 67)) (f4 : vs[4]? = some (.retAddr (Z 1))) (f5 : vs[5]? = some (.ref 68)) (f6 : vs[6]? = some (.retAddr (Z 2))) (f7 : vs[7]? = some (.ref 69)) (f8 : vs[8]? = some (.retAddr (Z 3))) (f9 : vs[9]? = some (.ref 70)) (f32 : vs[32]? = some (.ref 81)) (f33 : vs[33]? = some (.ref 82)) (f34 : vs[34]? = some (.ref 83)) (a67 : am_get h 67 = some (.inl (0, 4, R 0))) (a68 : am_get h 68 = some (.inl (0, 45, R 1))) (a69 : am_get h 69 = some (.inl (0, 18, R 2))) (a70 : am_get h 70 = some (.inl (0, 16, R 3))) (vZ : ∀ k, k < 6 → Z k ≤ je_z k) (hB : je_B Z R) {come wo : Nat} (hco : come < 256) (hwo : wo < 4294967296) : am_EG mi_155 [.ref 66, .retAddr come, .retAddr wo] (ms h w f b) (none, (ms h (lcW Z R come wo w b) (lcF Z R come wo f b) (lcB Z R come b))) := by
  refine am_enter (n := 1) tk_155.2.1 (by simp [Value.category]) (Nat.le_of_ble_eq_true rfl) ?_
  show am_Good mi_155 0 [some (.ref 66), some (.retAddr come), some (.retAddr wo), none] [] (ms h w f b) _
  refine g_aload_n (i := 0) dd_155_0 rfl ?_
  refine g_iload_n (i := 2) dd_155_1 rfl ?_
  refine g_virtual (M' := mi_156) (n := 1) (ci := 12) (b := 66) (as := [.retAddr wo]) (st := []) (r1 := (none, (ms h (lcw Z R wo w) (lcf Z R wo f) (zf (fun _ => 0) b 256)))) w_1196 w_1198 ps_156 ⟨lk_156.1, lk_156.2.1, lk_156.2.2, by decide, by decide⟩ rfl ((ms_o hH rfl).trans q66) rfl (by simp [Value.category]) dd_155_2 (ls_m hH q66 f2 f3 f4 f5 f6 f7 f8 f9 f32 f33 f34 a67 a68 a69 a70 vZ hB hwo) ?_
  show am_Good mi_155 5 [some (.ref 66), some (.retAddr come), some (.retAddr wo), none] [] (ms h (lcw Z R wo w) (lcf Z R wo f) (zf (fun _ => 0) b 256)) _
  refine g_iconst dd_155_5 ic_0 ?_
  refine g_istore_n (i := 3) dd_155_6 (am_nlb_ok rfl) (by decide) ?_
  exact lc2_l hH q66 f2 f3 f4 f5 f6 f7 f8 f9 f32 f33 f34 a67 a68 a69 a70 vZ hB hco (lc3_l hH q66 f2 f3 f4 f5 f6 f7 f8 f9 f32 f33 f34 a67 a68 a69 a70 vZ hB hco (Z 3) 0 (by omega)) (Z 2) 0 (by omega)
