/-! ===== fair: the class's box ===== -/
def fa_g (fw : Nat → Nat → Nat) (mi d i : Nat) : Nat := fa_p fw mi (i / 4) (i % 4) d
theorem fa_g_at {fw : Nat → Nat → Nat} {mi d k s : Nat} (hs : s < 4) : fa_g fw mi d (4 * k + s) = fa_p fw mi k s d := by
  unfold fa_g
  rw [show (4 * k + s) / 4 = k by omega, show (4 * k + s) % 4 = s by omega]
theorem fa_mn {mi k : Nat} (hm : mi ≤ 60) (hk : k ≤ 6) : (bif am_tlt mi (10 * k + 10) then mi else 10 * k + 10) = fa_e mi k := by
  unfold fa_e
  by_cases c : mi < 10 * k + 10
  · rw [show am_tlt mi (10 * k + 10) = true from sk_lt_t c (by omega), cond_true, if_neg (by omega)]
  · rw [show am_tlt mi (10 * k + 10) = false from sk_lt_f (by omega) (by omega), cond_false]
    by_cases d : 10 * k + 10 < mi
    · rw [if_pos d]
    · rw [if_neg d]; omega
theorem fa_mi {a b : Nat} (ha : a < 2147483648) (hb : b < 2147483648) : (bif am_tlt b a then b else a) = if b < a then b else a := by
  by_cases c : b < a
  · rw [show am_tlt b a = true from sk_lt_t c ha, cond_true, if_pos c]
  · rw [show am_tlt b a = false from sk_lt_f (by omega) hb, cond_false, if_neg c]
theorem fa_t6 {mi : Nat} (hm1 : 1 ≤ mi) (hm : mi ≤ 60) : 1 ≤ fa_tn mi ∧ fa_tn mi ≤ 6 ∧ 10 * fa_tn mi ≤ mi + 9 := by
  unfold fa_tn
  omega
theorem fa_mt {mi : Nat} (hm : mi ≤ 60) : (bif am_tlt 6 (fa_tn mi) then 6 else fa_tn mi) = fa_tn mi := by
  rw [show am_tlt 6 (fa_tn mi) = false from sk_lt_f (by unfold fa_tn; omega) (by decide), cond_false]
def bx (h : am_H)  (tu le sd wh la hr bh wr bw : Nat) : am_H := am_ups h [(47, .inr (0, [.ref 48, .ref 49, .ref 50, .ref 51, .ref 52, .ref 53, .retAddr tu, .retAddr le, .retAddr sd])), (48, .inl (0, 24, wh)), (49, .inl (0, 24, la)), (50, .inl (0, 6, hr)), (51, .inl (0, 6, bh)), (52, .inl (0, 4, wr)), (53, .inl (0, 4, bw))]
def bx_ok (h : am_H) : Prop := am_ke h [47, 48, 49, 50, 51, 52, 53]
theorem bx_g47 {h : am_H}  {tu le sd wh la hr bh wr bw : Nat} (hH : bx_ok h) : am_get (bx h  tu le sd wh la hr bh wr bw) 47 = some (.inr (0, [.ref 48, .ref 49, .ref 50, .ref 51, .ref 52, .ref 53, .retAddr tu, .retAddr le, .retAddr sd])) := am_ups_g hH rfl
theorem bx_u47 {h : am_H}  {tu le sd wh la hr bh wr bw : Nat} (hH : bx_ok h) {tu' le' sd' : Nat} : am_upd (bx h  tu le sd wh la hr bh wr bw) 47 (.inr (0, [.ref 48, .ref 49, .ref 50, .ref 51, .ref 52, .ref 53, .retAddr tu', .retAddr le', .retAddr sd'])) = (bx h  tu' le' sd' wh la hr bh wr bw) := by
  unfold bx
  refine am_upd_ups ?_ ⟨rfl, rfl⟩
  exact hH
theorem bx_g48 {h : am_H}  {tu le sd wh la hr bh wr bw : Nat} (hH : bx_ok h) : am_get (bx h  tu le sd wh la hr bh wr bw) 48 = some (.inl (0, 24, wh)) := am_ups_g hH rfl
theorem bx_u48 {h : am_H}  {tu le sd wh la hr bh wr bw : Nat} (hH : bx_ok h) {wh' : Nat} : am_upd (bx h  tu le sd wh la hr bh wr bw) 48 (.inl (0, 24, wh')) = (bx h  tu le sd wh' la hr bh wr bw) := by
  unfold bx
  refine am_upd_ups ?_ ⟨rfl, rfl⟩
  exact hH
theorem bx_g49 {h : am_H}  {tu le sd wh la hr bh wr bw : Nat} (hH : bx_ok h) : am_get (bx h  tu le sd wh la hr bh wr bw) 49 = some (.inl (0, 24, la)) := am_ups_g hH rfl
theorem bx_u49 {h : am_H}  {tu le sd wh la hr bh wr bw : Nat} (hH : bx_ok h) {la' : Nat} : am_upd (bx h  tu le sd wh la hr bh wr bw) 49 (.inl (0, 24, la')) = (bx h  tu le sd wh la' hr bh wr bw) := by
  unfold bx
  refine am_upd_ups ?_ ⟨rfl, rfl⟩
  exact hH
theorem bx_g50 {h : am_H}  {tu le sd wh la hr bh wr bw : Nat} (hH : bx_ok h) : am_get (bx h  tu le sd wh la hr bh wr bw) 50 = some (.inl (0, 6, hr)) := am_ups_g hH rfl
theorem bx_u50 {h : am_H}  {tu le sd wh la hr bh wr bw : Nat} (hH : bx_ok h) {hr' : Nat} : am_upd (bx h  tu le sd wh la hr bh wr bw) 50 (.inl (0, 6, hr')) = (bx h  tu le sd wh la hr' bh wr bw) := by
  unfold bx
  refine am_upd_ups ?_ ⟨rfl, rfl⟩
  exact hH
theorem bx_g51 {h : am_H}  {tu le sd wh la hr bh wr bw : Nat} (hH : bx_ok h) : am_get (bx h  tu le sd wh la hr bh wr bw) 51 = some (.inl (0, 6, bh)) := am_ups_g hH rfl
theorem bx_u51 {h : am_H}  {tu le sd wh la hr bh wr bw : Nat} (hH : bx_ok h) {bh' : Nat} : am_upd (bx h  tu le sd wh la hr bh wr bw) 51 (.inl (0, 6, bh')) = (bx h  tu le sd wh la hr bh' wr bw) := by
  unfold bx
  refine am_upd_ups ?_ ⟨rfl, rfl⟩
  exact hH
theorem bx_g52 {h : am_H}  {tu le sd wh la hr bh wr bw : Nat} (hH : bx_ok h) : am_get (bx h  tu le sd wh la hr bh wr bw) 52 = some (.inl (0, 4, wr)) := am_ups_g hH rfl
theorem bx_u52 {h : am_H}  {tu le sd wh la hr bh wr bw : Nat} (hH : bx_ok h) {wr' : Nat} : am_upd (bx h  tu le sd wh la hr bh wr bw) 52 (.inl (0, 4, wr')) = (bx h  tu le sd wh la hr bh wr' bw) := by
  unfold bx
  refine am_upd_ups ?_ ⟨rfl, rfl⟩
  exact hH
theorem bx_g53 {h : am_H}  {tu le sd wh la hr bh wr bw : Nat} (hH : bx_ok h) : am_get (bx h  tu le sd wh la hr bh wr bw) 53 = some (.inl (0, 4, bw)) := am_ups_g hH rfl
theorem bx_u53 {h : am_H}  {tu le sd wh la hr bh wr bw : Nat} (hH : bx_ok h) {bw' : Nat} : am_upd (bx h  tu le sd wh la hr bh wr bw) 53 (.inl (0, 4, bw')) = (bx h  tu le sd wh la hr bh wr bw') := by
  unfold bx
  refine am_upd_ups ?_ ⟨rfl, rfl⟩
  exact hH
theorem bx_o {h : am_H}  {tu le sd wh la hr bh wr bw : Nat} (hH : bx_ok h) {a : Nat} (ha : am_lk [(47, am_e0), (48, am_e0), (49, am_e0), (50, am_e0), (51, am_e0), (52, am_e0), (53, am_e0)] a = none) : am_get (bx h  tu le sd wh la hr bh wr bw) a = am_get h a := by
  unfold bx
  refine am_ups_n ?_ ?_
  · exact hH
  · exact (am_lk_k (by rfl)).mp ha
theorem tn_x {h : am_H} {E mi : Nat} {vE : List Value} (qE : am_get h E = some (.inr (1, vE))) (e6 : vE[6]? = some (.retAddr mi)) (hm : mi ≤ 60) : am_EG mi_106 [.ref E] h (some (.retAddr (fa_tn mi)), h) := by
  refine am_enter (n := 0) tk_106.2.1 (by simp [Value.category]) (Nat.le_of_ble_eq_true rfl) ?_
  show am_Good mi_106 0 [some (.ref E)] [] h _
  refine g_aload_n (i := 0) dd_106_0 rfl ?_
  refine g_getfield (k := 6) am_ck1 (by decide) (Or.inl w_105) dd_106_1 qE e6 ?_
  refine g_bipush dd_106_4 bi_10 ?_
  refine e_iadd (v := mi + 10) dd_106_6 (by omega) ?_
  refine g_iconst dd_106_7 ic_1 ?_
  refine e_isub (v := mi + 9) dd_106_8 (by omega) ?_
  refine g_bipush dd_106_9 bi_10 ?_
  refine e_idiv (v := fa_tn mi) dd_106_11 ⟨by omega, by decide, by decide, rfl⟩ ?_
  exact g_ireturn rfl dd_106_12
theorem bx_f50 {h : am_H} (hH : bx_ok h) {tu le sd wh la hr bh wr bw : Nat} : am_EG mi_9 [.ref 50, .retAddr 0] (bx h tu le sd wh la hr bh wr bw) (none, bx h tu le sd wh la (am_fl 0 hr 0 6) bh wr bw) := by
  have q := eg_fill (v := 0) (by decide) (bx_g50 hH (tu := tu) (le := le) (sd := sd) (wh := wh) (la := la) (hr := hr) (bh := bh) (wr := wr) (bw := bw))
  rw [bx_u50 hH] at q
  exact q
theorem bx_f52 {h : am_H} (hH : bx_ok h) {tu le sd wh la hr bh wr bw : Nat} : am_EG mi_9 [.ref 52, .retAddr 0] (bx h tu le sd wh la hr bh wr bw) (none, bx h tu le sd wh la hr bh (am_fl 0 wr 0 4) bw) := by
  have q := eg_fill (v := 0) (by decide) (bx_g52 hH (tu := tu) (le := le) (sd := sd) (wh := wh) (la := la) (hr := hr) (bh := bh) (wr := wr) (bw := bw))
  rw [bx_u52 hH] at q
  exact q
theorem sb_e {h : am_H} (hH : bx_ok h) {E a5 mi go w : Nat} {vE w5 : List Value} (nE : am_lk [(47, am_e0), (48, am_e0), (49, am_e0), (50, am_e0), (51, am_e0), (52, am_e0), (53, am_e0)] E = none) (qE : am_get h E = some (.inr (1, vE))) (e5 : vE[5]? = some (.ref a5)) (e6 : vE[6]? = some (.retAddr mi)) (e7 : vE[7]? = some (.retAddr go)) (n5 : am_lk [(47, am_e0), (48, am_e0), (49, am_e0), (50, am_e0), (51, am_e0), (52, am_e0), (53, am_e0)] a5 = none) (r5 : am_get h a5 = some (.inr (8, w5))) (s5 : w5[3]? = some (.retAddr w)) {q : Nat} {vq : List Value} {own : Nat → Nat} {fw : Nat → Nat → Nat} (qS : ∀ tu le sd wh la hr bh wr bw, am_get (bx h tu le sd wh la hr bh wr bw) q = some (.inr (9, vq))) (cw : ∀ tu le sd wh la hr bh wr bw s t, s < 4 → t < 60 → am_EG mi_41 [.ref q, .retAddr s, .retAddr t] (bx h tu le sd wh la hr bh wr bw) (some (.retAddr (fw s t)), bx h tu le sd wh la hr bh wr bw)) (co : ∀ tu le sd wh la hr bh wr bw i, i < w → am_EG mi_70 [.ref E, .retAddr i] (bx h tu le sd wh la hr bh wr bw) (some (.retAddr (own i)), bx h tu le sd wh la hr bh wr bw)) (hm1 : 1 ≤ mi) (hm : mi ≤ 60) (hgo : go ≤ 3) (hw1 : 1 ≤ w) (hw : w ≤ 4) (ho4 : ∀ i, i < w → own i < 4) (h99 : ∀ s t, s < 4 → t < 60 → fw s t ≤ 99) {tu le sd wh la hr bh wr bw : Nat} {s fr to sm t : Nat} (ht : ¬ t < to) (h1 : t ≤ 200) (h2 : to ≤ 60) : am_Good mi_109 6 [some (.ref q), some (.retAddr s), some (.retAddr fr), some (.retAddr to), some (.retAddr sm), some (.retAddr t)] [] (bx h tu le sd wh la hr bh wr bw) (some (.retAddr sm), (bx h tu le sd wh la hr bh wr bw)) := by
  refine g_iload dd_109_6 rfl ?_
  refine g_iload_n (i := 3) dd_109_8 rfl ?_
  refine g_icmp_ge_t (t := 30) dd_109_9 (by decide) (by first | exact sk_ge_t (by omega) (by omega) | exact tk_ge_t (by omega)) ?_
  refine g_iload dd_109_30 rfl ?_
  exact g_ireturn rfl dd_109_32
theorem sb_i {h : am_H} (hH : bx_ok h) {E a5 mi go w : Nat} {vE w5 : List Value} (nE : am_lk [(47, am_e0), (48, am_e0), (49, am_e0), (50, am_e0), (51, am_e0), (52, am_e0), (53, am_e0)] E = none) (qE : am_get h E = some (.inr (1, vE))) (e5 : vE[5]? = some (.ref a5)) (e6 : vE[6]? = some (.retAddr mi)) (e7 : vE[7]? = some (.retAddr go)) (n5 : am_lk [(47, am_e0), (48, am_e0), (49, am_e0), (50, am_e0), (51, am_e0), (52, am_e0), (53, am_e0)] a5 = none) (r5 : am_get h a5 = some (.inr (8, w5))) (s5 : w5[3]? = some (.retAddr w)) {q : Nat} {vq : List Value} {own : Nat → Nat} {fw : Nat → Nat → Nat} (qS : ∀ tu le sd wh la hr bh wr bw, am_get (bx h tu le sd wh la hr bh wr bw) q = some (.inr (9, vq))) (cw : ∀ tu le sd wh la hr bh wr bw s t, s < 4 → t < 60 → am_EG mi_41 [.ref q, .retAddr s, .retAddr t] (bx h tu le sd wh la hr bh wr bw) (some (.retAddr (fw s t)), bx h tu le sd wh la hr bh wr bw)) (co : ∀ tu le sd wh la hr bh wr bw i, i < w → am_EG mi_70 [.ref E, .retAddr i] (bx h tu le sd wh la hr bh wr bw) (some (.retAddr (own i)), bx h tu le sd wh la hr bh wr bw)) (hm1 : 1 ≤ mi) (hm : mi ≤ 60) (hgo : go ≤ 3) (hw1 : 1 ≤ w) (hw : w ≤ 4) (ho4 : ∀ i, i < w → own i < 4) (h99 : ∀ s t, s < 4 → t < 60 → fw s t ≤ 99) {tu le sd wh la hr bh wr bw : Nat} {r : am_R} {s fr to sm t : Nat} (hs : s < 4) (ht : t < to) (h2 : to ≤ 60) (h3 : sm ≤ 100000) (hg : am_Good mi_109 6 [some (.ref q), some (.retAddr s), some (.retAddr fr), some (.retAddr to), some (.retAddr (sm + fw s t)), some (.retAddr (t + 1))] [] (bx h tu le sd wh la hr bh wr bw) r) : am_Good mi_109 6 [some (.ref q), some (.retAddr s), some (.retAddr fr), some (.retAddr to), some (.retAddr sm), some (.retAddr t)] [] (bx h tu le sd wh la hr bh wr bw) r := by
  have b1 := h99 s t hs (by omega)
  refine g_iload dd_109_6 rfl ?_
  refine g_iload_n (i := 3) dd_109_8 rfl ?_
  refine g_icmp_ge_f (t := 30) dd_109_9 (by decide) (by first | exact sk_ge_f (by omega) (by omega) | exact tk_ge_f (by omega)) ?_
  refine g_iload dd_109_12 rfl ?_
  refine g_aload_n (i := 0) dd_109_14 rfl ?_
  refine g_iload_n (i := 1) dd_109_15 rfl ?_
  refine g_iload dd_109_16 rfl ?_
  refine g_virtual (M' := mi_41) (n := 2) (ci := 9) (b := q) (as := [.retAddr s, .retAddr t]) (st := [.retAddr sm]) (r1 := (some (.retAddr (fw s t)), (bx h tu le sd wh la hr bh wr bw))) w_834 w_491 w_492 ⟨lk_41.1, lk_41.2.1, lk_41.2.2, by decide, by decide⟩ rfl (qS _ _ _ _ _ _ _ _ _) rfl (by simp [Value.category]) dd_109_18 (cw _ _ _ _ _ _ _ _ _ _ _ (by omega) (by omega)) ?_
  show am_Good mi_109 21 [some (.ref q), some (.retAddr s), some (.retAddr fr), some (.retAddr to), some (.retAddr sm), some (.retAddr t)] [.retAddr (fw s t), .retAddr sm] (bx h tu le sd wh la hr bh wr bw) _
  refine e_iadd (v := sm + (fw s t)) dd_109_21 (by omega) ?_
  refine g_istore dd_109_22 (am_nlb_ok rfl) (by decide) ?_
  refine e_iinc (v := 1) (w := t + 1) dd_109_24 rfl ic_1 (am_nlb_ok rfl) (by decide) (by omega) ?_
  refine g_goto (t := 6) dd_109_27 (by decide) ?_
  exact hg
theorem sb_l {h : am_H} (hH : bx_ok h) {E a5 mi go w : Nat} {vE w5 : List Value} (nE : am_lk [(47, am_e0), (48, am_e0), (49, am_e0), (50, am_e0), (51, am_e0), (52, am_e0), (53, am_e0)] E = none) (qE : am_get h E = some (.inr (1, vE))) (e5 : vE[5]? = some (.ref a5)) (e6 : vE[6]? = some (.retAddr mi)) (e7 : vE[7]? = some (.retAddr go)) (n5 : am_lk [(47, am_e0), (48, am_e0), (49, am_e0), (50, am_e0), (51, am_e0), (52, am_e0), (53, am_e0)] a5 = none) (r5 : am_get h a5 = some (.inr (8, w5))) (s5 : w5[3]? = some (.retAddr w)) {q : Nat} {vq : List Value} {own : Nat → Nat} {fw : Nat → Nat → Nat} (qS : ∀ tu le sd wh la hr bh wr bw, am_get (bx h tu le sd wh la hr bh wr bw) q = some (.inr (9, vq))) (cw : ∀ tu le sd wh la hr bh wr bw s t, s < 4 → t < 60 → am_EG mi_41 [.ref q, .retAddr s, .retAddr t] (bx h tu le sd wh la hr bh wr bw) (some (.retAddr (fw s t)), bx h tu le sd wh la hr bh wr bw)) (co : ∀ tu le sd wh la hr bh wr bw i, i < w → am_EG mi_70 [.ref E, .retAddr i] (bx h tu le sd wh la hr bh wr bw) (some (.retAddr (own i)), bx h tu le sd wh la hr bh wr bw)) (hm1 : 1 ≤ mi) (hm : mi ≤ 60) (hgo : go ≤ 3) (hw1 : 1 ≤ w) (hw : w ≤ 4) (ho4 : ∀ i, i < w → own i < 4) (h99 : ∀ s t, s < 4 → t < 60 → fw s t ≤ 99) {tu le sd wh la hr bh wr bw : Nat} {s fr to : Nat} (hs : s < 4) (h1 : fr ≤ 100) (h2 : to ≤ 60) : ∀ (f k : Nat), k + f = to - fr → am_Good mi_109 6 [some (.ref q), some (.retAddr s), some (.retAddr fr), some (.retAddr to), some (.retAddr (fa_s (fw s) fr k)), some (.retAddr (fr + k))] [] (bx h tu le sd wh la hr bh wr bw) (some (.retAddr (fa_s (fw s) fr (to - fr))), (bx h tu le sd wh la hr bh wr bw))
  | 0, k, e => by
    have e' : to - fr = k := by omega
    rw [e']
    exact sb_e hH nE qE e5 e6 e7 n5 r5 s5 qS cw co hm1 hm hgo hw1 hw ho4 h99 (by omega) (by omega) h2
  | f + 1, k, e => by
    have q := sb_l hH nE qE e5 e6 e7 n5 r5 s5 qS cw co hm1 hm hgo hw1 hw ho4 h99 (tu := tu) (le := le) (sd := sd) (wh := wh) (la := la) (hr := hr) (bh := bh) (wr := wr) (bw := bw) hs h1 h2 f (k + 1) (by omega)
    have e1 : fa_s (fw s) fr (k + 1) = fa_s (fw s) fr k + fw s (fr + k) := rfl
    have e2 : fr + (k + 1) = fr + k + 1 := rfl
    rw [e1, e2] at q
    have b := fa_s_le (f := fw s) (a := fr) (M := 99) (k := k) (fun j hj => h99 s _ hs (by omega))
    exact sb_i hH nE qE e5 e6 e7 n5 r5 s5 qS cw co hm1 hm hgo hw1 hw ho4 h99 hs (by omega) h2 (by omega) q
theorem sb_m {h : am_H} (hH : bx_ok h) {E a5 mi go w : Nat} {vE w5 : List Value} (nE : am_lk [(47, am_e0), (48, am_e0), (49, am_e0), (50, am_e0), (51, am_e0), (52, am_e0), (53, am_e0)] E = none) (qE : am_get h E = some (.inr (1, vE))) (e5 : vE[5]? = some (.ref a5)) (e6 : vE[6]? = some (.retAddr mi)) (e7 : vE[7]? = some (.retAddr go)) (n5 : am_lk [(47, am_e0), (48, am_e0), (49, am_e0), (50, am_e0), (51, am_e0), (52, am_e0), (53, am_e0)] a5 = none) (r5 : am_get h a5 = some (.inr (8, w5))) (s5 : w5[3]? = some (.retAddr w)) {q : Nat} {vq : List Value} {own : Nat → Nat} {fw : Nat → Nat → Nat} (qS : ∀ tu le sd wh la hr bh wr bw, am_get (bx h tu le sd wh la hr bh wr bw) q = some (.inr (9, vq))) (cw : ∀ tu le sd wh la hr bh wr bw s t, s < 4 → t < 60 → am_EG mi_41 [.ref q, .retAddr s, .retAddr t] (bx h tu le sd wh la hr bh wr bw) (some (.retAddr (fw s t)), bx h tu le sd wh la hr bh wr bw)) (co : ∀ tu le sd wh la hr bh wr bw i, i < w → am_EG mi_70 [.ref E, .retAddr i] (bx h tu le sd wh la hr bh wr bw) (some (.retAddr (own i)), bx h tu le sd wh la hr bh wr bw)) (hm1 : 1 ≤ mi) (hm : mi ≤ 60) (hgo : go ≤ 3) (hw1 : 1 ≤ w) (hw : w ≤ 4) (ho4 : ∀ i, i < w → own i < 4) (h99 : ∀ s t, s < 4 → t < 60 → fw s t ≤ 99) {tu le sd wh la hr bh wr bw : Nat} {s fr to : Nat} (hs : s < 4) (h1 : fr ≤ 100) (h2 : to ≤ 60) : am_EG mi_109 [.ref q, .retAddr s, .retAddr fr, .retAddr to] (bx h tu le sd wh la hr bh wr bw) (some (.retAddr (fa_s (fw s) fr (to - fr))), (bx h tu le sd wh la hr bh wr bw)) := by
  refine am_enter (n := 2) tk_109.2.1 (by simp [Value.category]) (Nat.le_of_ble_eq_true rfl) ?_
  show am_Good mi_109 0 [some (.ref q), some (.retAddr s), some (.retAddr fr), some (.retAddr to), none, none] [] (bx h tu le sd wh la hr bh wr bw) _
  refine g_iconst dd_109_0 ic_0 ?_
  refine g_istore dd_109_1 (am_nlb_ok rfl) (by decide) ?_
  refine g_iload_n (i := 2) dd_109_3 rfl ?_
  refine g_istore dd_109_4 (am_nlb_ok rfl) (by decide) ?_
  exact sb_l hH nE qE e5 e6 e7 n5 r5 s5 qS cw co hm1 hm hgo hw1 hw ho4 h99 hs h1 h2 (to - fr) 0 (by omega)
theorem sc_i {h : am_H} (hH : bx_ok h) {E a5 mi go w : Nat} {vE w5 : List Value} (nE : am_lk [(47, am_e0), (48, am_e0), (49, am_e0), (50, am_e0), (51, am_e0), (52, am_e0), (53, am_e0)] E = none) (qE : am_get h E = some (.inr (1, vE))) (e5 : vE[5]? = some (.ref a5)) (e6 : vE[6]? = some (.retAddr mi)) (e7 : vE[7]? = some (.retAddr go)) (n5 : am_lk [(47, am_e0), (48, am_e0), (49, am_e0), (50, am_e0), (51, am_e0), (52, am_e0), (53, am_e0)] a5 = none) (r5 : am_get h a5 = some (.inr (8, w5))) (s5 : w5[3]? = some (.retAddr w)) {q : Nat} {vq : List Value} {own : Nat → Nat} {fw : Nat → Nat → Nat} (qS : ∀ tu le sd wh la hr bh wr bw, am_get (bx h tu le sd wh la hr bh wr bw) q = some (.inr (9, vq))) (cw : ∀ tu le sd wh la hr bh wr bw s t, s < 4 → t < 60 → am_EG mi_41 [.ref q, .retAddr s, .retAddr t] (bx h tu le sd wh la hr bh wr bw) (some (.retAddr (fw s t)), bx h tu le sd wh la hr bh wr bw)) (co : ∀ tu le sd wh la hr bh wr bw i, i < w → am_EG mi_70 [.ref E, .retAddr i] (bx h tu le sd wh la hr bh wr bw) (some (.retAddr (own i)), bx h tu le sd wh la hr bh wr bw)) (hm1 : 1 ≤ mi) (hm : mi ≤ 60) (hgo : go ≤ 3) (hw1 : 1 ≤ w) (hw : w ≤ 4) (ho4 : ∀ i, i < w → own i < 4) (h99 : ∀ s t, s < 4 → t < 60 → fw s t ≤ 99) {tu le sd wh la hr bh wr bw : Nat} {r : am_R} {k s : Nat} (hk : k < 6) (hs : s < 4) (hg : am_Good mi_108 33 [some (.ref 47), some (.ref E), some (.ref q), some (.retAddr k), some (.retAddr (10 * k)), some (.retAddr (fa_e mi k)), some (.retAddr (s + 1))] [] (bx h tu le sd (am_as wh (4 * k + s) (fa_s (fw s) (10 * k) (fa_e mi k - (10 * k)))) (am_as la (4 * k + s) (fa_s (fw s) (10 * k + go) (fa_e mi k - (10 * k + go)))) hr bh wr bw) r) : am_Good mi_108 33 [some (.ref 47), some (.ref E), some (.ref q), some (.retAddr k), some (.retAddr (10 * k)), some (.retAddr (fa_e mi k)), some (.retAddr s)] [] (bx h tu le sd wh la hr bh wr bw) r := by
  have eb := fa_e_b mi k
  refine g_iload dd_108_33 rfl ?_
  refine g_iconst dd_108_35 ic_4 ?_
  refine g_icmp_ge_f (t := 92) dd_108_36 (by decide) (by first | exact sk_ge_f (by omega) (by omega) | exact tk_ge_f (by omega)) ?_
  refine g_aload_n (i := 0) dd_108_39 rfl ?_
  refine g_getfield (k := 0) am_ck0 (by decide) (Or.inl w_267) dd_108_40 (bx_g47 hH) rfl ?_
  refine g_iload_n (i := 3) dd_108_43 rfl ?_
  refine g_iconst dd_108_44 ic_4 ?_
  refine e_imul (v := 4 * k) dd_108_45 (by omega) ?_
  refine g_iload dd_108_46 rfl ?_
  refine e_iadd (v := 4 * k + s) dd_108_48 (by omega) ?_
  refine g_aload_n (i := 2) dd_108_49 rfl ?_
  refine g_iload dd_108_50 rfl ?_
  refine g_iload dd_108_52 rfl ?_
  refine g_iload dd_108_54 rfl ?_
  refine g_static (M' := mi_109) (n := 4) (as := [.ref q, .retAddr s, .retAddr (10 * k), .retAddr (fa_e mi k)]) (st := [.retAddr (4 * k + s), .ref 48]) (r1 := (some (.retAddr (fa_s (fw s) (10 * k) ((fa_e mi k) - (10 * k)))), (bx h tu le sd wh la hr bh wr bw))) w_831 w_832 ⟨lk_109.1, lk_109.2.1, lk_109.2.2, by decide, by decide⟩ rfl (by simp [Value.category]) dd_108_56 (sb_m hH nE qE e5 e6 e7 n5 r5 s5 qS cw co hm1 hm hgo hw1 hw ho4 h99 (by omega) (by omega) (by omega)) ?_
  show am_Good mi_108 59 [some (.ref 47), some (.ref E), some (.ref q), some (.retAddr k), some (.retAddr (10 * k)), some (.retAddr (fa_e mi k)), some (.retAddr s)] [.retAddr (fa_s (fw s) (10 * k) ((fa_e mi k) - (10 * k))), .retAddr (4 * k + s), .ref 48] (bx h tu le sd wh la hr bh wr bw) _
  refine g_iastore dd_108_59 (bx_g48 hH) (by omega) (by decide) ?_
  refine am_heq (bx_u48 hH) ?_
  show am_Good mi_108 60 [some (.ref 47), some (.ref E), some (.ref q), some (.retAddr k), some (.retAddr (10 * k)), some (.retAddr (fa_e mi k)), some (.retAddr s)] [] (bx h tu le sd (am_as wh (4 * k + s) (fa_s (fw s) (10 * k) ((fa_e mi k) - (10 * k)))) la hr bh wr bw) _
  refine g_aload_n (i := 0) dd_108_60 rfl ?_
  refine g_getfield (k := 1) am_ck0 (by decide) (Or.inl w_268) dd_108_61 (bx_g47 hH) rfl ?_
  refine g_iload_n (i := 3) dd_108_64 rfl ?_
  refine g_iconst dd_108_65 ic_4 ?_
  refine e_imul (v := 4 * k) dd_108_66 (by omega) ?_
  refine g_iload dd_108_67 rfl ?_
  refine e_iadd (v := 4 * k + s) dd_108_69 (by omega) ?_
  refine g_aload_n (i := 2) dd_108_70 rfl ?_
  refine g_iload dd_108_71 rfl ?_
  refine g_iload dd_108_73 rfl ?_
  refine g_aload_n (i := 1) dd_108_75 rfl ?_
  refine g_getfield (k := 7) am_ck1 (by decide) (Or.inr ⟨_, w_117⟩) dd_108_76 ((bx_o hH nE).trans qE) e7 ?_
  refine e_iadd (v := (10 * k) + go) dd_108_79 (by omega) ?_
  refine g_iload dd_108_80 rfl ?_
  refine g_static (M' := mi_109) (n := 4) (as := [.ref q, .retAddr s, .retAddr ((10 * k) + go), .retAddr (fa_e mi k)]) (st := [.retAddr (4 * k + s), .ref 49]) (r1 := (some (.retAddr (fa_s (fw s) ((10 * k) + go) ((fa_e mi k) - ((10 * k) + go)))), (bx h tu le sd (am_as wh (4 * k + s) (fa_s (fw s) (10 * k) ((fa_e mi k) - (10 * k)))) la hr bh wr bw))) w_831 w_832 ⟨lk_109.1, lk_109.2.1, lk_109.2.2, by decide, by decide⟩ rfl (by simp [Value.category]) dd_108_82 (sb_m hH nE qE e5 e6 e7 n5 r5 s5 qS cw co hm1 hm hgo hw1 hw ho4 h99 (by omega) (by omega) (by omega)) ?_
  show am_Good mi_108 85 [some (.ref 47), some (.ref E), some (.ref q), some (.retAddr k), some (.retAddr (10 * k)), some (.retAddr (fa_e mi k)), some (.retAddr s)] [.retAddr (fa_s (fw s) ((10 * k) + go) ((fa_e mi k) - ((10 * k) + go))), .retAddr (4 * k + s), .ref 49] (bx h tu le sd (am_as wh (4 * k + s) (fa_s (fw s) (10 * k) ((fa_e mi k) - (10 * k)))) la hr bh wr bw) _
  refine g_iastore dd_108_85 (bx_g49 hH) (by omega) (by decide) ?_
  refine am_heq (bx_u49 hH) ?_
  show am_Good mi_108 86 [some (.ref 47), some (.ref E), some (.ref q), some (.retAddr k), some (.retAddr (10 * k)), some (.retAddr (fa_e mi k)), some (.retAddr s)] [] (bx h tu le sd (am_as wh (4 * k + s) (fa_s (fw s) (10 * k) ((fa_e mi k) - (10 * k)))) (am_as la (4 * k + s) (fa_s (fw s) ((10 * k) + go) ((fa_e mi k) - ((10 * k) + go)))) hr bh wr bw) _
  refine e_iinc (v := 1) (w := s + 1) dd_108_86 rfl ic_1 (am_nlb_ok rfl) (by decide) (by omega) ?_
  refine g_goto (t := 33) dd_108_89 (by decide) ?_
  exact hg
theorem sc_o {h : am_H} (hH : bx_ok h) {E a5 mi go w : Nat} {vE w5 : List Value} (nE : am_lk [(47, am_e0), (48, am_e0), (49, am_e0), (50, am_e0), (51, am_e0), (52, am_e0), (53, am_e0)] E = none) (qE : am_get h E = some (.inr (1, vE))) (e5 : vE[5]? = some (.ref a5)) (e6 : vE[6]? = some (.retAddr mi)) (e7 : vE[7]? = some (.retAddr go)) (n5 : am_lk [(47, am_e0), (48, am_e0), (49, am_e0), (50, am_e0), (51, am_e0), (52, am_e0), (53, am_e0)] a5 = none) (r5 : am_get h a5 = some (.inr (8, w5))) (s5 : w5[3]? = some (.retAddr w)) {q : Nat} {vq : List Value} {own : Nat → Nat} {fw : Nat → Nat → Nat} (qS : ∀ tu le sd wh la hr bh wr bw, am_get (bx h tu le sd wh la hr bh wr bw) q = some (.inr (9, vq))) (cw : ∀ tu le sd wh la hr bh wr bw s t, s < 4 → t < 60 → am_EG mi_41 [.ref q, .retAddr s, .retAddr t] (bx h tu le sd wh la hr bh wr bw) (some (.retAddr (fw s t)), bx h tu le sd wh la hr bh wr bw)) (co : ∀ tu le sd wh la hr bh wr bw i, i < w → am_EG mi_70 [.ref E, .retAddr i] (bx h tu le sd wh la hr bh wr bw) (some (.retAddr (own i)), bx h tu le sd wh la hr bh wr bw)) (hm1 : 1 ≤ mi) (hm : mi ≤ 60) (hgo : go ≤ 3) (hw1 : 1 ≤ w) (hw : w ≤ 4) (ho4 : ∀ i, i < w → own i < 4) (h99 : ∀ s t, s < 4 → t < 60 → fw s t ≤ 99) {tu le sd wh la hr bh wr bw : Nat} {r : am_R} {k : Nat} (hk : k < 6) (hg : am_Good mi_108 2 [some (.ref 47), some (.ref E), some (.ref q), some (.retAddr (k + 1)), some (.retAddr (10 * k)), some (.retAddr (fa_e mi k)), some (.retAddr 4)] [] (bx h tu le sd wh la hr bh wr bw) r) : am_Good mi_108 33 [some (.ref 47), some (.ref E), some (.ref q), some (.retAddr k), some (.retAddr (10 * k)), some (.retAddr (fa_e mi k)), some (.retAddr 4)] [] (bx h tu le sd wh la hr bh wr bw) r := by
  refine g_iload dd_108_33 rfl ?_
  refine g_iconst dd_108_35 ic_4 ?_
  refine g_icmp_ge_t (t := 92) dd_108_36 (by decide) (by decide) ?_
  refine e_iinc (v := 1) (w := k + 1) dd_108_92 rfl ic_1 (am_nlb_ok rfl) (by decide) (by omega) ?_
  refine g_goto (t := 2) dd_108_95 (by decide) ?_
  exact hg
theorem sc_e {h : am_H} (hH : bx_ok h) {E a5 mi go w : Nat} {vE w5 : List Value} (nE : am_lk [(47, am_e0), (48, am_e0), (49, am_e0), (50, am_e0), (51, am_e0), (52, am_e0), (53, am_e0)] E = none) (qE : am_get h E = some (.inr (1, vE))) (e5 : vE[5]? = some (.ref a5)) (e6 : vE[6]? = some (.retAddr mi)) (e7 : vE[7]? = some (.retAddr go)) (n5 : am_lk [(47, am_e0), (48, am_e0), (49, am_e0), (50, am_e0), (51, am_e0), (52, am_e0), (53, am_e0)] a5 = none) (r5 : am_get h a5 = some (.inr (8, w5))) (s5 : w5[3]? = some (.retAddr w)) {q : Nat} {vq : List Value} {own : Nat → Nat} {fw : Nat → Nat → Nat} (qS : ∀ tu le sd wh la hr bh wr bw, am_get (bx h tu le sd wh la hr bh wr bw) q = some (.inr (9, vq))) (cw : ∀ tu le sd wh la hr bh wr bw s t, s < 4 → t < 60 → am_EG mi_41 [.ref q, .retAddr s, .retAddr t] (bx h tu le sd wh la hr bh wr bw) (some (.retAddr (fw s t)), bx h tu le sd wh la hr bh wr bw)) (co : ∀ tu le sd wh la hr bh wr bw i, i < w → am_EG mi_70 [.ref E, .retAddr i] (bx h tu le sd wh la hr bh wr bw) (some (.retAddr (own i)), bx h tu le sd wh la hr bh wr bw)) (hm1 : 1 ≤ mi) (hm : mi ≤ 60) (hgo : go ≤ 3) (hw1 : 1 ≤ w) (hw : w ≤ 4) (ho4 : ∀ i, i < w → own i < 4) (h99 : ∀ s t, s < 4 → t < 60 → fw s t ≤ 99) {tu le sd wh la hr bh wr bw : Nat} {v4 v5 v6 : Option Value} (ht : tu ≤ 6) : am_Good mi_108 2 [some (.ref 47), some (.ref E), some (.ref q), some (.retAddr tu), v4, v5, v6] [] (bx h tu le sd wh la hr bh wr bw) (none, (bx h tu le sd wh la hr bh wr bw)) := by
  refine g_iload_n (i := 3) dd_108_2 rfl ?_
  refine g_aload_n (i := 0) dd_108_3 rfl ?_
  refine g_getfield (k := 6) am_ck0 (by decide) (Or.inl w_273) dd_108_4 (bx_g47 hH) rfl ?_
  refine g_icmp_ge_t (t := 98) dd_108_7 (by decide) (by first | exact sk_ge_t (by omega) (by omega) | exact tk_ge_t (by omega)) ?_
  exact g_return rfl dd_108_98
theorem sc_s {h : am_H} (hH : bx_ok h) {E a5 mi go w : Nat} {vE w5 : List Value} (nE : am_lk [(47, am_e0), (48, am_e0), (49, am_e0), (50, am_e0), (51, am_e0), (52, am_e0), (53, am_e0)] E = none) (qE : am_get h E = some (.inr (1, vE))) (e5 : vE[5]? = some (.ref a5)) (e6 : vE[6]? = some (.retAddr mi)) (e7 : vE[7]? = some (.retAddr go)) (n5 : am_lk [(47, am_e0), (48, am_e0), (49, am_e0), (50, am_e0), (51, am_e0), (52, am_e0), (53, am_e0)] a5 = none) (r5 : am_get h a5 = some (.inr (8, w5))) (s5 : w5[3]? = some (.retAddr w)) {q : Nat} {vq : List Value} {own : Nat → Nat} {fw : Nat → Nat → Nat} (qS : ∀ tu le sd wh la hr bh wr bw, am_get (bx h tu le sd wh la hr bh wr bw) q = some (.inr (9, vq))) (cw : ∀ tu le sd wh la hr bh wr bw s t, s < 4 → t < 60 → am_EG mi_41 [.ref q, .retAddr s, .retAddr t] (bx h tu le sd wh la hr bh wr bw) (some (.retAddr (fw s t)), bx h tu le sd wh la hr bh wr bw)) (co : ∀ tu le sd wh la hr bh wr bw i, i < w → am_EG mi_70 [.ref E, .retAddr i] (bx h tu le sd wh la hr bh wr bw) (some (.retAddr (own i)), bx h tu le sd wh la hr bh wr bw)) (hm1 : 1 ≤ mi) (hm : mi ≤ 60) (hgo : go ≤ 3) (hw1 : 1 ≤ w) (hw : w ≤ 4) (ho4 : ∀ i, i < w → own i < 4) (h99 : ∀ s t, s < 4 → t < 60 → fw s t ≤ 99) {tu le sd wh la hr bh wr bw : Nat} {v4 v5 v6 : Option Value} {r : am_R} {k : Nat} (ht : tu ≤ 6) (hk : k < tu) (hg : am_Good mi_108 33 [some (.ref 47), some (.ref E), some (.ref q), some (.retAddr k), some (.retAddr (10 * k)), some (.retAddr (fa_e mi k)), some (.retAddr 0)] [] (bx h tu le sd wh la hr bh wr bw) r) : am_Good mi_108 2 [some (.ref 47), some (.ref E), some (.ref q), some (.retAddr k), v4, v5, v6] [] (bx h tu le sd wh la hr bh wr bw) r := by
  refine g_iload_n (i := 3) dd_108_2 rfl ?_
  refine g_aload_n (i := 0) dd_108_3 rfl ?_
  refine g_getfield (k := 6) am_ck0 (by decide) (Or.inl w_273) dd_108_4 (bx_g47 hH) rfl ?_
  refine g_icmp_ge_f (t := 98) dd_108_7 (by decide) (by first | exact sk_ge_f (by omega) (by omega) | exact tk_ge_f (by omega)) ?_
  refine g_iload_n (i := 3) dd_108_10 rfl ?_
  refine g_bipush dd_108_11 bi_10 ?_
  refine e_imul (v := 10 * k) dd_108_13 (by omega) ?_
  refine g_istore dd_108_14 (am_nlb_ok rfl) (by decide) ?_
  refine g_iload dd_108_16 rfl ?_
  refine g_bipush dd_108_18 bi_10 ?_
  refine e_iadd (v := 10 * k + 10) dd_108_20 (by omega) ?_
  refine g_aload_n (i := 1) dd_108_21 rfl ?_
  refine g_getfield (k := 6) am_ck1 (by decide) (Or.inr ⟨_, w_110⟩) dd_108_22 ((bx_o hH nE).trans qE) e6 ?_
  refine g_mmin w_826 w_393 w_18 w_394 ⟨by decide, by decide⟩ (by simp [Value.category]) dd_108_25 ?_
  rw [show (bif am_tlt mi (10 * k + 10) then mi else (10 * k + 10)) = fa_e mi k from (fa_mn hm (by omega))]
  refine g_istore dd_108_28 (am_nlb_ok rfl) (by decide) ?_
  refine g_iconst dd_108_30 ic_0 ?_
  refine g_istore dd_108_31 (am_nlb_ok rfl) (by decide) ?_
  exact hg
theorem sc_il {h : am_H} (hH : bx_ok h) {E a5 mi go w : Nat} {vE w5 : List Value} (nE : am_lk [(47, am_e0), (48, am_e0), (49, am_e0), (50, am_e0), (51, am_e0), (52, am_e0), (53, am_e0)] E = none) (qE : am_get h E = some (.inr (1, vE))) (e5 : vE[5]? = some (.ref a5)) (e6 : vE[6]? = some (.retAddr mi)) (e7 : vE[7]? = some (.retAddr go)) (n5 : am_lk [(47, am_e0), (48, am_e0), (49, am_e0), (50, am_e0), (51, am_e0), (52, am_e0), (53, am_e0)] a5 = none) (r5 : am_get h a5 = some (.inr (8, w5))) (s5 : w5[3]? = some (.retAddr w)) {q : Nat} {vq : List Value} {own : Nat → Nat} {fw : Nat → Nat → Nat} (qS : ∀ tu le sd wh la hr bh wr bw, am_get (bx h tu le sd wh la hr bh wr bw) q = some (.inr (9, vq))) (cw : ∀ tu le sd wh la hr bh wr bw s t, s < 4 → t < 60 → am_EG mi_41 [.ref q, .retAddr s, .retAddr t] (bx h tu le sd wh la hr bh wr bw) (some (.retAddr (fw s t)), bx h tu le sd wh la hr bh wr bw)) (co : ∀ tu le sd wh la hr bh wr bw i, i < w → am_EG mi_70 [.ref E, .retAddr i] (bx h tu le sd wh la hr bh wr bw) (some (.retAddr (own i)), bx h tu le sd wh la hr bh wr bw)) (hm1 : 1 ≤ mi) (hm : mi ≤ 60) (hgo : go ≤ 3) (hw1 : 1 ≤ w) (hw : w ≤ 4) (ho4 : ∀ i, i < w → own i < 4) (h99 : ∀ s t, s < 4 → t < 60 → fw s t ≤ 99) {tu le sd wh la hr bh wr bw : Nat} {r : am_R} {k : Nat} (hk : k < 6) (hg : am_Good mi_108 33 [some (.ref 47), some (.ref E), some (.ref q), some (.retAddr k), some (.retAddr (10 * k)), some (.retAddr (fa_e mi k)), some (.retAddr 4)] [] (bx h tu le sd (zf (fa_g fw mi 0) wh (4 * k + 4)) (zf (fa_g fw mi go) la (4 * k + 4)) hr bh wr bw) r) : ∀ (f s : Nat), s + f = 4 → am_Good mi_108 33 [some (.ref 47), some (.ref E), some (.ref q), some (.retAddr k), some (.retAddr (10 * k)), some (.retAddr (fa_e mi k)), some (.retAddr s)] [] (bx h tu le sd (zf (fa_g fw mi 0) wh (4 * k + s)) (zf (fa_g fw mi go) la (4 * k + s)) hr bh wr bw) r
  | 0, s, e => by
    have e' : s = 4 := by omega
    subst e'
    exact hg
  | f + 1, s, e => by
    have q := sc_il hH nE qE e5 e6 e7 n5 r5 s5 qS cw co hm1 hm hgo hw1 hw ho4 h99 hk hg f (s + 1) (by omega)
    have e1 : zf (fa_g fw mi 0) wh (4 * k + (s + 1)) = am_as (zf (fa_g fw mi 0) wh (4 * k + s)) (4 * k + s) (fa_g fw mi 0 (4 * k + s)) := rfl
    have e2 : zf (fa_g fw mi go) la (4 * k + (s + 1)) = am_as (zf (fa_g fw mi go) la (4 * k + s)) (4 * k + s) (fa_g fw mi go (4 * k + s)) := rfl
    rw [e1, e2, fa_g_at (by omega), fa_g_at (by omega)] at q
    exact sc_i hH nE qE e5 e6 e7 n5 r5 s5 qS cw co hm1 hm hgo hw1 hw ho4 h99 hk (by omega) q
theorem sc_ol {h : am_H} (hH : bx_ok h) {E a5 mi go w : Nat} {vE w5 : List Value} (nE : am_lk [(47, am_e0), (48, am_e0), (49, am_e0), (50, am_e0), (51, am_e0), (52, am_e0), (53, am_e0)] E = none) (qE : am_get h E = some (.inr (1, vE))) (e5 : vE[5]? = some (.ref a5)) (e6 : vE[6]? = some (.retAddr mi)) (e7 : vE[7]? = some (.retAddr go)) (n5 : am_lk [(47, am_e0), (48, am_e0), (49, am_e0), (50, am_e0), (51, am_e0), (52, am_e0), (53, am_e0)] a5 = none) (r5 : am_get h a5 = some (.inr (8, w5))) (s5 : w5[3]? = some (.retAddr w)) {q : Nat} {vq : List Value} {own : Nat → Nat} {fw : Nat → Nat → Nat} (qS : ∀ tu le sd wh la hr bh wr bw, am_get (bx h tu le sd wh la hr bh wr bw) q = some (.inr (9, vq))) (cw : ∀ tu le sd wh la hr bh wr bw s t, s < 4 → t < 60 → am_EG mi_41 [.ref q, .retAddr s, .retAddr t] (bx h tu le sd wh la hr bh wr bw) (some (.retAddr (fw s t)), bx h tu le sd wh la hr bh wr bw)) (co : ∀ tu le sd wh la hr bh wr bw i, i < w → am_EG mi_70 [.ref E, .retAddr i] (bx h tu le sd wh la hr bh wr bw) (some (.retAddr (own i)), bx h tu le sd wh la hr bh wr bw)) (hm1 : 1 ≤ mi) (hm : mi ≤ 60) (hgo : go ≤ 3) (hw1 : 1 ≤ w) (hw : w ≤ 4) (ho4 : ∀ i, i < w → own i < 4) (h99 : ∀ s t, s < 4 → t < 60 → fw s t ≤ 99) {tu le sd wh la hr bh wr bw : Nat} (ht : tu ≤ 6) : ∀ (f k : Nat) (v4 v5 v6 : Option Value), k + f = tu → am_Good mi_108 2 [some (.ref 47), some (.ref E), some (.ref q), some (.retAddr k), v4, v5, v6] [] (bx h tu le sd (zf (fa_g fw mi 0) wh (4 * k)) (zf (fa_g fw mi go) la (4 * k)) hr bh wr bw) (none, (bx h tu le sd (zf (fa_g fw mi 0) wh (4 * tu)) (zf (fa_g fw mi go) la (4 * tu)) hr bh wr bw))
  | 0, k, v4, v5, v6, e => by
    have e' : k = tu := by omega
    subst e'
    exact sc_e hH nE qE e5 e6 e7 n5 r5 s5 qS cw co hm1 hm hgo hw1 hw ho4 h99 ht
  | f + 1, k, v4, v5, v6, e => by
    have q := sc_ol hH nE qE e5 e6 e7 n5 r5 s5 qS cw co hm1 hm hgo hw1 hw ho4 h99 (le := le) (sd := sd) (wh := wh) (la := la) (hr := hr) (bh := bh) (wr := wr) (bw := bw) ht f (k + 1) (some (.retAddr (10 * k))) (some (.retAddr (fa_e mi k))) (some (.retAddr 4)) (by omega)
    rw [show 4 * (k + 1) = 4 * k + 4 by omega] at q
    exact sc_s hH nE qE e5 e6 e7 n5 r5 s5 qS cw co hm1 hm hgo hw1 hw ho4 h99 ht (by omega) (sc_il hH nE qE e5 e6 e7 n5 r5 s5 qS cw co hm1 hm hgo hw1 hw ho4 h99 (by omega) (sc_o hH nE qE e5 e6 e7 n5 r5 s5 qS cw co hm1 hm hgo hw1 hw ho4 h99 (by omega) q) 4 0 (by omega))
theorem sc_m {h : am_H} (hH : bx_ok h) {E a5 mi go w : Nat} {vE w5 : List Value} (nE : am_lk [(47, am_e0), (48, am_e0), (49, am_e0), (50, am_e0), (51, am_e0), (52, am_e0), (53, am_e0)] E = none) (qE : am_get h E = some (.inr (1, vE))) (e5 : vE[5]? = some (.ref a5)) (e6 : vE[6]? = some (.retAddr mi)) (e7 : vE[7]? = some (.retAddr go)) (n5 : am_lk [(47, am_e0), (48, am_e0), (49, am_e0), (50, am_e0), (51, am_e0), (52, am_e0), (53, am_e0)] a5 = none) (r5 : am_get h a5 = some (.inr (8, w5))) (s5 : w5[3]? = some (.retAddr w)) {q : Nat} {vq : List Value} {own : Nat → Nat} {fw : Nat → Nat → Nat} (qS : ∀ tu le sd wh la hr bh wr bw, am_get (bx h tu le sd wh la hr bh wr bw) q = some (.inr (9, vq))) (cw : ∀ tu le sd wh la hr bh wr bw s t, s < 4 → t < 60 → am_EG mi_41 [.ref q, .retAddr s, .retAddr t] (bx h tu le sd wh la hr bh wr bw) (some (.retAddr (fw s t)), bx h tu le sd wh la hr bh wr bw)) (co : ∀ tu le sd wh la hr bh wr bw i, i < w → am_EG mi_70 [.ref E, .retAddr i] (bx h tu le sd wh la hr bh wr bw) (some (.retAddr (own i)), bx h tu le sd wh la hr bh wr bw)) (hm1 : 1 ≤ mi) (hm : mi ≤ 60) (hgo : go ≤ 3) (hw1 : 1 ≤ w) (hw : w ≤ 4) (ho4 : ∀ i, i < w → own i < 4) (h99 : ∀ s t, s < 4 → t < 60 → fw s t ≤ 99) {tu le sd wh la hr bh wr bw : Nat} (ht : tu ≤ 6) : am_EG mi_108 [.ref 47, .ref E, .ref q] (bx h tu le sd wh la hr bh wr bw) (none, (bx h tu le sd (zf (fa_g fw mi 0) wh (4 * tu)) (zf (fa_g fw mi go) la (4 * tu)) hr bh wr bw)) := by
  refine am_enter (n := 4) tk_108.2.1 (by simp [Value.category]) (Nat.le_of_ble_eq_true rfl) ?_
  show am_Good mi_108 0 [some (.ref 47), some (.ref E), some (.ref q), none, none, none, none] [] (bx h tu le sd wh la hr bh wr bw) _
  refine g_iconst dd_108_0 ic_0 ?_
  refine g_istore_n (i := 3) dd_108_1 (am_nlb_ok rfl) (by decide) ?_
  exact sc_ol hH nE qE e5 e6 e7 n5 r5 s5 qS cw co hm1 hm hgo hw1 hw ho4 h99 ht tu 0 none none none (by omega)
theorem sl_e {h : am_H} (hH : bx_ok h) {E a5 mi go w : Nat} {vE w5 : List Value} (nE : am_lk [(47, am_e0), (48, am_e0), (49, am_e0), (50, am_e0), (51, am_e0), (52, am_e0), (53, am_e0)] E = none) (qE : am_get h E = some (.inr (1, vE))) (e5 : vE[5]? = some (.ref a5)) (e6 : vE[6]? = some (.retAddr mi)) (e7 : vE[7]? = some (.retAddr go)) (n5 : am_lk [(47, am_e0), (48, am_e0), (49, am_e0), (50, am_e0), (51, am_e0), (52, am_e0), (53, am_e0)] a5 = none) (r5 : am_get h a5 = some (.inr (8, w5))) (s5 : w5[3]? = some (.retAddr w)) {q : Nat} {vq : List Value} {own : Nat → Nat} {fw : Nat → Nat → Nat} (qS : ∀ tu le sd wh la hr bh wr bw, am_get (bx h tu le sd wh la hr bh wr bw) q = some (.inr (9, vq))) (cw : ∀ tu le sd wh la hr bh wr bw s t, s < 4 → t < 60 → am_EG mi_41 [.ref q, .retAddr s, .retAddr t] (bx h tu le sd wh la hr bh wr bw) (some (.retAddr (fw s t)), bx h tu le sd wh la hr bh wr bw)) (co : ∀ tu le sd wh la hr bh wr bw i, i < w → am_EG mi_70 [.ref E, .retAddr i] (bx h tu le sd wh la hr bh wr bw) (some (.retAddr (own i)), bx h tu le sd wh la hr bh wr bw)) (hm1 : 1 ≤ mi) (hm : mi ≤ 60) (hgo : go ≤ 3) (hw1 : 1 ≤ w) (hw : w ≤ 4) (ho4 : ∀ i, i < w → own i < 4) (h99 : ∀ s t, s < 4 → t < 60 → fw s t ≤ 99) {tu le sd wh la hr bh wr bw : Nat} {m : Nat} {v4 : Option Value} : am_Good mi_111 6 [some (.ref 47), some (.ref E), some (.retAddr m), some (.retAddr w), v4] [] (bx h tu le sd wh la hr bh wr bw) (some (.retAddr m), (bx h tu le sd wh la hr bh wr bw)) := by
  refine g_iload_n (i := 3) dd_111_6 rfl ?_
  refine g_aload_n (i := 1) dd_111_7 rfl ?_
  refine g_getfield (k := 5) am_ck1 (by decide) (Or.inr ⟨_, w_102⟩) dd_111_8 ((bx_o hH nE).trans qE) e5 ?_
  refine g_getfield (k := 3) am_ck8 (by decide) (Or.inr ⟨_, w_65⟩) dd_111_11 ((bx_o hH n5).trans r5) s5 ?_
  refine g_icmp_ge_t (t := 53) dd_111_14 (by decide) (by first | exact sk_ge_t (by omega) (by omega) | exact tk_ge_t (by omega)) ?_
  refine g_iload_n (i := 2) dd_111_53 rfl ?_
  exact g_ireturn rfl dd_111_54
theorem sl_i {h : am_H} (hH : bx_ok h) {E a5 mi go w : Nat} {vE w5 : List Value} (nE : am_lk [(47, am_e0), (48, am_e0), (49, am_e0), (50, am_e0), (51, am_e0), (52, am_e0), (53, am_e0)] E = none) (qE : am_get h E = some (.inr (1, vE))) (e5 : vE[5]? = some (.ref a5)) (e6 : vE[6]? = some (.retAddr mi)) (e7 : vE[7]? = some (.retAddr go)) (n5 : am_lk [(47, am_e0), (48, am_e0), (49, am_e0), (50, am_e0), (51, am_e0), (52, am_e0), (53, am_e0)] a5 = none) (r5 : am_get h a5 = some (.inr (8, w5))) (s5 : w5[3]? = some (.retAddr w)) {q : Nat} {vq : List Value} {own : Nat → Nat} {fw : Nat → Nat → Nat} (qS : ∀ tu le sd wh la hr bh wr bw, am_get (bx h tu le sd wh la hr bh wr bw) q = some (.inr (9, vq))) (cw : ∀ tu le sd wh la hr bh wr bw s t, s < 4 → t < 60 → am_EG mi_41 [.ref q, .retAddr s, .retAddr t] (bx h tu le sd wh la hr bh wr bw) (some (.retAddr (fw s t)), bx h tu le sd wh la hr bh wr bw)) (co : ∀ tu le sd wh la hr bh wr bw i, i < w → am_EG mi_70 [.ref E, .retAddr i] (bx h tu le sd wh la hr bh wr bw) (some (.retAddr (own i)), bx h tu le sd wh la hr bh wr bw)) (hm1 : 1 ≤ mi) (hm : mi ≤ 60) (hgo : go ≤ 3) (hw1 : 1 ≤ w) (hw : w ≤ 4) (ho4 : ∀ i, i < w → own i < 4) (h99 : ∀ s t, s < 4 → t < 60 → fw s t ≤ 99) {tu le sd wh la hr bh wr bw : Nat} {r : am_R} {m i : Nat} {v4 : Option Value} (hi : i < w) (hb : am_ag wr (own i) ≤ 10000) (hb2 : m ≤ 10000) (hg : am_Good mi_111 6 [some (.ref 47), some (.ref E), some (.retAddr (if am_ag wr (own i) < m then am_ag wr (own i) else m)), some (.retAddr (i + 1)), some (.retAddr (own i))] [] (bx h tu le sd wh la hr bh wr bw) r) : am_Good mi_111 6 [some (.ref 47), some (.ref E), some (.retAddr m), some (.retAddr i), v4] [] (bx h tu le sd wh la hr bh wr bw) r := by
  have o4 := ho4 i hi
  refine g_iload_n (i := 3) dd_111_6 rfl ?_
  refine g_aload_n (i := 1) dd_111_7 rfl ?_
  refine g_getfield (k := 5) am_ck1 (by decide) (Or.inr ⟨_, w_102⟩) dd_111_8 ((bx_o hH nE).trans qE) e5 ?_
  refine g_getfield (k := 3) am_ck8 (by decide) (Or.inr ⟨_, w_65⟩) dd_111_11 ((bx_o hH n5).trans r5) s5 ?_
  refine g_icmp_ge_f (t := 53) dd_111_14 (by decide) (by first | exact sk_ge_f (by omega) (by omega) | exact tk_ge_f (by omega)) ?_
  refine g_aload_n (i := 1) dd_111_17 rfl ?_
  refine g_iload_n (i := 3) dd_111_18 rfl ?_
  refine g_virtual (M' := mi_70) (n := 1) (ci := 1) (b := E) (as := [.retAddr i]) (st := []) (r1 := (some (.retAddr (own i)), (bx h tu le sd wh la hr bh wr bw))) w_840 w_664 w_665 ⟨lk_70.1, lk_70.2.1, lk_70.2.2, by decide, by decide⟩ rfl ((bx_o hH nE).trans qE) rfl (by simp [Value.category]) dd_111_19 (co _ _ _ _ _ _ _ _ _ _ (by omega)) ?_
  show am_Good mi_111 22 [some (.ref 47), some (.ref E), some (.retAddr m), some (.retAddr i), v4] [.retAddr (own i)] (bx h tu le sd wh la hr bh wr bw) _
  refine g_istore dd_111_22 (am_nlb_ok rfl) (by decide) ?_
  refine g_iload dd_111_24 rfl ?_
  refine g_if_lt_f (t := 47) dd_111_26 (by decide) (by first | exact sk_lt_f (by omega) (by omega) | exact tk_lt_f (by omega)) ?_
  refine g_iload dd_111_29 rfl ?_
  refine g_iconst dd_111_31 ic_4 ?_
  refine g_icmp_ge_f (t := 47) dd_111_32 (by decide) (by first | exact sk_ge_f (by omega) (by omega) | exact tk_ge_f (by omega)) ?_
  refine g_iload_n (i := 2) dd_111_35 rfl ?_
  refine g_aload_n (i := 0) dd_111_36 rfl ?_
  refine g_getfield (k := 4) am_ck0 (by decide) (Or.inl w_271) dd_111_37 (bx_g47 hH) rfl ?_
  refine g_iload dd_111_40 rfl ?_
  refine g_iaload dd_111_42 (bx_g52 hH) (by omega) (by decide) ?_
  have hl_1 := am_ag_lt wr (own i)
  refine g_mmin w_826 w_393 w_18 w_394 ⟨by decide, by decide⟩ (by simp [Value.category]) dd_111_43 ?_
  rw [show (bif am_tlt (am_ag wr (own i)) m then (am_ag wr (own i)) else m) = (if am_ag wr (own i) < m then am_ag wr (own i) else m) from (fa_mi (by omega) (by omega))]
  refine g_istore_n (i := 2) dd_111_46 (am_nlb_ok rfl) (by decide) ?_
  refine e_iinc (v := 1) (w := i + 1) dd_111_47 rfl ic_1 (am_nlb_ok rfl) (by decide) (by omega) ?_
  refine g_goto (t := 6) dd_111_50 (by decide) ?_
  exact hg
theorem sl_l {h : am_H} (hH : bx_ok h) {E a5 mi go w : Nat} {vE w5 : List Value} (nE : am_lk [(47, am_e0), (48, am_e0), (49, am_e0), (50, am_e0), (51, am_e0), (52, am_e0), (53, am_e0)] E = none) (qE : am_get h E = some (.inr (1, vE))) (e5 : vE[5]? = some (.ref a5)) (e6 : vE[6]? = some (.retAddr mi)) (e7 : vE[7]? = some (.retAddr go)) (n5 : am_lk [(47, am_e0), (48, am_e0), (49, am_e0), (50, am_e0), (51, am_e0), (52, am_e0), (53, am_e0)] a5 = none) (r5 : am_get h a5 = some (.inr (8, w5))) (s5 : w5[3]? = some (.retAddr w)) {q : Nat} {vq : List Value} {own : Nat → Nat} {fw : Nat → Nat → Nat} (qS : ∀ tu le sd wh la hr bh wr bw, am_get (bx h tu le sd wh la hr bh wr bw) q = some (.inr (9, vq))) (cw : ∀ tu le sd wh la hr bh wr bw s t, s < 4 → t < 60 → am_EG mi_41 [.ref q, .retAddr s, .retAddr t] (bx h tu le sd wh la hr bh wr bw) (some (.retAddr (fw s t)), bx h tu le sd wh la hr bh wr bw)) (co : ∀ tu le sd wh la hr bh wr bw i, i < w → am_EG mi_70 [.ref E, .retAddr i] (bx h tu le sd wh la hr bh wr bw) (some (.retAddr (own i)), bx h tu le sd wh la hr bh wr bw)) (hm1 : 1 ≤ mi) (hm : mi ≤ 60) (hgo : go ≤ 3) (hw1 : 1 ≤ w) (hw : w ≤ 4) (ho4 : ∀ i, i < w → own i < 4) (h99 : ∀ s t, s < 4 → t < 60 → fw s t ≤ 99) {tu le sd wh la hr bh wr bw : Nat} (hb : ∀ s, s < 4 → am_ag wr s ≤ 10000) : ∀ (f i : Nat) (v4 : Option Value), i + f = w → am_Good mi_111 6 [some (.ref 47), some (.ref E), some (.retAddr (fa_m (fun i => am_ag wr (own i)) 1000 i)), some (.retAddr i), v4] [] (bx h tu le sd wh la hr bh wr bw) (some (.retAddr (fa_m (fun i => am_ag wr (own i)) 1000 w)), (bx h tu le sd wh la hr bh wr bw))
  | 0, i, v4, e => by
    have e' : i = w := by omega
    subst e'
    exact sl_e hH nE qE e5 e6 e7 n5 r5 s5 qS cw co hm1 hm hgo hw1 hw ho4 h99
  | f + 1, i, v4, e => by
    have q := sl_l hH nE qE e5 e6 e7 n5 r5 s5 qS cw co hm1 hm hgo hw1 hw ho4 h99 (tu := tu) (le := le) (sd := sd) (wh := wh) (la := la) (hr := hr) (bh := bh) (bw := bw) hb f (i + 1) (some (.retAddr (own i))) (by omega)
    have e1 : fa_m (fun i => am_ag wr (own i)) 1000 (i + 1) = if am_ag wr (own i) < fa_m (fun i => am_ag wr (own i)) 1000 i then am_ag wr (own i) else fa_m (fun i => am_ag wr (own i)) 1000 i := rfl
    rw [e1] at q
    exact sl_i hH nE qE e5 e6 e7 n5 r5 s5 qS cw co hm1 hm hgo hw1 hw ho4 h99 (by omega) (hb _ (ho4 i (by omega))) (Nat.le_trans (fa_m_le i) (by decide)) q
theorem sl_m {h : am_H} (hH : bx_ok h) {E a5 mi go w : Nat} {vE w5 : List Value} (nE : am_lk [(47, am_e0), (48, am_e0), (49, am_e0), (50, am_e0), (51, am_e0), (52, am_e0), (53, am_e0)] E = none) (qE : am_get h E = some (.inr (1, vE))) (e5 : vE[5]? = some (.ref a5)) (e6 : vE[6]? = some (.retAddr mi)) (e7 : vE[7]? = some (.retAddr go)) (n5 : am_lk [(47, am_e0), (48, am_e0), (49, am_e0), (50, am_e0), (51, am_e0), (52, am_e0), (53, am_e0)] a5 = none) (r5 : am_get h a5 = some (.inr (8, w5))) (s5 : w5[3]? = some (.retAddr w)) {q : Nat} {vq : List Value} {own : Nat → Nat} {fw : Nat → Nat → Nat} (qS : ∀ tu le sd wh la hr bh wr bw, am_get (bx h tu le sd wh la hr bh wr bw) q = some (.inr (9, vq))) (cw : ∀ tu le sd wh la hr bh wr bw s t, s < 4 → t < 60 → am_EG mi_41 [.ref q, .retAddr s, .retAddr t] (bx h tu le sd wh la hr bh wr bw) (some (.retAddr (fw s t)), bx h tu le sd wh la hr bh wr bw)) (co : ∀ tu le sd wh la hr bh wr bw i, i < w → am_EG mi_70 [.ref E, .retAddr i] (bx h tu le sd wh la hr bh wr bw) (some (.retAddr (own i)), bx h tu le sd wh la hr bh wr bw)) (hm1 : 1 ≤ mi) (hm : mi ≤ 60) (hgo : go ≤ 3) (hw1 : 1 ≤ w) (hw : w ≤ 4) (ho4 : ∀ i, i < w → own i < 4) (h99 : ∀ s t, s < 4 → t < 60 → fw s t ≤ 99) {tu le sd wh la hr bh wr bw : Nat} (hb : ∀ s, s < 4 → am_ag wr s ≤ 10000) : am_EG mi_111 [.ref 47, .ref E] (bx h tu le sd wh la hr bh wr bw) (some (.retAddr (fa_m (fun i => am_ag wr (own i)) 1000 w)), (bx h tu le sd wh la hr bh wr bw)) := by
  refine am_enter (n := 3) tk_111.2.1 (by simp [Value.category]) (Nat.le_of_ble_eq_true rfl) ?_
  show am_Good mi_111 0 [some (.ref 47), some (.ref E), none, none, none] [] (bx h tu le sd wh la hr bh wr bw) _
  refine g_sipush dd_111_0 si_1000 ?_
  refine g_istore_n (i := 2) dd_111_3 (am_nlb_ok rfl) (by decide) ?_
  refine g_iconst dd_111_4 ic_0 ?_
  refine g_istore_n (i := 3) dd_111_5 (am_nlb_ok rfl) (by decide) ?_
  exact sl_l hH nE qE e5 e6 e7 n5 r5 s5 qS cw co hm1 hm hgo hw1 hw ho4 h99 hb w 0 none (by omega)
theorem sy_e {h : am_H} (hH : bx_ok h) {E a5 mi go w : Nat} {vE w5 : List Value} (nE : am_lk [(47, am_e0), (48, am_e0), (49, am_e0), (50, am_e0), (51, am_e0), (52, am_e0), (53, am_e0)] E = none) (qE : am_get h E = some (.inr (1, vE))) (e5 : vE[5]? = some (.ref a5)) (e6 : vE[6]? = some (.retAddr mi)) (e7 : vE[7]? = some (.retAddr go)) (n5 : am_lk [(47, am_e0), (48, am_e0), (49, am_e0), (50, am_e0), (51, am_e0), (52, am_e0), (53, am_e0)] a5 = none) (r5 : am_get h a5 = some (.inr (8, w5))) (s5 : w5[3]? = some (.retAddr w)) {q : Nat} {vq : List Value} {own : Nat → Nat} {fw : Nat → Nat → Nat} (qS : ∀ tu le sd wh la hr bh wr bw, am_get (bx h tu le sd wh la hr bh wr bw) q = some (.inr (9, vq))) (cw : ∀ tu le sd wh la hr bh wr bw s t, s < 4 → t < 60 → am_EG mi_41 [.ref q, .retAddr s, .retAddr t] (bx h tu le sd wh la hr bh wr bw) (some (.retAddr (fw s t)), bx h tu le sd wh la hr bh wr bw)) (co : ∀ tu le sd wh la hr bh wr bw i, i < w → am_EG mi_70 [.ref E, .retAddr i] (bx h tu le sd wh la hr bh wr bw) (some (.retAddr (own i)), bx h tu le sd wh la hr bh wr bw)) (hm1 : 1 ≤ mi) (hm : mi ≤ 60) (hgo : go ≤ 3) (hw1 : 1 ≤ w) (hw : w ≤ 4) (ho4 : ∀ i, i < w → own i < 4) (h99 : ∀ s t, s < 4 → t < 60 → fw s t ≤ 99) {tu le sd wh la hr bh wr bw : Nat} {v4 v5 v6 : Option Value} {r : am_R} {bf : Nat} (ht : tu ≤ 6) (hg : am_Good mi_110 112 [some (.ref 47), some (.ref E), some (.retAddr bf), some (.retAddr tu), v4, v5, v6] [] (bx h tu le sd wh la hr bh wr bw) r) : am_Good mi_110 13 [some (.ref 47), some (.ref E), some (.retAddr bf), some (.retAddr tu), v4, v5, v6] [] (bx h tu le sd wh la hr bh wr bw) r := by
  refine g_iload_n (i := 3) dd_110_13 rfl ?_
  refine g_aload_n (i := 0) dd_110_14 rfl ?_
  refine g_getfield (k := 6) am_ck0 (by decide) (Or.inl w_273) dd_110_15 (bx_g47 hH) rfl ?_
  refine g_icmp_ge_t (t := 112) dd_110_18 (by decide) (by first | exact sk_ge_t (by omega) (by omega) | exact tk_ge_t (by omega)) ?_
  exact hg
theorem sy_0 {h : am_H} (hH : bx_ok h) {E a5 mi go w : Nat} {vE w5 : List Value} (nE : am_lk [(47, am_e0), (48, am_e0), (49, am_e0), (50, am_e0), (51, am_e0), (52, am_e0), (53, am_e0)] E = none) (qE : am_get h E = some (.inr (1, vE))) (e5 : vE[5]? = some (.ref a5)) (e6 : vE[6]? = some (.retAddr mi)) (e7 : vE[7]? = some (.retAddr go)) (n5 : am_lk [(47, am_e0), (48, am_e0), (49, am_e0), (50, am_e0), (51, am_e0), (52, am_e0), (53, am_e0)] a5 = none) (r5 : am_get h a5 = some (.inr (8, w5))) (s5 : w5[3]? = some (.retAddr w)) {q : Nat} {vq : List Value} {own : Nat → Nat} {fw : Nat → Nat → Nat} (qS : ∀ tu le sd wh la hr bh wr bw, am_get (bx h tu le sd wh la hr bh wr bw) q = some (.inr (9, vq))) (cw : ∀ tu le sd wh la hr bh wr bw s t, s < 4 → t < 60 → am_EG mi_41 [.ref q, .retAddr s, .retAddr t] (bx h tu le sd wh la hr bh wr bw) (some (.retAddr (fw s t)), bx h tu le sd wh la hr bh wr bw)) (co : ∀ tu le sd wh la hr bh wr bw i, i < w → am_EG mi_70 [.ref E, .retAddr i] (bx h tu le sd wh la hr bh wr bw) (some (.retAddr (own i)), bx h tu le sd wh la hr bh wr bw)) (hm1 : 1 ≤ mi) (hm : mi ≤ 60) (hgo : go ≤ 3) (hw1 : 1 ≤ w) (hw : w ≤ 4) (ho4 : ∀ i, i < w → own i < 4) (h99 : ∀ s t, s < 4 → t < 60 → fw s t ≤ 99) {tu le sd wh la hr bh wr bw : Nat} {v4 v5 v6 : Option Value} {r : am_R} {k : Nat} (ht : tu ≤ 6) (hk : k < tu) (hd : am_ag hr k < w)  (hb1 : am_ag wr (own (am_ag hr k)) ≤ 100000) (hb2 : am_ag wh (4 * k + own (am_ag hr k)) ≤ 100000) (hg : am_Good mi_110 13 [some (.ref 47), some (.ref E), some (.retAddr (own (am_ag hr k))), some (.retAddr (k + 1)), some (.retAddr (own (am_ag hr k))), some (.retAddr 0), some (.retAddr (4 * k + own (am_ag hr k)))] [] (bx h tu le sd wh la hr bh (am_as wr (own (am_ag hr k)) (am_ag wr (own (am_ag hr k)) + am_ag wh (4 * k + own (am_ag hr k)))) bw) r) : am_Good mi_110 13 [some (.ref 47), some (.ref E), some (.retAddr 4294967292), some (.retAddr k), v4, v5, v6] [] (bx h tu le sd wh la hr bh wr bw) r := by
  have o4 := ho4 _ hd
  refine g_iload_n (i := 3) dd_110_13 rfl ?_
  refine g_aload_n (i := 0) dd_110_14 rfl ?_
  refine g_getfield (k := 6) am_ck0 (by decide) (Or.inl w_273) dd_110_15 (bx_g47 hH) rfl ?_
  refine g_icmp_ge_f (t := 112) dd_110_18 (by decide) (by first | exact sk_ge_f (by omega) (by omega) | exact tk_ge_f (by omega)) ?_
  refine g_aload_n (i := 1) dd_110_21 rfl ?_
  refine g_aload_n (i := 0) dd_110_22 rfl ?_
  refine g_getfield (k := 2) am_ck0 (by decide) (Or.inl w_269) dd_110_23 (bx_g47 hH) rfl ?_
  refine g_iload_n (i := 3) dd_110_26 rfl ?_
  refine g_iaload dd_110_27 (bx_g50 hH) (by omega) (by decide) ?_
  have hl_1 := am_ag_lt hr k
  refine g_virtual (M' := mi_70) (n := 1) (ci := 1) (b := E) (as := [.retAddr (am_ag hr k)]) (st := []) (r1 := (some (.retAddr (own (am_ag hr k))), (bx h tu le sd wh la hr bh wr bw))) w_840 w_664 w_665 ⟨lk_70.1, lk_70.2.1, lk_70.2.2, by decide, by decide⟩ rfl ((bx_o hH nE).trans qE) rfl (by simp [Value.category]) dd_110_28 (co _ _ _ _ _ _ _ _ _ _ hd) ?_
  show am_Good mi_110 31 [some (.ref 47), some (.ref E), some (.retAddr 4294967292), some (.retAddr k), v4, v5, v6] [.retAddr (own (am_ag hr k))] (bx h tu le sd wh la hr bh wr bw) _
  refine g_istore dd_110_31 (am_nlb_ok rfl) (by decide) ?_
  refine g_iload dd_110_33 rfl ?_
  refine g_if_lt_f (t := 103) dd_110_35 (by decide) (by first | exact sk_lt_f (by omega) (by omega) | exact tk_lt_f (by omega)) ?_
  refine g_iload dd_110_38 rfl ?_
  refine g_iconst dd_110_40 ic_4 ?_
  refine g_icmp_ge_f (t := 103) dd_110_41 (by decide) (by first | exact sk_ge_f (by omega) (by omega) | exact tk_ge_f (by omega)) ?_
  refine g_iload_n (i := 2) dd_110_44 rfl ?_
  refine g_bipush dd_110_45 bi_m4 ?_
  refine g_icmp_eq_t (t := 60) dd_110_47 (by decide) (by decide) ?_
  refine g_iconst dd_110_60 ic_0 ?_
  refine g_istore dd_110_61 (am_nlb_ok rfl) (by decide) ?_
  refine g_iload_n (i := 3) dd_110_63 rfl ?_
  refine g_iconst dd_110_64 ic_4 ?_
  refine e_imul (v := 4 * k) dd_110_65 (by omega) ?_
  refine g_iload dd_110_66 rfl ?_
  refine e_iadd (v := 4 * k + own (am_ag hr k)) dd_110_68 (by omega) ?_
  refine g_istore dd_110_69 (am_nlb_ok rfl) (by decide) ?_
  refine g_aload_n (i := 0) dd_110_71 rfl ?_
  refine g_getfield (k := 4) am_ck0 (by decide) (Or.inl w_271) dd_110_72 (bx_g47 hH) rfl ?_
  refine g_iload dd_110_75 rfl ?_
  refine g_dup2 dd_110_77 rfl rfl ?_
  refine g_iaload dd_110_78 (bx_g52 hH) (by omega) (by decide) ?_
  have hl_2 := am_ag_lt wr (own (am_ag hr k))
  refine g_iload dd_110_79 rfl ?_
  refine g_if_eq_t (t := 94) dd_110_81 (by decide) (by decide) ?_
  refine g_aload_n (i := 0) dd_110_94 rfl ?_
  refine g_getfield (k := 0) am_ck0 (by decide) (Or.inl w_267) dd_110_95 (bx_g47 hH) rfl ?_
  refine g_iload dd_110_98 rfl ?_
  refine g_iaload dd_110_100 (bx_g48 hH) (by omega) (by decide) ?_
  have hl_3 := am_ag_lt wh (4 * k + own (am_ag hr k))
  refine e_iadd (v := (am_ag wr (own (am_ag hr k))) + (am_ag wh (4 * k + own (am_ag hr k)))) dd_110_101 (by omega) ?_
  refine g_iastore dd_110_102 (bx_g52 hH) (by omega) (by decide) ?_
  refine am_heq (bx_u52 hH) ?_
  show am_Good mi_110 103 [some (.ref 47), some (.ref E), some (.retAddr 4294967292), some (.retAddr k), some (.retAddr (own (am_ag hr k))), some (.retAddr 0), some (.retAddr (4 * k + own (am_ag hr k)))] [] (bx h tu le sd wh la hr bh (am_as wr (own (am_ag hr k)) ((am_ag wr (own (am_ag hr k))) + (am_ag wh (4 * k + own (am_ag hr k))))) bw) _
  refine g_iload dd_110_103 rfl ?_
  refine g_istore_n (i := 2) dd_110_105 (am_nlb_ok rfl) (by decide) ?_
  refine e_iinc (v := 1) (w := k + 1) dd_110_106 rfl ic_1 (am_nlb_ok rfl) (by decide) (by omega) ?_
  refine g_goto (t := 13) dd_110_109 (by decide) ?_
  exact hg
theorem sy_s {h : am_H} (hH : bx_ok h) {E a5 mi go w : Nat} {vE w5 : List Value} (nE : am_lk [(47, am_e0), (48, am_e0), (49, am_e0), (50, am_e0), (51, am_e0), (52, am_e0), (53, am_e0)] E = none) (qE : am_get h E = some (.inr (1, vE))) (e5 : vE[5]? = some (.ref a5)) (e6 : vE[6]? = some (.retAddr mi)) (e7 : vE[7]? = some (.retAddr go)) (n5 : am_lk [(47, am_e0), (48, am_e0), (49, am_e0), (50, am_e0), (51, am_e0), (52, am_e0), (53, am_e0)] a5 = none) (r5 : am_get h a5 = some (.inr (8, w5))) (s5 : w5[3]? = some (.retAddr w)) {q : Nat} {vq : List Value} {own : Nat → Nat} {fw : Nat → Nat → Nat} (qS : ∀ tu le sd wh la hr bh wr bw, am_get (bx h tu le sd wh la hr bh wr bw) q = some (.inr (9, vq))) (cw : ∀ tu le sd wh la hr bh wr bw s t, s < 4 → t < 60 → am_EG mi_41 [.ref q, .retAddr s, .retAddr t] (bx h tu le sd wh la hr bh wr bw) (some (.retAddr (fw s t)), bx h tu le sd wh la hr bh wr bw)) (co : ∀ tu le sd wh la hr bh wr bw i, i < w → am_EG mi_70 [.ref E, .retAddr i] (bx h tu le sd wh la hr bh wr bw) (some (.retAddr (own i)), bx h tu le sd wh la hr bh wr bw)) (hm1 : 1 ≤ mi) (hm : mi ≤ 60) (hgo : go ≤ 3) (hw1 : 1 ≤ w) (hw : w ≤ 4) (ho4 : ∀ i, i < w → own i < 4) (h99 : ∀ s t, s < 4 → t < 60 → fw s t ≤ 99) {tu le sd wh la hr bh wr bw : Nat} {v4 v5 v6 : Option Value} {r : am_R} {bf k : Nat} (ht : tu ≤ 6) (hk : k < tu) (hd : am_ag hr k < w) (hbf : bf < 4) (hc : bf = own (am_ag hr k)) (hb1 : am_ag wr (own (am_ag hr k)) ≤ 100000) (hb2 : am_ag wh (4 * k + own (am_ag hr k)) ≤ 100000) (hg : am_Good mi_110 13 [some (.ref 47), some (.ref E), some (.retAddr (own (am_ag hr k))), some (.retAddr (k + 1)), some (.retAddr (own (am_ag hr k))), some (.retAddr 0), some (.retAddr (4 * k + own (am_ag hr k)))] [] (bx h tu le sd wh la hr bh (am_as wr (own (am_ag hr k)) (am_ag wr (own (am_ag hr k)) + am_ag wh (4 * k + own (am_ag hr k)))) bw) r) : am_Good mi_110 13 [some (.ref 47), some (.ref E), some (.retAddr bf), some (.retAddr k), v4, v5, v6] [] (bx h tu le sd wh la hr bh wr bw) r := by
  have o4 := ho4 _ hd
  refine g_iload_n (i := 3) dd_110_13 rfl ?_
  refine g_aload_n (i := 0) dd_110_14 rfl ?_
  refine g_getfield (k := 6) am_ck0 (by decide) (Or.inl w_273) dd_110_15 (bx_g47 hH) rfl ?_
  refine g_icmp_ge_f (t := 112) dd_110_18 (by decide) (by first | exact sk_ge_f (by omega) (by omega) | exact tk_ge_f (by omega)) ?_
  refine g_aload_n (i := 1) dd_110_21 rfl ?_
  refine g_aload_n (i := 0) dd_110_22 rfl ?_
  refine g_getfield (k := 2) am_ck0 (by decide) (Or.inl w_269) dd_110_23 (bx_g47 hH) rfl ?_
  refine g_iload_n (i := 3) dd_110_26 rfl ?_
  refine g_iaload dd_110_27 (bx_g50 hH) (by omega) (by decide) ?_
  have hl_1 := am_ag_lt hr k
  refine g_virtual (M' := mi_70) (n := 1) (ci := 1) (b := E) (as := [.retAddr (am_ag hr k)]) (st := []) (r1 := (some (.retAddr (own (am_ag hr k))), (bx h tu le sd wh la hr bh wr bw))) w_840 w_664 w_665 ⟨lk_70.1, lk_70.2.1, lk_70.2.2, by decide, by decide⟩ rfl ((bx_o hH nE).trans qE) rfl (by simp [Value.category]) dd_110_28 (co _ _ _ _ _ _ _ _ _ _ hd) ?_
  show am_Good mi_110 31 [some (.ref 47), some (.ref E), some (.retAddr bf), some (.retAddr k), v4, v5, v6] [.retAddr (own (am_ag hr k))] (bx h tu le sd wh la hr bh wr bw) _
  refine g_istore dd_110_31 (am_nlb_ok rfl) (by decide) ?_
  refine g_iload dd_110_33 rfl ?_
  refine g_if_lt_f (t := 103) dd_110_35 (by decide) (by first | exact sk_lt_f (by omega) (by omega) | exact tk_lt_f (by omega)) ?_
  refine g_iload dd_110_38 rfl ?_
  refine g_iconst dd_110_40 ic_4 ?_
  refine g_icmp_ge_f (t := 103) dd_110_41 (by decide) (by first | exact sk_ge_f (by omega) (by omega) | exact tk_ge_f (by omega)) ?_
  refine g_iload_n (i := 2) dd_110_44 rfl ?_
  refine g_bipush dd_110_45 bi_m4 ?_
  refine g_icmp_eq_f (t := 60) dd_110_47 (by decide) (tk_eq_f (by omega)) ?_
  refine g_iload_n (i := 2) dd_110_50 rfl ?_
  refine g_iload dd_110_51 rfl ?_
  refine g_icmp_eq_t (t := 60) dd_110_53 (by decide) (tk_eq_t (by omega)) ?_
  refine g_iconst dd_110_60 ic_0 ?_
  refine g_istore dd_110_61 (am_nlb_ok rfl) (by decide) ?_
  refine g_iload_n (i := 3) dd_110_63 rfl ?_
  refine g_iconst dd_110_64 ic_4 ?_
  refine e_imul (v := 4 * k) dd_110_65 (by omega) ?_
  refine g_iload dd_110_66 rfl ?_
  refine e_iadd (v := 4 * k + own (am_ag hr k)) dd_110_68 (by omega) ?_
  refine g_istore dd_110_69 (am_nlb_ok rfl) (by decide) ?_
  refine g_aload_n (i := 0) dd_110_71 rfl ?_
  refine g_getfield (k := 4) am_ck0 (by decide) (Or.inl w_271) dd_110_72 (bx_g47 hH) rfl ?_
  refine g_iload dd_110_75 rfl ?_
  refine g_dup2 dd_110_77 rfl rfl ?_
  refine g_iaload dd_110_78 (bx_g52 hH) (by omega) (by decide) ?_
  have hl_2 := am_ag_lt wr (own (am_ag hr k))
  refine g_iload dd_110_79 rfl ?_
  refine g_if_eq_t (t := 94) dd_110_81 (by decide) (by decide) ?_
  refine g_aload_n (i := 0) dd_110_94 rfl ?_
  refine g_getfield (k := 0) am_ck0 (by decide) (Or.inl w_267) dd_110_95 (bx_g47 hH) rfl ?_
  refine g_iload dd_110_98 rfl ?_
  refine g_iaload dd_110_100 (bx_g48 hH) (by omega) (by decide) ?_
  have hl_3 := am_ag_lt wh (4 * k + own (am_ag hr k))
  refine e_iadd (v := (am_ag wr (own (am_ag hr k))) + (am_ag wh (4 * k + own (am_ag hr k)))) dd_110_101 (by omega) ?_
  refine g_iastore dd_110_102 (bx_g52 hH) (by omega) (by decide) ?_
  refine am_heq (bx_u52 hH) ?_
  show am_Good mi_110 103 [some (.ref 47), some (.ref E), some (.retAddr bf), some (.retAddr k), some (.retAddr (own (am_ag hr k))), some (.retAddr 0), some (.retAddr (4 * k + own (am_ag hr k)))] [] (bx h tu le sd wh la hr bh (am_as wr (own (am_ag hr k)) ((am_ag wr (own (am_ag hr k))) + (am_ag wh (4 * k + own (am_ag hr k))))) bw) _
  refine g_iload dd_110_103 rfl ?_
  refine g_istore_n (i := 2) dd_110_105 (am_nlb_ok rfl) (by decide) ?_
  refine e_iinc (v := 1) (w := k + 1) dd_110_106 rfl ic_1 (am_nlb_ok rfl) (by decide) (by omega) ?_
  refine g_goto (t := 13) dd_110_109 (by decide) ?_
  exact hg
theorem sy_c {h : am_H} (hH : bx_ok h) {E a5 mi go w : Nat} {vE w5 : List Value} (nE : am_lk [(47, am_e0), (48, am_e0), (49, am_e0), (50, am_e0), (51, am_e0), (52, am_e0), (53, am_e0)] E = none) (qE : am_get h E = some (.inr (1, vE))) (e5 : vE[5]? = some (.ref a5)) (e6 : vE[6]? = some (.retAddr mi)) (e7 : vE[7]? = some (.retAddr go)) (n5 : am_lk [(47, am_e0), (48, am_e0), (49, am_e0), (50, am_e0), (51, am_e0), (52, am_e0), (53, am_e0)] a5 = none) (r5 : am_get h a5 = some (.inr (8, w5))) (s5 : w5[3]? = some (.retAddr w)) {q : Nat} {vq : List Value} {own : Nat → Nat} {fw : Nat → Nat → Nat} (qS : ∀ tu le sd wh la hr bh wr bw, am_get (bx h tu le sd wh la hr bh wr bw) q = some (.inr (9, vq))) (cw : ∀ tu le sd wh la hr bh wr bw s t, s < 4 → t < 60 → am_EG mi_41 [.ref q, .retAddr s, .retAddr t] (bx h tu le sd wh la hr bh wr bw) (some (.retAddr (fw s t)), bx h tu le sd wh la hr bh wr bw)) (co : ∀ tu le sd wh la hr bh wr bw i, i < w → am_EG mi_70 [.ref E, .retAddr i] (bx h tu le sd wh la hr bh wr bw) (some (.retAddr (own i)), bx h tu le sd wh la hr bh wr bw)) (hm1 : 1 ≤ mi) (hm : mi ≤ 60) (hgo : go ≤ 3) (hw1 : 1 ≤ w) (hw : w ≤ 4) (ho4 : ∀ i, i < w → own i < 4) (h99 : ∀ s t, s < 4 → t < 60 → fw s t ≤ 99) {tu le sd wh la hr bh wr bw : Nat} {v4 v5 v6 : Option Value} {r : am_R} {bf k : Nat} (ht : tu ≤ 6) (hk : k < tu) (hd : am_ag hr k < w) (hbf : bf < 4) (hc : bf ≠ own (am_ag hr k)) (hb1 : am_ag wr (own (am_ag hr k)) ≤ 100000) (hb2 : am_ag la (4 * k + own (am_ag hr k)) ≤ 100000) (hg : am_Good mi_110 13 [some (.ref 47), some (.ref E), some (.retAddr (own (am_ag hr k))), some (.retAddr (k + 1)), some (.retAddr (own (am_ag hr k))), some (.retAddr 1), some (.retAddr (4 * k + own (am_ag hr k)))] [] (bx h tu le sd wh la hr bh (am_as wr (own (am_ag hr k)) (am_ag wr (own (am_ag hr k)) + am_ag la (4 * k + own (am_ag hr k)))) bw) r) : am_Good mi_110 13 [some (.ref 47), some (.ref E), some (.retAddr bf), some (.retAddr k), v4, v5, v6] [] (bx h tu le sd wh la hr bh wr bw) r := by
  have o4 := ho4 _ hd
  refine g_iload_n (i := 3) dd_110_13 rfl ?_
  refine g_aload_n (i := 0) dd_110_14 rfl ?_
  refine g_getfield (k := 6) am_ck0 (by decide) (Or.inl w_273) dd_110_15 (bx_g47 hH) rfl ?_
  refine g_icmp_ge_f (t := 112) dd_110_18 (by decide) (by first | exact sk_ge_f (by omega) (by omega) | exact tk_ge_f (by omega)) ?_
  refine g_aload_n (i := 1) dd_110_21 rfl ?_
  refine g_aload_n (i := 0) dd_110_22 rfl ?_
  refine g_getfield (k := 2) am_ck0 (by decide) (Or.inl w_269) dd_110_23 (bx_g47 hH) rfl ?_
  refine g_iload_n (i := 3) dd_110_26 rfl ?_
  refine g_iaload dd_110_27 (bx_g50 hH) (by omega) (by decide) ?_
  have hl_1 := am_ag_lt hr k
  refine g_virtual (M' := mi_70) (n := 1) (ci := 1) (b := E) (as := [.retAddr (am_ag hr k)]) (st := []) (r1 := (some (.retAddr (own (am_ag hr k))), (bx h tu le sd wh la hr bh wr bw))) w_840 w_664 w_665 ⟨lk_70.1, lk_70.2.1, lk_70.2.2, by decide, by decide⟩ rfl ((bx_o hH nE).trans qE) rfl (by simp [Value.category]) dd_110_28 (co _ _ _ _ _ _ _ _ _ _ hd) ?_
  show am_Good mi_110 31 [some (.ref 47), some (.ref E), some (.retAddr bf), some (.retAddr k), v4, v5, v6] [.retAddr (own (am_ag hr k))] (bx h tu le sd wh la hr bh wr bw) _
  refine g_istore dd_110_31 (am_nlb_ok rfl) (by decide) ?_
  refine g_iload dd_110_33 rfl ?_
  refine g_if_lt_f (t := 103) dd_110_35 (by decide) (by first | exact sk_lt_f (by omega) (by omega) | exact tk_lt_f (by omega)) ?_
  refine g_iload dd_110_38 rfl ?_
  refine g_iconst dd_110_40 ic_4 ?_
  refine g_icmp_ge_f (t := 103) dd_110_41 (by decide) (by first | exact sk_ge_f (by omega) (by omega) | exact tk_ge_f (by omega)) ?_
  refine g_iload_n (i := 2) dd_110_44 rfl ?_
  refine g_bipush dd_110_45 bi_m4 ?_
  refine g_icmp_eq_f (t := 60) dd_110_47 (by decide) (tk_eq_f (by omega)) ?_
  refine g_iload_n (i := 2) dd_110_50 rfl ?_
  refine g_iload dd_110_51 rfl ?_
  refine g_icmp_eq_f (t := 60) dd_110_53 (by decide) (tk_eq_f (by omega)) ?_
  refine g_iconst dd_110_56 ic_1 ?_
  refine g_goto (t := 61) dd_110_57 (by decide) ?_
  refine g_istore dd_110_61 (am_nlb_ok rfl) (by decide) ?_
  refine g_iload_n (i := 3) dd_110_63 rfl ?_
  refine g_iconst dd_110_64 ic_4 ?_
  refine e_imul (v := 4 * k) dd_110_65 (by omega) ?_
  refine g_iload dd_110_66 rfl ?_
  refine e_iadd (v := 4 * k + own (am_ag hr k)) dd_110_68 (by omega) ?_
  refine g_istore dd_110_69 (am_nlb_ok rfl) (by decide) ?_
  refine g_aload_n (i := 0) dd_110_71 rfl ?_
  refine g_getfield (k := 4) am_ck0 (by decide) (Or.inl w_271) dd_110_72 (bx_g47 hH) rfl ?_
  refine g_iload dd_110_75 rfl ?_
  refine g_dup2 dd_110_77 rfl rfl ?_
  refine g_iaload dd_110_78 (bx_g52 hH) (by omega) (by decide) ?_
  have hl_2 := am_ag_lt wr (own (am_ag hr k))
  refine g_iload dd_110_79 rfl ?_
  refine g_if_eq_f (t := 94) dd_110_81 (by decide) (by decide) ?_
  refine g_aload_n (i := 0) dd_110_84 rfl ?_
  refine g_getfield (k := 1) am_ck0 (by decide) (Or.inl w_268) dd_110_85 (bx_g47 hH) rfl ?_
  refine g_iload dd_110_88 rfl ?_
  refine g_iaload dd_110_90 (bx_g49 hH) (by omega) (by decide) ?_
  have hl_3 := am_ag_lt la (4 * k + own (am_ag hr k))
  refine g_goto (t := 101) dd_110_91 (by decide) ?_
  refine e_iadd (v := (am_ag wr (own (am_ag hr k))) + (am_ag la (4 * k + own (am_ag hr k)))) dd_110_101 (by omega) ?_
  refine g_iastore dd_110_102 (bx_g52 hH) (by omega) (by decide) ?_
  refine am_heq (bx_u52 hH) ?_
  show am_Good mi_110 103 [some (.ref 47), some (.ref E), some (.retAddr bf), some (.retAddr k), some (.retAddr (own (am_ag hr k))), some (.retAddr 1), some (.retAddr (4 * k + own (am_ag hr k)))] [] (bx h tu le sd wh la hr bh (am_as wr (own (am_ag hr k)) ((am_ag wr (own (am_ag hr k))) + (am_ag la (4 * k + own (am_ag hr k))))) bw) _
  refine g_iload dd_110_103 rfl ?_
  refine g_istore_n (i := 2) dd_110_105 (am_nlb_ok rfl) (by decide) ?_
  refine e_iinc (v := 1) (w := k + 1) dd_110_106 rfl ic_1 (am_nlb_ok rfl) (by decide) (by omega) ?_
  refine g_goto (t := 13) dd_110_109 (by decide) ?_
  exact hg
theorem sy_fn {h : am_H} (hH : bx_ok h) {E a5 mi go w : Nat} {vE w5 : List Value} (nE : am_lk [(47, am_e0), (48, am_e0), (49, am_e0), (50, am_e0), (51, am_e0), (52, am_e0), (53, am_e0)] E = none) (qE : am_get h E = some (.inr (1, vE))) (e5 : vE[5]? = some (.ref a5)) (e6 : vE[6]? = some (.retAddr mi)) (e7 : vE[7]? = some (.retAddr go)) (n5 : am_lk [(47, am_e0), (48, am_e0), (49, am_e0), (50, am_e0), (51, am_e0), (52, am_e0), (53, am_e0)] a5 = none) (r5 : am_get h a5 = some (.inr (8, w5))) (s5 : w5[3]? = some (.retAddr w)) {q : Nat} {vq : List Value} {own : Nat → Nat} {fw : Nat → Nat → Nat} (qS : ∀ tu le sd wh la hr bh wr bw, am_get (bx h tu le sd wh la hr bh wr bw) q = some (.inr (9, vq))) (cw : ∀ tu le sd wh la hr bh wr bw s t, s < 4 → t < 60 → am_EG mi_41 [.ref q, .retAddr s, .retAddr t] (bx h tu le sd wh la hr bh wr bw) (some (.retAddr (fw s t)), bx h tu le sd wh la hr bh wr bw)) (co : ∀ tu le sd wh la hr bh wr bw i, i < w → am_EG mi_70 [.ref E, .retAddr i] (bx h tu le sd wh la hr bh wr bw) (some (.retAddr (own i)), bx h tu le sd wh la hr bh wr bw)) (hm1 : 1 ≤ mi) (hm : mi ≤ 60) (hgo : go ≤ 3) (hw1 : 1 ≤ w) (hw : w ≤ 4) (ho4 : ∀ i, i < w → own i < 4) (h99 : ∀ s t, s < 4 → t < 60 → fw s t ≤ 99) {tu sd wh la hr bh wr bw : Nat} {v4 v5 v6 : Option Value} {bf : Nat} (hb : ∀ s, s < 4 → am_ag wr s ≤ 10000)  : am_Good mi_110 112 [some (.ref 47), some (.ref E), some (.retAddr bf), some (.retAddr tu), v4, v5, v6] [] (bx h tu 4294967292 sd wh la hr bh wr bw) (none, (bx h tu (fa_m (fun i => am_ag wr (own i)) 1000 w) sd wh la hr (am_cp hr bh 0 0 6) wr (am_cp wr bw 0 0 4))) := by
  have fl := fa_m_le (f := fun i => am_ag wr (own i)) (b := 1000) w
  refine g_aload_n (i := 0) dd_110_112 rfl ?_
  refine g_aload_n (i := 1) dd_110_113 rfl ?_
  refine g_virtual (M' := mi_111) (n := 1) (ci := 0) (b := 47) (as := [.ref E]) (st := []) (r1 := (some (.retAddr (fa_m (fun i => am_ag wr (own i)) 1000 w)), (bx h tu 4294967292 sd wh la hr bh wr bw))) w_841 w_843 ps_111 ⟨lk_111.1, lk_111.2.1, lk_111.2.2, by decide, by decide⟩ rfl (bx_g47 hH) rfl (by simp [Value.category]) dd_110_114 (sl_m hH nE qE e5 e6 e7 n5 r5 s5 qS cw co hm1 hm hgo hw1 hw ho4 h99 hb) ?_
  show am_Good mi_110 117 [some (.ref 47), some (.ref E), some (.retAddr bf), some (.retAddr tu), v4, v5, v6] [.retAddr (fa_m (fun i => am_ag wr (own i)) 1000 w)] (bx h tu 4294967292 sd wh la hr bh wr bw) _
  refine g_istore_n (i := 3) dd_110_117 (am_nlb_ok rfl) (by decide) ?_
  refine g_iload_n (i := 3) dd_110_118 rfl ?_
  refine g_aload_n (i := 0) dd_110_119 rfl ?_
  refine g_getfield (k := 7) am_ck0 (by decide) (Or.inl w_274) dd_110_120 (bx_g47 hH) rfl ?_
  refine g_icmp_le_f (t := 160) dd_110_123 (by decide) (by first | exact sk_le_f (by omega) (by omega) | exact tk_le_f (by omega)) ?_
  refine g_aload_n (i := 0) dd_110_126 rfl ?_
  refine g_iload_n (i := 3) dd_110_127 rfl ?_
  refine g_putfield (k := 7) am_ck0 (by decide) (Or.inl w_274) (Or.inl rfl) dd_110_128 (bx_g47 hH) (Nat.le_of_ble_eq_true rfl) trivial ?_
  refine am_heq (bx_u47 hH) ?_
  show am_Good mi_110 131 [some (.ref 47), some (.ref E), some (.retAddr bf), some (.retAddr (fa_m (fun i => am_ag wr (own i)) 1000 w)), v4, v5, v6] [] (bx h tu (fa_m (fun i => am_ag wr (own i)) 1000 w) sd wh la hr bh wr bw) _
  refine g_aload_n (i := 0) dd_110_131 rfl ?_
  refine g_getfield (k := 2) am_ck0 (by decide) (Or.inl w_269) dd_110_132 (bx_g47 hH) rfl ?_
  refine g_iconst dd_110_135 ic_0 ?_
  refine g_aload_n (i := 0) dd_110_136 rfl ?_
  refine g_getfield (k := 3) am_ck0 (by decide) (Or.inl w_270) dd_110_137 (bx_g47 hH) rfl ?_
  refine g_iconst dd_110_140 ic_0 ?_
  refine g_bipush dd_110_141 bi_6 ?_
  refine g_acopy w_845 w_433 w_432 w_19 ⟨by decide, by decide⟩ (by simp [Value.category]) dd_110_143 (bx_g50 hH) (bx_g51 hH) (by omega) (by omega) (by decide) (by decide) ?_
  refine am_heq (bx_u51 hH) ?_
  show am_Good mi_110 146 [some (.ref 47), some (.ref E), some (.retAddr bf), some (.retAddr (fa_m (fun i => am_ag wr (own i)) 1000 w)), v4, v5, v6] [] (bx h tu (fa_m (fun i => am_ag wr (own i)) 1000 w) sd wh la hr (am_cp hr bh 0 0 6) wr bw) _
  refine g_aload_n (i := 0) dd_110_146 rfl ?_
  refine g_getfield (k := 4) am_ck0 (by decide) (Or.inl w_271) dd_110_147 (bx_g47 hH) rfl ?_
  refine g_iconst dd_110_150 ic_0 ?_
  refine g_aload_n (i := 0) dd_110_151 rfl ?_
  refine g_getfield (k := 5) am_ck0 (by decide) (Or.inl w_272) dd_110_152 (bx_g47 hH) rfl ?_
  refine g_iconst dd_110_155 ic_0 ?_
  refine g_iconst dd_110_156 ic_4 ?_
  refine g_acopy w_845 w_433 w_432 w_19 ⟨by decide, by decide⟩ (by simp [Value.category]) dd_110_157 (bx_g52 hH) (bx_g53 hH) (by omega) (by omega) (by decide) (by decide) ?_
  refine am_heq (bx_u53 hH) ?_
  show am_Good mi_110 160 [some (.ref 47), some (.ref E), some (.retAddr bf), some (.retAddr (fa_m (fun i => am_ag wr (own i)) 1000 w)), v4, v5, v6] [] (bx h tu (fa_m (fun i => am_ag wr (own i)) 1000 w) sd wh la hr (am_cp hr bh 0 0 6) wr (am_cp wr bw 0 0 4)) _
  exact g_return rfl dd_110_160
theorem sy_fb {h : am_H} (hH : bx_ok h) {E a5 mi go w : Nat} {vE w5 : List Value} (nE : am_lk [(47, am_e0), (48, am_e0), (49, am_e0), (50, am_e0), (51, am_e0), (52, am_e0), (53, am_e0)] E = none) (qE : am_get h E = some (.inr (1, vE))) (e5 : vE[5]? = some (.ref a5)) (e6 : vE[6]? = some (.retAddr mi)) (e7 : vE[7]? = some (.retAddr go)) (n5 : am_lk [(47, am_e0), (48, am_e0), (49, am_e0), (50, am_e0), (51, am_e0), (52, am_e0), (53, am_e0)] a5 = none) (r5 : am_get h a5 = some (.inr (8, w5))) (s5 : w5[3]? = some (.retAddr w)) {q : Nat} {vq : List Value} {own : Nat → Nat} {fw : Nat → Nat → Nat} (qS : ∀ tu le sd wh la hr bh wr bw, am_get (bx h tu le sd wh la hr bh wr bw) q = some (.inr (9, vq))) (cw : ∀ tu le sd wh la hr bh wr bw s t, s < 4 → t < 60 → am_EG mi_41 [.ref q, .retAddr s, .retAddr t] (bx h tu le sd wh la hr bh wr bw) (some (.retAddr (fw s t)), bx h tu le sd wh la hr bh wr bw)) (co : ∀ tu le sd wh la hr bh wr bw i, i < w → am_EG mi_70 [.ref E, .retAddr i] (bx h tu le sd wh la hr bh wr bw) (some (.retAddr (own i)), bx h tu le sd wh la hr bh wr bw)) (hm1 : 1 ≤ mi) (hm : mi ≤ 60) (hgo : go ≤ 3) (hw1 : 1 ≤ w) (hw : w ≤ 4) (ho4 : ∀ i, i < w → own i < 4) (h99 : ∀ s t, s < 4 → t < 60 → fw s t ≤ 99) {tu le sd wh la hr bh wr bw : Nat} {v4 v5 v6 : Option Value} {bf : Nat} (hb : ∀ s, s < 4 → am_ag wr s ≤ 10000) (hc : le < fa_m (fun i => am_ag wr (own i)) 1000 w) : am_Good mi_110 112 [some (.ref 47), some (.ref E), some (.retAddr bf), some (.retAddr tu), v4, v5, v6] [] (bx h tu le sd wh la hr bh wr bw) (none, (bx h tu (fa_m (fun i => am_ag wr (own i)) 1000 w) sd wh la hr (am_cp hr bh 0 0 6) wr (am_cp wr bw 0 0 4))) := by
  have fl := fa_m_le (f := fun i => am_ag wr (own i)) (b := 1000) w
  refine g_aload_n (i := 0) dd_110_112 rfl ?_
  refine g_aload_n (i := 1) dd_110_113 rfl ?_
  refine g_virtual (M' := mi_111) (n := 1) (ci := 0) (b := 47) (as := [.ref E]) (st := []) (r1 := (some (.retAddr (fa_m (fun i => am_ag wr (own i)) 1000 w)), (bx h tu le sd wh la hr bh wr bw))) w_841 w_843 ps_111 ⟨lk_111.1, lk_111.2.1, lk_111.2.2, by decide, by decide⟩ rfl (bx_g47 hH) rfl (by simp [Value.category]) dd_110_114 (sl_m hH nE qE e5 e6 e7 n5 r5 s5 qS cw co hm1 hm hgo hw1 hw ho4 h99 hb) ?_
  show am_Good mi_110 117 [some (.ref 47), some (.ref E), some (.retAddr bf), some (.retAddr tu), v4, v5, v6] [.retAddr (fa_m (fun i => am_ag wr (own i)) 1000 w)] (bx h tu le sd wh la hr bh wr bw) _
  refine g_istore_n (i := 3) dd_110_117 (am_nlb_ok rfl) (by decide) ?_
  refine g_iload_n (i := 3) dd_110_118 rfl ?_
  refine g_aload_n (i := 0) dd_110_119 rfl ?_
  refine g_getfield (k := 7) am_ck0 (by decide) (Or.inl w_274) dd_110_120 (bx_g47 hH) rfl ?_
  refine g_icmp_le_f (t := 160) dd_110_123 (by decide) (by first | exact sk_le_f (by omega) (by omega) | exact tk_le_f (by omega)) ?_
  refine g_aload_n (i := 0) dd_110_126 rfl ?_
  refine g_iload_n (i := 3) dd_110_127 rfl ?_
  refine g_putfield (k := 7) am_ck0 (by decide) (Or.inl w_274) (Or.inl rfl) dd_110_128 (bx_g47 hH) (Nat.le_of_ble_eq_true rfl) trivial ?_
  refine am_heq (bx_u47 hH) ?_
  show am_Good mi_110 131 [some (.ref 47), some (.ref E), some (.retAddr bf), some (.retAddr (fa_m (fun i => am_ag wr (own i)) 1000 w)), v4, v5, v6] [] (bx h tu (fa_m (fun i => am_ag wr (own i)) 1000 w) sd wh la hr bh wr bw) _
  refine g_aload_n (i := 0) dd_110_131 rfl ?_
  refine g_getfield (k := 2) am_ck0 (by decide) (Or.inl w_269) dd_110_132 (bx_g47 hH) rfl ?_
  refine g_iconst dd_110_135 ic_0 ?_
  refine g_aload_n (i := 0) dd_110_136 rfl ?_
  refine g_getfield (k := 3) am_ck0 (by decide) (Or.inl w_270) dd_110_137 (bx_g47 hH) rfl ?_
  refine g_iconst dd_110_140 ic_0 ?_
  refine g_bipush dd_110_141 bi_6 ?_
  refine g_acopy w_845 w_433 w_432 w_19 ⟨by decide, by decide⟩ (by simp [Value.category]) dd_110_143 (bx_g50 hH) (bx_g51 hH) (by omega) (by omega) (by decide) (by decide) ?_
  refine am_heq (bx_u51 hH) ?_
  show am_Good mi_110 146 [some (.ref 47), some (.ref E), some (.retAddr bf), some (.retAddr (fa_m (fun i => am_ag wr (own i)) 1000 w)), v4, v5, v6] [] (bx h tu (fa_m (fun i => am_ag wr (own i)) 1000 w) sd wh la hr (am_cp hr bh 0 0 6) wr bw) _
  refine g_aload_n (i := 0) dd_110_146 rfl ?_
  refine g_getfield (k := 4) am_ck0 (by decide) (Or.inl w_271) dd_110_147 (bx_g47 hH) rfl ?_
  refine g_iconst dd_110_150 ic_0 ?_
  refine g_aload_n (i := 0) dd_110_151 rfl ?_
  refine g_getfield (k := 5) am_ck0 (by decide) (Or.inl w_272) dd_110_152 (bx_g47 hH) rfl ?_
  refine g_iconst dd_110_155 ic_0 ?_
  refine g_iconst dd_110_156 ic_4 ?_
  refine g_acopy w_845 w_433 w_432 w_19 ⟨by decide, by decide⟩ (by simp [Value.category]) dd_110_157 (bx_g52 hH) (bx_g53 hH) (by omega) (by omega) (by decide) (by decide) ?_
  refine am_heq (bx_u53 hH) ?_
  show am_Good mi_110 160 [some (.ref 47), some (.ref E), some (.retAddr bf), some (.retAddr (fa_m (fun i => am_ag wr (own i)) 1000 w)), v4, v5, v6] [] (bx h tu (fa_m (fun i => am_ag wr (own i)) 1000 w) sd wh la hr (am_cp hr bh 0 0 6) wr (am_cp wr bw 0 0 4)) _
  exact g_return rfl dd_110_160
theorem sy_fk {h : am_H} (hH : bx_ok h) {E a5 mi go w : Nat} {vE w5 : List Value} (nE : am_lk [(47, am_e0), (48, am_e0), (49, am_e0), (50, am_e0), (51, am_e0), (52, am_e0), (53, am_e0)] E = none) (qE : am_get h E = some (.inr (1, vE))) (e5 : vE[5]? = some (.ref a5)) (e6 : vE[6]? = some (.retAddr mi)) (e7 : vE[7]? = some (.retAddr go)) (n5 : am_lk [(47, am_e0), (48, am_e0), (49, am_e0), (50, am_e0), (51, am_e0), (52, am_e0), (53, am_e0)] a5 = none) (r5 : am_get h a5 = some (.inr (8, w5))) (s5 : w5[3]? = some (.retAddr w)) {q : Nat} {vq : List Value} {own : Nat → Nat} {fw : Nat → Nat → Nat} (qS : ∀ tu le sd wh la hr bh wr bw, am_get (bx h tu le sd wh la hr bh wr bw) q = some (.inr (9, vq))) (cw : ∀ tu le sd wh la hr bh wr bw s t, s < 4 → t < 60 → am_EG mi_41 [.ref q, .retAddr s, .retAddr t] (bx h tu le sd wh la hr bh wr bw) (some (.retAddr (fw s t)), bx h tu le sd wh la hr bh wr bw)) (co : ∀ tu le sd wh la hr bh wr bw i, i < w → am_EG mi_70 [.ref E, .retAddr i] (bx h tu le sd wh la hr bh wr bw) (some (.retAddr (own i)), bx h tu le sd wh la hr bh wr bw)) (hm1 : 1 ≤ mi) (hm : mi ≤ 60) (hgo : go ≤ 3) (hw1 : 1 ≤ w) (hw : w ≤ 4) (ho4 : ∀ i, i < w → own i < 4) (h99 : ∀ s t, s < 4 → t < 60 → fw s t ≤ 99) {tu le sd wh la hr bh wr bw : Nat} {v4 v5 v6 : Option Value} {bf : Nat} (hb : ∀ s, s < 4 → am_ag wr s ≤ 10000) (hc : ¬ le < fa_m (fun i => am_ag wr (own i)) 1000 w) (hl : le ≤ 1000) : am_Good mi_110 112 [some (.ref 47), some (.ref E), some (.retAddr bf), some (.retAddr tu), v4, v5, v6] [] (bx h tu le sd wh la hr bh wr bw) (none, (bx h tu le sd wh la hr bh wr bw)) := by
  have fl := fa_m_le (f := fun i => am_ag wr (own i)) (b := 1000) w
  refine g_aload_n (i := 0) dd_110_112 rfl ?_
  refine g_aload_n (i := 1) dd_110_113 rfl ?_
  refine g_virtual (M' := mi_111) (n := 1) (ci := 0) (b := 47) (as := [.ref E]) (st := []) (r1 := (some (.retAddr (fa_m (fun i => am_ag wr (own i)) 1000 w)), (bx h tu le sd wh la hr bh wr bw))) w_841 w_843 ps_111 ⟨lk_111.1, lk_111.2.1, lk_111.2.2, by decide, by decide⟩ rfl (bx_g47 hH) rfl (by simp [Value.category]) dd_110_114 (sl_m hH nE qE e5 e6 e7 n5 r5 s5 qS cw co hm1 hm hgo hw1 hw ho4 h99 hb) ?_
  show am_Good mi_110 117 [some (.ref 47), some (.ref E), some (.retAddr bf), some (.retAddr tu), v4, v5, v6] [.retAddr (fa_m (fun i => am_ag wr (own i)) 1000 w)] (bx h tu le sd wh la hr bh wr bw) _
  refine g_istore_n (i := 3) dd_110_117 (am_nlb_ok rfl) (by decide) ?_
  refine g_iload_n (i := 3) dd_110_118 rfl ?_
  refine g_aload_n (i := 0) dd_110_119 rfl ?_
  refine g_getfield (k := 7) am_ck0 (by decide) (Or.inl w_274) dd_110_120 (bx_g47 hH) rfl ?_
  refine g_icmp_le_t (t := 160) dd_110_123 (by decide) (by first | exact sk_le_t (by omega) (by omega) | exact tk_le_t (by omega)) ?_
  exact g_return rfl dd_110_160
/-- a turn more -/
theorem sy_st {fw : Nat → Nat → Nat} {mi go k o wr pl : Nat} {on : Nat → Nat} (ho : on k = o) (hp : pl = fa_p fw mi k o (fa_l go on k)) (hs : o < 4) (hb : ∀ s, s < 4 → am_ag wr s ≤ 10000) (hpb : pl ≤ 10000) (hw : ∀ s, s < 4 → am_ag wr s = fa_w fw mi go on s k) : ∀ s, s < 4 → am_ag (am_as wr o (am_ag wr o + pl)) s = fa_w fw mi go on s (k + 1) := fun s h4 => by
  show am_ag (am_as wr o (am_ag wr o + pl)) s = (if on k = s then fa_w fw mi go on s k + fa_p fw mi k s (fa_l go on k) else fa_w fw mi go on s k)
  rw [am_ag_as, ho]
  by_cases c : s = o
  · subst c
    have := hb s h4
    rw [if_pos rfl, if_pos rfl, Nat.mod_eq_of_lt (by omega), hw s h4, hp]
  · rw [if_neg c, if_neg (fun q => c q.symm), hw s h4]
theorem sy_l {h : am_H} (hH : bx_ok h) {E a5 mi go w : Nat} {vE w5 : List Value} (nE : am_lk [(47, am_e0), (48, am_e0), (49, am_e0), (50, am_e0), (51, am_e0), (52, am_e0), (53, am_e0)] E = none) (qE : am_get h E = some (.inr (1, vE))) (e5 : vE[5]? = some (.ref a5)) (e6 : vE[6]? = some (.retAddr mi)) (e7 : vE[7]? = some (.retAddr go)) (n5 : am_lk [(47, am_e0), (48, am_e0), (49, am_e0), (50, am_e0), (51, am_e0), (52, am_e0), (53, am_e0)] a5 = none) (r5 : am_get h a5 = some (.inr (8, w5))) (s5 : w5[3]? = some (.retAddr w)) {q : Nat} {vq : List Value} {own : Nat → Nat} {fw : Nat → Nat → Nat} (qS : ∀ tu le sd wh la hr bh wr bw, am_get (bx h tu le sd wh la hr bh wr bw) q = some (.inr (9, vq))) (cw : ∀ tu le sd wh la hr bh wr bw s t, s < 4 → t < 60 → am_EG mi_41 [.ref q, .retAddr s, .retAddr t] (bx h tu le sd wh la hr bh wr bw) (some (.retAddr (fw s t)), bx h tu le sd wh la hr bh wr bw)) (co : ∀ tu le sd wh la hr bh wr bw i, i < w → am_EG mi_70 [.ref E, .retAddr i] (bx h tu le sd wh la hr bh wr bw) (some (.retAddr (own i)), bx h tu le sd wh la hr bh wr bw)) (hm1 : 1 ≤ mi) (hm : mi ≤ 60) (hgo : go ≤ 3) (hw1 : 1 ≤ w) (hw : w ≤ 4) (ho4 : ∀ i, i < w → own i < 4) (h99 : ∀ s t, s < 4 → t < 60 → fw s t ≤ 99) {tu le sd wh la hr bh bw : Nat} {RES : Nat → am_H} (ht : tu ≤ 6) (hd : ∀ r, r < tu → am_ag hr r < w) (cwh : ∀ k, k < tu → ∀ s, s < 4 → am_ag wh (4 * k + s) = fa_p fw mi k s 0) (cla : ∀ k, k < tu → ∀ s, s < 4 → am_ag la (4 * k + s) = fa_p fw mi k s go) (hK : ∀ (wr bf : Nat) (v4 v5 v6 : Option Value), (∀ s, s < 4 → am_ag wr s = fa_w fw mi go (fun r => own (am_ag hr r)) s tu) → am_Good mi_110 112 [some (.ref 47), some (.ref E), some (.retAddr bf), some (.retAddr tu), v4, v5, v6] [] (bx h tu le sd wh la hr bh wr bw) (none, RES wr)) : ∀ (f k wr bf : Nat) (v4 v5 v6 : Option Value), k + f = tu → (k = 0 → bf = 4294967292) → (0 < k → bf = own (am_ag hr (k - 1))) → (∀ s, s < 4 → am_ag wr s = fa_w fw mi go (fun r => own (am_ag hr r)) s k) → ∃ wr', (∀ s, s < 4 → am_ag wr' s = fa_w fw mi go (fun r => own (am_ag hr r)) s tu) ∧ am_Good mi_110 13 [some (.ref 47), some (.ref E), some (.retAddr bf), some (.retAddr k), v4, v5, v6] [] (bx h tu le sd wh la hr bh wr bw) (none, RES wr')
  | 0, k, wr, bf, v4, v5, v6, e, h0, h1, hwr => by
    have e' : k = tu := by omega
    subst e'
    exact ⟨wr, hwr, sy_e hH nE qE e5 e6 e7 n5 r5 s5 qS cw co hm1 hm hgo hw1 hw ho4 h99 ht (hK wr bf v4 v5 v6 hwr)⟩
  | f + 1, k, wr, bf, v4, v5, v6, e, h0, h1, hwr => by
    have hk : k < tu := by omega
    have hdk := hd k hk
    have o4 := ho4 _ hdk
    have bd : ∀ s, s < 4 → am_ag wr s ≤ 10000 := fun s hs => by
      rw [hwr s hs]
      have q := fa_w_le (fw := fw) (mi := mi) (go := go) (s := s) (on := (fun r => own (am_ag hr r))) (M := 99) (fun t h => h99 s t hs (by omega)) k
      omega
    have pb : ∀ d, fa_p fw mi k (own (am_ag hr k)) d ≤ 990 := fun d => fa_p_le (M := 99) (fun t h => h99 _ t o4 (by omega))
    have b1 := bd _ o4
    by_cases z : k = 0
    · have e1 : am_ag wh (4 * k + own (am_ag hr k)) = fa_p fw mi k (own (am_ag hr k)) (fa_l go (fun r => own (am_ag hr r)) k) := by
        rw [cwh k hk _ o4]
        unfold fa_l
        rw [if_pos z]
      obtain ⟨wr', p, q⟩ := sy_l hH nE qE e5 e6 e7 n5 r5 s5 qS cw co hm1 hm hgo hw1 hw ho4 h99 (le := le) (sd := sd) (bh := bh) (bw := bw) ht hd cwh cla hK f (k + 1) _ (own (am_ag hr k)) (some (.retAddr (own (am_ag hr k)))) (some (.retAddr 0)) (some (.retAddr (4 * k + own (am_ag hr k)))) (by omega) (fun h => by omega) (fun _ => by rw [Nat.add_sub_cancel]) (sy_st (on := (fun r => own (am_ag hr r))) (k := k) rfl e1 o4 bd (by rw [e1]; exact Nat.le_trans (pb _) (by decide)) hwr)
      refine ⟨wr', p, ?_⟩
      rw [h0 z]
      exact sy_0 hH nE qE e5 e6 e7 n5 r5 s5 qS cw co hm1 hm hgo hw1 hw ho4 h99 ht hk hdk (by omega) (by rw [e1]; exact Nat.le_trans (pb _) (by decide)) q
    · have hb := h1 (by omega)
      have hb4 : bf < 4 := by rw [hb]; exact ho4 _ (hd _ (by omega))
      by_cases c : bf = own (am_ag hr k)
      · have e1 : am_ag wh (4 * k + own (am_ag hr k)) = fa_p fw mi k (own (am_ag hr k)) (fa_l go (fun r => own (am_ag hr r)) k) := by
          rw [cwh k hk _ o4]
          unfold fa_l
          rw [if_neg z, if_pos (hb.symm.trans c)]
        obtain ⟨wr', p, q⟩ := sy_l hH nE qE e5 e6 e7 n5 r5 s5 qS cw co hm1 hm hgo hw1 hw ho4 h99 (le := le) (sd := sd) (bh := bh) (bw := bw) ht hd cwh cla hK f (k + 1) _ (own (am_ag hr k)) (some (.retAddr (own (am_ag hr k)))) (some (.retAddr 0)) (some (.retAddr (4 * k + own (am_ag hr k)))) (by omega) (fun h => by omega) (fun _ => by rw [Nat.add_sub_cancel]) (sy_st (on := (fun r => own (am_ag hr r))) (k := k) rfl e1 o4 bd (by rw [e1]; exact Nat.le_trans (pb _) (by decide)) hwr)
        exact ⟨wr', p, sy_s hH nE qE e5 e6 e7 n5 r5 s5 qS cw co hm1 hm hgo hw1 hw ho4 h99 ht hk hdk hb4 c (by omega) (by rw [e1]; exact Nat.le_trans (pb _) (by decide)) q⟩
      · have e1 : am_ag la (4 * k + own (am_ag hr k)) = fa_p fw mi k (own (am_ag hr k)) (fa_l go (fun r => own (am_ag hr r)) k) := by
          rw [cla k hk _ o4]
          unfold fa_l
          rw [if_neg z, if_neg (fun h => c (hb.trans h))]
        obtain ⟨wr', p, q⟩ := sy_l hH nE qE e5 e6 e7 n5 r5 s5 qS cw co hm1 hm hgo hw1 hw ho4 h99 (le := le) (sd := sd) (bh := bh) (bw := bw) ht hd cwh cla hK f (k + 1) _ (own (am_ag hr k)) (some (.retAddr (own (am_ag hr k)))) (some (.retAddr 1)) (some (.retAddr (4 * k + own (am_ag hr k)))) (by omega) (fun h => by omega) (fun _ => by rw [Nat.add_sub_cancel]) (sy_st (on := (fun r => own (am_ag hr r))) (k := k) rfl e1 o4 bd (by rw [e1]; exact Nat.le_trans (pb _) (by decide)) hwr)
        exact ⟨wr', p, sy_c hH nE qE e5 e6 e7 n5 r5 s5 qS cw co hm1 hm hgo hw1 hw ho4 h99 ht hk hdk hb4 c (by omega) (by rw [e1]; exact Nat.le_trans (pb _) (by decide)) q⟩
theorem sy_p {h : am_H} (hH : bx_ok h) {E a5 mi go w : Nat} {vE w5 : List Value} (nE : am_lk [(47, am_e0), (48, am_e0), (49, am_e0), (50, am_e0), (51, am_e0), (52, am_e0), (53, am_e0)] E = none) (qE : am_get h E = some (.inr (1, vE))) (e5 : vE[5]? = some (.ref a5)) (e6 : vE[6]? = some (.retAddr mi)) (e7 : vE[7]? = some (.retAddr go)) (n5 : am_lk [(47, am_e0), (48, am_e0), (49, am_e0), (50, am_e0), (51, am_e0), (52, am_e0), (53, am_e0)] a5 = none) (r5 : am_get h a5 = some (.inr (8, w5))) (s5 : w5[3]? = some (.retAddr w)) {q : Nat} {vq : List Value} {own : Nat → Nat} {fw : Nat → Nat → Nat} (qS : ∀ tu le sd wh la hr bh wr bw, am_get (bx h tu le sd wh la hr bh wr bw) q = some (.inr (9, vq))) (cw : ∀ tu le sd wh la hr bh wr bw s t, s < 4 → t < 60 → am_EG mi_41 [.ref q, .retAddr s, .retAddr t] (bx h tu le sd wh la hr bh wr bw) (some (.retAddr (fw s t)), bx h tu le sd wh la hr bh wr bw)) (co : ∀ tu le sd wh la hr bh wr bw i, i < w → am_EG mi_70 [.ref E, .retAddr i] (bx h tu le sd wh la hr bh wr bw) (some (.retAddr (own i)), bx h tu le sd wh la hr bh wr bw)) (hm1 : 1 ≤ mi) (hm : mi ≤ 60) (hgo : go ≤ 3) (hw1 : 1 ≤ w) (hw : w ≤ 4) (ho4 : ∀ i, i < w → own i < 4) (h99 : ∀ s t, s < 4 → t < 60 → fw s t ≤ 99) {tu le sd wh la hr bh wr bw : Nat} {r : am_R} (hg : am_Good mi_110 13 [some (.ref 47), some (.ref E), some (.retAddr 4294967292), some (.retAddr 0), none, none, none] [] (bx h tu le sd wh la hr bh (am_fl 0 wr 0 4) bw) r) : am_EG mi_110 [.ref 47, .ref E] (bx h tu le sd wh la hr bh wr bw) r := by
  refine am_enter (n := 5) tk_110.2.1 (by simp [Value.category]) (Nat.le_of_ble_eq_true rfl) ?_
  show am_Good mi_110 0 [some (.ref 47), some (.ref E), none, none, none, none, none] [] (bx h tu le sd wh la hr bh wr bw) _
  refine g_aload_n (i := 0) dd_110_0 rfl ?_
  refine g_getfield (k := 4) am_ck0 (by decide) (Or.inl w_271) dd_110_1 (bx_g47 hH) rfl ?_
  refine g_iconst dd_110_4 ic_0 ?_
  refine g_static (M' := mi_9) (n := 2) (as := [.ref 52, .retAddr 0]) (st := []) (r1 := (none, (bx h tu le sd wh la hr bh (am_fl 0 wr 0 4) bw))) w_835 w_222 ⟨lk_9.1, lk_9.2.1, lk_9.2.2, by decide, by decide⟩ rfl (by simp [Value.category]) dd_110_5 (bx_f52 hH) ?_
  show am_Good mi_110 8 [some (.ref 47), some (.ref E), none, none, none, none, none] [] (bx h tu le sd wh la hr bh (am_fl 0 wr 0 4) bw) _
  refine g_bipush dd_110_8 bi_m4 ?_
  refine g_istore_n (i := 2) dd_110_10 (am_nlb_ok rfl) (by decide) ?_
  refine g_iconst dd_110_11 ic_0 ?_
  refine g_istore_n (i := 3) dd_110_12 (am_nlb_ok rfl) (by decide) ?_
  exact hg
theorem sy_n {h : am_H} (hH : bx_ok h) {E a5 mi go w : Nat} {vE w5 : List Value} (nE : am_lk [(47, am_e0), (48, am_e0), (49, am_e0), (50, am_e0), (51, am_e0), (52, am_e0), (53, am_e0)] E = none) (qE : am_get h E = some (.inr (1, vE))) (e5 : vE[5]? = some (.ref a5)) (e6 : vE[6]? = some (.retAddr mi)) (e7 : vE[7]? = some (.retAddr go)) (n5 : am_lk [(47, am_e0), (48, am_e0), (49, am_e0), (50, am_e0), (51, am_e0), (52, am_e0), (53, am_e0)] a5 = none) (r5 : am_get h a5 = some (.inr (8, w5))) (s5 : w5[3]? = some (.retAddr w)) {q : Nat} {vq : List Value} {own : Nat → Nat} {fw : Nat → Nat → Nat} (qS : ∀ tu le sd wh la hr bh wr bw, am_get (bx h tu le sd wh la hr bh wr bw) q = some (.inr (9, vq))) (cw : ∀ tu le sd wh la hr bh wr bw s t, s < 4 → t < 60 → am_EG mi_41 [.ref q, .retAddr s, .retAddr t] (bx h tu le sd wh la hr bh wr bw) (some (.retAddr (fw s t)), bx h tu le sd wh la hr bh wr bw)) (co : ∀ tu le sd wh la hr bh wr bw i, i < w → am_EG mi_70 [.ref E, .retAddr i] (bx h tu le sd wh la hr bh wr bw) (some (.retAddr (own i)), bx h tu le sd wh la hr bh wr bw)) (hm1 : 1 ≤ mi) (hm : mi ≤ 60) (hgo : go ≤ 3) (hw1 : 1 ≤ w) (hw : w ≤ 4) (ho4 : ∀ i, i < w → own i < 4) (h99 : ∀ s t, s < 4 → t < 60 → fw s t ≤ 99) {tu sd wh la hr bh wr bw : Nat} (ht : tu ≤ 6) (hd : ∀ r, r < tu → am_ag hr r < w) (cwh : ∀ k, k < tu → ∀ s, s < 4 → am_ag wh (4 * k + s) = fa_p fw mi k s 0) (cla : ∀ k, k < tu → ∀ s, s < 4 → am_ag la (4 * k + s) = fa_p fw mi k s go)  : ∃ wr', (∀ s, s < 4 → am_ag wr' s = fa_w fw mi go (fun r => own (am_ag hr r)) s tu) ∧ am_EG mi_110 [.ref 47, .ref E] (bx h tu 4294967292 sd wh la hr bh wr bw) (none, (bx h tu (fa_m (fun i => fa_w fw mi go (fun r => own (am_ag hr r)) (own i) tu) 1000 w) sd wh la hr (am_cp hr bh 0 0 6) (wr') (am_cp wr' bw 0 0 4))) := by
  obtain ⟨wr', p, q⟩ := sy_l hH nE qE e5 e6 e7 n5 r5 s5 qS cw co hm1 hm hgo hw1 hw ho4 h99 (le := 4294967292) (sd := sd) (bh := bh) (bw := bw) (RES := fun wr' => (bx h tu (fa_m (fun i => fa_w fw mi go (fun r => own (am_ag hr r)) (own i) tu) 1000 w) sd wh la hr (am_cp hr bh 0 0 6) (wr') (am_cp wr' bw 0 0 4))) ht hd cwh cla (fun wr' bf v4 v5 v6 hwr => by
    have bd : ∀ s, s < 4 → am_ag wr' s ≤ 10000 := fun s hs => by
      rw [hwr s hs]
      have q := fa_w_le (fw := fw) (mi := mi) (go := go) (s := s) (on := (fun r => own (am_ag hr r))) (M := 99) (fun t h => h99 s t hs (by omega)) tu
      omega
    have eW : fa_m (fun i => am_ag wr' (own i)) 1000 w = fa_m (fun i => fa_w fw mi go (fun r => own (am_ag hr r)) (own i) tu) 1000 w := fa_m_cg (fun i hi => hwr _ (ho4 i hi))
    have e := sy_fn hH nE qE e5 e6 e7 n5 r5 s5 qS cw co hm1 hm hgo hw1 hw ho4 h99 (tu := tu) (sd := sd) (wh := wh) (la := la) (hr := hr) (bh := bh) (wr := wr') (bw := bw) (v4 := v4) (v5 := v5) (v6 := v6) (bf := bf) bd
    rw [eW] at e
    exact e) tu 0 (am_fl 0 wr 0 4) 4294967292 none none none (by omega) (fun _ => rfl) (fun h => absurd h (Nat.lt_irrefl _)) (fun s hs => by
    rw [am_fl_ag, if_pos (by omega)]
    rfl)
  exact ⟨wr', p, sy_p hH nE qE e5 e6 e7 n5 r5 s5 qS cw co hm1 hm hgo hw1 hw ho4 h99 q⟩
theorem sy_b {h : am_H} (hH : bx_ok h) {E a5 mi go w : Nat} {vE w5 : List Value} (nE : am_lk [(47, am_e0), (48, am_e0), (49, am_e0), (50, am_e0), (51, am_e0), (52, am_e0), (53, am_e0)] E = none) (qE : am_get h E = some (.inr (1, vE))) (e5 : vE[5]? = some (.ref a5)) (e6 : vE[6]? = some (.retAddr mi)) (e7 : vE[7]? = some (.retAddr go)) (n5 : am_lk [(47, am_e0), (48, am_e0), (49, am_e0), (50, am_e0), (51, am_e0), (52, am_e0), (53, am_e0)] a5 = none) (r5 : am_get h a5 = some (.inr (8, w5))) (s5 : w5[3]? = some (.retAddr w)) {q : Nat} {vq : List Value} {own : Nat → Nat} {fw : Nat → Nat → Nat} (qS : ∀ tu le sd wh la hr bh wr bw, am_get (bx h tu le sd wh la hr bh wr bw) q = some (.inr (9, vq))) (cw : ∀ tu le sd wh la hr bh wr bw s t, s < 4 → t < 60 → am_EG mi_41 [.ref q, .retAddr s, .retAddr t] (bx h tu le sd wh la hr bh wr bw) (some (.retAddr (fw s t)), bx h tu le sd wh la hr bh wr bw)) (co : ∀ tu le sd wh la hr bh wr bw i, i < w → am_EG mi_70 [.ref E, .retAddr i] (bx h tu le sd wh la hr bh wr bw) (some (.retAddr (own i)), bx h tu le sd wh la hr bh wr bw)) (hm1 : 1 ≤ mi) (hm : mi ≤ 60) (hgo : go ≤ 3) (hw1 : 1 ≤ w) (hw : w ≤ 4) (ho4 : ∀ i, i < w → own i < 4) (h99 : ∀ s t, s < 4 → t < 60 → fw s t ≤ 99) {tu le sd wh la hr bh wr bw : Nat} (ht : tu ≤ 6) (hd : ∀ r, r < tu → am_ag hr r < w) (cwh : ∀ k, k < tu → ∀ s, s < 4 → am_ag wh (4 * k + s) = fa_p fw mi k s 0) (cla : ∀ k, k < tu → ∀ s, s < 4 → am_ag la (4 * k + s) = fa_p fw mi k s go) (hc : le < fa_m (fun i => fa_w fw mi go (fun r => own (am_ag hr r)) (own i) tu) 1000 w) : ∃ wr', (∀ s, s < 4 → am_ag wr' s = fa_w fw mi go (fun r => own (am_ag hr r)) s tu) ∧ am_EG mi_110 [.ref 47, .ref E] (bx h tu le sd wh la hr bh wr bw) (none, (bx h tu (fa_m (fun i => fa_w fw mi go (fun r => own (am_ag hr r)) (own i) tu) 1000 w) sd wh la hr (am_cp hr bh 0 0 6) (wr') (am_cp wr' bw 0 0 4))) := by
  obtain ⟨wr', p, q⟩ := sy_l hH nE qE e5 e6 e7 n5 r5 s5 qS cw co hm1 hm hgo hw1 hw ho4 h99 (le := le) (sd := sd) (bh := bh) (bw := bw) (RES := fun wr' => (bx h tu (fa_m (fun i => fa_w fw mi go (fun r => own (am_ag hr r)) (own i) tu) 1000 w) sd wh la hr (am_cp hr bh 0 0 6) (wr') (am_cp wr' bw 0 0 4))) ht hd cwh cla (fun wr' bf v4 v5 v6 hwr => by
    have bd : ∀ s, s < 4 → am_ag wr' s ≤ 10000 := fun s hs => by
      rw [hwr s hs]
      have q := fa_w_le (fw := fw) (mi := mi) (go := go) (s := s) (on := (fun r => own (am_ag hr r))) (M := 99) (fun t h => h99 s t hs (by omega)) tu
      omega
    have eW : fa_m (fun i => am_ag wr' (own i)) 1000 w = fa_m (fun i => fa_w fw mi go (fun r => own (am_ag hr r)) (own i) tu) 1000 w := fa_m_cg (fun i hi => hwr _ (ho4 i hi))
    have e := sy_fb hH nE qE e5 e6 e7 n5 r5 s5 qS cw co hm1 hm hgo hw1 hw ho4 h99 (tu := tu) (sd := sd) (wh := wh) (la := la) (hr := hr) (bh := bh) (wr := wr') (bw := bw) (v4 := v4) (v5 := v5) (v6 := v6) (bf := bf) bd (by rw [eW]; exact hc)
    rw [eW] at e
    exact e) tu 0 (am_fl 0 wr 0 4) 4294967292 none none none (by omega) (fun _ => rfl) (fun h => absurd h (Nat.lt_irrefl _)) (fun s hs => by
    rw [am_fl_ag, if_pos (by omega)]
    rfl)
  exact ⟨wr', p, sy_p hH nE qE e5 e6 e7 n5 r5 s5 qS cw co hm1 hm hgo hw1 hw ho4 h99 q⟩
theorem sy_k {h : am_H} (hH : bx_ok h) {E a5 mi go w : Nat} {vE w5 : List Value} (nE : am_lk [(47, am_e0), (48, am_e0), (49, am_e0), (50, am_e0), (51, am_e0), (52, am_e0), (53, am_e0)] E = none) (qE : am_get h E = some (.inr (1, vE))) (e5 : vE[5]? = some (.ref a5)) (e6 : vE[6]? = some (.retAddr mi)) (e7 : vE[7]? = some (.retAddr go)) (n5 : am_lk [(47, am_e0), (48, am_e0), (49, am_e0), (50, am_e0), (51, am_e0), (52, am_e0), (53, am_e0)] a5 = none) (r5 : am_get h a5 = some (.inr (8, w5))) (s5 : w5[3]? = some (.retAddr w)) {q : Nat} {vq : List Value} {own : Nat → Nat} {fw : Nat → Nat → Nat} (qS : ∀ tu le sd wh la hr bh wr bw, am_get (bx h tu le sd wh la hr bh wr bw) q = some (.inr (9, vq))) (cw : ∀ tu le sd wh la hr bh wr bw s t, s < 4 → t < 60 → am_EG mi_41 [.ref q, .retAddr s, .retAddr t] (bx h tu le sd wh la hr bh wr bw) (some (.retAddr (fw s t)), bx h tu le sd wh la hr bh wr bw)) (co : ∀ tu le sd wh la hr bh wr bw i, i < w → am_EG mi_70 [.ref E, .retAddr i] (bx h tu le sd wh la hr bh wr bw) (some (.retAddr (own i)), bx h tu le sd wh la hr bh wr bw)) (hm1 : 1 ≤ mi) (hm : mi ≤ 60) (hgo : go ≤ 3) (hw1 : 1 ≤ w) (hw : w ≤ 4) (ho4 : ∀ i, i < w → own i < 4) (h99 : ∀ s t, s < 4 → t < 60 → fw s t ≤ 99) {tu le sd wh la hr bh wr bw : Nat} (ht : tu ≤ 6) (hd : ∀ r, r < tu → am_ag hr r < w) (cwh : ∀ k, k < tu → ∀ s, s < 4 → am_ag wh (4 * k + s) = fa_p fw mi k s 0) (cla : ∀ k, k < tu → ∀ s, s < 4 → am_ag la (4 * k + s) = fa_p fw mi k s go) (hc : ¬ le < fa_m (fun i => fa_w fw mi go (fun r => own (am_ag hr r)) (own i) tu) 1000 w) (hl : le ≤ 1000) : ∃ wr', (∀ s, s < 4 → am_ag wr' s = fa_w fw mi go (fun r => own (am_ag hr r)) s tu) ∧ am_EG mi_110 [.ref 47, .ref E] (bx h tu le sd wh la hr bh wr bw) (none, (bx h tu le sd wh la hr bh (wr') bw)) := by
  obtain ⟨wr', p, q⟩ := sy_l hH nE qE e5 e6 e7 n5 r5 s5 qS cw co hm1 hm hgo hw1 hw ho4 h99 (le := le) (sd := sd) (bh := bh) (bw := bw) (RES := fun wr' => (bx h tu le sd wh la hr bh (wr') bw)) ht hd cwh cla (fun wr' bf v4 v5 v6 hwr => by
    have bd : ∀ s, s < 4 → am_ag wr' s ≤ 10000 := fun s hs => by
      rw [hwr s hs]
      have q := fa_w_le (fw := fw) (mi := mi) (go := go) (s := s) (on := (fun r => own (am_ag hr r))) (M := 99) (fun t h => h99 s t hs (by omega)) tu
      omega
    have eW : fa_m (fun i => am_ag wr' (own i)) 1000 w = fa_m (fun i => fa_w fw mi go (fun r => own (am_ag hr r)) (own i) tu) 1000 w := fa_m_cg (fun i hi => hwr _ (ho4 i hi))
    have e := sy_fk hH nE qE e5 e6 e7 n5 r5 s5 qS cw co hm1 hm hgo hw1 hw ho4 h99 (tu := tu) (sd := sd) (wh := wh) (la := la) (hr := hr) (bh := bh) (wr := wr') (bw := bw) (v4 := v4) (v5 := v5) (v6 := v6) (bf := bf) bd (by rw [eW]; exact hc) hl
    exact e) tu 0 (am_fl 0 wr 0 4) 4294967292 none none none (by omega) (fun _ => rfl) (fun h => absurd h (Nat.lt_irrefl _)) (fun s hs => by
    rw [am_fl_ag, if_pos (by omega)]
    rfl)
  exact ⟨wr', p, sy_p hH nE qE e5 e6 e7 n5 r5 s5 qS cw co hm1 hm hgo hw1 hw ho4 h99 q⟩
theorem sn_e {h : am_H} (hH : bx_ok h) {E a5 mi go w : Nat} {vE w5 : List Value} (nE : am_lk [(47, am_e0), (48, am_e0), (49, am_e0), (50, am_e0), (51, am_e0), (52, am_e0), (53, am_e0)] E = none) (qE : am_get h E = some (.inr (1, vE))) (e5 : vE[5]? = some (.ref a5)) (e6 : vE[6]? = some (.retAddr mi)) (e7 : vE[7]? = some (.retAddr go)) (n5 : am_lk [(47, am_e0), (48, am_e0), (49, am_e0), (50, am_e0), (51, am_e0), (52, am_e0), (53, am_e0)] a5 = none) (r5 : am_get h a5 = some (.inr (8, w5))) (s5 : w5[3]? = some (.retAddr w)) {q : Nat} {vq : List Value} {own : Nat → Nat} {fw : Nat → Nat → Nat} (qS : ∀ tu le sd wh la hr bh wr bw, am_get (bx h tu le sd wh la hr bh wr bw) q = some (.inr (9, vq))) (cw : ∀ tu le sd wh la hr bh wr bw s t, s < 4 → t < 60 → am_EG mi_41 [.ref q, .retAddr s, .retAddr t] (bx h tu le sd wh la hr bh wr bw) (some (.retAddr (fw s t)), bx h tu le sd wh la hr bh wr bw)) (co : ∀ tu le sd wh la hr bh wr bw i, i < w → am_EG mi_70 [.ref E, .retAddr i] (bx h tu le sd wh la hr bh wr bw) (some (.retAddr (own i)), bx h tu le sd wh la hr bh wr bw)) (hm1 : 1 ≤ mi) (hm : mi ≤ 60) (hgo : go ≤ 3) (hw1 : 1 ≤ w) (hw : w ≤ 4) (ho4 : ∀ i, i < w → own i < 4) (h99 : ∀ s t, s < 4 → t < 60 → fw s t ≤ 99) {tu le sd wh la hr bh wr bw : Nat} : am_Good mi_112 7 [some (.ref 47), some (.retAddr w), some (.retAddr 4294967295)] [] (bx h tu le sd wh la hr bh wr bw) (some (.retAddr 0), (bx h tu le sd wh la hr bh wr bw)) := by
  refine g_iload_n (i := 2) dd_112_7 rfl ?_
  refine g_if_lt_t (t := 48) dd_112_8 (by decide) (by decide) ?_
  refine g_iconst dd_112_48 ic_0 ?_
  exact g_zreturn rfl (by first | decide | omega) dd_112_49
theorem sn_u {h : am_H} (hH : bx_ok h) {E a5 mi go w : Nat} {vE w5 : List Value} (nE : am_lk [(47, am_e0), (48, am_e0), (49, am_e0), (50, am_e0), (51, am_e0), (52, am_e0), (53, am_e0)] E = none) (qE : am_get h E = some (.inr (1, vE))) (e5 : vE[5]? = some (.ref a5)) (e6 : vE[6]? = some (.retAddr mi)) (e7 : vE[7]? = some (.retAddr go)) (n5 : am_lk [(47, am_e0), (48, am_e0), (49, am_e0), (50, am_e0), (51, am_e0), (52, am_e0), (53, am_e0)] a5 = none) (r5 : am_get h a5 = some (.inr (8, w5))) (s5 : w5[3]? = some (.retAddr w)) {q : Nat} {vq : List Value} {own : Nat → Nat} {fw : Nat → Nat → Nat} (qS : ∀ tu le sd wh la hr bh wr bw, am_get (bx h tu le sd wh la hr bh wr bw) q = some (.inr (9, vq))) (cw : ∀ tu le sd wh la hr bh wr bw s t, s < 4 → t < 60 → am_EG mi_41 [.ref q, .retAddr s, .retAddr t] (bx h tu le sd wh la hr bh wr bw) (some (.retAddr (fw s t)), bx h tu le sd wh la hr bh wr bw)) (co : ∀ tu le sd wh la hr bh wr bw i, i < w → am_EG mi_70 [.ref E, .retAddr i] (bx h tu le sd wh la hr bh wr bw) (some (.retAddr (own i)), bx h tu le sd wh la hr bh wr bw)) (hm1 : 1 ≤ mi) (hm : mi ≤ 60) (hgo : go ≤ 3) (hw1 : 1 ≤ w) (hw : w ≤ 4) (ho4 : ∀ i, i < w → own i < 4) (h99 : ∀ s t, s < 4 → t < 60 → fw s t ≤ 99) {tu le sd wh la hr bh wr bw : Nat} {k : Nat} (hk : k < 6) (hc : am_ag hr k + 1 < w) : am_Good mi_112 7 [some (.ref 47), some (.retAddr w), some (.retAddr k)] [] (bx h tu le sd wh la hr bh wr bw) (some (.retAddr 1), (bx h tu le sd wh la (am_as hr k (am_ag hr k + 1)) bh wr bw)) := by
  refine g_iload_n (i := 2) dd_112_7 rfl ?_
  refine g_if_lt_f (t := 48) dd_112_8 (by decide) (by first | exact sk_lt_f (by omega) (by omega) | exact tk_lt_f (by omega)) ?_
  refine g_aload_n (i := 0) dd_112_11 rfl ?_
  refine g_getfield (k := 2) am_ck0 (by decide) (Or.inl w_269) dd_112_12 (bx_g47 hH) rfl ?_
  refine g_iload_n (i := 2) dd_112_15 rfl ?_
  refine g_iaload dd_112_16 (bx_g50 hH) (by omega) (by decide) ?_
  have hl_1 := am_ag_lt hr k
  refine g_iconst dd_112_17 ic_1 ?_
  refine e_iadd (v := am_ag hr k + 1) dd_112_18 (by omega) ?_
  refine g_iload_n (i := 1) dd_112_19 rfl ?_
  refine g_icmp_ge_f (t := 35) dd_112_20 (by decide) (by first | exact sk_ge_f (by omega) (by omega) | exact tk_ge_f (by omega)) ?_
  refine g_aload_n (i := 0) dd_112_23 rfl ?_
  refine g_getfield (k := 2) am_ck0 (by decide) (Or.inl w_269) dd_112_24 (bx_g47 hH) rfl ?_
  refine g_iload_n (i := 2) dd_112_27 rfl ?_
  refine g_dup2 dd_112_28 rfl rfl ?_
  refine g_iaload dd_112_29 (bx_g50 hH) (by omega) (by decide) ?_
  have hl_2 := am_ag_lt hr k
  refine g_iconst dd_112_30 ic_1 ?_
  refine e_iadd (v := am_ag hr k + 1) dd_112_31 (by omega) ?_
  refine g_iastore dd_112_32 (bx_g50 hH) (by omega) (by decide) ?_
  refine am_heq (bx_u50 hH) ?_
  show am_Good mi_112 33 [some (.ref 47), some (.retAddr w), some (.retAddr k)] [] (bx h tu le sd wh la (am_as hr k (am_ag hr k + 1)) bh wr bw) _
  refine g_iconst dd_112_33 ic_1 ?_
  exact g_zreturn rfl (by first | decide | omega) dd_112_34
theorem sn_c0 {h : am_H} (hH : bx_ok h) {E a5 mi go w : Nat} {vE w5 : List Value} (nE : am_lk [(47, am_e0), (48, am_e0), (49, am_e0), (50, am_e0), (51, am_e0), (52, am_e0), (53, am_e0)] E = none) (qE : am_get h E = some (.inr (1, vE))) (e5 : vE[5]? = some (.ref a5)) (e6 : vE[6]? = some (.retAddr mi)) (e7 : vE[7]? = some (.retAddr go)) (n5 : am_lk [(47, am_e0), (48, am_e0), (49, am_e0), (50, am_e0), (51, am_e0), (52, am_e0), (53, am_e0)] a5 = none) (r5 : am_get h a5 = some (.inr (8, w5))) (s5 : w5[3]? = some (.retAddr w)) {q : Nat} {vq : List Value} {own : Nat → Nat} {fw : Nat → Nat → Nat} (qS : ∀ tu le sd wh la hr bh wr bw, am_get (bx h tu le sd wh la hr bh wr bw) q = some (.inr (9, vq))) (cw : ∀ tu le sd wh la hr bh wr bw s t, s < 4 → t < 60 → am_EG mi_41 [.ref q, .retAddr s, .retAddr t] (bx h tu le sd wh la hr bh wr bw) (some (.retAddr (fw s t)), bx h tu le sd wh la hr bh wr bw)) (co : ∀ tu le sd wh la hr bh wr bw i, i < w → am_EG mi_70 [.ref E, .retAddr i] (bx h tu le sd wh la hr bh wr bw) (some (.retAddr (own i)), bx h tu le sd wh la hr bh wr bw)) (hm1 : 1 ≤ mi) (hm : mi ≤ 60) (hgo : go ≤ 3) (hw1 : 1 ≤ w) (hw : w ≤ 4) (ho4 : ∀ i, i < w → own i < 4) (h99 : ∀ s t, s < 4 → t < 60 → fw s t ≤ 99) {tu le sd wh la hr bh wr bw : Nat} {r : am_R} (hb : am_ag hr (0) ≤ 3) (hc : ¬ am_ag hr (0) + 1 < w) (hg : am_Good mi_112 7 [some (.ref 47), some (.retAddr w), some (.retAddr 4294967295)] [] (bx h tu le sd wh la (am_as hr 0 0) bh wr bw) r) : am_Good mi_112 7 [some (.ref 47), some (.retAddr w), some (.retAddr 0)] [] (bx h tu le sd wh la hr bh wr bw) r := by
  refine g_iload_n (i := 2) dd_112_7 rfl ?_
  refine g_if_lt_f (t := 48) dd_112_8 (by decide) (by decide) ?_
  refine g_aload_n (i := 0) dd_112_11 rfl ?_
  refine g_getfield (k := 2) am_ck0 (by decide) (Or.inl w_269) dd_112_12 (bx_g47 hH) rfl ?_
  refine g_iload_n (i := 2) dd_112_15 rfl ?_
  refine g_iaload dd_112_16 (bx_g50 hH) (by omega) (by decide) ?_
  have hl_1 := am_ag_lt hr 0
  refine g_iconst dd_112_17 ic_1 ?_
  refine e_iadd (v := am_ag hr 0 + 1) dd_112_18 (by omega) ?_
  refine g_iload_n (i := 1) dd_112_19 rfl ?_
  refine g_icmp_ge_t (t := 35) dd_112_20 (by decide) (by first | exact sk_ge_t (by omega) (by omega) | exact tk_ge_t (by omega)) ?_
  refine g_aload_n (i := 0) dd_112_35 rfl ?_
  refine g_getfield (k := 2) am_ck0 (by decide) (Or.inl w_269) dd_112_36 (bx_g47 hH) rfl ?_
  refine g_iload_n (i := 2) dd_112_39 rfl ?_
  refine g_iconst dd_112_40 ic_0 ?_
  refine g_iastore dd_112_41 (bx_g50 hH) (by omega) (by decide) ?_
  refine am_heq (bx_u50 hH) ?_
  show am_Good mi_112 42 [some (.ref 47), some (.retAddr w), some (.retAddr 0)] [] (bx h tu le sd wh la (am_as hr 0 0) bh wr bw) _
  refine e_iinc (v := 4294967295) (w := 4294967295) dd_112_42 rfl ic_m1 (am_nlb_ok rfl) (by decide) (by omega) ?_
  refine g_goto (t := 7) dd_112_45 (by decide) ?_
  exact hg
theorem sn_cs {h : am_H} (hH : bx_ok h) {E a5 mi go w : Nat} {vE w5 : List Value} (nE : am_lk [(47, am_e0), (48, am_e0), (49, am_e0), (50, am_e0), (51, am_e0), (52, am_e0), (53, am_e0)] E = none) (qE : am_get h E = some (.inr (1, vE))) (e5 : vE[5]? = some (.ref a5)) (e6 : vE[6]? = some (.retAddr mi)) (e7 : vE[7]? = some (.retAddr go)) (n5 : am_lk [(47, am_e0), (48, am_e0), (49, am_e0), (50, am_e0), (51, am_e0), (52, am_e0), (53, am_e0)] a5 = none) (r5 : am_get h a5 = some (.inr (8, w5))) (s5 : w5[3]? = some (.retAddr w)) {q : Nat} {vq : List Value} {own : Nat → Nat} {fw : Nat → Nat → Nat} (qS : ∀ tu le sd wh la hr bh wr bw, am_get (bx h tu le sd wh la hr bh wr bw) q = some (.inr (9, vq))) (cw : ∀ tu le sd wh la hr bh wr bw s t, s < 4 → t < 60 → am_EG mi_41 [.ref q, .retAddr s, .retAddr t] (bx h tu le sd wh la hr bh wr bw) (some (.retAddr (fw s t)), bx h tu le sd wh la hr bh wr bw)) (co : ∀ tu le sd wh la hr bh wr bw i, i < w → am_EG mi_70 [.ref E, .retAddr i] (bx h tu le sd wh la hr bh wr bw) (some (.retAddr (own i)), bx h tu le sd wh la hr bh wr bw)) (hm1 : 1 ≤ mi) (hm : mi ≤ 60) (hgo : go ≤ 3) (hw1 : 1 ≤ w) (hw : w ≤ 4) (ho4 : ∀ i, i < w → own i < 4) (h99 : ∀ s t, s < 4 → t < 60 → fw s t ≤ 99) {tu le sd wh la hr bh wr bw : Nat} {r : am_R} {k : Nat} (hk : k + 1 < 6) (hb : am_ag hr (k + 1) ≤ 3) (hc : ¬ am_ag hr (k + 1) + 1 < w) (hg : am_Good mi_112 7 [some (.ref 47), some (.retAddr w), some (.retAddr k)] [] (bx h tu le sd wh la (am_as hr (k + 1) 0) bh wr bw) r) : am_Good mi_112 7 [some (.ref 47), some (.retAddr w), some (.retAddr (k + 1))] [] (bx h tu le sd wh la hr bh wr bw) r := by
  refine g_iload_n (i := 2) dd_112_7 rfl ?_
  refine g_if_lt_f (t := 48) dd_112_8 (by decide) (by first | exact sk_lt_f (by omega) (by omega) | exact tk_lt_f (by omega)) ?_
  refine g_aload_n (i := 0) dd_112_11 rfl ?_
  refine g_getfield (k := 2) am_ck0 (by decide) (Or.inl w_269) dd_112_12 (bx_g47 hH) rfl ?_
  refine g_iload_n (i := 2) dd_112_15 rfl ?_
  refine g_iaload dd_112_16 (bx_g50 hH) (by omega) (by decide) ?_
  have hl_1 := am_ag_lt hr (k + 1)
  refine g_iconst dd_112_17 ic_1 ?_
  refine e_iadd (v := am_ag hr (k + 1) + 1) dd_112_18 (by omega) ?_
  refine g_iload_n (i := 1) dd_112_19 rfl ?_
  refine g_icmp_ge_t (t := 35) dd_112_20 (by decide) (by first | exact sk_ge_t (by omega) (by omega) | exact tk_ge_t (by omega)) ?_
  refine g_aload_n (i := 0) dd_112_35 rfl ?_
  refine g_getfield (k := 2) am_ck0 (by decide) (Or.inl w_269) dd_112_36 (bx_g47 hH) rfl ?_
  refine g_iload_n (i := 2) dd_112_39 rfl ?_
  refine g_iconst dd_112_40 ic_0 ?_
  refine g_iastore dd_112_41 (bx_g50 hH) (by omega) (by decide) ?_
  refine am_heq (bx_u50 hH) ?_
  show am_Good mi_112 42 [some (.ref 47), some (.retAddr w), some (.retAddr (k + 1))] [] (bx h tu le sd wh la (am_as hr (k + 1) 0) bh wr bw) _
  refine e_iinc (v := 4294967295) (w := k) dd_112_42 rfl ic_m1 (am_nlb_ok rfl) (by decide) (by omega) ?_
  refine g_goto (t := 7) dd_112_45 (by decide) ?_
  exact hg
theorem sn_u2 {h : am_H} (hH : bx_ok h) {E a5 mi go w : Nat} {vE w5 : List Value} (nE : am_lk [(47, am_e0), (48, am_e0), (49, am_e0), (50, am_e0), (51, am_e0), (52, am_e0), (53, am_e0)] E = none) (qE : am_get h E = some (.inr (1, vE))) (e5 : vE[5]? = some (.ref a5)) (e6 : vE[6]? = some (.retAddr mi)) (e7 : vE[7]? = some (.retAddr go)) (n5 : am_lk [(47, am_e0), (48, am_e0), (49, am_e0), (50, am_e0), (51, am_e0), (52, am_e0), (53, am_e0)] a5 = none) (r5 : am_get h a5 = some (.inr (8, w5))) (s5 : w5[3]? = some (.retAddr w)) {q : Nat} {vq : List Value} {own : Nat → Nat} {fw : Nat → Nat → Nat} (qS : ∀ tu le sd wh la hr bh wr bw, am_get (bx h tu le sd wh la hr bh wr bw) q = some (.inr (9, vq))) (cw : ∀ tu le sd wh la hr bh wr bw s t, s < 4 → t < 60 → am_EG mi_41 [.ref q, .retAddr s, .retAddr t] (bx h tu le sd wh la hr bh wr bw) (some (.retAddr (fw s t)), bx h tu le sd wh la hr bh wr bw)) (co : ∀ tu le sd wh la hr bh wr bw i, i < w → am_EG mi_70 [.ref E, .retAddr i] (bx h tu le sd wh la hr bh wr bw) (some (.retAddr (own i)), bx h tu le sd wh la hr bh wr bw)) (hm1 : 1 ≤ mi) (hm : mi ≤ 60) (hgo : go ≤ 3) (hw1 : 1 ≤ w) (hw : w ≤ 4) (ho4 : ∀ i, i < w → own i < 4) (h99 : ∀ s t, s < 4 → t < 60 → fw s t ≤ 99) {tu le sd wh la bh wr bw way k hr : Nat} (ht : tu ≤ 6) (hl : way < w ^ tu) (hk : k < tu) (hz : (way + 1) % w ^ (tu - 1 - k) = 0) (h1 : ∀ r, r < k + 1 → am_ag hr r = fa_d w tu way r) (h2 : ∀ r, k < r → r < tu → am_ag hr r = 0) (h3 : ∀ r, r < 6 → am_ag hr r ≤ 3) (hc : fa_d w tu way k + 1 < w) : ∃ hr' vv, ((∀ r, r < 6 → am_ag hr' r ≤ 3) ∧ ((vv = 1 ∧ way + 1 < w ^ tu ∧ ∀ r, r < tu → am_ag hr' r = fa_d w tu (way + 1) r) ∨ (vv = 0 ∧ way + 1 = w ^ tu))) ∧ am_Good mi_112 7 [some (.ref 47), some (.retAddr w), some (.retAddr k)] [] (bx h tu le sd wh la hr bh wr bw) (some (.retAddr vv), (bx h tu le sd wh la (hr') bh wr bw)) := by
  have hkk : tu - 1 - (tu - 1 - k) = k := by omega
  have ek : am_ag hr k = fa_d w tu way k := h1 k (by omega)
  have dl : fa_d w tu way k < w := fa_d_lt (by omega)
  obtain ⟨u1, u2, u3, u4⟩ := fa_up (w := w) (tn := tu) (j := tu - 1 - k) (way := way) (by omega) (by omega) hz (by rw [hkk]; exact hc) hl
  rw [hkk] at u2 u3 u4
  refine ⟨am_as hr k (am_ag hr k + 1), 1, ⟨fun r hr' => ?_, Or.inl ⟨rfl, u1, fun r hr' => ?_⟩⟩, sn_u hH nE qE e5 e6 e7 n5 r5 s5 qS cw co hm1 hm hgo hw1 hw ho4 h99 (by omega) (by rw [ek]; exact hc)⟩
  · rw [am_ag_as]
    by_cases c : r = k
    · rw [if_pos c, ek, Nat.mod_eq_of_lt (by omega)]
      omega
    · rw [if_neg c]
      exact h3 r hr'
  · rw [am_ag_as]
    by_cases c : r = k
    · subst c
      rw [if_pos rfl, ek, u3]
      exact Nat.mod_eq_of_lt (by omega)
    · rw [if_neg c]
      by_cases d : r < k
      · rw [h1 r (by omega), u2 r d]
      · rw [h2 r (by omega) hr', u4 r (by omega) hr']
theorem sn_l {h : am_H} (hH : bx_ok h) {E a5 mi go w : Nat} {vE w5 : List Value} (nE : am_lk [(47, am_e0), (48, am_e0), (49, am_e0), (50, am_e0), (51, am_e0), (52, am_e0), (53, am_e0)] E = none) (qE : am_get h E = some (.inr (1, vE))) (e5 : vE[5]? = some (.ref a5)) (e6 : vE[6]? = some (.retAddr mi)) (e7 : vE[7]? = some (.retAddr go)) (n5 : am_lk [(47, am_e0), (48, am_e0), (49, am_e0), (50, am_e0), (51, am_e0), (52, am_e0), (53, am_e0)] a5 = none) (r5 : am_get h a5 = some (.inr (8, w5))) (s5 : w5[3]? = some (.retAddr w)) {q : Nat} {vq : List Value} {own : Nat → Nat} {fw : Nat → Nat → Nat} (qS : ∀ tu le sd wh la hr bh wr bw, am_get (bx h tu le sd wh la hr bh wr bw) q = some (.inr (9, vq))) (cw : ∀ tu le sd wh la hr bh wr bw s t, s < 4 → t < 60 → am_EG mi_41 [.ref q, .retAddr s, .retAddr t] (bx h tu le sd wh la hr bh wr bw) (some (.retAddr (fw s t)), bx h tu le sd wh la hr bh wr bw)) (co : ∀ tu le sd wh la hr bh wr bw i, i < w → am_EG mi_70 [.ref E, .retAddr i] (bx h tu le sd wh la hr bh wr bw) (some (.retAddr (own i)), bx h tu le sd wh la hr bh wr bw)) (hm1 : 1 ≤ mi) (hm : mi ≤ 60) (hgo : go ≤ 3) (hw1 : 1 ≤ w) (hw : w ≤ 4) (ho4 : ∀ i, i < w → own i < 4) (h99 : ∀ s t, s < 4 → t < 60 → fw s t ≤ 99) {tu le sd wh la bh wr bw way : Nat} (ht : tu ≤ 6) (hl : way < w ^ tu) (k : Nat) : ∀ (hr : Nat), k < tu → (way + 1) % w ^ (tu - 1 - k) = 0 → (∀ r, r < k + 1 → am_ag hr r = fa_d w tu way r) → (∀ r, k < r → r < tu → am_ag hr r = 0) → (∀ r, r < 6 → am_ag hr r ≤ 3) → ∃ hr' vv, ((∀ r, r < 6 → am_ag hr' r ≤ 3) ∧ ((vv = 1 ∧ way + 1 < w ^ tu ∧ ∀ r, r < tu → am_ag hr' r = fa_d w tu (way + 1) r) ∨ (vv = 0 ∧ way + 1 = w ^ tu))) ∧ am_Good mi_112 7 [some (.ref 47), some (.retAddr w), some (.retAddr k)] [] (bx h tu le sd wh la hr bh wr bw) (some (.retAddr vv), (bx h tu le sd wh la (hr') bh wr bw)) := by
  have h0 : ∀ (hr k : Nat), (∀ r, r < 6 → am_ag hr r ≤ 3) → ∀ r, r < 6 → am_ag (am_as hr k 0) r ≤ 3 := fun hr k h3 r hr' => by
    rw [am_ag_as]
    by_cases c : r = k
    · rw [if_pos c]; decide
    · rw [if_neg c]; exact h3 r hr'
  induction k with
  | zero =>
    intro hr hk hz h1 h2 h3
    by_cases hc : fa_d w tu way 0 + 1 < w
    · exact sn_u2 hH nE qE e5 e6 e7 n5 r5 s5 qS cw co hm1 hm hgo hw1 hw ho4 h99 ht hl hk hz h1 h2 h3 hc
    · have hz' := fa_cy (w := w) (tn := tu) (j := tu - 1 - 0) (way := way) (by omega) (by omega) hz (by rw [show tu - 1 - (tu - 1 - 0) = 0 by omega]; exact hc)
      rw [show tu - 1 - 0 + 1 = tu by omega] at hz'
      have ek : am_ag hr 0 = fa_d w tu way 0 := h1 0 (by omega)
      have dl : fa_d w tu way 0 < w := fa_d_lt (by omega)
      exact ⟨_, 0, ⟨h0 hr 0 h3, Or.inr ⟨rfl, fa_en hz' hl⟩⟩, sn_c0 hH nE qE e5 e6 e7 n5 r5 s5 qS cw co hm1 hm hgo hw1 hw ho4 h99 (by omega) (by rw [ek]; exact hc) (sn_e hH nE qE e5 e6 e7 n5 r5 s5 qS cw co hm1 hm hgo hw1 hw ho4 h99)⟩
  | succ k ih =>
    intro hr hk hz h1 h2 h3
    by_cases hc : fa_d w tu way (k + 1) + 1 < w
    · exact sn_u2 hH nE qE e5 e6 e7 n5 r5 s5 qS cw co hm1 hm hgo hw1 hw ho4 h99 ht hl hk hz h1 h2 h3 hc
    · have hz' := fa_cy (w := w) (tn := tu) (j := tu - 1 - (k + 1)) (way := way) (by omega) (by omega) hz (by rw [show tu - 1 - (tu - 1 - (k + 1)) = k + 1 by omega]; exact hc)
      rw [show tu - 1 - (k + 1) + 1 = tu - 1 - k by omega] at hz'
      have ek : am_ag hr (k + 1) = fa_d w tu way (k + 1) := h1 (k + 1) (by omega)
      have dl : fa_d w tu way (k + 1) < w := fa_d_lt (by omega)
      obtain ⟨hr', vv, p, q⟩ := ih (am_as hr (k + 1) 0) (by omega) hz' (fun r h => by
        rw [am_ag_as, if_neg (by omega)]
        exact h1 r (by omega)) (fun r h3 h4 => by
        rw [am_ag_as]
        by_cases c : r = k + 1
        · rw [if_pos c]
        · rw [if_neg c]
          exact h2 r (by omega) h4) (h0 hr (k + 1) h3)
      exact ⟨hr', vv, p, sn_cs hH nE qE e5 e6 e7 n5 r5 s5 qS cw co hm1 hm hgo hw1 hw ho4 h99 (by omega) (by omega) (by rw [ek]; exact hc) q⟩
theorem sn_p {h : am_H} (hH : bx_ok h) {E a5 mi go w : Nat} {vE w5 : List Value} (nE : am_lk [(47, am_e0), (48, am_e0), (49, am_e0), (50, am_e0), (51, am_e0), (52, am_e0), (53, am_e0)] E = none) (qE : am_get h E = some (.inr (1, vE))) (e5 : vE[5]? = some (.ref a5)) (e6 : vE[6]? = some (.retAddr mi)) (e7 : vE[7]? = some (.retAddr go)) (n5 : am_lk [(47, am_e0), (48, am_e0), (49, am_e0), (50, am_e0), (51, am_e0), (52, am_e0), (53, am_e0)] a5 = none) (r5 : am_get h a5 = some (.inr (8, w5))) (s5 : w5[3]? = some (.retAddr w)) {q : Nat} {vq : List Value} {own : Nat → Nat} {fw : Nat → Nat → Nat} (qS : ∀ tu le sd wh la hr bh wr bw, am_get (bx h tu le sd wh la hr bh wr bw) q = some (.inr (9, vq))) (cw : ∀ tu le sd wh la hr bh wr bw s t, s < 4 → t < 60 → am_EG mi_41 [.ref q, .retAddr s, .retAddr t] (bx h tu le sd wh la hr bh wr bw) (some (.retAddr (fw s t)), bx h tu le sd wh la hr bh wr bw)) (co : ∀ tu le sd wh la hr bh wr bw i, i < w → am_EG mi_70 [.ref E, .retAddr i] (bx h tu le sd wh la hr bh wr bw) (some (.retAddr (own i)), bx h tu le sd wh la hr bh wr bw)) (hm1 : 1 ≤ mi) (hm : mi ≤ 60) (hgo : go ≤ 3) (hw1 : 1 ≤ w) (hw : w ≤ 4) (ho4 : ∀ i, i < w → own i < 4) (h99 : ∀ s t, s < 4 → t < 60 → fw s t ≤ 99) {tu le sd wh la hr bh wr bw : Nat} {r : am_R} (ht1 : 1 ≤ tu) (ht : tu ≤ 6) (hg : am_Good mi_112 7 [some (.ref 47), some (.retAddr w), some (.retAddr (tu - 1))] [] (bx h tu le sd wh la hr bh wr bw) r) : am_EG mi_112 [.ref 47, .retAddr w] (bx h tu le sd wh la hr bh wr bw) r := by
  refine am_enter (n := 1) tk_112.2.1 (by simp [Value.category]) (Nat.le_of_ble_eq_true rfl) ?_
  show am_Good mi_112 0 [some (.ref 47), some (.retAddr w), none] [] (bx h tu le sd wh la hr bh wr bw) _
  refine g_aload_n (i := 0) dd_112_0 rfl ?_
  refine g_getfield (k := 6) am_ck0 (by decide) (Or.inl w_273) dd_112_1 (bx_g47 hH) rfl ?_
  refine g_iconst dd_112_4 ic_1 ?_
  refine e_isub (v := tu - 1) dd_112_5 (by omega) ?_
  refine g_istore_n (i := 2) dd_112_6 (am_nlb_ok rfl) (by decide) ?_
  exact hg
theorem sn_m {h : am_H} (hH : bx_ok h) {E a5 mi go w : Nat} {vE w5 : List Value} (nE : am_lk [(47, am_e0), (48, am_e0), (49, am_e0), (50, am_e0), (51, am_e0), (52, am_e0), (53, am_e0)] E = none) (qE : am_get h E = some (.inr (1, vE))) (e5 : vE[5]? = some (.ref a5)) (e6 : vE[6]? = some (.retAddr mi)) (e7 : vE[7]? = some (.retAddr go)) (n5 : am_lk [(47, am_e0), (48, am_e0), (49, am_e0), (50, am_e0), (51, am_e0), (52, am_e0), (53, am_e0)] a5 = none) (r5 : am_get h a5 = some (.inr (8, w5))) (s5 : w5[3]? = some (.retAddr w)) {q : Nat} {vq : List Value} {own : Nat → Nat} {fw : Nat → Nat → Nat} (qS : ∀ tu le sd wh la hr bh wr bw, am_get (bx h tu le sd wh la hr bh wr bw) q = some (.inr (9, vq))) (cw : ∀ tu le sd wh la hr bh wr bw s t, s < 4 → t < 60 → am_EG mi_41 [.ref q, .retAddr s, .retAddr t] (bx h tu le sd wh la hr bh wr bw) (some (.retAddr (fw s t)), bx h tu le sd wh la hr bh wr bw)) (co : ∀ tu le sd wh la hr bh wr bw i, i < w → am_EG mi_70 [.ref E, .retAddr i] (bx h tu le sd wh la hr bh wr bw) (some (.retAddr (own i)), bx h tu le sd wh la hr bh wr bw)) (hm1 : 1 ≤ mi) (hm : mi ≤ 60) (hgo : go ≤ 3) (hw1 : 1 ≤ w) (hw : w ≤ 4) (ho4 : ∀ i, i < w → own i < 4) (h99 : ∀ s t, s < 4 → t < 60 → fw s t ≤ 99) {tu le sd wh la hr bh wr bw way : Nat} (ht1 : 1 ≤ tu) (ht : tu ≤ 6) (hl : way < w ^ tu) (hd : ∀ r, r < tu → am_ag hr r = fa_d w tu way r) (h3 : ∀ r, r < 6 → am_ag hr r ≤ 3) : ∃ hr' vv, ((∀ r, r < 6 → am_ag hr' r ≤ 3) ∧ ((vv = 1 ∧ way + 1 < w ^ tu ∧ ∀ r, r < tu → am_ag hr' r = fa_d w tu (way + 1) r) ∨ (vv = 0 ∧ way + 1 = w ^ tu))) ∧ am_EG mi_112 [.ref 47, .retAddr w] (bx h tu le sd wh la hr bh wr bw) (some (.retAddr vv), (bx h tu le sd wh la (hr') bh wr bw)) := by
  obtain ⟨hr', vv, p, q⟩ := sn_l hH nE qE e5 e6 e7 n5 r5 s5 qS cw co hm1 hm hgo hw1 hw ho4 h99 (le := le) (sd := sd) (wh := wh) (la := la) (bh := bh) (wr := wr) (bw := bw) ht hl (tu - 1) hr (by omega) (by rw [Nat.sub_self, Nat.pow_zero, Nat.mod_one]) (fun r h => hd r (by omega)) (fun r h1 h2 => by omega) h3
  exact ⟨hr', vv, p, sn_p hH nE qE e5 e6 e7 n5 r5 s5 qS cw co hm1 hm hgo hw1 hw ho4 h99 ht1 ht q⟩
theorem sz_1 {h : am_H} (hH : bx_ok h) {E a5 mi go w : Nat} {vE w5 : List Value} (nE : am_lk [(47, am_e0), (48, am_e0), (49, am_e0), (50, am_e0), (51, am_e0), (52, am_e0), (53, am_e0)] E = none) (qE : am_get h E = some (.inr (1, vE))) (e5 : vE[5]? = some (.ref a5)) (e6 : vE[6]? = some (.retAddr mi)) (e7 : vE[7]? = some (.retAddr go)) (n5 : am_lk [(47, am_e0), (48, am_e0), (49, am_e0), (50, am_e0), (51, am_e0), (52, am_e0), (53, am_e0)] a5 = none) (r5 : am_get h a5 = some (.inr (8, w5))) (s5 : w5[3]? = some (.retAddr w)) {q : Nat} {vq : List Value} {own : Nat → Nat} {fw : Nat → Nat → Nat} (qS : ∀ tu le sd wh la hr bh wr bw, am_get (bx h tu le sd wh la hr bh wr bw) q = some (.inr (9, vq))) (cw : ∀ tu le sd wh la hr bh wr bw s t, s < 4 → t < 60 → am_EG mi_41 [.ref q, .retAddr s, .retAddr t] (bx h tu le sd wh la hr bh wr bw) (some (.retAddr (fw s t)), bx h tu le sd wh la hr bh wr bw)) (co : ∀ tu le sd wh la hr bh wr bw i, i < w → am_EG mi_70 [.ref E, .retAddr i] (bx h tu le sd wh la hr bh wr bw) (some (.retAddr (own i)), bx h tu le sd wh la hr bh wr bw)) (hm1 : 1 ≤ mi) (hm : mi ≤ 60) (hgo : go ≤ 3) (hw1 : 1 ≤ w) (hw : w ≤ 4) (ho4 : ∀ i, i < w → own i < 4) (h99 : ∀ s t, s < 4 → t < 60 → fw s t ≤ 99) {tu le wh la hr bh wr bw : Nat} : am_EG mi_107 [.ref 47, .ref E, .ref q] (bx h tu le 1 wh la hr bh wr bw) (none, (bx h tu le 1 wh la hr bh wr bw)) := by
  refine am_enter (n := 2) tk_107.2.1 (by simp [Value.category]) (Nat.le_of_ble_eq_true rfl) ?_
  show am_Good mi_107 0 [some (.ref 47), some (.ref E), some (.ref q), none, none] [] (bx h tu le 1 wh la hr bh wr bw) _
  refine g_aload_n (i := 0) dd_107_0 rfl ?_
  refine g_getfield (k := 8) am_ck0 (by decide) (Or.inl w_276) dd_107_1 (bx_g47 hH) rfl ?_
  refine g_if_eq_f (t := 8) dd_107_4 (by decide) (by decide) ?_
  exact g_return rfl dd_107_7
theorem sz_0 {h : am_H} (hH : bx_ok h) {E a5 mi go w : Nat} {vE w5 : List Value} (nE : am_lk [(47, am_e0), (48, am_e0), (49, am_e0), (50, am_e0), (51, am_e0), (52, am_e0), (53, am_e0)] E = none) (qE : am_get h E = some (.inr (1, vE))) (e5 : vE[5]? = some (.ref a5)) (e6 : vE[6]? = some (.retAddr mi)) (e7 : vE[7]? = some (.retAddr go)) (n5 : am_lk [(47, am_e0), (48, am_e0), (49, am_e0), (50, am_e0), (51, am_e0), (52, am_e0), (53, am_e0)] a5 = none) (r5 : am_get h a5 = some (.inr (8, w5))) (s5 : w5[3]? = some (.retAddr w)) {q : Nat} {vq : List Value} {own : Nat → Nat} {fw : Nat → Nat → Nat} (qS : ∀ tu le sd wh la hr bh wr bw, am_get (bx h tu le sd wh la hr bh wr bw) q = some (.inr (9, vq))) (cw : ∀ tu le sd wh la hr bh wr bw s t, s < 4 → t < 60 → am_EG mi_41 [.ref q, .retAddr s, .retAddr t] (bx h tu le sd wh la hr bh wr bw) (some (.retAddr (fw s t)), bx h tu le sd wh la hr bh wr bw)) (co : ∀ tu le sd wh la hr bh wr bw i, i < w → am_EG mi_70 [.ref E, .retAddr i] (bx h tu le sd wh la hr bh wr bw) (some (.retAddr (own i)), bx h tu le sd wh la hr bh wr bw)) (hm1 : 1 ≤ mi) (hm : mi ≤ 60) (hgo : go ≤ 3) (hw1 : 1 ≤ w) (hw : w ≤ 4) (ho4 : ∀ i, i < w → own i < 4) (h99 : ∀ s t, s < 4 → t < 60 → fw s t ≤ 99) {tu le wh la hr bh wr bw : Nat} {r : am_R} (hg : am_Good mi_107 51 [some (.ref 47), some (.ref E), some (.ref q), some (.retAddr 1), some (.retAddr 0)] [] (bx h (fa_tn mi) 4294967292 1 (zf (fa_g fw mi 0) wh (4 * fa_tn mi)) (zf (fa_g fw mi go) la (4 * fa_tn mi)) (am_fl 0 hr 0 6) bh wr bw) r) : am_EG mi_107 [.ref 47, .ref E, .ref q] (bx h tu le 0 wh la hr bh wr bw) r := by
  refine am_enter (n := 2) tk_107.2.1 (by simp [Value.category]) (Nat.le_of_ble_eq_true rfl) ?_
  show am_Good mi_107 0 [some (.ref 47), some (.ref E), some (.ref q), none, none] [] (bx h tu le 0 wh la hr bh wr bw) _
  refine g_aload_n (i := 0) dd_107_0 rfl ?_
  refine g_getfield (k := 8) am_ck0 (by decide) (Or.inl w_276) dd_107_1 (bx_g47 hH) rfl ?_
  refine g_if_eq_t (t := 8) dd_107_4 (by decide) (by decide) ?_
  refine g_aload_n (i := 0) dd_107_8 rfl ?_
  refine g_iconst dd_107_9 ic_1 ?_
  refine g_putfield (k := 8) am_ck0 (by decide) (Or.inl w_276) (Or.inl rfl) dd_107_10 (bx_g47 hH) (Nat.le_of_ble_eq_true rfl) (show (1 : Nat) < 2 by decide) ?_
  refine am_heq (bx_u47 hH) ?_
  show am_Good mi_107 13 [some (.ref 47), some (.ref E), some (.ref q), none, none] [] (bx h tu le 1 wh la hr bh wr bw) _
  refine g_aload_n (i := 0) dd_107_13 rfl ?_
  refine g_aload_n (i := 1) dd_107_14 rfl ?_
  refine g_virtual (M' := mi_106) (n := 0) (ci := 1) (b := E) (as := []) (st := [.ref 47]) (r1 := (some (.retAddr (fa_tn mi)), (bx h tu le 1 wh la hr bh wr bw))) w_825 w_817 w_818 ⟨lk_106.1, lk_106.2.1, lk_106.2.2, by decide, by decide⟩ rfl ((bx_o hH nE).trans qE) rfl (by simp [Value.category]) dd_107_15 (tn_x ((bx_o hH nE).trans qE) e6 hm) ?_
  show am_Good mi_107 18 [some (.ref 47), some (.ref E), some (.ref q), none, none] [.retAddr (fa_tn mi), .ref 47] (bx h tu le 1 wh la hr bh wr bw) _
  refine g_bipush dd_107_18 bi_6 ?_
  refine g_mmin w_826 w_393 w_18 w_394 ⟨by decide, by decide⟩ (by simp [Value.category]) dd_107_20 ?_
  rw [show (bif am_tlt 6 (fa_tn mi) then 6 else (fa_tn mi)) = fa_tn mi from (fa_mt hm)]
  refine g_putfield (k := 6) am_ck0 (by decide) (Or.inl w_273) (Or.inl rfl) dd_107_23 (bx_g47 hH) (Nat.le_of_ble_eq_true rfl) trivial ?_
  refine am_heq (bx_u47 hH) ?_
  show am_Good mi_107 26 [some (.ref 47), some (.ref E), some (.ref q), none, none] [] (bx h (fa_tn mi) le 1 wh la hr bh wr bw) _
  refine g_aload_n (i := 0) dd_107_26 rfl ?_
  refine g_aload_n (i := 1) dd_107_27 rfl ?_
  refine g_aload_n (i := 2) dd_107_28 rfl ?_
  refine g_virtual (M' := mi_108) (n := 2) (ci := 0) (b := 47) (as := [.ref E, .ref q]) (st := []) (r1 := (none, (bx h (fa_tn mi) le 1 (zf (fa_g fw mi 0) wh (4 * fa_tn mi)) (zf (fa_g fw mi go) la (4 * fa_tn mi)) hr bh wr bw))) w_827 w_829 ps_108 ⟨lk_108.1, lk_108.2.1, lk_108.2.2, by decide, by decide⟩ rfl (bx_g47 hH) rfl (by simp [Value.category]) dd_107_29 (sc_m hH nE qE e5 e6 e7 n5 r5 s5 qS cw co hm1 hm hgo hw1 hw ho4 h99 (fa_t6 hm1 hm).2.1) ?_
  show am_Good mi_107 32 [some (.ref 47), some (.ref E), some (.ref q), none, none] [] (bx h (fa_tn mi) le 1 (zf (fa_g fw mi 0) wh (4 * fa_tn mi)) (zf (fa_g fw mi go) la (4 * fa_tn mi)) hr bh wr bw) _
  refine g_aload_n (i := 0) dd_107_32 rfl ?_
  refine g_bipush dd_107_33 bi_m4 ?_
  refine g_putfield (k := 7) am_ck0 (by decide) (Or.inl w_274) (Or.inl rfl) dd_107_35 (bx_g47 hH) (Nat.le_of_ble_eq_true rfl) trivial ?_
  refine am_heq (bx_u47 hH) ?_
  show am_Good mi_107 38 [some (.ref 47), some (.ref E), some (.ref q), none, none] [] (bx h (fa_tn mi) 4294967292 1 (zf (fa_g fw mi 0) wh (4 * fa_tn mi)) (zf (fa_g fw mi go) la (4 * fa_tn mi)) hr bh wr bw) _
  refine g_aload_n (i := 0) dd_107_38 rfl ?_
  refine g_getfield (k := 2) am_ck0 (by decide) (Or.inl w_269) dd_107_39 (bx_g47 hH) rfl ?_
  refine g_iconst dd_107_42 ic_0 ?_
  refine g_static (M' := mi_9) (n := 2) (as := [.ref 50, .retAddr 0]) (st := []) (r1 := (none, (bx h (fa_tn mi) 4294967292 1 (zf (fa_g fw mi 0) wh (4 * fa_tn mi)) (zf (fa_g fw mi go) la (4 * fa_tn mi)) (am_fl 0 hr 0 6) bh wr bw))) w_835 w_222 ⟨lk_9.1, lk_9.2.1, lk_9.2.2, by decide, by decide⟩ rfl (by simp [Value.category]) dd_107_43 (bx_f50 hH) ?_
  show am_Good mi_107 46 [some (.ref 47), some (.ref E), some (.ref q), none, none] [] (bx h (fa_tn mi) 4294967292 1 (zf (fa_g fw mi 0) wh (4 * fa_tn mi)) (zf (fa_g fw mi go) la (4 * fa_tn mi)) (am_fl 0 hr 0 6) bh wr bw) _
  refine g_iconst dd_107_46 ic_1 ?_
  refine g_istore_n (i := 3) dd_107_47 (am_nlb_ok rfl) (by decide) ?_
  refine g_iconst dd_107_48 ic_0 ?_
  refine g_istore dd_107_49 (am_nlb_ok rfl) (by decide) ?_
  exact hg
theorem sz_e {h : am_H} (hH : bx_ok h) {E a5 mi go w : Nat} {vE w5 : List Value} (nE : am_lk [(47, am_e0), (48, am_e0), (49, am_e0), (50, am_e0), (51, am_e0), (52, am_e0), (53, am_e0)] E = none) (qE : am_get h E = some (.inr (1, vE))) (e5 : vE[5]? = some (.ref a5)) (e6 : vE[6]? = some (.retAddr mi)) (e7 : vE[7]? = some (.retAddr go)) (n5 : am_lk [(47, am_e0), (48, am_e0), (49, am_e0), (50, am_e0), (51, am_e0), (52, am_e0), (53, am_e0)] a5 = none) (r5 : am_get h a5 = some (.inr (8, w5))) (s5 : w5[3]? = some (.retAddr w)) {q : Nat} {vq : List Value} {own : Nat → Nat} {fw : Nat → Nat → Nat} (qS : ∀ tu le sd wh la hr bh wr bw, am_get (bx h tu le sd wh la hr bh wr bw) q = some (.inr (9, vq))) (cw : ∀ tu le sd wh la hr bh wr bw s t, s < 4 → t < 60 → am_EG mi_41 [.ref q, .retAddr s, .retAddr t] (bx h tu le sd wh la hr bh wr bw) (some (.retAddr (fw s t)), bx h tu le sd wh la hr bh wr bw)) (co : ∀ tu le sd wh la hr bh wr bw i, i < w → am_EG mi_70 [.ref E, .retAddr i] (bx h tu le sd wh la hr bh wr bw) (some (.retAddr (own i)), bx h tu le sd wh la hr bh wr bw)) (hm1 : 1 ≤ mi) (hm : mi ≤ 60) (hgo : go ≤ 3) (hw1 : 1 ≤ w) (hw : w ≤ 4) (ho4 : ∀ i, i < w → own i < 4) (h99 : ∀ s t, s < 4 → t < 60 → fw s t ≤ 99) {tu le sd wh la hr bh wr bw : Nat} {m way : Nat} (hc : ¬ way < 4096) (hc2 : way ≤ 5000) : am_Good mi_107 51 [some (.ref 47), some (.ref E), some (.ref q), some (.retAddr m), some (.retAddr way)] [] (bx h tu le sd wh la hr bh wr bw) (none, (bx h tu le sd wh la hr bh wr bw)) := by
  refine g_iload dd_107_51 rfl ?_
  refine g_sipush dd_107_53 si_4096 ?_
  refine g_icmp_ge_t (t := 86) dd_107_56 (by decide) (by first | exact sk_ge_t (by omega) (by omega) | exact tk_ge_t (by omega)) ?_
  exact g_return rfl dd_107_86
theorem sz_f {h : am_H} (hH : bx_ok h) {E a5 mi go w : Nat} {vE w5 : List Value} (nE : am_lk [(47, am_e0), (48, am_e0), (49, am_e0), (50, am_e0), (51, am_e0), (52, am_e0), (53, am_e0)] E = none) (qE : am_get h E = some (.inr (1, vE))) (e5 : vE[5]? = some (.ref a5)) (e6 : vE[6]? = some (.retAddr mi)) (e7 : vE[7]? = some (.retAddr go)) (n5 : am_lk [(47, am_e0), (48, am_e0), (49, am_e0), (50, am_e0), (51, am_e0), (52, am_e0), (53, am_e0)] a5 = none) (r5 : am_get h a5 = some (.inr (8, w5))) (s5 : w5[3]? = some (.retAddr w)) {q : Nat} {vq : List Value} {own : Nat → Nat} {fw : Nat → Nat → Nat} (qS : ∀ tu le sd wh la hr bh wr bw, am_get (bx h tu le sd wh la hr bh wr bw) q = some (.inr (9, vq))) (cw : ∀ tu le sd wh la hr bh wr bw s t, s < 4 → t < 60 → am_EG mi_41 [.ref q, .retAddr s, .retAddr t] (bx h tu le sd wh la hr bh wr bw) (some (.retAddr (fw s t)), bx h tu le sd wh la hr bh wr bw)) (co : ∀ tu le sd wh la hr bh wr bw i, i < w → am_EG mi_70 [.ref E, .retAddr i] (bx h tu le sd wh la hr bh wr bw) (some (.retAddr (own i)), bx h tu le sd wh la hr bh wr bw)) (hm1 : 1 ≤ mi) (hm : mi ≤ 60) (hgo : go ≤ 3) (hw1 : 1 ≤ w) (hw : w ≤ 4) (ho4 : ∀ i, i < w → own i < 4) (h99 : ∀ s t, s < 4 → t < 60 → fw s t ≤ 99) {tu le sd wh la hr bh wr bw : Nat} {way : Nat} (hc : way < 4096) : am_Good mi_107 51 [some (.ref 47), some (.ref E), some (.ref q), some (.retAddr 0), some (.retAddr way)] [] (bx h tu le sd wh la hr bh wr bw) (none, (bx h tu le sd wh la hr bh wr bw)) := by
  refine g_iload dd_107_51 rfl ?_
  refine g_sipush dd_107_53 si_4096 ?_
  refine g_icmp_ge_f (t := 86) dd_107_56 (by decide) (by first | exact sk_ge_f (by omega) (by omega) | exact tk_ge_f (by omega)) ?_
  refine g_iload_n (i := 3) dd_107_59 rfl ?_
  refine g_if_eq_t (t := 86) dd_107_60 (by decide) (by decide) ?_
  exact g_return rfl dd_107_86
theorem sz_i {h : am_H} (hH : bx_ok h) {E a5 mi go w : Nat} {vE w5 : List Value} (nE : am_lk [(47, am_e0), (48, am_e0), (49, am_e0), (50, am_e0), (51, am_e0), (52, am_e0), (53, am_e0)] E = none) (qE : am_get h E = some (.inr (1, vE))) (e5 : vE[5]? = some (.ref a5)) (e6 : vE[6]? = some (.retAddr mi)) (e7 : vE[7]? = some (.retAddr go)) (n5 : am_lk [(47, am_e0), (48, am_e0), (49, am_e0), (50, am_e0), (51, am_e0), (52, am_e0), (53, am_e0)] a5 = none) (r5 : am_get h a5 = some (.inr (8, w5))) (s5 : w5[3]? = some (.retAddr w)) {q : Nat} {vq : List Value} {own : Nat → Nat} {fw : Nat → Nat → Nat} (qS : ∀ tu le sd wh la hr bh wr bw, am_get (bx h tu le sd wh la hr bh wr bw) q = some (.inr (9, vq))) (cw : ∀ tu le sd wh la hr bh wr bw s t, s < 4 → t < 60 → am_EG mi_41 [.ref q, .retAddr s, .retAddr t] (bx h tu le sd wh la hr bh wr bw) (some (.retAddr (fw s t)), bx h tu le sd wh la hr bh wr bw)) (co : ∀ tu le sd wh la hr bh wr bw i, i < w → am_EG mi_70 [.ref E, .retAddr i] (bx h tu le sd wh la hr bh wr bw) (some (.retAddr (own i)), bx h tu le sd wh la hr bh wr bw)) (hm1 : 1 ≤ mi) (hm : mi ≤ 60) (hgo : go ≤ 3) (hw1 : 1 ≤ w) (hw : w ≤ 4) (ho4 : ∀ i, i < w → own i < 4) (h99 : ∀ s t, s < 4 → t < 60 → fw s t ≤ 99) {tu le sd wh la hr bh wr bw : Nat} {r : am_R} {le2 bh2 wr2 bw2 hr2 vv way : Nat} (hc : way < 4096) (e1_ : am_EG mi_110 [.ref 47, .ref E] (bx h tu le sd wh la hr bh wr bw) (none, (bx h tu le2 sd wh la hr bh2 wr2 bw2))) (e2_ : am_EG mi_112 [.ref 47, .retAddr w] (bx h tu le2 sd wh la hr bh2 wr2 bw2) (some (.retAddr vv), (bx h tu le2 sd wh la hr2 bh2 wr2 bw2))) (hg : am_Good mi_107 51 [some (.ref 47), some (.ref E), some (.ref q), some (.retAddr vv), some (.retAddr (way + 1))] [] (bx h tu le2 sd wh la hr2 bh2 wr2 bw2) r) : am_Good mi_107 51 [some (.ref 47), some (.ref E), some (.ref q), some (.retAddr 1), some (.retAddr way)] [] (bx h tu le sd wh la hr bh wr bw) r := by
  refine g_iload dd_107_51 rfl ?_
  refine g_sipush dd_107_53 si_4096 ?_
  refine g_icmp_ge_f (t := 86) dd_107_56 (by decide) (by first | exact sk_ge_f (by omega) (by omega) | exact tk_ge_f (by omega)) ?_
  refine g_iload_n (i := 3) dd_107_59 rfl ?_
  refine g_if_eq_f (t := 86) dd_107_60 (by decide) (by decide) ?_
  refine g_aload_n (i := 0) dd_107_63 rfl ?_
  refine g_aload_n (i := 1) dd_107_64 rfl ?_
  refine g_virtual (M' := mi_110) (n := 1) (ci := 0) (b := 47) (as := [.ref E]) (st := []) (r1 := (none, (bx h tu le2 sd wh la hr bh2 wr2 bw2))) w_836 w_838 ps_110 ⟨lk_110.1, lk_110.2.1, lk_110.2.2, by decide, by decide⟩ rfl (bx_g47 hH) rfl (by simp [Value.category]) dd_107_65 (e1_) ?_
  show am_Good mi_107 68 [some (.ref 47), some (.ref E), some (.ref q), some (.retAddr 1), some (.retAddr way)] [] (bx h tu le2 sd wh la hr bh2 wr2 bw2) _
  refine g_aload_n (i := 0) dd_107_68 rfl ?_
  refine g_aload_n (i := 1) dd_107_69 rfl ?_
  refine g_getfield (k := 5) am_ck1 (by decide) (Or.inr ⟨_, w_102⟩) dd_107_70 ((bx_o hH nE).trans qE) e5 ?_
  refine g_getfield (k := 3) am_ck8 (by decide) (Or.inr ⟨_, w_65⟩) dd_107_73 ((bx_o hH n5).trans r5) s5 ?_
  refine g_virtual (M' := mi_112) (n := 1) (ci := 0) (b := 47) (as := [.retAddr w]) (st := []) (r1 := (some (.retAddr vv), (bx h tu le2 sd wh la hr2 bh2 wr2 bw2))) w_846 w_848 ps_112 ⟨lk_112.1, lk_112.2.1, lk_112.2.2, by decide, by decide⟩ rfl (bx_g47 hH) rfl (by simp [Value.category]) dd_107_76 (e2_) ?_
  show am_Good mi_107 79 [some (.ref 47), some (.ref E), some (.ref q), some (.retAddr 1), some (.retAddr way)] [.retAddr vv] (bx h tu le2 sd wh la hr2 bh2 wr2 bw2) _
  refine g_istore_n (i := 3) dd_107_79 (am_nlb_ok rfl) (by decide) ?_
  refine e_iinc (v := 1) (w := way + 1) dd_107_80 rfl ic_1 (am_nlb_ok rfl) (by decide) (by omega) ?_
  refine g_goto (t := 51) dd_107_83 (by decide) ?_
  exact hg
/-- the best of one way more -/
theorem fa_bs {fw : Nat → Nat → Nat} {mi go w way wr' bh bw le hr : Nat} {own : Nat → Nat} (hd : ∀ r, r < fa_tn mi → am_ag hr r = fa_d w (fa_tn mi) way r) (t6 : fa_tn mi ≤ 6) (hwr : ∀ s, s < 4 → am_ag wr' s = fa_w fw mi go (fun r => own (am_ag hr r)) s (fa_tn mi)) : (∀ s, s < 4 → am_ag wr' s = fa_w fw mi go (fun r => own (fa_d w (fa_tn mi) way r)) s (fa_tn mi)) ∧ fa_m (fun i => fa_w fw mi go (fun r => own (am_ag hr r)) (own i) (fa_tn mi)) 1000 w = (fa_L fw mi go w own) way := by
  have k : ∀ s, fa_w fw mi go (fun r => own (am_ag hr r)) s (fa_tn mi) = fa_w fw mi go (fun r => own (fa_d w (fa_tn mi) way r)) s (fa_tn mi) := fun s => fa_w_cg (fun r h => congrArg own (hd r h)) (fun r h t _ => rfl)
  refine ⟨fun s hs => (hwr s hs).trans (k s), ?_⟩
  unfold fa_L
  exact fa_m_cg (fun i hi => k _)
theorem fa_gL {fw : Nat → Nat → Nat} {mi go w way hr : Nat} {own : Nat → Nat} (hd : ∀ r, r < fa_tn mi → am_ag hr r = fa_d w (fa_tn mi) way r) : fa_m (fun i => fa_w fw mi go (fun r => own (am_ag hr r)) (own i) (fa_tn mi)) 1000 w = (fa_L fw mi go w own) way := by
  unfold fa_L
  exact fa_m_cg (fun i hi => fa_w_cg (fun r h => congrArg own (hd r h)) (fun r h t _ => rfl))
theorem sz_l {h : am_H} (hH : bx_ok h) {E a5 mi go w : Nat} {vE w5 : List Value} (nE : am_lk [(47, am_e0), (48, am_e0), (49, am_e0), (50, am_e0), (51, am_e0), (52, am_e0), (53, am_e0)] E = none) (qE : am_get h E = some (.inr (1, vE))) (e5 : vE[5]? = some (.ref a5)) (e6 : vE[6]? = some (.retAddr mi)) (e7 : vE[7]? = some (.retAddr go)) (n5 : am_lk [(47, am_e0), (48, am_e0), (49, am_e0), (50, am_e0), (51, am_e0), (52, am_e0), (53, am_e0)] a5 = none) (r5 : am_get h a5 = some (.inr (8, w5))) (s5 : w5[3]? = some (.retAddr w)) {q : Nat} {vq : List Value} {own : Nat → Nat} {fw : Nat → Nat → Nat} (qS : ∀ tu le sd wh la hr bh wr bw, am_get (bx h tu le sd wh la hr bh wr bw) q = some (.inr (9, vq))) (cw : ∀ tu le sd wh la hr bh wr bw s t, s < 4 → t < 60 → am_EG mi_41 [.ref q, .retAddr s, .retAddr t] (bx h tu le sd wh la hr bh wr bw) (some (.retAddr (fw s t)), bx h tu le sd wh la hr bh wr bw)) (co : ∀ tu le sd wh la hr bh wr bw i, i < w → am_EG mi_70 [.ref E, .retAddr i] (bx h tu le sd wh la hr bh wr bw) (some (.retAddr (own i)), bx h tu le sd wh la hr bh wr bw)) (hm1 : 1 ≤ mi) (hm : mi ≤ 60) (hgo : go ≤ 3) (hw1 : 1 ≤ w) (hw : w ≤ 4) (ho4 : ∀ i, i < w → own i < 4) (h99 : ∀ s t, s < 4 → t < 60 → fw s t ≤ 99) {wh la : Nat} (cwh : ∀ k, k < fa_tn mi → ∀ s, s < 4 → am_ag wh (4 * k + s) = fa_p fw mi k s 0) (cla : ∀ k, k < fa_tn mi → ∀ s, s < 4 → am_ag la (4 * k + s) = fa_p fw mi k s go) : ∀ (f way le hr bh wr bw : Nat), way + (f + 1) = w ^ fa_tn mi → (∀ r, r < fa_tn mi → am_ag hr r = fa_d w (fa_tn mi) way r) → (∀ r, r < 6 → am_ag hr r ≤ 3) → (∀ r, r < 6 → am_ag bh r ≤ 3) → ((way = 0 ∧ le = 4294967292) ∨ (0 < way ∧ (le = (fa_L fw mi go w own) (fa_b (fa_L fw mi go w own) way) ∧ (∀ r, r < fa_tn mi → am_ag bh r = fa_d w (fa_tn mi) (fa_b (fa_L fw mi go w own) way) r) ∧ ∀ s, s < 4 → am_ag bw s = fa_w fw mi go (fun r => own (fa_d w (fa_tn mi) (fa_b (fa_L fw mi go w own) way) r)) s (fa_tn mi)))) → ∃ le' hr' bh' wr' bw', (le' = (fa_L fw mi go w own) (fa_b (fa_L fw mi go w own) (w ^ fa_tn mi)) ∧ (∀ r, r < fa_tn mi → am_ag bh' r = fa_d w (fa_tn mi) (fa_b (fa_L fw mi go w own) (w ^ fa_tn mi)) r) ∧ ∀ s, s < 4 → am_ag bw' s = fa_w fw mi go (fun r => own (fa_d w (fa_tn mi) (fa_b (fa_L fw mi go w own) (w ^ fa_tn mi)) r)) s (fa_tn mi)) ∧ ((∀ r, r < 6 → am_ag hr' r ≤ 3) ∧ ∀ r, r < 6 → am_ag bh' r ≤ 3) ∧ am_Good mi_107 51 [some (.ref 47), some (.ref E), some (.ref q), some (.retAddr 1), some (.retAddr way)] [] (bx h (fa_tn mi) le 1 wh la hr bh wr bw) (none, (bx h (fa_tn mi) (le') 1 wh la (hr') (bh') (wr') (bw')))
  | f, way, le, hr, bh, wr, bw, e, hd, h3, b3, hI => by
    obtain ⟨t1, t6, -⟩ := fa_t6 hm1 hm
    have p46 := fa_pw (w := w) (tn := fa_tn mi) hw t6
    have hdl : ∀ r, r < fa_tn mi → am_ag hr r < w := fun r h => by
      rw [hd r h]
      exact fa_d_lt (by omega)
    have cp3 : ∀ r, r < 6 → am_ag (am_cp hr bh 0 0 6) r ≤ 3 := fun r h => by
      rw [am_ag_cp, if_pos (by omega), Nat.zero_add, Nat.sub_zero]
      exact h3 r h
    have bs : fa_b (fa_L fw mi go w own) (way + 1) = if (fa_L fw mi go w own) (fa_b (fa_L fw mi go w own) way) < (fa_L fw mi go w own) way then way else fa_b (fa_L fw mi go w own) way := rfl
    -- the way tried
    have tr : ∃ wr2 le2 bh2 bw2, (le2 = (fa_L fw mi go w own) (fa_b (fa_L fw mi go w own) (way + 1)) ∧ (∀ r, r < fa_tn mi → am_ag bh2 r = fa_d w (fa_tn mi) (fa_b (fa_L fw mi go w own) (way + 1)) r) ∧ ∀ s, s < 4 → am_ag bw2 s = fa_w fw mi go (fun r => own (fa_d w (fa_tn mi) (fa_b (fa_L fw mi go w own) (way + 1)) r)) s (fa_tn mi)) ∧ (∀ r, r < 6 → am_ag bh2 r ≤ 3) ∧ am_EG mi_110 [.ref 47, .ref E] (bx h (fa_tn mi) le 1 wh la hr bh wr bw) (none, (bx h (fa_tn mi) le2 1 wh la hr bh2 wr2 bw2)) := by
      rcases hI with ⟨z, hl⟩ | ⟨z, hl, hb, hbw⟩
      · subst hl
        obtain ⟨wr2, p, q⟩ := sy_n hH nE qE e5 e6 e7 n5 r5 s5 qS cw co hm1 hm hgo hw1 hw ho4 h99 (sd := 1) (bh := bh) (wr := wr) (bw := bw) t6 hdl cwh cla
        obtain ⟨g1, g2⟩ := fa_bs (bh := bh) (bw := bw) (le := 0) hd t6 p
        rw [g2] at q
        have b0 : fa_b (fa_L fw mi go w own) (way + 1) = way := by
          rw [bs]
          subst z
          by_cases c : (fa_L fw mi go w own) (fa_b (fa_L fw mi go w own) 0) < (fa_L fw mi go w own) 0
          · rw [if_pos c]
          · rw [if_neg c]; rfl
        refine ⟨wr2, _, _, _, ⟨by rw [b0], fun r h => ?_, fun s hs => ?_⟩, cp3, q⟩
        · rw [b0, am_ag_cp, if_pos (by omega), Nat.zero_add, Nat.sub_zero]
          exact hd r h
        · rw [b0, am_ag_cp, if_pos (by omega), Nat.zero_add, Nat.sub_zero]
          exact g1 s hs
      · by_cases c : (fa_L fw mi go w own) (fa_b (fa_L fw mi go w own) way) < (fa_L fw mi go w own) way
        · obtain ⟨wr2, p, q⟩ := sy_b hH nE qE e5 e6 e7 n5 r5 s5 qS cw co hm1 hm hgo hw1 hw ho4 h99 (le := le) (sd := 1) (bh := bh) (wr := wr) (bw := bw) t6 hdl cwh cla (by rw [fa_gL hd, hl]; exact c)
          obtain ⟨g1, g2⟩ := fa_bs (bh := bh) (bw := bw) (le := 0) hd t6 p
          rw [g2] at q
          have b0 : fa_b (fa_L fw mi go w own) (way + 1) = way := by rw [bs, if_pos c]
          refine ⟨wr2, _, _, _, ⟨by rw [b0], fun r h => ?_, fun s hs => ?_⟩, cp3, q⟩
          · rw [b0, am_ag_cp, if_pos (by omega), Nat.zero_add, Nat.sub_zero]
            exact hd r h
          · rw [b0, am_ag_cp, if_pos (by omega), Nat.zero_add, Nat.sub_zero]
            exact g1 s hs
        · obtain ⟨wr2, p, q⟩ := sy_k hH nE qE e5 e6 e7 n5 r5 s5 qS cw co hm1 hm hgo hw1 hw ho4 h99 (le := le) (sd := 1) (bh := bh) (wr := wr) (bw := bw) t6 hdl cwh cla (by rw [fa_gL hd, hl]; exact c) (by rw [hl]; exact fa_L_le)
          have b0 : fa_b (fa_L fw mi go w own) (way + 1) = fa_b (fa_L fw mi go w own) way := by rw [bs, if_neg c]
          exact ⟨wr2, _, _, _, ⟨by rw [b0]; exact hl, by rw [b0]; exact hb, by rw [b0]; exact hbw⟩, b3, q⟩
    obtain ⟨wr2, le2, bh2, bw2, po, b3', e1⟩ := tr
    obtain ⟨hr2, vv, ⟨h3', nx⟩, e2⟩ := sn_m hH nE qE e5 e6 e7 n5 r5 s5 qS cw co hm1 hm hgo hw1 hw ho4 h99 (le := le2) (sd := 1) (wh := wh) (la := la) (bh := bh2) (wr := wr2) (bw := bw2) t1 t6 (show way < w ^ fa_tn mi by omega) hd h3
    have hc : way < 4096 := by omega
    rcases nx with ⟨rfl, n2, n3⟩ | ⟨rfl, n2⟩
    · match f, e with
      | 0, e => exact absurd n2 (by omega)
      | f + 1, e =>
        obtain ⟨le', hr', bh', wr', bw', pe, pb, q⟩ := sz_l hH nE qE e5 e6 e7 n5 r5 s5 qS cw co hm1 hm hgo hw1 hw ho4 h99 cwh cla f (way + 1) le2 hr2 bh2 wr2 bw2 (by omega) n3 h3' b3' (Or.inr ⟨by omega, po⟩)
        exact ⟨le', hr', bh', wr', bw', pe, pb, sz_i hH nE qE e5 e6 e7 n5 r5 s5 qS cw co hm1 hm hgo hw1 hw ho4 h99 hc e1 e2 q⟩
    · rw [n2] at po
      refine ⟨le2, hr2, bh2, wr2, bw2, po, ⟨h3', b3'⟩, sz_i hH nE qE e5 e6 e7 n5 r5 s5 qS cw co hm1 hm hgo hw1 hw ho4 h99 hc e1 e2 ?_⟩
      by_cases c : way + 1 < 4096
      · exact sz_f hH nE qE e5 e6 e7 n5 r5 s5 qS cw co hm1 hm hgo hw1 hw ho4 h99 c
      · exact sz_e hH nE qE e5 e6 e7 n5 r5 s5 qS cw co hm1 hm hgo hw1 hw ho4 h99 c (by omega)
theorem sz_m {h : am_H} (hH : bx_ok h) {E a5 mi go w : Nat} {vE w5 : List Value} (nE : am_lk [(47, am_e0), (48, am_e0), (49, am_e0), (50, am_e0), (51, am_e0), (52, am_e0), (53, am_e0)] E = none) (qE : am_get h E = some (.inr (1, vE))) (e5 : vE[5]? = some (.ref a5)) (e6 : vE[6]? = some (.retAddr mi)) (e7 : vE[7]? = some (.retAddr go)) (n5 : am_lk [(47, am_e0), (48, am_e0), (49, am_e0), (50, am_e0), (51, am_e0), (52, am_e0), (53, am_e0)] a5 = none) (r5 : am_get h a5 = some (.inr (8, w5))) (s5 : w5[3]? = some (.retAddr w)) {q : Nat} {vq : List Value} {own : Nat → Nat} {fw : Nat → Nat → Nat} (qS : ∀ tu le sd wh la hr bh wr bw, am_get (bx h tu le sd wh la hr bh wr bw) q = some (.inr (9, vq))) (cw : ∀ tu le sd wh la hr bh wr bw s t, s < 4 → t < 60 → am_EG mi_41 [.ref q, .retAddr s, .retAddr t] (bx h tu le sd wh la hr bh wr bw) (some (.retAddr (fw s t)), bx h tu le sd wh la hr bh wr bw)) (co : ∀ tu le sd wh la hr bh wr bw i, i < w → am_EG mi_70 [.ref E, .retAddr i] (bx h tu le sd wh la hr bh wr bw) (some (.retAddr (own i)), bx h tu le sd wh la hr bh wr bw)) (hm1 : 1 ≤ mi) (hm : mi ≤ 60) (hgo : go ≤ 3) (hw1 : 1 ≤ w) (hw : w ≤ 4) (ho4 : ∀ i, i < w → own i < 4) (h99 : ∀ s t, s < 4 → t < 60 → fw s t ≤ 99) {tu le wh la hr bh wr bw : Nat} (b3 : ∀ r, r < 6 → am_ag bh r ≤ 3) : ∃ le' wh' la' hr' bh' wr' bw', (le' = (fa_L fw mi go w own) (fa_b (fa_L fw mi go w own) (w ^ fa_tn mi)) ∧ (∀ r, r < fa_tn mi → am_ag bh' r = fa_d w (fa_tn mi) (fa_b (fa_L fw mi go w own) (w ^ fa_tn mi)) r) ∧ ∀ s, s < 4 → am_ag bw' s = fa_w fw mi go (fun r => own (fa_d w (fa_tn mi) (fa_b (fa_L fw mi go w own) (w ^ fa_tn mi)) r)) s (fa_tn mi)) ∧ ((∀ r, r < 6 → am_ag hr' r ≤ 3) ∧ ∀ r, r < 6 → am_ag bh' r ≤ 3) ∧ am_EG mi_107 [.ref 47, .ref E, .ref q] (bx h tu le 0 wh la hr bh wr bw) (none, (bx h (fa_tn mi) (le') 1 (wh') (la') (hr') (bh') (wr') (bw'))) := by
  obtain ⟨t1, t6, -⟩ := fa_t6 hm1 hm
  have w1 : 0 < w ^ fa_tn mi := Nat.pow_pos (by omega)
  have zz : ∀ (d x : Nat), ∀ k, k < fa_tn mi → ∀ s, s < 4 → am_ag (zf (fa_g fw mi d) x (4 * fa_tn mi)) (4 * k + s) = fa_p fw mi k s d := fun d x k hk s hs => by
    have pb : fa_p fw mi k s d ≤ 990 := fa_p_le (M := 99) (fun t h => h99 s t hs (by omega))
    rw [zf_ag, if_pos (by omega), fa_g_at hs]
    exact Nat.mod_eq_of_lt (by omega)
  obtain ⟨le', hr', bh', wr', bw', pe, pb, q⟩ := sz_l hH nE qE e5 e6 e7 n5 r5 s5 qS cw co hm1 hm hgo hw1 hw ho4 h99 (zz 0 wh) (zz go la) (w ^ fa_tn mi - 1) 0 4294967292 (am_fl 0 hr 0 6) bh wr bw (by omega) (fun r h => by
    rw [am_fl_ag, if_pos (by omega), fa_d_0]) (fun r h => by
    rw [am_fl_ag, if_pos (by omega)]
    decide) b3 (Or.inl ⟨rfl, rfl⟩)
  exact ⟨le', _, _, hr', bh', wr', bw', pe, pb, sz_0 hH nE qE e5 e6 e7 n5 r5 s5 qS cw co hm1 hm hgo hw1 hw ho4 h99 q⟩
theorem so_h {h : am_H} {x6 x7 x8 : Value} (g47 : am_get h 47 = some (.inr (0, [.ref 48, .ref 49, .ref 50, .ref 51, .ref 52, .ref 53, x6, x7, x8]))) {bh k : Nat} (g51 : am_get h 51 = some (.inl (0, 6, bh))) (hk : k < 6) : am_EG mi_113 [.ref 47, .retAddr k] h (some (.retAddr (am_ag bh k)), h) := by
  refine am_enter (n := 0) tk_113.2.1 (by simp [Value.category]) (Nat.le_of_ble_eq_true rfl) ?_
  show am_Good mi_113 0 [some (.ref 47), some (.retAddr k)] [] h _
  refine g_iload_n (i := 1) dd_113_0 rfl ?_
  refine g_if_lt_f (t := 19) dd_113_1 (by decide) (by first | exact sk_lt_f (by omega) (by omega) | exact tk_lt_f (by omega)) ?_
  refine g_iload_n (i := 1) dd_113_4 rfl ?_
  refine g_bipush dd_113_5 bi_6 ?_
  refine g_icmp_ge_f (t := 19) dd_113_7 (by decide) (by first | exact sk_ge_f (by omega) (by omega) | exact tk_ge_f (by omega)) ?_
  refine g_aload_n (i := 0) dd_113_10 rfl ?_
  refine g_getfield (k := 3) am_ck0 (by decide) (Or.inl w_270) dd_113_11 g47 rfl ?_
  refine g_iload_n (i := 1) dd_113_14 rfl ?_
  refine g_iaload dd_113_15 g51 (by omega) (by decide) ?_
  have hl_1 := am_ag_lt bh k
  refine g_goto (t := 21) dd_113_16 (by decide) ?_
  exact g_ireturn rfl dd_113_21
theorem so_s {h : am_H} {x6 x7 x8 : Value} (g47 : am_get h 47 = some (.inr (0, [.ref 48, .ref 49, .ref 50, .ref 51, .ref 52, .ref 53, x6, x7, x8]))) {bw k : Nat} (g53 : am_get h 53 = some (.inl (0, 4, bw))) (hk : k < 4) : am_EG mi_114 [.ref 47, .retAddr k] h (some (.retAddr (am_ag bw k)), h) := by
  refine am_enter (n := 0) tk_114.2.1 (by simp [Value.category]) (Nat.le_of_ble_eq_true rfl) ?_
  show am_Good mi_114 0 [some (.ref 47), some (.retAddr k)] [] h _
  refine g_iload_n (i := 1) dd_114_0 rfl ?_
  refine g_if_lt_f (t := 18) dd_114_1 (by decide) (by first | exact sk_lt_f (by omega) (by omega) | exact tk_lt_f (by omega)) ?_
  refine g_iload_n (i := 1) dd_114_4 rfl ?_
  refine g_iconst dd_114_5 ic_4 ?_
  refine g_icmp_ge_f (t := 18) dd_114_6 (by decide) (by first | exact sk_ge_f (by omega) (by omega) | exact tk_ge_f (by omega)) ?_
  refine g_aload_n (i := 0) dd_114_9 rfl ?_
  refine g_getfield (k := 5) am_ck0 (by decide) (Or.inl w_272) dd_114_10 g47 rfl ?_
  refine g_iload_n (i := 1) dd_114_13 rfl ?_
  refine g_iaload dd_114_14 g53 (by omega) (by decide) ?_
  have hl_1 := am_ag_lt bw k
  refine g_goto (t := 19) dd_114_15 (by decide) ?_
  exact g_ireturn rfl dd_114_19
