/-! ===== ask: both ===== -/
def bc1 (x : Nat) : Nat := (x + (4294967296 - ((x % 4294967296) >>> (1 % 32) &&& 1431655765) % 4294967296)) % 4294967296
def bc2 (x : Nat) : Nat := ((x &&& 858993459) + ((x % 4294967296) >>> (2 % 32) &&& 858993459)) % 4294967296
def bc3 (x : Nat) : Nat := (x + (x % 4294967296) >>> (4 % 32)) % 4294967296 &&& 252645135
def bc4 (x : Nat) : Nat := (x + (x % 4294967296) >>> (8 % 32)) % 4294967296
def bc5 (x : Nat) : Nat := (x + (x % 4294967296) >>> (16 % 32)) % 4294967296
def am_pct (x : Nat) : Nat := x % 2 + (x / 2) % 2 + (x / 4) % 2 + (x / 8) % 2 + (x / 16) % 2 + (x / 32) % 2 + (x / 64) % 2 + (x / 128) % 2
theorem bc_all : jv_all (fun x => Nat.beq (bc5 (bc4 (bc3 (bc2 (bc1 x)))) &&& 63) (am_pct x)) 256 = true := by decide +kernel
theorem bt_all : jv_all (fun x => Nat.beq x 0 || Nat.beq (am_pct (x &&& (x - 1)) + 1) (am_pct x)) 256 = true := by decide +kernel
theorem pct_0 : jv_all (fun x => Nat.beq x 0 || Nat.ble 1 (am_pct x)) 256 = true := by decide +kernel
theorem e_iushr {M : am_MI} {pc : Nat} {L : am_L} {st : List Value} {h : am_H} {r : am_R} {a b v : Nat} (hd : decode M.2.1 pc = .ok (.iushr, 1)) (he : (a % 4294967296) >>> (b % 32) = v) (hg : am_Good M (pc + 1) L (.retAddr v :: st) h r) : am_Good M pc L (.retAddr b :: .retAddr a :: st) h r := by
  subst he
  exact g_iushr hd hg
theorem ak_bc {h : am_H} {x : Nat} (hx : x < 256) : am_EG mi_103 [.retAddr x] h (some (.retAddr (am_pct x)), h) := by
  refine am_enter (n := 0) tk_103.2.1 (by simp [Value.category]) (Nat.le_of_ble_eq_true rfl) ?_
  show am_Good mi_103 0 [some (.retAddr x)] [] h _
  refine g_iload_n (i := 0) dd_103_0 rfl ?_
  refine g_iload_n (i := 0) dd_103_1 rfl ?_
  refine g_iconst dd_103_2 ic_1 ?_
  refine e_iushr (v := (x % 4294967296) >>> (1 % 32)) dd_103_3 rfl ?_
  refine g_ldcw (v := 1431655765) dd_103_4 w_805 ?_
  refine e_iand (v := ((x % 4294967296) >>> (1 % 32)) &&& 1431655765) dd_103_7 (rfl) ?_
  refine e_isub (v := bc1 x) dd_103_8 rfl ?_
  refine g_istore_n (i := 0) dd_103_9 (am_nlb_ok rfl) (by decide) ?_
  refine g_iload_n (i := 0) dd_103_10 rfl ?_
  refine g_ldcw (v := 858993459) dd_103_11 w_806 ?_
  refine e_iand (v := (bc1 x) &&& 858993459) dd_103_14 (rfl) ?_
  refine g_iload_n (i := 0) dd_103_15 rfl ?_
  refine g_iconst dd_103_16 ic_2 ?_
  refine e_iushr (v := ((bc1 x) % 4294967296) >>> (2 % 32)) dd_103_17 rfl ?_
  refine g_ldcw (v := 858993459) dd_103_18 w_806 ?_
  refine e_iand (v := (((bc1 x) % 4294967296) >>> (2 % 32)) &&& 858993459) dd_103_21 (rfl) ?_
  refine e_iadd (v := bc2 (bc1 x)) dd_103_22 rfl ?_
  refine g_istore_n (i := 0) dd_103_23 (am_nlb_ok rfl) (by decide) ?_
  refine g_iload_n (i := 0) dd_103_24 rfl ?_
  refine g_iload_n (i := 0) dd_103_25 rfl ?_
  refine g_iconst dd_103_26 ic_4 ?_
  refine e_iushr (v := ((bc2 (bc1 x)) % 4294967296) >>> (4 % 32)) dd_103_27 rfl ?_
  refine e_iadd (v := (bc2 (bc1 x) + (bc2 (bc1 x) % 4294967296) >>> (4 % 32)) % 4294967296) dd_103_28 rfl ?_
  refine g_ldcw (v := 252645135) dd_103_29 w_807 ?_
  refine e_iand (v := bc3 (bc2 (bc1 x))) dd_103_32 rfl ?_
  refine g_istore_n (i := 0) dd_103_33 (am_nlb_ok rfl) (by decide) ?_
  refine g_iload_n (i := 0) dd_103_34 rfl ?_
  refine g_iload_n (i := 0) dd_103_35 rfl ?_
  refine g_bipush dd_103_36 bi_8 ?_
  refine e_iushr (v := ((bc3 (bc2 (bc1 x))) % 4294967296) >>> (8 % 32)) dd_103_38 rfl ?_
  refine e_iadd (v := bc4 (bc3 (bc2 (bc1 x)))) dd_103_39 rfl ?_
  refine g_istore_n (i := 0) dd_103_40 (am_nlb_ok rfl) (by decide) ?_
  refine g_iload_n (i := 0) dd_103_41 rfl ?_
  refine g_iload_n (i := 0) dd_103_42 rfl ?_
  refine g_bipush dd_103_43 bi_16 ?_
  refine e_iushr (v := ((bc4 (bc3 (bc2 (bc1 x)))) % 4294967296) >>> (16 % 32)) dd_103_45 rfl ?_
  refine e_iadd (v := bc5 (bc4 (bc3 (bc2 (bc1 x))))) dd_103_46 rfl ?_
  refine g_istore_n (i := 0) dd_103_47 (am_nlb_ok rfl) (by decide) ?_
  refine g_iload_n (i := 0) dd_103_48 rfl ?_
  refine g_bipush dd_103_49 bi_63 ?_
  refine e_iand (v := am_pct x) dd_103_51 (Nat.eq_of_beq_eq_true (jv_all_ok bc_all x hx)) ?_
  exact g_ireturn rfl dd_103_52
theorem ak_b0 {h : am_H} {z n : Nat} : am_Good mi_193 4 [some (.retAddr z), some (.retAddr n), some (.retAddr 0)] [] h (some (.retAddr n), h) := by
  refine g_iload_n (i := 2) dd_193_4 rfl ?_
  refine g_if_le_t (t := 20) dd_193_5 (by decide) (by decide) ?_
  refine g_iload_n (i := 1) dd_193_20 rfl ?_
  exact g_ireturn rfl dd_193_21
theorem ak_b1 {h : am_H} {z x n : Nat} {r : am_R} (hx : x < 256) (hx0 : x ≠ 0) (hn : n < 100) (hg : am_Good mi_193 4 [some (.retAddr z), some (.retAddr (n + 1)), some (.retAddr (x &&& (x - 1)))] [] h r) : am_Good mi_193 4 [some (.retAddr z), some (.retAddr n), some (.retAddr x)] [] h r := by
  refine g_iload_n (i := 2) dd_193_4 rfl ?_
  refine g_if_le_f (t := 20) dd_193_5 (by decide) (by first | exact sk_le_f (by omega) (by omega) | exact tk_le_f (by omega)) ?_
  refine e_iinc (v := 1) (w := n + 1) dd_193_8 rfl ic_1 (am_nlb_ok rfl) (by decide) (by omega) ?_
  refine g_iload_n (i := 2) dd_193_11 rfl ?_
  refine g_iload_n (i := 2) dd_193_12 rfl ?_
  refine g_iconst dd_193_13 ic_1 ?_
  refine e_isub (v := x - 1) dd_193_14 (by omega) ?_
  refine e_iand (v := x &&& (x - 1)) dd_193_15 rfl ?_
  refine g_istore_n (i := 2) dd_193_16 (am_nlb_ok rfl) (by decide) ?_
  refine g_goto (t := 4) dd_193_17 (by decide) ?_
  exact hg
theorem ak_bl {h : am_H} {z : Nat} : ∀ (k x n : Nat), am_pct x ≤ k → k ≤ 8 → x < 256 → n + k < 50 → am_Good mi_193 4 [some (.retAddr z), some (.retAddr n), some (.retAddr x)] [] h (some (.retAddr (n + am_pct x)), h)
  | k, x, n, hk, h8, hx, hn => by
    by_cases h0 : x = 0
    · subst h0
      exact ak_b0
    · have q1 := jv_all_ok bt_all x hx
      have q2 := jv_all_ok pct_0 x hx
      have nb : Nat.beq x 0 = false := by
        cases hb : Nat.beq x 0
        · rfl
        · exact absurd (Nat.eq_of_beq_eq_true hb) h0
      rw [nb, Bool.false_or] at q1 q2
      have e1 := Nat.eq_of_beq_eq_true q1
      have e2 := Nat.le_of_ble_eq_true q2
      refine ak_b1 hx h0 (by omega) ?_
      match k, hk with
      | 0, hk => exact absurd hk (by omega)
      | k + 1, hk =>
        have q := ak_bl (h := h) (z := z) k (x &&& (x - 1)) (n + 1) (by omega) (by omega) (Nat.lt_of_le_of_lt Nat.and_le_left hx) (by omega)
        rw [show n + 1 + am_pct (x &&& (x - 1)) = n + am_pct x by omega] at q
        exact q
theorem pct_8 (x : Nat) : am_pct x ≤ 8 := by unfold am_pct; omega
theorem ak_bits {h : am_H} {x : Nat} (hx : x < 256) : am_EG mi_193 [.retAddr x] h (some (.retAddr (am_pct x)), h) := by
  refine am_enter (n := 2) tk_193.2.1 (by simp [Value.category]) (Nat.le_of_ble_eq_true rfl) ?_
  show am_Good mi_193 0 [some (.retAddr x), none, none] [] h _
  refine g_iconst dd_193_0 ic_0 ?_
  refine g_istore_n (i := 1) dd_193_1 (am_nlb_ok rfl) (by decide) ?_
  refine g_iload_n (i := 0) dd_193_2 rfl ?_
  refine g_istore_n (i := 2) dd_193_3 (am_nlb_ok rfl) (by decide) ?_
  have q := ak_bl (h := h) (z := x) 8 x 0 (pct_8 x) (Nat.le_refl _) hx (by decide)
  rw [Nat.zero_add] at q
  exact q
theorem ak_and_lt {a b : Nat} (ha : a < 256) : a &&& b < 256 := Nat.lt_of_le_of_lt Nat.and_le_left ha
theorem ak_en : jv_all (fun c => jv_all (fun s => bif Nat.beq (s &&& (c ^^^ 4294967295)) 0 then Nat.beq (c &&& s) s else !Nat.beq (c &&& s) s) 256) 256 = true := by decide +kernel
theorem ak_not {c s : Nat} (hc : c < 256) (hs : s < 256) : s &&& (c ^^^ 4294967295) = 0 ↔ c &&& s = s := by
  have h : (bif Nat.beq (s &&& (c ^^^ 4294967295)) 0 then Nat.beq (c &&& s) s else !Nat.beq (c &&& s) s) = true := jv_all_ok (jv_all_ok ak_en c hc) s hs
  cases e : Nat.beq (s &&& (c ^^^ 4294967295)) 0 <;> rw [e] at h
  · have h1 : Nat.beq (c &&& s) s = false := by simpa using h
    exact ⟨fun q => absurd q (Nat.ne_of_beq_eq_false e), fun q => absurd q (Nat.ne_of_beq_eq_false h1)⟩
  · exact ⟨fun _ => Nat.eq_of_beq_eq_true h, fun _ => Nat.eq_of_beq_eq_true e⟩
theorem ak_ex : jv_all (fun k => jv_all (fun s => Nat.beq ((s &&& (k ^^^ 4294967295)) &&& k) 0 && Nat.beq ((k ||| (s &&& (k ^^^ 4294967295))) &&& s) s) 256) 256 = true := by decide +kernel
def faS (cv : Nat → Nat) (kn se b x : Nat) : Nat := if x &&& kn = 0 ∧ cv (kn ||| x) &&& se = se ∧ am_pct x ≤ am_pct b then x else b
def faF (cv : Nat → Nat) (kn se : Nat) : Nat → Nat → Nat
  | 0, b => b
  | n + 1, b => faF cv kn se n (faS cv kn se b n)
def maS (cv : Nat → Nat) (kn se b x : Nat) : Nat := if x &&& kn = 0 ∧ (b = 4294967292 ∨ am_pct x < am_pct b) ∧ se &&& (cv (kn ||| x) ^^^ 4294967295) = 0 then x else b
def maF (cv : Nat → Nat) (kn se : Nat) : Nat → Nat → Nat → Nat
  | 0, _, b => b
  | m + 1, k, b => maF cv kn se m (k + 1) (maS cv kn se b k)
theorem pct_lt (x : Nat) : am_pct x < 9 := by unfold am_pct; omega
theorem faS_lt {cv : Nat → Nat} {kn se b x : Nat} (hb : b < 256) (hx : x < 256) : faS cv kn se b x < 256 := by unfold faS; split <;> assumption
/-- the class's loop, n sets still to come -/
theorem fa_loop {h : am_H} {cv : Nat → Nat} (q30 : am_get h 30 = some (.inr (2, [.ref 31]))) (hcv : ∀ s, s < 256 → am_EG mi_57 [.ref 30, .retAddr s] h (some (.retAddr (cv s)), h)) (hcl : ∀ s, s < 256 → cv s < 256) {kn se : Nat} (hk : kn < 256) (hs : se < 256) : ∀ (n b : Nat), n ≤ 256 → b < 256 → am_Good mi_102 11 [some (.ref 30), some (.retAddr kn), some (.retAddr se), some (.retAddr b), some (.retAddr ((n + 4294967295) % 4294967296)), none] [] h (some (.retAddr (faF cv kn se n b)), h)
  | 0, b, _, _ => by
    refine g_iload dd_102_11 rfl ?_
    refine g_if_lt_t (t := 70) dd_102_13 (by decide) (by decide) ?_
    refine g_iload_n (i := 3) dd_102_70 rfl ?_
    exact g_ireturn rfl dd_102_71
  | n + 1, b, hn, hb => by
    have hn2 : n < 256 := by omega
    rw [show (n + 1 + 4294967295) % 4294967296 = n by omega]
    have back : ∀ (b' e : Nat), b' = faS cv kn se b n → am_Good mi_102 64 [some (.ref 30), some (.retAddr kn), some (.retAddr se), some (.retAddr b'), some (.retAddr n), some (.retAddr e)] [] h (some (.retAddr (faF cv kn se (n + 1) b)), h) := by
      intro b' e hb'
      subst hb'
      refine g_iinc dd_102_64 rfl ic_m1 (am_nlb_ok rfl) (by decide) ?_
      refine g_goto (t := 11) dd_102_67 (by decide) ?_
      refine g_forget (L' := [some (.ref 30), some (.retAddr kn), some (.retAddr se), some (.retAddr (faS cv kn se b n)), some (.retAddr ((n + 4294967295) % 4294967296)), none]) ?_ (fa_loop q30 hcv hcl hk hs n (faS cv kn se b n) (by omega) (faS_lt hb hn2))
      intro i v hi
      match i, hi with
      | 0, hi => exact hi
      | 1, hi => exact hi
      | 2, hi => exact hi
      | 3, hi => exact hi
      | 4, hi => exact hi
      | 5, hi => cases hi
      | i + 6, hi => cases hi
    have no : (¬ (n &&& kn = 0 ∧ cv (kn ||| n) &&& se = se)) → am_Good mi_102 41 [some (.ref 30), some (.retAddr kn), some (.retAddr se), some (.retAddr b), some (.retAddr n), none] [] h (some (.retAddr (faF cv kn se (n + 1) b)), h) := by
      intro h
      refine g_iconst dd_102_41 ic_0 ?_
      refine g_istore dd_102_42 (am_nlb_ok rfl) (by decide) ?_
      refine g_iload dd_102_44 rfl ?_
      refine g_if_eq_t (t := 64) dd_102_46 (by decide) (by decide) ?_
      exact back b 0 (by unfold faS; rw [if_neg (fun q => h ⟨q.1, q.2.1⟩)])
    refine g_iload dd_102_11 rfl ?_
    refine g_if_lt_f (t := 70) dd_102_13 (by decide) (tk_lt_f (by omega)) ?_
    refine g_iload dd_102_16 rfl ?_
    refine g_iload_n (i := 1) dd_102_18 rfl ?_
    refine g_iand dd_102_19 ?_
    have hlt1 : n &&& kn < 256 := ak_and_lt hn2
    by_cases h1 : n &&& kn = 0
    · rw [h1]
      refine g_if_ne_f (t := 41) dd_102_20 (by decide) (by decide) ?_
      refine g_aload_n (i := 0) dd_102_23 rfl ?_
      refine g_iload_n (i := 1) dd_102_24 rfl ?_
      refine g_iload dd_102_25 rfl ?_
      refine g_ior dd_102_27 ?_
      refine g_virtual (M' := mi_57) (n := 1) (ci := 2) (b := 30) (as := [.retAddr (kn ||| n)]) (st := []) w_801 w_609 w_610 ⟨lk_57.1, lk_57.2.1, lk_57.2.2, by decide, by decide⟩ rfl q30 rfl (by simp) dd_102_28 (hcv (kn ||| n) (or_lt hk hn2)) ?_
      refine g_iload_n (i := 2) dd_102_31 rfl ?_
      refine g_iand dd_102_32 ?_
      refine g_iload_n (i := 2) dd_102_33 rfl ?_
      have hlt2 : cv (kn ||| n) &&& se < 256 := ak_and_lt (hcl _ (or_lt hk hn2))
      by_cases h2 : cv (kn ||| n) &&& se = se
      · refine g_icmp_ne_f (t := 41) dd_102_34 (by decide) (tk_ne_f (by rw [h2])) ?_
        refine g_iconst dd_102_37 ic_1 ?_
        refine g_goto (t := 42) dd_102_38 (by decide) ?_
        refine g_istore dd_102_42 (am_nlb_ok rfl) (by decide) ?_
        refine g_iload dd_102_44 rfl ?_
        refine g_if_eq_f (t := 64) dd_102_46 (by decide) (by decide) ?_
        refine g_iload dd_102_49 rfl ?_
        refine g_static (M' := mi_103) (n := 1) (as := [.retAddr n]) (st := []) w_802 w_803 ⟨lk_103.1, lk_103.2.1, lk_103.2.2, by decide, by decide⟩ rfl (by simp) dd_102_51 (ak_bc hn2) ?_
        refine g_iload_n (i := 3) dd_102_54 rfl ?_
        refine g_static (M' := mi_103) (n := 1) (as := [.retAddr b]) (st := [.retAddr (am_pct n)]) w_802 w_803 ⟨lk_103.1, lk_103.2.1, lk_103.2.2, by decide, by decide⟩ rfl (by simp [Value.category]) dd_102_55 (ak_bc hb) ?_
        have p1 := pct_lt n
        have p2 := pct_lt b
        by_cases h3 : am_pct n ≤ am_pct b
        · refine g_icmp_gt_f (t := 64) dd_102_58 (by decide) (tk_gt_f (by omega)) ?_
          refine g_iload dd_102_61 rfl ?_
          refine g_istore_n (i := 3) dd_102_63 (am_nlb_ok rfl) (by decide) ?_
          exact back n 1 (by unfold faS; rw [if_pos ⟨h1, h2, h3⟩])
        · refine g_icmp_gt_t (t := 64) dd_102_58 (by decide) (tk_gt_t (by omega)) ?_
          exact back b 1 (by unfold faS; rw [if_neg (fun q => h3 q.2.2)])
      · refine g_icmp_ne_t (t := 41) dd_102_34 (by decide) (tk_ne_t (by omega)) ?_
        exact no (fun q => h2 q.2)
    · refine g_if_ne_t (t := 41) dd_102_20 (by decide) (tk_ne_t (by omega)) ?_
      exact no (fun q => h1 q.1)

theorem maS_lt {cv : Nat → Nat} {kn se b x : Nat} (hb : b = 4294967292 ∨ b < 256) (hx : x < 256) : maS cv kn se b x = 4294967292 ∨ maS cv kn se b x < 256 := by unfold maS; split; exact Or.inr hx; exact hb
theorem ma_loop {h : am_H} {cv : Nat → Nat} {vs : List Value} (q66 : am_get h 66 = some (.inr (12, vs))) (hcv : ∀ s, s < 256 → am_EG mi_162 [.ref 66, .retAddr s] h (some (.retAddr (cv s)), h)) (hcl : ∀ s, s < 256 → cv s < 256) {kw kn se : Nat} (hk : kn < 256) (hs : se < 256) : ∀ (m k b : Nat), k + m = 256 → (b = 4294967292 ∨ b < 256) → am_Good mi_192 29 [some (.ref 66), some (.retAddr kw), some (.retAddr se), some (.retAddr kn), some (.retAddr b), some (.retAddr k), none] [] h (some (.retAddr (maF cv kn se m k b)), h)
  | 0, k, b, hkm, _ => by
    have hk2 : k = 256 := by omega
    subst hk2
    refine g_iload dd_192_29 rfl ?_
    refine g_sipush dd_192_31 si_256 ?_
    refine g_icmp_ge_t (t := 106) dd_192_34 (by decide) (by decide) ?_
    refine g_iload dd_192_106 rfl ?_
    exact g_ireturn rfl dd_192_108
  | m + 1, k, b, hkm, hb => by
    have hk2 : k < 256 := by omega
    have back : ∀ (b' e : Nat), b' = maS cv kn se b k → am_Good mi_192 98 [some (.ref 66), some (.retAddr kw), some (.retAddr se), some (.retAddr kn), some (.retAddr b), some (.retAddr k), some (.retAddr e)] [.retAddr b'] h (some (.retAddr (maF cv kn se (m + 1) k b)), h) := by
      intro b' e hb'
      subst hb'
      refine g_istore dd_192_98 (am_nlb_ok rfl) (by decide) ?_
      refine g_iinc dd_192_100 rfl ic_1 (am_nlb_ok rfl) (by decide) ?_
      refine g_goto (t := 29) dd_192_103 (by decide) ?_
      refine g_forget (L' := [some (.ref 66), some (.retAddr kw), some (.retAddr se), some (.retAddr kn), some (.retAddr (maS cv kn se b k)), some (.retAddr (k + 1)), none]) ?_ (ma_loop q66 hcv hcl hk hs m (k + 1) (maS cv kn se b k) (by omega) (maS_lt hb hk2))
      have e1 : (k + 1) % 4294967296 = k + 1 := by omega
      intro i v hi
      match i, hi with
      | 0, hi => exact hi
      | 1, hi => exact hi
      | 2, hi => exact hi
      | 3, hi => exact hi
      | 4, hi => exact hi
      | 5, hi => rw [← e1] at hi; exact hi
      | 6, hi => cases hi
      | i + 7, hi => cases hi
    have no : (¬ (k &&& kn = 0 ∧ (b = 4294967292 ∨ am_pct k < am_pct b))) → am_Good mi_192 68 [some (.ref 66), some (.retAddr kw), some (.retAddr se), some (.retAddr kn), some (.retAddr b), some (.retAddr k), none] [] h (some (.retAddr (maF cv kn se (m + 1) k b)), h) := by
      intro h
      refine g_iconst dd_192_68 ic_0 ?_
      refine g_istore dd_192_69 (am_nlb_ok rfl) (by decide) ?_
      refine g_iload dd_192_71 rfl ?_
      refine g_if_eq_t (t := 96) dd_192_73 (by decide) (by decide) ?_
      refine g_iload dd_192_96 rfl ?_
      exact back b 0 (by unfold maS; rw [if_neg (fun q => h ⟨q.1, q.2.1⟩)])
    have yes : (k &&& kn = 0 ∧ (b = 4294967292 ∨ am_pct k < am_pct b)) → am_Good mi_192 64 [some (.ref 66), some (.retAddr kw), some (.retAddr se), some (.retAddr kn), some (.retAddr b), some (.retAddr k), none] [] h (some (.retAddr (maF cv kn se (m + 1) k b)), h) := by
      intro h
      refine g_iconst dd_192_64 ic_1 ?_
      refine g_goto (t := 69) dd_192_65 (by decide) ?_
      refine g_istore dd_192_69 (am_nlb_ok rfl) (by decide) ?_
      refine g_iload dd_192_71 rfl ?_
      refine g_if_eq_f (t := 96) dd_192_73 (by decide) (by decide) ?_
      refine g_iload_n (i := 2) dd_192_76 rfl ?_
      refine g_aload_n (i := 0) dd_192_77 rfl ?_
      refine g_iload_n (i := 3) dd_192_78 rfl ?_
      refine g_iload dd_192_79 rfl ?_
      refine g_ior dd_192_81 ?_
      refine g_virtual (M' := mi_162) (n := 1) (ci := 12) (b := 66) (as := [.retAddr (kn ||| k)]) (st := [.retAddr se]) w_1218 w_1220 ps_162 ⟨lk_162.1, lk_162.2.1, lk_162.2.2, by decide, by decide⟩ rfl q66 rfl (by simp [Value.category]) dd_192_82 (hcv (kn ||| k) (or_lt hk hk2)) ?_
      refine g_iconst dd_192_85 ic_m1 ?_
      refine g_ixor dd_192_86 ?_
      refine g_iand dd_192_87 ?_
      have hlt3 : se &&& (cv (kn ||| k) ^^^ 4294967295) < 256 := ak_and_lt hs
      by_cases h2 : se &&& (cv (kn ||| k) ^^^ 4294967295) = 0
      · refine g_if_ne_f (t := 96) dd_192_88 (by decide) (tk_ne_f (by rw [h2])) ?_
        refine g_iload dd_192_91 rfl ?_
        refine g_goto (t := 98) dd_192_93 (by decide) ?_
        exact back k 1 (by unfold maS; rw [if_pos ⟨h.1, h.2, h2⟩])
      · refine g_if_ne_t (t := 96) dd_192_88 (by decide) (tk_ne_t (by omega)) ?_
        refine g_iload dd_192_96 rfl ?_
        exact back b 1 (by unfold maS; rw [if_neg (fun q => h2 q.2.2)])
    refine g_iload dd_192_29 rfl ?_
    refine g_sipush dd_192_31 si_256 ?_
    refine g_icmp_ge_f (t := 106) dd_192_34 (by decide) (tk_ge_f (by omega)) ?_
    refine g_iload dd_192_37 rfl ?_
    refine g_iload_n (i := 3) dd_192_39 rfl ?_
    refine g_iand dd_192_40 ?_
    have hlt1 : k &&& kn < 256 := ak_and_lt hk2
    by_cases h1 : k &&& kn = 0
    · refine g_if_ne_f (t := 68) dd_192_41 (by decide) (tk_ne_f (by rw [h1])) ?_
      refine g_iload dd_192_44 rfl ?_
      refine g_bipush dd_192_46 bi_m4 ?_
      by_cases h2 : b = 4294967292
      · refine g_icmp_eq_t (t := 64) dd_192_48 (by decide) (tk_eq_t (by rw [h2])) ?_
        exact yes ⟨h1, Or.inl h2⟩
      · have hb2 : b < 256 := hb.resolve_left h2
        refine g_icmp_eq_f (t := 64) dd_192_48 (by decide) (tk_eq_f (by omega)) ?_
        refine g_iload dd_192_51 rfl ?_
        refine g_static (M' := mi_193) (n := 1) (as := [.retAddr k]) (st := []) w_1341 w_1342 ⟨lk_193.1, lk_193.2.1, lk_193.2.2, by decide, by decide⟩ rfl (by simp) dd_192_53 (ak_bits hk2) ?_
        refine g_iload dd_192_56 rfl ?_
        refine g_static (M' := mi_193) (n := 1) (as := [.retAddr b]) (st := [.retAddr (am_pct k)]) w_1341 w_1342 ⟨lk_193.1, lk_193.2.1, lk_193.2.2, by decide, by decide⟩ rfl (by simp [Value.category]) dd_192_58 (ak_bits hb2) ?_
        have p1 := pct_lt k
        have p2 := pct_lt b
        by_cases h3 : am_pct k < am_pct b
        · refine g_icmp_ge_f (t := 68) dd_192_61 (by decide) (tk_ge_f (by omega)) ?_
          exact yes ⟨h1, Or.inr h3⟩
        · refine g_icmp_ge_t (t := 68) dd_192_61 (by decide) (tk_ge_t (by omega)) ?_
          exact no (fun q => q.2.elim h2 h3)
    · refine g_if_ne_t (t := 68) dd_192_41 (by decide) (tk_ne_t (by omega)) ?_
      exact no (fun q => h1 q.1)

def ak_P (cv : Nat → Nat) (kn se x : Nat) : Prop := x &&& kn = 0 ∧ cv (kn ||| x) &&& se = se
def ak_M (cv : Nat → Nat) (kn se r : Nat) : Prop := ak_P cv kn se r ∧ r < 256 ∧ ∀ x, x < 256 → ak_P cv kn se x → am_pct r ≤ am_pct x ∧ (am_pct x = am_pct r → r ≤ x)
theorem fa_min {cv : Nat → Nat} {kn se : Nat} : ∀ (n b : Nat), n ≤ 256 → ak_P cv kn se b → b < 256 → (∀ x, n ≤ x → x < 256 → ak_P cv kn se x → am_pct b ≤ am_pct x ∧ (am_pct x = am_pct b → b ≤ x)) → ak_M cv kn se (faF cv kn se n b)
  | 0, b, _, hP, hb, h => ⟨hP, hb, fun x hx hPx => h x (Nat.zero_le x) hx hPx⟩
  | n + 1, b, hn, hP, hb, h => by
    show ak_M cv kn se (faF cv kn se n (faS cv kn se b n))
    unfold faS
    by_cases hc : n &&& kn = 0 ∧ cv (kn ||| n) &&& se = se ∧ am_pct n ≤ am_pct b
    · rw [if_pos hc]
      refine fa_min n n (by omega) ⟨hc.1, hc.2.1⟩ (by omega) fun x h1 h2 hx => ?_
      by_cases hxn : x = n
      · subst hxn
        exact ⟨Nat.le_refl _, fun _ => Nat.le_refl _⟩
      · obtain ⟨q1, q2⟩ := h x (by omega) h2 hx
        have := hc.2.2
        exact ⟨by omega, fun _ => h1⟩
    · rw [if_neg hc]
      refine fa_min n b (by omega) hP hb fun x h1 h2 hx => ?_
      by_cases hxn : x = n
      · subst hxn
        have hlt : ¬ am_pct x ≤ am_pct b := fun q => hc ⟨hx.1, hx.2, q⟩
        exact ⟨by omega, fun q => absurd (Nat.le_of_eq q) hlt⟩
      · exact h x (by omega) h2 hx
theorem ma_min {cv : Nat → Nat} (hcl : ∀ s, s < 256 → cv s < 256) {kn se : Nat} (hk : kn < 256) (hs : se < 256) : ∀ (m k b : Nat), k + m = 256 → ((b = 4294967292 ∧ ∀ x, x < k → ¬ ak_P cv kn se x) ∨ (b < k ∧ ak_P cv kn se b ∧ ∀ x, x < k → ak_P cv kn se x → am_pct b ≤ am_pct x ∧ (am_pct x = am_pct b → b ≤ x))) → (∃ x, x < 256 ∧ ak_P cv kn se x) → ak_M cv kn se (maF cv kn se m k b)
  | 0, k, b, hkm, h, ⟨y, hy1, hy2⟩ => by
    have hk2 : k = 256 := by omega
    subst hk2
    rcases h with ⟨-, h⟩ | ⟨h1, h2, h3⟩
    · exact absurd hy2 (h y hy1)
    · exact ⟨h2, h1, h3⟩
  | m + 1, k, b, hkm, h, hex => by
    show ak_M cv kn se (maF cv kn se m (k + 1) (maS cv kn se b k))
    have hk2 : k < 256 := by omega
    have hP : ak_P cv kn se k ↔ (k &&& kn = 0 ∧ se &&& (cv (kn ||| k) ^^^ 4294967295) = 0) := by
      unfold ak_P
      rw [ak_not (hcl _ (or_lt hk hk2)) hs]
    unfold maS
    by_cases hc : k &&& kn = 0 ∧ (b = 4294967292 ∨ am_pct k < am_pct b) ∧ se &&& (cv (kn ||| k) ^^^ 4294967295) = 0
    · rw [if_pos hc]
      have hPk := hP.mpr ⟨hc.1, hc.2.2⟩
      refine ma_min hcl hk hs m (k + 1) k (by omega) (Or.inr ⟨Nat.lt_succ_self k, hPk, fun x h1 hx => ?_⟩) hex
      by_cases hxk : x = k
      · subst hxk
        exact ⟨Nat.le_refl _, fun _ => Nat.le_refl _⟩
      · rcases h with ⟨-, h⟩ | ⟨g1, g2, g3⟩
        · exact absurd hx (h x (by omega))
        · obtain ⟨q1, q2⟩ := g3 x (by omega) hx
          rcases hc.2.1 with q | q
          · omega
          · exact ⟨by omega, fun q' => by omega⟩
    · rw [if_neg hc]
      refine ma_min hcl hk hs m (k + 1) b (by omega) ?_ hex
      rcases h with ⟨g0, g⟩ | ⟨g1, g2, g3⟩
      · refine Or.inl ⟨g0, fun x h1 hx => ?_⟩
        by_cases hxk : x = k
        · subst hxk
          obtain ⟨q1, q2⟩ := hP.mp hx
          exact hc ⟨q1, Or.inl g0, q2⟩
        · exact g x (by omega) hx
      · refine Or.inr ⟨by omega, g2, fun x h1 hx => ?_⟩
        by_cases hxk : x = k
        · subst hxk
          obtain ⟨q1, q2⟩ := hP.mp hx
          have hlt : ¬ am_pct x < am_pct b := fun q => hc ⟨q1, Or.inr q, q2⟩
          exact ⟨by omega, fun _ => by omega⟩
        · exact g3 x (by omega) hx
theorem ak_one {cv : Nat → Nat} {kn se r1 r2 : Nat} (h1 : ak_M cv kn se r1) (h2 : ak_M cv kn se r2) : r1 = r2 := by
  obtain ⟨p1, l1, m1⟩ := h1
  obtain ⟨p2, l2, m2⟩ := h2
  obtain ⟨a1, a2⟩ := m1 r2 l2 p2
  obtain ⟨b1, b2⟩ := m2 r1 l1 p1
  have e : am_pct r1 = am_pct r2 := by omega
  have := a2 e.symm
  have := b2 e
  omega

theorem ak_fa {h : am_H} {cv : Nat → Nat} (q30 : am_get h 30 = some (.inr (2, [.ref 31]))) (hcv : ∀ s, s < 256 → am_EG mi_57 [.ref 30, .retAddr s] h (some (.retAddr (cv s)), h)) (hcl : ∀ s, s < 256 → cv s < 256) {kn se : Nat} (hk : kn < 256) (hs : se < 256) : am_EG mi_102 [.ref 30, .retAddr kn, .retAddr se] h (some (.retAddr (faF cv kn se 256 (se &&& (kn ^^^ 4294967295)))), h) := by
  refine am_enter (n := 3) tk_102.2.1 (by simp [Value.category]) (Nat.le_of_ble_eq_true rfl) ?_
  show am_Good mi_102 0 [some (.ref 30), some (.retAddr kn), some (.retAddr se), none, none, none] [] h _
  refine g_iload_n (i := 2) dd_102_0 rfl ?_
  refine g_iload_n (i := 1) dd_102_1 rfl ?_
  refine g_iconst dd_102_2 ic_m1 ?_
  refine e_ixor (v := kn ^^^ 4294967295) dd_102_3 rfl ?_
  refine e_iand (v := se &&& (kn ^^^ 4294967295)) dd_102_4 rfl ?_
  refine g_istore_n (i := 3) dd_102_5 (am_nlb_ok rfl) (by decide) ?_
  refine g_sipush dd_102_6 si_255 ?_
  refine g_istore dd_102_9 (am_nlb_ok rfl) (by decide) ?_
  exact fa_loop q30 hcv hcl hk hs 256 (se &&& (kn ^^^ 4294967295)) (by omega) (ak_and_lt hs)
theorem akx_y {h : am_H} {cv : Nat → Nat} {vs : List Value} (q0 : am_get h 0 = some (.inr (11, vs))) (f5 : vs[5]? = some (.ref 30)) (q30 : am_get h 30 = some (.inr (2, [.ref 31]))) (hcv : ∀ s, s < 256 → am_EG mi_57 [.ref 30, .retAddr s] h (some (.retAddr (cv s)), h)) (hcl : ∀ s, s < 256 → cv s < 256) {a1 a2 : Nat} (h1 : a1 < 256) (h2 : a2 < 256) (g1 : a1 < 4294967296) (g2 : a2 < 4294967296) : am_EG mi_101 [.ref 0, .retAddr a1, .retAddr a2] h (some (.retAddr (faF cv (cv a1) a2 256 (a2 &&& (cv a1 ^^^ 4294967295)))), h) := by
  refine am_enter (n := 0) tk_101.2.1 (by simp [Value.category]) (Nat.le_of_ble_eq_true rfl) ?_
  show am_Good mi_101 0 [some (.ref 0), some (.retAddr a1), some (.retAddr a2)] [] h _
  refine g_iload_n (i := 1) dd_101_0 rfl ?_
  refine g_static (M' := mi_56) (n := 1) (as := [.retAddr a1]) (st := []) (r1 := (some (.retAddr 1), h)) w_605 w_606 ⟨lk_56.1, lk_56.2.1, lk_56.2.2, by decide, by decide⟩ rfl (by simp [Value.category]) dd_101_1 (kn_is1 h1) ?_
  show am_Good mi_101 4 [some (.ref 0), some (.retAddr a1), some (.retAddr a2)] [.retAddr 1] h _
  refine g_if_eq_f (t := 14) dd_101_4 (by decide) (by decide) ?_
  refine g_iload_n (i := 2) dd_101_7 rfl ?_
  refine g_static (M' := mi_56) (n := 1) (as := [.retAddr a2]) (st := []) (r1 := (some (.retAddr 1), h)) w_605 w_606 ⟨lk_56.1, lk_56.2.1, lk_56.2.2, by decide, by decide⟩ rfl (by simp [Value.category]) dd_101_8 (kn_is1 h2) ?_
  show am_Good mi_101 11 [some (.ref 0), some (.retAddr a1), some (.retAddr a2)] [.retAddr 1] h _
  refine g_if_ne_t (t := 16) dd_101_11 (by decide) (by decide) ?_
  refine g_aload_n (i := 0) dd_101_16 rfl ?_
  refine g_getfield (k := 5) am_ck11 (by decide) (Or.inl w_516) dd_101_17 q0 f5 ?_
  refine g_aload_n (i := 0) dd_101_20 rfl ?_
  refine g_getfield (k := 5) am_ck11 (by decide) (Or.inl w_516) dd_101_21 q0 f5 ?_
  refine g_iload_n (i := 1) dd_101_24 rfl ?_
  refine g_virtual (M' := mi_57) (n := 1) (ci := 2) (b := 30) (as := [.retAddr a1]) (st := [.ref 30]) (r1 := (some (.retAddr (cv a1)), h)) w_608 w_609 w_610 ⟨lk_57.1, lk_57.2.1, lk_57.2.2, by decide, by decide⟩ rfl q30 rfl (by simp [Value.category]) dd_101_25 (hcv _ h1) ?_
  show am_Good mi_101 28 [some (.ref 0), some (.retAddr a1), some (.retAddr a2)] [.retAddr (cv a1), .ref 30] h _
  refine g_iload_n (i := 2) dd_101_28 rfl ?_
  refine g_virtual (M' := mi_102) (n := 2) (ci := 2) (b := 30) (as := [.retAddr (cv a1), .retAddr a2]) (st := []) (r1 := (some (.retAddr (faF cv (cv a1) a2 256 (a2 &&& (cv a1 ^^^ 4294967295)))), h)) w_797 w_798 w_799 ⟨lk_102.1, lk_102.2.1, lk_102.2.2, by decide, by decide⟩ rfl q30 rfl (by simp [Value.category]) dd_101_29 (ak_fa q30 hcv hcl (hcl _ h1) h2) ?_
  show am_Good mi_101 32 [some (.ref 0), some (.retAddr a1), some (.retAddr a2)] [.retAddr (faF cv (cv a1) a2 256 (a2 &&& (cv a1 ^^^ 4294967295)))] h _
  exact g_ireturn rfl dd_101_32
theorem akm_y {h : am_H} {cv : Nat → Nat} {vs : List Value} (q66 : am_get h 66 = some (.inr (12, vs))) (hcv : ∀ s, s < 256 → am_EG mi_162 [.ref 66, .retAddr s] h (some (.retAddr (cv s)), h)) (hcl : ∀ s, s < 256 → cv s < 256) {a1 a2 : Nat} (h1 : a1 < 256) (h2 : a2 < 256) (g1 : a1 < 4294967296) (g2 : a2 < 4294967296) : am_EG mi_192 [.ref 66, .retAddr a1, .retAddr a2] h (some (.retAddr (maF cv (cv a1) a2 256 0 4294967292)), h) := by
  refine am_enter (n := 4) tk_192.2.1 (by simp [Value.category]) (Nat.le_of_ble_eq_true rfl) ?_
  show am_Good mi_192 0 [some (.ref 66), some (.retAddr a1), some (.retAddr a2), none, none, none, none] [] h _
  refine g_iload_n (i := 1) dd_192_0 rfl ?_
  refine g_static (M' := mi_161) (n := 1) (as := [.retAddr a1]) (st := []) (r1 := (some (.retAddr 1), h)) w_1215 w_1216 ⟨lk_161.1, lk_161.2.1, lk_161.2.2, by decide, by decide⟩ rfl (by simp [Value.category]) dd_192_1 (kn_ms1 h1) ?_
  show am_Good mi_192 4 [some (.ref 66), some (.retAddr a1), some (.retAddr a2), none, none, none, none] [.retAddr 1] h _
  refine g_if_eq_f (t := 14) dd_192_4 (by decide) (by decide) ?_
  refine g_iload_n (i := 2) dd_192_7 rfl ?_
  refine g_static (M' := mi_161) (n := 1) (as := [.retAddr a2]) (st := []) (r1 := (some (.retAddr 1), h)) w_1215 w_1216 ⟨lk_161.1, lk_161.2.1, lk_161.2.2, by decide, by decide⟩ rfl (by simp [Value.category]) dd_192_8 (kn_ms1 h2) ?_
  show am_Good mi_192 11 [some (.ref 66), some (.retAddr a1), some (.retAddr a2), none, none, none, none] [.retAddr 1] h _
  refine g_if_ne_t (t := 16) dd_192_11 (by decide) (by decide) ?_
  refine g_aload_n (i := 0) dd_192_16 rfl ?_
  refine g_iload_n (i := 1) dd_192_17 rfl ?_
  refine g_virtual (M' := mi_162) (n := 1) (ci := 12) (b := 66) (as := [.retAddr a1]) (st := []) (r1 := (some (.retAddr (cv a1)), h)) w_1218 w_1220 ps_162 ⟨lk_162.1, lk_162.2.1, lk_162.2.2, by decide, by decide⟩ rfl q66 rfl (by simp [Value.category]) dd_192_18 (hcv _ h1) ?_
  show am_Good mi_192 21 [some (.ref 66), some (.retAddr a1), some (.retAddr a2), none, none, none, none] [.retAddr (cv a1)] h _
  refine g_istore_n (i := 3) dd_192_21 (am_nlb_ok rfl) (by decide) ?_
  refine g_bipush dd_192_22 bi_m4 ?_
  refine g_istore dd_192_24 (am_nlb_ok rfl) (by decide) ?_
  refine g_iconst dd_192_26 ic_0 ?_
  refine g_istore dd_192_27 (am_nlb_ok rfl) (by decide) ?_
  exact ma_loop q66 hcv hcl (hcl _ h1) h2 256 0 4294967292 rfl (Or.inl rfl)
theorem akx_n1 {h : am_H} {cv : Nat → Nat} {vs : List Value} (q0 : am_get h 0 = some (.inr (11, vs))) (f5 : vs[5]? = some (.ref 30)) (q30 : am_get h 30 = some (.inr (2, [.ref 31]))) (hcv : ∀ s, s < 256 → am_EG mi_57 [.ref 30, .retAddr s] h (some (.retAddr (cv s)), h)) (hcl : ∀ s, s < 256 → cv s < 256) {a1 a2 : Nat} (h1 : a1 < 256) (h2 : ¬ a2 < 256) (g1 : a1 < 4294967296) (g2 : a2 < 4294967296) : am_EG mi_101 [.ref 0, .retAddr a1, .retAddr a2] h (some (.retAddr 4294967295), h) := by
  refine am_enter (n := 0) tk_101.2.1 (by simp [Value.category]) (Nat.le_of_ble_eq_true rfl) ?_
  show am_Good mi_101 0 [some (.ref 0), some (.retAddr a1), some (.retAddr a2)] [] h _
  refine g_iload_n (i := 1) dd_101_0 rfl ?_
  refine g_static (M' := mi_56) (n := 1) (as := [.retAddr a1]) (st := []) (r1 := (some (.retAddr 1), h)) w_605 w_606 ⟨lk_56.1, lk_56.2.1, lk_56.2.2, by decide, by decide⟩ rfl (by simp [Value.category]) dd_101_1 (kn_is1 h1) ?_
  show am_Good mi_101 4 [some (.ref 0), some (.retAddr a1), some (.retAddr a2)] [.retAddr 1] h _
  refine g_if_eq_f (t := 14) dd_101_4 (by decide) (by decide) ?_
  refine g_iload_n (i := 2) dd_101_7 rfl ?_
  refine g_static (M' := mi_56) (n := 1) (as := [.retAddr a2]) (st := []) (r1 := (some (.retAddr 0), h)) w_605 w_606 ⟨lk_56.1, lk_56.2.1, lk_56.2.2, by decide, by decide⟩ rfl (by simp [Value.category]) dd_101_8 (kn_is0 h2 g2) ?_
  show am_Good mi_101 11 [some (.ref 0), some (.retAddr a1), some (.retAddr a2)] [.retAddr 0] h _
  refine g_if_ne_f (t := 16) dd_101_11 (by decide) (by decide) ?_
  refine g_iconst dd_101_14 ic_m1 ?_
  exact g_ireturn rfl dd_101_15
theorem akm_n1 {h : am_H} {cv : Nat → Nat} {vs : List Value} (q66 : am_get h 66 = some (.inr (12, vs))) (hcv : ∀ s, s < 256 → am_EG mi_162 [.ref 66, .retAddr s] h (some (.retAddr (cv s)), h)) (hcl : ∀ s, s < 256 → cv s < 256) {a1 a2 : Nat} (h1 : a1 < 256) (h2 : ¬ a2 < 256) (g1 : a1 < 4294967296) (g2 : a2 < 4294967296) : am_EG mi_192 [.ref 66, .retAddr a1, .retAddr a2] h (some (.retAddr 4294967295), h) := by
  refine am_enter (n := 4) tk_192.2.1 (by simp [Value.category]) (Nat.le_of_ble_eq_true rfl) ?_
  show am_Good mi_192 0 [some (.ref 66), some (.retAddr a1), some (.retAddr a2), none, none, none, none] [] h _
  refine g_iload_n (i := 1) dd_192_0 rfl ?_
  refine g_static (M' := mi_161) (n := 1) (as := [.retAddr a1]) (st := []) (r1 := (some (.retAddr 1), h)) w_1215 w_1216 ⟨lk_161.1, lk_161.2.1, lk_161.2.2, by decide, by decide⟩ rfl (by simp [Value.category]) dd_192_1 (kn_ms1 h1) ?_
  show am_Good mi_192 4 [some (.ref 66), some (.retAddr a1), some (.retAddr a2), none, none, none, none] [.retAddr 1] h _
  refine g_if_eq_f (t := 14) dd_192_4 (by decide) (by decide) ?_
  refine g_iload_n (i := 2) dd_192_7 rfl ?_
  refine g_static (M' := mi_161) (n := 1) (as := [.retAddr a2]) (st := []) (r1 := (some (.retAddr 0), h)) w_1215 w_1216 ⟨lk_161.1, lk_161.2.1, lk_161.2.2, by decide, by decide⟩ rfl (by simp [Value.category]) dd_192_8 (kn_ms0 h2 g2) ?_
  show am_Good mi_192 11 [some (.ref 66), some (.retAddr a1), some (.retAddr a2), none, none, none, none] [.retAddr 0] h _
  refine g_if_ne_f (t := 16) dd_192_11 (by decide) (by decide) ?_
  refine g_iconst dd_192_14 ic_m1 ?_
  exact g_ireturn rfl dd_192_15
theorem akx_n0 {h : am_H} {cv : Nat → Nat} {vs : List Value} (q0 : am_get h 0 = some (.inr (11, vs))) (f5 : vs[5]? = some (.ref 30)) (q30 : am_get h 30 = some (.inr (2, [.ref 31]))) (hcv : ∀ s, s < 256 → am_EG mi_57 [.ref 30, .retAddr s] h (some (.retAddr (cv s)), h)) (hcl : ∀ s, s < 256 → cv s < 256) {a1 a2 : Nat} (h1 : ¬ a1 < 256) (g1 : a1 < 4294967296) (g2 : a2 < 4294967296) : am_EG mi_101 [.ref 0, .retAddr a1, .retAddr a2] h (some (.retAddr 4294967295), h) := by
  refine am_enter (n := 0) tk_101.2.1 (by simp [Value.category]) (Nat.le_of_ble_eq_true rfl) ?_
  show am_Good mi_101 0 [some (.ref 0), some (.retAddr a1), some (.retAddr a2)] [] h _
  refine g_iload_n (i := 1) dd_101_0 rfl ?_
  refine g_static (M' := mi_56) (n := 1) (as := [.retAddr a1]) (st := []) (r1 := (some (.retAddr 0), h)) w_605 w_606 ⟨lk_56.1, lk_56.2.1, lk_56.2.2, by decide, by decide⟩ rfl (by simp [Value.category]) dd_101_1 (kn_is0 h1 g1) ?_
  show am_Good mi_101 4 [some (.ref 0), some (.retAddr a1), some (.retAddr a2)] [.retAddr 0] h _
  refine g_if_eq_t (t := 14) dd_101_4 (by decide) (by decide) ?_
  refine g_iconst dd_101_14 ic_m1 ?_
  exact g_ireturn rfl dd_101_15
theorem akm_n0 {h : am_H} {cv : Nat → Nat} {vs : List Value} (q66 : am_get h 66 = some (.inr (12, vs))) (hcv : ∀ s, s < 256 → am_EG mi_162 [.ref 66, .retAddr s] h (some (.retAddr (cv s)), h)) (hcl : ∀ s, s < 256 → cv s < 256) {a1 a2 : Nat} (h1 : ¬ a1 < 256) (g1 : a1 < 4294967296) (g2 : a2 < 4294967296) : am_EG mi_192 [.ref 66, .retAddr a1, .retAddr a2] h (some (.retAddr 4294967295), h) := by
  refine am_enter (n := 4) tk_192.2.1 (by simp [Value.category]) (Nat.le_of_ble_eq_true rfl) ?_
  show am_Good mi_192 0 [some (.ref 66), some (.retAddr a1), some (.retAddr a2), none, none, none, none] [] h _
  refine g_iload_n (i := 1) dd_192_0 rfl ?_
  refine g_static (M' := mi_161) (n := 1) (as := [.retAddr a1]) (st := []) (r1 := (some (.retAddr 0), h)) w_1215 w_1216 ⟨lk_161.1, lk_161.2.1, lk_161.2.2, by decide, by decide⟩ rfl (by simp [Value.category]) dd_192_1 (kn_ms0 h1 g1) ?_
  show am_Good mi_192 4 [some (.ref 66), some (.retAddr a1), some (.retAddr a2), none, none, none, none] [.retAddr 0] h _
  refine g_if_eq_t (t := 14) dd_192_4 (by decide) (by decide) ?_
  refine g_iconst dd_192_14 ic_m1 ?_
  exact g_ireturn rfl dd_192_15
theorem jb_ask (x y : Nat) (hx : x < 4294967296) (hy : y < 4294967296) : am_B2 Jv true 101 192 [.retAddr x, .retAddr y] := by
  intro h hJ
  obtain ⟨n, rr, cc, vs, ws, q0, f5, q30, a31, q66, f10, f11, a71, hn, h7, hcc⟩ := je_cl hJ
  have hcl : ∀ s, s < 256 → cl_k rr n 6 s < 256 := fun s hs => cl_k_lt hs (fun j hj => h7 _ (by omega)) 6
  have cx : ∀ s, s < 256 → am_EG mi_57 [.ref 30, .retAddr s] h (some (.retAddr (cl_k rr n 6 s)), h) := fun s hs => by
    have e := kn_fol q0 f5 q30 a31 hs
    rw [hcc s hs] at e
    exact e
  have cm : ∀ s, s < 256 → am_EG mi_162 [.ref 66, .retAddr s] h (some (.retAddr (cl_k rr n 6 s)), h) := fun s hs => cr_m q66 f10 f11 a71 hn h7 hs
  by_cases h1 : x < 256
  case neg => exact je_fin hJ (akx_n0 (cv := cl_k rr n 6) q0 f5 q30 cx hcl h1 hx hy) (akm_n0 (cv := cl_k rr n 6) q66 cm hcl h1 hx hy)
  by_cases h2 : y < 256
  case neg => exact je_fin hJ (akx_n1 (cv := cl_k rr n 6) q0 f5 q30 cx hcl h1 h2 hx hy) (akm_n1 (cv := cl_k rr n 6) q66 cm hcl h1 h2 hx hy)
  have hk := hcl x h1
  have hz : (y &&& (cl_k rr n 6 x ^^^ 4294967295)) < 256 := ak_and_lt h2
  have hP : ak_P (cl_k rr n 6) (cl_k rr n 6 x) y (y &&& (cl_k rr n 6 x ^^^ 4294967295)) := by
    have q := jv_all_ok (jv_all_ok ak_ex _ hk) y h2
    rw [Bool.and_eq_true] at q
    have e1 := Nat.eq_of_beq_eq_true q.1
    have e2 := Nat.eq_of_beq_eq_true q.2
    refine ⟨e1, ?_⟩
    apply Nat.eq_of_testBit_eq
    intro j
    have t : ((cl_k rr n 6 x ||| (y &&& (cl_k rr n 6 x ^^^ 4294967295))) &&& y).testBit j = y.testBit j := by rw [e2]
    rw [Nat.testBit_and] at t ⊢
    by_cases hb : y.testBit j = true
    · rw [hb, Bool.and_true] at t ⊢
      exact cl_k_mono t
    · have hb' : y.testBit j = false := by simpa using hb
      rw [hb', Bool.and_false]
  have m1 := fa_min (cv := cl_k rr n 6) (kn := cl_k rr n 6 x) (se := y) 256 _ (Nat.le_refl _) hP hz (fun x q1 q2 => absurd q2 (by omega))
  have m2 := ma_min (cv := cl_k rr n 6) hcl (kn := cl_k rr n 6 x) (se := y) hk h2 256 0 4294967292 rfl (Or.inl ⟨rfl, fun x q => absurd q (Nat.not_lt_zero x)⟩) ⟨_, hz, hP⟩
  have e := ak_one m1 m2
  have g1 := akx_y (cv := cl_k rr n 6) q0 f5 q30 cx hcl h1 h2 hx hy
  rw [e] at g1
  exact je_fin hJ g1 (akm_y (cv := cl_k rr n 6) q66 cm hcl h1 h2 hx hy)
