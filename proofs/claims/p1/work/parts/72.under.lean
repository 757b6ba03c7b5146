theorem HM.cast {j v w : Nat} {as : List Value} (h : HM j as v) (e : v = w) : HM j as w := e ▸ h
theorem um_0 {a w f1 f2 f3 : Nat} (ha : a < 256) (hw : w < 2) (hf2 : f2 < 4294967296) (hF : am_EG mi_190 [.ref 66, .retAddr a] (hf_ fc_0 0 0 0) (none, (hf_ fc_0 f1 f2 f3))) : HM 186 [.retAddr 0, .retAddr a, .retAddr w] (if f2 = 4294967292 then 4294967292 else if w = 0 then f1 else f2) := by
  refine ⟨(hf_ fc_0 f1 f2 f3), ?_, rfl, rfl⟩
  refine am_enter (n := 0) tk_186.2.1 (by simp [Value.category]) (Nat.le_of_ble_eq_true rfl) ?_
  show am_Good mi_186 0 [some (.ref 66), some (.retAddr 0), some (.retAddr a), some (.retAddr w)] [] hp_m _
  refine g_aload_n (i := 0) dd_186_0 rfl ?_
  refine g_iload_n (i := 1) dd_186_1 rfl ?_
  refine g_virtual (M' := mi_153) (n := 1) (ci := 12) (b := 66) (as := [.retAddr 0]) (st := []) (r1 := (some (.retAddr 1), hp_m)) w_1184 w_1186 ps_153 ⟨lk_153.1, lk_153.2.1, lk_153.2.2, by decide, by decide⟩ rfl rfl rfl (by simp [Value.category]) dd_186_2 (em_isStation_1 0 (by decide) (by decide)) ?_
  show am_Good mi_186 5 [some (.ref 66), some (.retAddr 0), some (.retAddr a), some (.retAddr w)] [.retAddr 1] hp_m _
  refine g_if_eq_f (t := 24) dd_186_5 (by decide) (by decide) ?_
  refine g_iload_n (i := 2) dd_186_8 rfl ?_
  refine g_static (M' := mi_161) (n := 1) (as := [.retAddr a]) (st := []) (r1 := (some (.retAddr 1), hp_m)) w_1215 w_1216 ⟨lk_161.1, lk_161.2.1, lk_161.2.2, by decide, by decide⟩ rfl (by simp [Value.category]) dd_186_9 (em_isSet_1 a (by omega) (by omega)) ?_
  show am_Good mi_186 12 [some (.ref 66), some (.retAddr 0), some (.retAddr a), some (.retAddr w)] [.retAddr 1] hp_m _
  refine g_if_eq_f (t := 24) dd_186_12 (by decide) (by decide) ?_
  refine g_iload_n (i := 3) dd_186_15 rfl ?_
  refine g_iconst dd_186_16 ic_0 ?_
  refine g_iconst dd_186_17 ic_1 ?_
  refine g_static (M' := mi_133) (n := 3) (as := [.retAddr w, .retAddr 0, .retAddr 1]) (st := []) (r1 := (some (.retAddr 1), hp_m)) w_1106 w_1107 ⟨lk_133.1, lk_133.2.1, lk_133.2.2, by decide, by decide⟩ rfl (by simp [Value.category]) dd_186_18 (em_in_1 w 0 1 (by decide) (by omega) (by omega)) ?_
  show am_Good mi_186 21 [some (.ref 66), some (.retAddr 0), some (.retAddr a), some (.retAddr w)] [.retAddr 1] hp_m _
  refine g_if_ne_t (t := 26) dd_186_21 (by decide) (by decide) ?_
  refine g_aload_n (i := 0) dd_186_26 rfl ?_
  refine g_iconst dd_186_27 ic_0 ?_
  refine g_bipush dd_186_28 bi_m4 ?_
  refine g_virtual (M' := mi_155) (n := 2) (ci := 12) (b := 66) (as := [.retAddr 0, .retAddr 4294967292]) (st := []) (r1 := (none, (hf_ 0 0 0 0))) w_1192 w_1194 ps_155 ⟨lk_155.1, lk_155.2.1, lk_155.2.2, by decide, by decide⟩ rfl rfl rfl (by simp [Value.category]) dd_186_30 (eg_lay0) ?_
  show am_Good mi_186 33 [some (.ref 66), some (.retAddr 0), some (.retAddr a), some (.retAddr w)] [] (hf_ 0 0 0 0) _
  refine g_aload_n (i := 0) dd_186_33 rfl ?_
  refine g_iload_n (i := 1) dd_186_34 rfl ?_
  refine g_virtual (M' := mi_187) (n := 1) (ci := 12) (b := 66) (as := [.retAddr 0]) (st := []) (r1 := (none, (hf_ fc_0 0 0 0))) w_1318 w_1320 ps_187 ⟨lk_187.1, lk_187.2.1, lk_187.2.2, by decide, by decide⟩ rfl rfl rfl (by simp [Value.category]) dd_186_35 (eg_lf0) ?_
  show am_Good mi_186 38 [some (.ref 66), some (.retAddr 0), some (.retAddr a), some (.retAddr w)] [] (hf_ fc_0 0 0 0) _
  refine g_aload_n (i := 0) dd_186_38 rfl ?_
  refine g_iload_n (i := 2) dd_186_39 rfl ?_
  refine g_virtual (M' := mi_190) (n := 1) (ci := 12) (b := 66) (as := [.retAddr a]) (st := []) (r1 := (none, (hf_ fc_0 f1 f2 f3))) w_1329 w_1331 ps_190 ⟨lk_190.1, lk_190.2.1, lk_190.2.2, by decide, by decide⟩ rfl rfl rfl (by simp [Value.category]) dd_186_40 (hF) ?_
  show am_Good mi_186 43 [some (.ref 66), some (.retAddr 0), some (.retAddr a), some (.retAddr w)] [] (hf_ fc_0 f1 f2 f3) _
  refine g_aload_n (i := 0) dd_186_43 rfl ?_
  refine g_getfield (k := 49) am_ck12 (by decide) (Or.inl w_984) dd_186_44 rfl rfl ?_
  refine g_bipush dd_186_47 bi_m4 ?_
  by_cases hn : f2 = 4294967292
  · refine g_icmp_ne_f (t := 57) dd_186_49 (by decide) (tk_ne_f (by omega)) ?_
    refine g_bipush dd_186_52 bi_m4 ?_
    refine g_goto (t := 72) dd_186_54 (by decide) ?_
    rw [if_pos hn]
    exact g_ireturn rfl dd_186_72
  · refine g_icmp_ne_t (t := 57) dd_186_49 (by decide) (tk_ne_t (by omega)) ?_
    refine g_iload_n (i := 3) dd_186_57 rfl ?_
    by_cases hw0 : w = 0
    · refine g_if_ne_f (t := 68) dd_186_58 (by decide) (tk_ne_f (by omega)) ?_
      refine g_aload_n (i := 0) dd_186_61 rfl ?_
      refine g_getfield (k := 48) am_ck12 (by decide) (Or.inl w_983) dd_186_62 rfl rfl ?_
      refine g_goto (t := 72) dd_186_65 (by decide) ?_
      rw [if_neg hn, if_pos hw0]
      exact g_ireturn rfl dd_186_72
    · refine g_if_ne_t (t := 68) dd_186_58 (by decide) (tk_ne_t (by omega)) ?_
      refine g_aload_n (i := 0) dd_186_68 rfl ?_
      refine g_getfield (k := 49) am_ck12 (by decide) (Or.inl w_984) dd_186_69 rfl rfl ?_
      rw [if_neg hn, if_neg hw0]
      exact g_ireturn rfl dd_186_72
theorem sm_0 {a f1 f2 f3 : Nat} (ha : a < 256) (hF : am_EG mi_190 [.ref 66, .retAddr a] (hf_ fc_0 0 0 0) (none, (hf_ fc_0 f1 f2 f3))) : HM 191 [.retAddr 0, .retAddr a] f3 := by
  refine ⟨(hf_ fc_0 f1 f2 f3), ?_, rfl, rfl⟩
  refine am_enter (n := 0) tk_191.2.1 (by simp [Value.category]) (Nat.le_of_ble_eq_true rfl) ?_
  show am_Good mi_191 0 [some (.ref 66), some (.retAddr 0), some (.retAddr a)] [] hp_m _
  refine g_aload_n (i := 0) dd_191_0 rfl ?_
  refine g_iload_n (i := 1) dd_191_1 rfl ?_
  refine g_virtual (M' := mi_153) (n := 1) (ci := 12) (b := 66) (as := [.retAddr 0]) (st := []) (r1 := (some (.retAddr 1), hp_m)) w_1184 w_1186 ps_153 ⟨lk_153.1, lk_153.2.1, lk_153.2.2, by decide, by decide⟩ rfl rfl rfl (by simp [Value.category]) dd_191_2 (em_isStation_1 0 (by decide) (by decide)) ?_
  show am_Good mi_191 5 [some (.ref 66), some (.retAddr 0), some (.retAddr a)] [.retAddr 1] hp_m _
  refine g_if_eq_f (t := 15) dd_191_5 (by decide) (by decide) ?_
  refine g_iload_n (i := 2) dd_191_8 rfl ?_
  refine g_static (M' := mi_161) (n := 1) (as := [.retAddr a]) (st := []) (r1 := (some (.retAddr 1), hp_m)) w_1215 w_1216 ⟨lk_161.1, lk_161.2.1, lk_161.2.2, by decide, by decide⟩ rfl (by simp [Value.category]) dd_191_9 (em_isSet_1 a (by omega) (by omega)) ?_
  show am_Good mi_191 12 [some (.ref 66), some (.retAddr 0), some (.retAddr a)] [.retAddr 1] hp_m _
  refine g_if_ne_t (t := 17) dd_191_12 (by decide) (by decide) ?_
  refine g_aload_n (i := 0) dd_191_17 rfl ?_
  refine g_iconst dd_191_18 ic_0 ?_
  refine g_bipush dd_191_19 bi_m4 ?_
  refine g_virtual (M' := mi_155) (n := 2) (ci := 12) (b := 66) (as := [.retAddr 0, .retAddr 4294967292]) (st := []) (r1 := (none, (hf_ 0 0 0 0))) w_1192 w_1194 ps_155 ⟨lk_155.1, lk_155.2.1, lk_155.2.2, by decide, by decide⟩ rfl rfl rfl (by simp [Value.category]) dd_191_21 (eg_lay0) ?_
  show am_Good mi_191 24 [some (.ref 66), some (.retAddr 0), some (.retAddr a)] [] (hf_ 0 0 0 0) _
  refine g_aload_n (i := 0) dd_191_24 rfl ?_
  refine g_iload_n (i := 1) dd_191_25 rfl ?_
  refine g_virtual (M' := mi_187) (n := 1) (ci := 12) (b := 66) (as := [.retAddr 0]) (st := []) (r1 := (none, (hf_ fc_0 0 0 0))) w_1318 w_1320 ps_187 ⟨lk_187.1, lk_187.2.1, lk_187.2.2, by decide, by decide⟩ rfl rfl rfl (by simp [Value.category]) dd_191_26 (eg_lf0) ?_
  show am_Good mi_191 29 [some (.ref 66), some (.retAddr 0), some (.retAddr a)] [] (hf_ fc_0 0 0 0) _
  refine g_aload_n (i := 0) dd_191_29 rfl ?_
  refine g_iload_n (i := 2) dd_191_30 rfl ?_
  refine g_virtual (M' := mi_190) (n := 1) (ci := 12) (b := 66) (as := [.retAddr a]) (st := []) (r1 := (none, (hf_ fc_0 f1 f2 f3))) w_1329 w_1331 ps_190 ⟨lk_190.1, lk_190.2.1, lk_190.2.2, by decide, by decide⟩ rfl rfl rfl (by simp [Value.category]) dd_191_31 (hF) ?_
  show am_Good mi_191 34 [some (.ref 66), some (.retAddr 0), some (.retAddr a)] [] (hf_ fc_0 f1 f2 f3) _
  refine g_aload_n (i := 0) dd_191_34 rfl ?_
  refine g_getfield (k := 50) am_ck12 (by decide) (Or.inl w_985) dd_191_35 rfl rfl ?_
  exact g_ireturn rfl dd_191_38
theorem um_1 {a w f1 f2 f3 : Nat} (ha : a < 256) (hw : w < 2) (hf2 : f2 < 4294967296) (hF : am_EG mi_190 [.ref 66, .retAddr a] (hf_ fc_1 0 0 0) (none, (hf_ fc_1 f1 f2 f3))) : HM 186 [.retAddr 1, .retAddr a, .retAddr w] (if f2 = 4294967292 then 4294967292 else if w = 0 then f1 else f2) := by
  refine ⟨(hf_ fc_1 f1 f2 f3), ?_, rfl, rfl⟩
  refine am_enter (n := 0) tk_186.2.1 (by simp [Value.category]) (Nat.le_of_ble_eq_true rfl) ?_
  show am_Good mi_186 0 [some (.ref 66), some (.retAddr 1), some (.retAddr a), some (.retAddr w)] [] hp_m _
  refine g_aload_n (i := 0) dd_186_0 rfl ?_
  refine g_iload_n (i := 1) dd_186_1 rfl ?_
  refine g_virtual (M' := mi_153) (n := 1) (ci := 12) (b := 66) (as := [.retAddr 1]) (st := []) (r1 := (some (.retAddr 1), hp_m)) w_1184 w_1186 ps_153 ⟨lk_153.1, lk_153.2.1, lk_153.2.2, by decide, by decide⟩ rfl rfl rfl (by simp [Value.category]) dd_186_2 (em_isStation_1 1 (by decide) (by decide)) ?_
  show am_Good mi_186 5 [some (.ref 66), some (.retAddr 1), some (.retAddr a), some (.retAddr w)] [.retAddr 1] hp_m _
  refine g_if_eq_f (t := 24) dd_186_5 (by decide) (by decide) ?_
  refine g_iload_n (i := 2) dd_186_8 rfl ?_
  refine g_static (M' := mi_161) (n := 1) (as := [.retAddr a]) (st := []) (r1 := (some (.retAddr 1), hp_m)) w_1215 w_1216 ⟨lk_161.1, lk_161.2.1, lk_161.2.2, by decide, by decide⟩ rfl (by simp [Value.category]) dd_186_9 (em_isSet_1 a (by omega) (by omega)) ?_
  show am_Good mi_186 12 [some (.ref 66), some (.retAddr 1), some (.retAddr a), some (.retAddr w)] [.retAddr 1] hp_m _
  refine g_if_eq_f (t := 24) dd_186_12 (by decide) (by decide) ?_
  refine g_iload_n (i := 3) dd_186_15 rfl ?_
  refine g_iconst dd_186_16 ic_0 ?_
  refine g_iconst dd_186_17 ic_1 ?_
  refine g_static (M' := mi_133) (n := 3) (as := [.retAddr w, .retAddr 0, .retAddr 1]) (st := []) (r1 := (some (.retAddr 1), hp_m)) w_1106 w_1107 ⟨lk_133.1, lk_133.2.1, lk_133.2.2, by decide, by decide⟩ rfl (by simp [Value.category]) dd_186_18 (em_in_1 w 0 1 (by decide) (by omega) (by omega)) ?_
  show am_Good mi_186 21 [some (.ref 66), some (.retAddr 1), some (.retAddr a), some (.retAddr w)] [.retAddr 1] hp_m _
  refine g_if_ne_t (t := 26) dd_186_21 (by decide) (by decide) ?_
  refine g_aload_n (i := 0) dd_186_26 rfl ?_
  refine g_iconst dd_186_27 ic_0 ?_
  refine g_bipush dd_186_28 bi_m4 ?_
  refine g_virtual (M' := mi_155) (n := 2) (ci := 12) (b := 66) (as := [.retAddr 0, .retAddr 4294967292]) (st := []) (r1 := (none, (hf_ 0 0 0 0))) w_1192 w_1194 ps_155 ⟨lk_155.1, lk_155.2.1, lk_155.2.2, by decide, by decide⟩ rfl rfl rfl (by simp [Value.category]) dd_186_30 (eg_lay0) ?_
  show am_Good mi_186 33 [some (.ref 66), some (.retAddr 1), some (.retAddr a), some (.retAddr w)] [] (hf_ 0 0 0 0) _
  refine g_aload_n (i := 0) dd_186_33 rfl ?_
  refine g_iload_n (i := 1) dd_186_34 rfl ?_
  refine g_virtual (M' := mi_187) (n := 1) (ci := 12) (b := 66) (as := [.retAddr 1]) (st := []) (r1 := (none, (hf_ fc_1 0 0 0))) w_1318 w_1320 ps_187 ⟨lk_187.1, lk_187.2.1, lk_187.2.2, by decide, by decide⟩ rfl rfl rfl (by simp [Value.category]) dd_186_35 (eg_lf1) ?_
  show am_Good mi_186 38 [some (.ref 66), some (.retAddr 1), some (.retAddr a), some (.retAddr w)] [] (hf_ fc_1 0 0 0) _
  refine g_aload_n (i := 0) dd_186_38 rfl ?_
  refine g_iload_n (i := 2) dd_186_39 rfl ?_
  refine g_virtual (M' := mi_190) (n := 1) (ci := 12) (b := 66) (as := [.retAddr a]) (st := []) (r1 := (none, (hf_ fc_1 f1 f2 f3))) w_1329 w_1331 ps_190 ⟨lk_190.1, lk_190.2.1, lk_190.2.2, by decide, by decide⟩ rfl rfl rfl (by simp [Value.category]) dd_186_40 (hF) ?_
  show am_Good mi_186 43 [some (.ref 66), some (.retAddr 1), some (.retAddr a), some (.retAddr w)] [] (hf_ fc_1 f1 f2 f3) _
  refine g_aload_n (i := 0) dd_186_43 rfl ?_
  refine g_getfield (k := 49) am_ck12 (by decide) (Or.inl w_984) dd_186_44 rfl rfl ?_
  refine g_bipush dd_186_47 bi_m4 ?_
  by_cases hn : f2 = 4294967292
  · refine g_icmp_ne_f (t := 57) dd_186_49 (by decide) (tk_ne_f (by omega)) ?_
    refine g_bipush dd_186_52 bi_m4 ?_
    refine g_goto (t := 72) dd_186_54 (by decide) ?_
    rw [if_pos hn]
    exact g_ireturn rfl dd_186_72
  · refine g_icmp_ne_t (t := 57) dd_186_49 (by decide) (tk_ne_t (by omega)) ?_
    refine g_iload_n (i := 3) dd_186_57 rfl ?_
    by_cases hw0 : w = 0
    · refine g_if_ne_f (t := 68) dd_186_58 (by decide) (tk_ne_f (by omega)) ?_
      refine g_aload_n (i := 0) dd_186_61 rfl ?_
      refine g_getfield (k := 48) am_ck12 (by decide) (Or.inl w_983) dd_186_62 rfl rfl ?_
      refine g_goto (t := 72) dd_186_65 (by decide) ?_
      rw [if_neg hn, if_pos hw0]
      exact g_ireturn rfl dd_186_72
    · refine g_if_ne_t (t := 68) dd_186_58 (by decide) (tk_ne_t (by omega)) ?_
      refine g_aload_n (i := 0) dd_186_68 rfl ?_
      refine g_getfield (k := 49) am_ck12 (by decide) (Or.inl w_984) dd_186_69 rfl rfl ?_
      rw [if_neg hn, if_neg hw0]
      exact g_ireturn rfl dd_186_72
theorem sm_1 {a f1 f2 f3 : Nat} (ha : a < 256) (hF : am_EG mi_190 [.ref 66, .retAddr a] (hf_ fc_1 0 0 0) (none, (hf_ fc_1 f1 f2 f3))) : HM 191 [.retAddr 1, .retAddr a] f3 := by
  refine ⟨(hf_ fc_1 f1 f2 f3), ?_, rfl, rfl⟩
  refine am_enter (n := 0) tk_191.2.1 (by simp [Value.category]) (Nat.le_of_ble_eq_true rfl) ?_
  show am_Good mi_191 0 [some (.ref 66), some (.retAddr 1), some (.retAddr a)] [] hp_m _
  refine g_aload_n (i := 0) dd_191_0 rfl ?_
  refine g_iload_n (i := 1) dd_191_1 rfl ?_
  refine g_virtual (M' := mi_153) (n := 1) (ci := 12) (b := 66) (as := [.retAddr 1]) (st := []) (r1 := (some (.retAddr 1), hp_m)) w_1184 w_1186 ps_153 ⟨lk_153.1, lk_153.2.1, lk_153.2.2, by decide, by decide⟩ rfl rfl rfl (by simp [Value.category]) dd_191_2 (em_isStation_1 1 (by decide) (by decide)) ?_
  show am_Good mi_191 5 [some (.ref 66), some (.retAddr 1), some (.retAddr a)] [.retAddr 1] hp_m _
  refine g_if_eq_f (t := 15) dd_191_5 (by decide) (by decide) ?_
  refine g_iload_n (i := 2) dd_191_8 rfl ?_
  refine g_static (M' := mi_161) (n := 1) (as := [.retAddr a]) (st := []) (r1 := (some (.retAddr 1), hp_m)) w_1215 w_1216 ⟨lk_161.1, lk_161.2.1, lk_161.2.2, by decide, by decide⟩ rfl (by simp [Value.category]) dd_191_9 (em_isSet_1 a (by omega) (by omega)) ?_
  show am_Good mi_191 12 [some (.ref 66), some (.retAddr 1), some (.retAddr a)] [.retAddr 1] hp_m _
  refine g_if_ne_t (t := 17) dd_191_12 (by decide) (by decide) ?_
  refine g_aload_n (i := 0) dd_191_17 rfl ?_
  refine g_iconst dd_191_18 ic_0 ?_
  refine g_bipush dd_191_19 bi_m4 ?_
  refine g_virtual (M' := mi_155) (n := 2) (ci := 12) (b := 66) (as := [.retAddr 0, .retAddr 4294967292]) (st := []) (r1 := (none, (hf_ 0 0 0 0))) w_1192 w_1194 ps_155 ⟨lk_155.1, lk_155.2.1, lk_155.2.2, by decide, by decide⟩ rfl rfl rfl (by simp [Value.category]) dd_191_21 (eg_lay0) ?_
  show am_Good mi_191 24 [some (.ref 66), some (.retAddr 1), some (.retAddr a)] [] (hf_ 0 0 0 0) _
  refine g_aload_n (i := 0) dd_191_24 rfl ?_
  refine g_iload_n (i := 1) dd_191_25 rfl ?_
  refine g_virtual (M' := mi_187) (n := 1) (ci := 12) (b := 66) (as := [.retAddr 1]) (st := []) (r1 := (none, (hf_ fc_1 0 0 0))) w_1318 w_1320 ps_187 ⟨lk_187.1, lk_187.2.1, lk_187.2.2, by decide, by decide⟩ rfl rfl rfl (by simp [Value.category]) dd_191_26 (eg_lf1) ?_
  show am_Good mi_191 29 [some (.ref 66), some (.retAddr 1), some (.retAddr a)] [] (hf_ fc_1 0 0 0) _
  refine g_aload_n (i := 0) dd_191_29 rfl ?_
  refine g_iload_n (i := 2) dd_191_30 rfl ?_
  refine g_virtual (M' := mi_190) (n := 1) (ci := 12) (b := 66) (as := [.retAddr a]) (st := []) (r1 := (none, (hf_ fc_1 f1 f2 f3))) w_1329 w_1331 ps_190 ⟨lk_190.1, lk_190.2.1, lk_190.2.2, by decide, by decide⟩ rfl rfl rfl (by simp [Value.category]) dd_191_31 (hF) ?_
  show am_Good mi_191 34 [some (.ref 66), some (.retAddr 1), some (.retAddr a)] [] (hf_ fc_1 f1 f2 f3) _
  refine g_aload_n (i := 0) dd_191_34 rfl ?_
  refine g_getfield (k := 50) am_ck12 (by decide) (Or.inl w_985) dd_191_35 rfl rfl ?_
  exact g_ireturn rfl dd_191_38
theorem bu_0 (a w : Nat) (ha : a < 8) (hw : w < 2) : Both 90 186 [.retAddr 0, .retAddr a, .retAddr w] := by
  have c : w = 0 ∨ w = 1 := by omega
  match a, ha with
  | 0, _ =>
    rcases c with rfl | rfl
    · exact HX.both (hx_u 0 0 0 (by decide) (by decide) (by decide)) ((um_0 (by decide) (by decide) (by decide) ff_run0_0).cast (by decide +kernel))
    · exact HX.both (hx_u 0 0 1 (by decide) (by decide) (by decide)) ((um_0 (by decide) (by decide) (by decide) ff_run0_0).cast (by decide +kernel))
  | 1, _ =>
    rcases c with rfl | rfl
    · exact HX.both (hx_u 0 1 0 (by decide) (by decide) (by decide)) ((um_0 (by decide) (by decide) (by decide) ff_run0_1).cast (by decide +kernel))
    · exact HX.both (hx_u 0 1 1 (by decide) (by decide) (by decide)) ((um_0 (by decide) (by decide) (by decide) ff_run0_1).cast (by decide +kernel))
  | 2, _ =>
    rcases c with rfl | rfl
    · exact HX.both (hx_u 0 2 0 (by decide) (by decide) (by decide)) ((um_0 (by decide) (by decide) (by decide) ff_run0_2).cast (by decide +kernel))
    · exact HX.both (hx_u 0 2 1 (by decide) (by decide) (by decide)) ((um_0 (by decide) (by decide) (by decide) ff_run0_2).cast (by decide +kernel))
  | 3, _ =>
    rcases c with rfl | rfl
    · exact HX.both (hx_u 0 3 0 (by decide) (by decide) (by decide)) ((um_0 (by decide) (by decide) (by decide) ff_run0_3).cast (by decide +kernel))
    · exact HX.both (hx_u 0 3 1 (by decide) (by decide) (by decide)) ((um_0 (by decide) (by decide) (by decide) ff_run0_3).cast (by decide +kernel))
  | 4, _ =>
    rcases c with rfl | rfl
    · exact HX.both (hx_u 0 4 0 (by decide) (by decide) (by decide)) ((um_0 (by decide) (by decide) (by decide) ff_run0_4).cast (by decide +kernel))
    · exact HX.both (hx_u 0 4 1 (by decide) (by decide) (by decide)) ((um_0 (by decide) (by decide) (by decide) ff_run0_4).cast (by decide +kernel))
  | 5, _ =>
    rcases c with rfl | rfl
    · exact HX.both (hx_u 0 5 0 (by decide) (by decide) (by decide)) ((um_0 (by decide) (by decide) (by decide) ff_run0_5).cast (by decide +kernel))
    · exact HX.both (hx_u 0 5 1 (by decide) (by decide) (by decide)) ((um_0 (by decide) (by decide) (by decide) ff_run0_5).cast (by decide +kernel))
  | 6, _ =>
    rcases c with rfl | rfl
    · exact HX.both (hx_u 0 6 0 (by decide) (by decide) (by decide)) ((um_0 (by decide) (by decide) (by decide) ff_run0_6).cast (by decide +kernel))
    · exact HX.both (hx_u 0 6 1 (by decide) (by decide) (by decide)) ((um_0 (by decide) (by decide) (by decide) ff_run0_6).cast (by decide +kernel))
  | 7, _ =>
    rcases c with rfl | rfl
    · exact HX.both (hx_u 0 7 0 (by decide) (by decide) (by decide)) ((um_0 (by decide) (by decide) (by decide) ff_run0_7).cast (by decide +kernel))
    · exact HX.both (hx_u 0 7 1 (by decide) (by decide) (by decide)) ((um_0 (by decide) (by decide) (by decide) ff_run0_7).cast (by decide +kernel))
  | a + 8, h => exact absurd h (by omega)
theorem bs_0 (a : Nat) (ha : a < 8) : Both 100 191 [.retAddr 0, .retAddr a] := by
  match a, ha with
  | 0, _ => exact HX.both (hx_s 0 0 (by decide) (by decide)) ((sm_0 (by decide) ff_run0_0).cast (by decide +kernel))
  | 1, _ => exact HX.both (hx_s 0 1 (by decide) (by decide)) ((sm_0 (by decide) ff_run0_1).cast (by decide +kernel))
  | 2, _ => exact HX.both (hx_s 0 2 (by decide) (by decide)) ((sm_0 (by decide) ff_run0_2).cast (by decide +kernel))
  | 3, _ => exact HX.both (hx_s 0 3 (by decide) (by decide)) ((sm_0 (by decide) ff_run0_3).cast (by decide +kernel))
  | 4, _ => exact HX.both (hx_s 0 4 (by decide) (by decide)) ((sm_0 (by decide) ff_run0_4).cast (by decide +kernel))
  | 5, _ => exact HX.both (hx_s 0 5 (by decide) (by decide)) ((sm_0 (by decide) ff_run0_5).cast (by decide +kernel))
  | 6, _ => exact HX.both (hx_s 0 6 (by decide) (by decide)) ((sm_0 (by decide) ff_run0_6).cast (by decide +kernel))
  | 7, _ => exact HX.both (hx_s 0 7 (by decide) (by decide)) ((sm_0 (by decide) ff_run0_7).cast (by decide +kernel))
  | a + 8, h => exact absurd h (by omega)
theorem bu_1 (a w : Nat) (ha : a < 8) (hw : w < 2) : Both 90 186 [.retAddr 1, .retAddr a, .retAddr w] := by
  have c : w = 0 ∨ w = 1 := by omega
  match a, ha with
  | 0, _ =>
    rcases c with rfl | rfl
    · exact HX.both (hx_u 1 0 0 (by decide) (by decide) (by decide)) ((um_1 (by decide) (by decide) (by decide) ff_run1_0).cast (by decide +kernel))
    · exact HX.both (hx_u 1 0 1 (by decide) (by decide) (by decide)) ((um_1 (by decide) (by decide) (by decide) ff_run1_0).cast (by decide +kernel))
  | 1, _ =>
    rcases c with rfl | rfl
    · exact HX.both (hx_u 1 1 0 (by decide) (by decide) (by decide)) ((um_1 (by decide) (by decide) (by decide) ff_run1_1).cast (by decide +kernel))
    · exact HX.both (hx_u 1 1 1 (by decide) (by decide) (by decide)) ((um_1 (by decide) (by decide) (by decide) ff_run1_1).cast (by decide +kernel))
  | 2, _ =>
    rcases c with rfl | rfl
    · exact HX.both (hx_u 1 2 0 (by decide) (by decide) (by decide)) ((um_1 (by decide) (by decide) (by decide) ff_run1_2).cast (by decide +kernel))
    · exact HX.both (hx_u 1 2 1 (by decide) (by decide) (by decide)) ((um_1 (by decide) (by decide) (by decide) ff_run1_2).cast (by decide +kernel))
  | 3, _ =>
    rcases c with rfl | rfl
    · exact HX.both (hx_u 1 3 0 (by decide) (by decide) (by decide)) ((um_1 (by decide) (by decide) (by decide) ff_run1_3).cast (by decide +kernel))
    · exact HX.both (hx_u 1 3 1 (by decide) (by decide) (by decide)) ((um_1 (by decide) (by decide) (by decide) ff_run1_3).cast (by decide +kernel))
  | 4, _ =>
    rcases c with rfl | rfl
    · exact HX.both (hx_u 1 4 0 (by decide) (by decide) (by decide)) ((um_1 (by decide) (by decide) (by decide) ff_run1_4).cast (by decide +kernel))
    · exact HX.both (hx_u 1 4 1 (by decide) (by decide) (by decide)) ((um_1 (by decide) (by decide) (by decide) ff_run1_4).cast (by decide +kernel))
  | 5, _ =>
    rcases c with rfl | rfl
    · exact HX.both (hx_u 1 5 0 (by decide) (by decide) (by decide)) ((um_1 (by decide) (by decide) (by decide) ff_run1_5).cast (by decide +kernel))
    · exact HX.both (hx_u 1 5 1 (by decide) (by decide) (by decide)) ((um_1 (by decide) (by decide) (by decide) ff_run1_5).cast (by decide +kernel))
  | 6, _ =>
    rcases c with rfl | rfl
    · exact HX.both (hx_u 1 6 0 (by decide) (by decide) (by decide)) ((um_1 (by decide) (by decide) (by decide) ff_run1_6).cast (by decide +kernel))
    · exact HX.both (hx_u 1 6 1 (by decide) (by decide) (by decide)) ((um_1 (by decide) (by decide) (by decide) ff_run1_6).cast (by decide +kernel))
  | 7, _ =>
    rcases c with rfl | rfl
    · exact HX.both (hx_u 1 7 0 (by decide) (by decide) (by decide)) ((um_1 (by decide) (by decide) (by decide) ff_run1_7).cast (by decide +kernel))
    · exact HX.both (hx_u 1 7 1 (by decide) (by decide) (by decide)) ((um_1 (by decide) (by decide) (by decide) ff_run1_7).cast (by decide +kernel))
  | a + 8, h => exact absurd h (by omega)
theorem bs_1 (a : Nat) (ha : a < 8) : Both 100 191 [.retAddr 1, .retAddr a] := by
  match a, ha with
  | 0, _ => exact HX.both (hx_s 1 0 (by decide) (by decide)) ((sm_1 (by decide) ff_run1_0).cast (by decide +kernel))
  | 1, _ => exact HX.both (hx_s 1 1 (by decide) (by decide)) ((sm_1 (by decide) ff_run1_1).cast (by decide +kernel))
  | 2, _ => exact HX.both (hx_s 1 2 (by decide) (by decide)) ((sm_1 (by decide) ff_run1_2).cast (by decide +kernel))
  | 3, _ => exact HX.both (hx_s 1 3 (by decide) (by decide)) ((sm_1 (by decide) ff_run1_3).cast (by decide +kernel))
  | 4, _ => exact HX.both (hx_s 1 4 (by decide) (by decide)) ((sm_1 (by decide) ff_run1_4).cast (by decide +kernel))
  | 5, _ => exact HX.both (hx_s 1 5 (by decide) (by decide)) ((sm_1 (by decide) ff_run1_5).cast (by decide +kernel))
  | 6, _ => exact HX.both (hx_s 1 6 (by decide) (by decide)) ((sm_1 (by decide) ff_run1_6).cast (by decide +kernel))
  | 7, _ => exact HX.both (hx_s 1 7 (by decide) (by decide)) ((sm_1 (by decide) ff_run1_7).cast (by decide +kernel))
  | a + 8, h => exact absurd h (by omega)
theorem bo_understand (a1 : Nat) (h1 : a1 < 4294967296) (a2 : Nat) (h2 : a2 < 4294967296) (a3 : Nat) (h3 : a3 < 4294967296) : Both 90 186 [.retAddr a1, .retAddr a2, .retAddr a3] := by
  by_cases c1 : a1 < 2
  · by_cases c2 : a2 < 256
    · by_cases c3 : a3 < 2
      · have d : a1 = 0 ∨ a1 = 1 := by omega
        by_cases c4 : a2 < 8
        · rcases d with rfl | rfl
          · exact bu_0 a2 a3 c4 c3
          · exact bu_1 a2 a3 c4 c3
        · have hx := hx_understand8 a1 (by omega) (by omega) a2 (by omega) (by omega) a3 (by omega) (by omega)
          rcases d with rfl | rfl
          · exact HX.both hx ((um_0 c2 c3 (by decide) (eg_ff8_0 a2 c2 (by omega))).cast (if_pos rfl))
          · exact HX.both hx ((um_1 c2 c3 (by decide) (eg_ff8_1 a2 c2 (by omega))).cast (if_pos rfl))
      · exact bb_understand_2 a1 (by omega) (by omega) a2 (by omega) (by omega) a3 (by omega) (by omega)
    · exact bb_understand_1 a1 (by omega) (by omega) a2 (by omega) (by omega) a3 (by omega) (by omega)
  · exact bb_understand_0 a1 (by omega) (by omega) a2 (by omega) (by omega) a3 (by omega) (by omega)
theorem bo_soonest (a1 : Nat) (h1 : a1 < 4294967296) (a2 : Nat) (h2 : a2 < 4294967296) : Both 100 191 [.retAddr a1, .retAddr a2] := by
  by_cases c1 : a1 < 2
  · by_cases c2 : a2 < 256
    · have d : a1 = 0 ∨ a1 = 1 := by omega
      by_cases c4 : a2 < 8
      · rcases d with rfl | rfl
        · exact bs_0 a2 c4
        · exact bs_1 a2 c4
      · have hx := hx_soonest8 a1 (by omega) (by omega) a2 (by omega) (by omega)
        rcases d with rfl | rfl
        · exact HX.both hx (sm_0 c2 (eg_ff8_0 a2 c2 (by omega)))
        · exact HX.both hx (sm_1 c2 (eg_ff8_1 a2 c2 (by omega)))
    · exact bb_soonest_1 a1 (by omega) (by omega) a2 (by omega) (by omega)
  · exact bb_soonest_0 a1 (by omega) (by omega) a2 (by omega) (by omega)
