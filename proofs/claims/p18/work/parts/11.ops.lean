/-! ===== the abstract machine's instructions as functions ===== -/
abbrev am_S : Type := Nat × am_L × List Value × am_H
abbrev am_Z : Type := am_S ⊕ Option am_R
abbrev am_Ev : Type := Nat → List Value → am_H → Option am_R
abbrev am_Op : Type := am_Ev → am_L → List Value → am_H → am_Z
def am_St (M : am_MI) (pc : Nat) (L : am_L) (st : List Value) (h : am_H) (z : am_Z) : Prop := match z with
  | .inl (pc', L', st', h') => ∀ r, am_Good M pc' L' st' h' r → am_Good M pc L st h r
  | .inr none => True
  | .inr (some r) => am_Good M pc L st h r
def am_EvOk (ev : am_Ev) : Prop := ∀ j as h r, ev j as h = some r → am_EG (am_mi j) as h r
def am_OpOk (M : am_MI) (pc : Nat) (op : am_Op) : Prop := ∀ ev, am_EvOk ev → ∀ L st h, am_St M pc L st h (op ev L st h)
noncomputable def am_ild (i nx : Nat) : am_Op := fun _ L st h => match am_nth L i with
  | some (some (.retAddr n)) => .inl (nx, L, .retAddr n :: st, h)
  | _ => .inr none
noncomputable def am_ald0 (i nx : Nat) : am_Op := fun _ L st h => match am_nth L i with
  | some (some (.ref n)) => .inl (nx, L, .ref n :: st, h)
  | _ => .inr none
noncomputable def am_lld (i nx : Nat) : am_Op := fun _ L st h => match am_nth L i with
  | some (some (.long n)) => .inl (nx, L, .long n :: st, h)
  | _ => .inr none
theorem ok_iload {M : am_MI} {pc i nx : Nat} (hd : decode M.2.1 pc = .ok (.iload i, 2)) (hx : pc + 2 = nx) : am_OpOk M pc (am_ild i nx) := by
  intro ev _ L st h
  subst hx
  simp only [am_ild]
  split
  · rename_i n hn
    rw [am_nth_eq] at hn
    exact fun r hg => g_iload hd hn hg
  · trivial
theorem ok_iload_n {M : am_MI} {pc i nx : Nat} {k : Fin 4} (hd : decode M.2.1 pc = .ok (.iload_n k, 1)) (hi : (k : Nat) = i) (hx : pc + 1 = nx) : am_OpOk M pc (am_ild i nx) := by
  intro ev _ L st h
  subst hx
  subst hi
  simp only [am_ild]
  split
  · rename_i n hn
    rw [am_nth_eq] at hn
    exact fun r hg => g_iload_n hd hn hg
  · trivial
theorem ok_aload {M : am_MI} {pc i nx : Nat} (hd : decode M.2.1 pc = .ok (.aload i, 2)) (hx : pc + 2 = nx) : am_OpOk M pc (am_ald0 i nx) := by
  intro ev _ L st h
  subst hx
  simp only [am_ald0]
  split
  · rename_i n hn
    rw [am_nth_eq] at hn
    exact fun r hg => g_aload hd hn hg
  · trivial
theorem ok_aload_n {M : am_MI} {pc i nx : Nat} {k : Fin 4} (hd : decode M.2.1 pc = .ok (.aload_n k, 1)) (hi : (k : Nat) = i) (hx : pc + 1 = nx) : am_OpOk M pc (am_ald0 i nx) := by
  intro ev _ L st h
  subst hx
  subst hi
  simp only [am_ald0]
  split
  · rename_i n hn
    rw [am_nth_eq] at hn
    exact fun r hg => g_aload_n hd hn hg
  · trivial
theorem ok_lload {M : am_MI} {pc i nx : Nat} (hd : decode M.2.1 pc = .ok (.lload i, 2)) (hx : pc + 2 = nx) : am_OpOk M pc (am_lld i nx) := by
  intro ev _ L st h
  subst hx
  simp only [am_lld]
  split
  · rename_i n hn
    rw [am_nth_eq] at hn
    exact fun r hg => g_lload hd hn hg
  · trivial
theorem ok_lload_n {M : am_MI} {pc i nx : Nat} {k : Fin 4} (hd : decode M.2.1 pc = .ok (.lload_n k, 1)) (hi : (k : Nat) = i) (hx : pc + 1 = nx) : am_OpOk M pc (am_lld i nx) := by
  intro ev _ L st h
  subst hx
  subst hi
  simp only [am_lld]
  split
  · rename_i n hn
    rw [am_nth_eq] at hn
    exact fun r hg => g_lload_n hd hn hg
  · trivial
noncomputable def am_nlb (L : am_L) (i : Nat) : Bool := Nat.rec (motive := fun _ => Bool) true (fun j _ => match am_nth L j with
  | some (some (.long _)) => false
  | some (some (.double _)) => false
  | _ => true) i
theorem am_nlb_ok {L : am_L} {i : Nat} (h : am_nlb L i = true) : am_nl L i := by
  intro j v hj hv hc
  subst hj
  have h2 : (match am_nth L j with
    | some (some (.long _)) => false
    | some (some (.double _)) => false
    | _ => true) = true := h
  rw [am_nth_eq, hv] at h2
  cases v <;> first | (cases h2; done) | (cases hc; done)
noncomputable def am_ist (i nx : Nat) : am_Op := fun _ L st h => match st with
  | .retAddr n :: st' => bif am_nlb L i then am_setc L (some (.retAddr n)) i fun L' => .inl (nx, L', st', h) else .inr none
  | _ => .inr none
noncomputable def am_ast0 (i nx : Nat) : am_Op := fun _ L st h => match st with
  | .ref n :: st' => bif am_nlb L i then am_setc L (some (.ref n)) i fun L' => .inl (nx, L', st', h) else .inr none
  | _ => .inr none
noncomputable def am_lst (i nx : Nat) : am_Op := fun _ L st h => match st with
  | .long n :: st' => bif am_nlb L i then am_setc L (some (.long n)) i fun L1 => am_setc L1 none (i + 1) fun L' => .inl (nx, L', st', h) else .inr none
  | _ => .inr none
theorem ok_istore {M : am_MI} {pc i nx : Nat} (hd : decode M.2.1 pc = .ok (.istore i, 2)) (hx : pc + 2 = nx) (hn : i < M.2.2.1) : am_OpOk M pc (am_ist i nx) := by
  intro ev _ L st h
  subst hx
  simp only [am_ist]
  split
  · cases hb : am_nlb L i
    · trivial
    · rw [cond_true, am_setc_eq]
      exact fun r hg => g_istore hd (am_nlb_ok hb) hn hg
  · trivial
theorem ok_istore_n {M : am_MI} {pc i nx : Nat} {k : Fin 4} (hd : decode M.2.1 pc = .ok (.istore_n k, 1)) (hi : (k : Nat) = i) (hx : pc + 1 = nx) (hn : i < M.2.2.1) : am_OpOk M pc (am_ist i nx) := by
  intro ev _ L st h
  subst hx
  subst hi
  simp only [am_ist]
  split
  · cases hb : am_nlb L k
    · trivial
    · rw [cond_true, am_setc_eq]
      exact fun r hg => g_istore_n hd (am_nlb_ok hb) hn hg
  · trivial
theorem ok_astore {M : am_MI} {pc i nx : Nat} (hd : decode M.2.1 pc = .ok (.astore i, 2)) (hx : pc + 2 = nx) (hn : i < M.2.2.1) : am_OpOk M pc (am_ast0 i nx) := by
  intro ev _ L st h
  subst hx
  simp only [am_ast0]
  split
  · cases hb : am_nlb L i
    · trivial
    · rw [cond_true, am_setc_eq]
      exact fun r hg => g_astore hd (am_nlb_ok hb) hn hg
  · trivial
theorem ok_astore_n {M : am_MI} {pc i nx : Nat} {k : Fin 4} (hd : decode M.2.1 pc = .ok (.astore_n k, 1)) (hi : (k : Nat) = i) (hx : pc + 1 = nx) (hn : i < M.2.2.1) : am_OpOk M pc (am_ast0 i nx) := by
  intro ev _ L st h
  subst hx
  subst hi
  simp only [am_ast0]
  split
  · cases hb : am_nlb L k
    · trivial
    · rw [cond_true, am_setc_eq]
      exact fun r hg => g_astore_n hd (am_nlb_ok hb) hn hg
  · trivial
theorem ok_lstore {M : am_MI} {pc i nx : Nat} (hd : decode M.2.1 pc = .ok (.lstore i, 2)) (hx : pc + 2 = nx) (hn : i + 1 < M.2.2.1) : am_OpOk M pc (am_lst i nx) := by
  intro ev _ L st h
  subst hx
  simp only [am_lst]
  split
  · cases hb : am_nlb L i
    · trivial
    · rw [cond_true, am_setc_eq, am_setc_eq]
      exact fun r hg => g_lstore hd (am_nlb_ok hb) hn hg
  · trivial
theorem ok_lstore_n {M : am_MI} {pc i nx : Nat} {k : Fin 4} (hd : decode M.2.1 pc = .ok (.lstore_n k, 1)) (hi : (k : Nat) = i) (hx : pc + 1 = nx) (hn : i + 1 < M.2.2.1) : am_OpOk M pc (am_lst i nx) := by
  intro ev _ L st h
  subst hx
  subst hi
  simp only [am_lst]
  split
  · cases hb : am_nlb L k
    · trivial
    · rw [cond_true, am_setc_eq, am_setc_eq]
      exact fun r hg => g_lstore_n hd (am_nlb_ok hb) hn hg
  · trivial
noncomputable def am_inc (i v nx : Nat) : am_Op := fun _ L st h => match am_nth L i with
  | some (some (.retAddr n)) => bif am_nlb L i then am_force ((n + v) % 4294967296) fun r => am_setc L (some (.retAddr r)) i fun L' => .inl (nx, L', st, h) else .inr none
  | _ => .inr none
theorem ok_iinc {M : am_MI} {pc i v nx : Nat} {d : Int} (hd : decode M.2.1 pc = .ok (.iinc i d, 3)) (hv : Int32.ofInt d = Int32.ofNat v) (hx : pc + 3 = nx) (hn : i < M.2.2.1) : am_OpOk M pc (am_inc i v nx) := by
  intro ev _ L st h
  subst hx
  simp only [am_inc]
  split
  · rename_i n hi
    rw [am_nth_eq] at hi
    cases hb : am_nlb L i
    · trivial
    · rw [cond_true, am_force_eq, am_setc_eq]
      exact fun r hg => g_iinc hd hi hv (am_nlb_ok hb) hn hg
  · trivial
def am_psh (v : Value) (nx : Nat) : am_Op := fun _ L st h => .inl (nx, L, v :: st, h)
theorem ok_iconst {M : am_MI} {pc v nx : Nat} {d : Int} (hd : decode M.2.1 pc = .ok (.iconst d, 1)) (hv : Int32.ofInt d = Int32.ofNat v) (hx : pc + 1 = nx) : am_OpOk M pc (am_psh (.retAddr v) nx) := by
  intro ev _ L st h
  subst hx
  exact fun r hg => g_iconst hd hv hg
theorem ok_bipush {M : am_MI} {pc v nx : Nat} {d : Int} (hd : decode M.2.1 pc = .ok (.bipush d, 2)) (hv : (Int8.ofInt d).toInt32 = Int32.ofNat v) (hx : pc + 2 = nx) : am_OpOk M pc (am_psh (.retAddr v) nx) := by
  intro ev _ L st h
  subst hx
  exact fun r hg => g_bipush hd hv hg
theorem ok_sipush {M : am_MI} {pc v nx : Nat} {d : Int} (hd : decode M.2.1 pc = .ok (.sipush d, 3)) (hv : (Int16.ofInt d).toInt32 = Int32.ofNat v) (hx : pc + 3 = nx) : am_OpOk M pc (am_psh (.retAddr v) nx) := by
  intro ev _ L st h
  subst hx
  exact fun r hg => g_sipush hd hv hg
theorem ok_lconst {M : am_MI} {pc nx : Nat} {d : Fin 2} {v : Int64} (hd : decode M.2.1 pc = .ok (.lconst d, 1)) (hv : Int64.ofNat (d : Nat) = v) (hx : pc + 1 = nx) : am_OpOk M pc (am_psh (.long v) nx) := by
  intro ev _ L st h
  subst hx
  subst hv
  exact fun r hg => g_lconst hd hg
theorem ok_ldc {M : am_MI} {pc i v nx : Nat} (hd : decode M.2.1 pc = .ok (.ldc i, 2)) (hv : Cond.constant M.1.cls i (Int32.ofNat v) ∈ am_tbl) (hx : pc + 2 = nx) : am_OpOk M pc (am_psh (.retAddr v) nx) := by
  intro ev _ L st h
  subst hx
  exact fun r hg => g_ldc hd hv hg
theorem ok_ldcw {M : am_MI} {pc i v nx : Nat} (hd : decode M.2.1 pc = .ok (.ldc_w i, 3)) (hv : Cond.constant M.1.cls i (Int32.ofNat v) ∈ am_tbl) (hx : pc + 3 = nx) : am_OpOk M pc (am_psh (.retAddr v) nx) := by
  intro ev _ L st h
  subst hx
  exact fun r hg => g_ldcw hd hv hg
theorem ok_ldc2 {M : am_MI} {pc i nx : Nat} {v : Int64} (hd : decode M.2.1 pc = .ok (.ldc2_w i, 3)) (hv : Cond.constantLong M.1.cls i v ∈ am_tbl) (hx : pc + 3 = nx) : am_OpOk M pc (am_psh (.long v) nx) := by
  intro ev _ L st h
  subst hx
  exact fun r hg => g_ldc2 hd hv hg
noncomputable def am_bin (f : Nat → Nat → Nat) (nx : Nat) : am_Op := fun _ L st h => match st with
  | .retAddr b :: .retAddr a :: st' => am_force (f a b) fun r => .inl (nx, L, .retAddr r :: st', h)
  | _ => .inr none
def am_add (a b : Nat) : Nat := (a + b) % 4294967296
def am_sub (a b : Nat) : Nat := (a + (4294967296 - b % 4294967296)) % 4294967296
def am_mul (a b : Nat) : Nat := (a * b) % 4294967296
def am_shl (a b : Nat) : Nat := (a <<< (b % 32)) % 4294967296
def am_ushr (a b : Nat) : Nat := (a % 4294967296) >>> (b % 32)
def am_xshr (a b : Nat) : Nat := a >>> (b % 32)
theorem ok_iadd {M : am_MI} {pc nx : Nat} (hd : decode M.2.1 pc = .ok (.iadd, 1)) (hx : pc + 1 = nx) : am_OpOk M pc (am_bin am_add nx) := by
  intro ev _ L st h
  subst hx
  simp only [am_bin]
  split
  · rw [am_force_eq]
    exact fun r hg => g_iadd hd hg
  · trivial
theorem ok_isub {M : am_MI} {pc nx : Nat} (hd : decode M.2.1 pc = .ok (.isub, 1)) (hx : pc + 1 = nx) : am_OpOk M pc (am_bin am_sub nx) := by
  intro ev _ L st h
  subst hx
  simp only [am_bin]
  split
  · rw [am_force_eq]
    exact fun r hg => g_isub hd hg
  · trivial
theorem ok_imul {M : am_MI} {pc nx : Nat} (hd : decode M.2.1 pc = .ok (.imul, 1)) (hx : pc + 1 = nx) : am_OpOk M pc (am_bin am_mul nx) := by
  intro ev _ L st h
  subst hx
  simp only [am_bin]
  split
  · rw [am_force_eq]
    exact fun r hg => g_imul hd hg
  · trivial
theorem ok_iand {M : am_MI} {pc nx : Nat} (hd : decode M.2.1 pc = .ok (.iand, 1)) (hx : pc + 1 = nx) : am_OpOk M pc (am_bin Nat.land nx) := by
  intro ev _ L st h
  subst hx
  simp only [am_bin]
  split
  · rw [am_force_eq]
    exact fun r hg => g_iand hd hg
  · trivial
theorem ok_ior {M : am_MI} {pc nx : Nat} (hd : decode M.2.1 pc = .ok (.ior, 1)) (hx : pc + 1 = nx) : am_OpOk M pc (am_bin Nat.lor nx) := by
  intro ev _ L st h
  subst hx
  simp only [am_bin]
  split
  · rw [am_force_eq]
    exact fun r hg => g_ior hd hg
  · trivial
theorem ok_ixor {M : am_MI} {pc nx : Nat} (hd : decode M.2.1 pc = .ok (.ixor, 1)) (hx : pc + 1 = nx) : am_OpOk M pc (am_bin Nat.xor nx) := by
  intro ev _ L st h
  subst hx
  simp only [am_bin]
  split
  · rw [am_force_eq]
    exact fun r hg => g_ixor hd hg
  · trivial
theorem ok_ishl {M : am_MI} {pc nx : Nat} (hd : decode M.2.1 pc = .ok (.ishl, 1)) (hx : pc + 1 = nx) : am_OpOk M pc (am_bin am_shl nx) := by
  intro ev _ L st h
  subst hx
  simp only [am_bin]
  split
  · rw [am_force_eq]
    exact fun r hg => g_ishl hd hg
  · trivial
theorem ok_iushr {M : am_MI} {pc nx : Nat} (hd : decode M.2.1 pc = .ok (.iushr, 1)) (hx : pc + 1 = nx) : am_OpOk M pc (am_bin am_ushr nx) := by
  intro ev _ L st h
  subst hx
  simp only [am_bin]
  split
  · rw [am_force_eq]
    exact fun r hg => g_iushr hd hg
  · trivial
noncomputable def am_bin1 (f : Nat → Nat → Nat) (nx : Nat) : am_Op := fun _ L st h => match st with
  | .retAddr b :: .retAddr a :: st' => bif Nat.blt a 2147483648 then am_force (f a b) fun r => .inl (nx, L, .retAddr r :: st', h) else .inr none
  | _ => .inr none
theorem ok_ishr {M : am_MI} {pc nx : Nat} (hd : decode M.2.1 pc = .ok (.ishr, 1)) (hx : pc + 1 = nx) : am_OpOk M pc (am_bin1 am_xshr nx) := by
  intro ev _ L st h
  subst hx
  simp only [am_bin1]
  split
  · rename_i b a st'
    cases hb : Nat.blt a 2147483648
    · trivial
    · rw [cond_true, am_force_eq]
      exact fun r hg => g_ishr hd (by simpa [Nat.blt_eq] using hb) hg
  · trivial
noncomputable def am_bin2 (f : Nat → Nat → Nat) (nx : Nat) : am_Op := fun _ L st h => match st with
  | .retAddr b :: .retAddr a :: st' => bif Nat.blt a 2147483648 then (bif Nat.blt b 2147483648 then (bif Nat.blt 0 b then am_force (f a b) fun r => .inl (nx, L, .retAddr r :: st', h) else .inr none) else .inr none) else .inr none
  | _ => .inr none
theorem ok_idiv {M : am_MI} {pc nx : Nat} (hd : decode M.2.1 pc = .ok (.idiv, 1)) (hx : pc + 1 = nx) : am_OpOk M pc (am_bin2 Nat.div nx) := by
  intro ev _ L st h
  subst hx
  simp only [am_bin2]
  split
  · rename_i b a st'
    cases h1 : Nat.blt a 2147483648
    · trivial
    · cases h2 : Nat.blt b 2147483648
      · trivial
      · cases h3 : Nat.blt 0 b
        · trivial
        · rw [cond_true, cond_true, cond_true, am_force_eq]
          exact fun r hg => g_idiv hd (by simpa [Nat.blt_eq] using h1) (by simpa [Nat.blt_eq] using h2) (by simpa [Nat.blt_eq] using h3) hg
  · trivial
theorem ok_irem {M : am_MI} {pc nx : Nat} (hd : decode M.2.1 pc = .ok (.irem, 1)) (hx : pc + 1 = nx) : am_OpOk M pc (am_bin2 Nat.mod nx) := by
  intro ev _ L st h
  subst hx
  simp only [am_bin2]
  split
  · rename_i b a st'
    cases h1 : Nat.blt a 2147483648
    · trivial
    · cases h2 : Nat.blt b 2147483648
      · trivial
      · cases h3 : Nat.blt 0 b
        · trivial
        · rw [cond_true, cond_true, cond_true, am_force_eq]
          exact fun r hg => g_irem hd (by simpa [Nat.blt_eq] using h1) (by simpa [Nat.blt_eq] using h2) (by simpa [Nat.blt_eq] using h3) hg
  · trivial
noncomputable def am_i2c (nx : Nat) : am_Op := fun _ L st h => match st with
  | .retAddr a :: st' => am_force (a % 65536) fun r => .inl (nx, L, .retAddr r :: st', h)
  | _ => .inr none
theorem ok_i2c {M : am_MI} {pc nx : Nat} (hd : decode M.2.1 pc = .ok (.i2c, 1)) (hx : pc + 1 = nx) : am_OpOk M pc (am_i2c nx) := by
  intro ev _ L st h
  subst hx
  simp only [am_i2c]
  split
  · rw [am_force_eq]
    exact fun r hg => g_i2c hd hg
  · trivial
def am_i2l (nx : Nat) : am_Op := fun _ L st h => match st with
  | .retAddr a :: st' => .inl (nx, L, .long (Int32.ofNat a).toInt64 :: st', h)
  | _ => .inr none
theorem ok_i2l {M : am_MI} {pc nx : Nat} (hd : decode M.2.1 pc = .ok (.i2l, 1)) (hx : pc + 1 = nx) : am_OpOk M pc (am_i2l nx) := by
  intro ev _ L st h
  subst hx
  simp only [am_i2l]
  split
  · exact fun r hg => g_i2l hd hg
  · trivial
def am_lbin (f : Int64 → Int64 → Int64) (nx : Nat) : am_Op := fun _ L st h => match st with
  | .long b :: .long a :: st' => .inl (nx, L, .long (f a b) :: st', h)
  | _ => .inr none
theorem ok_ladd {M : am_MI} {pc nx : Nat} (hd : decode M.2.1 pc = .ok (.ladd, 1)) (hx : pc + 1 = nx) : am_OpOk M pc (am_lbin (fun a b => a + b) nx) := by
  intro ev _ L st h
  subst hx
  simp only [am_lbin]
  split
  · exact fun r hg => g_ladd hd hg
  · trivial
theorem ok_lmul {M : am_MI} {pc nx : Nat} (hd : decode M.2.1 pc = .ok (.lmul, 1)) (hx : pc + 1 = nx) : am_OpOk M pc (am_lbin (fun a b => a * b) nx) := by
  intro ev _ L st h
  subst hx
  simp only [am_lbin]
  split
  · exact fun r hg => g_lmul hd hg
  · trivial
def am_lrm (nx : Nat) : am_Op := fun _ L st h => match st with
  | .long b :: .long a :: st' => bif decide (b = 0) then .inr none else .inl (nx, L, .long (a - a / b * b) :: st', h)
  | _ => .inr none
theorem ok_lrem {M : am_MI} {pc nx : Nat} (hd : decode M.2.1 pc = .ok (.lrem, 1)) (hx : pc + 1 = nx) : am_OpOk M pc (am_lrm nx) := by
  intro ev _ L st h
  subst hx
  simp only [am_lrm]
  split
  · rename_i b a st'
    cases hb : decide (b = 0)
    · exact fun r hg => g_lrem hd (of_decide_eq_false hb) hg
    · trivial
  · trivial
def am_lcv (a b : Int64) : Nat := bif decide (b < a) then 1 else (bif decide (a = b) then 0 else 4294967295)
theorem am_lcv_eq (a b : Int64) : lg_cmp a b = Int32.ofNat (am_lcv a b) := by
  unfold lg_cmp am_lcv
  by_cases h1 : b < a
  · simp [h1]
  · by_cases h2 : a = b
    · simp [h1, h2]
    · simp [h1, h2]
def am_lcp (nx : Nat) : am_Op := fun _ L st h => match st with
  | .long b :: .long a :: st' => .inl (nx, L, .retAddr (am_lcv a b) :: st', h)
  | _ => .inr none
theorem ok_lcmp {M : am_MI} {pc nx : Nat} (hd : decode M.2.1 pc = .ok (.lcmp, 1)) (hx : pc + 1 = nx) : am_OpOk M pc (am_lcp nx) := by
  intro ev _ L st h
  subst hx
  simp only [am_lcp]
  split
  · exact fun r hg => g_lcmp hd (am_lcv_eq _ _) hg
  · trivial
def am_c1 (v : Value) : Bool := match v with
  | .long _ => false
  | .double _ => false
  | _ => true
theorem am_c1_ok {v : Value} (h : am_c1 v = true) : v.category = 1 := by cases v <;> first | rfl | (cases h; done)
def am_dup (nx : Nat) : am_Op := fun _ L st h => match st with
  | v :: st' => bif am_c1 v then .inl (nx, L, v :: v :: st', h) else .inr none
  | _ => .inr none
theorem ok_dup {M : am_MI} {pc nx : Nat} (hd : decode M.2.1 pc = .ok (.dup, 1)) (hx : pc + 1 = nx) : am_OpOk M pc (am_dup nx) := by
  intro ev _ L st h
  subst hx
  simp only [am_dup]
  split
  · rename_i v st'
    cases hb : am_c1 v
    · trivial
    · exact fun r hg => g_dup hd (am_c1_ok hb) hg
  · trivial
def am_dup2 (nx : Nat) : am_Op := fun _ L st h => match st with
  | u :: v :: st' => bif am_c1 u then (bif am_c1 v then .inl (nx, L, u :: v :: u :: v :: st', h) else .inr none) else .inr none
  | _ => .inr none
theorem ok_dup2 {M : am_MI} {pc nx : Nat} (hd : decode M.2.1 pc = .ok (.dup2, 1)) (hx : pc + 1 = nx) : am_OpOk M pc (am_dup2 nx) := by
  intro ev _ L st h
  subst hx
  simp only [am_dup2]
  split
  · rename_i u v st'
    cases hb : am_c1 u
    · trivial
    · cases hb2 : am_c1 v
      · trivial
      · exact fun r hg => g_dup2 hd (am_c1_ok hb) (am_c1_ok hb2) hg
  · trivial
def am_pp (nx : Nat) : am_Op := fun _ L st h => match st with
  | v :: st' => bif am_c1 v then .inl (nx, L, st', h) else .inr none
  | _ => .inr none
theorem ok_pop {M : am_MI} {pc nx : Nat} (hd : decode M.2.1 pc = .ok (.pop, 1)) (hx : pc + 1 = nx) : am_OpOk M pc (am_pp nx) := by
  intro ev _ L st h
  subst hx
  simp only [am_pp]
  split
  · rename_i v st'
    cases hb : am_c1 v
    · trivial
    · exact fun r hg => g_pop hd (am_c1_ok hb) hg
  · trivial
def am_jmp (t : Nat) : am_Op := fun _ L st h => .inl (t, L, st, h)
theorem ok_goto {M : am_MI} {pc t : Nat} {d : Int} (hd : decode M.2.1 pc = .ok (.goto d, 3)) (ht : (pc : Int) + d = (t : Int)) : am_OpOk M pc (am_jmp t) := by
  intro ev _ L st h
  exact fun r hg => g_goto hd ht hg
def am_br2 (c : Jvm.ClassFile.Cond) (t nx : Nat) : am_Op := fun _ L st h => match st with
  | .retAddr b :: .retAddr a :: st' => bif am_tc c a b then .inl (t, L, st', h) else .inl (nx, L, st', h)
  | _ => .inr none
def am_br1 (c : Jvm.ClassFile.Cond) (t nx : Nat) : am_Op := fun _ L st h => match st with
  | .retAddr a :: st' => bif am_tc c a 0 then .inl (t, L, st', h) else .inl (nx, L, st', h)
  | _ => .inr none
theorem ok_icmp {M : am_MI} {pc t nx : Nat} {d : Int} {cd : Jvm.ClassFile.Cond} (hd : decode M.2.1 pc = .ok (.if_icmp cd d, 3)) (ht : (pc : Int) + d = (t : Int)) (hx : pc + 3 = nx) : am_OpOk M pc (am_br2 cd t nx) := by
  intro ev _ L st h
  subst hx
  simp only [am_br2]
  split
  · rename_i b a st'
    cases hb : am_tc cd a b <;> cases cd <;> intro r hg
    · exact g_icmp_eq_f hd ht hb hg
    · exact g_icmp_ne_f hd ht hb hg
    · exact g_icmp_lt_f hd ht hb hg
    · exact g_icmp_ge_f hd ht hb hg
    · exact g_icmp_gt_f hd ht hb hg
    · exact g_icmp_le_f hd ht hb hg
    · exact g_icmp_eq_t hd ht hb hg
    · exact g_icmp_ne_t hd ht hb hg
    · exact g_icmp_lt_t hd ht hb hg
    · exact g_icmp_ge_t hd ht hb hg
    · exact g_icmp_gt_t hd ht hb hg
    · exact g_icmp_le_t hd ht hb hg
  · trivial
theorem ok_ifc {M : am_MI} {pc t nx : Nat} {d : Int} {cd : Jvm.ClassFile.Cond} (hd : decode M.2.1 pc = .ok (.ifCond cd d, 3)) (ht : (pc : Int) + d = (t : Int)) (hx : pc + 3 = nx) : am_OpOk M pc (am_br1 cd t nx) := by
  intro ev _ L st h
  subst hx
  simp only [am_br1]
  split
  · rename_i a st'
    cases hb : am_tc cd a 0 <;> cases cd <;> intro r hg
    · exact g_if_eq_f hd ht hb hg
    · exact g_if_ne_f hd ht hb hg
    · exact g_if_lt_f hd ht hb hg
    · exact g_if_ge_f hd ht hb hg
    · exact g_if_gt_f hd ht hb hg
    · exact g_if_le_f hd ht hb hg
    · exact g_if_eq_t hd ht hb hg
    · exact g_if_ne_t hd ht hb hg
    · exact g_if_lt_t hd ht hb hg
    · exact g_if_ge_t hd ht hb hg
    · exact g_if_gt_t hd ht hb hg
    · exact g_if_le_t hd ht hb hg
  · trivial
