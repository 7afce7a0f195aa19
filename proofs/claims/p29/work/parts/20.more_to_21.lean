section
theorem kr_icat (v : Int32) : (Value.int v).category = 1 := rfl
section KR
variable {M : MM} {d pc : Nat} {lv : List (Nat × Value)} {st : List Value} {S : AS} {r : AR}
theorem kr_math {x y z : Int32} (K : kr_AW M d (pc + 3) lv (.int z :: st) S r) (hdd : 1 ≤ d) (hrest : (st.map fun v => v.category).sum ≤ 8)
    (f : ∀ (p : Program) (l : Launch) (e : Env) (R : Room) (s : State) (m : MethodId) (args : Array Value) (below : List Frame) (meth : Method) (c : Code) (H : Heap) (locs : List Loc) (cells slots : Nat) (Q : State → Prop) (ls : Array Slot) (rest : List Value),
      p.tables.exec = Jvm.exec → c.code = mC M → c.maxLocals = ls.size → s.vm.findClass (mO M) = some m.cls → (∀ w ∈ kr_TB, w.before args s = true) → 1 ≤ R.frames → (rest.map fun v => v.category).sum + 13 ≤ R.locals → cells ≤ R.cells → slots ≤ R.slots →
      W p l e R s m args below meth c H locs cells slots Q (F0 m (pc + 3) ls (.int z :: rest)) → W p l e R s m args below meth c H locs cells slots Q (F0 m pc ls (.int y :: .int x :: rest))) : kr_AW M d pc lv (.int y :: .int x :: st) S r := by
  refine ⟨K.1, ?_⟩
  intro g p l e s m args below meth c ad0 n0 c0 s0 mc ms C ad H locs ls cells slots A
  obtain ⟨a1, a2, a3, a4, a5, a6, a7, a8, a9, a10⟩ := A
  have C' := C
  obtain ⟨hx2, hb, hml, hrt, ho, ht, hlocks, hst, htab, hnm, hB⟩ := C
  have hk := K.1
  have h8 : ((st.map (cv ad)).map fun v => v.category).sum ≤ 8 := by rw [kr_catm]; exact hrest
  exact f p l e (kr_room d mc ms) s m args below meth c H locs cells slots _ ls (st.map (cv ad)) hx2 hb (hml.trans a9.1.symm) ho ht hdd (show _ ≤ 31 * d + 133 by omega) (show cells ≤ mc by omega) (show slots ≤ ms by omega) (K.2 g p l e s m args below meth c ad0 n0 c0 s0 mc ms C' ad H locs ls cells slots ⟨a1, a2, a3, a4, a5, a6, a7, a8, a9, kr_va_cons trivial (kr_va_tl (kr_va_tl a10))⟩)
theorem r_mmax {i : Nat} {x y : Int32} (hl : Cond.methodLink (mO M) i ⟨"java/lang/Math", "max", "(II)I"⟩ ∈ kr_TB) (hst : Cond.static ⟨"java/lang/Math", "max", "(II)I"⟩ ∈ kr_TB) (hini : Cond.initialized "java/lang/Math" ∈ kr_TB) (hcd : Cond.code Lib.Math.max.name Lib.Math.max.code 2 (some .int) ∈ kr_TB) (hdd : 1 ≤ d) (hrest : (st.map fun v => v.category).sum ≤ 8) (hd : decode (mC M) pc = .ok (.invokestatic i, 3)) (K : kr_AW M d (pc + 3) lv (.int (if x < y then y else x) :: st) S r) : kr_AW M d pc lv (.int y :: .int x :: st) S r :=
  kr_math K hdd hrest (fun p l e R s m args below meth c H locs cells slots Q ls rest hx hb hml ho ht h1 h2 h3 h4 k => va_mmax hx hb hml ho (ht _ hl) (ht _ hst) (ht _ hini) (ht _ hcd) h1 h2 h3 h4 hd k)
theorem r_mmin {i : Nat} {x y : Int32} (hl : Cond.methodLink (mO M) i ⟨"java/lang/Math", "min", "(II)I"⟩ ∈ kr_TB) (hst : Cond.static ⟨"java/lang/Math", "min", "(II)I"⟩ ∈ kr_TB) (hini : Cond.initialized "java/lang/Math" ∈ kr_TB) (hcd : Cond.code Lib.Math.min.name Lib.Math.min.code 2 (some .int) ∈ kr_TB) (hdd : 1 ≤ d) (hrest : (st.map fun v => v.category).sum ≤ 8) (hd : decode (mC M) pc = .ok (.invokestatic i, 3)) (K : kr_AW M d (pc + 3) lv (.int (if y < x then y else x) :: st) S r) : kr_AW M d pc lv (.int y :: .int x :: st) S r :=
  kr_math K hdd hrest (fun p l e R s m args below meth c H locs cells slots Q ls rest hx hb hml ho ht h1 h2 h3 h4 k => va_mmin hx hb hml ho (ht _ hl) (ht _ hst) (ht _ hini) (ht _ hcd) h1 h2 h3 h4 hd k)
end KR
end
section
/-! KeyringCourt$Audit.<init>()V -/
def f_Audit_init (S : AS) (a0 : Option Nat) : Option AS :=
  (a0).bind fun k1 =>
  (nA S 40 (1024 : Int32)).bind fun S2 =>
  (pR S2 12 0 (some k1) (some (sN S))).bind fun S3 =>
  (nA S3 40 (1024 : Int32)).bind fun S4 =>
  (pR S4 12 1 (some k1) (some (sN S3))).bind fun S5 =>
  (pI S5 12 3 (some k1) (7 : Int32)).bind fun S6 =>
  some S6
set_option maxRecDepth 20000 in
set_option maxHeartbeats 4000000 in
theorem s_Audit_init {S : AS} {a0 : Option Nat} {r : AS} (h : f_Audit_init S a0 = some r) : kr_Con m_Audit_init 1 [va_rf a0] S (kr_eV r) := by
  refine kr_con rfl rfl (by decide +kernel) (by simp [lg_sl, kr_rfcat, kr_icat, m_Audit_init, mL]) ?_
  rw [show lv_args 0 [va_rf a0] = [(0, va_rf a0)] from by simp [lv_args, kr_rfcat, kr_icat]]
  unfold f_Audit_init at h
  refine r_aload_n (i := 0) (x := a0) 0 rfl d_Audit_init_0 ?_
  have h2 := kr_ob h
  clear h
  obtain ⟨k1, ek1, h⟩ := h2
  subst ek1
  refine r_objInit w117 w110 w111 (by decide) (kr_c8 kr_c0) d_Audit_init_1 ?_
  refine r_aload_n (i := 0) (x := (some k1)) 0 rfl d_Audit_init_4 ?_
  refine r_sipush (v := (1024 : Int32)) (by decide) d_Audit_init_5 ?_
  have h2 := kr_ob h
  clear h
  obtain ⟨S2, eS2, h⟩ := h2
  refine r_newI eS2 w133 d_Audit_init_8 ?_
  have h2 := kr_ob h
  clear h
  obtain ⟨S3, eS3, h⟩ := h2
  refine r_putR eS3 fk0 (Or.inr ⟨rfl, rfl, rfl, _, w118, rfl⟩) rfl d_Audit_init_10 ?_
  refine r_aload_n (i := 0) (x := (some k1)) 0 rfl d_Audit_init_13 ?_
  refine r_sipush (v := (1024 : Int32)) (by decide) d_Audit_init_14 ?_
  have h2 := kr_ob h
  clear h
  obtain ⟨S4, eS4, h⟩ := h2
  refine r_newI eS4 w133 d_Audit_init_17 ?_
  have h2 := kr_ob h
  clear h
  obtain ⟨S5, eS5, h⟩ := h2
  refine r_putR eS5 fk1 (Or.inr ⟨rfl, rfl, rfl, _, w119, rfl⟩) rfl d_Audit_init_19 ?_
  refine r_aload_n (i := 0) (x := (some k1)) 0 rfl d_Audit_init_22 ?_
  refine r_bipush (v := (7 : Int32)) (by decide) d_Audit_init_23 ?_
  have h2 := kr_ob h
  clear h
  obtain ⟨S6, eS6, h⟩ := h2
  refine r_putI eS6 fk2 (Or.inl rfl) rfl d_Audit_init_25 ?_
  cases h
  exact r_vret rfl d_Audit_init_28
/-! KeyringCourt$Flow.<init>()V -/
def f_Flow_init (S : AS) (a0 : Option Nat) : Option AS :=
  (a0).bind fun k1 =>
  (nA S 40 (12 : Int32)).bind fun S2 =>
  (pR S2 13 0 (some k1) (some (sN S))).bind fun S3 =>
  (nA S3 40 (12 : Int32)).bind fun S4 =>
  (pR S4 13 1 (some k1) (some (sN S3))).bind fun S5 =>
  (nA S5 40 (12 : Int32)).bind fun S6 =>
  (pR S6 13 2 (some k1) (some (sN S5))).bind fun S7 =>
  (nA S7 40 (12 : Int32)).bind fun S8 =>
  (pR S8 13 3 (some k1) (some (sN S7))).bind fun S9 =>
  (nA S9 40 (12 : Int32)).bind fun S10 =>
  (pR S10 13 4 (some k1) (some (sN S9))).bind fun S11 =>
  some S11
set_option maxRecDepth 20000 in
set_option maxHeartbeats 4000000 in
theorem s_Flow_init {S : AS} {a0 : Option Nat} {r : AS} (h : f_Flow_init S a0 = some r) : kr_Con m_Flow_init 1 [va_rf a0] S (kr_eV r) := by
  refine kr_con rfl rfl (by decide +kernel) (by simp [lg_sl, kr_rfcat, kr_icat, m_Flow_init, mL]) ?_
  rw [show lv_args 0 [va_rf a0] = [(0, va_rf a0)] from by simp [lv_args, kr_rfcat, kr_icat]]
  unfold f_Flow_init at h
  refine r_aload_n (i := 0) (x := a0) 0 rfl d_Flow_init_0 ?_
  have h2 := kr_ob h
  clear h
  obtain ⟨k1, ek1, h⟩ := h2
  subst ek1
  refine r_objInit w141 w110 w111 (by decide) (kr_c8 kr_c0) d_Flow_init_1 ?_
  refine r_aload_n (i := 0) (x := (some k1)) 0 rfl d_Flow_init_4 ?_
  refine r_bipush (v := (12 : Int32)) (by decide) d_Flow_init_5 ?_
  have h2 := kr_ob h
  clear h
  obtain ⟨S2, eS2, h⟩ := h2
  refine r_newI eS2 w133 d_Flow_init_7 ?_
  have h2 := kr_ob h
  clear h
  obtain ⟨S3, eS3, h⟩ := h2
  refine r_putR eS3 fk3 (Or.inr ⟨rfl, rfl, rfl, _, w142, rfl⟩) rfl d_Flow_init_9 ?_
  refine r_aload_n (i := 0) (x := (some k1)) 0 rfl d_Flow_init_12 ?_
  refine r_bipush (v := (12 : Int32)) (by decide) d_Flow_init_13 ?_
  have h2 := kr_ob h
  clear h
  obtain ⟨S4, eS4, h⟩ := h2
  refine r_newI eS4 w133 d_Flow_init_15 ?_
  have h2 := kr_ob h
  clear h
  obtain ⟨S5, eS5, h⟩ := h2
  refine r_putR eS5 fk4 (Or.inr ⟨rfl, rfl, rfl, _, w143, rfl⟩) rfl d_Flow_init_17 ?_
  refine r_aload_n (i := 0) (x := (some k1)) 0 rfl d_Flow_init_20 ?_
  refine r_bipush (v := (12 : Int32)) (by decide) d_Flow_init_21 ?_
  have h2 := kr_ob h
  clear h
  obtain ⟨S6, eS6, h⟩ := h2
  refine r_newI eS6 w133 d_Flow_init_23 ?_
  have h2 := kr_ob h
  clear h
  obtain ⟨S7, eS7, h⟩ := h2
  refine r_putR eS7 fk5 (Or.inr ⟨rfl, rfl, rfl, _, w144, rfl⟩) rfl d_Flow_init_25 ?_
  refine r_aload_n (i := 0) (x := (some k1)) 0 rfl d_Flow_init_28 ?_
  refine r_bipush (v := (12 : Int32)) (by decide) d_Flow_init_29 ?_
  have h2 := kr_ob h
  clear h
  obtain ⟨S8, eS8, h⟩ := h2
  refine r_newI eS8 w133 d_Flow_init_31 ?_
  have h2 := kr_ob h
  clear h
  obtain ⟨S9, eS9, h⟩ := h2
  refine r_putR eS9 fk6 (Or.inr ⟨rfl, rfl, rfl, _, w145, rfl⟩) rfl d_Flow_init_33 ?_
  refine r_aload_n (i := 0) (x := (some k1)) 0 rfl d_Flow_init_36 ?_
  refine r_bipush (v := (12 : Int32)) (by decide) d_Flow_init_37 ?_
  have h2 := kr_ob h
  clear h
  obtain ⟨S10, eS10, h⟩ := h2
  refine r_newI eS10 w133 d_Flow_init_39 ?_
  have h2 := kr_ob h
  clear h
  obtain ⟨S11, eS11, h⟩ := h2
  refine r_putR eS11 fk7 (Or.inr ⟨rfl, rfl, rfl, _, w146, rfl⟩) rfl d_Flow_init_41 ?_
  cases h
  exact r_vret rfl d_Flow_init_44
/-! java/util/AbstractCollection.<init>()V -/
def f_AC_init (S : AS) (a0 : Option Nat) : Option AS :=
  (a0).bind fun k1 =>
  some S
set_option maxRecDepth 20000 in
set_option maxHeartbeats 4000000 in
theorem s_AC_init {S : AS} {a0 : Option Nat} {r : AS} (h : f_AC_init S a0 = some r) : kr_Con m_AC_init 1 [va_rf a0] S (kr_eV r) := by
  refine kr_con rfl rfl (by decide +kernel) (by simp [lg_sl, kr_rfcat, kr_icat, m_AC_init, mL]) ?_
  rw [show lv_args 0 [va_rf a0] = [(0, va_rf a0)] from by simp [lv_args, kr_rfcat, kr_icat]]
  unfold f_AC_init at h
  refine r_aload_n (i := 0) (x := a0) 0 rfl d_AC_init_0 ?_
  have h2 := kr_ob h
  clear h
  obtain ⟨k1, ek1, h⟩ := h2
  subst ek1
  refine r_objInit w173 w110 w111 (by decide) (kr_c8 kr_c0) d_AC_init_1 ?_
  cases h
  exact r_vret rfl d_AC_init_4
/-! java/util/AbstractList.<init>()V -/
def f_AB_init (S : AS) (a0 : Option Nat) : Option AS :=
  (a0).bind fun k1 =>
  (f_AC_init S (some k1)).bind fun S2 =>
  (pI S2 10 0 (some k1) (0 : Int32)).bind fun S3 =>
  some S3
set_option maxRecDepth 20000 in
set_option maxHeartbeats 4000000 in
theorem s_AB_init {S : AS} {a0 : Option Nat} {r : AS} (h : f_AB_init S a0 = some r) : kr_Con m_AB_init 2 [va_rf a0] S (kr_eV r) := by
  refine kr_con rfl rfl (by decide +kernel) (by simp [lg_sl, kr_rfcat, kr_icat, m_AB_init, mL]) ?_
  rw [show lv_args 0 [va_rf a0] = [(0, va_rf a0)] from by simp [lv_args, kr_rfcat, kr_icat]]
  unfold f_AB_init at h
  refine r_aload_n (i := 0) (x := a0) 0 rfl d_AB_init_0 ?_
  have h2 := kr_ob h
  clear h
  obtain ⟨k1, ek1, h⟩ := h2
  subst ek1
  have h2 := kr_ob h
  clear h
  obtain ⟨S2, eS2, h⟩ := h2
  refine r_callI (M1 := m_AC_init) (As := []) (s_AC_init eS2) mok_AC_init rfl rfl rfl w170 w171 (by decide) (kr_c8 kr_c0) d_AB_init_1 (kr_k0 ?_) kr_kn
  refine r_aload_n (i := 0) (x := (some k1)) 0 rfl d_AB_init_4 ?_
  refine r_iconst (v := (0 : Int32)) (by decide) d_AB_init_5 ?_
  have h2 := kr_ob h
  clear h
  obtain ⟨S3, eS3, h⟩ := h2
  refine r_putI eS3 fk8 (Or.inl rfl) rfl d_AB_init_6 ?_
  cases h
  exact r_vret rfl d_AB_init_9
/-! java/util/ArrayList.<init>()V -/
def f_AL_init (S : AS) (a0 : Option Nat) : Option AS :=
  (a0).bind fun k1 =>
  (f_AB_init S (some k1)).bind fun S2 =>
  (pR S2 10 1 (some k1) (some 0)).bind fun S3 =>
  some S3
set_option maxRecDepth 20000 in
set_option maxHeartbeats 4000000 in
theorem s_AL_init {S : AS} {a0 : Option Nat} {r : AS} (h : f_AL_init S a0 = some r) : kr_Con m_AL_init 3 [va_rf a0] S (kr_eV r) := by
  refine kr_con rfl rfl (by decide +kernel) (by simp [lg_sl, kr_rfcat, kr_icat, m_AL_init, mL]) ?_
  rw [show lv_args 0 [va_rf a0] = [(0, va_rf a0)] from by simp [lv_args, kr_rfcat, kr_icat]]
  unfold f_AL_init at h
  refine r_aload_n (i := 0) (x := a0) 0 rfl d_AL_init_0 ?_
  have h2 := kr_ob h
  clear h
  obtain ⟨k1, ek1, h⟩ := h2
  subst ek1
  have h2 := kr_ob h
  clear h
  obtain ⟨S2, eS2, h⟩ := h2
  refine r_callI (M1 := m_AB_init) (As := []) (s_AB_init eS2) mok_AB_init rfl rfl rfl w167 w168 (by decide) (kr_c8 kr_c0) d_AL_init_1 (kr_k0 ?_) kr_kn
  refine r_aload_n (i := 0) (x := (some k1)) 0 rfl d_AL_init_4 ?_
  refine r_getD w174 d_AL_init_5 ?_
  have h2 := kr_ob h
  clear h
  obtain ⟨S3, eS3, h⟩ := h2
  refine r_putR eS3 fk9 (Or.inl rfl) rfl d_AL_init_8 ?_
  cases h
  exact r_vret rfl d_AL_init_11
/-! KeyringCourt$Keyring.<init>()V -/
def f_Keyring_init (S : AS) (a0 : Option Nat) : Option AS :=
  (a0).bind fun k1 =>
  (pI S 15 0 (some k1) (1 : Int32)).bind fun S2 =>
  (pI S2 15 2 (some k1) (-1 : Int32)).bind fun S3 =>
  (pI S3 15 4 (some k1) (1 : Int32)).bind fun S4 =>
  (nA S4 40 (20 : Int32)).bind fun S5 =>
  (pR S5 15 5 (some k1) (some (sN S4))).bind fun S6 =>
  some S6
set_option maxRecDepth 20000 in
set_option maxHeartbeats 4000000 in
theorem s_Keyring_init {S : AS} {a0 : Option Nat} {r : AS} (h : f_Keyring_init S a0 = some r) : kr_Con m_Keyring_init 1 [va_rf a0] S (kr_eV r) := by
  refine kr_con rfl rfl (by decide +kernel) (by simp [lg_sl, kr_rfcat, kr_icat, m_Keyring_init, mL]) ?_
  rw [show lv_args 0 [va_rf a0] = [(0, va_rf a0)] from by simp [lv_args, kr_rfcat, kr_icat]]
  unfold f_Keyring_init at h
  refine r_aload_n (i := 0) (x := a0) 0 rfl d_Keyring_init_0 ?_
  have h2 := kr_ob h
  clear h
  obtain ⟨k1, ek1, h⟩ := h2
  subst ek1
  refine r_objInit w195 w110 w111 (by decide) (kr_c8 kr_c0) d_Keyring_init_1 ?_
  refine r_aload_n (i := 0) (x := (some k1)) 0 rfl d_Keyring_init_4 ?_
  refine r_iconst (v := (1 : Int32)) (by decide) d_Keyring_init_5 ?_
  have h2 := kr_ob h
  clear h
  obtain ⟨S2, eS2, h⟩ := h2
  refine r_putI eS2 fk10 (Or.inl rfl) rfl d_Keyring_init_6 ?_
  refine r_aload_n (i := 0) (x := (some k1)) 0 rfl d_Keyring_init_9 ?_
  refine r_iconst (v := (-1 : Int32)) (by decide) d_Keyring_init_10 ?_
  have h2 := kr_ob h
  clear h
  obtain ⟨S3, eS3, h⟩ := h2
  refine r_putI eS3 fk11 (Or.inl rfl) rfl d_Keyring_init_11 ?_
  refine r_aload_n (i := 0) (x := (some k1)) 0 rfl d_Keyring_init_14 ?_
  refine r_iconst (v := (1 : Int32)) (by decide) d_Keyring_init_15 ?_
  have h2 := kr_ob h
  clear h
  obtain ⟨S4, eS4, h⟩ := h2
  refine r_putI eS4 fk12 (Or.inl rfl) rfl d_Keyring_init_16 ?_
  refine r_aload_n (i := 0) (x := (some k1)) 0 rfl d_Keyring_init_19 ?_
  refine r_bipush (v := (20 : Int32)) (by decide) d_Keyring_init_20 ?_
  have h2 := kr_ob h
  clear h
  obtain ⟨S5, eS5, h⟩ := h2
  refine r_newI eS5 w133 d_Keyring_init_22 ?_
  have h2 := kr_ob h
  clear h
  obtain ⟨S6, eS6, h⟩ := h2
  refine r_putR eS6 fk13 (Or.inr ⟨rfl, rfl, rfl, _, w205, rfl⟩) rfl d_Keyring_init_24 ?_
  cases h
  exact r_vret rfl d_Keyring_init_27
/-! KeyringCourt$Person.<init>(I)V -/
def f_Person_init (S : AS) (a0 : Option Nat) (a1 : Int32) : Option AS :=
  (a0).bind fun k1 =>
  (nA S 40 (3 : Int32)).bind fun S2 =>
  (pR S2 16 1 (some k1) (some (sN S))).bind fun S3 =>
  (nA S3 40 (3 : Int32)).bind fun S4 =>
  (pR S4 16 2 (some k1) (some (sN S3))).bind fun S5 =>
  (pI S5 16 4 (some k1) (-1 : Int32)).bind fun S6 =>
  (pI S6 16 5 (some k1) (-1 : Int32)).bind fun S7 =>
  (pI S7 16 6 (some k1) (-1 : Int32)).bind fun S8 =>
  (nA S8 40 (4 : Int32)).bind fun S9 =>
  (pR S9 16 9 (some k1) (some (sN S8))).bind fun S10 =>
  (pI S10 16 0 (some k1) a1).bind fun S11 =>
  some S11
set_option maxRecDepth 20000 in
set_option maxHeartbeats 4000000 in
theorem s_Person_init {S : AS} {a0 : Option Nat} {a1 : Int32} {r : AS} (h : f_Person_init S a0 a1 = some r) : kr_Con m_Person_init 1 [va_rf a0, .int a1] S (kr_eV r) := by
  refine kr_con rfl rfl (by decide +kernel) (by simp [lg_sl, kr_rfcat, kr_icat, m_Person_init, mL]) ?_
  rw [show lv_args 0 [va_rf a0, .int a1] = [(0, va_rf a0), (1, .int a1)] from by simp [lv_args, kr_rfcat, kr_icat]]
  unfold f_Person_init at h
  refine r_aload_n (i := 0) (x := a0) 0 rfl d_Person_init_0 ?_
  have h2 := kr_ob h
  clear h
  obtain ⟨k1, ek1, h⟩ := h2
  subst ek1
  refine r_objInit w223 w110 w111 (by decide) (kr_c8 kr_c0) d_Person_init_1 ?_
  refine r_aload_n (i := 0) (x := (some k1)) 0 rfl d_Person_init_4 ?_
  refine r_iconst (v := (3 : Int32)) (by decide) d_Person_init_5 ?_
  have h2 := kr_ob h
  clear h
  obtain ⟨S2, eS2, h⟩ := h2
  refine r_newI eS2 w133 d_Person_init_6 ?_
  have h2 := kr_ob h
  clear h
  obtain ⟨S3, eS3, h⟩ := h2
  refine r_putR eS3 fk14 (Or.inr ⟨rfl, rfl, rfl, _, w226, rfl⟩) rfl d_Person_init_8 ?_
  refine r_aload_n (i := 0) (x := (some k1)) 0 rfl d_Person_init_11 ?_
  refine r_iconst (v := (3 : Int32)) (by decide) d_Person_init_12 ?_
  have h2 := kr_ob h
  clear h
  obtain ⟨S4, eS4, h⟩ := h2
  refine r_newI eS4 w133 d_Person_init_13 ?_
  have h2 := kr_ob h
  clear h
  obtain ⟨S5, eS5, h⟩ := h2
  refine r_putR eS5 fk15 (Or.inr ⟨rfl, rfl, rfl, _, w227, rfl⟩) rfl d_Person_init_15 ?_
  refine r_aload_n (i := 0) (x := (some k1)) 0 rfl d_Person_init_18 ?_
  refine r_iconst (v := (-1 : Int32)) (by decide) d_Person_init_19 ?_
  have h2 := kr_ob h
  clear h
  obtain ⟨S6, eS6, h⟩ := h2
  refine r_putI eS6 fk16 (Or.inl rfl) rfl d_Person_init_20 ?_
  refine r_aload_n (i := 0) (x := (some k1)) 0 rfl d_Person_init_23 ?_
  refine r_iconst (v := (-1 : Int32)) (by decide) d_Person_init_24 ?_
  have h2 := kr_ob h
  clear h
  obtain ⟨S7, eS7, h⟩ := h2
  refine r_putI eS7 fk17 (Or.inl rfl) rfl d_Person_init_25 ?_
  refine r_aload_n (i := 0) (x := (some k1)) 0 rfl d_Person_init_28 ?_
  refine r_iconst (v := (-1 : Int32)) (by decide) d_Person_init_29 ?_
  have h2 := kr_ob h
  clear h
  obtain ⟨S8, eS8, h⟩ := h2
  refine r_putI eS8 fk18 (Or.inl rfl) rfl d_Person_init_30 ?_
  refine r_aload_n (i := 0) (x := (some k1)) 0 rfl d_Person_init_33 ?_
  refine r_iconst (v := (4 : Int32)) (by decide) d_Person_init_34 ?_
  have h2 := kr_ob h
  clear h
  obtain ⟨S9, eS9, h⟩ := h2
  refine r_newI eS9 w133 d_Person_init_35 ?_
  have h2 := kr_ob h
  clear h
  obtain ⟨S10, eS10, h⟩ := h2
  refine r_putR eS10 fk19 (Or.inr ⟨rfl, rfl, rfl, _, w236, rfl⟩) rfl d_Person_init_37 ?_
  refine r_aload_n (i := 0) (x := (some k1)) 0 rfl d_Person_init_40 ?_
  refine r_iload_n (i := 1) (x := a1) 1 rfl d_Person_init_41 ?_
  have h2 := kr_ob h
  clear h
  obtain ⟨S11, eS11, h⟩ := h2
  refine r_putI eS11 fk20 (Or.inr ⟨rfl, rfl, rfl, _, w224, rfl⟩) rfl d_Person_init_42 ?_
  cases h
  exact r_vret rfl d_Person_init_45
/-! KeyringCourt$Service.<init>()V -/
def f_Service_init (S : AS) (a0 : Option Nat) : Option AS :=
  (a0).bind fun k1 =>
  (pZ S 18 1 (some k1) (1 : Int32)).bind fun S2 =>
  (pI S2 18 2 (some k1) (1 : Int32)).bind fun S3 =>
  some S3
set_option maxRecDepth 20000 in
set_option maxHeartbeats 4000000 in
theorem s_Service_init {S : AS} {a0 : Option Nat} {r : AS} (h : f_Service_init S a0 = some r) : kr_Con m_Service_init 1 [va_rf a0] S (kr_eV r) := by
  refine kr_con rfl rfl (by decide +kernel) (by simp [lg_sl, kr_rfcat, kr_icat, m_Service_init, mL]) ?_
  rw [show lv_args 0 [va_rf a0] = [(0, va_rf a0)] from by simp [lv_args, kr_rfcat, kr_icat]]
  unfold f_Service_init at h
  refine r_aload_n (i := 0) (x := a0) 0 rfl d_Service_init_0 ?_
  have h2 := kr_ob h
  clear h
  obtain ⟨k1, ek1, h⟩ := h2
  subst ek1
  refine r_objInit w269 w110 w111 (by decide) (kr_c8 kr_c0) d_Service_init_1 ?_
  refine r_aload_n (i := 0) (x := (some k1)) 0 rfl d_Service_init_4 ?_
  refine r_iconst (v := (1 : Int32)) (by decide) d_Service_init_5 ?_
  have h2 := kr_ob h
  clear h
  obtain ⟨S2, eS2, h⟩ := h2
  refine r_putZ eS2 fk21 (Or.inl rfl) rfl d_Service_init_6 ?_
  refine r_aload_n (i := 0) (x := (some k1)) 0 rfl d_Service_init_9 ?_
  refine r_iconst (v := (1 : Int32)) (by decide) d_Service_init_10 ?_
  have h2 := kr_ob h
  clear h
  obtain ⟨S3, eS3, h⟩ := h2
  refine r_putI eS3 fk22 (Or.inl rfl) rfl d_Service_init_11 ?_
  cases h
  exact r_vret rfl d_Service_init_14
/-! KeyringCourt.isWithin(III)Z -/
def f_K_isWithin (S : AS) (a0 : Int32) (a1 : Int32) (a2 : Int32) : Option (Int32 × AS) :=
  if a0 < a1 then
  some ((0 : Int32), S)
  else
  if a2 < a0 then
  some ((0 : Int32), S)
  else
  some ((1 : Int32), S)
set_option maxRecDepth 20000 in
set_option maxHeartbeats 4000000 in
theorem s_K_isWithin {S : AS} {a0 : Int32} {a1 : Int32} {a2 : Int32} {r : (Int32 × AS)} (h : f_K_isWithin S a0 a1 a2 = some r) : kr_Con m_K_isWithin 0 [.int a0, .int a1, .int a2] S (kr_eI r) := by
  refine kr_con rfl rfl (by decide +kernel) (by simp [lg_sl, kr_rfcat, kr_icat, m_K_isWithin, mL]) ?_
  rw [show lv_args 0 [.int a0, .int a1, .int a2] = [(0, .int a0), (1, .int a1), (2, .int a2)] from by simp [lv_args, kr_rfcat, kr_icat]]
  unfold f_K_isWithin at h
  refine r_iload_n (i := 0) (x := a0) 0 rfl d_K_isWithin_0 ?_
  refine r_iload_n (i := 1) (x := a1) 1 rfl d_K_isWithin_1 ?_
  refine r_icmp_lt (tgt := 14) d_K_isWithin_2 rfl (fun c => ?_) (fun c => ?_)
  · replace h := kr_ip c h
    refine r_iconst (v := (0 : Int32)) (by decide) d_K_isWithin_14 ?_
    cases h
    exact r_zret rfl rfl d_K_isWithin_15
  · replace h := kr_in_ c h
    refine r_iload_n (i := 0) (x := a0) 0 rfl d_K_isWithin_5 ?_
    refine r_iload_n (i := 2) (x := a2) 2 rfl d_K_isWithin_6 ?_
    refine r_icmp_gt (tgt := 14) d_K_isWithin_7 rfl (fun c => ?_) (fun c => ?_)
    · replace h := kr_ip c h
      refine r_iconst (v := (0 : Int32)) (by decide) d_K_isWithin_14 ?_
      cases h
      exact r_zret rfl rfl d_K_isWithin_15
    · replace h := kr_in_ c h
      refine r_iconst (v := (1 : Int32)) (by decide) d_K_isWithin_10 ?_
      refine r_goto (tgt := 15) d_K_isWithin_11 rfl ?_
      cases h
      exact r_zret rfl rfl d_K_isWithin_15
/-! KeyringCourt$Keyring.isDueToSign(I)Z -/
def f_Keyring_isDueToSign (S : AS) (a0 : Option Nat) (a1 : Int32) : Option (Int32 × AS) :=
  (gI S 15 2 a0).bind fun v1 =>
  if v1 = (-1 : Int32) then
  some ((0 : Int32), S)
  else
  (gI S 15 3 a0).bind fun v2 =>
  if a1 < v2 then
  some ((0 : Int32), S)
  else
  some ((1 : Int32), S)
set_option maxRecDepth 20000 in
set_option maxHeartbeats 4000000 in
theorem s_Keyring_isDueToSign {S : AS} {a0 : Option Nat} {a1 : Int32} {r : (Int32 × AS)} (h : f_Keyring_isDueToSign S a0 a1 = some r) : kr_Con m_Keyring_isDueToSign 0 [va_rf a0, .int a1] S (kr_eI r) := by
  refine kr_con rfl rfl (by decide +kernel) (by simp [lg_sl, kr_rfcat, kr_icat, m_Keyring_isDueToSign, mL]) ?_
  rw [show lv_args 0 [va_rf a0, .int a1] = [(0, va_rf a0), (1, .int a1)] from by simp [lv_args, kr_rfcat, kr_icat]]
  unfold f_Keyring_isDueToSign at h
  refine r_aload_n (i := 0) (x := a0) 0 rfl d_Keyring_isDueToSign_0 ?_
  have h2 := kr_ob h
  clear h
  obtain ⟨v1, ev1, h⟩ := h2
  refine r_getI ev1 fk11 rfl d_Keyring_isDueToSign_1 ?_
  refine r_iconst (v := (-1 : Int32)) (by decide) d_Keyring_isDueToSign_4 ?_
  refine r_icmp_eq (tgt := 20) d_Keyring_isDueToSign_5 rfl (fun c => ?_) (fun c => ?_)
  · replace h := kr_ip c h
    refine r_iconst (v := (0 : Int32)) (by decide) d_Keyring_isDueToSign_20 ?_
    cases h
    exact r_zret rfl rfl d_Keyring_isDueToSign_21
  · replace h := kr_in_ c h
    refine r_iload_n (i := 1) (x := a1) 1 rfl d_Keyring_isDueToSign_8 ?_
    refine r_aload_n (i := 0) (x := a0) 0 rfl d_Keyring_isDueToSign_9 ?_
    have h2 := kr_ob h
    clear h
    obtain ⟨v2, ev2, h⟩ := h2
    refine r_getI ev2 fk110 rfl d_Keyring_isDueToSign_10 ?_
    refine r_icmp_lt (tgt := 20) d_Keyring_isDueToSign_13 rfl (fun c => ?_) (fun c => ?_)
    · replace h := kr_ip c h
      refine r_iconst (v := (0 : Int32)) (by decide) d_Keyring_isDueToSign_20 ?_
      cases h
      exact r_zret rfl rfl d_Keyring_isDueToSign_21
    · replace h := kr_in_ c h
      refine r_iconst (v := (1 : Int32)) (by decide) d_Keyring_isDueToSign_16 ?_
      refine r_goto (tgt := 21) d_Keyring_isDueToSign_17 rfl ?_
      cases h
      exact r_zret rfl rfl d_Keyring_isDueToSign_21
/-! KeyringCourt$Keyring.putWaitingToSign(I)V -/
def f_Keyring_putWaitingToSign_B29 (S : AS) (x0 : Option Nat) : Option AS :=
  (gI S 15 2 x0).bind fun v1 =>
  (pI S 15 1 x0 v1).bind fun S2 =>
  (pI S2 15 2 x0 (-1 : Int32)).bind fun S3 =>
  some S3
def f_Keyring_putWaitingToSign (S : AS) (a0 : Option Nat) (a1 : Int32) : Option AS :=
  (gI S 15 1 a0).bind fun v4 =>
  if v4 < 0 then
  f_Keyring_putWaitingToSign_B29 S a0
  else
  (gI S 15 1 a0).bind fun v5 =>
  if (20 : Int32) ≤ v5 then
  f_Keyring_putWaitingToSign_B29 S a0
  else
  (gR S 15 5 a0).bind fun v6 =>
  (gI S 15 1 a0).bind fun v7 =>
  (bI S v6 v7 (a1 + (20 : Int32))).bind fun S8 =>
  f_Keyring_putWaitingToSign_B29 S8 a0
set_option maxRecDepth 20000 in
set_option maxHeartbeats 4000000 in
theorem s_Keyring_putWaitingToSign_B29 {S : AS} {x0 : Option Nat} {r : AS} (h : f_Keyring_putWaitingToSign_B29 S x0 = some r) : kr_AW m_Keyring_putWaitingToSign 0 29 [(0, va_rf x0)] [] S (kr_eV r) := by
  unfold f_Keyring_putWaitingToSign_B29 at h
  refine r_aload_n (i := 0) (x := x0) 0 rfl d_Keyring_putWaitingToSign_29 ?_
  refine r_aload_n (i := 0) (x := x0) 0 rfl d_Keyring_putWaitingToSign_30 ?_
  have h2 := kr_ob h
  clear h
  obtain ⟨v1, ev1, h⟩ := h2
  refine r_getI ev1 fk11 rfl d_Keyring_putWaitingToSign_31 ?_
  have h2 := kr_ob h
  clear h
  obtain ⟨S2, eS2, h⟩ := h2
  refine r_putI eS2 fk111 (Or.inl rfl) rfl d_Keyring_putWaitingToSign_34 ?_
  refine r_aload_n (i := 0) (x := x0) 0 rfl d_Keyring_putWaitingToSign_37 ?_
  refine r_iconst (v := (-1 : Int32)) (by decide) d_Keyring_putWaitingToSign_38 ?_
  have h2 := kr_ob h
  clear h
  obtain ⟨S3, eS3, h⟩ := h2
  refine r_putI eS3 fk11 (Or.inl rfl) rfl d_Keyring_putWaitingToSign_39 ?_
  cases h
  exact r_vret rfl d_Keyring_putWaitingToSign_42
set_option maxRecDepth 20000 in
set_option maxHeartbeats 4000000 in
theorem s_Keyring_putWaitingToSign {S : AS} {a0 : Option Nat} {a1 : Int32} {r : AS} (h : f_Keyring_putWaitingToSign S a0 a1 = some r) : kr_Con m_Keyring_putWaitingToSign 0 [va_rf a0, .int a1] S (kr_eV r) := by
  refine kr_con rfl rfl (by decide +kernel) (by simp [lg_sl, kr_rfcat, kr_icat, m_Keyring_putWaitingToSign, mL]) ?_
  rw [show lv_args 0 [va_rf a0, .int a1] = [(0, va_rf a0), (1, .int a1)] from by simp [lv_args, kr_rfcat, kr_icat]]
  unfold f_Keyring_putWaitingToSign at h
  refine r_aload_n (i := 0) (x := a0) 0 rfl d_Keyring_putWaitingToSign_0 ?_
  have h2 := kr_ob h
  clear h
  obtain ⟨v4, ev4, h⟩ := h2
  refine r_getI ev4 fk111 rfl d_Keyring_putWaitingToSign_1 ?_
  refine r_if_lt (tgt := 29) d_Keyring_putWaitingToSign_4 rfl (fun c => ?_) (fun c => ?_)
  · replace h := kr_ip c h
    exact kr_sub [0] rfl (s_Keyring_putWaitingToSign_B29 h)
  · replace h := kr_in_ c h
    refine r_aload_n (i := 0) (x := a0) 0 rfl d_Keyring_putWaitingToSign_7 ?_
    have h2 := kr_ob h
    clear h
    obtain ⟨v5, ev5, h⟩ := h2
    refine r_getI ev5 fk111 rfl d_Keyring_putWaitingToSign_8 ?_
    refine r_bipush (v := (20 : Int32)) (by decide) d_Keyring_putWaitingToSign_11 ?_
    refine r_icmp_ge (tgt := 29) d_Keyring_putWaitingToSign_13 rfl (fun c => ?_) (fun c => ?_)
    · replace h := kr_ip c h
      exact kr_sub [0] rfl (s_Keyring_putWaitingToSign_B29 h)
    · replace h := kr_in_ c h
      refine r_aload_n (i := 0) (x := a0) 0 rfl d_Keyring_putWaitingToSign_16 ?_
      have h2 := kr_ob h
      clear h
      obtain ⟨v6, ev6, h⟩ := h2
      refine r_getR ev6 fk13 rfl d_Keyring_putWaitingToSign_17 ?_
      refine r_aload_n (i := 0) (x := a0) 0 rfl d_Keyring_putWaitingToSign_20 ?_
      have h2 := kr_ob h
      clear h
      obtain ⟨v7, ev7, h⟩ := h2
      refine r_getI ev7 fk111 rfl d_Keyring_putWaitingToSign_21 ?_
      refine r_iload_n (i := 1) (x := a1) 1 rfl d_Keyring_putWaitingToSign_24 ?_
      refine r_bipush (v := (20 : Int32)) (by decide) d_Keyring_putWaitingToSign_25 ?_
      refine r_iadd d_Keyring_putWaitingToSign_27 ?_
      have h2 := kr_ob h
      clear h
      obtain ⟨S8, eS8, h⟩ := h2
      refine r_iastore eS8 d_Keyring_putWaitingToSign_28 ?_
      exact kr_sub [0] rfl (s_Keyring_putWaitingToSign_B29 h)
/-! KeyringCourt$Audit.totalWith(II)I -/
def f_Audit_totalWith (S : AS) (a0 : Option Nat) (a1 : Int32) (a2 : Int32) : Option (Int32 × AS) :=
  if a2 < 0 then
  some (a1, S)
  else
  if a2 < (1024 : Int32) then
  (gR S 12 0 a0).bind fun v1 =>
  (aI S 40 v1 a2).bind fun v2 =>
  (some (v2 / (1000 : Int32))).bind fun i3 =>
  (gR S 12 0 a0).bind fun v4 =>
  (aI S 40 v4 a2).bind fun v5 =>
  (some (v5 - v5 / (1000 : Int32) * (1000 : Int32))).bind fun i6 =>
  (gR S 12 1 a0).bind fun v7 =>
  (aI S 40 v7 a2).bind fun v8 =>
  (some (((((31 : Int32) * a1) + ((100 : Int32) * i3)) + i6) + v8)).bind fun i9 =>
  some (i9 - i9 / (65521 : Int32) * (65521 : Int32), S)
  else
  some (a1, S)
set_option maxRecDepth 20000 in
set_option maxHeartbeats 4000000 in
theorem s_Audit_totalWith {S : AS} {a0 : Option Nat} {a1 : Int32} {a2 : Int32} {r : (Int32 × AS)} (h : f_Audit_totalWith S a0 a1 a2 = some r) : kr_Con m_Audit_totalWith 0 [va_rf a0, .int a1, .int a2] S (kr_eI r) := by
  refine kr_con rfl rfl (by decide +kernel) (by simp [lg_sl, kr_rfcat, kr_icat, m_Audit_totalWith, mL]) ?_
  rw [show lv_args 0 [va_rf a0, .int a1, .int a2] = [(0, va_rf a0), (1, .int a1), (2, .int a2)] from by simp [lv_args, kr_rfcat, kr_icat]]
  unfold f_Audit_totalWith at h
  refine r_iload_n (i := 2) (x := a2) 2 rfl d_Audit_totalWith_0 ?_
  refine r_if_lt (tgt := 11) d_Audit_totalWith_1 rfl (fun c => ?_) (fun c => ?_)
  · replace h := kr_ip c h
    refine r_iload_n (i := 1) (x := a1) 1 rfl d_Audit_totalWith_11 ?_
    cases h
    exact r_iret rfl d_Audit_totalWith_12
  · replace h := kr_in_ c h
    refine r_iload_n (i := 2) (x := a2) 2 rfl d_Audit_totalWith_4 ?_
    refine r_sipush (v := (1024 : Int32)) (by decide) d_Audit_totalWith_5 ?_
    refine r_icmp_lt (tgt := 13) d_Audit_totalWith_8 rfl (fun c => ?_) (fun c => ?_)
    · replace h := kr_ip c h
      refine r_aload_n (i := 0) (x := a0) 0 rfl d_Audit_totalWith_13 ?_
      have h2 := kr_ob h
      clear h
      obtain ⟨v1, ev1, h⟩ := h2
      refine r_getR ev1 fk0 rfl d_Audit_totalWith_14 ?_
      refine r_iload_n (i := 2) (x := a2) 2 rfl d_Audit_totalWith_17 ?_
      have h2 := kr_ob h
      clear h
      obtain ⟨v2, ev2, h⟩ := h2
      refine r_iaload ev2 d_Audit_totalWith_18 ?_
      refine r_sipush (v := (1000 : Int32)) (by decide) d_Audit_totalWith_19 ?_
      refine r_idiv (by decide) d_Audit_totalWith_22 ?_
      have h2 := kr_ob h
      clear h
      obtain ⟨i3, ei3, h⟩ := h2
      refine kr_nmI ei3 ?_
      refine r_istore_n (i := 3) (lv' := [(3, .int i3), (0, va_rf a0), (1, .int a1), (2, .int a2)]) (by decide) rfl d_Audit_totalWith_23 ?_
      refine r_aload_n (i := 0) (x := a0) 1 rfl d_Audit_totalWith_24 ?_
      have h2 := kr_ob h
      clear h
      obtain ⟨v4, ev4, h⟩ := h2
      refine r_getR ev4 fk0 rfl d_Audit_totalWith_25 ?_
      refine r_iload_n (i := 2) (x := a2) 3 rfl d_Audit_totalWith_28 ?_
      have h2 := kr_ob h
      clear h
      obtain ⟨v5, ev5, h⟩ := h2
      refine r_iaload ev5 d_Audit_totalWith_29 ?_
      refine r_sipush (v := (1000 : Int32)) (by decide) d_Audit_totalWith_30 ?_
      refine r_irem (by decide) d_Audit_totalWith_33 ?_
      have h2 := kr_ob h
      clear h
      obtain ⟨i6, ei6, h⟩ := h2
      refine kr_nmI ei6 ?_
      refine r_istore (i := 4) (lv' := [(4, .int i6), (3, .int i3), (0, va_rf a0), (1, .int a1), (2, .int a2)]) (by decide) rfl d_Audit_totalWith_34 ?_
      refine r_bipush (v := (31 : Int32)) (by decide) d_Audit_totalWith_36 ?_
      refine r_iload_n (i := 1) (x := a1) 3 rfl d_Audit_totalWith_38 ?_
      refine r_imul d_Audit_totalWith_39 ?_
      refine r_bipush (v := (100 : Int32)) (by decide) d_Audit_totalWith_40 ?_
      refine r_iload_n (i := 3) (x := i3) 1 rfl d_Audit_totalWith_42 ?_
      refine r_imul d_Audit_totalWith_43 ?_
      refine r_iadd d_Audit_totalWith_44 ?_
      refine r_iload (i := 4) (x := i6) 0 rfl d_Audit_totalWith_45 ?_
      refine r_iadd d_Audit_totalWith_47 ?_
      refine r_aload_n (i := 0) (x := a0) 2 rfl d_Audit_totalWith_48 ?_
      have h2 := kr_ob h
      clear h
      obtain ⟨v7, ev7, h⟩ := h2
      refine r_getR ev7 fk1 rfl d_Audit_totalWith_49 ?_
      refine r_iload_n (i := 2) (x := a2) 4 rfl d_Audit_totalWith_52 ?_
      have h2 := kr_ob h
      clear h
      obtain ⟨v8, ev8, h⟩ := h2
      refine r_iaload ev8 d_Audit_totalWith_53 ?_
      refine r_iadd d_Audit_totalWith_54 ?_
      refine r_ldc (v := (65521 : Int32)) w480 d_Audit_totalWith_55 ?_
      have h2 := kr_ob h
      clear h
      obtain ⟨i9, ei9, h⟩ := h2
      refine kr_nmI2 ei9 ?_
      refine r_irem (by decide) d_Audit_totalWith_57 ?_
      cases h
      exact r_iret rfl d_Audit_totalWith_58
    · replace h := kr_in_ c h
      refine r_iload_n (i := 1) (x := a1) 1 rfl d_Audit_totalWith_11 ?_
      cases h
      exact r_iret rfl d_Audit_totalWith_12
/-! KeyringCourt$Audit.write(III)V -/
def f_Audit_write (S : AS) (a0 : Option Nat) (a1 : Int32) (a2 : Int32) (a3 : Int32) : Option AS :=
  (gI S 12 2 a0).bind fun v1 =>
  if v1 < 0 then
  some S
  else
  (gI S 12 2 a0).bind fun v2 =>
  if v2 < (1024 : Int32) then
  (gR S 12 0 a0).bind fun v3 =>
  (gI S 12 2 a0).bind fun v4 =>
  (bI S v3 v4 (((1000 : Int32) * a1) + a2)).bind fun S5 =>
  (gR S5 12 1 a0).bind fun v6 =>
  (gI S5 12 2 a0).bind fun v7 =>
  (bI S5 v6 v7 a3).bind fun S8 =>
  (gI S8 12 3 a0).bind fun v9 =>
  (gI S8 12 2 a0).bind fun v10 =>
  (kr_rv S8 12 a0).bind fun u11 =>
  kr_b2 (f_Audit_totalWith S8 a0 v9 v10) fun v13 S12 =>
  (pI S12 12 3 a0 v13).bind fun S14 =>
  (gI S14 12 2 a0).bind fun v15 =>
  (pI S14 12 2 a0 (v15 + (1 : Int32))).bind fun S16 =>
  some S16
  else
  some S
set_option maxRecDepth 20000 in
set_option maxHeartbeats 4000000 in
theorem s_Audit_write {S : AS} {a0 : Option Nat} {a1 : Int32} {a2 : Int32} {a3 : Int32} {r : AS} (h : f_Audit_write S a0 a1 a2 a3 = some r) : kr_Con m_Audit_write 1 [va_rf a0, .int a1, .int a2, .int a3] S (kr_eV r) := by
  refine kr_con rfl rfl (by decide +kernel) (by simp [lg_sl, kr_rfcat, kr_icat, m_Audit_write, mL]) ?_
  rw [show lv_args 0 [va_rf a0, .int a1, .int a2, .int a3] = [(0, va_rf a0), (1, .int a1), (2, .int a2), (3, .int a3)] from by simp [lv_args, kr_rfcat, kr_icat]]
  unfold f_Audit_write at h
  refine r_aload_n (i := 0) (x := a0) 0 rfl d_Audit_write_0 ?_
  have h2 := kr_ob h
  clear h
  obtain ⟨v1, ev1, h⟩ := h2
  refine r_getI ev1 fk112 rfl d_Audit_write_1 ?_
  refine r_if_lt (tgt := 17) d_Audit_write_4 rfl (fun c => ?_) (fun c => ?_)
  · replace h := kr_ip c h
    cases h
    exact r_vret rfl d_Audit_write_17
  · replace h := kr_in_ c h
    refine r_aload_n (i := 0) (x := a0) 0 rfl d_Audit_write_7 ?_
    have h2 := kr_ob h
    clear h
    obtain ⟨v2, ev2, h⟩ := h2
    refine r_getI ev2 fk112 rfl d_Audit_write_8 ?_
    refine r_sipush (v := (1024 : Int32)) (by decide) d_Audit_write_11 ?_
    refine r_icmp_lt (tgt := 18) d_Audit_write_14 rfl (fun c => ?_) (fun c => ?_)
    · replace h := kr_ip c h
      refine r_aload_n (i := 0) (x := a0) 0 rfl d_Audit_write_18 ?_
      have h2 := kr_ob h
      clear h
      obtain ⟨v3, ev3, h⟩ := h2
      refine r_getR ev3 fk0 rfl d_Audit_write_19 ?_
      refine r_aload_n (i := 0) (x := a0) 0 rfl d_Audit_write_22 ?_
      have h2 := kr_ob h
      clear h
      obtain ⟨v4, ev4, h⟩ := h2
      refine r_getI ev4 fk112 rfl d_Audit_write_23 ?_
      refine r_sipush (v := (1000 : Int32)) (by decide) d_Audit_write_26 ?_
      refine r_iload_n (i := 1) (x := a1) 1 rfl d_Audit_write_29 ?_
      refine r_imul d_Audit_write_30 ?_
      refine r_iload_n (i := 2) (x := a2) 2 rfl d_Audit_write_31 ?_
      refine r_iadd d_Audit_write_32 ?_
      have h2 := kr_ob h
      clear h
      obtain ⟨S5, eS5, h⟩ := h2
      refine r_iastore eS5 d_Audit_write_33 ?_
      refine r_aload_n (i := 0) (x := a0) 0 rfl d_Audit_write_34 ?_
      have h2 := kr_ob h
      clear h
      obtain ⟨v6, ev6, h⟩ := h2
      refine r_getR ev6 fk1 rfl d_Audit_write_35 ?_
      refine r_aload_n (i := 0) (x := a0) 0 rfl d_Audit_write_38 ?_
      have h2 := kr_ob h
      clear h
      obtain ⟨v7, ev7, h⟩ := h2
      refine r_getI ev7 fk112 rfl d_Audit_write_39 ?_
      refine r_iload_n (i := 3) (x := a3) 3 rfl d_Audit_write_42 ?_
      have h2 := kr_ob h
      clear h
      obtain ⟨S8, eS8, h⟩ := h2
      refine r_iastore eS8 d_Audit_write_43 ?_
      refine r_aload_n (i := 0) (x := a0) 0 rfl d_Audit_write_44 ?_
      refine r_aload_n (i := 0) (x := a0) 0 rfl d_Audit_write_45 ?_
      refine r_aload_n (i := 0) (x := a0) 0 rfl d_Audit_write_46 ?_
      have h2 := kr_ob h
      clear h
      obtain ⟨v9, ev9, h⟩ := h2
      refine r_getI ev9 fk2 rfl d_Audit_write_47 ?_
      refine r_aload_n (i := 0) (x := a0) 0 rfl d_Audit_write_50 ?_
      have h2 := kr_ob h
      clear h
      obtain ⟨v10, ev10, h⟩ := h2
      refine r_getI ev10 fk112 rfl d_Audit_write_51 ?_
      have h2 := kr_ob h
      clear h
      obtain ⟨⟨⟩, eu11, h⟩ := h2
      have h2 := kr_ob2 h
      clear h
      obtain ⟨v13, S12, eS12, h⟩ := h2
      refine r_callV (M1 := m_Audit_totalWith) (κ := 12) (As := [.int v9, .int v10]) eu11 (s_Audit_totalWith eS12) mok_Audit_totalWith rfl (by decide) rfl w476 w478 w2 (by decide) (kr_c8 (kr_cR kr_c0)) d_Audit_write_54 (kr_k1 ?_) kr_kn
      have h2 := kr_ob h
      clear h
      obtain ⟨S14, eS14, h⟩ := h2
      refine r_putI eS14 fk2 (Or.inl rfl) rfl d_Audit_write_57 ?_
      refine r_aload_n (i := 0) (x := a0) 0 rfl d_Audit_write_60 ?_
      refine r_dup (kr_rfcat _) d_Audit_write_61 ?_
      have h2 := kr_ob h
      clear h
      obtain ⟨v15, ev15, h⟩ := h2
      refine r_getI ev15 fk112 rfl d_Audit_write_62 ?_
      refine r_iconst (v := (1 : Int32)) (by decide) d_Audit_write_65 ?_
      refine r_iadd d_Audit_write_66 ?_
      have h2 := kr_ob h
      clear h
      obtain ⟨S16, eS16, h⟩ := h2
      refine r_putI eS16 fk112 (Or.inl rfl) rfl d_Audit_write_67 ?_
      cases h
      exact r_vret rfl d_Audit_write_70
    · replace h := kr_in_ c h
      cases h
      exact r_vret rfl d_Audit_write_17
/-! KeyringCourt$Keyring.retire(I)V -/
def f_Keyring_retire_B40 (k2 : AS → Option Nat → Int32 → Int32 → Option AS) (S : AS) (x0 : Option Nat) (x1 : Int32) (x2 : Int32) : Option AS :=
  (some (x2 + (1 : Int32))).bind fun i1 =>
  k2 S x0 x1 i1
def f_Keyring_retire_C2 (k2 : AS → Option Nat → Int32 → Int32 → Option AS) (S : AS) (x0 : Option Nat) (x1 : Int32) (x2 : Int32) : Option AS :=
  (gI S 15 0 x0).bind fun v2 =>
  if v2 ≤ x2 then
  some S
  else
  if (20 : Int32) ≤ x2 then
  some S
  else
  (gR S 15 5 x0).bind fun v3 =>
  (aI S 40 v3 x2).bind fun v4 =>
  if v4 = x1 then
  (gI S 15 4 x0).bind fun v5 =>
  (pI S 15 4 x0 (v5 &&& (((1 : Int32) <<< (x2 &&& 31)) ^^^ (-1 : Int32)))).bind fun S6 =>
  f_Keyring_retire_B40 k2 S6 x0 x1 x2
  else
  f_Keyring_retire_B40 k2 S x0 x1 x2
def f_Keyring_retire_L2 : Nat → AS → Option Nat → Int32 → Int32 → Option AS
  | 0, S, x0, x1, x2 => none
  | n + 1, S, x0, x1, x2 => f_Keyring_retire_C2 (f_Keyring_retire_L2 n) S x0 x1 x2
def f_Keyring_retire (S : AS) (a0 : Option Nat) (a1 : Int32) : Option AS :=
  f_Keyring_retire_L2 kr_FU S a0 a1 (0 : Int32)
set_option maxRecDepth 20000 in
set_option maxHeartbeats 4000000 in
theorem s_Keyring_retire_B40 {k2 : AS → Option Nat → Int32 → Int32 → Option AS} (hk2 : ∀ {S : AS} {x0 : Option Nat} {x1 : Int32} {x2 : Int32} {r : AS}, k2 S x0 x1 x2 = some r → kr_AW m_Keyring_retire 0 2 [(0, va_rf x0), (1, .int x1), (2, .int x2)] [] S (kr_eV r)) {S : AS} {x0 : Option Nat} {x1 : Int32} {x2 : Int32} {r : AS} (h : f_Keyring_retire_B40 k2 S x0 x1 x2 = some r) : kr_AW m_Keyring_retire 0 40 [(0, va_rf x0), (1, .int x1), (2, .int x2)] [] S (kr_eV r) := by
  unfold f_Keyring_retire_B40 at h
  have h2 := kr_ob h
  clear h
  obtain ⟨i1, ei1, h⟩ := h2
  refine r_iinc (v := i1) (lv' := [(2, .int i1), (0, va_rf x0), (1, .int x1)]) 2 rfl (kr_inc (by decide) ei1) (by decide) rfl d_Keyring_retire_40 ?_
  refine r_goto (tgt := 2) d_Keyring_retire_43 rfl ?_
  exact kr_sub [1, 2, 0] rfl (hk2 h)
set_option maxRecDepth 20000 in
set_option maxHeartbeats 4000000 in
theorem s_Keyring_retire_C2 {k2 : AS → Option Nat → Int32 → Int32 → Option AS} (hk2 : ∀ {S : AS} {x0 : Option Nat} {x1 : Int32} {x2 : Int32} {r : AS}, k2 S x0 x1 x2 = some r → kr_AW m_Keyring_retire 0 2 [(0, va_rf x0), (1, .int x1), (2, .int x2)] [] S (kr_eV r)) {S : AS} {x0 : Option Nat} {x1 : Int32} {x2 : Int32} {r : AS} (h : f_Keyring_retire_C2 k2 S x0 x1 x2 = some r) : kr_AW m_Keyring_retire 0 2 [(0, va_rf x0), (1, .int x1), (2, .int x2)] [] S (kr_eV r) := by
  unfold f_Keyring_retire_C2 at h
  refine r_iload_n (i := 2) (x := x2) 2 rfl d_Keyring_retire_2 ?_
  refine r_aload_n (i := 0) (x := x0) 0 rfl d_Keyring_retire_3 ?_
  have h2 := kr_ob h
  clear h
  obtain ⟨v2, ev2, h⟩ := h2
  refine r_getI ev2 fk10 rfl d_Keyring_retire_4 ?_
  refine r_icmp_ge (tgt := 46) d_Keyring_retire_7 rfl (fun c => ?_) (fun c => ?_)
  · replace h := kr_ip c h
    cases h
    exact r_vret rfl d_Keyring_retire_46
  · replace h := kr_in_ c h
    refine r_iload_n (i := 2) (x := x2) 2 rfl d_Keyring_retire_10 ?_
    refine r_bipush (v := (20 : Int32)) (by decide) d_Keyring_retire_11 ?_
    refine r_icmp_ge (tgt := 46) d_Keyring_retire_13 rfl (fun c => ?_) (fun c => ?_)
    · replace h := kr_ip c h
      cases h
      exact r_vret rfl d_Keyring_retire_46
    · replace h := kr_in_ c h
      refine r_aload_n (i := 0) (x := x0) 0 rfl d_Keyring_retire_16 ?_
      have h2 := kr_ob h
      clear h
      obtain ⟨v3, ev3, h⟩ := h2
      refine r_getR ev3 fk13 rfl d_Keyring_retire_17 ?_
      refine r_iload_n (i := 2) (x := x2) 2 rfl d_Keyring_retire_20 ?_
      have h2 := kr_ob h
      clear h
      obtain ⟨v4, ev4, h⟩ := h2
      refine r_iaload ev4 d_Keyring_retire_21 ?_
      refine r_iload_n (i := 1) (x := x1) 1 rfl d_Keyring_retire_22 ?_
      refine r_icmp_ne (tgt := 40) d_Keyring_retire_23 rfl (fun c => ?_) (fun c => ?_)
      · replace h := kr_ip c h
        refine r_aload_n (i := 0) (x := x0) 0 rfl d_Keyring_retire_26 ?_
        refine r_dup (kr_rfcat _) d_Keyring_retire_27 ?_
        have h2 := kr_ob h
        clear h
        obtain ⟨v5, ev5, h⟩ := h2
        refine r_getI ev5 fk12 rfl d_Keyring_retire_28 ?_
        refine r_iconst (v := (1 : Int32)) (by decide) d_Keyring_retire_31 ?_
        refine r_iload_n (i := 2) (x := x2) 2 rfl d_Keyring_retire_32 ?_
        refine r_ishl d_Keyring_retire_33 ?_
        refine r_iconst (v := (-1 : Int32)) (by decide) d_Keyring_retire_34 ?_
        refine r_ixor d_Keyring_retire_35 ?_
        refine r_iand d_Keyring_retire_36 ?_
        have h2 := kr_ob h
        clear h
        obtain ⟨S6, eS6, h⟩ := h2
        refine r_putI eS6 fk12 (Or.inl rfl) rfl d_Keyring_retire_37 ?_
        exact kr_sub [0, 1, 2] rfl (s_Keyring_retire_B40 hk2 h)
      · replace h := kr_in_ c h
        exact kr_sub [0, 1, 2] rfl (s_Keyring_retire_B40 hk2 h)
theorem s_Keyring_retire_L2 (n : Nat) : ∀ {S : AS} {x0 : Option Nat} {x1 : Int32} {x2 : Int32} {r : AS}, f_Keyring_retire_L2 n S x0 x1 x2 = some r → kr_AW m_Keyring_retire 0 2 [(0, va_rf x0), (1, .int x1), (2, .int x2)] [] S (kr_eV r) := by
  induction n with
  | zero => intro S x0 x1 x2 r h; cases h
  | succ n ih => intro S x0 x1 x2 r h; exact s_Keyring_retire_C2 (fun {_} {_} {_} {_} {_} h => ih h) h
set_option maxRecDepth 20000 in
set_option maxHeartbeats 4000000 in
theorem s_Keyring_retire {S : AS} {a0 : Option Nat} {a1 : Int32} {r : AS} (h : f_Keyring_retire S a0 a1 = some r) : kr_Con m_Keyring_retire 0 [va_rf a0, .int a1] S (kr_eV r) := by
  refine kr_con rfl rfl (by decide +kernel) (by simp [lg_sl, kr_rfcat, kr_icat, m_Keyring_retire, mL]) ?_
  rw [show lv_args 0 [va_rf a0, .int a1] = [(0, va_rf a0), (1, .int a1)] from by simp [lv_args, kr_rfcat, kr_icat]]
  unfold f_Keyring_retire at h
  refine r_iconst (v := (0 : Int32)) (by decide) d_Keyring_retire_0 ?_
  refine r_istore_n (i := 2) (lv' := [(2, .int (0 : Int32)), (0, va_rf a0), (1, .int a1)]) (by decide) rfl d_Keyring_retire_1 ?_
  exact kr_sub [1, 2, 0] rfl (s_Keyring_retire_L2 kr_FU h)
/-! java/util/ArrayList.size()I -/
def f_AL_size (S : AS) (a0 : Option Nat) : Option (Int32 × AS) :=
  (gI S 10 2 a0).bind fun v1 =>
  some (v1, S)
set_option maxRecDepth 20000 in
set_option maxHeartbeats 4000000 in
theorem s_AL_size {S : AS} {a0 : Option Nat} {r : (Int32 × AS)} (h : f_AL_size S a0 = some r) : kr_Con m_AL_size 0 [va_rf a0] S (kr_eI r) := by
  refine kr_con rfl rfl (by decide +kernel) (by simp [lg_sl, kr_rfcat, kr_icat, m_AL_size, mL]) ?_
  rw [show lv_args 0 [va_rf a0] = [(0, va_rf a0)] from by simp [lv_args, kr_rfcat, kr_icat]]
  unfold f_AL_size at h
  refine r_aload_n (i := 0) (x := a0) 0 rfl d_AL_size_0 ?_
  have h2 := kr_ob h
  clear h
  obtain ⟨v1, ev1, h⟩ := h2
  refine r_getI ev1 fk115 rfl d_AL_size_1 ?_
  cases h
  exact r_iret rfl d_AL_size_4
/-! jdk/internal/util/Preconditions.checkIndex(IILjava/util/function/BiFunction;)I -/
def f_PR_checkIndex_B9 (S : AS) (x0 : Int32) (x1 : Int32) (x2 : Option Nat) : Option (Int32 × AS) :=
  none
def f_PR_checkIndex (S : AS) (a0 : Int32) (a1 : Int32) (a2 : Option Nat) : Option (Int32 × AS) :=
  if a0 < 0 then
  f_PR_checkIndex_B9 S a0 a1 a2
  else
  if a0 < a1 then
  some (a0, S)
  else
  f_PR_checkIndex_B9 S a0 a1 a2
set_option maxRecDepth 20000 in
set_option maxHeartbeats 4000000 in
theorem s_PR_checkIndex_B9 {S : AS} {x0 : Int32} {x1 : Int32} {x2 : Option Nat} {r : (Int32 × AS)} (h : f_PR_checkIndex_B9 S x0 x1 x2 = some r) : kr_AW m_PR_checkIndex 0 9 [(0, .int x0), (1, .int x1), (2, va_rf x2)] [] S (kr_eI r) := by
  unfold f_PR_checkIndex_B9 at h
  refine r_aload_n (i := 2) (x := x2) 2 rfl d_PR_checkIndex_9 ?_
  refine r_iload_n (i := 0) (x := x0) 0 rfl d_PR_checkIndex_10 ?_
  refine r_iload_n (i := 1) (x := x1) 1 rfl d_PR_checkIndex_11 ?_
  cases h
set_option maxRecDepth 20000 in
set_option maxHeartbeats 4000000 in
theorem s_PR_checkIndex {S : AS} {a0 : Int32} {a1 : Int32} {a2 : Option Nat} {r : (Int32 × AS)} (h : f_PR_checkIndex S a0 a1 a2 = some r) : kr_Con m_PR_checkIndex 0 [.int a0, .int a1, va_rf a2] S (kr_eI r) := by
  refine kr_con rfl rfl (by decide +kernel) (by simp [lg_sl, kr_rfcat, kr_icat, m_PR_checkIndex, mL]) ?_
  rw [show lv_args 0 [.int a0, .int a1, va_rf a2] = [(0, .int a0), (1, .int a1), (2, va_rf a2)] from by simp [lv_args, kr_rfcat, kr_icat]]
  unfold f_PR_checkIndex at h
  refine r_iload_n (i := 0) (x := a0) 0 rfl d_PR_checkIndex_0 ?_
  refine r_if_lt (tgt := 9) d_PR_checkIndex_1 rfl (fun c => ?_) (fun c => ?_)
  · replace h := kr_ip c h
    exact kr_sub [0, 1, 2] rfl (s_PR_checkIndex_B9 h)
  · replace h := kr_in_ c h
    refine r_iload_n (i := 0) (x := a0) 0 rfl d_PR_checkIndex_4 ?_
    refine r_iload_n (i := 1) (x := a1) 1 rfl d_PR_checkIndex_5 ?_
    refine r_icmp_lt (tgt := 16) d_PR_checkIndex_6 rfl (fun c => ?_) (fun c => ?_)
    · replace h := kr_ip c h
      refine r_iload_n (i := 0) (x := a0) 0 rfl d_PR_checkIndex_16 ?_
      cases h
      exact r_iret rfl d_PR_checkIndex_17
    · replace h := kr_in_ c h
      exact kr_sub [0, 1, 2] rfl (s_PR_checkIndex_B9 h)
/-! java/util/Objects.checkIndex(II)I -/
def f_OB_checkIndex (S : AS) (a0 : Int32) (a1 : Int32) : Option (Int32 × AS) :=
  kr_b2 (f_PR_checkIndex S a0 a1 none) fun v2 S1 =>
  some (v2, S1)
set_option maxRecDepth 20000 in
set_option maxHeartbeats 4000000 in
theorem s_OB_checkIndex {S : AS} {a0 : Int32} {a1 : Int32} {r : (Int32 × AS)} (h : f_OB_checkIndex S a0 a1 = some r) : kr_Con m_OB_checkIndex 1 [.int a0, .int a1] S (kr_eI r) := by
  refine kr_con rfl rfl (by decide +kernel) (by simp [lg_sl, kr_rfcat, kr_icat, m_OB_checkIndex, mL]) ?_
  rw [show lv_args 0 [.int a0, .int a1] = [(0, .int a0), (1, .int a1)] from by simp [lv_args, kr_rfcat, kr_icat]]
  unfold f_OB_checkIndex at h
  refine r_iload_n (i := 0) (x := a0) 0 rfl d_OB_checkIndex_0 ?_
  refine r_iload_n (i := 1) (x := a1) 1 rfl d_OB_checkIndex_1 ?_
  refine r_null d_OB_checkIndex_2 ?_
  have h2 := kr_ob2 h
  clear h
  obtain ⟨v2, S1, eS1, h⟩ := h2
  refine r_callS (M1 := m_PR_checkIndex) (As := [.int a0, .int a1, va_rf none]) (s_PR_checkIndex eS1) mok_PR_checkIndex rfl w496 w497 (by decide) (kr_c8 kr_c0) d_OB_checkIndex_3 (kr_k1 ?_) kr_kn
  cases h
  exact r_iret rfl d_OB_checkIndex_6
/-! java/util/ArrayList.elementData(I)Ljava/lang/Object; -/
def f_AL_elementData (S : AS) (a0 : Option Nat) (a1 : Int32) : Option (Option Nat × AS) :=
  (gR S 10 1 a0).bind fun v1 =>
  (aR S 43 v1 a1).bind fun v2 =>
  some (v2, S)
set_option maxRecDepth 20000 in
set_option maxHeartbeats 4000000 in
theorem s_AL_elementData {S : AS} {a0 : Option Nat} {a1 : Int32} {r : (Option Nat × AS)} (h : f_AL_elementData S a0 a1 = some r) : kr_Con m_AL_elementData 0 [va_rf a0, .int a1] S (kr_eR r) := by
  refine kr_con rfl rfl (by decide +kernel) (by simp [lg_sl, kr_rfcat, kr_icat, m_AL_elementData, mL]) ?_
  rw [show lv_args 0 [va_rf a0, .int a1] = [(0, va_rf a0), (1, .int a1)] from by simp [lv_args, kr_rfcat, kr_icat]]
  unfold f_AL_elementData at h
  refine r_aload_n (i := 0) (x := a0) 0 rfl d_AL_elementData_0 ?_
  have h2 := kr_ob h
  clear h
  obtain ⟨v1, ev1, h⟩ := h2
  refine r_getR ev1 fk9 rfl d_AL_elementData_1 ?_
  refine r_iload_n (i := 1) (x := a1) 1 rfl d_AL_elementData_4 ?_
  have h2 := kr_ob h
  clear h
  obtain ⟨v2, ev2, h⟩ := h2
  refine r_aaload (by decide) ev2 d_AL_elementData_5 ?_
  cases h
  exact r_aret rfl rfl d_AL_elementData_6
/-! java/util/ArrayList.get(I)Ljava/lang/Object; -/
def f_AL_get (S : AS) (a0 : Option Nat) (a1 : Int32) : Option (Option Nat × AS) :=
  (gI S 10 2 a0).bind fun v1 =>
  kr_b2 (f_OB_checkIndex S a1 v1) fun v3 S2 =>
  (kr_rv S2 10 a0).bind fun u4 =>
  kr_b2 (f_AL_elementData S2 a0 a1) fun v6 S5 =>
  some (v6, S5)
set_option maxRecDepth 20000 in
set_option maxHeartbeats 4000000 in
theorem s_AL_get {S : AS} {a0 : Option Nat} {a1 : Int32} {r : (Option Nat × AS)} (h : f_AL_get S a0 a1 = some r) : kr_Con m_AL_get 2 [va_rf a0, .int a1] S (kr_eR r) := by
  refine kr_con rfl rfl (by decide +kernel) (by simp [lg_sl, kr_rfcat, kr_icat, m_AL_get, mL]) ?_
  rw [show lv_args 0 [va_rf a0, .int a1] = [(0, va_rf a0), (1, .int a1)] from by simp [lv_args, kr_rfcat, kr_icat]]
  unfold f_AL_get at h
  refine r_iload_n (i := 1) (x := a1) 1 rfl d_AL_get_0 ?_
  refine r_aload_n (i := 0) (x := a0) 0 rfl d_AL_get_1 ?_
  have h2 := kr_ob h
  clear h
  obtain ⟨v1, ev1, h⟩ := h2
  refine r_getI ev1 fk115 rfl d_AL_get_2 ?_
  have h2 := kr_ob2 h
  clear h
  obtain ⟨v3, S2, eS2, h⟩ := h2
  refine r_callS (M1 := m_OB_checkIndex) (As := [.int a1, .int v1]) (s_OB_checkIndex eS2) mok_OB_checkIndex rfl w493 w494 (by decide) (kr_c8 kr_c0) d_AL_get_5 (kr_k1 ?_) kr_kn
  refine r_pop rfl d_AL_get_8 ?_
  refine r_aload_n (i := 0) (x := a0) 0 rfl d_AL_get_9 ?_
  refine r_iload_n (i := 1) (x := a1) 1 rfl d_AL_get_10 ?_
  have h2 := kr_ob h
  clear h
  obtain ⟨⟨⟩, eu4, h⟩ := h2
  have h2 := kr_ob2 h
  clear h
  obtain ⟨v6, S5, eS5, h⟩ := h2
  refine r_callV (M1 := m_AL_elementData) (κ := 10) (As := [.int a1]) eu4 (s_AL_elementData eS5) mok_AL_elementData rfl (by decide) rfl w499 w500 w501 (by decide) (kr_c8 kr_c0) d_AL_get_11 (kr_k1 ?_) kr_kn
  cases h
  exact r_aret rfl rfl d_AL_get_14
/-! KeyringCourt$Session.isOldAt(I)Z -/
def f_Session_isOldAt_B23 (S : AS) : Option (Int32 × AS) :=
  some ((1 : Int32), S)
def f_Session_isOldAt (S : AS) (a0 : Option Nat) (a1 : Int32) : Option (Int32 × AS) :=
  (gI S 19 5 a0).bind fun v1 =>
  if (30 : Int32) < (a1 - v1) then
  f_Session_isOldAt_B23 S
  else
  (gI S 19 4 a0).bind fun v2 =>
  if (a1 - v2) ≤ (480 : Int32) then
  some ((0 : Int32), S)
  else
  f_Session_isOldAt_B23 S
set_option maxRecDepth 20000 in
set_option maxHeartbeats 4000000 in
theorem s_Session_isOldAt_B23 {S : AS} {r : (Int32 × AS)} (h : f_Session_isOldAt_B23 S = some r) : kr_AW m_Session_isOldAt 0 23 [] [] S (kr_eI r) := by
  unfold f_Session_isOldAt_B23 at h
  refine r_iconst (v := (1 : Int32)) (by decide) d_Session_isOldAt_23 ?_
  refine r_goto (tgt := 28) d_Session_isOldAt_24 rfl ?_
  cases h
  exact r_zret rfl rfl d_Session_isOldAt_28
set_option maxRecDepth 20000 in
set_option maxHeartbeats 4000000 in
theorem s_Session_isOldAt {S : AS} {a0 : Option Nat} {a1 : Int32} {r : (Int32 × AS)} (h : f_Session_isOldAt S a0 a1 = some r) : kr_Con m_Session_isOldAt 0 [va_rf a0, .int a1] S (kr_eI r) := by
  refine kr_con rfl rfl (by decide +kernel) (by simp [lg_sl, kr_rfcat, kr_icat, m_Session_isOldAt, mL]) ?_
  rw [show lv_args 0 [va_rf a0, .int a1] = [(0, va_rf a0), (1, .int a1)] from by simp [lv_args, kr_rfcat, kr_icat]]
  unfold f_Session_isOldAt at h
  refine r_iload_n (i := 1) (x := a1) 1 rfl d_Session_isOldAt_0 ?_
  refine r_aload_n (i := 0) (x := a0) 0 rfl d_Session_isOldAt_1 ?_
  have h2 := kr_ob h
  clear h
  obtain ⟨v1, ev1, h⟩ := h2
  refine r_getI ev1 fk116 rfl d_Session_isOldAt_2 ?_
  refine r_isub d_Session_isOldAt_5 ?_
  refine r_bipush (v := (30 : Int32)) (by decide) d_Session_isOldAt_6 ?_
  refine r_icmp_gt (tgt := 23) d_Session_isOldAt_8 rfl (fun c => ?_) (fun c => ?_)
  · replace h := kr_ip c h
    exact kr_sub [] rfl (s_Session_isOldAt_B23 h)
  · replace h := kr_in_ c h
    refine r_iload_n (i := 1) (x := a1) 1 rfl d_Session_isOldAt_11 ?_
    refine r_aload_n (i := 0) (x := a0) 0 rfl d_Session_isOldAt_12 ?_
    have h2 := kr_ob h
    clear h
    obtain ⟨v2, ev2, h⟩ := h2
    refine r_getI ev2 fk117 rfl d_Session_isOldAt_13 ?_
    refine r_isub d_Session_isOldAt_16 ?_
    refine r_sipush (v := (480 : Int32)) (by decide) d_Session_isOldAt_17 ?_
    refine r_icmp_le (tgt := 27) d_Session_isOldAt_20 rfl (fun c => ?_) (fun c => ?_)
    · replace h := kr_ip c h
      refine r_iconst (v := (0 : Int32)) (by decide) d_Session_isOldAt_27 ?_
      cases h
      exact r_zret rfl rfl d_Session_isOldAt_28
    · replace h := kr_in_ c h
      exact kr_sub [] rfl (s_Session_isOldAt_B23 h)
/-! KeyringCourt.isIn(II)Z -/
def f_K_isIn (S : AS) (a0 : Int32) (a1 : Int32) : Option (Int32 × AS) :=
  if ((a1 >>> (a0 &&& 31)) &&& (1 : Int32)) = (1 : Int32) then
  some ((1 : Int32), S)
  else
  some ((0 : Int32), S)
set_option maxRecDepth 20000 in
set_option maxHeartbeats 4000000 in
theorem s_K_isIn {S : AS} {a0 : Int32} {a1 : Int32} {r : (Int32 × AS)} (h : f_K_isIn S a0 a1 = some r) : kr_Con m_K_isIn 0 [.int a0, .int a1] S (kr_eI r) := by
  refine kr_con rfl rfl (by decide +kernel) (by simp [lg_sl, kr_rfcat, kr_icat, m_K_isIn, mL]) ?_
  rw [show lv_args 0 [.int a0, .int a1] = [(0, .int a0), (1, .int a1)] from by simp [lv_args, kr_rfcat, kr_icat]]
  unfold f_K_isIn at h
  refine r_iload_n (i := 1) (x := a1) 1 rfl d_K_isIn_0 ?_
  refine r_iload_n (i := 0) (x := a0) 0 rfl d_K_isIn_1 ?_
  refine r_ishr d_K_isIn_2 ?_
  refine r_iconst (v := (1 : Int32)) (by decide) d_K_isIn_3 ?_
  refine r_iand d_K_isIn_4 ?_
  refine r_iconst (v := (1 : Int32)) (by decide) d_K_isIn_5 ?_
  refine r_icmp_ne (tgt := 13) d_K_isIn_6 rfl (fun c => ?_) (fun c => ?_)
  · replace h := kr_ip c h
    refine r_iconst (v := (1 : Int32)) (by decide) d_K_isIn_9 ?_
    refine r_goto (tgt := 14) d_K_isIn_10 rfl ?_
    cases h
    exact r_zret rfl rfl d_K_isIn_14
  · replace h := kr_in_ c h
    refine r_iconst (v := (0 : Int32)) (by decide) d_K_isIn_13 ?_
    cases h
    exact r_zret rfl rfl d_K_isIn_14
/-! KeyringCourt$Grant.tell(I)Z -/
def f_Grant_tell (S : AS) (a0 : Option Nat) (a1 : Int32) : Option (Int32 × AS) :=
  (gI S 14 10 a0).bind fun v1 =>
  kr_b2 (f_K_isIn S a1 v1) fun v3 S2 =>
  if v3 = 0 then
  some ((0 : Int32), S2)
  else
  (gI S2 14 11 a0).bind fun v4 =>
  kr_b2 (f_K_isIn S2 a1 v4) fun v6 S5 =>
  if v6 = 0 then
  (gI S5 14 11 a0).bind fun v7 =>
  (pI S5 14 11 a0 (v7 ||| ((1 : Int32) <<< (a1 &&& 31)))).bind fun S8 =>
  some ((1 : Int32), S8)
  else
  some ((0 : Int32), S5)
set_option maxRecDepth 20000 in
set_option maxHeartbeats 4000000 in
theorem s_Grant_tell {S : AS} {a0 : Option Nat} {a1 : Int32} {r : (Int32 × AS)} (h : f_Grant_tell S a0 a1 = some r) : kr_Con m_Grant_tell 1 [va_rf a0, .int a1] S (kr_eI r) := by
  refine kr_con rfl rfl (by decide +kernel) (by simp [lg_sl, kr_rfcat, kr_icat, m_Grant_tell, mL]) ?_
  rw [show lv_args 0 [va_rf a0, .int a1] = [(0, va_rf a0), (1, .int a1)] from by simp [lv_args, kr_rfcat, kr_icat]]
  unfold f_Grant_tell at h
  refine r_iload_n (i := 1) (x := a1) 1 rfl d_Grant_tell_0 ?_
  refine r_aload_n (i := 0) (x := a0) 0 rfl d_Grant_tell_1 ?_
  have h2 := kr_ob h
  clear h
  obtain ⟨v1, ev1, h⟩ := h2
  refine r_getI ev1 fk121 rfl d_Grant_tell_2 ?_
  have h2 := kr_ob2 h
  clear h
  obtain ⟨v3, S2, eS2, h⟩ := h2
  refine r_callSN (M1 := m_K_isIn) (As := [.int a1, .int v1]) (s_K_isIn eS2) mok_K_isIn rfl w548 w549 (by decide) (kr_c8 kr_c0) d_Grant_tell_5 (kr_k1 ?_) kr_kn
  refine r_if_eq (tgt := 22) d_Grant_tell_8 rfl (fun c => ?_) (fun c => ?_)
  · replace h := kr_ip c h
    refine r_iconst (v := (0 : Int32)) (by decide) d_Grant_tell_22 ?_
    cases h
    exact r_zret rfl rfl d_Grant_tell_23
  · replace h := kr_in_ c h
    refine r_iload_n (i := 1) (x := a1) 1 rfl d_Grant_tell_11 ?_
    refine r_aload_n (i := 0) (x := a0) 0 rfl d_Grant_tell_12 ?_
    have h2 := kr_ob h
    clear h
    obtain ⟨v4, ev4, h⟩ := h2
    refine r_getI ev4 fk122 rfl d_Grant_tell_13 ?_
    have h2 := kr_ob2 h
    clear h
    obtain ⟨v6, S5, eS5, h⟩ := h2
    refine r_callSN (M1 := m_K_isIn) (As := [.int a1, .int v4]) (s_K_isIn eS5) mok_K_isIn rfl w548 w549 (by decide) (kr_c8 kr_c0) d_Grant_tell_16 (kr_k1 ?_) kr_kn
    refine r_if_eq (tgt := 24) d_Grant_tell_19 rfl (fun c => ?_) (fun c => ?_)
    · replace h := kr_ip c h
      refine r_aload_n (i := 0) (x := a0) 0 rfl d_Grant_tell_24 ?_
      refine r_dup (kr_rfcat _) d_Grant_tell_25 ?_
      have h2 := kr_ob h
      clear h
      obtain ⟨v7, ev7, h⟩ := h2
      refine r_getI ev7 fk122 rfl d_Grant_tell_26 ?_
      refine r_iconst (v := (1 : Int32)) (by decide) d_Grant_tell_29 ?_
      refine r_iload_n (i := 1) (x := a1) 1 rfl d_Grant_tell_30 ?_
      refine r_ishl d_Grant_tell_31 ?_
      refine r_ior d_Grant_tell_32 ?_
      have h2 := kr_ob h
      clear h
      obtain ⟨S8, eS8, h⟩ := h2
      refine r_putI eS8 fk122 (Or.inl rfl) rfl d_Grant_tell_33 ?_
      refine r_iconst (v := (1 : Int32)) (by decide) d_Grant_tell_36 ?_
      cases h
      exact r_zret rfl rfl d_Grant_tell_37
    · replace h := kr_in_ c h
      refine r_iconst (v := (0 : Int32)) (by decide) d_Grant_tell_22 ?_
      cases h
      exact r_zret rfl rfl d_Grant_tell_23
/-! KeyringCourt.isFactor(I)Z -/
def f_K_isFactor (S : AS) (a0 : Int32) : Option (Int32 × AS) :=
  kr_b2 (f_K_isWithin S a0 (0 : Int32) (2 : Int32)) fun v2 S1 =>
  (kr_z v2).bind fun u3 =>
  some (v2, S1)
set_option maxRecDepth 20000 in
set_option maxHeartbeats 4000000 in
theorem s_K_isFactor {S : AS} {a0 : Int32} {r : (Int32 × AS)} (h : f_K_isFactor S a0 = some r) : kr_Con m_K_isFactor 1 [.int a0] S (kr_eI r) := by
  refine kr_con rfl rfl (by decide +kernel) (by simp [lg_sl, kr_rfcat, kr_icat, m_K_isFactor, mL]) ?_
  rw [show lv_args 0 [.int a0] = [(0, .int a0)] from by simp [lv_args, kr_rfcat, kr_icat]]
  unfold f_K_isFactor at h
  refine r_iload_n (i := 0) (x := a0) 0 rfl d_K_isFactor_0 ?_
  refine r_iconst (v := (0 : Int32)) (by decide) d_K_isFactor_1 ?_
  refine r_iconst (v := (2 : Int32)) (by decide) d_K_isFactor_2 ?_
  have h2 := kr_ob2 h
  clear h
  obtain ⟨v2, S1, eS1, h⟩ := h2
  refine r_callS (M1 := m_K_isWithin) (As := [.int a0, .int (0 : Int32), .int (2 : Int32)]) (s_K_isWithin eS1) mok_K_isWithin rfl w373 w374 (by decide) (kr_c8 kr_c0) d_K_isFactor_3 (kr_k1 ?_) kr_kn
  have h2 := kr_ob h
  clear h
  obtain ⟨⟨⟩, eu3, h⟩ := h2
  cases h
  exact r_zret rfl eu3 d_K_isFactor_6
/-! KeyringCourt$Person.stateOf(I)I -/
def f_Person_stateOf (S : AS) (a0 : Option Nat) (a1 : Int32) : Option (Int32 × AS) :=
  kr_b2 (f_K_isFactor S a1) fun v2 S1 =>
  if v2 = 0 then
  some ((0 : Int32), S1)
  else
  (gR S1 16 1 a0).bind fun v3 =>
  (aI S1 40 v3 a1).bind fun v4 =>
  some (v4, S1)
set_option maxRecDepth 20000 in
set_option maxHeartbeats 4000000 in
theorem s_Person_stateOf {S : AS} {a0 : Option Nat} {a1 : Int32} {r : (Int32 × AS)} (h : f_Person_stateOf S a0 a1 = some r) : kr_Con m_Person_stateOf 2 [va_rf a0, .int a1] S (kr_eI r) := by
  refine kr_con rfl rfl (by decide +kernel) (by simp [lg_sl, kr_rfcat, kr_icat, m_Person_stateOf, mL]) ?_
  rw [show lv_args 0 [va_rf a0, .int a1] = [(0, va_rf a0), (1, .int a1)] from by simp [lv_args, kr_rfcat, kr_icat]]
  unfold f_Person_stateOf at h
  refine r_iload_n (i := 1) (x := a1) 1 rfl d_Person_stateOf_0 ?_
  have h2 := kr_ob2 h
  clear h
  obtain ⟨v2, S1, eS1, h⟩ := h2
  refine r_callSN (M1 := m_K_isFactor) (As := [.int a1]) (s_K_isFactor eS1) mok_K_isFactor rfl w570 w564 (by decide) (kr_c8 kr_c0) d_Person_stateOf_1 (kr_k1 ?_) kr_kn
  refine r_if_eq (tgt := 16) d_Person_stateOf_4 rfl (fun c => ?_) (fun c => ?_)
  · replace h := kr_ip c h
    refine r_iconst (v := (0 : Int32)) (by decide) d_Person_stateOf_16 ?_
    cases h
    exact r_iret rfl d_Person_stateOf_17
  · replace h := kr_in_ c h
    refine r_aload_n (i := 0) (x := a0) 0 rfl d_Person_stateOf_7 ?_
    have h2 := kr_ob h
    clear h
    obtain ⟨v3, ev3, h⟩ := h2
    refine r_getR ev3 fk14 rfl d_Person_stateOf_8 ?_
    refine r_iload_n (i := 1) (x := a1) 1 rfl d_Person_stateOf_11 ?_
    have h2 := kr_ob h
    clear h
    obtain ⟨v4, ev4, h⟩ := h2
    refine r_iaload ev4 d_Person_stateOf_12 ?_
    refine r_goto (tgt := 17) d_Person_stateOf_13 rfl ?_
    cases h
    exact r_iret rfl d_Person_stateOf_17
/-! KeyringCourt$Person.makeReady(I)V -/
def f_Person_makeReady (S : AS) (a0 : Option Nat) (a1 : Int32) : Option AS :=
  kr_b2 (f_K_isFactor S a1) fun v2 S1 =>
  if v2 = 0 then
  some S1
  else
  (gR S1 16 1 a0).bind fun v3 =>
  (bI S1 v3 a1 (1 : Int32)).bind fun S4 =>
  (gR S4 16 2 a0).bind fun v5 =>
  (bI S4 v5 a1 (0 : Int32)).bind fun S6 =>
  if a1 = (2 : Int32) then
  (pI S6 16 3 a0 (0 : Int32)).bind fun S7 =>
  some S7
  else
  some S6
set_option maxRecDepth 20000 in
set_option maxHeartbeats 4000000 in
theorem s_Person_makeReady {S : AS} {a0 : Option Nat} {a1 : Int32} {r : AS} (h : f_Person_makeReady S a0 a1 = some r) : kr_Con m_Person_makeReady 2 [va_rf a0, .int a1] S (kr_eV r) := by
  refine kr_con rfl rfl (by decide +kernel) (by simp [lg_sl, kr_rfcat, kr_icat, m_Person_makeReady, mL]) ?_
  rw [show lv_args 0 [va_rf a0, .int a1] = [(0, va_rf a0), (1, .int a1)] from by simp [lv_args, kr_rfcat, kr_icat]]
  unfold f_Person_makeReady at h
  refine r_iload_n (i := 1) (x := a1) 1 rfl d_Person_makeReady_0 ?_
  have h2 := kr_ob2 h
  clear h
  obtain ⟨v2, S1, eS1, h⟩ := h2
  refine r_callSN (M1 := m_K_isFactor) (As := [.int a1]) (s_K_isFactor eS1) mok_K_isFactor rfl w570 w564 (by decide) (kr_c8 kr_c0) d_Person_makeReady_1 (kr_k1 ?_) kr_kn
  refine r_if_ne (tgt := 8) d_Person_makeReady_4 rfl (fun c => ?_) (fun c => ?_)
  · replace h := kr_ip c h
    cases h
    exact r_vret rfl d_Person_makeReady_7
  · replace h := kr_in_ c h
    refine r_aload_n (i := 0) (x := a0) 0 rfl d_Person_makeReady_8 ?_
    have h2 := kr_ob h
    clear h
    obtain ⟨v3, ev3, h⟩ := h2
    refine r_getR ev3 fk14 rfl d_Person_makeReady_9 ?_
    refine r_iload_n (i := 1) (x := a1) 1 rfl d_Person_makeReady_12 ?_
    refine r_iconst (v := (1 : Int32)) (by decide) d_Person_makeReady_13 ?_
    have h2 := kr_ob h
    clear h
    obtain ⟨S4, eS4, h⟩ := h2
    refine r_iastore eS4 d_Person_makeReady_14 ?_
    refine r_aload_n (i := 0) (x := a0) 0 rfl d_Person_makeReady_15 ?_
    have h2 := kr_ob h
    clear h
    obtain ⟨v5, ev5, h⟩ := h2
    refine r_getR ev5 fk15 rfl d_Person_makeReady_16 ?_
    refine r_iload_n (i := 1) (x := a1) 1 rfl d_Person_makeReady_19 ?_
    refine r_iconst (v := (0 : Int32)) (by decide) d_Person_makeReady_20 ?_
    have h2 := kr_ob h
    clear h
    obtain ⟨S6, eS6, h⟩ := h2
    refine r_iastore eS6 d_Person_makeReady_21 ?_
    refine r_iload_n (i := 1) (x := a1) 1 rfl d_Person_makeReady_22 ?_
    refine r_iconst (v := (2 : Int32)) (by decide) d_Person_makeReady_23 ?_
    refine r_icmp_ne (tgt := 32) d_Person_makeReady_24 rfl (fun c => ?_) (fun c => ?_)
    · replace h := kr_ip c h
      refine r_aload_n (i := 0) (x := a0) 0 rfl d_Person_makeReady_27 ?_
      refine r_iconst (v := (0 : Int32)) (by decide) d_Person_makeReady_28 ?_
      have h2 := kr_ob h
      clear h
      obtain ⟨S7, eS7, h⟩ := h2
      refine r_putI eS7 fk136 (Or.inl rfl) rfl d_Person_makeReady_29 ?_
      cases h
      exact r_vret rfl d_Person_makeReady_32
    · replace h := kr_in_ c h
      cases h
      exact r_vret rfl d_Person_makeReady_32
/-! KeyringCourt$Flow.add(IIIII)I -/
def f_Flow_add (S : AS) (a0 : Option Nat) (a1 : Int32) (a2 : Int32) (a3 : Int32) (a4 : Int32) (a5 : Int32) : Option (Int32 × AS) :=
  (gI S 13 5 a0).bind fun v1 =>
  if v1 < 0 then
  some ((-1 : Int32), S)
  else
  (gI S 13 5 a0).bind fun v2 =>
  if v2 < (12 : Int32) then
  (gR S 13 0 a0).bind fun v3 =>
  (gI S 13 5 a0).bind fun v4 =>
  (bI S v3 v4 a1).bind fun S5 =>
  (gR S5 13 1 a0).bind fun v6 =>
  (gI S5 13 5 a0).bind fun v7 =>
  (bI S5 v6 v7 a2).bind fun S8 =>
  (gR S8 13 2 a0).bind fun v9 =>
  (gI S8 13 5 a0).bind fun v10 =>
  (bI S8 v9 v10 a3).bind fun S11 =>
  (gR S11 13 3 a0).bind fun v12 =>
  (gI S11 13 5 a0).bind fun v13 =>
  (bI S11 v12 v13 a4).bind fun S14 =>
  (gR S14 13 4 a0).bind fun v15 =>
  (gI S14 13 5 a0).bind fun v16 =>
  (bI S14 v15 v16 a5).bind fun S17 =>
  (gI S17 13 5 a0).bind fun v18 =>
  (pI S17 13 5 a0 (v18 + (1 : Int32))).bind fun S19 =>
  (gI S19 13 5 a0).bind fun v20 =>
  some (v20 - (1 : Int32), S19)
  else
  some ((-1 : Int32), S)
set_option maxRecDepth 20000 in
set_option maxHeartbeats 4000000 in
theorem s_Flow_add {S : AS} {a0 : Option Nat} {a1 : Int32} {a2 : Int32} {a3 : Int32} {a4 : Int32} {a5 : Int32} {r : (Int32 × AS)} (h : f_Flow_add S a0 a1 a2 a3 a4 a5 = some r) : kr_Con m_Flow_add 0 [va_rf a0, .int a1, .int a2, .int a3, .int a4, .int a5] S (kr_eI r) := by
  refine kr_con rfl rfl (by decide +kernel) (by simp [lg_sl, kr_rfcat, kr_icat, m_Flow_add, mL]) ?_
  rw [show lv_args 0 [va_rf a0, .int a1, .int a2, .int a3, .int a4, .int a5] = [(0, va_rf a0), (1, .int a1), (2, .int a2), (3, .int a3), (4, .int a4), (5, .int a5)] from by simp [lv_args, kr_rfcat, kr_icat]]
  unfold f_Flow_add at h
  refine r_aload_n (i := 0) (x := a0) 0 rfl d_Flow_add_0 ?_
  have h2 := kr_ob h
  clear h
  obtain ⟨v1, ev1, h⟩ := h2
  refine r_getI ev1 fk137 rfl d_Flow_add_1 ?_
  refine r_if_lt (tgt := 16) d_Flow_add_4 rfl (fun c => ?_) (fun c => ?_)
  · replace h := kr_ip c h
    refine r_iconst (v := (-1 : Int32)) (by decide) d_Flow_add_16 ?_
    cases h
    exact r_iret rfl d_Flow_add_17
  · replace h := kr_in_ c h
    refine r_aload_n (i := 0) (x := a0) 0 rfl d_Flow_add_7 ?_
    have h2 := kr_ob h
    clear h
    obtain ⟨v2, ev2, h⟩ := h2
    refine r_getI ev2 fk137 rfl d_Flow_add_8 ?_
    refine r_bipush (v := (12 : Int32)) (by decide) d_Flow_add_11 ?_
    refine r_icmp_lt (tgt := 18) d_Flow_add_13 rfl (fun c => ?_) (fun c => ?_)
    · replace h := kr_ip c h
      refine r_aload_n (i := 0) (x := a0) 0 rfl d_Flow_add_18 ?_
      have h2 := kr_ob h
      clear h
      obtain ⟨v3, ev3, h⟩ := h2
      refine r_getR ev3 fk3 rfl d_Flow_add_19 ?_
      refine r_aload_n (i := 0) (x := a0) 0 rfl d_Flow_add_22 ?_
      have h2 := kr_ob h
      clear h
      obtain ⟨v4, ev4, h⟩ := h2
      refine r_getI ev4 fk137 rfl d_Flow_add_23 ?_
      refine r_iload_n (i := 1) (x := a1) 1 rfl d_Flow_add_26 ?_
      have h2 := kr_ob h
      clear h
      obtain ⟨S5, eS5, h⟩ := h2
      refine r_iastore eS5 d_Flow_add_27 ?_
      refine r_aload_n (i := 0) (x := a0) 0 rfl d_Flow_add_28 ?_
      have h2 := kr_ob h
      clear h
      obtain ⟨v6, ev6, h⟩ := h2
      refine r_getR ev6 fk4 rfl d_Flow_add_29 ?_
      refine r_aload_n (i := 0) (x := a0) 0 rfl d_Flow_add_32 ?_
      have h2 := kr_ob h
      clear h
      obtain ⟨v7, ev7, h⟩ := h2
      refine r_getI ev7 fk137 rfl d_Flow_add_33 ?_
      refine r_iload_n (i := 2) (x := a2) 2 rfl d_Flow_add_36 ?_
      have h2 := kr_ob h
      clear h
      obtain ⟨S8, eS8, h⟩ := h2
      refine r_iastore eS8 d_Flow_add_37 ?_
      refine r_aload_n (i := 0) (x := a0) 0 rfl d_Flow_add_38 ?_
      have h2 := kr_ob h
      clear h
      obtain ⟨v9, ev9, h⟩ := h2
      refine r_getR ev9 fk5 rfl d_Flow_add_39 ?_
      refine r_aload_n (i := 0) (x := a0) 0 rfl d_Flow_add_42 ?_
      have h2 := kr_ob h
      clear h
      obtain ⟨v10, ev10, h⟩ := h2
      refine r_getI ev10 fk137 rfl d_Flow_add_43 ?_
      refine r_iload_n (i := 3) (x := a3) 3 rfl d_Flow_add_46 ?_
      have h2 := kr_ob h
      clear h
      obtain ⟨S11, eS11, h⟩ := h2
      refine r_iastore eS11 d_Flow_add_47 ?_
      refine r_aload_n (i := 0) (x := a0) 0 rfl d_Flow_add_48 ?_
      have h2 := kr_ob h
      clear h
      obtain ⟨v12, ev12, h⟩ := h2
      refine r_getR ev12 fk6 rfl d_Flow_add_49 ?_
      refine r_aload_n (i := 0) (x := a0) 0 rfl d_Flow_add_52 ?_
      have h2 := kr_ob h
      clear h
      obtain ⟨v13, ev13, h⟩ := h2
      refine r_getI ev13 fk137 rfl d_Flow_add_53 ?_
      refine r_iload (i := 4) (x := a4) 4 rfl d_Flow_add_56 ?_
      have h2 := kr_ob h
      clear h
      obtain ⟨S14, eS14, h⟩ := h2
      refine r_iastore eS14 d_Flow_add_58 ?_
      refine r_aload_n (i := 0) (x := a0) 0 rfl d_Flow_add_59 ?_
      have h2 := kr_ob h
      clear h
      obtain ⟨v15, ev15, h⟩ := h2
      refine r_getR ev15 fk7 rfl d_Flow_add_60 ?_
      refine r_aload_n (i := 0) (x := a0) 0 rfl d_Flow_add_63 ?_
      have h2 := kr_ob h
      clear h
      obtain ⟨v16, ev16, h⟩ := h2
      refine r_getI ev16 fk137 rfl d_Flow_add_64 ?_
      refine r_iload (i := 5) (x := a5) 5 rfl d_Flow_add_67 ?_
      have h2 := kr_ob h
      clear h
      obtain ⟨S17, eS17, h⟩ := h2
      refine r_iastore eS17 d_Flow_add_69 ?_
      refine r_aload_n (i := 0) (x := a0) 0 rfl d_Flow_add_70 ?_
      refine r_dup (kr_rfcat _) d_Flow_add_71 ?_
      have h2 := kr_ob h
      clear h
      obtain ⟨v18, ev18, h⟩ := h2
      refine r_getI ev18 fk137 rfl d_Flow_add_72 ?_
      refine r_iconst (v := (1 : Int32)) (by decide) d_Flow_add_75 ?_
      refine r_iadd d_Flow_add_76 ?_
      have h2 := kr_ob h
      clear h
      obtain ⟨S19, eS19, h⟩ := h2
      refine r_putI eS19 fk137 (Or.inl rfl) rfl d_Flow_add_77 ?_
      refine r_aload_n (i := 0) (x := a0) 0 rfl d_Flow_add_80 ?_
      have h2 := kr_ob h
      clear h
      obtain ⟨v20, ev20, h⟩ := h2
      refine r_getI ev20 fk137 rfl d_Flow_add_81 ?_
      refine r_iconst (v := (1 : Int32)) (by decide) d_Flow_add_84 ?_
      refine r_isub d_Flow_add_85 ?_
      cases h
      exact r_iret rfl d_Flow_add_86
    · replace h := kr_in_ c h
      refine r_iconst (v := (-1 : Int32)) (by decide) d_Flow_add_16 ?_
      cases h
      exact r_iret rfl d_Flow_add_17
/-! KeyringCourt$Flow.isThere(I)Z -/
def f_Flow_isThere (S : AS) (a0 : Option Nat) (a1 : Int32) : Option (Int32 × AS) :=
  if a1 < 0 then
  some ((0 : Int32), S)
  else
  (gI S 13 5 a0).bind fun v1 =>
  if v1 ≤ a1 then
  some ((0 : Int32), S)
  else
  if (12 : Int32) ≤ a1 then
  some ((0 : Int32), S)
  else
  some ((1 : Int32), S)
set_option maxRecDepth 20000 in
set_option maxHeartbeats 4000000 in
theorem s_Flow_isThere {S : AS} {a0 : Option Nat} {a1 : Int32} {r : (Int32 × AS)} (h : f_Flow_isThere S a0 a1 = some r) : kr_Con m_Flow_isThere 0 [va_rf a0, .int a1] S (kr_eI r) := by
  refine kr_con rfl rfl (by decide +kernel) (by simp [lg_sl, kr_rfcat, kr_icat, m_Flow_isThere, mL]) ?_
  rw [show lv_args 0 [va_rf a0, .int a1] = [(0, va_rf a0), (1, .int a1)] from by simp [lv_args, kr_rfcat, kr_icat]]
  unfold f_Flow_isThere at h
  refine r_iload_n (i := 1) (x := a1) 1 rfl d_Flow_isThere_0 ?_
  refine r_if_lt (tgt := 22) d_Flow_isThere_1 rfl (fun c => ?_) (fun c => ?_)
  · replace h := kr_ip c h
    refine r_iconst (v := (0 : Int32)) (by decide) d_Flow_isThere_22 ?_
    cases h
    exact r_zret rfl rfl d_Flow_isThere_23
  · replace h := kr_in_ c h
    refine r_iload_n (i := 1) (x := a1) 1 rfl d_Flow_isThere_4 ?_
    refine r_aload_n (i := 0) (x := a0) 0 rfl d_Flow_isThere_5 ?_
    have h2 := kr_ob h
    clear h
    obtain ⟨v1, ev1, h⟩ := h2
    refine r_getI ev1 fk137 rfl d_Flow_isThere_6 ?_
    refine r_icmp_ge (tgt := 22) d_Flow_isThere_9 rfl (fun c => ?_) (fun c => ?_)
    · replace h := kr_ip c h
      refine r_iconst (v := (0 : Int32)) (by decide) d_Flow_isThere_22 ?_
      cases h
      exact r_zret rfl rfl d_Flow_isThere_23
    · replace h := kr_in_ c h
      refine r_iload_n (i := 1) (x := a1) 1 rfl d_Flow_isThere_12 ?_
      refine r_bipush (v := (12 : Int32)) (by decide) d_Flow_isThere_13 ?_
      refine r_icmp_ge (tgt := 22) d_Flow_isThere_15 rfl (fun c => ?_) (fun c => ?_)
      · replace h := kr_ip c h
        refine r_iconst (v := (0 : Int32)) (by decide) d_Flow_isThere_22 ?_
        cases h
        exact r_zret rfl rfl d_Flow_isThere_23
      · replace h := kr_in_ c h
        refine r_iconst (v := (1 : Int32)) (by decide) d_Flow_isThere_18 ?_
        refine r_goto (tgt := 23) d_Flow_isThere_19 rfl ?_
        cases h
        exact r_zret rfl rfl d_Flow_isThere_23
/-! KeyringCourt$Flow.kindOf(I)I -/
def f_Flow_kindOf (S : AS) (a0 : Option Nat) (a1 : Int32) : Option (Int32 × AS) :=
  (kr_rv S 13 a0).bind fun u1 =>
  kr_b2 (f_Flow_isThere S a0 a1) fun v3 S2 =>
  if v3 = 0 then
  some ((6 : Int32), S2)
  else
  (gR S2 13 0 a0).bind fun v4 =>
  (aI S2 40 v4 a1).bind fun v5 =>
  some (v5, S2)
set_option maxRecDepth 20000 in
set_option maxHeartbeats 4000000 in
theorem s_Flow_kindOf {S : AS} {a0 : Option Nat} {a1 : Int32} {r : (Int32 × AS)} (h : f_Flow_kindOf S a0 a1 = some r) : kr_Con m_Flow_kindOf 1 [va_rf a0, .int a1] S (kr_eI r) := by
  refine kr_con rfl rfl (by decide +kernel) (by simp [lg_sl, kr_rfcat, kr_icat, m_Flow_kindOf, mL]) ?_
  rw [show lv_args 0 [va_rf a0, .int a1] = [(0, va_rf a0), (1, .int a1)] from by simp [lv_args, kr_rfcat, kr_icat]]
  unfold f_Flow_kindOf at h
  refine r_aload_n (i := 0) (x := a0) 0 rfl d_Flow_kindOf_0 ?_
  refine r_iload_n (i := 1) (x := a1) 1 rfl d_Flow_kindOf_1 ?_
  have h2 := kr_ob h
  clear h
  obtain ⟨⟨⟩, eu1, h⟩ := h2
  have h2 := kr_ob2 h
  clear h
  obtain ⟨v3, S2, eS2, h⟩ := h2
  refine r_callV (M1 := m_Flow_isThere) (κ := 13) (As := [.int a1]) eu1 (s_Flow_isThere eS2) mok_Flow_isThere rfl (by decide) rfl w617 w618 w619 (by decide) (kr_c8 kr_c0) d_Flow_kindOf_2 (kr_k1 ?_) kr_kn
  refine r_if_eq (tgt := 17) d_Flow_kindOf_5 rfl (fun c => ?_) (fun c => ?_)
  · replace h := kr_ip c h
    refine r_bipush (v := (6 : Int32)) (by decide) d_Flow_kindOf_17 ?_
    cases h
    exact r_iret rfl d_Flow_kindOf_19
  · replace h := kr_in_ c h
    refine r_aload_n (i := 0) (x := a0) 0 rfl d_Flow_kindOf_8 ?_
    have h2 := kr_ob h
    clear h
    obtain ⟨v4, ev4, h⟩ := h2
    refine r_getR ev4 fk3 rfl d_Flow_kindOf_9 ?_
    refine r_iload_n (i := 1) (x := a1) 1 rfl d_Flow_kindOf_12 ?_
    have h2 := kr_ob h
    clear h
    obtain ⟨v5, ev5, h⟩ := h2
    refine r_iaload ev5 d_Flow_kindOf_13 ?_
    refine r_goto (tgt := 19) d_Flow_kindOf_14 rfl ?_
    cases h
    exact r_iret rfl d_Flow_kindOf_19
/-! KeyringCourt$Flow.nextOf(IZ)I -/
def f_Flow_nextOf (S : AS) (a0 : Option Nat) (a1 : Int32) (a2 : Int32) : Option (Int32 × AS) :=
  (kr_rv S 13 a0).bind fun u1 =>
  kr_b2 (f_Flow_isThere S a0 a1) fun v3 S2 =>
  if v3 = 0 then
  some ((-1 : Int32), S2)
  else
  if a2 = 0 then
  (gR S2 13 4 a0).bind fun v4 =>
  (aI S2 40 v4 a1).bind fun v5 =>
  some (v5, S2)
  else
  (gR S2 13 3 a0).bind fun v6 =>
  (aI S2 40 v6 a1).bind fun v7 =>
  some (v7, S2)
set_option maxRecDepth 20000 in
set_option maxHeartbeats 4000000 in
theorem s_Flow_nextOf {S : AS} {a0 : Option Nat} {a1 : Int32} {a2 : Int32} {r : (Int32 × AS)} (h : f_Flow_nextOf S a0 a1 a2 = some r) : kr_Con m_Flow_nextOf 1 [va_rf a0, .int a1, .int a2] S (kr_eI r) := by
  refine kr_con rfl rfl (by decide +kernel) (by simp [lg_sl, kr_rfcat, kr_icat, m_Flow_nextOf, mL]) ?_
  rw [show lv_args 0 [va_rf a0, .int a1, .int a2] = [(0, va_rf a0), (1, .int a1), (2, .int a2)] from by simp [lv_args, kr_rfcat, kr_icat]]
  unfold f_Flow_nextOf at h
  refine r_aload_n (i := 0) (x := a0) 0 rfl d_Flow_nextOf_0 ?_
  refine r_iload_n (i := 1) (x := a1) 1 rfl d_Flow_nextOf_1 ?_
  have h2 := kr_ob h
  clear h
  obtain ⟨⟨⟩, eu1, h⟩ := h2
  have h2 := kr_ob2 h
  clear h
  obtain ⟨v3, S2, eS2, h⟩ := h2
  refine r_callV (M1 := m_Flow_isThere) (κ := 13) (As := [.int a1]) eu1 (s_Flow_isThere eS2) mok_Flow_isThere rfl (by decide) rfl w617 w618 w619 (by decide) (kr_c8 kr_c0) d_Flow_nextOf_2 (kr_k1 ?_) kr_kn
  refine r_if_ne (tgt := 10) d_Flow_nextOf_5 rfl (fun c => ?_) (fun c => ?_)
  · replace h := kr_ip c h
    refine r_iconst (v := (-1 : Int32)) (by decide) d_Flow_nextOf_8 ?_
    cases h
    exact r_iret rfl d_Flow_nextOf_9
  · replace h := kr_in_ c h
    refine r_iload_n (i := 2) (x := a2) 2 rfl d_Flow_nextOf_10 ?_
    refine r_if_eq (tgt := 23) d_Flow_nextOf_11 rfl (fun c => ?_) (fun c => ?_)
    · replace h := kr_ip c h
      refine r_aload_n (i := 0) (x := a0) 0 rfl d_Flow_nextOf_23 ?_
      have h2 := kr_ob h
      clear h
      obtain ⟨v4, ev4, h⟩ := h2
      refine r_getR ev4 fk7 rfl d_Flow_nextOf_24 ?_
      refine r_iload_n (i := 1) (x := a1) 1 rfl d_Flow_nextOf_27 ?_
      have h2 := kr_ob h
      clear h
      obtain ⟨v5, ev5, h⟩ := h2
      refine r_iaload ev5 d_Flow_nextOf_28 ?_
      cases h
      exact r_iret rfl d_Flow_nextOf_29
    · replace h := kr_in_ c h
      refine r_aload_n (i := 0) (x := a0) 0 rfl d_Flow_nextOf_14 ?_
      have h2 := kr_ob h
      clear h
      obtain ⟨v6, ev6, h⟩ := h2
      refine r_getR ev6 fk6 rfl d_Flow_nextOf_15 ?_
      refine r_iload_n (i := 1) (x := a1) 1 rfl d_Flow_nextOf_18 ?_
      have h2 := kr_ob h
      clear h
      obtain ⟨v7, ev7, h⟩ := h2
      refine r_iaload ev7 d_Flow_nextOf_19 ?_
      refine r_goto (tgt := 29) d_Flow_nextOf_20 rfl ?_
      cases h
      exact r_iret rfl d_Flow_nextOf_29
/-! KeyringCourt$Flow.isNoneOrThere(I)Z -/
def f_Flow_isNoneOrThere_B13 (S : AS) : Option (Int32 × AS) :=
  some ((1 : Int32), S)
def f_Flow_isNoneOrThere (S : AS) (a0 : Option Nat) (a1 : Int32) : Option (Int32 × AS) :=
  if a1 = (-1 : Int32) then
  f_Flow_isNoneOrThere_B13 S
  else
  (kr_rv S 13 a0).bind fun u1 =>
  kr_b2 (f_Flow_isThere S a0 a1) fun v3 S2 =>
  if v3 = 0 then
  some ((0 : Int32), S2)
  else
  f_Flow_isNoneOrThere_B13 S2
set_option maxRecDepth 20000 in
set_option maxHeartbeats 4000000 in
theorem s_Flow_isNoneOrThere_B13 {S : AS} {r : (Int32 × AS)} (h : f_Flow_isNoneOrThere_B13 S = some r) : kr_AW m_Flow_isNoneOrThere 1 13 [] [] S (kr_eI r) := by
  unfold f_Flow_isNoneOrThere_B13 at h
  refine r_iconst (v := (1 : Int32)) (by decide) d_Flow_isNoneOrThere_13 ?_
  refine r_goto (tgt := 18) d_Flow_isNoneOrThere_14 rfl ?_
  cases h
  exact r_zret rfl rfl d_Flow_isNoneOrThere_18
set_option maxRecDepth 20000 in
set_option maxHeartbeats 4000000 in
theorem s_Flow_isNoneOrThere {S : AS} {a0 : Option Nat} {a1 : Int32} {r : (Int32 × AS)} (h : f_Flow_isNoneOrThere S a0 a1 = some r) : kr_Con m_Flow_isNoneOrThere 1 [va_rf a0, .int a1] S (kr_eI r) := by
  refine kr_con rfl rfl (by decide +kernel) (by simp [lg_sl, kr_rfcat, kr_icat, m_Flow_isNoneOrThere, mL]) ?_
  rw [show lv_args 0 [va_rf a0, .int a1] = [(0, va_rf a0), (1, .int a1)] from by simp [lv_args, kr_rfcat, kr_icat]]
  unfold f_Flow_isNoneOrThere at h
  refine r_iload_n (i := 1) (x := a1) 1 rfl d_Flow_isNoneOrThere_0 ?_
  refine r_iconst (v := (-1 : Int32)) (by decide) d_Flow_isNoneOrThere_1 ?_
  refine r_icmp_eq (tgt := 13) d_Flow_isNoneOrThere_2 rfl (fun c => ?_) (fun c => ?_)
  · replace h := kr_ip c h
    exact kr_sub [] rfl (s_Flow_isNoneOrThere_B13 h)
  · replace h := kr_in_ c h
    refine r_aload_n (i := 0) (x := a0) 0 rfl d_Flow_isNoneOrThere_5 ?_
    refine r_iload_n (i := 1) (x := a1) 1 rfl d_Flow_isNoneOrThere_6 ?_
    have h2 := kr_ob h
    clear h
    obtain ⟨⟨⟩, eu1, h⟩ := h2
    have h2 := kr_ob2 h
    clear h
    obtain ⟨v3, S2, eS2, h⟩ := h2
    refine r_callV (M1 := m_Flow_isThere) (κ := 13) (As := [.int a1]) eu1 (s_Flow_isThere eS2) mok_Flow_isThere rfl (by decide) rfl w617 w618 w619 (by decide) (kr_c8 kr_c0) d_Flow_isNoneOrThere_7 (kr_k1 ?_) kr_kn
    refine r_if_eq (tgt := 17) d_Flow_isNoneOrThere_10 rfl (fun c => ?_) (fun c => ?_)
    · replace h := kr_ip c h
      refine r_iconst (v := (0 : Int32)) (by decide) d_Flow_isNoneOrThere_17 ?_
      cases h
      exact r_zret rfl rfl d_Flow_isNoneOrThere_18
    · replace h := kr_in_ c h
      exact kr_sub [] rfl (s_Flow_isNoneOrThere_B13 h)
/-! KeyringCourt$Flow.hasAllNextSteps()Z -/
def f_Flow_hasAllNextSteps_B47 (k2 : AS → Option Nat → Int32 → Option (Int32 × AS)) (S : AS) (x0 : Option Nat) (x1 : Int32) : Option (Int32 × AS) :=
  (some (x1 + (1 : Int32))).bind fun i1 =>
  k2 S x0 i1
def f_Flow_hasAllNextSteps_C2 (k2 : AS → Option Nat → Int32 → Option (Int32 × AS)) (S : AS) (x0 : Option Nat) (x1 : Int32) : Option (Int32 × AS) :=
  (gI S 13 5 x0).bind fun v2 =>
  if v2 ≤ x1 then
  some ((1 : Int32), S)
  else
  (kr_rv S 13 x0).bind fun u3 =>
  kr_b2 (f_Flow_kindOf S x0 x1) fun v5 S4 =>
  if (5 : Int32) ≤ v5 then
  f_Flow_hasAllNextSteps_B47 k2 S4 x0 x1
  else
  (kr_rv S4 13 x0).bind fun u6 =>
  kr_b2 (f_Flow_nextOf S4 x0 x1 (1 : Int32)) fun v8 S7 =>
  (kr_rv S7 13 x0).bind fun u9 =>
  kr_b2 (f_Flow_isNoneOrThere S7 x0 v8) fun v11 S10 =>
  if v11 = 0 then
  some ((0 : Int32), S10)
  else
  (kr_rv S10 13 x0).bind fun u12 =>
  kr_b2 (f_Flow_nextOf S10 x0 x1 (0 : Int32)) fun v14 S13 =>
  (kr_rv S13 13 x0).bind fun u15 =>
  kr_b2 (f_Flow_isNoneOrThere S13 x0 v14) fun v17 S16 =>
  if v17 = 0 then
  some ((0 : Int32), S16)
  else
  f_Flow_hasAllNextSteps_B47 k2 S16 x0 x1
def f_Flow_hasAllNextSteps_L2 : Nat → AS → Option Nat → Int32 → Option (Int32 × AS)
  | 0, S, x0, x1 => none
  | n + 1, S, x0, x1 => f_Flow_hasAllNextSteps_C2 (f_Flow_hasAllNextSteps_L2 n) S x0 x1
def f_Flow_hasAllNextSteps (S : AS) (a0 : Option Nat) : Option (Int32 × AS) :=
  f_Flow_hasAllNextSteps_L2 kr_FU S a0 (0 : Int32)
set_option maxRecDepth 20000 in
set_option maxHeartbeats 4000000 in
theorem s_Flow_hasAllNextSteps_B47 {k2 : AS → Option Nat → Int32 → Option (Int32 × AS)} (hk2 : ∀ {S : AS} {x0 : Option Nat} {x1 : Int32} {r : (Int32 × AS)}, k2 S x0 x1 = some r → kr_AW m_Flow_hasAllNextSteps 2 2 [(0, va_rf x0), (1, .int x1)] [] S (kr_eI r)) {S : AS} {x0 : Option Nat} {x1 : Int32} {r : (Int32 × AS)} (h : f_Flow_hasAllNextSteps_B47 k2 S x0 x1 = some r) : kr_AW m_Flow_hasAllNextSteps 2 47 [(0, va_rf x0), (1, .int x1)] [] S (kr_eI r) := by
  unfold f_Flow_hasAllNextSteps_B47 at h
  have h2 := kr_ob h
  clear h
  obtain ⟨i1, ei1, h⟩ := h2
  refine r_iinc (v := i1) (lv' := [(1, .int i1), (0, va_rf x0)]) 1 rfl (kr_inc (by decide) ei1) (by decide) (by simp [kr_st, kr_rfcat, kr_icat]) d_Flow_hasAllNextSteps_47 ?_
  refine r_goto (tgt := 2) d_Flow_hasAllNextSteps_50 rfl ?_
  exact kr_sub [1, 0] rfl (hk2 h)
set_option maxRecDepth 20000 in
set_option maxHeartbeats 4000000 in
theorem s_Flow_hasAllNextSteps_C2 {k2 : AS → Option Nat → Int32 → Option (Int32 × AS)} (hk2 : ∀ {S : AS} {x0 : Option Nat} {x1 : Int32} {r : (Int32 × AS)}, k2 S x0 x1 = some r → kr_AW m_Flow_hasAllNextSteps 2 2 [(0, va_rf x0), (1, .int x1)] [] S (kr_eI r)) {S : AS} {x0 : Option Nat} {x1 : Int32} {r : (Int32 × AS)} (h : f_Flow_hasAllNextSteps_C2 k2 S x0 x1 = some r) : kr_AW m_Flow_hasAllNextSteps 2 2 [(0, va_rf x0), (1, .int x1)] [] S (kr_eI r) := by
  unfold f_Flow_hasAllNextSteps_C2 at h
  refine r_iload_n (i := 1) (x := x1) 1 rfl d_Flow_hasAllNextSteps_2 ?_
  refine r_aload_n (i := 0) (x := x0) 0 rfl d_Flow_hasAllNextSteps_3 ?_
  have h2 := kr_ob h
  clear h
  obtain ⟨v2, ev2, h⟩ := h2
  refine r_getI ev2 fk137 rfl d_Flow_hasAllNextSteps_4 ?_
  refine r_icmp_ge (tgt := 53) d_Flow_hasAllNextSteps_7 rfl (fun c => ?_) (fun c => ?_)
  · replace h := kr_ip c h
    refine r_iconst (v := (1 : Int32)) (by decide) d_Flow_hasAllNextSteps_53 ?_
    cases h
    exact r_zret rfl rfl d_Flow_hasAllNextSteps_54
  · replace h := kr_in_ c h
    refine r_aload_n (i := 0) (x := x0) 0 rfl d_Flow_hasAllNextSteps_10 ?_
    refine r_iload_n (i := 1) (x := x1) 1 rfl d_Flow_hasAllNextSteps_11 ?_
    have h2 := kr_ob h
    clear h
    obtain ⟨⟨⟩, eu3, h⟩ := h2
    have h2 := kr_ob2 h
    clear h
    obtain ⟨v5, S4, eS4, h⟩ := h2
    refine r_callV (M1 := m_Flow_kindOf) (κ := 13) (As := [.int x1]) eu3 (s_Flow_kindOf eS4) mok_Flow_kindOf rfl (by decide) rfl w613 w614 w615 (by decide) (kr_c8 kr_c0) d_Flow_hasAllNextSteps_12 (kr_k1 ?_) kr_kn
    refine r_iconst (v := (5 : Int32)) (by decide) d_Flow_hasAllNextSteps_15 ?_
    refine r_icmp_ge (tgt := 47) d_Flow_hasAllNextSteps_16 rfl (fun c => ?_) (fun c => ?_)
    · replace h := kr_ip c h
      exact kr_sub [0, 1] rfl (s_Flow_hasAllNextSteps_B47 hk2 h)
    · replace h := kr_in_ c h
      refine r_aload_n (i := 0) (x := x0) 0 rfl d_Flow_hasAllNextSteps_19 ?_
      refine r_aload_n (i := 0) (x := x0) 0 rfl d_Flow_hasAllNextSteps_20 ?_
      refine r_iload_n (i := 1) (x := x1) 1 rfl d_Flow_hasAllNextSteps_21 ?_
      refine r_iconst (v := (1 : Int32)) (by decide) d_Flow_hasAllNextSteps_22 ?_
      have h2 := kr_ob h
      clear h
      obtain ⟨⟨⟩, eu6, h⟩ := h2
      have h2 := kr_ob2 h
      clear h
      obtain ⟨v8, S7, eS7, h⟩ := h2
      refine r_callV (M1 := m_Flow_nextOf) (κ := 13) (As := [.int x1, .int (1 : Int32)]) eu6 (s_Flow_nextOf eS7) mok_Flow_nextOf rfl (by decide) rfl w621 w622 w623 (by decide) (kr_c8 (kr_cR kr_c0)) d_Flow_hasAllNextSteps_23 (kr_k1 ?_) kr_kn
      have h2 := kr_ob h
      clear h
      obtain ⟨⟨⟩, eu9, h⟩ := h2
      have h2 := kr_ob2 h
      clear h
      obtain ⟨v11, S10, eS10, h⟩ := h2
      refine r_callV (M1 := m_Flow_isNoneOrThere) (κ := 13) (As := [.int v8]) eu9 (s_Flow_isNoneOrThere eS10) mok_Flow_isNoneOrThere rfl (by decide) rfl w625 w627 w10 (by decide) (kr_c8 kr_c0) d_Flow_hasAllNextSteps_26 (kr_k1 ?_) kr_kn
      refine r_if_eq (tgt := 45) d_Flow_hasAllNextSteps_29 rfl (fun c => ?_) (fun c => ?_)
      · replace h := kr_ip c h
        refine r_iconst (v := (0 : Int32)) (by decide) d_Flow_hasAllNextSteps_45 ?_
        cases h
        exact r_zret rfl rfl d_Flow_hasAllNextSteps_46
      · replace h := kr_in_ c h
        refine r_aload_n (i := 0) (x := x0) 0 rfl d_Flow_hasAllNextSteps_32 ?_
        refine r_aload_n (i := 0) (x := x0) 0 rfl d_Flow_hasAllNextSteps_33 ?_
        refine r_iload_n (i := 1) (x := x1) 1 rfl d_Flow_hasAllNextSteps_34 ?_
        refine r_iconst (v := (0 : Int32)) (by decide) d_Flow_hasAllNextSteps_35 ?_
        have h2 := kr_ob h
        clear h
        obtain ⟨⟨⟩, eu12, h⟩ := h2
        have h2 := kr_ob2 h
        clear h
        obtain ⟨v14, S13, eS13, h⟩ := h2
        refine r_callV (M1 := m_Flow_nextOf) (κ := 13) (As := [.int x1, .int (0 : Int32)]) eu12 (s_Flow_nextOf eS13) mok_Flow_nextOf rfl (by decide) rfl w621 w622 w623 (by decide) (kr_c8 (kr_cR kr_c0)) d_Flow_hasAllNextSteps_36 (kr_k1 ?_) kr_kn
        have h2 := kr_ob h
        clear h
        obtain ⟨⟨⟩, eu15, h⟩ := h2
        have h2 := kr_ob2 h
        clear h
        obtain ⟨v17, S16, eS16, h⟩ := h2
        refine r_callV (M1 := m_Flow_isNoneOrThere) (κ := 13) (As := [.int v14]) eu15 (s_Flow_isNoneOrThere eS16) mok_Flow_isNoneOrThere rfl (by decide) rfl w625 w627 w10 (by decide) (kr_c8 kr_c0) d_Flow_hasAllNextSteps_39 (kr_k1 ?_) kr_kn
        refine r_if_ne (tgt := 47) d_Flow_hasAllNextSteps_42 rfl (fun c => ?_) (fun c => ?_)
        · replace h := kr_ip c h
          refine r_iconst (v := (0 : Int32)) (by decide) d_Flow_hasAllNextSteps_45 ?_
          cases h
          exact r_zret rfl rfl d_Flow_hasAllNextSteps_46
        · replace h := kr_in_ c h
          exact kr_sub [0, 1] rfl (s_Flow_hasAllNextSteps_B47 hk2 h)
theorem s_Flow_hasAllNextSteps_L2 (n : Nat) : ∀ {S : AS} {x0 : Option Nat} {x1 : Int32} {r : (Int32 × AS)}, f_Flow_hasAllNextSteps_L2 n S x0 x1 = some r → kr_AW m_Flow_hasAllNextSteps 2 2 [(0, va_rf x0), (1, .int x1)] [] S (kr_eI r) := by
  induction n with
  | zero => intro S x0 x1 r h; cases h
  | succ n ih => intro S x0 x1 r h; exact s_Flow_hasAllNextSteps_C2 (fun {_} {_} {_} {_} h => ih h) h
set_option maxRecDepth 20000 in
set_option maxHeartbeats 4000000 in
theorem s_Flow_hasAllNextSteps {S : AS} {a0 : Option Nat} {r : (Int32 × AS)} (h : f_Flow_hasAllNextSteps S a0 = some r) : kr_Con m_Flow_hasAllNextSteps 2 [va_rf a0] S (kr_eI r) := by
  refine kr_con rfl rfl (by decide +kernel) (by simp [lg_sl, kr_rfcat, kr_icat, m_Flow_hasAllNextSteps, mL]) ?_
  rw [show lv_args 0 [va_rf a0] = [(0, va_rf a0)] from by simp [lv_args, kr_rfcat, kr_icat]]
  unfold f_Flow_hasAllNextSteps at h
  refine r_iconst (v := (0 : Int32)) (by decide) d_Flow_hasAllNextSteps_0 ?_
  refine r_istore_n (i := 1) (lv' := [(1, .int (0 : Int32)), (0, va_rf a0)]) (by decide) (by show kr_st _ 1 _ = _; simp [kr_st, kr_rfcat, kr_icat]) d_Flow_hasAllNextSteps_1 ?_
  exact kr_sub [1, 0] rfl (s_Flow_hasAllNextSteps_L2 kr_FU h)
/-! KeyringCourt$Flow.isTest(I)Z -/
def f_Flow_isTest (S : AS) (a0 : Option Nat) (a1 : Int32) : Option (Int32 × AS) :=
  (kr_rv S 13 a0).bind fun u1 =>
  kr_b2 (f_Flow_kindOf S a0 a1) fun v3 S2 =>
  kr_b2 (f_K_isWithin S2 v3 (1 : Int32) (4 : Int32)) fun v5 S4 =>
  (kr_z v5).bind fun u6 =>
  some (v5, S4)
set_option maxRecDepth 20000 in
set_option maxHeartbeats 4000000 in
theorem s_Flow_isTest {S : AS} {a0 : Option Nat} {a1 : Int32} {r : (Int32 × AS)} (h : f_Flow_isTest S a0 a1 = some r) : kr_Con m_Flow_isTest 2 [va_rf a0, .int a1] S (kr_eI r) := by
  refine kr_con rfl rfl (by decide +kernel) (by simp [lg_sl, kr_rfcat, kr_icat, m_Flow_isTest, mL]) ?_
  rw [show lv_args 0 [va_rf a0, .int a1] = [(0, va_rf a0), (1, .int a1)] from by simp [lv_args, kr_rfcat, kr_icat]]
  unfold f_Flow_isTest at h
  refine r_aload_n (i := 0) (x := a0) 0 rfl d_Flow_isTest_0 ?_
  refine r_iload_n (i := 1) (x := a1) 1 rfl d_Flow_isTest_1 ?_
  have h2 := kr_ob h
  clear h
  obtain ⟨⟨⟩, eu1, h⟩ := h2
  have h2 := kr_ob2 h
  clear h
  obtain ⟨v3, S2, eS2, h⟩ := h2
  refine r_callV (M1 := m_Flow_kindOf) (κ := 13) (As := [.int a1]) eu1 (s_Flow_kindOf eS2) mok_Flow_kindOf rfl (by decide) rfl w613 w614 w615 (by decide) (kr_c8 kr_c0) d_Flow_isTest_2 (kr_k1 ?_) kr_kn
  refine r_iconst (v := (1 : Int32)) (by decide) d_Flow_isTest_5 ?_
  refine r_iconst (v := (4 : Int32)) (by decide) d_Flow_isTest_6 ?_
  have h2 := kr_ob2 h
  clear h
  obtain ⟨v5, S4, eS4, h⟩ := h2
  refine r_callSN (M1 := m_K_isWithin) (As := [.int v3, .int (1 : Int32), .int (4 : Int32)]) (s_K_isWithin eS4) mok_K_isWithin rfl w637 w374 (by decide) (kr_c8 kr_c0) d_Flow_isTest_7 (kr_k1 ?_) kr_kn
  have h2 := kr_ob h
  clear h
  obtain ⟨⟨⟩, eu6, h⟩ := h2
  cases h
  exact r_zret rfl eu6 d_Flow_isTest_10
/-! KeyringCourt$Flow.leaves(II)Z -/
def f_Flow_leaves_B13 (S : AS) : Option (Int32 × AS) :=
  some ((1 : Int32), S)
def f_Flow_leaves (S : AS) (a0 : Int32) (a1 : Int32) : Option (Int32 × AS) :=
  if a0 = (-1 : Int32) then
  f_Flow_leaves_B13 S
  else
  kr_b2 (f_K_isIn S a0 a1) fun v2 S1 =>
  if v2 = 0 then
  some ((0 : Int32), S1)
  else
  f_Flow_leaves_B13 S1
set_option maxRecDepth 20000 in
set_option maxHeartbeats 4000000 in
theorem s_Flow_leaves_B13 {S : AS} {r : (Int32 × AS)} (h : f_Flow_leaves_B13 S = some r) : kr_AW m_Flow_leaves 1 13 [] [] S (kr_eI r) := by
  unfold f_Flow_leaves_B13 at h
  refine r_iconst (v := (1 : Int32)) (by decide) d_Flow_leaves_13 ?_
  refine r_goto (tgt := 18) d_Flow_leaves_14 rfl ?_
  cases h
  exact r_zret rfl rfl d_Flow_leaves_18
set_option maxRecDepth 20000 in
set_option maxHeartbeats 4000000 in
theorem s_Flow_leaves {S : AS} {a0 : Int32} {a1 : Int32} {r : (Int32 × AS)} (h : f_Flow_leaves S a0 a1 = some r) : kr_Con m_Flow_leaves 1 [.int a0, .int a1] S (kr_eI r) := by
  refine kr_con rfl rfl (by decide +kernel) (by simp [lg_sl, kr_rfcat, kr_icat, m_Flow_leaves, mL]) ?_
  rw [show lv_args 0 [.int a0, .int a1] = [(0, .int a0), (1, .int a1)] from by simp [lv_args, kr_rfcat, kr_icat]]
  unfold f_Flow_leaves at h
  refine r_iload_n (i := 0) (x := a0) 0 rfl d_Flow_leaves_0 ?_
  refine r_iconst (v := (-1 : Int32)) (by decide) d_Flow_leaves_1 ?_
  refine r_icmp_eq (tgt := 13) d_Flow_leaves_2 rfl (fun c => ?_) (fun c => ?_)
  · replace h := kr_ip c h
    exact kr_sub [] rfl (s_Flow_leaves_B13 h)
  · replace h := kr_in_ c h
    refine r_iload_n (i := 0) (x := a0) 0 rfl d_Flow_leaves_5 ?_
    refine r_iload_n (i := 1) (x := a1) 1 rfl d_Flow_leaves_6 ?_
    have h2 := kr_ob2 h
    clear h
    obtain ⟨v2, S1, eS1, h⟩ := h2
    refine r_callSN (M1 := m_K_isIn) (As := [.int a0, .int a1]) (s_K_isIn eS1) mok_K_isIn rfl w641 w549 (by decide) (kr_c8 kr_c0) d_Flow_leaves_7 (kr_k1 ?_) kr_kn
    refine r_if_eq (tgt := 17) d_Flow_leaves_10 rfl (fun c => ?_) (fun c => ?_)
    · replace h := kr_ip c h
      refine r_iconst (v := (0 : Int32)) (by decide) d_Flow_leaves_17 ?_
      cases h
      exact r_zret rfl rfl d_Flow_leaves_18
    · replace h := kr_in_ c h
      exact kr_sub [] rfl (s_Flow_leaves_B13 h)
/-! KeyringCourt$Flow.hasLoopOfTests()Z -/
def f_Flow_hasLoopOfTests_B62 (k4 : AS → Option Nat → Int32 → Int32 → Option (Int32 × AS)) (k14 : AS → Option Nat → Int32 → Int32 → Int32 → Option (Int32 × AS)) (S : AS) (x0 : Option Nat) (x1 : Int32) (x2 : Int32) (x3 : Int32) : Option (Int32 × AS) :=
  (some (x3 + (1 : Int32))).bind fun i1 =>
  k14 S x0 x1 x2 i1
def f_Flow_hasLoopOfTests_B56 (k4 : AS → Option Nat → Int32 → Int32 → Option (Int32 × AS)) (k14 : AS → Option Nat → Int32 → Int32 → Int32 → Option (Int32 × AS)) (S : AS) (x0 : Option Nat) (x1 : Int32) (x2 : Int32) (x3 : Int32) : Option (Int32 × AS) :=
  (some (x1 ||| ((1 : Int32) <<< (x3 &&& 31)))).bind fun i2 =>
  f_Flow_hasLoopOfTests_B62 k4 k14 S x0 i2 x2 x3
def f_Flow_hasLoopOfTests_C14 (k4 : AS → Option Nat → Int32 → Int32 → Option (Int32 × AS)) (k14 : AS → Option Nat → Int32 → Int32 → Int32 → Option (Int32 × AS)) (S : AS) (x0 : Option Nat) (x1 : Int32) (x2 : Int32) (x3 : Int32) : Option (Int32 × AS) :=
  (gI S 13 5 x0).bind fun v3 =>
  if v3 ≤ x3 then
  (some (x2 + (1 : Int32))).bind fun i4 =>
  k4 S x0 x1 i4
  else
  (kr_rv S 13 x0).bind fun u5 =>
  kr_b2 (f_Flow_isTest S x0 x3) fun v7 S6 =>
  if v7 = 0 then
  f_Flow_hasLoopOfTests_B56 k4 k14 S6 x0 x1 x2 x3
  else
  (kr_rv S6 13 x0).bind fun u8 =>
  kr_b2 (f_Flow_nextOf S6 x0 x3 (1 : Int32)) fun v10 S9 =>
  kr_b2 (f_Flow_leaves S9 v10 x1) fun v12 S11 =>
  if v12 = 0 then
  f_Flow_hasLoopOfTests_B62 k4 k14 S11 x0 x1 x2 x3
  else
  (kr_rv S11 13 x0).bind fun u13 =>
  kr_b2 (f_Flow_nextOf S11 x0 x3 (0 : Int32)) fun v15 S14 =>
  kr_b2 (f_Flow_leaves S14 v15 x1) fun v17 S16 =>
  if v17 = 0 then
  f_Flow_hasLoopOfTests_B62 k4 k14 S16 x0 x1 x2 x3
  else
  f_Flow_hasLoopOfTests_B56 k4 k14 S16 x0 x1 x2 x3
def f_Flow_hasLoopOfTests_L14 (k4 : AS → Option Nat → Int32 → Int32 → Option (Int32 × AS)) : Nat → AS → Option Nat → Int32 → Int32 → Int32 → Option (Int32 × AS)
  | 0, S, x0, x1, x2, x3 => none
  | n + 1, S, x0, x1, x2, x3 => f_Flow_hasLoopOfTests_C14 k4 (f_Flow_hasLoopOfTests_L14 k4 n) S x0 x1 x2 x3
def f_Flow_hasLoopOfTests_C4 (k4 : AS → Option Nat → Int32 → Int32 → Option (Int32 × AS)) (S : AS) (x0 : Option Nat) (x1 : Int32) (x2 : Int32) : Option (Int32 × AS) :=
  (gI S 13 5 x0).bind fun v18 =>
  if v18 ≤ x2 then
  (gI S 13 5 x0).bind fun v19 =>
  if x1 = (((1 : Int32) <<< (v19 &&& 31)) - (1 : Int32)) then
  some ((0 : Int32), S)
  else
  some ((1 : Int32), S)
  else
  f_Flow_hasLoopOfTests_L14 k4 kr_FU S x0 x1 x2 (0 : Int32)
def f_Flow_hasLoopOfTests_L4 : Nat → AS → Option Nat → Int32 → Int32 → Option (Int32 × AS)
  | 0, S, x0, x1, x2 => none
  | n + 1, S, x0, x1, x2 => f_Flow_hasLoopOfTests_C4 (f_Flow_hasLoopOfTests_L4 n) S x0 x1 x2
def f_Flow_hasLoopOfTests (S : AS) (a0 : Option Nat) : Option (Int32 × AS) :=
  f_Flow_hasLoopOfTests_L4 kr_FU S a0 (0 : Int32) (0 : Int32)
set_option maxRecDepth 20000 in
set_option maxHeartbeats 4000000 in
theorem s_Flow_hasLoopOfTests_B62 {k4 : AS → Option Nat → Int32 → Int32 → Option (Int32 × AS)} (hk4 : ∀ {S : AS} {x0 : Option Nat} {x1 : Int32} {x2 : Int32} {r : (Int32 × AS)}, k4 S x0 x1 x2 = some r → kr_AW m_Flow_hasLoopOfTests 3 4 [(0, va_rf x0), (1, .int x1), (2, .int x2)] [] S (kr_eI r)) {k14 : AS → Option Nat → Int32 → Int32 → Int32 → Option (Int32 × AS)} (hk14 : ∀ {S : AS} {x0 : Option Nat} {x1 : Int32} {x2 : Int32} {x3 : Int32} {r : (Int32 × AS)}, k14 S x0 x1 x2 x3 = some r → kr_AW m_Flow_hasLoopOfTests 3 14 [(0, va_rf x0), (1, .int x1), (2, .int x2), (3, .int x3)] [] S (kr_eI r)) {S : AS} {x0 : Option Nat} {x1 : Int32} {x2 : Int32} {x3 : Int32} {r : (Int32 × AS)} (h : f_Flow_hasLoopOfTests_B62 k4 k14 S x0 x1 x2 x3 = some r) : kr_AW m_Flow_hasLoopOfTests 3 62 [(0, va_rf x0), (1, .int x1), (2, .int x2), (3, .int x3)] [] S (kr_eI r) := by
  unfold f_Flow_hasLoopOfTests_B62 at h
  have h2 := kr_ob h
  clear h
  obtain ⟨i1, ei1, h⟩ := h2
  refine r_iinc (v := i1) (lv' := [(3, .int i1), (0, va_rf x0), (1, .int x1), (2, .int x2)]) 3 rfl (kr_inc (by decide) ei1) (by decide) rfl d_Flow_hasLoopOfTests_62 ?_
  refine r_goto (tgt := 14) d_Flow_hasLoopOfTests_65 rfl ?_
  exact kr_sub [1, 2, 3, 0] rfl (hk14 h)
set_option maxRecDepth 20000 in
set_option maxHeartbeats 4000000 in
theorem s_Flow_hasLoopOfTests_B56 {k4 : AS → Option Nat → Int32 → Int32 → Option (Int32 × AS)} (hk4 : ∀ {S : AS} {x0 : Option Nat} {x1 : Int32} {x2 : Int32} {r : (Int32 × AS)}, k4 S x0 x1 x2 = some r → kr_AW m_Flow_hasLoopOfTests 3 4 [(0, va_rf x0), (1, .int x1), (2, .int x2)] [] S (kr_eI r)) {k14 : AS → Option Nat → Int32 → Int32 → Int32 → Option (Int32 × AS)} (hk14 : ∀ {S : AS} {x0 : Option Nat} {x1 : Int32} {x2 : Int32} {x3 : Int32} {r : (Int32 × AS)}, k14 S x0 x1 x2 x3 = some r → kr_AW m_Flow_hasLoopOfTests 3 14 [(0, va_rf x0), (1, .int x1), (2, .int x2), (3, .int x3)] [] S (kr_eI r)) {S : AS} {x0 : Option Nat} {x1 : Int32} {x2 : Int32} {x3 : Int32} {r : (Int32 × AS)} (h : f_Flow_hasLoopOfTests_B56 k4 k14 S x0 x1 x2 x3 = some r) : kr_AW m_Flow_hasLoopOfTests 3 56 [(0, va_rf x0), (1, .int x1), (2, .int x2), (3, .int x3)] [] S (kr_eI r) := by
  unfold f_Flow_hasLoopOfTests_B56 at h
  refine r_iload_n (i := 1) (x := x1) 1 rfl d_Flow_hasLoopOfTests_56 ?_
  refine r_iconst (v := (1 : Int32)) (by decide) d_Flow_hasLoopOfTests_57 ?_
  refine r_iload_n (i := 3) (x := x3) 3 rfl d_Flow_hasLoopOfTests_58 ?_
  refine r_ishl d_Flow_hasLoopOfTests_59 ?_
  refine r_ior d_Flow_hasLoopOfTests_60 ?_
  have h2 := kr_ob h
  clear h
  obtain ⟨i2, ei2, h⟩ := h2
  refine kr_nmI ei2 ?_
  refine r_istore_n (i := 1) (lv' := [(1, .int i2), (0, va_rf x0), (2, .int x2), (3, .int x3)]) (by decide) (by show kr_st _ 1 _ = _; simp [kr_st, kr_rfcat, kr_icat]) d_Flow_hasLoopOfTests_61 ?_
  exact kr_sub [1, 0, 2, 3] rfl (s_Flow_hasLoopOfTests_B62 hk4 hk14 h)
set_option maxRecDepth 20000 in
set_option maxHeartbeats 4000000 in
theorem s_Flow_hasLoopOfTests_C14 {k4 : AS → Option Nat → Int32 → Int32 → Option (Int32 × AS)} (hk4 : ∀ {S : AS} {x0 : Option Nat} {x1 : Int32} {x2 : Int32} {r : (Int32 × AS)}, k4 S x0 x1 x2 = some r → kr_AW m_Flow_hasLoopOfTests 3 4 [(0, va_rf x0), (1, .int x1), (2, .int x2)] [] S (kr_eI r)) {k14 : AS → Option Nat → Int32 → Int32 → Int32 → Option (Int32 × AS)} (hk14 : ∀ {S : AS} {x0 : Option Nat} {x1 : Int32} {x2 : Int32} {x3 : Int32} {r : (Int32 × AS)}, k14 S x0 x1 x2 x3 = some r → kr_AW m_Flow_hasLoopOfTests 3 14 [(0, va_rf x0), (1, .int x1), (2, .int x2), (3, .int x3)] [] S (kr_eI r)) {S : AS} {x0 : Option Nat} {x1 : Int32} {x2 : Int32} {x3 : Int32} {r : (Int32 × AS)} (h : f_Flow_hasLoopOfTests_C14 k4 k14 S x0 x1 x2 x3 = some r) : kr_AW m_Flow_hasLoopOfTests 3 14 [(0, va_rf x0), (1, .int x1), (2, .int x2), (3, .int x3)] [] S (kr_eI r) := by
  unfold f_Flow_hasLoopOfTests_C14 at h
  refine r_iload_n (i := 3) (x := x3) 3 rfl d_Flow_hasLoopOfTests_14 ?_
  refine r_aload_n (i := 0) (x := x0) 0 rfl d_Flow_hasLoopOfTests_15 ?_
  have h2 := kr_ob h
  clear h
  obtain ⟨v3, ev3, h⟩ := h2
  refine r_getI ev3 fk137 rfl d_Flow_hasLoopOfTests_16 ?_
  refine r_icmp_ge (tgt := 68) d_Flow_hasLoopOfTests_19 rfl (fun c => ?_) (fun c => ?_)
  · replace h := kr_ip c h
    have h2 := kr_ob h
    clear h
    obtain ⟨i4, ei4, h⟩ := h2
    refine r_iinc (v := i4) (lv' := [(2, .int i4), (0, va_rf x0), (1, .int x1), (3, .int x3)]) 2 rfl (kr_inc (by decide) ei4) (by decide) rfl d_Flow_hasLoopOfTests_68 ?_
    refine r_goto (tgt := 4) d_Flow_hasLoopOfTests_71 rfl ?_
    exact kr_sub [1, 2, 0] rfl (hk4 h)
  · replace h := kr_in_ c h
    refine r_aload_n (i := 0) (x := x0) 0 rfl d_Flow_hasLoopOfTests_22 ?_
    refine r_iload_n (i := 3) (x := x3) 3 rfl d_Flow_hasLoopOfTests_23 ?_
    have h2 := kr_ob h
    clear h
    obtain ⟨⟨⟩, eu5, h⟩ := h2
    have h2 := kr_ob2 h
    clear h
    obtain ⟨v7, S6, eS6, h⟩ := h2
    refine r_callV (M1 := m_Flow_isTest) (κ := 13) (As := [.int x3]) eu5 (s_Flow_isTest eS6) mok_Flow_isTest rfl (by decide) rfl w633 w634 w635 (by decide) (kr_c8 kr_c0) d_Flow_hasLoopOfTests_24 (kr_k1 ?_) kr_kn
    refine r_if_eq (tgt := 56) d_Flow_hasLoopOfTests_27 rfl (fun c => ?_) (fun c => ?_)
    · replace h := kr_ip c h
      exact kr_sub [0, 1, 2, 3] rfl (s_Flow_hasLoopOfTests_B56 hk4 hk14 h)
    · replace h := kr_in_ c h
      refine r_aload_n (i := 0) (x := x0) 0 rfl d_Flow_hasLoopOfTests_30 ?_
      refine r_iload_n (i := 3) (x := x3) 3 rfl d_Flow_hasLoopOfTests_31 ?_
      refine r_iconst (v := (1 : Int32)) (by decide) d_Flow_hasLoopOfTests_32 ?_
      have h2 := kr_ob h
      clear h
      obtain ⟨⟨⟩, eu8, h⟩ := h2
      have h2 := kr_ob2 h
      clear h
      obtain ⟨v10, S9, eS9, h⟩ := h2
      refine r_callV (M1 := m_Flow_nextOf) (κ := 13) (As := [.int x3, .int (1 : Int32)]) eu8 (s_Flow_nextOf eS9) mok_Flow_nextOf rfl (by decide) rfl w621 w622 w623 (by decide) (kr_c8 kr_c0) d_Flow_hasLoopOfTests_33 (kr_k1 ?_) kr_kn
      refine r_iload_n (i := 1) (x := x1) 1 rfl d_Flow_hasLoopOfTests_36 ?_
      have h2 := kr_ob2 h
      clear h
      obtain ⟨v12, S11, eS11, h⟩ := h2
      refine r_callS (M1 := m_Flow_leaves) (As := [.int v10, .int x1]) (s_Flow_leaves eS11) mok_Flow_leaves rfl w638 w639 (by decide) (kr_c8 kr_c0) d_Flow_hasLoopOfTests_37 (kr_k1 ?_) kr_kn
      refine r_if_eq (tgt := 62) d_Flow_hasLoopOfTests_40 rfl (fun c => ?_) (fun c => ?_)
      · replace h := kr_ip c h
        exact kr_sub [0, 1, 2, 3] rfl (s_Flow_hasLoopOfTests_B62 hk4 hk14 h)
      · replace h := kr_in_ c h
        refine r_aload_n (i := 0) (x := x0) 0 rfl d_Flow_hasLoopOfTests_43 ?_
        refine r_iload_n (i := 3) (x := x3) 3 rfl d_Flow_hasLoopOfTests_44 ?_
        refine r_iconst (v := (0 : Int32)) (by decide) d_Flow_hasLoopOfTests_45 ?_
        have h2 := kr_ob h
        clear h
        obtain ⟨⟨⟩, eu13, h⟩ := h2
        have h2 := kr_ob2 h
        clear h
        obtain ⟨v15, S14, eS14, h⟩ := h2
        refine r_callV (M1 := m_Flow_nextOf) (κ := 13) (As := [.int x3, .int (0 : Int32)]) eu13 (s_Flow_nextOf eS14) mok_Flow_nextOf rfl (by decide) rfl w621 w622 w623 (by decide) (kr_c8 kr_c0) d_Flow_hasLoopOfTests_46 (kr_k1 ?_) kr_kn
        refine r_iload_n (i := 1) (x := x1) 1 rfl d_Flow_hasLoopOfTests_49 ?_
        have h2 := kr_ob2 h
        clear h
        obtain ⟨v17, S16, eS16, h⟩ := h2
        refine r_callS (M1 := m_Flow_leaves) (As := [.int v15, .int x1]) (s_Flow_leaves eS16) mok_Flow_leaves rfl w638 w639 (by decide) (kr_c8 kr_c0) d_Flow_hasLoopOfTests_50 (kr_k1 ?_) kr_kn
        refine r_if_eq (tgt := 62) d_Flow_hasLoopOfTests_53 rfl (fun c => ?_) (fun c => ?_)
        · replace h := kr_ip c h
          exact kr_sub [0, 1, 2, 3] rfl (s_Flow_hasLoopOfTests_B62 hk4 hk14 h)
        · replace h := kr_in_ c h
          exact kr_sub [0, 1, 2, 3] rfl (s_Flow_hasLoopOfTests_B56 hk4 hk14 h)
theorem s_Flow_hasLoopOfTests_L14 {k4 : AS → Option Nat → Int32 → Int32 → Option (Int32 × AS)} (hk4 : ∀ {S : AS} {x0 : Option Nat} {x1 : Int32} {x2 : Int32} {r : (Int32 × AS)}, k4 S x0 x1 x2 = some r → kr_AW m_Flow_hasLoopOfTests 3 4 [(0, va_rf x0), (1, .int x1), (2, .int x2)] [] S (kr_eI r)) (n : Nat) : ∀ {S : AS} {x0 : Option Nat} {x1 : Int32} {x2 : Int32} {x3 : Int32} {r : (Int32 × AS)}, f_Flow_hasLoopOfTests_L14 k4 n S x0 x1 x2 x3 = some r → kr_AW m_Flow_hasLoopOfTests 3 14 [(0, va_rf x0), (1, .int x1), (2, .int x2), (3, .int x3)] [] S (kr_eI r) := by
  induction n with
  | zero => intro S x0 x1 x2 x3 r h; cases h
  | succ n ih => intro S x0 x1 x2 x3 r h; exact s_Flow_hasLoopOfTests_C14 hk4 (fun {_} {_} {_} {_} {_} {_} h => ih h) h
set_option maxRecDepth 20000 in
set_option maxHeartbeats 4000000 in
theorem s_Flow_hasLoopOfTests_C4 {k4 : AS → Option Nat → Int32 → Int32 → Option (Int32 × AS)} (hk4 : ∀ {S : AS} {x0 : Option Nat} {x1 : Int32} {x2 : Int32} {r : (Int32 × AS)}, k4 S x0 x1 x2 = some r → kr_AW m_Flow_hasLoopOfTests 3 4 [(0, va_rf x0), (1, .int x1), (2, .int x2)] [] S (kr_eI r)) {S : AS} {x0 : Option Nat} {x1 : Int32} {x2 : Int32} {r : (Int32 × AS)} (h : f_Flow_hasLoopOfTests_C4 k4 S x0 x1 x2 = some r) : kr_AW m_Flow_hasLoopOfTests 3 4 [(0, va_rf x0), (1, .int x1), (2, .int x2)] [] S (kr_eI r) := by
  unfold f_Flow_hasLoopOfTests_C4 at h
  refine r_iload_n (i := 2) (x := x2) 2 rfl d_Flow_hasLoopOfTests_4 ?_
  refine r_aload_n (i := 0) (x := x0) 0 rfl d_Flow_hasLoopOfTests_5 ?_
  have h2 := kr_ob h
  clear h
  obtain ⟨v18, ev18, h⟩ := h2
  refine r_getI ev18 fk137 rfl d_Flow_hasLoopOfTests_6 ?_
  refine r_icmp_ge (tgt := 74) d_Flow_hasLoopOfTests_9 rfl (fun c => ?_) (fun c => ?_)
  · replace h := kr_ip c h
    refine r_iload_n (i := 1) (x := x1) 1 rfl d_Flow_hasLoopOfTests_74 ?_
    refine r_iconst (v := (1 : Int32)) (by decide) d_Flow_hasLoopOfTests_75 ?_
    refine r_aload_n (i := 0) (x := x0) 0 rfl d_Flow_hasLoopOfTests_76 ?_
    have h2 := kr_ob h
    clear h
    obtain ⟨v19, ev19, h⟩ := h2
    refine r_getI ev19 fk137 rfl d_Flow_hasLoopOfTests_77 ?_
    refine r_ishl d_Flow_hasLoopOfTests_80 ?_
    refine r_iconst (v := (1 : Int32)) (by decide) d_Flow_hasLoopOfTests_81 ?_
    refine r_isub d_Flow_hasLoopOfTests_82 ?_
    refine r_icmp_eq (tgt := 90) d_Flow_hasLoopOfTests_83 rfl (fun c => ?_) (fun c => ?_)
    · replace h := kr_ip c h
      refine r_iconst (v := (0 : Int32)) (by decide) d_Flow_hasLoopOfTests_90 ?_
      cases h
      exact r_zret rfl rfl d_Flow_hasLoopOfTests_91
    · replace h := kr_in_ c h
      refine r_iconst (v := (1 : Int32)) (by decide) d_Flow_hasLoopOfTests_86 ?_
      refine r_goto (tgt := 91) d_Flow_hasLoopOfTests_87 rfl ?_
      cases h
      exact r_zret rfl rfl d_Flow_hasLoopOfTests_91
  · replace h := kr_in_ c h
    refine r_iconst (v := (0 : Int32)) (by decide) d_Flow_hasLoopOfTests_12 ?_
    refine r_istore_n (i := 3) (lv' := [(3, .int (0 : Int32)), (0, va_rf x0), (1, .int x1), (2, .int x2)]) (by decide) rfl d_Flow_hasLoopOfTests_13 ?_
    exact kr_sub [1, 2, 3, 0] rfl (s_Flow_hasLoopOfTests_L14 hk4 kr_FU h)
theorem s_Flow_hasLoopOfTests_L4 (n : Nat) : ∀ {S : AS} {x0 : Option Nat} {x1 : Int32} {x2 : Int32} {r : (Int32 × AS)}, f_Flow_hasLoopOfTests_L4 n S x0 x1 x2 = some r → kr_AW m_Flow_hasLoopOfTests 3 4 [(0, va_rf x0), (1, .int x1), (2, .int x2)] [] S (kr_eI r) := by
  induction n with
  | zero => intro S x0 x1 x2 r h; cases h
  | succ n ih => intro S x0 x1 x2 r h; exact s_Flow_hasLoopOfTests_C4 (fun {_} {_} {_} {_} {_} h => ih h) h
set_option maxRecDepth 20000 in
set_option maxHeartbeats 4000000 in
theorem s_Flow_hasLoopOfTests {S : AS} {a0 : Option Nat} {r : (Int32 × AS)} (h : f_Flow_hasLoopOfTests S a0 = some r) : kr_Con m_Flow_hasLoopOfTests 3 [va_rf a0] S (kr_eI r) := by
  refine kr_con rfl rfl (by decide +kernel) (by simp [lg_sl, kr_rfcat, kr_icat, m_Flow_hasLoopOfTests, mL]) ?_
  rw [show lv_args 0 [va_rf a0] = [(0, va_rf a0)] from by simp [lv_args, kr_rfcat, kr_icat]]
  unfold f_Flow_hasLoopOfTests at h
  refine r_iconst (v := (0 : Int32)) (by decide) d_Flow_hasLoopOfTests_0 ?_
  refine r_istore_n (i := 1) (lv' := [(1, .int (0 : Int32)), (0, va_rf a0)]) (by decide) (by show kr_st _ 1 _ = _; simp [kr_st, kr_rfcat, kr_icat]) d_Flow_hasLoopOfTests_1 ?_
  refine r_iconst (v := (0 : Int32)) (by decide) d_Flow_hasLoopOfTests_2 ?_
  refine r_istore_n (i := 2) (lv' := [(2, .int (0 : Int32)), (1, .int (0 : Int32)), (0, va_rf a0)]) (by decide) rfl d_Flow_hasLoopOfTests_3 ?_
  exact kr_sub [2, 1, 0] rfl (s_Flow_hasLoopOfTests_L4 kr_FU h)
/-! jdk/internal/util/ArraysSupport.newLength(III)I -/
def f_AS_newLength_B21 (S : AS) (x0 : Int32) (x1 : Int32) : Option (Int32 × AS) :=
  none
def f_AS_newLength (S : AS) (a0 : Int32) (a1 : Int32) (a2 : Int32) : Option (Int32 × AS) :=
  (some (a0 + (if a1 < a2 then a2 else a1))).bind fun i1 =>
  if i1 ≤ (0 : Int32) then
  f_AS_newLength_B21 S a0 a1
  else
  if (2147483639 : Int32) < i1 then
  f_AS_newLength_B21 S a0 a1
  else
  some (i1, S)
set_option maxRecDepth 20000 in
set_option maxHeartbeats 4000000 in
theorem s_AS_newLength_B21 {S : AS} {x0 : Int32} {x1 : Int32} {r : (Int32 × AS)} (h : f_AS_newLength_B21 S x0 x1 = some r) : kr_AW m_AS_newLength 1 21 [(0, .int x0), (1, .int x1)] [] S (kr_eI r) := by
  unfold f_AS_newLength_B21 at h
  refine r_iload_n (i := 0) (x := x0) 0 rfl d_AS_newLength_21 ?_
  refine r_iload_n (i := 1) (x := x1) 1 rfl d_AS_newLength_22 ?_
  cases h
set_option maxRecDepth 20000 in
set_option maxHeartbeats 4000000 in
theorem s_AS_newLength {S : AS} {a0 : Int32} {a1 : Int32} {a2 : Int32} {r : (Int32 × AS)} (h : f_AS_newLength S a0 a1 a2 = some r) : kr_Con m_AS_newLength 1 [.int a0, .int a1, .int a2] S (kr_eI r) := by
  refine kr_con rfl rfl (by decide +kernel) (by simp [lg_sl, kr_rfcat, kr_icat, m_AS_newLength, mL]) ?_
  rw [show lv_args 0 [.int a0, .int a1, .int a2] = [(0, .int a0), (1, .int a1), (2, .int a2)] from by simp [lv_args, kr_rfcat, kr_icat]]
  unfold f_AS_newLength at h
  refine r_iload_n (i := 0) (x := a0) 0 rfl d_AS_newLength_0 ?_
  refine r_iload_n (i := 1) (x := a1) 1 rfl d_AS_newLength_1 ?_
  refine r_iload_n (i := 2) (x := a2) 2 rfl d_AS_newLength_2 ?_
  refine r_mmax w661 w662 w94 w663 (by decide) (kr_c8 (kr_cI kr_c0)) d_AS_newLength_3 ?_
  refine r_iadd d_AS_newLength_6 ?_
  have h2 := kr_ob h
  clear h
  obtain ⟨i1, ei1, h⟩ := h2
  refine kr_nmI ei1 ?_
  refine r_istore_n (i := 3) (lv' := [(3, .int i1), (0, .int a0), (1, .int a1), (2, .int a2)]) (by decide) rfl d_AS_newLength_7 ?_
  refine r_iconst (v := (0 : Int32)) (by decide) d_AS_newLength_8 ?_
  refine r_iload_n (i := 3) (x := i1) 0 rfl d_AS_newLength_9 ?_
  refine r_icmp_ge (tgt := 21) d_AS_newLength_10 rfl (fun c => ?_) (fun c => ?_)
  · replace h := kr_ip c h
    exact kr_sub [1, 2] rfl (s_AS_newLength_B21 h)
  · replace h := kr_in_ c h
    refine r_iload_n (i := 3) (x := i1) 0 rfl d_AS_newLength_13 ?_
    refine r_ldc (v := (2147483639 : Int32)) w664 d_AS_newLength_14 ?_
    refine r_icmp_gt (tgt := 21) d_AS_newLength_16 rfl (fun c => ?_) (fun c => ?_)
    · replace h := kr_ip c h
      exact kr_sub [1, 2] rfl (s_AS_newLength_B21 h)
    · replace h := kr_in_ c h
      refine r_iload_n (i := 3) (x := i1) 0 rfl d_AS_newLength_19 ?_
      cases h
      exact r_iret rfl d_AS_newLength_20
/-! java/util/Arrays.copyOf([Ljava/lang/Object;ILjava/lang/Class;)[Ljava/lang/Object; -/
def f_AR_copyOf2_B24 (S : AS) (x0 : Option Nat) (x1 : Int32) (y0 : Option Nat) : Option (Option Nat × AS) :=
  (aN S x0).bind fun v1 =>
  (kr_cp S x0 y0 (if x1 < v1 then x1 else v1)).bind fun S2 =>
  some (y0, S2)
def f_AR_copyOf2 (S : AS) (a0 : Option Nat) (a1 : Int32) (a2 : Option Nat) : Option (Option Nat × AS) :=
  if a2 = some 3 then
  (nA S 43 a1).bind fun S3 =>
  f_AR_copyOf2_B24 S3 a0 a1 (some (sN S))
  else none
set_option maxRecDepth 20000 in
set_option maxHeartbeats 4000000 in
theorem s_AR_copyOf2_B24 {S : AS} {x0 : Option Nat} {x1 : Int32} {y0 : Option Nat} {r : (Option Nat × AS)} (h : f_AR_copyOf2_B24 S x0 x1 y0 = some r) : kr_AW m_AR_copyOf2 1 24 [(0, va_rf x0), (1, .int x1)] [va_rf y0] S (kr_eR r) := by
  unfold f_AR_copyOf2_B24 at h
  refine r_astore_n (i := 3) (lv' := [(3, va_rf y0), (0, va_rf x0), (1, .int x1)]) (by decide) rfl d_AR_copyOf2_24 ?_
  refine r_aload_n (i := 0) (x := x0) 1 rfl d_AR_copyOf2_25 ?_
  refine r_iconst (v := (0 : Int32)) (by decide) d_AR_copyOf2_26 ?_
  refine r_aload_n (i := 3) (x := y0) 0 rfl d_AR_copyOf2_27 ?_
  refine r_iconst (v := (0 : Int32)) (by decide) d_AR_copyOf2_28 ?_
  refine r_aload_n (i := 0) (x := x0) 1 rfl d_AR_copyOf2_29 ?_
  have h2 := kr_ob h
  clear h
  obtain ⟨v1, ev1, h⟩ := h2
  refine r_alen ev1 d_AR_copyOf2_30 ?_
  refine r_iload_n (i := 1) (x := x1) 2 rfl d_AR_copyOf2_31 ?_
  refine r_mmin w698 w699 w94 w700 (by decide) (kr_c8 (kr_cI (kr_cR (kr_cI (kr_cR kr_c0))))) d_AR_copyOf2_32 ?_
  have h2 := kr_ob h
  clear h
  obtain ⟨S2, eS2, h⟩ := h2
  refine r_copy eS2 w701 w703 w702 w96 (by decide) (kr_c8 kr_c0) d_AR_copyOf2_35 ?_
  refine r_aload_n (i := 3) (x := y0) 0 rfl d_AR_copyOf2_38 ?_
  cases h
  exact r_aret rfl rfl d_AR_copyOf2_39
set_option maxRecDepth 20000 in
set_option maxHeartbeats 4000000 in
theorem s_AR_copyOf2 {S : AS} {a0 : Option Nat} {a1 : Int32} {a2 : Option Nat} {r : (Option Nat × AS)} (h : f_AR_copyOf2 S a0 a1 a2 = some r) : kr_Con m_AR_copyOf2 1 [va_rf a0, .int a1, va_rf a2] S (kr_eR r) := by
  refine kr_con rfl rfl (by decide +kernel) (by simp [lg_sl, kr_rfcat, kr_icat, m_AR_copyOf2, mL]) ?_
  rw [show lv_args 0 [va_rf a0, .int a1, va_rf a2] = [(0, va_rf a0), (1, .int a1), (2, va_rf a2)] from by simp [lv_args, kr_rfcat, kr_icat]]
  unfold f_AR_copyOf2 at h
  refine r_aload_n (i := 2) (x := a2) 2 rfl d_AR_copyOf2_0 ?_
  refine r_ldcM w695 d_AR_copyOf2_1 ?_
  by_cases c3 : a2 = some 3
  · subst c3
    replace h := kr_ip rfl h
    refine r_acmp33 (tgt := 13) d_AR_copyOf2_3 rfl ?_
    refine r_iload_n (i := 1) (x := a1) 1 rfl d_AR_copyOf2_6 ?_
    have h2 := kr_ob h
    clear h
    obtain ⟨S3, eS3, h⟩ := h2
    refine r_newO eS3 w697 d_AR_copyOf2_7 ?_
    refine r_goto (tgt := 24) d_AR_copyOf2_10 rfl ?_
    exact kr_sub [0, 1] rfl (s_AR_copyOf2_B24 h)
  · replace h := kr_in_ c3 h
    cases h
/-! java/util/Arrays.copyOf([Ljava/lang/Object;I)[Ljava/lang/Object; -/
def f_AR_copyOf1 (S : AS) (a0 : Option Nat) (a1 : Int32) : Option (Option Nat × AS) :=
  (kr_rv S 43 a0).bind fun u1 =>
  kr_b2 (f_AR_copyOf2 S a0 a1 (some 3)) fun v3 S2 =>
  some (v3, S2)
set_option maxRecDepth 20000 in
set_option maxHeartbeats 4000000 in
theorem s_AR_copyOf1 {S : AS} {a0 : Option Nat} {a1 : Int32} {r : (Option Nat × AS)} (h : f_AR_copyOf1 S a0 a1 = some r) : kr_Con m_AR_copyOf1 2 [va_rf a0, .int a1] S (kr_eR r) := by
  refine kr_con rfl rfl (by decide +kernel) (by simp [lg_sl, kr_rfcat, kr_icat, m_AR_copyOf1, mL]) ?_
  rw [show lv_args 0 [va_rf a0, .int a1] = [(0, va_rf a0), (1, .int a1)] from by simp [lv_args, kr_rfcat, kr_icat]]
  unfold f_AR_copyOf1 at h
  refine r_aload_n (i := 0) (x := a0) 0 rfl d_AR_copyOf1_0 ?_
  refine r_iload_n (i := 1) (x := a1) 1 rfl d_AR_copyOf1_1 ?_
  refine r_aload_n (i := 0) (x := a0) 0 rfl d_AR_copyOf1_2 ?_
  have h2 := kr_ob h
  clear h
  obtain ⟨⟨⟩, eu1, h⟩ := h2
  refine r_getC eu1 w671 w2074 w2073 w672 w691 (by decide) (kr_c8 (kr_cI (kr_cR kr_c0))) d_AR_copyOf1_3 ?_
  have h2 := kr_ob2 h
  clear h
  obtain ⟨v3, S2, eS2, h⟩ := h2
  refine r_callS (M1 := m_AR_copyOf2) (As := [va_rf a0, .int a1, va_rf (some 3)]) (s_AR_copyOf2 eS2) mok_AR_copyOf2 rfl w692 w693 (by decide) (kr_c8 kr_c0) d_AR_copyOf1_6 (kr_k1 ?_) kr_kn
  cases h
  exact r_aret rfl rfl d_AR_copyOf1_9
/-! java/util/ArrayList.grow(I)[Ljava/lang/Object; -/
def f_AL_grow2_B20 (S : AS) (x0 : Option Nat) (x1 : Int32) (x2 : Int32) : Option (Option Nat × AS) :=
  kr_b2 (f_AS_newLength S x2 (x1 - x2) (x2 >>> ((1 : Int32) &&& 31))) fun v2 S1 =>
  (gR S1 10 1 x0).bind fun v3 =>
  kr_b2 (f_AR_copyOf1 S1 v3 v2) fun v5 S4 =>
  (pR S4 10 1 x0 v5).bind fun S6 =>
  some (v5, S6)
def f_AL_grow2 (S : AS) (a0 : Option Nat) (a1 : Int32) : Option (Option Nat × AS) :=
  (gR S 10 1 a0).bind fun v7 =>
  (aN S v7).bind fun v8 =>
  if 0 < v8 then
  f_AL_grow2_B20 S a0 a1 v8
  else
  (gR S 10 1 a0).bind fun v9 =>
  (kr_ac S v9).bind fun u10 =>
  (kr_ac S (some 0)).bind fun u11 =>
  if v9 = (some 0) then
  (nA S 43 (if (10 : Int32) < a1 then a1 else (10 : Int32))).bind fun S12 =>
  (pR S12 10 1 a0 (some (sN S))).bind fun S13 =>
  some ((some (sN S)), S13)
  else
  f_AL_grow2_B20 S a0 a1 v8
set_option maxRecDepth 20000 in
set_option maxHeartbeats 4000000 in
theorem s_AL_grow2_B20 {S : AS} {x0 : Option Nat} {x1 : Int32} {x2 : Int32} {r : (Option Nat × AS)} (h : f_AL_grow2_B20 S x0 x1 x2 = some r) : kr_AW m_AL_grow2 3 20 [(0, va_rf x0), (1, .int x1), (2, .int x2)] [] S (kr_eR r) := by
  unfold f_AL_grow2_B20 at h
  refine r_iload_n (i := 2) (x := x2) 2 rfl d_AL_grow2_20 ?_
  refine r_iload_n (i := 1) (x := x1) 1 rfl d_AL_grow2_21 ?_
  refine r_iload_n (i := 2) (x := x2) 2 rfl d_AL_grow2_22 ?_
  refine r_isub d_AL_grow2_23 ?_
  refine r_iload_n (i := 2) (x := x2) 2 rfl d_AL_grow2_24 ?_
  refine r_iconst (v := (1 : Int32)) (by decide) d_AL_grow2_25 ?_
  refine r_ishr d_AL_grow2_26 ?_
  have h2 := kr_ob2 h
  clear h
  obtain ⟨v2, S1, eS1, h⟩ := h2
  refine r_callS (M1 := m_AS_newLength) (As := [.int x2, .int (x1 - x2), .int (x2 >>> ((1 : Int32) &&& 31))]) (s_AS_newLength eS1) mok_AS_newLength rfl w658 w659 (by decide) (kr_c8 kr_c0) d_AL_grow2_27 (kr_k1 ?_) kr_kn
  refine r_istore_n (i := 3) (lv' := [(3, .int v2), (0, va_rf x0), (1, .int x1), (2, .int x2)]) (by decide) rfl d_AL_grow2_30 ?_
  refine r_aload_n (i := 0) (x := x0) 1 rfl d_AL_grow2_31 ?_
  refine r_aload_n (i := 0) (x := x0) 1 rfl d_AL_grow2_32 ?_
  have h2 := kr_ob h
  clear h
  obtain ⟨v3, ev3, h⟩ := h2
  refine r_getR ev3 fk9 rfl d_AL_grow2_33 ?_
  refine r_iload_n (i := 3) (x := v2) 0 rfl d_AL_grow2_36 ?_
  have h2 := kr_ob2 h
  clear h
  obtain ⟨v5, S4, eS4, h⟩ := h2
  refine r_callS (M1 := m_AR_copyOf1) (As := [va_rf v3, .int v2]) (s_AR_copyOf1 eS4) mok_AR_copyOf1 rfl w668 w669 (by decide) (kr_c8 (kr_cR kr_c0)) d_AL_grow2_37 (kr_k1 ?_) kr_kn
  refine r_dup_x1 (kr_rfcat _) (kr_rfcat _) d_AL_grow2_40 ?_
  have h2 := kr_ob h
  clear h
  obtain ⟨S6, eS6, h⟩ := h2
  refine r_putR eS6 fk9 (Or.inl rfl) rfl d_AL_grow2_41 ?_
  cases h
  exact r_aret rfl rfl d_AL_grow2_44
set_option maxRecDepth 20000 in
set_option maxHeartbeats 4000000 in
theorem s_AL_grow2 {S : AS} {a0 : Option Nat} {a1 : Int32} {r : (Option Nat × AS)} (h : f_AL_grow2 S a0 a1 = some r) : kr_Con m_AL_grow2 3 [va_rf a0, .int a1] S (kr_eR r) := by
  refine kr_con rfl rfl (by decide +kernel) (by simp [lg_sl, kr_rfcat, kr_icat, m_AL_grow2, mL]) ?_
  rw [show lv_args 0 [va_rf a0, .int a1] = [(0, va_rf a0), (1, .int a1)] from by simp [lv_args, kr_rfcat, kr_icat]]
  unfold f_AL_grow2 at h
  refine r_aload_n (i := 0) (x := a0) 0 rfl d_AL_grow2_0 ?_
  have h2 := kr_ob h
  clear h
  obtain ⟨v7, ev7, h⟩ := h2
  refine r_getR ev7 fk9 rfl d_AL_grow2_1 ?_
  have h2 := kr_ob h
  clear h
  obtain ⟨v8, ev8, h⟩ := h2
  refine r_alen ev8 d_AL_grow2_4 ?_
  refine r_istore_n (i := 2) (lv' := [(2, .int v8), (0, va_rf a0), (1, .int a1)]) (by decide) rfl d_AL_grow2_5 ?_
  refine r_iload_n (i := 2) (x := v8) 0 rfl d_AL_grow2_6 ?_
  refine r_if_gt (tgt := 20) d_AL_grow2_7 rfl (fun c => ?_) (fun c => ?_)
  · replace h := kr_ip c h
    exact kr_sub [1, 2, 0] rfl (s_AL_grow2_B20 h)
  · replace h := kr_in_ c h
    refine r_aload_n (i := 0) (x := a0) 1 rfl d_AL_grow2_10 ?_
    have h2 := kr_ob h
    clear h
    obtain ⟨v9, ev9, h⟩ := h2
    refine r_getR ev9 fk9 rfl d_AL_grow2_11 ?_
    refine r_getD w174 d_AL_grow2_14 ?_
    have h2 := kr_ob h
    clear h
    obtain ⟨⟨⟩, eu10, h⟩ := h2
    have h2 := kr_ob h
    clear h
    obtain ⟨⟨⟩, eu11, h⟩ := h2
    refine r_acmp_eq (tgt := 45) eu10 eu11 d_AL_grow2_17 rfl (fun c => ?_) (fun c => ?_)
    · replace h := kr_ip c h
      refine r_aload_n (i := 0) (x := a0) 1 rfl d_AL_grow2_45 ?_
      refine r_bipush (v := (10 : Int32)) (by decide) d_AL_grow2_46 ?_
      refine r_iload_n (i := 1) (x := a1) 2 rfl d_AL_grow2_48 ?_
      refine r_mmax w704 w662 w94 w663 (by decide) (kr_c8 (kr_cR kr_c0)) d_AL_grow2_49 ?_
      have h2 := kr_ob h
      clear h
      obtain ⟨S12, eS12, h⟩ := h2
      refine r_newO eS12 w705 d_AL_grow2_52 ?_
      refine r_dup_x1 (kr_rfcat _) (kr_rfcat _) d_AL_grow2_55 ?_
      have h2 := kr_ob h
      clear h
      obtain ⟨S13, eS13, h⟩ := h2
      refine r_putR eS13 fk9 (Or.inl rfl) rfl d_AL_grow2_56 ?_
      cases h
      exact r_aret rfl rfl d_AL_grow2_59
    · replace h := kr_in_ c h
      exact kr_sub [1, 2, 0] rfl (s_AL_grow2_B20 h)
/-! java/util/ArrayList.grow()[Ljava/lang/Object; -/
def f_AL_grow1 (S : AS) (a0 : Option Nat) : Option (Option Nat × AS) :=
  (gI S 10 2 a0).bind fun v1 =>
  (kr_rv S 10 a0).bind fun u2 =>
  kr_b2 (f_AL_grow2 S a0 (v1 + (1 : Int32))) fun v4 S3 =>
  some (v4, S3)
set_option maxRecDepth 20000 in
set_option maxHeartbeats 4000000 in
theorem s_AL_grow1 {S : AS} {a0 : Option Nat} {r : (Option Nat × AS)} (h : f_AL_grow1 S a0 = some r) : kr_Con m_AL_grow1 4 [va_rf a0] S (kr_eR r) := by
  refine kr_con rfl rfl (by decide +kernel) (by simp [lg_sl, kr_rfcat, kr_icat, m_AL_grow1, mL]) ?_
  rw [show lv_args 0 [va_rf a0] = [(0, va_rf a0)] from by simp [lv_args, kr_rfcat, kr_icat]]
  unfold f_AL_grow1 at h
  refine r_aload_n (i := 0) (x := a0) 0 rfl d_AL_grow1_0 ?_
  refine r_aload_n (i := 0) (x := a0) 0 rfl d_AL_grow1_1 ?_
  have h2 := kr_ob h
  clear h
  obtain ⟨v1, ev1, h⟩ := h2
  refine r_getI ev1 fk115 rfl d_AL_grow1_2 ?_
  refine r_iconst (v := (1 : Int32)) (by decide) d_AL_grow1_5 ?_
  refine r_iadd d_AL_grow1_6 ?_
  have h2 := kr_ob h
  clear h
  obtain ⟨⟨⟩, eu2, h⟩ := h2
  have h2 := kr_ob2 h
  clear h
  obtain ⟨v4, S3, eS3, h⟩ := h2
  refine r_callV (M1 := m_AL_grow2) (κ := 10) (As := [.int (v1 + (1 : Int32))]) eu2 (s_AL_grow2 eS3) mok_AL_grow2 rfl (by decide) rfl w654 w656 w13 (by decide) (kr_c8 kr_c0) d_AL_grow1_7 (kr_k1 ?_) kr_kn
  cases h
  exact r_aret rfl rfl d_AL_grow1_10
/-! java/util/ArrayList.add(Ljava/lang/Object;[Ljava/lang/Object;I)V -/
def f_AL_add2_B11 (S : AS) (x0 : Option Nat) (x1 : Option Nat) (x2 : Option Nat) (x3 : Int32) : Option AS :=
  (bR S 43 10 23 x2 x3 x1).bind fun S1 =>
  (pI S1 10 2 x0 (x3 + (1 : Int32))).bind fun S2 =>
  some S2
def f_AL_add2 (S : AS) (a0 : Option Nat) (a1 : Option Nat) (a2 : Option Nat) (a3 : Int32) : Option AS :=
  (aN S a2).bind fun v3 =>
  if a3 = v3 then
  (kr_rv S 10 a0).bind fun u4 =>
  kr_b2 (f_AL_grow1 S a0) fun v6 S5 =>
  f_AL_add2_B11 S5 a0 a1 v6 a3
  else
  f_AL_add2_B11 S a0 a1 a2 a3
set_option maxRecDepth 20000 in
set_option maxHeartbeats 4000000 in
theorem s_AL_add2_B11 {S : AS} {x0 : Option Nat} {x1 : Option Nat} {x2 : Option Nat} {x3 : Int32} {r : AS} (h : f_AL_add2_B11 S x0 x1 x2 x3 = some r) : kr_AW m_AL_add2 5 11 [(0, va_rf x0), (1, va_rf x1), (2, va_rf x2), (3, .int x3)] [] S (kr_eV r) := by
  unfold f_AL_add2_B11 at h
  refine r_aload_n (i := 2) (x := x2) 2 rfl d_AL_add2_11 ?_
  refine r_iload_n (i := 3) (x := x3) 3 rfl d_AL_add2_12 ?_
  refine r_aload_n (i := 1) (x := x1) 1 rfl d_AL_add2_13 ?_
  have h2 := kr_ob h
  clear h
  obtain ⟨S1, eS1, h⟩ := h2
  refine r_aastoreO eS1 d_AL_add2_14 ?_
  refine r_aload_n (i := 0) (x := x0) 0 rfl d_AL_add2_15 ?_
  refine r_iload_n (i := 3) (x := x3) 3 rfl d_AL_add2_16 ?_
  refine r_iconst (v := (1 : Int32)) (by decide) d_AL_add2_17 ?_
  refine r_iadd d_AL_add2_18 ?_
  have h2 := kr_ob h
  clear h
  obtain ⟨S2, eS2, h⟩ := h2
  refine r_putI eS2 fk115 (Or.inl rfl) rfl d_AL_add2_19 ?_
  cases h
  exact r_vret rfl d_AL_add2_22
set_option maxRecDepth 20000 in
set_option maxHeartbeats 4000000 in
theorem s_AL_add2 {S : AS} {a0 : Option Nat} {a1 : Option Nat} {a2 : Option Nat} {a3 : Int32} {r : AS} (h : f_AL_add2 S a0 a1 a2 a3 = some r) : kr_Con m_AL_add2 5 [va_rf a0, va_rf a1, va_rf a2, .int a3] S (kr_eV r) := by
  refine kr_con rfl rfl (by decide +kernel) (by simp [lg_sl, kr_rfcat, kr_icat, m_AL_add2, mL]) ?_
  rw [show lv_args 0 [va_rf a0, va_rf a1, va_rf a2, .int a3] = [(0, va_rf a0), (1, va_rf a1), (2, va_rf a2), (3, .int a3)] from by simp [lv_args, kr_rfcat, kr_icat]]
  unfold f_AL_add2 at h
  refine r_iload_n (i := 3) (x := a3) 3 rfl d_AL_add2_0 ?_
  refine r_aload_n (i := 2) (x := a2) 2 rfl d_AL_add2_1 ?_
  have h2 := kr_ob h
  clear h
  obtain ⟨v3, ev3, h⟩ := h2
  refine r_alen ev3 d_AL_add2_2 ?_
  refine r_icmp_ne (tgt := 11) d_AL_add2_3 rfl (fun c => ?_) (fun c => ?_)
  · replace h := kr_ip c h
    refine r_aload_n (i := 0) (x := a0) 0 rfl d_AL_add2_6 ?_
    have h2 := kr_ob h
    clear h
    obtain ⟨⟨⟩, eu4, h⟩ := h2
    have h2 := kr_ob2 h
    clear h
    obtain ⟨v6, S5, eS5, h⟩ := h2
    refine r_callV (M1 := m_AL_grow1) (κ := 10) (As := []) eu4 (s_AL_grow1 eS5) mok_AL_grow1 rfl (by decide) rfl w650 w652 w12 (by decide) (kr_c8 kr_c0) d_AL_add2_7 (kr_k1 ?_) kr_kn
    refine r_astore_n (i := 2) (lv' := [(2, va_rf v6), (0, va_rf a0), (1, va_rf a1), (3, .int a3)]) (by decide) (by show kr_st _ 2 _ = _; simp [kr_st, kr_rfcat, kr_icat]) d_AL_add2_10 ?_
    exact kr_sub [1, 2, 0, 3] rfl (s_AL_add2_B11 h)
  · replace h := kr_in_ c h
    exact kr_sub [0, 1, 2, 3] rfl (s_AL_add2_B11 h)
/-! java/util/ArrayList.add(Ljava/lang/Object;)Z -/
def f_AL_add1 (S : AS) (a0 : Option Nat) (a1 : Option Nat) : Option (Int32 × AS) :=
  (gI S 10 0 a0).bind fun v1 =>
  (pI S 10 0 a0 (v1 + (1 : Int32))).bind fun S2 =>
  (gR S2 10 1 a0).bind fun v3 =>
  (gI S2 10 2 a0).bind fun v4 =>
  (kr_rv S2 10 a0).bind fun u5 =>
  (f_AL_add2 S2 a0 a1 v3 v4).bind fun S6 =>
  some ((1 : Int32), S6)
set_option maxRecDepth 20000 in
set_option maxHeartbeats 4000000 in
theorem s_AL_add1 {S : AS} {a0 : Option Nat} {a1 : Option Nat} {r : (Int32 × AS)} (h : f_AL_add1 S a0 a1 = some r) : kr_Con m_AL_add1 6 [va_rf a0, va_rf a1] S (kr_eI r) := by
  refine kr_con rfl rfl (by decide +kernel) (by simp [lg_sl, kr_rfcat, kr_icat, m_AL_add1, mL]) ?_
  rw [show lv_args 0 [va_rf a0, va_rf a1] = [(0, va_rf a0), (1, va_rf a1)] from by simp [lv_args, kr_rfcat, kr_icat]]
  unfold f_AL_add1 at h
  refine r_aload_n (i := 0) (x := a0) 0 rfl d_AL_add1_0 ?_
  refine r_dup (kr_rfcat _) d_AL_add1_1 ?_
  have h2 := kr_ob h
  clear h
  obtain ⟨v1, ev1, h⟩ := h2
  refine r_getI ev1 fk139 rfl d_AL_add1_2 ?_
  refine r_iconst (v := (1 : Int32)) (by decide) d_AL_add1_5 ?_
  refine r_iadd d_AL_add1_6 ?_
  have h2 := kr_ob h
  clear h
  obtain ⟨S2, eS2, h⟩ := h2
  refine r_putI eS2 fk139 (Or.inl rfl) rfl d_AL_add1_7 ?_
  refine r_aload_n (i := 0) (x := a0) 0 rfl d_AL_add1_10 ?_
  refine r_aload_n (i := 1) (x := a1) 1 rfl d_AL_add1_11 ?_
  refine r_aload_n (i := 0) (x := a0) 0 rfl d_AL_add1_12 ?_
  have h2 := kr_ob h
  clear h
  obtain ⟨v3, ev3, h⟩ := h2
  refine r_getR ev3 fk9 rfl d_AL_add1_13 ?_
  refine r_aload_n (i := 0) (x := a0) 0 rfl d_AL_add1_16 ?_
  have h2 := kr_ob h
  clear h
  obtain ⟨v4, ev4, h⟩ := h2
  refine r_getI ev4 fk115 rfl d_AL_add1_17 ?_
  have h2 := kr_ob h
  clear h
  obtain ⟨⟨⟩, eu5, h⟩ := h2
  have h2 := kr_ob h
  clear h
  obtain ⟨S6, eS6, h⟩ := h2
  refine r_callV (M1 := m_AL_add2) (κ := 10) (As := [va_rf a1, va_rf v3, .int v4]) eu5 (s_AL_add2 eS6) mok_AL_add2 rfl (by decide) rfl w646 w648 w11 (by decide) (kr_c8 kr_c0) d_AL_add1_20 (kr_k0 ?_) kr_kn
  refine r_iconst (v := (1 : Int32)) (by decide) d_AL_add1_23 ?_
  cases h
  exact r_zret rfl rfl d_AL_add1_24
/-! KeyringCourt$Flow.firstOf(I)I -/
def f_Flow_firstOf (S : AS) (a0 : Option Nat) (a1 : Int32) : Option (Int32 × AS) :=
  (kr_rv S 13 a0).bind fun u1 =>
  kr_b2 (f_Flow_isThere S a0 a1) fun v3 S2 =>
  if v3 = 0 then
  some ((0 : Int32), S2)
  else
  (gR S2 13 1 a0).bind fun v4 =>
  (aI S2 40 v4 a1).bind fun v5 =>
  some (v5, S2)
set_option maxRecDepth 20000 in
set_option maxHeartbeats 4000000 in
theorem s_Flow_firstOf {S : AS} {a0 : Option Nat} {a1 : Int32} {r : (Int32 × AS)} (h : f_Flow_firstOf S a0 a1 = some r) : kr_Con m_Flow_firstOf 1 [va_rf a0, .int a1] S (kr_eI r) := by
  refine kr_con rfl rfl (by decide +kernel) (by simp [lg_sl, kr_rfcat, kr_icat, m_Flow_firstOf, mL]) ?_
  rw [show lv_args 0 [va_rf a0, .int a1] = [(0, va_rf a0), (1, .int a1)] from by simp [lv_args, kr_rfcat, kr_icat]]
  unfold f_Flow_firstOf at h
  refine r_aload_n (i := 0) (x := a0) 0 rfl d_Flow_firstOf_0 ?_
  refine r_iload_n (i := 1) (x := a1) 1 rfl d_Flow_firstOf_1 ?_
  have h2 := kr_ob h
  clear h
  obtain ⟨⟨⟩, eu1, h⟩ := h2
  have h2 := kr_ob2 h
  clear h
  obtain ⟨v3, S2, eS2, h⟩ := h2
  refine r_callV (M1 := m_Flow_isThere) (κ := 13) (As := [.int a1]) eu1 (s_Flow_isThere eS2) mok_Flow_isThere rfl (by decide) rfl w617 w618 w619 (by decide) (kr_c8 kr_c0) d_Flow_firstOf_2 (kr_k1 ?_) kr_kn
  refine r_if_eq (tgt := 17) d_Flow_firstOf_5 rfl (fun c => ?_) (fun c => ?_)
  · replace h := kr_ip c h
    refine r_iconst (v := (0 : Int32)) (by decide) d_Flow_firstOf_17 ?_
    cases h
    exact r_iret rfl d_Flow_firstOf_18
  · replace h := kr_in_ c h
    refine r_aload_n (i := 0) (x := a0) 0 rfl d_Flow_firstOf_8 ?_
    have h2 := kr_ob h
    clear h
    obtain ⟨v4, ev4, h⟩ := h2
    refine r_getR ev4 fk4 rfl d_Flow_firstOf_9 ?_
    refine r_iload_n (i := 1) (x := a1) 1 rfl d_Flow_firstOf_12 ?_
    have h2 := kr_ob h
    clear h
    obtain ⟨v5, ev5, h⟩ := h2
    refine r_iaload ev5 d_Flow_firstOf_13 ?_
    refine r_goto (tgt := 18) d_Flow_firstOf_14 rfl ?_
    cases h
    exact r_iret rfl d_Flow_firstOf_18
/-! KeyringCourt$Shown.weightOf(I)I -/
def f_Shown_weightOf (S : AS) (a0 : Int32) : Option (Int32 × AS) :=
  kr_b2 (f_K_isFactor S a0) fun v2 S1 =>
  if v2 = 0 then
  some ((0 : Int32), S1)
  else
  (aI S1 2 (some 1) a0).bind fun v3 =>
  some (v3, S1)
set_option maxRecDepth 20000 in
set_option maxHeartbeats 4000000 in
theorem s_Shown_weightOf {S : AS} {a0 : Int32} {r : (Int32 × AS)} (h : f_Shown_weightOf S a0 = some r) : kr_Con m_Shown_weightOf 2 [.int a0] S (kr_eI r) := by
  refine kr_con rfl rfl (by decide +kernel) (by simp [lg_sl, kr_rfcat, kr_icat, m_Shown_weightOf, mL]) ?_
  rw [show lv_args 0 [.int a0] = [(0, .int a0)] from by simp [lv_args, kr_rfcat, kr_icat]]
  unfold f_Shown_weightOf at h
  refine r_iload_n (i := 0) (x := a0) 0 rfl d_Shown_weightOf_0 ?_
  have h2 := kr_ob2 h
  clear h
  obtain ⟨v2, S1, eS1, h⟩ := h2
  refine r_callSN (M1 := m_K_isFactor) (As := [.int a0]) (s_K_isFactor eS1) mok_K_isFactor rfl w739 w564 (by decide) (kr_c8 kr_c0) d_Shown_weightOf_1 (kr_k1 ?_) kr_kn
  refine r_if_eq (tgt := 15) d_Shown_weightOf_4 rfl (fun c => ?_) (fun c => ?_)
  · replace h := kr_ip c h
    refine r_iconst (v := (0 : Int32)) (by decide) d_Shown_weightOf_15 ?_
    cases h
    exact r_iret rfl d_Shown_weightOf_16
  · replace h := kr_in_ c h
    refine r_getW w740 d_Shown_weightOf_7 ?_
    refine r_iload_n (i := 0) (x := a0) 0 rfl d_Shown_weightOf_10 ?_
    have h2 := kr_ob h
    clear h
    obtain ⟨v3, ev3, h⟩ := h2
    refine r_wload ev3 d_Shown_weightOf_11 ?_
    refine r_goto (tgt := 16) d_Shown_weightOf_12 rfl ?_
    cases h
    exact r_iret rfl d_Shown_weightOf_16
/-! KeyringCourt$Shown.levelOfSet(I)I -/
def f_Shown_levelOfSet_B24 (k4 : AS → Int32 → Int32 → Int32 → Option (Int32 × AS)) (S : AS) (x0 : Int32) (x1 : Int32) (x2 : Int32) : Option (Int32 × AS) :=
  (some (x2 + (1 : Int32))).bind fun i1 =>
  k4 S x0 x1 i1
def f_Shown_levelOfSet_C4 (k4 : AS → Int32 → Int32 → Int32 → Option (Int32 × AS)) (S : AS) (x0 : Int32) (x1 : Int32) (x2 : Int32) : Option (Int32 × AS) :=
  if (3 : Int32) ≤ x2 then
  some (x1, S)
  else
  kr_b2 (f_K_isIn S x2 x0) fun v3 S2 =>
  if v3 = 0 then
  f_Shown_levelOfSet_B24 k4 S2 x0 x1 x2
  else
  kr_b2 (f_Shown_weightOf S2 x2) fun v5 S4 =>
  (some (x1 + v5)).bind fun i6 =>
  f_Shown_levelOfSet_B24 k4 S4 x0 i6 x2
def f_Shown_levelOfSet_L4 : Nat → AS → Int32 → Int32 → Int32 → Option (Int32 × AS)
  | 0, S, x0, x1, x2 => none
  | n + 1, S, x0, x1, x2 => f_Shown_levelOfSet_C4 (f_Shown_levelOfSet_L4 n) S x0 x1 x2
def f_Shown_levelOfSet (S : AS) (a0 : Int32) : Option (Int32 × AS) :=
  f_Shown_levelOfSet_L4 kr_FU S a0 (0 : Int32) (0 : Int32)
set_option maxRecDepth 20000 in
set_option maxHeartbeats 4000000 in
theorem s_Shown_levelOfSet_B24 {k4 : AS → Int32 → Int32 → Int32 → Option (Int32 × AS)} (hk4 : ∀ {S : AS} {x0 : Int32} {x1 : Int32} {x2 : Int32} {r : (Int32 × AS)}, k4 S x0 x1 x2 = some r → kr_AW m_Shown_levelOfSet 3 4 [(0, .int x0), (1, .int x1), (2, .int x2)] [] S (kr_eI r)) {S : AS} {x0 : Int32} {x1 : Int32} {x2 : Int32} {r : (Int32 × AS)} (h : f_Shown_levelOfSet_B24 k4 S x0 x1 x2 = some r) : kr_AW m_Shown_levelOfSet 3 24 [(0, .int x0), (1, .int x1), (2, .int x2)] [] S (kr_eI r) := by
  unfold f_Shown_levelOfSet_B24 at h
  have h2 := kr_ob h
  clear h
  obtain ⟨i1, ei1, h⟩ := h2
  refine r_iinc (v := i1) (lv' := [(2, .int i1), (0, .int x0), (1, .int x1)]) 2 rfl (kr_inc (by decide) ei1) (by decide) rfl d_Shown_levelOfSet_24 ?_
  refine r_goto (tgt := 4) d_Shown_levelOfSet_27 rfl ?_
  exact kr_sub [1, 2, 0] rfl (hk4 h)
set_option maxRecDepth 20000 in
set_option maxHeartbeats 4000000 in
theorem s_Shown_levelOfSet_C4 {k4 : AS → Int32 → Int32 → Int32 → Option (Int32 × AS)} (hk4 : ∀ {S : AS} {x0 : Int32} {x1 : Int32} {x2 : Int32} {r : (Int32 × AS)}, k4 S x0 x1 x2 = some r → kr_AW m_Shown_levelOfSet 3 4 [(0, .int x0), (1, .int x1), (2, .int x2)] [] S (kr_eI r)) {S : AS} {x0 : Int32} {x1 : Int32} {x2 : Int32} {r : (Int32 × AS)} (h : f_Shown_levelOfSet_C4 k4 S x0 x1 x2 = some r) : kr_AW m_Shown_levelOfSet 3 4 [(0, .int x0), (1, .int x1), (2, .int x2)] [] S (kr_eI r) := by
  unfold f_Shown_levelOfSet_C4 at h
  refine r_iload_n (i := 2) (x := x2) 2 rfl d_Shown_levelOfSet_4 ?_
  refine r_iconst (v := (3 : Int32)) (by decide) d_Shown_levelOfSet_5 ?_
  refine r_icmp_ge (tgt := 30) d_Shown_levelOfSet_6 rfl (fun c => ?_) (fun c => ?_)
  · replace h := kr_ip c h
    refine r_iload_n (i := 1) (x := x1) 1 rfl d_Shown_levelOfSet_30 ?_
    cases h
    exact r_iret rfl d_Shown_levelOfSet_31
  · replace h := kr_in_ c h
    refine r_iload_n (i := 2) (x := x2) 2 rfl d_Shown_levelOfSet_9 ?_
    refine r_iload_n (i := 0) (x := x0) 0 rfl d_Shown_levelOfSet_10 ?_
    have h2 := kr_ob2 h
    clear h
    obtain ⟨v3, S2, eS2, h⟩ := h2
    refine r_callSN (M1 := m_K_isIn) (As := [.int x2, .int x0]) (s_K_isIn eS2) mok_K_isIn rfl w735 w549 (by decide) (kr_c8 kr_c0) d_Shown_levelOfSet_11 (kr_k1 ?_) kr_kn
    refine r_if_eq (tgt := 24) d_Shown_levelOfSet_14 rfl (fun c => ?_) (fun c => ?_)
    · replace h := kr_ip c h
      exact kr_sub [0, 1, 2] rfl (s_Shown_levelOfSet_B24 hk4 h)
    · replace h := kr_in_ c h
      refine r_iload_n (i := 1) (x := x1) 1 rfl d_Shown_levelOfSet_17 ?_
      refine r_iload_n (i := 2) (x := x2) 2 rfl d_Shown_levelOfSet_18 ?_
      have h2 := kr_ob2 h
      clear h
      obtain ⟨v5, S4, eS4, h⟩ := h2
      refine r_callS (M1 := m_Shown_weightOf) (As := [.int x2]) (s_Shown_weightOf eS4) mok_Shown_weightOf rfl w736 w737 (by decide) (kr_c8 (kr_cI kr_c0)) d_Shown_levelOfSet_19 (kr_k1 ?_) kr_kn
      refine r_iadd d_Shown_levelOfSet_22 ?_
      have h2 := kr_ob h
      clear h
      obtain ⟨i6, ei6, h⟩ := h2
      refine kr_nmI ei6 ?_
      refine r_istore_n (i := 1) (lv' := [(1, .int i6), (0, .int x0), (2, .int x2)]) (by decide) rfl d_Shown_levelOfSet_23 ?_
      exact kr_sub [1, 0, 2] rfl (s_Shown_levelOfSet_B24 hk4 h)
theorem s_Shown_levelOfSet_L4 (n : Nat) : ∀ {S : AS} {x0 : Int32} {x1 : Int32} {x2 : Int32} {r : (Int32 × AS)}, f_Shown_levelOfSet_L4 n S x0 x1 x2 = some r → kr_AW m_Shown_levelOfSet 3 4 [(0, .int x0), (1, .int x1), (2, .int x2)] [] S (kr_eI r) := by
  induction n with
  | zero => intro S x0 x1 x2 r h; cases h
  | succ n ih => intro S x0 x1 x2 r h; exact s_Shown_levelOfSet_C4 (fun {_} {_} {_} {_} {_} h => ih h) h
set_option maxRecDepth 20000 in
set_option maxHeartbeats 4000000 in
theorem s_Shown_levelOfSet {S : AS} {a0 : Int32} {r : (Int32 × AS)} (h : f_Shown_levelOfSet S a0 = some r) : kr_Con m_Shown_levelOfSet 3 [.int a0] S (kr_eI r) := by
  refine kr_con rfl rfl (by decide +kernel) (by simp [lg_sl, kr_rfcat, kr_icat, m_Shown_levelOfSet, mL]) ?_
  rw [show lv_args 0 [.int a0] = [(0, .int a0)] from by simp [lv_args, kr_rfcat, kr_icat]]
  unfold f_Shown_levelOfSet at h
  refine r_iconst (v := (0 : Int32)) (by decide) d_Shown_levelOfSet_0 ?_
  refine r_istore_n (i := 1) (lv' := [(1, .int (0 : Int32)), (0, .int a0)]) (by decide) rfl d_Shown_levelOfSet_1 ?_
  refine r_iconst (v := (0 : Int32)) (by decide) d_Shown_levelOfSet_2 ?_
  refine r_istore_n (i := 2) (lv' := [(2, .int (0 : Int32)), (1, .int (0 : Int32)), (0, .int a0)]) (by decide) rfl d_Shown_levelOfSet_3 ?_
  exact kr_sub [2, 1, 0] rfl (s_Shown_levelOfSet_L4 kr_FU h)
/-! KeyringCourt$Flow.setBehindYes(II)I -/
def f_Flow_setBehindYes (S : AS) (a0 : Option Nat) (a1 : Int32) (a2 : Int32) : Option (Int32 × AS) :=
  (kr_rv S 13 a0).bind fun u1 =>
  kr_b2 (f_Flow_kindOf S a0 a1) fun v3 S2 =>
  if v3 = 0 then
  (kr_rv S2 13 a0).bind fun u4 =>
  kr_b2 (f_Flow_firstOf S2 a0 a1) fun v6 S5 =>
  some (a2 ||| ((1 : Int32) <<< (v6 &&& 31)), S5)
  else
  (kr_rv S2 13 a0).bind fun u7 =>
  kr_b2 (f_Flow_kindOf S2 a0 a1) fun v9 S8 =>
  if v9 = (4 : Int32) then
  kr_b2 (f_Shown_levelOfSet S8 a2) fun v11 S10 =>
  (kr_rv S10 13 a0).bind fun u12 =>
  kr_b2 (f_Flow_firstOf S10 a0 a1) fun v14 S13 =>
  if v14 ≤ v11 then
  some (a2, S13)
  else
  some ((-1 : Int32), S13)
  else
  some (a2, S8)
set_option maxRecDepth 20000 in
set_option maxHeartbeats 4000000 in
theorem s_Flow_setBehindYes {S : AS} {a0 : Option Nat} {a1 : Int32} {a2 : Int32} {r : (Int32 × AS)} (h : f_Flow_setBehindYes S a0 a1 a2 = some r) : kr_Con m_Flow_setBehindYes 4 [va_rf a0, .int a1, .int a2] S (kr_eI r) := by
  refine kr_con rfl rfl (by decide +kernel) (by simp [lg_sl, kr_rfcat, kr_icat, m_Flow_setBehindYes, mL]) ?_
  rw [show lv_args 0 [va_rf a0, .int a1, .int a2] = [(0, va_rf a0), (1, .int a1), (2, .int a2)] from by simp [lv_args, kr_rfcat, kr_icat]]
  unfold f_Flow_setBehindYes at h
  refine r_aload_n (i := 0) (x := a0) 0 rfl d_Flow_setBehindYes_0 ?_
  refine r_iload_n (i := 1) (x := a1) 1 rfl d_Flow_setBehindYes_1 ?_
  have h2 := kr_ob h
  clear h
  obtain ⟨⟨⟩, eu1, h⟩ := h2
  have h2 := kr_ob2 h
  clear h
  obtain ⟨v3, S2, eS2, h⟩ := h2
  refine r_callV (M1 := m_Flow_kindOf) (κ := 13) (As := [.int a1]) eu1 (s_Flow_kindOf eS2) mok_Flow_kindOf rfl (by decide) rfl w613 w614 w615 (by decide) (kr_c8 kr_c0) d_Flow_setBehindYes_2 (kr_k1 ?_) kr_kn
  refine r_if_ne (tgt := 18) d_Flow_setBehindYes_5 rfl (fun c => ?_) (fun c => ?_)
  · replace h := kr_ip c h
    refine r_iload_n (i := 2) (x := a2) 2 rfl d_Flow_setBehindYes_8 ?_
    refine r_iconst (v := (1 : Int32)) (by decide) d_Flow_setBehindYes_9 ?_
    refine r_aload_n (i := 0) (x := a0) 0 rfl d_Flow_setBehindYes_10 ?_
    refine r_iload_n (i := 1) (x := a1) 1 rfl d_Flow_setBehindYes_11 ?_
    have h2 := kr_ob h
    clear h
    obtain ⟨⟨⟩, eu4, h⟩ := h2
    have h2 := kr_ob2 h
    clear h
    obtain ⟨v6, S5, eS5, h⟩ := h2
    refine r_callV (M1 := m_Flow_firstOf) (κ := 13) (As := [.int a1]) eu4 (s_Flow_firstOf eS5) mok_Flow_firstOf rfl (by decide) rfl w728 w729 w730 (by decide) (kr_c8 (kr_cI (kr_cI kr_c0))) d_Flow_setBehindYes_12 (kr_k1 ?_) kr_kn
    refine r_ishl d_Flow_setBehindYes_15 ?_
    refine r_ior d_Flow_setBehindYes_16 ?_
    cases h
    exact r_iret rfl d_Flow_setBehindYes_17
  · replace h := kr_in_ c h
    refine r_aload_n (i := 0) (x := a0) 0 rfl d_Flow_setBehindYes_18 ?_
    refine r_iload_n (i := 1) (x := a1) 1 rfl d_Flow_setBehindYes_19 ?_
    have h2 := kr_ob h
    clear h
    obtain ⟨⟨⟩, eu7, h⟩ := h2
    have h2 := kr_ob2 h
    clear h
    obtain ⟨v9, S8, eS8, h⟩ := h2
    refine r_callV (M1 := m_Flow_kindOf) (κ := 13) (As := [.int a1]) eu7 (s_Flow_kindOf eS8) mok_Flow_kindOf rfl (by decide) rfl w613 w614 w615 (by decide) (kr_c8 kr_c0) d_Flow_setBehindYes_20 (kr_k1 ?_) kr_kn
    refine r_iconst (v := (4 : Int32)) (by decide) d_Flow_setBehindYes_23 ?_
    refine r_icmp_ne (tgt := 43) d_Flow_setBehindYes_24 rfl (fun c => ?_) (fun c => ?_)
    · replace h := kr_ip c h
      refine r_iload_n (i := 2) (x := a2) 2 rfl d_Flow_setBehindYes_27 ?_
      have h2 := kr_ob2 h
      clear h
      obtain ⟨v11, S10, eS10, h⟩ := h2
      refine r_callS (M1 := m_Shown_levelOfSet) (As := [.int a2]) (s_Shown_levelOfSet eS10) mok_Shown_levelOfSet rfl w732 w733 (by decide) (kr_c8 kr_c0) d_Flow_setBehindYes_28 (kr_k1 ?_) kr_kn
      refine r_aload_n (i := 0) (x := a0) 0 rfl d_Flow_setBehindYes_31 ?_
      refine r_iload_n (i := 1) (x := a1) 1 rfl d_Flow_setBehindYes_32 ?_
      have h2 := kr_ob h
      clear h
      obtain ⟨⟨⟩, eu12, h⟩ := h2
      have h2 := kr_ob2 h
      clear h
      obtain ⟨v14, S13, eS13, h⟩ := h2
      refine r_callV (M1 := m_Flow_firstOf) (κ := 13) (As := [.int a1]) eu12 (s_Flow_firstOf eS13) mok_Flow_firstOf rfl (by decide) rfl w728 w729 w730 (by decide) (kr_c8 (kr_cI kr_c0)) d_Flow_setBehindYes_33 (kr_k1 ?_) kr_kn
      refine r_icmp_ge (tgt := 43) d_Flow_setBehindYes_36 rfl (fun c => ?_) (fun c => ?_)
      · replace h := kr_ip c h
        refine r_iload_n (i := 2) (x := a2) 2 rfl d_Flow_setBehindYes_43 ?_
        cases h
        exact r_iret rfl d_Flow_setBehindYes_44
      · replace h := kr_in_ c h
        refine r_iconst (v := (-1 : Int32)) (by decide) d_Flow_setBehindYes_39 ?_
        refine r_goto (tgt := 44) d_Flow_setBehindYes_40 rfl ?_
        cases h
        exact r_iret rfl d_Flow_setBehindYes_44
    · replace h := kr_in_ c h
      refine r_iload_n (i := 2) (x := a2) 2 rfl d_Flow_setBehindYes_43 ?_
      cases h
      exact r_iret rfl d_Flow_setBehindYes_44
/-! KeyringCourt$Flow.reach(II[I)Z -/
def f_Flow_reach (S : AS) (a0 : Int32) (a1 : Int32) (a2 : Option Nat) : Option (Int32 × AS) :=
  if a0 < 0 then
  some ((0 : Int32), S)
  else
  (aN S a2).bind fun v1 =>
  if v1 ≤ a0 then
  some ((0 : Int32), S)
  else
  if a1 = (-1 : Int32) then
  some ((0 : Int32), S)
  else
  (aI S 40 a2 a0).bind fun v2 =>
  kr_b2 (f_K_isIn S a1 v2) fun v4 S3 =>
  if v4 = 0 then
  (aI S3 40 a2 a0).bind fun v5 =>
  (bI S3 a2 a0 (v5 ||| ((1 : Int32) <<< (a1 &&& 31)))).bind fun S6 =>
  some ((1 : Int32), S6)
  else
  some ((0 : Int32), S3)
set_option maxRecDepth 20000 in
set_option maxHeartbeats 4000000 in
theorem s_Flow_reach {S : AS} {a0 : Int32} {a1 : Int32} {a2 : Option Nat} {r : (Int32 × AS)} (h : f_Flow_reach S a0 a1 a2 = some r) : kr_Con m_Flow_reach 1 [.int a0, .int a1, va_rf a2] S (kr_eI r) := by
  refine kr_con rfl rfl (by decide +kernel) (by simp [lg_sl, kr_rfcat, kr_icat, m_Flow_reach, mL]) ?_
  rw [show lv_args 0 [.int a0, .int a1, va_rf a2] = [(0, .int a0), (1, .int a1), (2, va_rf a2)] from by simp [lv_args, kr_rfcat, kr_icat]]
  unfold f_Flow_reach at h
  refine r_iload_n (i := 0) (x := a0) 0 rfl d_Flow_reach_0 ?_
  refine r_if_lt (tgt := 25) d_Flow_reach_1 rfl (fun c => ?_) (fun c => ?_)
  · replace h := kr_ip c h
    refine r_iconst (v := (0 : Int32)) (by decide) d_Flow_reach_25 ?_
    cases h
    exact r_zret rfl rfl d_Flow_reach_26
  · replace h := kr_in_ c h
    refine r_iload_n (i := 0) (x := a0) 0 rfl d_Flow_reach_4 ?_
    refine r_aload_n (i := 2) (x := a2) 2 rfl d_Flow_reach_5 ?_
    have h2 := kr_ob h
    clear h
    obtain ⟨v1, ev1, h⟩ := h2
    refine r_alen ev1 d_Flow_reach_6 ?_
    refine r_icmp_ge (tgt := 25) d_Flow_reach_7 rfl (fun c => ?_) (fun c => ?_)
    · replace h := kr_ip c h
      refine r_iconst (v := (0 : Int32)) (by decide) d_Flow_reach_25 ?_
      cases h
      exact r_zret rfl rfl d_Flow_reach_26
    · replace h := kr_in_ c h
      refine r_iload_n (i := 1) (x := a1) 1 rfl d_Flow_reach_10 ?_
      refine r_iconst (v := (-1 : Int32)) (by decide) d_Flow_reach_11 ?_
      refine r_icmp_eq (tgt := 25) d_Flow_reach_12 rfl (fun c => ?_) (fun c => ?_)
      · replace h := kr_ip c h
        refine r_iconst (v := (0 : Int32)) (by decide) d_Flow_reach_25 ?_
        cases h
        exact r_zret rfl rfl d_Flow_reach_26
      · replace h := kr_in_ c h
        refine r_iload_n (i := 1) (x := a1) 1 rfl d_Flow_reach_15 ?_
        refine r_aload_n (i := 2) (x := a2) 2 rfl d_Flow_reach_16 ?_
        refine r_iload_n (i := 0) (x := a0) 0 rfl d_Flow_reach_17 ?_
        have h2 := kr_ob h
        clear h
        obtain ⟨v2, ev2, h⟩ := h2
        refine r_iaload ev2 d_Flow_reach_18 ?_
        have h2 := kr_ob2 h
        clear h
        obtain ⟨v4, S3, eS3, h⟩ := h2
        refine r_callSN (M1 := m_K_isIn) (As := [.int a1, .int v2]) (s_K_isIn eS3) mok_K_isIn rfl w641 w549 (by decide) (kr_c8 kr_c0) d_Flow_reach_19 (kr_k1 ?_) kr_kn
        refine r_if_eq (tgt := 27) d_Flow_reach_22 rfl (fun c => ?_) (fun c => ?_)
        · replace h := kr_ip c h
          refine r_aload_n (i := 2) (x := a2) 2 rfl d_Flow_reach_27 ?_
          refine r_iload_n (i := 0) (x := a0) 0 rfl d_Flow_reach_28 ?_
          refine r_dup2 rfl (kr_rfcat _) d_Flow_reach_29 ?_
          have h2 := kr_ob h
          clear h
          obtain ⟨v5, ev5, h⟩ := h2
          refine r_iaload ev5 d_Flow_reach_30 ?_
          refine r_iconst (v := (1 : Int32)) (by decide) d_Flow_reach_31 ?_
          refine r_iload_n (i := 1) (x := a1) 1 rfl d_Flow_reach_32 ?_
          refine r_ishl d_Flow_reach_33 ?_
          refine r_ior d_Flow_reach_34 ?_
          have h2 := kr_ob h
          clear h
          obtain ⟨S6, eS6, h⟩ := h2
          refine r_iastore eS6 d_Flow_reach_35 ?_
          refine r_iconst (v := (1 : Int32)) (by decide) d_Flow_reach_36 ?_
          cases h
          exact r_zret rfl rfl d_Flow_reach_37
        · replace h := kr_in_ c h
          refine r_iconst (v := (0 : Int32)) (by decide) d_Flow_reach_25 ?_
          cases h
          exact r_zret rfl rfl d_Flow_reach_26
/-! KeyringCourt$Flow.setBehindNo(II)I -/
def f_Flow_setBehindNo (S : AS) (a0 : Option Nat) (a1 : Int32) (a2 : Int32) : Option (Int32 × AS) :=
  (kr_rv S 13 a0).bind fun u1 =>
  kr_b2 (f_Flow_kindOf S a0 a1) fun v3 S2 =>
  if v3 = (4 : Int32) then
  kr_b2 (f_Shown_levelOfSet S2 a2) fun v5 S4 =>
  (kr_rv S4 13 a0).bind fun u6 =>
  kr_b2 (f_Flow_firstOf S4 a0 a1) fun v8 S7 =>
  if v5 < v8 then
  some (a2, S7)
  else
  some ((-1 : Int32), S7)
  else
  some (a2, S2)
set_option maxRecDepth 20000 in
set_option maxHeartbeats 4000000 in
theorem s_Flow_setBehindNo {S : AS} {a0 : Option Nat} {a1 : Int32} {a2 : Int32} {r : (Int32 × AS)} (h : f_Flow_setBehindNo S a0 a1 a2 = some r) : kr_Con m_Flow_setBehindNo 4 [va_rf a0, .int a1, .int a2] S (kr_eI r) := by
  refine kr_con rfl rfl (by decide +kernel) (by simp [lg_sl, kr_rfcat, kr_icat, m_Flow_setBehindNo, mL]) ?_
  rw [show lv_args 0 [va_rf a0, .int a1, .int a2] = [(0, va_rf a0), (1, .int a1), (2, .int a2)] from by simp [lv_args, kr_rfcat, kr_icat]]
  unfold f_Flow_setBehindNo at h
  refine r_aload_n (i := 0) (x := a0) 0 rfl d_Flow_setBehindNo_0 ?_
  refine r_iload_n (i := 1) (x := a1) 1 rfl d_Flow_setBehindNo_1 ?_
  have h2 := kr_ob h
  clear h
  obtain ⟨⟨⟩, eu1, h⟩ := h2
  have h2 := kr_ob2 h
  clear h
  obtain ⟨v3, S2, eS2, h⟩ := h2
  refine r_callV (M1 := m_Flow_kindOf) (κ := 13) (As := [.int a1]) eu1 (s_Flow_kindOf eS2) mok_Flow_kindOf rfl (by decide) rfl w613 w614 w615 (by decide) (kr_c8 kr_c0) d_Flow_setBehindNo_2 (kr_k1 ?_) kr_kn
  refine r_iconst (v := (4 : Int32)) (by decide) d_Flow_setBehindNo_5 ?_
  refine r_icmp_ne (tgt := 25) d_Flow_setBehindNo_6 rfl (fun c => ?_) (fun c => ?_)
  · replace h := kr_ip c h
    refine r_iload_n (i := 2) (x := a2) 2 rfl d_Flow_setBehindNo_9 ?_
    have h2 := kr_ob2 h
    clear h
    obtain ⟨v5, S4, eS4, h⟩ := h2
    refine r_callS (M1 := m_Shown_levelOfSet) (As := [.int a2]) (s_Shown_levelOfSet eS4) mok_Shown_levelOfSet rfl w732 w733 (by decide) (kr_c8 kr_c0) d_Flow_setBehindNo_10 (kr_k1 ?_) kr_kn
    refine r_aload_n (i := 0) (x := a0) 0 rfl d_Flow_setBehindNo_13 ?_
    refine r_iload_n (i := 1) (x := a1) 1 rfl d_Flow_setBehindNo_14 ?_
    have h2 := kr_ob h
    clear h
    obtain ⟨⟨⟩, eu6, h⟩ := h2
    have h2 := kr_ob2 h
    clear h
    obtain ⟨v8, S7, eS7, h⟩ := h2
    refine r_callV (M1 := m_Flow_firstOf) (κ := 13) (As := [.int a1]) eu6 (s_Flow_firstOf eS7) mok_Flow_firstOf rfl (by decide) rfl w728 w729 w730 (by decide) (kr_c8 (kr_cI kr_c0)) d_Flow_setBehindNo_15 (kr_k1 ?_) kr_kn
    refine r_icmp_lt (tgt := 25) d_Flow_setBehindNo_18 rfl (fun c => ?_) (fun c => ?_)
    · replace h := kr_ip c h
      refine r_iload_n (i := 2) (x := a2) 2 rfl d_Flow_setBehindNo_25 ?_
      cases h
      exact r_iret rfl d_Flow_setBehindNo_26
    · replace h := kr_in_ c h
      refine r_iconst (v := (-1 : Int32)) (by decide) d_Flow_setBehindNo_21 ?_
      refine r_goto (tgt := 26) d_Flow_setBehindNo_22 rfl ?_
      cases h
      exact r_iret rfl d_Flow_setBehindNo_26
  · replace h := kr_in_ c h
    refine r_iload_n (i := 2) (x := a2) 2 rfl d_Flow_setBehindNo_25 ?_
    cases h
    exact r_iret rfl d_Flow_setBehindNo_26
/-! KeyringCourt$Flow.spread(I[I)Z -/
def f_Flow_spread_B80 (k22 : AS → Option Nat → Int32 → Option Nat → Int32 → Int32 → Option (Int32 × AS)) (S : AS) (x0 : Option Nat) (x1 : Int32) (x2 : Option Nat) (x3 : Int32) (x4 : Int32) : Option (Int32 × AS) :=
  (some (x4 + (1 : Int32))).bind fun i1 =>
  k22 S x0 x1 x2 x3 i1
def f_Flow_spread_C22 (k22 : AS → Option Nat → Int32 → Option Nat → Int32 → Int32 → Option (Int32 × AS)) (S : AS) (x0 : Option Nat) (x1 : Int32) (x2 : Option Nat) (x3 : Int32) (x4 : Int32) : Option (Int32 × AS) :=
  if (8 : Int32) ≤ x4 then
  (kr_z x3).bind fun u2 =>
  some (x3, S)
  else
  (aI S 40 x2 x1).bind fun v3 =>
  kr_b2 (f_K_isIn S x4 v3) fun v5 S4 =>
  if v5 = 0 then
  f_Flow_spread_B80 k22 S4 x0 x1 x2 x3 x4
  else
  (kr_rv S4 13 x0).bind fun u6 =>
  kr_b2 (f_Flow_nextOf S4 x0 x1 (1 : Int32)) fun v8 S7 =>
  (kr_rv S7 13 x0).bind fun u9 =>
  kr_b2 (f_Flow_setBehindYes S7 x0 x1 x4) fun v11 S10 =>
  kr_b2 (f_Flow_reach S10 v8 v11 x2) fun v13 S12 =>
  (some (x3 ||| v13)).bind fun i14 =>
  (kr_rv S12 13 x0).bind fun u15 =>
  kr_b2 (f_Flow_nextOf S12 x0 x1 (0 : Int32)) fun v17 S16 =>
  (kr_rv S16 13 x0).bind fun u18 =>
  kr_b2 (f_Flow_setBehindNo S16 x0 x1 x4) fun v20 S19 =>
  kr_b2 (f_Flow_reach S19 v17 v20 x2) fun v22 S21 =>
  (some (i14 ||| v22)).bind fun i23 =>
  f_Flow_spread_B80 k22 S21 x0 x1 x2 i23 x4
def f_Flow_spread_L22 : Nat → AS → Option Nat → Int32 → Option Nat → Int32 → Int32 → Option (Int32 × AS)
  | 0, S, x0, x1, x2, x3, x4 => none
  | n + 1, S, x0, x1, x2, x3, x4 => f_Flow_spread_C22 (f_Flow_spread_L22 n) S x0 x1 x2 x3 x4
def f_Flow_spread (S : AS) (a0 : Option Nat) (a1 : Int32) (a2 : Option Nat) : Option (Int32 × AS) :=
  (kr_rv S 13 a0).bind fun u24 =>
  kr_b2 (f_Flow_kindOf S a0 a1) fun v26 S25 =>
  if (5 : Int32) ≤ v26 then
  some ((0 : Int32), S25)
  else
  (aN S25 a2).bind fun v27 =>
  if a1 < v27 then
  f_Flow_spread_L22 kr_FU S25 a0 a1 a2 (0 : Int32) (0 : Int32)
  else
  some ((0 : Int32), S25)
set_option maxRecDepth 20000 in
set_option maxHeartbeats 4000000 in
theorem s_Flow_spread_B80 {k22 : AS → Option Nat → Int32 → Option Nat → Int32 → Int32 → Option (Int32 × AS)} (hk22 : ∀ {S : AS} {x0 : Option Nat} {x1 : Int32} {x2 : Option Nat} {x3 : Int32} {x4 : Int32} {r : (Int32 × AS)}, k22 S x0 x1 x2 x3 x4 = some r → kr_AW m_Flow_spread 5 22 [(0, va_rf x0), (1, .int x1), (2, va_rf x2), (3, .int x3), (4, .int x4)] [] S (kr_eI r)) {S : AS} {x0 : Option Nat} {x1 : Int32} {x2 : Option Nat} {x3 : Int32} {x4 : Int32} {r : (Int32 × AS)} (h : f_Flow_spread_B80 k22 S x0 x1 x2 x3 x4 = some r) : kr_AW m_Flow_spread 5 80 [(0, va_rf x0), (1, .int x1), (2, va_rf x2), (3, .int x3), (4, .int x4)] [] S (kr_eI r) := by
  unfold f_Flow_spread_B80 at h
  have h2 := kr_ob h
  clear h
  obtain ⟨i1, ei1, h⟩ := h2
  refine r_iinc (v := i1) (lv' := [(4, .int i1), (0, va_rf x0), (1, .int x1), (2, va_rf x2), (3, .int x3)]) 4 rfl (kr_inc (by decide) ei1) (by decide) rfl d_Flow_spread_80 ?_
  refine r_goto (tgt := 22) d_Flow_spread_83 rfl ?_
  exact kr_sub [1, 2, 3, 4, 0] rfl (hk22 h)
set_option maxRecDepth 20000 in
set_option maxHeartbeats 4000000 in
theorem s_Flow_spread_C22 {k22 : AS → Option Nat → Int32 → Option Nat → Int32 → Int32 → Option (Int32 × AS)} (hk22 : ∀ {S : AS} {x0 : Option Nat} {x1 : Int32} {x2 : Option Nat} {x3 : Int32} {x4 : Int32} {r : (Int32 × AS)}, k22 S x0 x1 x2 x3 x4 = some r → kr_AW m_Flow_spread 5 22 [(0, va_rf x0), (1, .int x1), (2, va_rf x2), (3, .int x3), (4, .int x4)] [] S (kr_eI r)) {S : AS} {x0 : Option Nat} {x1 : Int32} {x2 : Option Nat} {x3 : Int32} {x4 : Int32} {r : (Int32 × AS)} (h : f_Flow_spread_C22 k22 S x0 x1 x2 x3 x4 = some r) : kr_AW m_Flow_spread 5 22 [(0, va_rf x0), (1, .int x1), (2, va_rf x2), (3, .int x3), (4, .int x4)] [] S (kr_eI r) := by
  unfold f_Flow_spread_C22 at h
  refine r_iload (i := 4) (x := x4) 4 rfl d_Flow_spread_22 ?_
  refine r_bipush (v := (8 : Int32)) (by decide) d_Flow_spread_24 ?_
  refine r_icmp_ge (tgt := 86) d_Flow_spread_26 rfl (fun c => ?_) (fun c => ?_)
  · replace h := kr_ip c h
    refine r_iload_n (i := 3) (x := x3) 3 rfl d_Flow_spread_86 ?_
    have h2 := kr_ob h
    clear h
    obtain ⟨⟨⟩, eu2, h⟩ := h2
    cases h
    exact r_zret rfl eu2 d_Flow_spread_87
  · replace h := kr_in_ c h
    refine r_iload (i := 4) (x := x4) 4 rfl d_Flow_spread_29 ?_
    refine r_aload_n (i := 2) (x := x2) 2 rfl d_Flow_spread_31 ?_
    refine r_iload_n (i := 1) (x := x1) 1 rfl d_Flow_spread_32 ?_
    have h2 := kr_ob h
    clear h
    obtain ⟨v3, ev3, h⟩ := h2
    refine r_iaload ev3 d_Flow_spread_33 ?_
    have h2 := kr_ob2 h
    clear h
    obtain ⟨v5, S4, eS4, h⟩ := h2
    refine r_callSN (M1 := m_K_isIn) (As := [.int x4, .int v3]) (s_K_isIn eS4) mok_K_isIn rfl w641 w549 (by decide) (kr_c8 kr_c0) d_Flow_spread_34 (kr_k1 ?_) kr_kn
    refine r_if_eq (tgt := 80) d_Flow_spread_37 rfl (fun c => ?_) (fun c => ?_)
    · replace h := kr_ip c h
      exact kr_sub [0, 1, 2, 3, 4] rfl (s_Flow_spread_B80 hk22 h)
    · replace h := kr_in_ c h
      refine r_iload_n (i := 3) (x := x3) 3 rfl d_Flow_spread_40 ?_
      refine r_aload_n (i := 0) (x := x0) 0 rfl d_Flow_spread_41 ?_
      refine r_iload_n (i := 1) (x := x1) 1 rfl d_Flow_spread_42 ?_
      refine r_iconst (v := (1 : Int32)) (by decide) d_Flow_spread_43 ?_
      have h2 := kr_ob h
      clear h
      obtain ⟨⟨⟩, eu6, h⟩ := h2
      have h2 := kr_ob2 h
      clear h
      obtain ⟨v8, S7, eS7, h⟩ := h2
      refine r_callV (M1 := m_Flow_nextOf) (κ := 13) (As := [.int x1, .int (1 : Int32)]) eu6 (s_Flow_nextOf eS7) mok_Flow_nextOf rfl (by decide) rfl w621 w622 w623 (by decide) (kr_c8 (kr_cI kr_c0)) d_Flow_spread_44 (kr_k1 ?_) kr_kn
      refine r_aload_n (i := 0) (x := x0) 0 rfl d_Flow_spread_47 ?_
      refine r_iload_n (i := 1) (x := x1) 1 rfl d_Flow_spread_48 ?_
      refine r_iload (i := 4) (x := x4) 4 rfl d_Flow_spread_49 ?_
      have h2 := kr_ob h
      clear h
      obtain ⟨⟨⟩, eu9, h⟩ := h2
      have h2 := kr_ob2 h
      clear h
      obtain ⟨v11, S10, eS10, h⟩ := h2
      refine r_callV (M1 := m_Flow_setBehindYes) (κ := 13) (As := [.int x1, .int x4]) eu9 (s_Flow_setBehindYes eS10) mok_Flow_setBehindYes rfl (by decide) rfl w724 w726 w15 (by decide) (kr_c8 (kr_cI (kr_cI kr_c0))) d_Flow_spread_51 (kr_k1 ?_) kr_kn
      refine r_aload_n (i := 2) (x := x2) 2 rfl d_Flow_spread_54 ?_
      have h2 := kr_ob2 h
      clear h
      obtain ⟨v13, S12, eS12, h⟩ := h2
      refine r_callS (M1 := m_Flow_reach) (As := [.int v8, .int v11, va_rf x2]) (s_Flow_reach eS12) mok_Flow_reach rfl w742 w743 (by decide) (kr_c8 (kr_cI kr_c0)) d_Flow_spread_55 (kr_k1 ?_) kr_kn
      refine r_ior d_Flow_spread_58 ?_
      have h2 := kr_ob h
      clear h
      obtain ⟨i14, ei14, h⟩ := h2
      refine kr_nmI ei14 ?_
      refine r_istore_n (i := 3) (lv' := [(3, .int i14), (0, va_rf x0), (1, .int x1), (2, va_rf x2), (4, .int x4)]) (by decide) (by show kr_st _ 3 _ = _; simp [kr_st, kr_rfcat, kr_icat]) d_Flow_spread_59 ?_
      refine r_iload_n (i := 3) (x := i14) 0 rfl d_Flow_spread_60 ?_
      refine r_aload_n (i := 0) (x := x0) 1 rfl d_Flow_spread_61 ?_
      refine r_iload_n (i := 1) (x := x1) 2 rfl d_Flow_spread_62 ?_
      refine r_iconst (v := (0 : Int32)) (by decide) d_Flow_spread_63 ?_
      have h2 := kr_ob h
      clear h
      obtain ⟨⟨⟩, eu15, h⟩ := h2
      have h2 := kr_ob2 h
      clear h
      obtain ⟨v17, S16, eS16, h⟩ := h2
      refine r_callV (M1 := m_Flow_nextOf) (κ := 13) (As := [.int x1, .int (0 : Int32)]) eu15 (s_Flow_nextOf eS16) mok_Flow_nextOf rfl (by decide) rfl w621 w622 w623 (by decide) (kr_c8 (kr_cI kr_c0)) d_Flow_spread_64 (kr_k1 ?_) kr_kn
      refine r_aload_n (i := 0) (x := x0) 1 rfl d_Flow_spread_67 ?_
      refine r_iload_n (i := 1) (x := x1) 2 rfl d_Flow_spread_68 ?_
      refine r_iload (i := 4) (x := x4) 4 rfl d_Flow_spread_69 ?_
      have h2 := kr_ob h
      clear h
      obtain ⟨⟨⟩, eu18, h⟩ := h2
      have h2 := kr_ob2 h
      clear h
      obtain ⟨v20, S19, eS19, h⟩ := h2
      refine r_callV (M1 := m_Flow_setBehindNo) (κ := 13) (As := [.int x1, .int x4]) eu18 (s_Flow_setBehindNo eS19) mok_Flow_setBehindNo rfl (by decide) rfl w745 w747 w16 (by decide) (kr_c8 (kr_cI (kr_cI kr_c0))) d_Flow_spread_71 (kr_k1 ?_) kr_kn
      refine r_aload_n (i := 2) (x := x2) 3 rfl d_Flow_spread_74 ?_
      have h2 := kr_ob2 h
      clear h
      obtain ⟨v22, S21, eS21, h⟩ := h2
      refine r_callS (M1 := m_Flow_reach) (As := [.int v17, .int v20, va_rf x2]) (s_Flow_reach eS21) mok_Flow_reach rfl w742 w743 (by decide) (kr_c8 (kr_cI kr_c0)) d_Flow_spread_75 (kr_k1 ?_) kr_kn
      refine r_ior d_Flow_spread_78 ?_
      have h2 := kr_ob h
      clear h
      obtain ⟨i23, ei23, h⟩ := h2
      refine kr_nmI ei23 ?_
      refine r_istore_n (i := 3) (lv' := [(3, .int i23), (0, va_rf x0), (1, .int x1), (2, va_rf x2), (4, .int x4)]) (by decide) (by show kr_st _ 3 _ = _; simp [kr_st, kr_rfcat, kr_icat]) d_Flow_spread_79 ?_
      exact kr_sub [1, 2, 3, 0, 4] rfl (s_Flow_spread_B80 hk22 h)
theorem s_Flow_spread_L22 (n : Nat) : ∀ {S : AS} {x0 : Option Nat} {x1 : Int32} {x2 : Option Nat} {x3 : Int32} {x4 : Int32} {r : (Int32 × AS)}, f_Flow_spread_L22 n S x0 x1 x2 x3 x4 = some r → kr_AW m_Flow_spread 5 22 [(0, va_rf x0), (1, .int x1), (2, va_rf x2), (3, .int x3), (4, .int x4)] [] S (kr_eI r) := by
  induction n with
  | zero => intro S x0 x1 x2 x3 x4 r h; cases h
  | succ n ih => intro S x0 x1 x2 x3 x4 r h; exact s_Flow_spread_C22 (fun {_} {_} {_} {_} {_} {_} {_} h => ih h) h
set_option maxRecDepth 20000 in
set_option maxHeartbeats 4000000 in
theorem s_Flow_spread {S : AS} {a0 : Option Nat} {a1 : Int32} {a2 : Option Nat} {r : (Int32 × AS)} (h : f_Flow_spread S a0 a1 a2 = some r) : kr_Con m_Flow_spread 5 [va_rf a0, .int a1, va_rf a2] S (kr_eI r) := by
  refine kr_con rfl rfl (by decide +kernel) (by simp [lg_sl, kr_rfcat, kr_icat, m_Flow_spread, mL]) ?_
  rw [show lv_args 0 [va_rf a0, .int a1, va_rf a2] = [(0, va_rf a0), (1, .int a1), (2, va_rf a2)] from by simp [lv_args, kr_rfcat, kr_icat]]
  unfold f_Flow_spread at h
  refine r_iconst (v := (0 : Int32)) (by decide) d_Flow_spread_0 ?_
  refine r_istore_n (i := 3) (lv' := [(3, .int (0 : Int32)), (0, va_rf a0), (1, .int a1), (2, va_rf a2)]) (by decide) (by show kr_st _ 3 _ = _; simp [kr_st, kr_rfcat, kr_icat]) d_Flow_spread_1 ?_
  refine r_aload_n (i := 0) (x := a0) 1 rfl d_Flow_spread_2 ?_
  refine r_iload_n (i := 1) (x := a1) 2 rfl d_Flow_spread_3 ?_
  have h2 := kr_ob h
  clear h
  obtain ⟨⟨⟩, eu24, h⟩ := h2
  have h2 := kr_ob2 h
  clear h
  obtain ⟨v26, S25, eS25, h⟩ := h2
  refine r_callV (M1 := m_Flow_kindOf) (κ := 13) (As := [.int a1]) eu24 (s_Flow_kindOf eS25) mok_Flow_kindOf rfl (by decide) rfl w613 w614 w615 (by decide) (kr_c8 kr_c0) d_Flow_spread_4 (kr_k1 ?_) kr_kn
  refine r_iconst (v := (5 : Int32)) (by decide) d_Flow_spread_7 ?_
  refine r_icmp_ge (tgt := 17) d_Flow_spread_8 rfl (fun c => ?_) (fun c => ?_)
  · replace h := kr_ip c h
    refine r_iconst (v := (0 : Int32)) (by decide) d_Flow_spread_17 ?_
    cases h
    exact r_zret rfl rfl d_Flow_spread_18
  · replace h := kr_in_ c h
    refine r_iload_n (i := 1) (x := a1) 2 rfl d_Flow_spread_11 ?_
    refine r_aload_n (i := 2) (x := a2) 3 rfl d_Flow_spread_12 ?_
    have h2 := kr_ob h
    clear h
    obtain ⟨v27, ev27, h⟩ := h2
    refine r_alen ev27 d_Flow_spread_13 ?_
    refine r_icmp_lt (tgt := 19) d_Flow_spread_14 rfl (fun c => ?_) (fun c => ?_)
    · replace h := kr_ip c h
      refine r_iconst (v := (0 : Int32)) (by decide) d_Flow_spread_19 ?_
      refine r_istore (i := 4) (lv' := [(4, .int (0 : Int32)), (3, .int (0 : Int32)), (0, va_rf a0), (1, .int a1), (2, va_rf a2)]) (by decide) rfl d_Flow_spread_20 ?_
      exact kr_sub [2, 3, 4, 1, 0] rfl (s_Flow_spread_L22 kr_FU h)
    · replace h := kr_in_ c h
      refine r_iconst (v := (0 : Int32)) (by decide) d_Flow_spread_17 ?_
      cases h
      exact r_zret rfl rfl d_Flow_spread_18
/-! KeyringCourt$Flow.weaker(II)I -/
def f_Flow_weaker_B10 (S : AS) (x0 : Int32) (x1 : Int32) : Option (Int32 × AS) :=
  some (if x0 < x1 then x1 else x0, S)
def f_Flow_weaker (S : AS) (a0 : Int32) (a1 : Int32) : Option (Int32 × AS) :=
  if a0 = (-1 : Int32) then
  f_Flow_weaker_B10 S a0 a1
  else
  if a1 = (-1 : Int32) then
  f_Flow_weaker_B10 S a0 a1
  else
  some (if a1 < a0 then a1 else a0, S)
set_option maxRecDepth 20000 in
set_option maxHeartbeats 4000000 in
theorem s_Flow_weaker_B10 {S : AS} {x0 : Int32} {x1 : Int32} {r : (Int32 × AS)} (h : f_Flow_weaker_B10 S x0 x1 = some r) : kr_AW m_Flow_weaker 1 10 [(0, .int x0), (1, .int x1)] [] S (kr_eI r) := by
  unfold f_Flow_weaker_B10 at h
  refine r_iload_n (i := 0) (x := x0) 0 rfl d_Flow_weaker_10 ?_
  refine r_iload_n (i := 1) (x := x1) 1 rfl d_Flow_weaker_11 ?_
  refine r_mmax w755 w662 w94 w663 (by decide) (kr_c8 kr_c0) d_Flow_weaker_12 ?_
  cases h
  exact r_iret rfl d_Flow_weaker_15
set_option maxRecDepth 20000 in
set_option maxHeartbeats 4000000 in
theorem s_Flow_weaker {S : AS} {a0 : Int32} {a1 : Int32} {r : (Int32 × AS)} (h : f_Flow_weaker S a0 a1 = some r) : kr_Con m_Flow_weaker 1 [.int a0, .int a1] S (kr_eI r) := by
  refine kr_con rfl rfl (by decide +kernel) (by simp [lg_sl, kr_rfcat, kr_icat, m_Flow_weaker, mL]) ?_
  rw [show lv_args 0 [.int a0, .int a1] = [(0, .int a0), (1, .int a1)] from by simp [lv_args, kr_rfcat, kr_icat]]
  unfold f_Flow_weaker at h
  refine r_iload_n (i := 0) (x := a0) 0 rfl d_Flow_weaker_0 ?_
  refine r_iconst (v := (-1 : Int32)) (by decide) d_Flow_weaker_1 ?_
  refine r_icmp_eq (tgt := 10) d_Flow_weaker_2 rfl (fun c => ?_) (fun c => ?_)
  · replace h := kr_ip c h
    exact kr_sub [0, 1] rfl (s_Flow_weaker_B10 h)
  · replace h := kr_in_ c h
    refine r_iload_n (i := 1) (x := a1) 1 rfl d_Flow_weaker_5 ?_
    refine r_iconst (v := (-1 : Int32)) (by decide) d_Flow_weaker_6 ?_
    refine r_icmp_ne (tgt := 16) d_Flow_weaker_7 rfl (fun c => ?_) (fun c => ?_)
    · replace h := kr_ip c h
      exact kr_sub [0, 1] rfl (s_Flow_weaker_B10 h)
    · replace h := kr_in_ c h
      refine r_iload_n (i := 0) (x := a0) 0 rfl d_Flow_weaker_16 ?_
      refine r_iload_n (i := 1) (x := a1) 1 rfl d_Flow_weaker_17 ?_
      refine r_mmin w756 w699 w94 w700 (by decide) (kr_c8 kr_c0) d_Flow_weaker_18 ?_
      cases h
      exact r_iret rfl d_Flow_weaker_21
/-! KeyringCourt$Flow.leastLevel(I)I -/
def f_Flow_leastLevel_B27 (k4 : AS → Int32 → Int32 → Int32 → Option (Int32 × AS)) (S : AS) (x0 : Int32) (x1 : Int32) (x2 : Int32) : Option (Int32 × AS) :=
  (some (x2 + (1 : Int32))).bind fun i1 =>
  k4 S x0 x1 i1
def f_Flow_leastLevel_C4 (k4 : AS → Int32 → Int32 → Int32 → Option (Int32 × AS)) (S : AS) (x0 : Int32) (x1 : Int32) (x2 : Int32) : Option (Int32 × AS) :=
  if (8 : Int32) ≤ x2 then
  some (x1, S)
  else
  kr_b2 (f_K_isIn S x2 x0) fun v3 S2 =>
  if v3 = 0 then
  f_Flow_leastLevel_B27 k4 S2 x0 x1 x2
  else
  kr_b2 (f_Shown_levelOfSet S2 x2) fun v5 S4 =>
  kr_b2 (f_Flow_weaker S4 x1 v5) fun v7 S6 =>
  f_Flow_leastLevel_B27 k4 S6 x0 v7 x2
def f_Flow_leastLevel_L4 : Nat → AS → Int32 → Int32 → Int32 → Option (Int32 × AS)
  | 0, S, x0, x1, x2 => none
  | n + 1, S, x0, x1, x2 => f_Flow_leastLevel_C4 (f_Flow_leastLevel_L4 n) S x0 x1 x2
def f_Flow_leastLevel (S : AS) (a0 : Int32) : Option (Int32 × AS) :=
  f_Flow_leastLevel_L4 kr_FU S a0 (-1 : Int32) (0 : Int32)
set_option maxRecDepth 20000 in
set_option maxHeartbeats 4000000 in
theorem s_Flow_leastLevel_B27 {k4 : AS → Int32 → Int32 → Int32 → Option (Int32 × AS)} (hk4 : ∀ {S : AS} {x0 : Int32} {x1 : Int32} {x2 : Int32} {r : (Int32 × AS)}, k4 S x0 x1 x2 = some r → kr_AW m_Flow_leastLevel 4 4 [(0, .int x0), (1, .int x1), (2, .int x2)] [] S (kr_eI r)) {S : AS} {x0 : Int32} {x1 : Int32} {x2 : Int32} {r : (Int32 × AS)} (h : f_Flow_leastLevel_B27 k4 S x0 x1 x2 = some r) : kr_AW m_Flow_leastLevel 4 27 [(0, .int x0), (1, .int x1), (2, .int x2)] [] S (kr_eI r) := by
  unfold f_Flow_leastLevel_B27 at h
  have h2 := kr_ob h
  clear h
  obtain ⟨i1, ei1, h⟩ := h2
  refine r_iinc (v := i1) (lv' := [(2, .int i1), (0, .int x0), (1, .int x1)]) 2 rfl (kr_inc (by decide) ei1) (by decide) rfl d_Flow_leastLevel_27 ?_
  refine r_goto (tgt := 4) d_Flow_leastLevel_30 rfl ?_
  exact kr_sub [1, 2, 0] rfl (hk4 h)
set_option maxRecDepth 20000 in
set_option maxHeartbeats 4000000 in
theorem s_Flow_leastLevel_C4 {k4 : AS → Int32 → Int32 → Int32 → Option (Int32 × AS)} (hk4 : ∀ {S : AS} {x0 : Int32} {x1 : Int32} {x2 : Int32} {r : (Int32 × AS)}, k4 S x0 x1 x2 = some r → kr_AW m_Flow_leastLevel 4 4 [(0, .int x0), (1, .int x1), (2, .int x2)] [] S (kr_eI r)) {S : AS} {x0 : Int32} {x1 : Int32} {x2 : Int32} {r : (Int32 × AS)} (h : f_Flow_leastLevel_C4 k4 S x0 x1 x2 = some r) : kr_AW m_Flow_leastLevel 4 4 [(0, .int x0), (1, .int x1), (2, .int x2)] [] S (kr_eI r) := by
  unfold f_Flow_leastLevel_C4 at h
  refine r_iload_n (i := 2) (x := x2) 2 rfl d_Flow_leastLevel_4 ?_
  refine r_bipush (v := (8 : Int32)) (by decide) d_Flow_leastLevel_5 ?_
  refine r_icmp_ge (tgt := 33) d_Flow_leastLevel_7 rfl (fun c => ?_) (fun c => ?_)
  · replace h := kr_ip c h
    refine r_iload_n (i := 1) (x := x1) 1 rfl d_Flow_leastLevel_33 ?_
    cases h
    exact r_iret rfl d_Flow_leastLevel_34
  · replace h := kr_in_ c h
    refine r_iload_n (i := 2) (x := x2) 2 rfl d_Flow_leastLevel_10 ?_
    refine r_iload_n (i := 0) (x := x0) 0 rfl d_Flow_leastLevel_11 ?_
    have h2 := kr_ob2 h
    clear h
    obtain ⟨v3, S2, eS2, h⟩ := h2
    refine r_callSN (M1 := m_K_isIn) (As := [.int x2, .int x0]) (s_K_isIn eS2) mok_K_isIn rfl w641 w549 (by decide) (kr_c8 kr_c0) d_Flow_leastLevel_12 (kr_k1 ?_) kr_kn
    refine r_if_eq (tgt := 27) d_Flow_leastLevel_15 rfl (fun c => ?_) (fun c => ?_)
    · replace h := kr_ip c h
      exact kr_sub [0, 1, 2] rfl (s_Flow_leastLevel_B27 hk4 h)
    · replace h := kr_in_ c h
      refine r_iload_n (i := 1) (x := x1) 1 rfl d_Flow_leastLevel_18 ?_
      refine r_iload_n (i := 2) (x := x2) 2 rfl d_Flow_leastLevel_19 ?_
      have h2 := kr_ob2 h
      clear h
      obtain ⟨v5, S4, eS4, h⟩ := h2
      refine r_callS (M1 := m_Shown_levelOfSet) (As := [.int x2]) (s_Shown_levelOfSet eS4) mok_Shown_levelOfSet rfl w732 w733 (by decide) (kr_c8 (kr_cI kr_c0)) d_Flow_leastLevel_20 (kr_k1 ?_) kr_kn
      have h2 := kr_ob2 h
      clear h
      obtain ⟨v7, S6, eS6, h⟩ := h2
      refine r_callS (M1 := m_Flow_weaker) (As := [.int x1, .int v5]) (s_Flow_weaker eS6) mok_Flow_weaker rfl w752 w753 (by decide) (kr_c8 kr_c0) d_Flow_leastLevel_23 (kr_k1 ?_) kr_kn
      refine r_istore_n (i := 1) (lv' := [(1, .int v7), (0, .int x0), (2, .int x2)]) (by decide) rfl d_Flow_leastLevel_26 ?_
      exact kr_sub [1, 0, 2] rfl (s_Flow_leastLevel_B27 hk4 h)
theorem s_Flow_leastLevel_L4 (n : Nat) : ∀ {S : AS} {x0 : Int32} {x1 : Int32} {x2 : Int32} {r : (Int32 × AS)}, f_Flow_leastLevel_L4 n S x0 x1 x2 = some r → kr_AW m_Flow_leastLevel 4 4 [(0, .int x0), (1, .int x1), (2, .int x2)] [] S (kr_eI r) := by
  induction n with
  | zero => intro S x0 x1 x2 r h; cases h
  | succ n ih => intro S x0 x1 x2 r h; exact s_Flow_leastLevel_C4 (fun {_} {_} {_} {_} {_} h => ih h) h
set_option maxRecDepth 20000 in
set_option maxHeartbeats 4000000 in
theorem s_Flow_leastLevel {S : AS} {a0 : Int32} {r : (Int32 × AS)} (h : f_Flow_leastLevel S a0 = some r) : kr_Con m_Flow_leastLevel 4 [.int a0] S (kr_eI r) := by
  refine kr_con rfl rfl (by decide +kernel) (by simp [lg_sl, kr_rfcat, kr_icat, m_Flow_leastLevel, mL]) ?_
  rw [show lv_args 0 [.int a0] = [(0, .int a0)] from by simp [lv_args, kr_rfcat, kr_icat]]
  unfold f_Flow_leastLevel at h
  refine r_iconst (v := (-1 : Int32)) (by decide) d_Flow_leastLevel_0 ?_
  refine r_istore_n (i := 1) (lv' := [(1, .int (-1 : Int32)), (0, .int a0)]) (by decide) rfl d_Flow_leastLevel_1 ?_
  refine r_iconst (v := (0 : Int32)) (by decide) d_Flow_leastLevel_2 ?_
  refine r_istore_n (i := 2) (lv' := [(2, .int (0 : Int32)), (1, .int (-1 : Int32)), (0, .int a0)]) (by decide) rfl d_Flow_leastLevel_3 ?_
  exact kr_sub [2, 1, 0] rfl (s_Flow_leastLevel_L4 kr_FU h)
/-! KeyringCourt$Flow.weakestLevel()I -/
def f_Flow_weakestLevel_B60 (k13 : AS → Option Nat → Option Nat → Int32 → Int32 → Option (Int32 × AS)) (S : AS) (x0 : Option Nat) (x1 : Option Nat) (x2 : Int32) (x3 : Int32) : Option (Int32 × AS) :=
  (some (x3 + (1 : Int32))).bind fun i1 =>
  k13 S x0 x1 x2 i1
def f_Flow_weakestLevel_C28 (k13 : AS → Option Nat → Option Nat → Int32 → Int32 → Option (Int32 × AS)) (k28 : AS → Option Nat → Option Nat → Int32 → Int32 → Int32 → Option (Int32 × AS)) (S : AS) (x0 : Option Nat) (x1 : Option Nat) (x2 : Int32) (x3 : Int32) (x4 : Int32) : Option (Int32 × AS) :=
  (gI S 13 5 x0).bind fun v2 =>
  if v2 ≤ x4 then
  f_Flow_weakestLevel_B60 k13 S x0 x1 x2 x3
  else
  if (12 : Int32) ≤ x4 then
  f_Flow_weakestLevel_B60 k13 S x0 x1 x2 x3
  else
  (kr_rv S 13 x0).bind fun u3 =>
  kr_b2 (f_Flow_spread S x0 x4 x1) fun v5 S4 =>
  (some (x2 ||| v5)).bind fun i6 =>
  (some (x4 + (1 : Int32))).bind fun i7 =>
  k28 S4 x0 x1 i6 x3 i7
def f_Flow_weakestLevel_L28 (k13 : AS → Option Nat → Option Nat → Int32 → Int32 → Option (Int32 × AS)) : Nat → AS → Option Nat → Option Nat → Int32 → Int32 → Int32 → Option (Int32 × AS)
  | 0, S, x0, x1, x2, x3, x4 => none
  | n + 1, S, x0, x1, x2, x3, x4 => f_Flow_weakestLevel_C28 k13 (f_Flow_weakestLevel_L28 k13 n) S x0 x1 x2 x3 x4
def f_Flow_weakestLevel_B109 (k71 : AS → Option Nat → Option Nat → Int32 → Int32 → Option (Int32 × AS)) (S : AS) (x0 : Option Nat) (x1 : Option Nat) (x3 : Int32) (x4 : Int32) : Option (Int32 × AS) :=
  (some (x4 + (1 : Int32))).bind fun i8 =>
  k71 S x0 x1 x3 i8
def f_Flow_weakestLevel_C71 (k71 : AS → Option Nat → Option Nat → Int32 → Int32 → Option (Int32 × AS)) (S : AS) (x0 : Option Nat) (x1 : Option Nat) (x3 : Int32) (x4 : Int32) : Option (Int32 × AS) :=
  (gI S 13 5 x0).bind fun v9 =>
  if v9 ≤ x4 then
  some (x3, S)
  else
  if (12 : Int32) ≤ x4 then
  some (x3, S)
  else
  (kr_rv S 13 x0).bind fun u10 =>
  kr_b2 (f_Flow_kindOf S x0 x4) fun v12 S11 =>
  if v12 = (5 : Int32) then
  (aI S11 40 x1 x4).bind fun v13 =>
  kr_b2 (f_Flow_leastLevel S11 v13) fun v15 S14 =>
  kr_b2 (f_Flow_weaker S14 x3 v15) fun v17 S16 =>
  f_Flow_weakestLevel_B109 k71 S16 x0 x1 v17 x4
  else
  f_Flow_weakestLevel_B109 k71 S11 x0 x1 x3 x4
def f_Flow_weakestLevel_L71 : Nat → AS → Option Nat → Option Nat → Int32 → Int32 → Option (Int32 × AS)
  | 0, S, x0, x1, x3, x4 => none
  | n + 1, S, x0, x1, x3, x4 => f_Flow_weakestLevel_C71 (f_Flow_weakestLevel_L71 n) S x0 x1 x3 x4
def f_Flow_weakestLevel_B66 (S : AS) (x0 : Option Nat) (x1 : Option Nat) : Option (Int32 × AS) :=
  f_Flow_weakestLevel_L71 kr_FU S x0 x1 (-1 : Int32) (0 : Int32)
def f_Flow_weakestLevel_C13 (k13 : AS → Option Nat → Option Nat → Int32 → Int32 → Option (Int32 × AS)) (S : AS) (x0 : Option Nat) (x1 : Option Nat) (x2 : Int32) (x3 : Int32) : Option (Int32 × AS) :=
  if (96 : Int32) ≤ x3 then
  f_Flow_weakestLevel_B66 S x0 x1
  else
  if x2 = 0 then
  f_Flow_weakestLevel_B66 S x0 x1
  else
  f_Flow_weakestLevel_L28 k13 kr_FU S x0 x1 (0 : Int32) x3 (0 : Int32)
def f_Flow_weakestLevel_L13 : Nat → AS → Option Nat → Option Nat → Int32 → Int32 → Option (Int32 × AS)
  | 0, S, x0, x1, x2, x3 => none
  | n + 1, S, x0, x1, x2, x3 => f_Flow_weakestLevel_C13 (f_Flow_weakestLevel_L13 n) S x0 x1 x2 x3
def f_Flow_weakestLevel (S : AS) (a0 : Option Nat) : Option (Int32 × AS) :=
  (nA S 40 (12 : Int32)).bind fun S18 =>
  (bI S18 (some (sN S)) (0 : Int32) (1 : Int32)).bind fun S19 =>
  f_Flow_weakestLevel_L13 kr_FU S19 a0 (some (sN S)) (1 : Int32) (0 : Int32)
set_option maxRecDepth 20000 in
set_option maxHeartbeats 4000000 in
theorem s_Flow_weakestLevel_B60 {k13 : AS → Option Nat → Option Nat → Int32 → Int32 → Option (Int32 × AS)} (hk13 : ∀ {S : AS} {x0 : Option Nat} {x1 : Option Nat} {x2 : Int32} {x3 : Int32} {r : (Int32 × AS)}, k13 S x0 x1 x2 x3 = some r → kr_AW m_Flow_weakestLevel 6 13 [(0, va_rf x0), (1, va_rf x1), (2, .int x2), (3, .int x3)] [] S (kr_eI r)) {S : AS} {x0 : Option Nat} {x1 : Option Nat} {x2 : Int32} {x3 : Int32} {r : (Int32 × AS)} (h : f_Flow_weakestLevel_B60 k13 S x0 x1 x2 x3 = some r) : kr_AW m_Flow_weakestLevel 6 60 [(0, va_rf x0), (1, va_rf x1), (2, .int x2), (3, .int x3)] [] S (kr_eI r) := by
  unfold f_Flow_weakestLevel_B60 at h
  have h2 := kr_ob h
  clear h
  obtain ⟨i1, ei1, h⟩ := h2
  refine r_iinc (v := i1) (lv' := [(3, .int i1), (0, va_rf x0), (1, va_rf x1), (2, .int x2)]) 3 rfl (kr_inc (by decide) ei1) (by decide) rfl d_Flow_weakestLevel_60 ?_
  refine r_goto (tgt := 13) d_Flow_weakestLevel_63 rfl ?_
  exact kr_sub [1, 2, 3, 0] rfl (hk13 h)
set_option maxRecDepth 20000 in
set_option maxHeartbeats 4000000 in
theorem s_Flow_weakestLevel_C28 {k13 : AS → Option Nat → Option Nat → Int32 → Int32 → Option (Int32 × AS)} (hk13 : ∀ {S : AS} {x0 : Option Nat} {x1 : Option Nat} {x2 : Int32} {x3 : Int32} {r : (Int32 × AS)}, k13 S x0 x1 x2 x3 = some r → kr_AW m_Flow_weakestLevel 6 13 [(0, va_rf x0), (1, va_rf x1), (2, .int x2), (3, .int x3)] [] S (kr_eI r)) {k28 : AS → Option Nat → Option Nat → Int32 → Int32 → Int32 → Option (Int32 × AS)} (hk28 : ∀ {S : AS} {x0 : Option Nat} {x1 : Option Nat} {x2 : Int32} {x3 : Int32} {x4 : Int32} {r : (Int32 × AS)}, k28 S x0 x1 x2 x3 x4 = some r → kr_AW m_Flow_weakestLevel 6 28 [(0, va_rf x0), (1, va_rf x1), (2, .int x2), (3, .int x3), (4, .int x4)] [] S (kr_eI r)) {S : AS} {x0 : Option Nat} {x1 : Option Nat} {x2 : Int32} {x3 : Int32} {x4 : Int32} {r : (Int32 × AS)} (h : f_Flow_weakestLevel_C28 k13 k28 S x0 x1 x2 x3 x4 = some r) : kr_AW m_Flow_weakestLevel 6 28 [(0, va_rf x0), (1, va_rf x1), (2, .int x2), (3, .int x3), (4, .int x4)] [] S (kr_eI r) := by
  unfold f_Flow_weakestLevel_C28 at h
  refine r_iload (i := 4) (x := x4) 4 rfl d_Flow_weakestLevel_28 ?_
  refine r_aload_n (i := 0) (x := x0) 0 rfl d_Flow_weakestLevel_30 ?_
  have h2 := kr_ob h
  clear h
  obtain ⟨v2, ev2, h⟩ := h2
  refine r_getI ev2 fk137 rfl d_Flow_weakestLevel_31 ?_
  refine r_icmp_ge (tgt := 60) d_Flow_weakestLevel_34 rfl (fun c => ?_) (fun c => ?_)
  · replace h := kr_ip c h
    exact kr_sub [0, 1, 2, 3] rfl (s_Flow_weakestLevel_B60 hk13 h)
  · replace h := kr_in_ c h
    refine r_iload (i := 4) (x := x4) 4 rfl d_Flow_weakestLevel_37 ?_
    refine r_bipush (v := (12 : Int32)) (by decide) d_Flow_weakestLevel_39 ?_
    refine r_icmp_ge (tgt := 60) d_Flow_weakestLevel_41 rfl (fun c => ?_) (fun c => ?_)
    · replace h := kr_ip c h
      exact kr_sub [0, 1, 2, 3] rfl (s_Flow_weakestLevel_B60 hk13 h)
    · replace h := kr_in_ c h
      refine r_iload_n (i := 2) (x := x2) 2 rfl d_Flow_weakestLevel_44 ?_
      refine r_aload_n (i := 0) (x := x0) 0 rfl d_Flow_weakestLevel_45 ?_
      refine r_iload (i := 4) (x := x4) 4 rfl d_Flow_weakestLevel_46 ?_
      refine r_aload_n (i := 1) (x := x1) 1 rfl d_Flow_weakestLevel_48 ?_
      have h2 := kr_ob h
      clear h
      obtain ⟨⟨⟩, eu3, h⟩ := h2
      have h2 := kr_ob2 h
      clear h
      obtain ⟨v5, S4, eS4, h⟩ := h2
      refine r_callV (M1 := m_Flow_spread) (κ := 13) (As := [.int x4, va_rf x1]) eu3 (s_Flow_spread eS4) mok_Flow_spread rfl (by decide) rfl w720 w722 w14 (by decide) (kr_c8 (kr_cI kr_c0)) d_Flow_weakestLevel_49 (kr_k1 ?_) kr_kn
      refine r_ior d_Flow_weakestLevel_52 ?_
      have h2 := kr_ob h
      clear h
      obtain ⟨i6, ei6, h⟩ := h2
      refine kr_nmI ei6 ?_
      refine r_istore_n (i := 2) (lv' := [(2, .int i6), (0, va_rf x0), (1, va_rf x1), (3, .int x3), (4, .int x4)]) (by decide) (by show kr_st _ 2 _ = _; simp [kr_st, kr_rfcat, kr_icat]) d_Flow_weakestLevel_53 ?_
      have h2 := kr_ob h
      clear h
      obtain ⟨i7, ei7, h⟩ := h2
      refine r_iinc (v := i7) (lv' := [(4, .int i7), (2, .int i6), (0, va_rf x0), (1, va_rf x1), (3, .int x3)]) 4 rfl (kr_inc (by decide) ei7) (by decide) rfl d_Flow_weakestLevel_54 ?_
      refine r_goto (tgt := 28) d_Flow_weakestLevel_57 rfl ?_
      exact kr_sub [2, 3, 1, 4, 0] rfl (hk28 h)
theorem s_Flow_weakestLevel_L28 {k13 : AS → Option Nat → Option Nat → Int32 → Int32 → Option (Int32 × AS)} (hk13 : ∀ {S : AS} {x0 : Option Nat} {x1 : Option Nat} {x2 : Int32} {x3 : Int32} {r : (Int32 × AS)}, k13 S x0 x1 x2 x3 = some r → kr_AW m_Flow_weakestLevel 6 13 [(0, va_rf x0), (1, va_rf x1), (2, .int x2), (3, .int x3)] [] S (kr_eI r)) (n : Nat) : ∀ {S : AS} {x0 : Option Nat} {x1 : Option Nat} {x2 : Int32} {x3 : Int32} {x4 : Int32} {r : (Int32 × AS)}, f_Flow_weakestLevel_L28 k13 n S x0 x1 x2 x3 x4 = some r → kr_AW m_Flow_weakestLevel 6 28 [(0, va_rf x0), (1, va_rf x1), (2, .int x2), (3, .int x3), (4, .int x4)] [] S (kr_eI r) := by
  induction n with
  | zero => intro S x0 x1 x2 x3 x4 r h; cases h
  | succ n ih => intro S x0 x1 x2 x3 x4 r h; exact s_Flow_weakestLevel_C28 hk13 (fun {_} {_} {_} {_} {_} {_} {_} h => ih h) h
set_option maxRecDepth 20000 in
set_option maxHeartbeats 4000000 in
theorem s_Flow_weakestLevel_B109 {k71 : AS → Option Nat → Option Nat → Int32 → Int32 → Option (Int32 × AS)} (hk71 : ∀ {S : AS} {x0 : Option Nat} {x1 : Option Nat} {x3 : Int32} {x4 : Int32} {r : (Int32 × AS)}, k71 S x0 x1 x3 x4 = some r → kr_AW m_Flow_weakestLevel 6 71 [(0, va_rf x0), (1, va_rf x1), (3, .int x3), (4, .int x4)] [] S (kr_eI r)) {S : AS} {x0 : Option Nat} {x1 : Option Nat} {x3 : Int32} {x4 : Int32} {r : (Int32 × AS)} (h : f_Flow_weakestLevel_B109 k71 S x0 x1 x3 x4 = some r) : kr_AW m_Flow_weakestLevel 6 109 [(0, va_rf x0), (1, va_rf x1), (3, .int x3), (4, .int x4)] [] S (kr_eI r) := by
  unfold f_Flow_weakestLevel_B109 at h
  have h2 := kr_ob h
  clear h
  obtain ⟨i8, ei8, h⟩ := h2
  refine r_iinc (v := i8) (lv' := [(4, .int i8), (0, va_rf x0), (1, va_rf x1), (3, .int x3)]) 3 rfl (kr_inc (by decide) ei8) (by decide) rfl d_Flow_weakestLevel_109 ?_
  refine r_goto (tgt := 71) d_Flow_weakestLevel_112 rfl ?_
  exact kr_sub [1, 2, 3, 0] rfl (hk71 h)
set_option maxRecDepth 20000 in
set_option maxHeartbeats 4000000 in
theorem s_Flow_weakestLevel_C71 {k71 : AS → Option Nat → Option Nat → Int32 → Int32 → Option (Int32 × AS)} (hk71 : ∀ {S : AS} {x0 : Option Nat} {x1 : Option Nat} {x3 : Int32} {x4 : Int32} {r : (Int32 × AS)}, k71 S x0 x1 x3 x4 = some r → kr_AW m_Flow_weakestLevel 6 71 [(0, va_rf x0), (1, va_rf x1), (3, .int x3), (4, .int x4)] [] S (kr_eI r)) {S : AS} {x0 : Option Nat} {x1 : Option Nat} {x3 : Int32} {x4 : Int32} {r : (Int32 × AS)} (h : f_Flow_weakestLevel_C71 k71 S x0 x1 x3 x4 = some r) : kr_AW m_Flow_weakestLevel 6 71 [(0, va_rf x0), (1, va_rf x1), (3, .int x3), (4, .int x4)] [] S (kr_eI r) := by
  unfold f_Flow_weakestLevel_C71 at h
  refine r_iload (i := 4) (x := x4) 3 rfl d_Flow_weakestLevel_71 ?_
  refine r_aload_n (i := 0) (x := x0) 0 rfl d_Flow_weakestLevel_73 ?_
  have h2 := kr_ob h
  clear h
  obtain ⟨v9, ev9, h⟩ := h2
  refine r_getI ev9 fk137 rfl d_Flow_weakestLevel_74 ?_
  refine r_icmp_ge (tgt := 115) d_Flow_weakestLevel_77 rfl (fun c => ?_) (fun c => ?_)
  · replace h := kr_ip c h
    refine r_iload_n (i := 3) (x := x3) 2 rfl d_Flow_weakestLevel_115 ?_
    cases h
    exact r_iret rfl d_Flow_weakestLevel_116
  · replace h := kr_in_ c h
    refine r_iload (i := 4) (x := x4) 3 rfl d_Flow_weakestLevel_80 ?_
    refine r_bipush (v := (12 : Int32)) (by decide) d_Flow_weakestLevel_82 ?_
    refine r_icmp_ge (tgt := 115) d_Flow_weakestLevel_84 rfl (fun c => ?_) (fun c => ?_)
    · replace h := kr_ip c h
      refine r_iload_n (i := 3) (x := x3) 2 rfl d_Flow_weakestLevel_115 ?_
      cases h
      exact r_iret rfl d_Flow_weakestLevel_116
    · replace h := kr_in_ c h
      refine r_aload_n (i := 0) (x := x0) 0 rfl d_Flow_weakestLevel_87 ?_
      refine r_iload (i := 4) (x := x4) 3 rfl d_Flow_weakestLevel_88 ?_
      have h2 := kr_ob h
      clear h
      obtain ⟨⟨⟩, eu10, h⟩ := h2
      have h2 := kr_ob2 h
      clear h
      obtain ⟨v12, S11, eS11, h⟩ := h2
      refine r_callV (M1 := m_Flow_kindOf) (κ := 13) (As := [.int x4]) eu10 (s_Flow_kindOf eS11) mok_Flow_kindOf rfl (by decide) rfl w613 w614 w615 (by decide) (kr_c8 kr_c0) d_Flow_weakestLevel_90 (kr_k1 ?_) kr_kn
      refine r_iconst (v := (5 : Int32)) (by decide) d_Flow_weakestLevel_93 ?_
      refine r_icmp_ne (tgt := 109) d_Flow_weakestLevel_94 rfl (fun c => ?_) (fun c => ?_)
      · replace h := kr_ip c h
        refine r_iload_n (i := 3) (x := x3) 2 rfl d_Flow_weakestLevel_97 ?_
        refine r_aload_n (i := 1) (x := x1) 1 rfl d_Flow_weakestLevel_98 ?_
        refine r_iload (i := 4) (x := x4) 3 rfl d_Flow_weakestLevel_99 ?_
        have h2 := kr_ob h
        clear h
        obtain ⟨v13, ev13, h⟩ := h2
        refine r_iaload ev13 d_Flow_weakestLevel_101 ?_
        have h2 := kr_ob2 h
        clear h
        obtain ⟨v15, S14, eS14, h⟩ := h2
        refine r_callS (M1 := m_Flow_leastLevel) (As := [.int v13]) (s_Flow_leastLevel eS14) mok_Flow_leastLevel rfl w749 w750 (by decide) (kr_c8 (kr_cI kr_c0)) d_Flow_weakestLevel_102 (kr_k1 ?_) kr_kn
        have h2 := kr_ob2 h
        clear h
        obtain ⟨v17, S16, eS16, h⟩ := h2
        refine r_callS (M1 := m_Flow_weaker) (As := [.int x3, .int v15]) (s_Flow_weaker eS16) mok_Flow_weaker rfl w752 w753 (by decide) (kr_c8 kr_c0) d_Flow_weakestLevel_105 (kr_k1 ?_) kr_kn
        refine r_istore_n (i := 3) (lv' := [(3, .int v17), (0, va_rf x0), (1, va_rf x1), (4, .int x4)]) (by decide) rfl d_Flow_weakestLevel_108 ?_
        exact kr_sub [1, 2, 0, 3] rfl (s_Flow_weakestLevel_B109 hk71 h)
      · replace h := kr_in_ c h
        exact kr_sub [0, 1, 2, 3] rfl (s_Flow_weakestLevel_B109 hk71 h)
theorem s_Flow_weakestLevel_L71 (n : Nat) : ∀ {S : AS} {x0 : Option Nat} {x1 : Option Nat} {x3 : Int32} {x4 : Int32} {r : (Int32 × AS)}, f_Flow_weakestLevel_L71 n S x0 x1 x3 x4 = some r → kr_AW m_Flow_weakestLevel 6 71 [(0, va_rf x0), (1, va_rf x1), (3, .int x3), (4, .int x4)] [] S (kr_eI r) := by
  induction n with
  | zero => intro S x0 x1 x3 x4 r h; cases h
  | succ n ih => intro S x0 x1 x3 x4 r h; exact s_Flow_weakestLevel_C71 (fun {_} {_} {_} {_} {_} {_} h => ih h) h
set_option maxRecDepth 20000 in
set_option maxHeartbeats 4000000 in
theorem s_Flow_weakestLevel_B66 {S : AS} {x0 : Option Nat} {x1 : Option Nat} {r : (Int32 × AS)} (h : f_Flow_weakestLevel_B66 S x0 x1 = some r) : kr_AW m_Flow_weakestLevel 6 66 [(0, va_rf x0), (1, va_rf x1)] [] S (kr_eI r) := by
  unfold f_Flow_weakestLevel_B66 at h
  refine r_iconst (v := (-1 : Int32)) (by decide) d_Flow_weakestLevel_66 ?_
  refine r_istore_n (i := 3) (lv' := [(3, .int (-1 : Int32)), (0, va_rf x0), (1, va_rf x1)]) (by decide) rfl d_Flow_weakestLevel_67 ?_
  refine r_iconst (v := (0 : Int32)) (by decide) d_Flow_weakestLevel_68 ?_
  refine r_istore (i := 4) (lv' := [(4, .int (0 : Int32)), (3, .int (-1 : Int32)), (0, va_rf x0), (1, va_rf x1)]) (by decide) rfl d_Flow_weakestLevel_69 ?_
  exact kr_sub [2, 3, 1, 0] rfl (s_Flow_weakestLevel_L71 kr_FU h)
set_option maxRecDepth 20000 in
set_option maxHeartbeats 4000000 in
theorem s_Flow_weakestLevel_C13 {k13 : AS → Option Nat → Option Nat → Int32 → Int32 → Option (Int32 × AS)} (hk13 : ∀ {S : AS} {x0 : Option Nat} {x1 : Option Nat} {x2 : Int32} {x3 : Int32} {r : (Int32 × AS)}, k13 S x0 x1 x2 x3 = some r → kr_AW m_Flow_weakestLevel 6 13 [(0, va_rf x0), (1, va_rf x1), (2, .int x2), (3, .int x3)] [] S (kr_eI r)) {S : AS} {x0 : Option Nat} {x1 : Option Nat} {x2 : Int32} {x3 : Int32} {r : (Int32 × AS)} (h : f_Flow_weakestLevel_C13 k13 S x0 x1 x2 x3 = some r) : kr_AW m_Flow_weakestLevel 6 13 [(0, va_rf x0), (1, va_rf x1), (2, .int x2), (3, .int x3)] [] S (kr_eI r) := by
  unfold f_Flow_weakestLevel_C13 at h
  refine r_iload_n (i := 3) (x := x3) 3 rfl d_Flow_weakestLevel_13 ?_
  refine r_bipush (v := (96 : Int32)) (by decide) d_Flow_weakestLevel_14 ?_
  refine r_icmp_ge (tgt := 66) d_Flow_weakestLevel_16 rfl (fun c => ?_) (fun c => ?_)
  · replace h := kr_ip c h
    exact kr_sub [0, 1] rfl (s_Flow_weakestLevel_B66 h)
  · replace h := kr_in_ c h
    refine r_iload_n (i := 2) (x := x2) 2 rfl d_Flow_weakestLevel_19 ?_
    refine r_if_eq (tgt := 66) d_Flow_weakestLevel_20 rfl (fun c => ?_) (fun c => ?_)
    · replace h := kr_ip c h
      exact kr_sub [0, 1] rfl (s_Flow_weakestLevel_B66 h)
    · replace h := kr_in_ c h
      refine r_iconst (v := (0 : Int32)) (by decide) d_Flow_weakestLevel_23 ?_
      refine r_istore_n (i := 2) (lv' := [(2, .int (0 : Int32)), (0, va_rf x0), (1, va_rf x1), (3, .int x3)]) (by decide) (by show kr_st _ 2 _ = _; simp [kr_st, kr_rfcat, kr_icat]) d_Flow_weakestLevel_24 ?_
      refine r_iconst (v := (0 : Int32)) (by decide) d_Flow_weakestLevel_25 ?_
      refine r_istore (i := 4) (lv' := [(4, .int (0 : Int32)), (2, .int (0 : Int32)), (0, va_rf x0), (1, va_rf x1), (3, .int x3)]) (by decide) rfl d_Flow_weakestLevel_26 ?_
      exact kr_sub [2, 3, 1, 4, 0] rfl (s_Flow_weakestLevel_L28 hk13 kr_FU h)
theorem s_Flow_weakestLevel_L13 (n : Nat) : ∀ {S : AS} {x0 : Option Nat} {x1 : Option Nat} {x2 : Int32} {x3 : Int32} {r : (Int32 × AS)}, f_Flow_weakestLevel_L13 n S x0 x1 x2 x3 = some r → kr_AW m_Flow_weakestLevel 6 13 [(0, va_rf x0), (1, va_rf x1), (2, .int x2), (3, .int x3)] [] S (kr_eI r) := by
  induction n with
  | zero => intro S x0 x1 x2 x3 r h; cases h
  | succ n ih => intro S x0 x1 x2 x3 r h; exact s_Flow_weakestLevel_C13 (fun {_} {_} {_} {_} {_} {_} h => ih h) h
set_option maxRecDepth 20000 in
set_option maxHeartbeats 4000000 in
theorem s_Flow_weakestLevel {S : AS} {a0 : Option Nat} {r : (Int32 × AS)} (h : f_Flow_weakestLevel S a0 = some r) : kr_Con m_Flow_weakestLevel 6 [va_rf a0] S (kr_eI r) := by
  refine kr_con rfl rfl (by decide +kernel) (by simp [lg_sl, kr_rfcat, kr_icat, m_Flow_weakestLevel, mL]) ?_
  rw [show lv_args 0 [va_rf a0] = [(0, va_rf a0)] from by simp [lv_args, kr_rfcat, kr_icat]]
  unfold f_Flow_weakestLevel at h
  refine r_bipush (v := (12 : Int32)) (by decide) d_Flow_weakestLevel_0 ?_
  have h2 := kr_ob h
  clear h
  obtain ⟨S18, eS18, h⟩ := h2
  refine r_newI eS18 w133 d_Flow_weakestLevel_2 ?_
  refine r_astore_n (i := 1) (lv' := [(1, va_rf (some (sN S))), (0, va_rf a0)]) (by decide) (by show kr_st _ 1 _ = _; simp [kr_st, kr_rfcat, kr_icat]) d_Flow_weakestLevel_4 ?_
  refine r_aload_n (i := 1) (x := (some (sN S))) 0 rfl d_Flow_weakestLevel_5 ?_
  refine r_iconst (v := (0 : Int32)) (by decide) d_Flow_weakestLevel_6 ?_
  refine r_iconst (v := (1 : Int32)) (by decide) d_Flow_weakestLevel_7 ?_
  have h2 := kr_ob h
  clear h
  obtain ⟨S19, eS19, h⟩ := h2
  refine r_iastore eS19 d_Flow_weakestLevel_8 ?_
  refine r_iconst (v := (1 : Int32)) (by decide) d_Flow_weakestLevel_9 ?_
  refine r_istore_n (i := 2) (lv' := [(2, .int (1 : Int32)), (1, va_rf (some (sN S))), (0, va_rf a0)]) (by decide) (by show kr_st _ 2 _ = _; simp [kr_st, kr_rfcat, kr_icat]) d_Flow_weakestLevel_10 ?_
  refine r_iconst (v := (0 : Int32)) (by decide) d_Flow_weakestLevel_11 ?_
  refine r_istore_n (i := 3) (lv' := [(3, .int (0 : Int32)), (2, .int (1 : Int32)), (1, va_rf (some (sN S))), (0, va_rf a0)]) (by decide) rfl d_Flow_weakestLevel_12 ?_
  exact kr_sub [3, 2, 1, 0] rfl (s_Flow_weakestLevel_L13 kr_FU h)
/-! java/util/ArrayList.isEmpty()Z -/
def f_AL_isEmpty (S : AS) (a0 : Option Nat) : Option (Int32 × AS) :=
  (gI S 10 2 a0).bind fun v1 =>
  if v1 = 0 then
  some ((1 : Int32), S)
  else
  some ((0 : Int32), S)
set_option maxRecDepth 20000 in
set_option maxHeartbeats 4000000 in
theorem s_AL_isEmpty {S : AS} {a0 : Option Nat} {r : (Int32 × AS)} (h : f_AL_isEmpty S a0 = some r) : kr_Con m_AL_isEmpty 0 [va_rf a0] S (kr_eI r) := by
  refine kr_con rfl rfl (by decide +kernel) (by simp [lg_sl, kr_rfcat, kr_icat, m_AL_isEmpty, mL]) ?_
  rw [show lv_args 0 [va_rf a0] = [(0, va_rf a0)] from by simp [lv_args, kr_rfcat, kr_icat]]
  unfold f_AL_isEmpty at h
  refine r_aload_n (i := 0) (x := a0) 0 rfl d_AL_isEmpty_0 ?_
  have h2 := kr_ob h
  clear h
  obtain ⟨v1, ev1, h⟩ := h2
  refine r_getI ev1 fk115 rfl d_AL_isEmpty_1 ?_
  refine r_if_ne (tgt := 11) d_AL_isEmpty_4 rfl (fun c => ?_) (fun c => ?_)
  · replace h := kr_ip c h
    refine r_iconst (v := (1 : Int32)) (by decide) d_AL_isEmpty_7 ?_
    refine r_goto (tgt := 12) d_AL_isEmpty_8 rfl ?_
    cases h
    exact r_zret rfl rfl d_AL_isEmpty_12
  · replace h := kr_in_ c h
    refine r_iconst (v := (0 : Int32)) (by decide) d_AL_isEmpty_11 ?_
    cases h
    exact r_zret rfl rfl d_AL_isEmpty_12
/-! KeyringCourt$Shown.<init>()V -/
def f_Shown_init1 (S : AS) (a0 : Option Nat) : Option AS :=
  (a0).bind fun k1 =>
  (nA S 40 (3 : Int32)).bind fun S2 =>
  (bI S2 (some (sN S)) (0 : Int32) (-1 : Int32)).bind fun S3 =>
  (bI S3 (some (sN S)) (1 : Int32) (-1 : Int32)).bind fun S4 =>
  (bI S4 (some (sN S)) (2 : Int32) (-1 : Int32)).bind fun S5 =>
  (pR S5 20 0 (some k1) (some (sN S))).bind fun S6 =>
  some S6
set_option maxRecDepth 20000 in
set_option maxHeartbeats 4000000 in
theorem s_Shown_init1 {S : AS} {a0 : Option Nat} {r : AS} (h : f_Shown_init1 S a0 = some r) : kr_Con m_Shown_init1 1 [va_rf a0] S (kr_eV r) := by
  refine kr_con rfl rfl (by decide +kernel) (by simp [lg_sl, kr_rfcat, kr_icat, m_Shown_init1, mL]) ?_
  rw [show lv_args 0 [va_rf a0] = [(0, va_rf a0)] from by simp [lv_args, kr_rfcat, kr_icat]]
  unfold f_Shown_init1 at h
  refine r_aload_n (i := 0) (x := a0) 0 rfl d_Shown_init1_0 ?_
  have h2 := kr_ob h
  clear h
  obtain ⟨k1, ek1, h⟩ := h2
  subst ek1
  refine r_objInit w786 w110 w111 (by decide) (kr_c8 kr_c0) d_Shown_init1_1 ?_
  refine r_aload_n (i := 0) (x := (some k1)) 0 rfl d_Shown_init1_4 ?_
  refine r_iconst (v := (3 : Int32)) (by decide) d_Shown_init1_5 ?_
  have h2 := kr_ob h
  clear h
  obtain ⟨S2, eS2, h⟩ := h2
  refine r_newI eS2 w133 d_Shown_init1_6 ?_
  refine r_dup (kr_rfcat _) d_Shown_init1_8 ?_
  refine r_iconst (v := (0 : Int32)) (by decide) d_Shown_init1_9 ?_
  refine r_iconst (v := (-1 : Int32)) (by decide) d_Shown_init1_10 ?_
  have h2 := kr_ob h
  clear h
  obtain ⟨S3, eS3, h⟩ := h2
  refine r_iastore eS3 d_Shown_init1_11 ?_
  refine r_dup (kr_rfcat _) d_Shown_init1_12 ?_
  refine r_iconst (v := (1 : Int32)) (by decide) d_Shown_init1_13 ?_
  refine r_iconst (v := (-1 : Int32)) (by decide) d_Shown_init1_14 ?_
  have h2 := kr_ob h
  clear h
  obtain ⟨S4, eS4, h⟩ := h2
  refine r_iastore eS4 d_Shown_init1_15 ?_
  refine r_dup (kr_rfcat _) d_Shown_init1_16 ?_
  refine r_iconst (v := (2 : Int32)) (by decide) d_Shown_init1_17 ?_
  refine r_iconst (v := (-1 : Int32)) (by decide) d_Shown_init1_18 ?_
  have h2 := kr_ob h
  clear h
  obtain ⟨S5, eS5, h⟩ := h2
  refine r_iastore eS5 d_Shown_init1_19 ?_
  have h2 := kr_ob h
  clear h
  obtain ⟨S6, eS6, h⟩ := h2
  refine r_putR eS6 fk141 (Or.inr ⟨rfl, rfl, rfl, _, w787, rfl⟩) rfl d_Shown_init1_20 ?_
  cases h
  exact r_vret rfl d_Shown_init1_23
/-! KeyringCourt$Attempt.<init>(LKeyringCourt$Person;IILKeyringCourt$Flow;)V -/
def f_Attempt_init (S : AS) (a0 : Option Nat) (a1 : Option Nat) (a2 : Int32) (a3 : Int32) (a4 : Option Nat) : Option AS :=
  (a0).bind fun k1 =>
  (some (nO S 20)).bind fun S2 =>
  (f_Shown_init1 S2 (some (sN S))).bind fun S3 =>
  (pR S3 11 4 (some k1) (some (sN S))).bind fun S4 =>
  (pI S4 11 5 (some k1) (0 : Int32)).bind fun S5 =>
  (pI S5 11 6 (some k1) (-1 : Int32)).bind fun S6 =>
  (pI S6 11 9 (some k1) (-1 : Int32)).bind fun S7 =>
  (pR S7 11 0 (some k1) a1).bind fun S8 =>
  (pI S8 11 1 (some k1) a2).bind fun S9 =>
  (pI S9 11 2 (some k1) a3).bind fun S10 =>
  (pR S10 11 3 (some k1) a4).bind fun S11 =>
  some S11
set_option maxRecDepth 20000 in
set_option maxHeartbeats 4000000 in
theorem s_Attempt_init {S : AS} {a0 : Option Nat} {a1 : Option Nat} {a2 : Int32} {a3 : Int32} {a4 : Option Nat} {r : AS} (h : f_Attempt_init S a0 a1 a2 a3 a4 = some r) : kr_Con m_Attempt_init 2 [va_rf a0, va_rf a1, .int a2, .int a3, va_rf a4] S (kr_eV r) := by
  refine kr_con rfl rfl (by decide +kernel) (by simp [lg_sl, kr_rfcat, kr_icat, m_Attempt_init, mL]) ?_
  rw [show lv_args 0 [va_rf a0, va_rf a1, .int a2, .int a3, va_rf a4] = [(0, va_rf a0), (1, va_rf a1), (2, .int a2), (3, .int a3), (4, va_rf a4)] from by simp [lv_args, kr_rfcat, kr_icat]]
  unfold f_Attempt_init at h
  refine r_aload_n (i := 0) (x := a0) 0 rfl d_Attempt_init_0 ?_
  have h2 := kr_ob h
  clear h
  obtain ⟨k1, ek1, h⟩ := h2
  subst ek1
  refine r_objInit w780 w110 w111 (by decide) (kr_c8 kr_c0) d_Attempt_init_1 ?_
  refine r_aload_n (i := 0) (x := (some k1)) 0 rfl d_Attempt_init_4 ?_
  have h2 := kr_ob h
  clear h
  obtain ⟨S2, eS2, h⟩ := h2
  refine r_newO_ (κ := 20) eS2 (by decide) w781 w782 w97 d_Attempt_init_5 ?_
  refine r_dup (kr_rfcat _) d_Attempt_init_8 ?_
  have h2 := kr_ob h
  clear h
  obtain ⟨S3, eS3, h⟩ := h2
  refine r_callIN (M1 := m_Shown_init1) (As := []) (s_Shown_init1 eS3) mok_Shown_init1 rfl rfl rfl w783 w784 (by decide) (kr_c8 (kr_cR (kr_cR kr_c0))) d_Attempt_init_9 (kr_k0 ?_) kr_kn
  have h2 := kr_ob h
  clear h
  obtain ⟨S4, eS4, h⟩ := h2
  refine r_putR eS4 fk142 (Or.inr ⟨rfl, rfl, rfl, _, w799, rfl⟩) rfl d_Attempt_init_12 ?_
  refine r_aload_n (i := 0) (x := (some k1)) 0 rfl d_Attempt_init_15 ?_
  refine r_iconst (v := (0 : Int32)) (by decide) d_Attempt_init_16 ?_
  have h2 := kr_ob h
  clear h
  obtain ⟨S5, eS5, h⟩ := h2
  refine r_putI eS5 fk143 (Or.inl rfl) rfl d_Attempt_init_17 ?_
  refine r_aload_n (i := 0) (x := (some k1)) 0 rfl d_Attempt_init_20 ?_
  refine r_iconst (v := (-1 : Int32)) (by decide) d_Attempt_init_21 ?_
  have h2 := kr_ob h
  clear h
  obtain ⟨S6, eS6, h⟩ := h2
  refine r_putI eS6 fk144 (Or.inl rfl) rfl d_Attempt_init_22 ?_
  refine r_aload_n (i := 0) (x := (some k1)) 0 rfl d_Attempt_init_25 ?_
  refine r_iconst (v := (-1 : Int32)) (by decide) d_Attempt_init_26 ?_
  have h2 := kr_ob h
  clear h
  obtain ⟨S7, eS7, h⟩ := h2
  refine r_putI eS7 fk145 (Or.inl rfl) rfl d_Attempt_init_27 ?_
  refine r_aload_n (i := 0) (x := (some k1)) 0 rfl d_Attempt_init_30 ?_
  refine r_aload_n (i := 1) (x := a1) 1 rfl d_Attempt_init_31 ?_
  have h2 := kr_ob h
  clear h
  obtain ⟨S8, eS8, h⟩ := h2
  refine r_putR eS8 fk146 (Or.inr ⟨rfl, rfl, rfl, _, w791, rfl⟩) rfl d_Attempt_init_32 ?_
  refine r_aload_n (i := 0) (x := (some k1)) 0 rfl d_Attempt_init_35 ?_
  refine r_iload_n (i := 2) (x := a2) 2 rfl d_Attempt_init_36 ?_
  have h2 := kr_ob h
  clear h
  obtain ⟨S9, eS9, h⟩ := h2
  refine r_putI eS9 fk147 (Or.inr ⟨rfl, rfl, rfl, _, w793, rfl⟩) rfl d_Attempt_init_37 ?_
  refine r_aload_n (i := 0) (x := (some k1)) 0 rfl d_Attempt_init_40 ?_
  refine r_iload_n (i := 3) (x := a3) 3 rfl d_Attempt_init_41 ?_
  have h2 := kr_ob h
  clear h
  obtain ⟨S10, eS10, h⟩ := h2
  refine r_putI eS10 fk148 (Or.inr ⟨rfl, rfl, rfl, _, w795, rfl⟩) rfl d_Attempt_init_42 ?_
  refine r_aload_n (i := 0) (x := (some k1)) 0 rfl d_Attempt_init_45 ?_
  refine r_aload (i := 4) (x := a4) 4 rfl d_Attempt_init_46 ?_
  have h2 := kr_ob h
  clear h
  obtain ⟨S11, eS11, h⟩ := h2
  refine r_putR eS11 fk149 (Or.inr ⟨rfl, rfl, rfl, _, w797, rfl⟩) rfl d_Attempt_init_48 ?_
  cases h
  exact r_vret rfl d_Attempt_init_51
/-! KeyringCourt$Person.wrongsSince(I)I -/
def f_Person_wrongsSince_B32 (S : AS) (x0 : Option Nat) (x2 : Int32) (y0 : Int32) (y1 : Int32) : Option (Int32 × AS) :=
  (gI S 16 6 x0).bind fun v1 =>
  if v1 < x2 then
  some ((y0 + y1) + (0 : Int32), S)
  else
  some ((y0 + y1) + (1 : Int32), S)
def f_Person_wrongsSince_B19 (S : AS) (x0 : Option Nat) (x2 : Int32) (y0 : Int32) : Option (Int32 × AS) :=
  (gI S 16 5 x0).bind fun v2 =>
  if v2 < x2 then
  f_Person_wrongsSince_B32 S x0 x2 y0 (0 : Int32)
  else
  f_Person_wrongsSince_B32 S x0 x2 y0 (1 : Int32)
def f_Person_wrongsSince (S : AS) (a0 : Option Nat) (a1 : Int32) : Option (Int32 × AS) :=
  (some (if (0 : Int32) < a1 then a1 else (0 : Int32))).bind fun i3 =>
  (gI S 16 4 a0).bind fun v4 =>
  if v4 < i3 then
  f_Person_wrongsSince_B19 S a0 i3 (0 : Int32)
  else
  f_Person_wrongsSince_B19 S a0 i3 (1 : Int32)
set_option maxRecDepth 20000 in
set_option maxHeartbeats 4000000 in
theorem s_Person_wrongsSince_B32 {S : AS} {x0 : Option Nat} {x2 : Int32} {y0 : Int32} {y1 : Int32} {r : (Int32 × AS)} (h : f_Person_wrongsSince_B32 S x0 x2 y0 y1 = some r) : kr_AW m_Person_wrongsSince 1 32 [(0, va_rf x0), (2, .int x2)] [.int y1, .int y0] S (kr_eI r) := by
  unfold f_Person_wrongsSince_B32 at h
  refine r_iadd d_Person_wrongsSince_32 ?_
  refine r_aload_n (i := 0) (x := x0) 0 rfl d_Person_wrongsSince_33 ?_
  have h2 := kr_ob h
  clear h
  obtain ⟨v1, ev1, h⟩ := h2
  refine r_getI ev1 fk18 rfl d_Person_wrongsSince_34 ?_
  refine r_iload_n (i := 2) (x := x2) 1 rfl d_Person_wrongsSince_37 ?_
  refine r_icmp_lt (tgt := 45) d_Person_wrongsSince_38 rfl (fun c => ?_) (fun c => ?_)
  · replace h := kr_ip c h
    refine r_iconst (v := (0 : Int32)) (by decide) d_Person_wrongsSince_45 ?_
    refine r_iadd d_Person_wrongsSince_46 ?_
    cases h
    exact r_iret rfl d_Person_wrongsSince_47
  · replace h := kr_in_ c h
    refine r_iconst (v := (1 : Int32)) (by decide) d_Person_wrongsSince_41 ?_
    refine r_goto (tgt := 46) d_Person_wrongsSince_42 rfl ?_
    refine r_iadd d_Person_wrongsSince_46 ?_
    cases h
    exact r_iret rfl d_Person_wrongsSince_47
set_option maxRecDepth 20000 in
set_option maxHeartbeats 4000000 in
theorem s_Person_wrongsSince_B19 {S : AS} {x0 : Option Nat} {x2 : Int32} {y0 : Int32} {r : (Int32 × AS)} (h : f_Person_wrongsSince_B19 S x0 x2 y0 = some r) : kr_AW m_Person_wrongsSince 1 19 [(0, va_rf x0), (2, .int x2)] [.int y0] S (kr_eI r) := by
  unfold f_Person_wrongsSince_B19 at h
  refine r_aload_n (i := 0) (x := x0) 0 rfl d_Person_wrongsSince_19 ?_
  have h2 := kr_ob h
  clear h
  obtain ⟨v2, ev2, h⟩ := h2
  refine r_getI ev2 fk17 rfl d_Person_wrongsSince_20 ?_
  refine r_iload_n (i := 2) (x := x2) 1 rfl d_Person_wrongsSince_23 ?_
  refine r_icmp_lt (tgt := 31) d_Person_wrongsSince_24 rfl (fun c => ?_) (fun c => ?_)
  · replace h := kr_ip c h
    refine r_iconst (v := (0 : Int32)) (by decide) d_Person_wrongsSince_31 ?_
    exact kr_sub [0, 1] rfl (s_Person_wrongsSince_B32 h)
  · replace h := kr_in_ c h
    refine r_iconst (v := (1 : Int32)) (by decide) d_Person_wrongsSince_27 ?_
    refine r_goto (tgt := 32) d_Person_wrongsSince_28 rfl ?_
    exact kr_sub [0, 1] rfl (s_Person_wrongsSince_B32 h)
set_option maxRecDepth 20000 in
set_option maxHeartbeats 4000000 in
theorem s_Person_wrongsSince {S : AS} {a0 : Option Nat} {a1 : Int32} {r : (Int32 × AS)} (h : f_Person_wrongsSince S a0 a1 = some r) : kr_Con m_Person_wrongsSince 1 [va_rf a0, .int a1] S (kr_eI r) := by
  refine kr_con rfl rfl (by decide +kernel) (by simp [lg_sl, kr_rfcat, kr_icat, m_Person_wrongsSince, mL]) ?_
  rw [show lv_args 0 [va_rf a0, .int a1] = [(0, va_rf a0), (1, .int a1)] from by simp [lv_args, kr_rfcat, kr_icat]]
  unfold f_Person_wrongsSince at h
  refine r_iconst (v := (0 : Int32)) (by decide) d_Person_wrongsSince_0 ?_
  refine r_iload_n (i := 1) (x := a1) 1 rfl d_Person_wrongsSince_1 ?_
  refine r_mmax w855 w662 w94 w663 (by decide) (kr_c8 kr_c0) d_Person_wrongsSince_2 ?_
  have h2 := kr_ob h
  clear h
  obtain ⟨i3, ei3, h⟩ := h2
  refine kr_nmI ei3 ?_
  refine r_istore_n (i := 2) (lv' := [(2, .int i3), (0, va_rf a0), (1, .int a1)]) (by decide) rfl d_Person_wrongsSince_5 ?_
  refine r_aload_n (i := 0) (x := a0) 1 rfl d_Person_wrongsSince_6 ?_
  have h2 := kr_ob h
  clear h
  obtain ⟨v4, ev4, h⟩ := h2
  refine r_getI ev4 fk16 rfl d_Person_wrongsSince_7 ?_
  refine r_iload_n (i := 2) (x := i3) 0 rfl d_Person_wrongsSince_10 ?_
  refine r_icmp_lt (tgt := 18) d_Person_wrongsSince_11 rfl (fun c => ?_) (fun c => ?_)
  · replace h := kr_ip c h
    refine r_iconst (v := (0 : Int32)) (by decide) d_Person_wrongsSince_18 ?_
    exact kr_sub [1, 0] rfl (s_Person_wrongsSince_B19 h)
  · replace h := kr_in_ c h
    refine r_iconst (v := (1 : Int32)) (by decide) d_Person_wrongsSince_14 ?_
    refine r_goto (tgt := 19) d_Person_wrongsSince_15 rfl ?_
    exact kr_sub [1, 0] rfl (s_Person_wrongsSince_B19 h)
/-! KeyringCourt$Shown.levelSince(I)I -/
def f_Shown_levelSince_B36 (k4 : AS → Option Nat → Int32 → Int32 → Int32 → Option (Int32 × AS)) (S : AS) (x0 : Option Nat) (x1 : Int32) (x2 : Int32) (x3 : Int32) : Option (Int32 × AS) :=
  (some (x3 + (1 : Int32))).bind fun i1 =>
  k4 S x0 x1 x2 i1
def f_Shown_levelSince_C4 (k4 : AS → Option Nat → Int32 → Int32 → Int32 → Option (Int32 × AS)) (S : AS) (x0 : Option Nat) (x1 : Int32) (x2 : Int32) (x3 : Int32) : Option (Int32 × AS) :=
  if (3 : Int32) ≤ x3 then
  some (x2, S)
  else
  (gR S 20 0 x0).bind fun v2 =>
  (aI S 40 v2 x3).bind fun v3 =>
  if v3 = (-1 : Int32) then
  f_Shown_levelSince_B36 k4 S x0 x1 x2 x3
  else
  (gR S 20 0 x0).bind fun v4 =>
  (aI S 40 v4 x3).bind fun v5 =>
  if v5 < x1 then
  f_Shown_levelSince_B36 k4 S x0 x1 x2 x3
  else
  kr_b2 (f_Shown_weightOf S x3) fun v7 S6 =>
  (some (x2 + v7)).bind fun i8 =>
  f_Shown_levelSince_B36 k4 S6 x0 x1 i8 x3
def f_Shown_levelSince_L4 : Nat → AS → Option Nat → Int32 → Int32 → Int32 → Option (Int32 × AS)
  | 0, S, x0, x1, x2, x3 => none
  | n + 1, S, x0, x1, x2, x3 => f_Shown_levelSince_C4 (f_Shown_levelSince_L4 n) S x0 x1 x2 x3
def f_Shown_levelSince (S : AS) (a0 : Option Nat) (a1 : Int32) : Option (Int32 × AS) :=
  f_Shown_levelSince_L4 kr_FU S a0 a1 (0 : Int32) (0 : Int32)
set_option maxRecDepth 20000 in
set_option maxHeartbeats 4000000 in
theorem s_Shown_levelSince_B36 {k4 : AS → Option Nat → Int32 → Int32 → Int32 → Option (Int32 × AS)} (hk4 : ∀ {S : AS} {x0 : Option Nat} {x1 : Int32} {x2 : Int32} {x3 : Int32} {r : (Int32 × AS)}, k4 S x0 x1 x2 x3 = some r → kr_AW m_Shown_levelSince 3 4 [(0, va_rf x0), (1, .int x1), (2, .int x2), (3, .int x3)] [] S (kr_eI r)) {S : AS} {x0 : Option Nat} {x1 : Int32} {x2 : Int32} {x3 : Int32} {r : (Int32 × AS)} (h : f_Shown_levelSince_B36 k4 S x0 x1 x2 x3 = some r) : kr_AW m_Shown_levelSince 3 36 [(0, va_rf x0), (1, .int x1), (2, .int x2), (3, .int x3)] [] S (kr_eI r) := by
  unfold f_Shown_levelSince_B36 at h
  have h2 := kr_ob h
  clear h
  obtain ⟨i1, ei1, h⟩ := h2
  refine r_iinc (v := i1) (lv' := [(3, .int i1), (0, va_rf x0), (1, .int x1), (2, .int x2)]) 3 rfl (kr_inc (by decide) ei1) (by decide) rfl d_Shown_levelSince_36 ?_
  refine r_goto (tgt := 4) d_Shown_levelSince_39 rfl ?_
  exact kr_sub [1, 2, 3, 0] rfl (hk4 h)
set_option maxRecDepth 20000 in
set_option maxHeartbeats 4000000 in
theorem s_Shown_levelSince_C4 {k4 : AS → Option Nat → Int32 → Int32 → Int32 → Option (Int32 × AS)} (hk4 : ∀ {S : AS} {x0 : Option Nat} {x1 : Int32} {x2 : Int32} {x3 : Int32} {r : (Int32 × AS)}, k4 S x0 x1 x2 x3 = some r → kr_AW m_Shown_levelSince 3 4 [(0, va_rf x0), (1, .int x1), (2, .int x2), (3, .int x3)] [] S (kr_eI r)) {S : AS} {x0 : Option Nat} {x1 : Int32} {x2 : Int32} {x3 : Int32} {r : (Int32 × AS)} (h : f_Shown_levelSince_C4 k4 S x0 x1 x2 x3 = some r) : kr_AW m_Shown_levelSince 3 4 [(0, va_rf x0), (1, .int x1), (2, .int x2), (3, .int x3)] [] S (kr_eI r) := by
  unfold f_Shown_levelSince_C4 at h
  refine r_iload_n (i := 3) (x := x3) 3 rfl d_Shown_levelSince_4 ?_
  refine r_iconst (v := (3 : Int32)) (by decide) d_Shown_levelSince_5 ?_
  refine r_icmp_ge (tgt := 42) d_Shown_levelSince_6 rfl (fun c => ?_) (fun c => ?_)
  · replace h := kr_ip c h
    refine r_iload_n (i := 2) (x := x2) 2 rfl d_Shown_levelSince_42 ?_
    cases h
    exact r_iret rfl d_Shown_levelSince_43
  · replace h := kr_in_ c h
    refine r_aload_n (i := 0) (x := x0) 0 rfl d_Shown_levelSince_9 ?_
    have h2 := kr_ob h
    clear h
    obtain ⟨v2, ev2, h⟩ := h2
    refine r_getR ev2 fk141 rfl d_Shown_levelSince_10 ?_
    refine r_iload_n (i := 3) (x := x3) 3 rfl d_Shown_levelSince_13 ?_
    have h2 := kr_ob h
    clear h
    obtain ⟨v3, ev3, h⟩ := h2
    refine r_iaload ev3 d_Shown_levelSince_14 ?_
    refine r_iconst (v := (-1 : Int32)) (by decide) d_Shown_levelSince_15 ?_
    refine r_icmp_eq (tgt := 36) d_Shown_levelSince_16 rfl (fun c => ?_) (fun c => ?_)
    · replace h := kr_ip c h
      exact kr_sub [0, 1, 2, 3] rfl (s_Shown_levelSince_B36 hk4 h)
    · replace h := kr_in_ c h
      refine r_aload_n (i := 0) (x := x0) 0 rfl d_Shown_levelSince_19 ?_
      have h2 := kr_ob h
      clear h
      obtain ⟨v4, ev4, h⟩ := h2
      refine r_getR ev4 fk141 rfl d_Shown_levelSince_20 ?_
      refine r_iload_n (i := 3) (x := x3) 3 rfl d_Shown_levelSince_23 ?_
      have h2 := kr_ob h
      clear h
      obtain ⟨v5, ev5, h⟩ := h2
      refine r_iaload ev5 d_Shown_levelSince_24 ?_
      refine r_iload_n (i := 1) (x := x1) 1 rfl d_Shown_levelSince_25 ?_
      refine r_icmp_lt (tgt := 36) d_Shown_levelSince_26 rfl (fun c => ?_) (fun c => ?_)
      · replace h := kr_ip c h
        exact kr_sub [0, 1, 2, 3] rfl (s_Shown_levelSince_B36 hk4 h)
      · replace h := kr_in_ c h
        refine r_iload_n (i := 2) (x := x2) 2 rfl d_Shown_levelSince_29 ?_
        refine r_iload_n (i := 3) (x := x3) 3 rfl d_Shown_levelSince_30 ?_
        have h2 := kr_ob2 h
        clear h
        obtain ⟨v7, S6, eS6, h⟩ := h2
        refine r_callS (M1 := m_Shown_weightOf) (As := [.int x3]) (s_Shown_weightOf eS6) mok_Shown_weightOf rfl w736 w737 (by decide) (kr_c8 (kr_cI kr_c0)) d_Shown_levelSince_31 (kr_k1 ?_) kr_kn
        refine r_iadd d_Shown_levelSince_34 ?_
        have h2 := kr_ob h
        clear h
        obtain ⟨i8, ei8, h⟩ := h2
        refine kr_nmI ei8 ?_
        refine r_istore_n (i := 2) (lv' := [(2, .int i8), (0, va_rf x0), (1, .int x1), (3, .int x3)]) (by decide) rfl d_Shown_levelSince_35 ?_
        exact kr_sub [1, 2, 0, 3] rfl (s_Shown_levelSince_B36 hk4 h)
theorem s_Shown_levelSince_L4 (n : Nat) : ∀ {S : AS} {x0 : Option Nat} {x1 : Int32} {x2 : Int32} {x3 : Int32} {r : (Int32 × AS)}, f_Shown_levelSince_L4 n S x0 x1 x2 x3 = some r → kr_AW m_Shown_levelSince 3 4 [(0, va_rf x0), (1, .int x1), (2, .int x2), (3, .int x3)] [] S (kr_eI r) := by
  induction n with
  | zero => intro S x0 x1 x2 x3 r h; cases h
  | succ n ih => intro S x0 x1 x2 x3 r h; exact s_Shown_levelSince_C4 (fun {_} {_} {_} {_} {_} {_} h => ih h) h
set_option maxRecDepth 20000 in
set_option maxHeartbeats 4000000 in
theorem s_Shown_levelSince {S : AS} {a0 : Option Nat} {a1 : Int32} {r : (Int32 × AS)} (h : f_Shown_levelSince S a0 a1 = some r) : kr_Con m_Shown_levelSince 3 [va_rf a0, .int a1] S (kr_eI r) := by
  refine kr_con rfl rfl (by decide +kernel) (by simp [lg_sl, kr_rfcat, kr_icat, m_Shown_levelSince, mL]) ?_
  rw [show lv_args 0 [va_rf a0, .int a1] = [(0, va_rf a0), (1, .int a1)] from by simp [lv_args, kr_rfcat, kr_icat]]
  unfold f_Shown_levelSince at h
  refine r_iconst (v := (0 : Int32)) (by decide) d_Shown_levelSince_0 ?_
  refine r_istore_n (i := 2) (lv' := [(2, .int (0 : Int32)), (0, va_rf a0), (1, .int a1)]) (by decide) rfl d_Shown_levelSince_1 ?_
  refine r_iconst (v := (0 : Int32)) (by decide) d_Shown_levelSince_2 ?_
  refine r_istore_n (i := 3) (lv' := [(3, .int (0 : Int32)), (2, .int (0 : Int32)), (0, va_rf a0), (1, .int a1)]) (by decide) rfl d_Shown_levelSince_3 ?_
  exact kr_sub [2, 3, 1, 0] rfl (s_Shown_levelSince_L4 kr_FU h)
/-! KeyringCourt$Attempt.waitAt(I)V -/
def f_Attempt_waitAt (S : AS) (a0 : Option Nat) (a1 : Int32) : Option AS :=
  (pI S 11 6 a0 a1).bind fun S1 =>
  (pI S1 11 7 a0 (0 : Int32)).bind fun S2 =>
  some S2
set_option maxRecDepth 20000 in
set_option maxHeartbeats 4000000 in
theorem s_Attempt_waitAt {S : AS} {a0 : Option Nat} {a1 : Int32} {r : AS} (h : f_Attempt_waitAt S a0 a1 = some r) : kr_Con m_Attempt_waitAt 0 [va_rf a0, .int a1] S (kr_eV r) := by
  refine kr_con rfl rfl (by decide +kernel) (by simp [lg_sl, kr_rfcat, kr_icat, m_Attempt_waitAt, mL]) ?_
  rw [show lv_args 0 [va_rf a0, .int a1] = [(0, va_rf a0), (1, .int a1)] from by simp [lv_args, kr_rfcat, kr_icat]]
  unfold f_Attempt_waitAt at h
  refine r_aload_n (i := 0) (x := a0) 0 rfl d_Attempt_waitAt_0 ?_
  refine r_iload_n (i := 1) (x := a1) 1 rfl d_Attempt_waitAt_1 ?_
  have h2 := kr_ob h
  clear h
  obtain ⟨S1, eS1, h⟩ := h2
  refine r_putI eS1 fk144 (Or.inl rfl) rfl d_Attempt_waitAt_2 ?_
  refine r_aload_n (i := 0) (x := a0) 0 rfl d_Attempt_waitAt_5 ?_
  refine r_iconst (v := (0 : Int32)) (by decide) d_Attempt_waitAt_6 ?_
  have h2 := kr_ob h
  clear h
  obtain ⟨S2, eS2, h⟩ := h2
  refine r_putI eS2 fk157 (Or.inl rfl) rfl d_Attempt_waitAt_7 ?_
  cases h
  exact r_vret rfl d_Attempt_waitAt_10
/-! KeyringCourt$Shown.<init>(LKeyringCourt$Shown;)V -/
def f_Shown_init2_C25 (k25 : AS → Option Nat → Option Nat → Int32 → Option AS) (S : AS) (x0 : Option Nat) (x1 : Option Nat) (x2 : Int32) : Option AS :=
  if (3 : Int32) ≤ x2 then
  some S
  else
  (gR S 20 0 x0).bind fun v1 =>
  (gR S 20 0 x1).bind fun v2 =>
  (aI S 40 v2 x2).bind fun v3 =>
  (bI S v1 x2 v3).bind fun S4 =>
  (some (x2 + (1 : Int32))).bind fun i5 =>
  k25 S4 x0 x1 i5
def f_Shown_init2_L25 : Nat → AS → Option Nat → Option Nat → Int32 → Option AS
  | 0, S, x0, x1, x2 => none
  | n + 1, S, x0, x1, x2 => f_Shown_init2_C25 (f_Shown_init2_L25 n) S x0 x1 x2
def f_Shown_init2 (S : AS) (a0 : Option Nat) (a1 : Option Nat) : Option AS :=
  (a0).bind fun k6 =>
  (nA S 40 (3 : Int32)).bind fun S7 =>
  (bI S7 (some (sN S)) (0 : Int32) (-1 : Int32)).bind fun S8 =>
  (bI S8 (some (sN S)) (1 : Int32) (-1 : Int32)).bind fun S9 =>
  (bI S9 (some (sN S)) (2 : Int32) (-1 : Int32)).bind fun S10 =>
  (pR S10 20 0 (some k6) (some (sN S))).bind fun S11 =>
  f_Shown_init2_L25 kr_FU S11 (some k6) a1 (0 : Int32)
set_option maxRecDepth 20000 in
set_option maxHeartbeats 4000000 in
theorem s_Shown_init2_C25 {k25 : AS → Option Nat → Option Nat → Int32 → Option AS} (hk25 : ∀ {S : AS} {x0 : Option Nat} {x1 : Option Nat} {x2 : Int32} {r : AS}, k25 S x0 x1 x2 = some r → kr_AW m_Shown_init2 1 25 [(0, va_rf x0), (1, va_rf x1), (2, .int x2)] [] S (kr_eV r)) {S : AS} {x0 : Option Nat} {x1 : Option Nat} {x2 : Int32} {r : AS} (h : f_Shown_init2_C25 k25 S x0 x1 x2 = some r) : kr_AW m_Shown_init2 1 25 [(0, va_rf x0), (1, va_rf x1), (2, .int x2)] [] S (kr_eV r) := by
  unfold f_Shown_init2_C25 at h
  refine r_iload_n (i := 2) (x := x2) 2 rfl d_Shown_init2_25 ?_
  refine r_iconst (v := (3 : Int32)) (by decide) d_Shown_init2_26 ?_
  refine r_icmp_ge (tgt := 48) d_Shown_init2_27 rfl (fun c => ?_) (fun c => ?_)
  · replace h := kr_ip c h
    cases h
    exact r_vret rfl d_Shown_init2_48
  · replace h := kr_in_ c h
    refine r_aload_n (i := 0) (x := x0) 0 rfl d_Shown_init2_30 ?_
    have h2 := kr_ob h
    clear h
    obtain ⟨v1, ev1, h⟩ := h2
    refine r_getR ev1 fk141 rfl d_Shown_init2_31 ?_
    refine r_iload_n (i := 2) (x := x2) 2 rfl d_Shown_init2_34 ?_
    refine r_aload_n (i := 1) (x := x1) 1 rfl d_Shown_init2_35 ?_
    have h2 := kr_ob h
    clear h
    obtain ⟨v2, ev2, h⟩ := h2
    refine r_getR ev2 fk141 rfl d_Shown_init2_36 ?_
    refine r_iload_n (i := 2) (x := x2) 2 rfl d_Shown_init2_39 ?_
    have h2 := kr_ob h
    clear h
    obtain ⟨v3, ev3, h⟩ := h2
    refine r_iaload ev3 d_Shown_init2_40 ?_
    have h2 := kr_ob h
    clear h
    obtain ⟨S4, eS4, h⟩ := h2
    refine r_iastore eS4 d_Shown_init2_41 ?_
    have h2 := kr_ob h
    clear h
    obtain ⟨i5, ei5, h⟩ := h2
    refine r_iinc (v := i5) (lv' := [(2, .int i5), (0, va_rf x0), (1, va_rf x1)]) 2 rfl (kr_inc (by decide) ei5) (by decide) (by simp [kr_st, kr_rfcat, kr_icat]) d_Shown_init2_42 ?_
    refine r_goto (tgt := 25) d_Shown_init2_45 rfl ?_
    exact kr_sub [1, 2, 0] rfl (hk25 h)
theorem s_Shown_init2_L25 (n : Nat) : ∀ {S : AS} {x0 : Option Nat} {x1 : Option Nat} {x2 : Int32} {r : AS}, f_Shown_init2_L25 n S x0 x1 x2 = some r → kr_AW m_Shown_init2 1 25 [(0, va_rf x0), (1, va_rf x1), (2, .int x2)] [] S (kr_eV r) := by
  induction n with
  | zero => intro S x0 x1 x2 r h; cases h
  | succ n ih => intro S x0 x1 x2 r h; exact s_Shown_init2_C25 (fun {_} {_} {_} {_} {_} h => ih h) h
set_option maxRecDepth 20000 in
set_option maxHeartbeats 4000000 in
theorem s_Shown_init2 {S : AS} {a0 : Option Nat} {a1 : Option Nat} {r : AS} (h : f_Shown_init2 S a0 a1 = some r) : kr_Con m_Shown_init2 1 [va_rf a0, va_rf a1] S (kr_eV r) := by
  refine kr_con rfl rfl (by decide +kernel) (by simp [lg_sl, kr_rfcat, kr_icat, m_Shown_init2, mL]) ?_
  rw [show lv_args 0 [va_rf a0, va_rf a1] = [(0, va_rf a0), (1, va_rf a1)] from by simp [lv_args, kr_rfcat, kr_icat]]
  unfold f_Shown_init2 at h
  refine r_aload_n (i := 0) (x := a0) 0 rfl d_Shown_init2_0 ?_
  have h2 := kr_ob h
  clear h
  obtain ⟨k6, ek6, h⟩ := h2
  subst ek6
  refine r_objInit w786 w110 w111 (by decide) (kr_c8 kr_c0) d_Shown_init2_1 ?_
  refine r_aload_n (i := 0) (x := (some k6)) 0 rfl d_Shown_init2_4 ?_
  refine r_iconst (v := (3 : Int32)) (by decide) d_Shown_init2_5 ?_
  have h2 := kr_ob h
  clear h
  obtain ⟨S7, eS7, h⟩ := h2
  refine r_newI eS7 w133 d_Shown_init2_6 ?_
  refine r_dup (kr_rfcat _) d_Shown_init2_8 ?_
  refine r_iconst (v := (0 : Int32)) (by decide) d_Shown_init2_9 ?_
  refine r_iconst (v := (-1 : Int32)) (by decide) d_Shown_init2_10 ?_
  have h2 := kr_ob h
  clear h
  obtain ⟨S8, eS8, h⟩ := h2
  refine r_iastore eS8 d_Shown_init2_11 ?_
  refine r_dup (kr_rfcat _) d_Shown_init2_12 ?_
  refine r_iconst (v := (1 : Int32)) (by decide) d_Shown_init2_13 ?_
  refine r_iconst (v := (-1 : Int32)) (by decide) d_Shown_init2_14 ?_
  have h2 := kr_ob h
  clear h
  obtain ⟨S9, eS9, h⟩ := h2
  refine r_iastore eS9 d_Shown_init2_15 ?_
  refine r_dup (kr_rfcat _) d_Shown_init2_16 ?_
  refine r_iconst (v := (2 : Int32)) (by decide) d_Shown_init2_17 ?_
  refine r_iconst (v := (-1 : Int32)) (by decide) d_Shown_init2_18 ?_
  have h2 := kr_ob h
  clear h
  obtain ⟨S10, eS10, h⟩ := h2
  refine r_iastore eS10 d_Shown_init2_19 ?_
  have h2 := kr_ob h
  clear h
  obtain ⟨S11, eS11, h⟩ := h2
  refine r_putR eS11 fk141 (Or.inr ⟨rfl, rfl, rfl, _, w787, rfl⟩) rfl d_Shown_init2_20 ?_
  refine r_iconst (v := (0 : Int32)) (by decide) d_Shown_init2_23 ?_
  refine r_istore_n (i := 2) (lv' := [(2, .int (0 : Int32)), (0, va_rf (some k6)), (1, va_rf a1)]) (by decide) (by show kr_st _ 2 _ = _; simp [kr_st, kr_rfcat, kr_icat]) d_Shown_init2_24 ?_
  exact kr_sub [1, 2, 0] rfl (s_Shown_init2_L25 kr_FU h)
/-! KeyringCourt$Session.<init>(ILKeyringCourt$Person;LKeyringCourt$Session;LKeyringCourt$Shown;I)V -/
def f_Session_init (S : AS) (a0 : Option Nat) (a1 : Int32) (a2 : Option Nat) (a3 : Option Nat) (a4 : Option Nat) (a5 : Int32) : Option AS :=
  (a0).bind fun k1 =>
  (pZ S 19 6 (some k1) (1 : Int32)).bind fun S2 =>
  (pI S2 19 0 (some k1) a1).bind fun S3 =>
  (pR S3 19 1 (some k1) a2).bind fun S4 =>
  (pR S4 19 2 (some k1) a3).bind fun S5 =>
  (pR S5 19 3 (some k1) a4).bind fun S6 =>
  (pI S6 19 4 (some k1) a5).bind fun S7 =>
  (pI S7 19 5 (some k1) a5).bind fun S8 =>
  some S8
set_option maxRecDepth 20000 in
set_option maxHeartbeats 4000000 in
theorem s_Session_init {S : AS} {a0 : Option Nat} {a1 : Int32} {a2 : Option Nat} {a3 : Option Nat} {a4 : Option Nat} {a5 : Int32} {r : AS} (h : f_Session_init S a0 a1 a2 a3 a4 a5 = some r) : kr_Con m_Session_init 1 [va_rf a0, .int a1, va_rf a2, va_rf a3, va_rf a4, .int a5] S (kr_eV r) := by
  refine kr_con rfl rfl (by decide +kernel) (by simp [lg_sl, kr_rfcat, kr_icat, m_Session_init, mL]) ?_
  rw [show lv_args 0 [va_rf a0, .int a1, va_rf a2, va_rf a3, va_rf a4, .int a5] = [(0, va_rf a0), (1, .int a1), (2, va_rf a2), (3, va_rf a3), (4, va_rf a4), (5, .int a5)] from by simp [lv_args, kr_rfcat, kr_icat]]
  unfold f_Session_init at h
  refine r_aload_n (i := 0) (x := a0) 0 rfl d_Session_init_0 ?_
  have h2 := kr_ob h
  clear h
  obtain ⟨k1, ek1, h⟩ := h2
  subst ek1
  refine r_objInit w881 w110 w111 (by decide) (kr_c8 kr_c0) d_Session_init_1 ?_
  refine r_aload_n (i := 0) (x := (some k1)) 0 rfl d_Session_init_4 ?_
  refine r_iconst (v := (1 : Int32)) (by decide) d_Session_init_5 ?_
  have h2 := kr_ob h
  clear h
  obtain ⟨S2, eS2, h⟩ := h2
  refine r_putZ eS2 fk158 (Or.inl rfl) rfl d_Session_init_6 ?_
  refine r_aload_n (i := 0) (x := (some k1)) 0 rfl d_Session_init_9 ?_
  refine r_iload_n (i := 1) (x := a1) 1 rfl d_Session_init_10 ?_
  have h2 := kr_ob h
  clear h
  obtain ⟨S3, eS3, h⟩ := h2
  refine r_putI eS3 fk159 (Or.inr ⟨rfl, rfl, rfl, _, w882, rfl⟩) rfl d_Session_init_11 ?_
  refine r_aload_n (i := 0) (x := (some k1)) 0 rfl d_Session_init_14 ?_
  refine r_aload_n (i := 2) (x := a2) 2 rfl d_Session_init_15 ?_
  have h2 := kr_ob h
  clear h
  obtain ⟨S4, eS4, h⟩ := h2
  refine r_putR eS4 fk160 (Or.inr ⟨rfl, rfl, rfl, _, w884, rfl⟩) rfl d_Session_init_16 ?_
  refine r_aload_n (i := 0) (x := (some k1)) 0 rfl d_Session_init_19 ?_
  refine r_aload_n (i := 3) (x := a3) 3 rfl d_Session_init_20 ?_
  have h2 := kr_ob h
  clear h
  obtain ⟨S5, eS5, h⟩ := h2
  refine r_putR eS5 fk161 (Or.inr ⟨rfl, rfl, rfl, _, w886, rfl⟩) rfl d_Session_init_21 ?_
  refine r_aload_n (i := 0) (x := (some k1)) 0 rfl d_Session_init_24 ?_
  refine r_aload (i := 4) (x := a4) 4 rfl d_Session_init_25 ?_
  have h2 := kr_ob h
  clear h
  obtain ⟨S6, eS6, h⟩ := h2
  refine r_putR eS6 fk162 (Or.inr ⟨rfl, rfl, rfl, _, w888, rfl⟩) rfl d_Session_init_27 ?_
  refine r_aload_n (i := 0) (x := (some k1)) 0 rfl d_Session_init_30 ?_
  refine r_iload (i := 5) (x := a5) 5 rfl d_Session_init_31 ?_
  have h2 := kr_ob h
  clear h
  obtain ⟨S7, eS7, h⟩ := h2
  refine r_putI eS7 fk117 (Or.inr ⟨rfl, rfl, rfl, _, w890, rfl⟩) rfl d_Session_init_33 ?_
  refine r_aload_n (i := 0) (x := (some k1)) 0 rfl d_Session_init_36 ?_
  refine r_iload (i := 5) (x := a5) 5 rfl d_Session_init_37 ?_
  have h2 := kr_ob h
  clear h
  obtain ⟨S8, eS8, h⟩ := h2
  refine r_putI eS8 fk116 (Or.inl rfl) rfl d_Session_init_39 ?_
  cases h
  exact r_vret rfl d_Session_init_42
/-! KeyringCourt$Person.learn(II)V -/
def f_Person_learn (S : AS) (a0 : Option Nat) (a1 : Int32) (a2 : Int32) : Option AS :=
  (gI S 16 7 a0).bind fun v1 =>
  (pI S 16 7 a0 (v1 ||| ((1 : Int32) <<< (a1 &&& 31)))).bind fun S2 =>
  (gI S2 16 8 a0).bind fun v3 =>
  (pI S2 16 8 a0 (v3 ||| ((1 : Int32) <<< (a2 &&& 31)))).bind fun S4 =>
  some S4
set_option maxRecDepth 20000 in
set_option maxHeartbeats 4000000 in
theorem s_Person_learn {S : AS} {a0 : Option Nat} {a1 : Int32} {a2 : Int32} {r : AS} (h : f_Person_learn S a0 a1 a2 = some r) : kr_Con m_Person_learn 0 [va_rf a0, .int a1, .int a2] S (kr_eV r) := by
  refine kr_con rfl rfl (by decide +kernel) (by simp [lg_sl, kr_rfcat, kr_icat, m_Person_learn, mL]) ?_
  rw [show lv_args 0 [va_rf a0, .int a1, .int a2] = [(0, va_rf a0), (1, .int a1), (2, .int a2)] from by simp [lv_args, kr_rfcat, kr_icat]]
  unfold f_Person_learn at h
  refine r_aload_n (i := 0) (x := a0) 0 rfl d_Person_learn_0 ?_
  refine r_dup (kr_rfcat _) d_Person_learn_1 ?_
  have h2 := kr_ob h
  clear h
  obtain ⟨v1, ev1, h⟩ := h2
  refine r_getI ev1 fk163 rfl d_Person_learn_2 ?_
  refine r_iconst (v := (1 : Int32)) (by decide) d_Person_learn_5 ?_
  refine r_iload_n (i := 1) (x := a1) 1 rfl d_Person_learn_6 ?_
  refine r_ishl d_Person_learn_7 ?_
  refine r_ior d_Person_learn_8 ?_
  have h2 := kr_ob h
  clear h
  obtain ⟨S2, eS2, h⟩ := h2
  refine r_putI eS2 fk163 (Or.inl rfl) rfl d_Person_learn_9 ?_
  refine r_aload_n (i := 0) (x := a0) 0 rfl d_Person_learn_12 ?_
  refine r_dup (kr_rfcat _) d_Person_learn_13 ?_
  have h2 := kr_ob h
  clear h
  obtain ⟨v3, ev3, h⟩ := h2
  refine r_getI ev3 fk164 rfl d_Person_learn_14 ?_
  refine r_iconst (v := (1 : Int32)) (by decide) d_Person_learn_17 ?_
  refine r_iload_n (i := 2) (x := a2) 2 rfl d_Person_learn_18 ?_
  refine r_ishl d_Person_learn_19 ?_
  refine r_ior d_Person_learn_20 ?_
  have h2 := kr_ob h
  clear h
  obtain ⟨S4, eS4, h⟩ := h2
  refine r_putI eS4 fk164 (Or.inl rfl) rfl d_Person_learn_21 ?_
  cases h
  exact r_vret rfl d_Person_learn_24
/-! KeyringCourt$Person.takes(IZI)Z -/
def f_Person_takes_B74 (S : AS) (x0 : Option Nat) (x1 : Int32) (x3 : Int32) : Option (Int32 × AS) :=
  (gR S 16 2 x0).bind fun v1 =>
  (bI S v1 x1 (0 : Int32)).bind fun S2 =>
  if x1 = (2 : Int32) then
  (pI S2 16 3 x0 x3).bind fun S3 =>
  some ((1 : Int32), S3)
  else
  some ((1 : Int32), S2)
def f_Person_takes (S : AS) (a0 : Option Nat) (a1 : Int32) (a2 : Int32) (a3 : Int32) : Option (Int32 × AS) :=
  kr_b2 (f_K_isFactor S a1) fun v5 S4 =>
  if v5 = 0 then
  some ((0 : Int32), S4)
  else
  (gR S4 16 1 a0).bind fun v6 =>
  (aI S4 40 v6 a1).bind fun v7 =>
  if v7 = (1 : Int32) then
  if a2 = 0 then
  (gR S4 16 2 a0).bind fun v8 =>
  (aI S4 40 v8 a1).bind fun v9 =>
  (bI S4 v8 a1 (v9 + (1 : Int32))).bind fun S10 =>
  (gR S10 16 2 a0).bind fun v11 =>
  (aI S10 40 v11 a1).bind fun v12 =>
  if v12 < (5 : Int32) then
  some ((0 : Int32), S10)
  else
  (gR S10 16 1 a0).bind fun v13 =>
  (bI S10 v13 a1 (2 : Int32)).bind fun S14 =>
  some ((0 : Int32), S14)
  else
  if a1 = (2 : Int32) then
  (gI S4 16 3 a0).bind fun v15 =>
  if v15 < a3 then
  f_Person_takes_B74 S4 a0 a1 a3
  else
  (gR S4 16 1 a0).bind fun v16 =>
  (bI S4 v16 a1 (2 : Int32)).bind fun S17 =>
  some ((0 : Int32), S17)
  else
  f_Person_takes_B74 S4 a0 a1 a3
  else
  some ((0 : Int32), S4)
set_option maxRecDepth 20000 in
set_option maxHeartbeats 4000000 in
theorem s_Person_takes_B74 {S : AS} {x0 : Option Nat} {x1 : Int32} {x3 : Int32} {r : (Int32 × AS)} (h : f_Person_takes_B74 S x0 x1 x3 = some r) : kr_AW m_Person_takes 2 74 [(0, va_rf x0), (1, .int x1), (3, .int x3)] [] S (kr_eI r) := by
  unfold f_Person_takes_B74 at h
  refine r_aload_n (i := 0) (x := x0) 0 rfl d_Person_takes_74 ?_
  have h2 := kr_ob h
  clear h
  obtain ⟨v1, ev1, h⟩ := h2
  refine r_getR ev1 fk15 rfl d_Person_takes_75 ?_
  refine r_iload_n (i := 1) (x := x1) 1 rfl d_Person_takes_78 ?_
  refine r_iconst (v := (0 : Int32)) (by decide) d_Person_takes_79 ?_
  have h2 := kr_ob h
  clear h
  obtain ⟨S2, eS2, h⟩ := h2
  refine r_iastore eS2 d_Person_takes_80 ?_
  refine r_iload_n (i := 1) (x := x1) 1 rfl d_Person_takes_81 ?_
  refine r_iconst (v := (2 : Int32)) (by decide) d_Person_takes_82 ?_
  refine r_icmp_ne (tgt := 91) d_Person_takes_83 rfl (fun c => ?_) (fun c => ?_)
  · replace h := kr_ip c h
    refine r_aload_n (i := 0) (x := x0) 0 rfl d_Person_takes_86 ?_
    refine r_iload_n (i := 3) (x := x3) 2 rfl d_Person_takes_87 ?_
    have h2 := kr_ob h
    clear h
    obtain ⟨S3, eS3, h⟩ := h2
    refine r_putI eS3 fk136 (Or.inl rfl) rfl d_Person_takes_88 ?_
    refine r_iconst (v := (1 : Int32)) (by decide) d_Person_takes_91 ?_
    cases h
    exact r_zret rfl rfl d_Person_takes_92
  · replace h := kr_in_ c h
    refine r_iconst (v := (1 : Int32)) (by decide) d_Person_takes_91 ?_
    cases h
    exact r_zret rfl rfl d_Person_takes_92
set_option maxRecDepth 20000 in
set_option maxHeartbeats 4000000 in
theorem s_Person_takes {S : AS} {a0 : Option Nat} {a1 : Int32} {a2 : Int32} {a3 : Int32} {r : (Int32 × AS)} (h : f_Person_takes S a0 a1 a2 a3 = some r) : kr_Con m_Person_takes 2 [va_rf a0, .int a1, .int a2, .int a3] S (kr_eI r) := by
  refine kr_con rfl rfl (by decide +kernel) (by simp [lg_sl, kr_rfcat, kr_icat, m_Person_takes, mL]) ?_
  rw [show lv_args 0 [va_rf a0, .int a1, .int a2, .int a3] = [(0, va_rf a0), (1, .int a1), (2, .int a2), (3, .int a3)] from by simp [lv_args, kr_rfcat, kr_icat]]
  unfold f_Person_takes at h
  refine r_iload_n (i := 1) (x := a1) 1 rfl d_Person_takes_0 ?_
  have h2 := kr_ob2 h
  clear h
  obtain ⟨v5, S4, eS4, h⟩ := h2
  refine r_callSN (M1 := m_K_isFactor) (As := [.int a1]) (s_K_isFactor eS4) mok_K_isFactor rfl w570 w564 (by decide) (kr_c8 kr_c0) d_Person_takes_1 (kr_k1 ?_) kr_kn
  refine r_if_eq (tgt := 17) d_Person_takes_4 rfl (fun c => ?_) (fun c => ?_)
  · replace h := kr_ip c h
    refine r_iconst (v := (0 : Int32)) (by decide) d_Person_takes_17 ?_
    cases h
    exact r_zret rfl rfl d_Person_takes_18
  · replace h := kr_in_ c h
    refine r_aload_n (i := 0) (x := a0) 0 rfl d_Person_takes_7 ?_
    have h2 := kr_ob h
    clear h
    obtain ⟨v6, ev6, h⟩ := h2
    refine r_getR ev6 fk14 rfl d_Person_takes_8 ?_
    refine r_iload_n (i := 1) (x := a1) 1 rfl d_Person_takes_11 ?_
    have h2 := kr_ob h
    clear h
    obtain ⟨v7, ev7, h⟩ := h2
    refine r_iaload ev7 d_Person_takes_12 ?_
    refine r_iconst (v := (1 : Int32)) (by decide) d_Person_takes_13 ?_
    refine r_icmp_eq (tgt := 19) d_Person_takes_14 rfl (fun c => ?_) (fun c => ?_)
    · replace h := kr_ip c h
      refine r_iload_n (i := 2) (x := a2) 2 rfl d_Person_takes_19 ?_
      refine r_if_ne (tgt := 52) d_Person_takes_20 rfl (fun c => ?_) (fun c => ?_)
      · replace h := kr_ip c h
        refine r_aload_n (i := 0) (x := a0) 0 rfl d_Person_takes_23 ?_
        have h2 := kr_ob h
        clear h
        obtain ⟨v8, ev8, h⟩ := h2
        refine r_getR ev8 fk15 rfl d_Person_takes_24 ?_
        refine r_iload_n (i := 1) (x := a1) 1 rfl d_Person_takes_27 ?_
        refine r_dup2 rfl (kr_rfcat _) d_Person_takes_28 ?_
        have h2 := kr_ob h
        clear h
        obtain ⟨v9, ev9, h⟩ := h2
        refine r_iaload ev9 d_Person_takes_29 ?_
        refine r_iconst (v := (1 : Int32)) (by decide) d_Person_takes_30 ?_
        refine r_iadd d_Person_takes_31 ?_
        have h2 := kr_ob h
        clear h
        obtain ⟨S10, eS10, h⟩ := h2
        refine r_iastore eS10 d_Person_takes_32 ?_
        refine r_aload_n (i := 0) (x := a0) 0 rfl d_Person_takes_33 ?_
        have h2 := kr_ob h
        clear h
        obtain ⟨v11, ev11, h⟩ := h2
        refine r_getR ev11 fk15 rfl d_Person_takes_34 ?_
        refine r_iload_n (i := 1) (x := a1) 1 rfl d_Person_takes_37 ?_
        have h2 := kr_ob h
        clear h
        obtain ⟨v12, ev12, h⟩ := h2
        refine r_iaload ev12 d_Person_takes_38 ?_
        refine r_iconst (v := (5 : Int32)) (by decide) d_Person_takes_39 ?_
        refine r_icmp_lt (tgt := 50) d_Person_takes_40 rfl (fun c => ?_) (fun c => ?_)
        · replace h := kr_ip c h
          refine r_iconst (v := (0 : Int32)) (by decide) d_Person_takes_50 ?_
          cases h
          exact r_zret rfl rfl d_Person_takes_51
        · replace h := kr_in_ c h
          refine r_aload_n (i := 0) (x := a0) 0 rfl d_Person_takes_43 ?_
          have h2 := kr_ob h
          clear h
          obtain ⟨v13, ev13, h⟩ := h2
          refine r_getR ev13 fk14 rfl d_Person_takes_44 ?_
          refine r_iload_n (i := 1) (x := a1) 1 rfl d_Person_takes_47 ?_
          refine r_iconst (v := (2 : Int32)) (by decide) d_Person_takes_48 ?_
          have h2 := kr_ob h
          clear h
          obtain ⟨S14, eS14, h⟩ := h2
          refine r_iastore eS14 d_Person_takes_49 ?_
          refine r_iconst (v := (0 : Int32)) (by decide) d_Person_takes_50 ?_
          cases h
          exact r_zret rfl rfl d_Person_takes_51
      · replace h := kr_in_ c h
        refine r_iload_n (i := 1) (x := a1) 1 rfl d_Person_takes_52 ?_
        refine r_iconst (v := (2 : Int32)) (by decide) d_Person_takes_53 ?_
        refine r_icmp_ne (tgt := 74) d_Person_takes_54 rfl (fun c => ?_) (fun c => ?_)
        · replace h := kr_ip c h
          refine r_iload_n (i := 3) (x := a3) 3 rfl d_Person_takes_57 ?_
          refine r_aload_n (i := 0) (x := a0) 0 rfl d_Person_takes_58 ?_
          have h2 := kr_ob h
          clear h
          obtain ⟨v15, ev15, h⟩ := h2
          refine r_getI ev15 fk136 rfl d_Person_takes_59 ?_
          refine r_icmp_gt (tgt := 74) d_Person_takes_62 rfl (fun c => ?_) (fun c => ?_)
          · replace h := kr_ip c h
            exact kr_sub [0, 1, 3] rfl (s_Person_takes_B74 h)
          · replace h := kr_in_ c h
            refine r_aload_n (i := 0) (x := a0) 0 rfl d_Person_takes_65 ?_
            have h2 := kr_ob h
            clear h
            obtain ⟨v16, ev16, h⟩ := h2
            refine r_getR ev16 fk14 rfl d_Person_takes_66 ?_
            refine r_iload_n (i := 1) (x := a1) 1 rfl d_Person_takes_69 ?_
            refine r_iconst (v := (2 : Int32)) (by decide) d_Person_takes_70 ?_
            have h2 := kr_ob h
            clear h
            obtain ⟨S17, eS17, h⟩ := h2
            refine r_iastore eS17 d_Person_takes_71 ?_
            refine r_iconst (v := (0 : Int32)) (by decide) d_Person_takes_72 ?_
            cases h
            exact r_zret rfl rfl d_Person_takes_73
        · replace h := kr_in_ c h
          exact kr_sub [0, 1, 3] rfl (s_Person_takes_B74 h)
    · replace h := kr_in_ c h
      refine r_iconst (v := (0 : Int32)) (by decide) d_Person_takes_17 ?_
      cases h
      exact r_zret rfl rfl d_Person_takes_18
/-! KeyringCourt$Person.noteWrong(I)V -/
def f_Person_noteWrong (S : AS) (a0 : Option Nat) (a1 : Int32) : Option AS :=
  (gI S 16 5 a0).bind fun v1 =>
  (pI S 16 6 a0 v1).bind fun S2 =>
  (gI S2 16 4 a0).bind fun v3 =>
  (pI S2 16 5 a0 v3).bind fun S4 =>
  (pI S4 16 4 a0 a1).bind fun S5 =>
  some S5
set_option maxRecDepth 20000 in
set_option maxHeartbeats 4000000 in
theorem s_Person_noteWrong {S : AS} {a0 : Option Nat} {a1 : Int32} {r : AS} (h : f_Person_noteWrong S a0 a1 = some r) : kr_Con m_Person_noteWrong 0 [va_rf a0, .int a1] S (kr_eV r) := by
  refine kr_con rfl rfl (by decide +kernel) (by simp [lg_sl, kr_rfcat, kr_icat, m_Person_noteWrong, mL]) ?_
  rw [show lv_args 0 [va_rf a0, .int a1] = [(0, va_rf a0), (1, .int a1)] from by simp [lv_args, kr_rfcat, kr_icat]]
  unfold f_Person_noteWrong at h
  refine r_aload_n (i := 0) (x := a0) 0 rfl d_Person_noteWrong_0 ?_
  refine r_aload_n (i := 0) (x := a0) 0 rfl d_Person_noteWrong_1 ?_
  have h2 := kr_ob h
  clear h
  obtain ⟨v1, ev1, h⟩ := h2
  refine r_getI ev1 fk17 rfl d_Person_noteWrong_2 ?_
  have h2 := kr_ob h
  clear h
  obtain ⟨S2, eS2, h⟩ := h2
  refine r_putI eS2 fk18 (Or.inl rfl) rfl d_Person_noteWrong_5 ?_
  refine r_aload_n (i := 0) (x := a0) 0 rfl d_Person_noteWrong_8 ?_
  refine r_aload_n (i := 0) (x := a0) 0 rfl d_Person_noteWrong_9 ?_
  have h2 := kr_ob h
  clear h
  obtain ⟨v3, ev3, h⟩ := h2
  refine r_getI ev3 fk16 rfl d_Person_noteWrong_10 ?_
  have h2 := kr_ob h
  clear h
  obtain ⟨S4, eS4, h⟩ := h2
  refine r_putI eS4 fk17 (Or.inl rfl) rfl d_Person_noteWrong_13 ?_
  refine r_aload_n (i := 0) (x := a0) 0 rfl d_Person_noteWrong_16 ?_
  refine r_iload_n (i := 1) (x := a1) 1 rfl d_Person_noteWrong_17 ?_
  have h2 := kr_ob h
  clear h
  obtain ⟨S5, eS5, h⟩ := h2
  refine r_putI eS5 fk16 (Or.inl rfl) rfl d_Person_noteWrong_18 ?_
  cases h
  exact r_vret rfl d_Person_noteWrong_21
/-! KeyringCourt$Shown.show(II)V -/
def f_Shown_show (S : AS) (a0 : Option Nat) (a1 : Int32) (a2 : Int32) : Option AS :=
  kr_b2 (f_K_isFactor S a1) fun v2 S1 =>
  if v2 = 0 then
  some S1
  else
  (gR S1 20 0 a0).bind fun v3 =>
  (bI S1 v3 a1 a2).bind fun S4 =>
  some S4
set_option maxRecDepth 20000 in
set_option maxHeartbeats 4000000 in
theorem s_Shown_show {S : AS} {a0 : Option Nat} {a1 : Int32} {a2 : Int32} {r : AS} (h : f_Shown_show S a0 a1 a2 = some r) : kr_Con m_Shown_show 2 [va_rf a0, .int a1, .int a2] S (kr_eV r) := by
  refine kr_con rfl rfl (by decide +kernel) (by simp [lg_sl, kr_rfcat, kr_icat, m_Shown_show, mL]) ?_
  rw [show lv_args 0 [va_rf a0, .int a1, .int a2] = [(0, va_rf a0), (1, .int a1), (2, .int a2)] from by simp [lv_args, kr_rfcat, kr_icat]]
  unfold f_Shown_show at h
  refine r_iload_n (i := 1) (x := a1) 1 rfl d_Shown_show_0 ?_
  have h2 := kr_ob2 h
  clear h
  obtain ⟨v2, S1, eS1, h⟩ := h2
  refine r_callSN (M1 := m_K_isFactor) (As := [.int a1]) (s_K_isFactor eS1) mok_K_isFactor rfl w739 w564 (by decide) (kr_c8 kr_c0) d_Shown_show_1 (kr_k1 ?_) kr_kn
  refine r_if_eq (tgt := 14) d_Shown_show_4 rfl (fun c => ?_) (fun c => ?_)
  · replace h := kr_ip c h
    cases h
    exact r_vret rfl d_Shown_show_14
  · replace h := kr_in_ c h
    refine r_aload_n (i := 0) (x := a0) 0 rfl d_Shown_show_7 ?_
    have h2 := kr_ob h
    clear h
    obtain ⟨v3, ev3, h⟩ := h2
    refine r_getR ev3 fk141 rfl d_Shown_show_8 ?_
    refine r_iload_n (i := 1) (x := a1) 1 rfl d_Shown_show_11 ?_
    refine r_iload_n (i := 2) (x := a2) 2 rfl d_Shown_show_12 ?_
    have h2 := kr_ob h
    clear h
    obtain ⟨S4, eS4, h⟩ := h2
    refine r_iastore eS4 d_Shown_show_13 ?_
    cases h
    exact r_vret rfl d_Shown_show_14
/-! KeyringCourt$Flow.secondOf(I)I -/
def f_Flow_secondOf (S : AS) (a0 : Option Nat) (a1 : Int32) : Option (Int32 × AS) :=
  (kr_rv S 13 a0).bind fun u1 =>
  kr_b2 (f_Flow_isThere S a0 a1) fun v3 S2 =>
  if v3 = 0 then
  some ((0 : Int32), S2)
  else
  (gR S2 13 2 a0).bind fun v4 =>
  (aI S2 40 v4 a1).bind fun v5 =>
  some (v5, S2)
set_option maxRecDepth 20000 in
set_option maxHeartbeats 4000000 in
theorem s_Flow_secondOf {S : AS} {a0 : Option Nat} {a1 : Int32} {r : (Int32 × AS)} (h : f_Flow_secondOf S a0 a1 = some r) : kr_Con m_Flow_secondOf 1 [va_rf a0, .int a1] S (kr_eI r) := by
  refine kr_con rfl rfl (by decide +kernel) (by simp [lg_sl, kr_rfcat, kr_icat, m_Flow_secondOf, mL]) ?_
  rw [show lv_args 0 [va_rf a0, .int a1] = [(0, va_rf a0), (1, .int a1)] from by simp [lv_args, kr_rfcat, kr_icat]]
  unfold f_Flow_secondOf at h
  refine r_aload_n (i := 0) (x := a0) 0 rfl d_Flow_secondOf_0 ?_
  refine r_iload_n (i := 1) (x := a1) 1 rfl d_Flow_secondOf_1 ?_
  have h2 := kr_ob h
  clear h
  obtain ⟨⟨⟩, eu1, h⟩ := h2
  have h2 := kr_ob2 h
  clear h
  obtain ⟨v3, S2, eS2, h⟩ := h2
  refine r_callV (M1 := m_Flow_isThere) (κ := 13) (As := [.int a1]) eu1 (s_Flow_isThere eS2) mok_Flow_isThere rfl (by decide) rfl w617 w618 w619 (by decide) (kr_c8 kr_c0) d_Flow_secondOf_2 (kr_k1 ?_) kr_kn
  refine r_if_eq (tgt := 17) d_Flow_secondOf_5 rfl (fun c => ?_) (fun c => ?_)
  · replace h := kr_ip c h
    refine r_iconst (v := (0 : Int32)) (by decide) d_Flow_secondOf_17 ?_
    cases h
    exact r_iret rfl d_Flow_secondOf_18
  · replace h := kr_in_ c h
    refine r_aload_n (i := 0) (x := a0) 0 rfl d_Flow_secondOf_8 ?_
    have h2 := kr_ob h
    clear h
    obtain ⟨v4, ev4, h⟩ := h2
    refine r_getR ev4 fk5 rfl d_Flow_secondOf_9 ?_
    refine r_iload_n (i := 1) (x := a1) 1 rfl d_Flow_secondOf_12 ?_
    have h2 := kr_ob h
    clear h
    obtain ⟨v5, ev5, h⟩ := h2
    refine r_iaload ev5 d_Flow_secondOf_13 ?_
    refine r_goto (tgt := 18) d_Flow_secondOf_14 rfl ?_
    cases h
    exact r_iret rfl d_Flow_secondOf_18
/-! KeyringCourt$Audit.entryAt(I)I -/
def f_Audit_entryAt (S : AS) (a0 : Option Nat) (a1 : Int32) : Option (Int32 × AS) :=
  if a1 < 0 then
  some ((0 : Int32), S)
  else
  if (1024 : Int32) ≤ a1 then
  some ((0 : Int32), S)
  else
  (gR S 12 0 a0).bind fun v1 =>
  (aI S 40 v1 a1).bind fun v2 =>
  some (v2, S)
set_option maxRecDepth 20000 in
set_option maxHeartbeats 4000000 in
theorem s_Audit_entryAt {S : AS} {a0 : Option Nat} {a1 : Int32} {r : (Int32 × AS)} (h : f_Audit_entryAt S a0 a1 = some r) : kr_Con m_Audit_entryAt 0 [va_rf a0, .int a1] S (kr_eI r) := by
  refine kr_con rfl rfl (by decide +kernel) (by simp [lg_sl, kr_rfcat, kr_icat, m_Audit_entryAt, mL]) ?_
  rw [show lv_args 0 [va_rf a0, .int a1] = [(0, va_rf a0), (1, .int a1)] from by simp [lv_args, kr_rfcat, kr_icat]]
  unfold f_Audit_entryAt at h
  refine r_iload_n (i := 1) (x := a1) 1 rfl d_Audit_entryAt_0 ?_
  refine r_if_lt (tgt := 20) d_Audit_entryAt_1 rfl (fun c => ?_) (fun c => ?_)
  · replace h := kr_ip c h
    refine r_iconst (v := (0 : Int32)) (by decide) d_Audit_entryAt_20 ?_
    cases h
    exact r_iret rfl d_Audit_entryAt_21
  · replace h := kr_in_ c h
    refine r_iload_n (i := 1) (x := a1) 1 rfl d_Audit_entryAt_4 ?_
    refine r_sipush (v := (1024 : Int32)) (by decide) d_Audit_entryAt_5 ?_
    refine r_icmp_ge (tgt := 20) d_Audit_entryAt_8 rfl (fun c => ?_) (fun c => ?_)
    · replace h := kr_ip c h
      refine r_iconst (v := (0 : Int32)) (by decide) d_Audit_entryAt_20 ?_
      cases h
      exact r_iret rfl d_Audit_entryAt_21
    · replace h := kr_in_ c h
      refine r_aload_n (i := 0) (x := a0) 0 rfl d_Audit_entryAt_11 ?_
      have h2 := kr_ob h
      clear h
      obtain ⟨v1, ev1, h⟩ := h2
      refine r_getR ev1 fk0 rfl d_Audit_entryAt_12 ?_
      refine r_iload_n (i := 1) (x := a1) 1 rfl d_Audit_entryAt_15 ?_
      have h2 := kr_ob h
      clear h
      obtain ⟨v2, ev2, h⟩ := h2
      refine r_iaload ev2 d_Audit_entryAt_16 ?_
      refine r_goto (tgt := 21) d_Audit_entryAt_17 rfl ?_
      cases h
      exact r_iret rfl d_Audit_entryAt_21
/-! KeyringCourt$Audit.has(II)Z -/
def f_Audit_has_C2 (k2 : AS → Option Nat → Int32 → Int32 → Int32 → Option (Int32 × AS)) (S : AS) (x0 : Option Nat) (x1 : Int32) (x2 : Int32) (x3 : Int32) : Option (Int32 × AS) :=
  (gI S 12 2 x0).bind fun v1 =>
  if v1 ≤ x3 then
  some ((0 : Int32), S)
  else
  (kr_rv S 12 x0).bind fun u2 =>
  kr_b2 (f_Audit_entryAt S x0 x3) fun v4 S3 =>
  if v4 = (((1000 : Int32) * x1) + x2) then
  some ((1 : Int32), S3)
  else
  (some (x3 + (1 : Int32))).bind fun i5 =>
  k2 S3 x0 x1 x2 i5
def f_Audit_has_L2 : Nat → AS → Option Nat → Int32 → Int32 → Int32 → Option (Int32 × AS)
  | 0, S, x0, x1, x2, x3 => none
  | n + 1, S, x0, x1, x2, x3 => f_Audit_has_C2 (f_Audit_has_L2 n) S x0 x1 x2 x3
def f_Audit_has (S : AS) (a0 : Option Nat) (a1 : Int32) (a2 : Int32) : Option (Int32 × AS) :=
  f_Audit_has_L2 kr_FU S a0 a1 a2 (0 : Int32)
set_option maxRecDepth 20000 in
set_option maxHeartbeats 4000000 in
theorem s_Audit_has_C2 {k2 : AS → Option Nat → Int32 → Int32 → Int32 → Option (Int32 × AS)} (hk2 : ∀ {S : AS} {x0 : Option Nat} {x1 : Int32} {x2 : Int32} {x3 : Int32} {r : (Int32 × AS)}, k2 S x0 x1 x2 x3 = some r → kr_AW m_Audit_has 1 2 [(0, va_rf x0), (1, .int x1), (2, .int x2), (3, .int x3)] [] S (kr_eI r)) {S : AS} {x0 : Option Nat} {x1 : Int32} {x2 : Int32} {x3 : Int32} {r : (Int32 × AS)} (h : f_Audit_has_C2 k2 S x0 x1 x2 x3 = some r) : kr_AW m_Audit_has 1 2 [(0, va_rf x0), (1, .int x1), (2, .int x2), (3, .int x3)] [] S (kr_eI r) := by
  unfold f_Audit_has_C2 at h
  refine r_iload_n (i := 3) (x := x3) 3 rfl d_Audit_has_2 ?_
  refine r_aload_n (i := 0) (x := x0) 0 rfl d_Audit_has_3 ?_
  have h2 := kr_ob h
  clear h
  obtain ⟨v1, ev1, h⟩ := h2
  refine r_getI ev1 fk112 rfl d_Audit_has_4 ?_
  refine r_icmp_ge (tgt := 33) d_Audit_has_7 rfl (fun c => ?_) (fun c => ?_)
  · replace h := kr_ip c h
    refine r_iconst (v := (0 : Int32)) (by decide) d_Audit_has_33 ?_
    cases h
    exact r_zret rfl rfl d_Audit_has_34
  · replace h := kr_in_ c h
    refine r_aload_n (i := 0) (x := x0) 0 rfl d_Audit_has_10 ?_
    refine r_iload_n (i := 3) (x := x3) 3 rfl d_Audit_has_11 ?_
    have h2 := kr_ob h
    clear h
    obtain ⟨⟨⟩, eu2, h⟩ := h2
    have h2 := kr_ob2 h
    clear h
    obtain ⟨v4, S3, eS3, h⟩ := h2
    refine r_callV (M1 := m_Audit_entryAt) (κ := 12) (As := [.int x3]) eu2 (s_Audit_entryAt eS3) mok_Audit_entryAt rfl (by decide) rfl w1006 w1007 w1008 (by decide) (kr_c8 kr_c0) d_Audit_has_12 (kr_k1 ?_) kr_kn
    refine r_sipush (v := (1000 : Int32)) (by decide) d_Audit_has_15 ?_
    refine r_iload_n (i := 1) (x := x1) 1 rfl d_Audit_has_18 ?_
    refine r_imul d_Audit_has_19 ?_
    refine r_iload_n (i := 2) (x := x2) 2 rfl d_Audit_has_20 ?_
    refine r_iadd d_Audit_has_21 ?_
    refine r_icmp_ne (tgt := 27) d_Audit_has_22 rfl (fun c => ?_) (fun c => ?_)
    · replace h := kr_ip c h
      refine r_iconst (v := (1 : Int32)) (by decide) d_Audit_has_25 ?_
      cases h
      exact r_zret rfl rfl d_Audit_has_26
    · replace h := kr_in_ c h
      have h2 := kr_ob h
      clear h
      obtain ⟨i5, ei5, h⟩ := h2
      refine r_iinc (v := i5) (lv' := [(3, .int i5), (0, va_rf x0), (1, .int x1), (2, .int x2)]) 3 rfl (kr_inc (by decide) ei5) (by decide) rfl d_Audit_has_27 ?_
      refine r_goto (tgt := 2) d_Audit_has_30 rfl ?_
      exact kr_sub [1, 2, 3, 0] rfl (hk2 h)
theorem s_Audit_has_L2 (n : Nat) : ∀ {S : AS} {x0 : Option Nat} {x1 : Int32} {x2 : Int32} {x3 : Int32} {r : (Int32 × AS)}, f_Audit_has_L2 n S x0 x1 x2 x3 = some r → kr_AW m_Audit_has 1 2 [(0, va_rf x0), (1, .int x1), (2, .int x2), (3, .int x3)] [] S (kr_eI r) := by
  induction n with
  | zero => intro S x0 x1 x2 x3 r h; cases h
  | succ n ih => intro S x0 x1 x2 x3 r h; exact s_Audit_has_C2 (fun {_} {_} {_} {_} {_} {_} h => ih h) h
set_option maxRecDepth 20000 in
set_option maxHeartbeats 4000000 in
theorem s_Audit_has {S : AS} {a0 : Option Nat} {a1 : Int32} {a2 : Int32} {r : (Int32 × AS)} (h : f_Audit_has S a0 a1 a2 = some r) : kr_Con m_Audit_has 1 [va_rf a0, .int a1, .int a2] S (kr_eI r) := by
  refine kr_con rfl rfl (by decide +kernel) (by simp [lg_sl, kr_rfcat, kr_icat, m_Audit_has, mL]) ?_
  rw [show lv_args 0 [va_rf a0, .int a1, .int a2] = [(0, va_rf a0), (1, .int a1), (2, .int a2)] from by simp [lv_args, kr_rfcat, kr_icat]]
  unfold f_Audit_has at h
  refine r_iconst (v := (0 : Int32)) (by decide) d_Audit_has_0 ?_
  refine r_istore_n (i := 3) (lv' := [(3, .int (0 : Int32)), (0, va_rf a0), (1, .int a1), (2, .int a2)]) (by decide) rfl d_Audit_has_1 ?_
  exact kr_sub [1, 2, 3, 0] rfl (s_Audit_has_L2 kr_FU h)
/-! KeyringCourt$Session.levelAt(I)I -/
def f_Session_levelAt (S : AS) (a0 : Option Nat) (a1 : Int32) : Option (Int32 × AS) :=
  (gR S 19 3 a0).bind fun v1 =>
  (kr_rv S 20 v1).bind fun u2 =>
  kr_b2 (f_Shown_levelSince S v1 (a1 - (120 : Int32))) fun v4 S3 =>
  some (v4, S3)
set_option maxRecDepth 20000 in
set_option maxHeartbeats 4000000 in
theorem s_Session_levelAt {S : AS} {a0 : Option Nat} {a1 : Int32} {r : (Int32 × AS)} (h : f_Session_levelAt S a0 a1 = some r) : kr_Con m_Session_levelAt 4 [va_rf a0, .int a1] S (kr_eI r) := by
  refine kr_con rfl rfl (by decide +kernel) (by simp [lg_sl, kr_rfcat, kr_icat, m_Session_levelAt, mL]) ?_
  rw [show lv_args 0 [va_rf a0, .int a1] = [(0, va_rf a0), (1, .int a1)] from by simp [lv_args, kr_rfcat, kr_icat]]
  unfold f_Session_levelAt at h
  refine r_aload_n (i := 0) (x := a0) 0 rfl d_Session_levelAt_0 ?_
  have h2 := kr_ob h
  clear h
  obtain ⟨v1, ev1, h⟩ := h2
  refine r_getR ev1 fk162 rfl d_Session_levelAt_1 ?_
  refine r_iload_n (i := 1) (x := a1) 1 rfl d_Session_levelAt_4 ?_
  refine r_bipush (v := (120 : Int32)) (by decide) d_Session_levelAt_5 ?_
  refine r_isub d_Session_levelAt_7 ?_
  have h2 := kr_ob h
  clear h
  obtain ⟨⟨⟩, eu2, h⟩ := h2
  have h2 := kr_ob2 h
  clear h
  obtain ⟨v4, S3, eS3, h⟩ := h2
  refine r_callV (M1 := m_Shown_levelSince) (κ := 20) (As := [.int (a1 - (120 : Int32))]) eu2 (s_Shown_levelSince eS3) mok_Shown_levelSince rfl (by decide) rfl w1021 w857 w858 (by decide) (kr_c8 kr_c0) d_Session_levelAt_8 (kr_k1 ?_) kr_kn
  cases h
  exact r_iret rfl d_Session_levelAt_11
/-! KeyringCourt$Grant.<init>(LKeyringCourt$Session;IIII)V -/
def f_Grant_init (S : AS) (a0 : Option Nat) (a1 : Option Nat) (a2 : Int32) (a3 : Int32) (a4 : Int32) (a5 : Int32) : Option AS :=
  (a0).bind fun k1 =>
  (pI S 14 5 (some k1) (-1 : Int32)).bind fun S2 =>
  (pI S2 14 9 (some k1) (-1 : Int32)).bind fun S3 =>
  (pR S3 14 0 (some k1) a1).bind fun S4 =>
  (pI S4 14 1 (some k1) a2).bind fun S5 =>
  (pI S5 14 2 (some k1) a3).bind fun S6 =>
  (pI S6 14 3 (some k1) a4).bind fun S7 =>
  (pI S7 14 4 (some k1) a5).bind fun S8 =>
  some S8
set_option maxRecDepth 20000 in
set_option maxHeartbeats 4000000 in
theorem s_Grant_init {S : AS} {a0 : Option Nat} {a1 : Option Nat} {a2 : Int32} {a3 : Int32} {a4 : Int32} {a5 : Int32} {r : AS} (h : f_Grant_init S a0 a1 a2 a3 a4 a5 = some r) : kr_Con m_Grant_init 1 [va_rf a0, va_rf a1, .int a2, .int a3, .int a4, .int a5] S (kr_eV r) := by
  refine kr_con rfl rfl (by decide +kernel) (by simp [lg_sl, kr_rfcat, kr_icat, m_Grant_init, mL]) ?_
  rw [show lv_args 0 [va_rf a0, va_rf a1, .int a2, .int a3, .int a4, .int a5] = [(0, va_rf a0), (1, va_rf a1), (2, .int a2), (3, .int a3), (4, .int a4), (5, .int a5)] from by simp [lv_args, kr_rfcat, kr_icat]]
  unfold f_Grant_init at h
  refine r_aload_n (i := 0) (x := a0) 0 rfl d_Grant_init_0 ?_
  have h2 := kr_ob h
  clear h
  obtain ⟨k1, ek1, h⟩ := h2
  subst ek1
  refine r_objInit w1086 w110 w111 (by decide) (kr_c8 kr_c0) d_Grant_init_1 ?_
  refine r_aload_n (i := 0) (x := (some k1)) 0 rfl d_Grant_init_4 ?_
  refine r_iconst (v := (-1 : Int32)) (by decide) d_Grant_init_5 ?_
  have h2 := kr_ob h
  clear h
  obtain ⟨S2, eS2, h⟩ := h2
  refine r_putI eS2 fk180 (Or.inl rfl) rfl d_Grant_init_6 ?_
  refine r_aload_n (i := 0) (x := (some k1)) 0 rfl d_Grant_init_9 ?_
  refine r_iconst (v := (-1 : Int32)) (by decide) d_Grant_init_10 ?_
  have h2 := kr_ob h
  clear h
  obtain ⟨S3, eS3, h⟩ := h2
  refine r_putI eS3 fk181 (Or.inl rfl) rfl d_Grant_init_11 ?_
  refine r_aload_n (i := 0) (x := (some k1)) 0 rfl d_Grant_init_14 ?_
  refine r_aload_n (i := 1) (x := a1) 1 rfl d_Grant_init_15 ?_
  have h2 := kr_ob h
  clear h
  obtain ⟨S4, eS4, h⟩ := h2
  refine r_putR eS4 fk182 (Or.inr ⟨rfl, rfl, rfl, _, w1087, rfl⟩) rfl d_Grant_init_16 ?_
  refine r_aload_n (i := 0) (x := (some k1)) 0 rfl d_Grant_init_19 ?_
  refine r_iload_n (i := 2) (x := a2) 2 rfl d_Grant_init_20 ?_
  have h2 := kr_ob h
  clear h
  obtain ⟨S5, eS5, h⟩ := h2
  refine r_putI eS5 fk183 (Or.inr ⟨rfl, rfl, rfl, _, w1089, rfl⟩) rfl d_Grant_init_21 ?_
  refine r_aload_n (i := 0) (x := (some k1)) 0 rfl d_Grant_init_24 ?_
  refine r_iload_n (i := 3) (x := a3) 3 rfl d_Grant_init_25 ?_
  have h2 := kr_ob h
  clear h
  obtain ⟨S6, eS6, h⟩ := h2
  refine r_putI eS6 fk184 (Or.inr ⟨rfl, rfl, rfl, _, w1091, rfl⟩) rfl d_Grant_init_26 ?_
  refine r_aload_n (i := 0) (x := (some k1)) 0 rfl d_Grant_init_29 ?_
  refine r_iload (i := 4) (x := a4) 4 rfl d_Grant_init_30 ?_
  have h2 := kr_ob h
  clear h
  obtain ⟨S7, eS7, h⟩ := h2
  refine r_putI eS7 fk185 (Or.inr ⟨rfl, rfl, rfl, _, w1093, rfl⟩) rfl d_Grant_init_32 ?_
  refine r_aload_n (i := 0) (x := (some k1)) 0 rfl d_Grant_init_35 ?_
  refine r_iload (i := 5) (x := a5) 5 rfl d_Grant_init_36 ?_
  have h2 := kr_ob h
  clear h
  obtain ⟨S8, eS8, h⟩ := h2
  refine r_putI eS8 fk186 (Or.inr ⟨rfl, rfl, rfl, _, w1095, rfl⟩) rfl d_Grant_init_38 ?_
  cases h
  exact r_vret rfl d_Grant_init_41
/-! KeyringCourt$Token.<init>(LKeyringCourt$Grant;IIIIII)V -/
def f_Token_init (S : AS) (a0 : Option Nat) (a1 : Option Nat) (a2 : Int32) (a3 : Int32) (a4 : Int32) (a5 : Int32) (a6 : Int32) (a7 : Int32) : Option AS :=
  (a0).bind fun k1 =>
  (pR S 21 0 (some k1) a1).bind fun S2 =>
  (pI S2 21 1 (some k1) a2).bind fun S3 =>
  (pI S3 21 2 (some k1) a3).bind fun S4 =>
  (pI S4 21 3 (some k1) a4).bind fun S5 =>
  (pI S5 21 4 (some k1) a5).bind fun S6 =>
  (pI S6 21 5 (some k1) a6).bind fun S7 =>
  (pI S7 21 6 (some k1) a7).bind fun S8 =>
  some S8
set_option maxRecDepth 20000 in
set_option maxHeartbeats 4000000 in
theorem s_Token_init {S : AS} {a0 : Option Nat} {a1 : Option Nat} {a2 : Int32} {a3 : Int32} {a4 : Int32} {a5 : Int32} {a6 : Int32} {a7 : Int32} {r : AS} (h : f_Token_init S a0 a1 a2 a3 a4 a5 a6 a7 = some r) : kr_Con m_Token_init 1 [va_rf a0, va_rf a1, .int a2, .int a3, .int a4, .int a5, .int a6, .int a7] S (kr_eV r) := by
  refine kr_con rfl rfl (by decide +kernel) (by simp [lg_sl, kr_rfcat, kr_icat, m_Token_init, mL]) ?_
  rw [show lv_args 0 [va_rf a0, va_rf a1, .int a2, .int a3, .int a4, .int a5, .int a6, .int a7] = [(0, va_rf a0), (1, va_rf a1), (2, .int a2), (3, .int a3), (4, .int a4), (5, .int a5), (6, .int a6), (7, .int a7)] from by simp [lv_args, kr_rfcat, kr_icat]]
  unfold f_Token_init at h
  refine r_aload_n (i := 0) (x := a0) 0 rfl d_Token_init_0 ?_
  have h2 := kr_ob h
  clear h
  obtain ⟨k1, ek1, h⟩ := h2
  subst ek1
  refine r_objInit w1153 w110 w111 (by decide) (kr_c8 kr_c0) d_Token_init_1 ?_
  refine r_aload_n (i := 0) (x := (some k1)) 0 rfl d_Token_init_4 ?_
  refine r_aload_n (i := 1) (x := a1) 1 rfl d_Token_init_5 ?_
  have h2 := kr_ob h
  clear h
  obtain ⟨S2, eS2, h⟩ := h2
  refine r_putR eS2 fk188 (Or.inr ⟨rfl, rfl, rfl, _, w1154, rfl⟩) rfl d_Token_init_6 ?_
  refine r_aload_n (i := 0) (x := (some k1)) 0 rfl d_Token_init_9 ?_
  refine r_iload_n (i := 2) (x := a2) 2 rfl d_Token_init_10 ?_
  have h2 := kr_ob h
  clear h
  obtain ⟨S3, eS3, h⟩ := h2
  refine r_putI eS3 fk189 (Or.inr ⟨rfl, rfl, rfl, _, w1156, rfl⟩) rfl d_Token_init_11 ?_
  refine r_aload_n (i := 0) (x := (some k1)) 0 rfl d_Token_init_14 ?_
  refine r_iload_n (i := 3) (x := a3) 3 rfl d_Token_init_15 ?_
  have h2 := kr_ob h
  clear h
  obtain ⟨S4, eS4, h⟩ := h2
  refine r_putI eS4 fk190 (Or.inr ⟨rfl, rfl, rfl, _, w1158, rfl⟩) rfl d_Token_init_16 ?_
  refine r_aload_n (i := 0) (x := (some k1)) 0 rfl d_Token_init_19 ?_
  refine r_iload (i := 4) (x := a4) 4 rfl d_Token_init_20 ?_
  have h2 := kr_ob h
  clear h
  obtain ⟨S5, eS5, h⟩ := h2
  refine r_putI eS5 fk191 (Or.inr ⟨rfl, rfl, rfl, _, w1160, rfl⟩) rfl d_Token_init_22 ?_
  refine r_aload_n (i := 0) (x := (some k1)) 0 rfl d_Token_init_25 ?_
  refine r_iload (i := 5) (x := a5) 5 rfl d_Token_init_26 ?_
  have h2 := kr_ob h
  clear h
  obtain ⟨S6, eS6, h⟩ := h2
  refine r_putI eS6 fk192 (Or.inr ⟨rfl, rfl, rfl, _, w1162, rfl⟩) rfl d_Token_init_28 ?_
  refine r_aload_n (i := 0) (x := (some k1)) 0 rfl d_Token_init_31 ?_
  refine r_iload (i := 6) (x := a6) 6 rfl d_Token_init_32 ?_
  have h2 := kr_ob h
  clear h
  obtain ⟨S7, eS7, h⟩ := h2
  refine r_putI eS7 fk193 (Or.inr ⟨rfl, rfl, rfl, _, w1164, rfl⟩) rfl d_Token_init_34 ?_
  refine r_aload_n (i := 0) (x := (some k1)) 0 rfl d_Token_init_37 ?_
  refine r_iload (i := 7) (x := a7) 7 rfl d_Token_init_38 ?_
  have h2 := kr_ob h
  clear h
  obtain ⟨S8, eS8, h⟩ := h2
  refine r_putI eS8 fk194 (Or.inr ⟨rfl, rfl, rfl, _, w1166, rfl⟩) rfl d_Token_init_40 ?_
  cases h
  exact r_vret rfl d_Token_init_43
/-! KeyringCourt$Keyring.publishNext()I -/
def f_Keyring_publishNext (S : AS) (a0 : Option Nat) : Option (Int32 × AS) :=
  (gI S 15 4 a0).bind fun v1 =>
  (gI S 15 0 a0).bind fun v2 =>
  (pI S 15 4 a0 (v1 ||| ((1 : Int32) <<< (v2 &&& 31)))).bind fun S3 =>
  (gI S3 15 0 a0).bind fun v4 =>
  (pI S3 15 0 a0 (v4 + (1 : Int32))).bind fun S5 =>
  (gI S5 15 0 a0).bind fun v6 =>
  some (v6 - (1 : Int32), S5)
set_option maxRecDepth 20000 in
set_option maxHeartbeats 4000000 in
theorem s_Keyring_publishNext {S : AS} {a0 : Option Nat} {r : (Int32 × AS)} (h : f_Keyring_publishNext S a0 = some r) : kr_Con m_Keyring_publishNext 0 [va_rf a0] S (kr_eI r) := by
  refine kr_con rfl rfl (by decide +kernel) (by simp [lg_sl, kr_rfcat, kr_icat, m_Keyring_publishNext, mL]) ?_
  rw [show lv_args 0 [va_rf a0] = [(0, va_rf a0)] from by simp [lv_args, kr_rfcat, kr_icat]]
  unfold f_Keyring_publishNext at h
  refine r_aload_n (i := 0) (x := a0) 0 rfl d_Keyring_publishNext_0 ?_
  refine r_dup (kr_rfcat _) d_Keyring_publishNext_1 ?_
  have h2 := kr_ob h
  clear h
  obtain ⟨v1, ev1, h⟩ := h2
  refine r_getI ev1 fk12 rfl d_Keyring_publishNext_2 ?_
  refine r_iconst (v := (1 : Int32)) (by decide) d_Keyring_publishNext_5 ?_
  refine r_aload_n (i := 0) (x := a0) 0 rfl d_Keyring_publishNext_6 ?_
  have h2 := kr_ob h
  clear h
  obtain ⟨v2, ev2, h⟩ := h2
  refine r_getI ev2 fk10 rfl d_Keyring_publishNext_7 ?_
  refine r_ishl d_Keyring_publishNext_10 ?_
  refine r_ior d_Keyring_publishNext_11 ?_
  have h2 := kr_ob h
  clear h
  obtain ⟨S3, eS3, h⟩ := h2
  refine r_putI eS3 fk12 (Or.inl rfl) rfl d_Keyring_publishNext_12 ?_
  refine r_aload_n (i := 0) (x := a0) 0 rfl d_Keyring_publishNext_15 ?_
  refine r_dup (kr_rfcat _) d_Keyring_publishNext_16 ?_
  have h2 := kr_ob h
  clear h
  obtain ⟨v4, ev4, h⟩ := h2
  refine r_getI ev4 fk10 rfl d_Keyring_publishNext_17 ?_
  refine r_iconst (v := (1 : Int32)) (by decide) d_Keyring_publishNext_20 ?_
  refine r_iadd d_Keyring_publishNext_21 ?_
  have h2 := kr_ob h
  clear h
  obtain ⟨S5, eS5, h⟩ := h2
  refine r_putI eS5 fk10 (Or.inl rfl) rfl d_Keyring_publishNext_22 ?_
  refine r_aload_n (i := 0) (x := a0) 0 rfl d_Keyring_publishNext_25 ?_
  have h2 := kr_ob h
  clear h
  obtain ⟨v6, ev6, h⟩ := h2
  refine r_getI ev6 fk10 rfl d_Keyring_publishNext_26 ?_
  refine r_iconst (v := (1 : Int32)) (by decide) d_Keyring_publishNext_29 ?_
  refine r_isub d_Keyring_publishNext_30 ?_
  cases h
  exact r_iret rfl d_Keyring_publishNext_31
/-! KeyringCourt$Keyring.publishWaiting(I)I -/
def f_Keyring_publishWaiting (S : AS) (a0 : Option Nat) (a1 : Int32) : Option (Int32 × AS) :=
  (kr_rv S 15 a0).bind fun u1 =>
  kr_b2 (f_Keyring_publishNext S a0) fun v3 S2 =>
  (pI S2 15 2 a0 v3).bind fun S4 =>
  (pI S4 15 3 a0 (a1 + (5 : Int32))).bind fun S5 =>
  (gI S5 15 2 a0).bind fun v6 =>
  some (v6, S5)
set_option maxRecDepth 20000 in
set_option maxHeartbeats 4000000 in
theorem s_Keyring_publishWaiting {S : AS} {a0 : Option Nat} {a1 : Int32} {r : (Int32 × AS)} (h : f_Keyring_publishWaiting S a0 a1 = some r) : kr_Con m_Keyring_publishWaiting 1 [va_rf a0, .int a1] S (kr_eI r) := by
  refine kr_con rfl rfl (by decide +kernel) (by simp [lg_sl, kr_rfcat, kr_icat, m_Keyring_publishWaiting, mL]) ?_
  rw [show lv_args 0 [va_rf a0, .int a1] = [(0, va_rf a0), (1, .int a1)] from by simp [lv_args, kr_rfcat, kr_icat]]
  unfold f_Keyring_publishWaiting at h
  refine r_aload_n (i := 0) (x := a0) 0 rfl d_Keyring_publishWaiting_0 ?_
  refine r_aload_n (i := 0) (x := a0) 0 rfl d_Keyring_publishWaiting_1 ?_
  have h2 := kr_ob h
  clear h
  obtain ⟨⟨⟩, eu1, h⟩ := h2
  have h2 := kr_ob2 h
  clear h
  obtain ⟨v3, S2, eS2, h⟩ := h2
  refine r_callV (M1 := m_Keyring_publishNext) (κ := 15) (As := []) eu1 (s_Keyring_publishNext eS2) mok_Keyring_publishNext rfl (by decide) rfl w1245 w1247 w34 (by decide) (kr_c8 (kr_cR kr_c0)) d_Keyring_publishWaiting_2 (kr_k1 ?_) kr_kn
  have h2 := kr_ob h
  clear h
  obtain ⟨S4, eS4, h⟩ := h2
  refine r_putI eS4 fk11 (Or.inl rfl) rfl d_Keyring_publishWaiting_5 ?_
  refine r_aload_n (i := 0) (x := a0) 0 rfl d_Keyring_publishWaiting_8 ?_
  refine r_iload_n (i := 1) (x := a1) 1 rfl d_Keyring_publishWaiting_9 ?_
  refine r_iconst (v := (5 : Int32)) (by decide) d_Keyring_publishWaiting_10 ?_
  refine r_iadd d_Keyring_publishWaiting_11 ?_
  have h2 := kr_ob h
  clear h
  obtain ⟨S5, eS5, h⟩ := h2
  refine r_putI eS5 fk110 (Or.inl rfl) rfl d_Keyring_publishWaiting_12 ?_
  refine r_aload_n (i := 0) (x := a0) 0 rfl d_Keyring_publishWaiting_15 ?_
  have h2 := kr_ob h
  clear h
  obtain ⟨v6, ev6, h⟩ := h2
  refine r_getI ev6 fk11 rfl d_Keyring_publishWaiting_16 ?_
  cases h
  exact r_iret rfl d_Keyring_publishWaiting_19
/-! KeyringCourt$Keyring.replaceSigner()V -/
def f_Keyring_replaceSigner_B37 (S : AS) (x0 : Option Nat) (y0 : Option Nat) (y1 : Int32) : Option AS :=
  (pI S 15 1 y0 y1).bind fun S1 =>
  (pI S1 15 2 x0 (-1 : Int32)).bind fun S2 =>
  some S2
def f_Keyring_replaceSigner (S : AS) (a0 : Option Nat) : Option AS :=
  (gI S 15 4 a0).bind fun v3 =>
  (gI S 15 1 a0).bind fun v4 =>
  (pI S 15 4 a0 (v3 &&& (((1 : Int32) <<< (v4 &&& 31)) ^^^ (-1 : Int32)))).bind fun S5 =>
  (gI S5 15 2 a0).bind fun v6 =>
  if v6 = (-1 : Int32) then
  (kr_rv S5 15 a0).bind fun u7 =>
  kr_b2 (f_Keyring_publishNext S5 a0) fun v9 S8 =>
  f_Keyring_replaceSigner_B37 S8 a0 a0 v9
  else
  (gI S5 15 2 a0).bind fun v10 =>
  f_Keyring_replaceSigner_B37 S5 a0 a0 v10
set_option maxRecDepth 20000 in
set_option maxHeartbeats 4000000 in
theorem s_Keyring_replaceSigner_B37 {S : AS} {x0 : Option Nat} {y0 : Option Nat} {y1 : Int32} {r : AS} (h : f_Keyring_replaceSigner_B37 S x0 y0 y1 = some r) : kr_AW m_Keyring_replaceSigner 1 37 [(0, va_rf x0)] [.int y1, va_rf y0] S (kr_eV r) := by
  unfold f_Keyring_replaceSigner_B37 at h
  have h2 := kr_ob h
  clear h
  obtain ⟨S1, eS1, h⟩ := h2
  refine r_putI eS1 fk111 (Or.inl rfl) rfl d_Keyring_replaceSigner_37 ?_
  refine r_aload_n (i := 0) (x := x0) 0 rfl d_Keyring_replaceSigner_40 ?_
  refine r_iconst (v := (-1 : Int32)) (by decide) d_Keyring_replaceSigner_41 ?_
  have h2 := kr_ob h
  clear h
  obtain ⟨S2, eS2, h⟩ := h2
  refine r_putI eS2 fk11 (Or.inl rfl) rfl d_Keyring_replaceSigner_42 ?_
  cases h
  exact r_vret rfl d_Keyring_replaceSigner_45
set_option maxRecDepth 20000 in
set_option maxHeartbeats 4000000 in
theorem s_Keyring_replaceSigner {S : AS} {a0 : Option Nat} {r : AS} (h : f_Keyring_replaceSigner S a0 = some r) : kr_Con m_Keyring_replaceSigner 1 [va_rf a0] S (kr_eV r) := by
  refine kr_con rfl rfl (by decide +kernel) (by simp [lg_sl, kr_rfcat, kr_icat, m_Keyring_replaceSigner, mL]) ?_
  rw [show lv_args 0 [va_rf a0] = [(0, va_rf a0)] from by simp [lv_args, kr_rfcat, kr_icat]]
  unfold f_Keyring_replaceSigner at h
  refine r_aload_n (i := 0) (x := a0) 0 rfl d_Keyring_replaceSigner_0 ?_
  refine r_dup (kr_rfcat _) d_Keyring_replaceSigner_1 ?_
  have h2 := kr_ob h
  clear h
  obtain ⟨v3, ev3, h⟩ := h2
  refine r_getI ev3 fk12 rfl d_Keyring_replaceSigner_2 ?_
  refine r_iconst (v := (1 : Int32)) (by decide) d_Keyring_replaceSigner_5 ?_
  refine r_aload_n (i := 0) (x := a0) 0 rfl d_Keyring_replaceSigner_6 ?_
  have h2 := kr_ob h
  clear h
  obtain ⟨v4, ev4, h⟩ := h2
  refine r_getI ev4 fk111 rfl d_Keyring_replaceSigner_7 ?_
  refine r_ishl d_Keyring_replaceSigner_10 ?_
  refine r_iconst (v := (-1 : Int32)) (by decide) d_Keyring_replaceSigner_11 ?_
  refine r_ixor d_Keyring_replaceSigner_12 ?_
  refine r_iand d_Keyring_replaceSigner_13 ?_
  have h2 := kr_ob h
  clear h
  obtain ⟨S5, eS5, h⟩ := h2
  refine r_putI eS5 fk12 (Or.inl rfl) rfl d_Keyring_replaceSigner_14 ?_
  refine r_aload_n (i := 0) (x := a0) 0 rfl d_Keyring_replaceSigner_17 ?_
  refine r_aload_n (i := 0) (x := a0) 0 rfl d_Keyring_replaceSigner_18 ?_
  have h2 := kr_ob h
  clear h
  obtain ⟨v6, ev6, h⟩ := h2
  refine r_getI ev6 fk11 rfl d_Keyring_replaceSigner_19 ?_
  refine r_iconst (v := (-1 : Int32)) (by decide) d_Keyring_replaceSigner_22 ?_
  refine r_icmp_eq (tgt := 33) d_Keyring_replaceSigner_23 rfl (fun c => ?_) (fun c => ?_)
  · replace h := kr_ip c h
    refine r_aload_n (i := 0) (x := a0) 0 rfl d_Keyring_replaceSigner_33 ?_
    have h2 := kr_ob h
    clear h
    obtain ⟨⟨⟩, eu7, h⟩ := h2
    have h2 := kr_ob2 h
    clear h
    obtain ⟨v9, S8, eS8, h⟩ := h2
    refine r_callV (M1 := m_Keyring_publishNext) (κ := 15) (As := []) eu7 (s_Keyring_publishNext eS8) mok_Keyring_publishNext rfl (by decide) rfl w1245 w1247 w34 (by decide) (kr_c8 (kr_cR kr_c0)) d_Keyring_replaceSigner_34 (kr_k1 ?_) kr_kn
    exact kr_sub [0] rfl (s_Keyring_replaceSigner_B37 h)
  · replace h := kr_in_ c h
    refine r_aload_n (i := 0) (x := a0) 0 rfl d_Keyring_replaceSigner_26 ?_
    have h2 := kr_ob h
    clear h
    obtain ⟨v10, ev10, h⟩ := h2
    refine r_getI ev10 fk11 rfl d_Keyring_replaceSigner_27 ?_
    refine r_goto (tgt := 37) d_Keyring_replaceSigner_30 rfl ?_
    exact kr_sub [0] rfl (s_Keyring_replaceSigner_B37 h)
/-! KeyringCourt$Recovery.<init>(LKeyringCourt$Person;I)V -/
def f_Recovery_init (S : AS) (a0 : Option Nat) (a1 : Option Nat) (a2 : Int32) : Option AS :=
  (a0).bind fun k1 =>
  (pZ S 17 2 (some k1) (1 : Int32)).bind fun S2 =>
  (pR S2 17 0 (some k1) a1).bind fun S3 =>
  (pI S3 17 1 (some k1) a2).bind fun S4 =>
  some S4
set_option maxRecDepth 20000 in
set_option maxHeartbeats 4000000 in
theorem s_Recovery_init {S : AS} {a0 : Option Nat} {a1 : Option Nat} {a2 : Int32} {r : AS} (h : f_Recovery_init S a0 a1 a2 = some r) : kr_Con m_Recovery_init 1 [va_rf a0, va_rf a1, .int a2] S (kr_eV r) := by
  refine kr_con rfl rfl (by decide +kernel) (by simp [lg_sl, kr_rfcat, kr_icat, m_Recovery_init, mL]) ?_
  rw [show lv_args 0 [va_rf a0, va_rf a1, .int a2] = [(0, va_rf a0), (1, va_rf a1), (2, .int a2)] from by simp [lv_args, kr_rfcat, kr_icat]]
  unfold f_Recovery_init at h
  refine r_aload_n (i := 0) (x := a0) 0 rfl d_Recovery_init_0 ?_
  have h2 := kr_ob h
  clear h
  obtain ⟨k1, ek1, h⟩ := h2
  subst ek1
  refine r_objInit w1313 w110 w111 (by decide) (kr_c8 kr_c0) d_Recovery_init_1 ?_
  refine r_aload_n (i := 0) (x := (some k1)) 0 rfl d_Recovery_init_4 ?_
  refine r_iconst (v := (1 : Int32)) (by decide) d_Recovery_init_5 ?_
  have h2 := kr_ob h
  clear h
  obtain ⟨S2, eS2, h⟩ := h2
  refine r_putZ eS2 fk217 (Or.inl rfl) rfl d_Recovery_init_6 ?_
  refine r_aload_n (i := 0) (x := (some k1)) 0 rfl d_Recovery_init_9 ?_
  refine r_aload_n (i := 1) (x := a1) 1 rfl d_Recovery_init_10 ?_
  have h2 := kr_ob h
  clear h
  obtain ⟨S3, eS3, h⟩ := h2
  refine r_putR eS3 fk218 (Or.inr ⟨rfl, rfl, rfl, _, w1314, rfl⟩) rfl d_Recovery_init_11 ?_
  refine r_aload_n (i := 0) (x := (some k1)) 0 rfl d_Recovery_init_14 ?_
  refine r_iload_n (i := 2) (x := a2) 2 rfl d_Recovery_init_15 ?_
  have h2 := kr_ob h
  clear h
  obtain ⟨S4, eS4, h⟩ := h2
  refine r_putI eS4 fk219 (Or.inr ⟨rfl, rfl, rfl, _, w1316, rfl⟩) rfl d_Recovery_init_16 ?_
  cases h
  exact r_vret rfl d_Recovery_init_19
/-! java/lang/Integer.bitCount(I)I -/
def f_IN_bitCount (S : AS) (a0 : Int32) : Option (Int32 × AS) :=
  (some (a0 - (((a0.toUInt32 >>> ((1 : Int32).toUInt32 &&& Int32.toUInt32 31)).toInt32) &&& (1431655765 : Int32)))).bind fun i1 =>
  (some ((i1 &&& (858993459 : Int32)) + (((i1.toUInt32 >>> ((2 : Int32).toUInt32 &&& Int32.toUInt32 31)).toInt32) &&& (858993459 : Int32)))).bind fun i2 =>
  (some ((i2 + ((i2.toUInt32 >>> ((4 : Int32).toUInt32 &&& Int32.toUInt32 31)).toInt32)) &&& (252645135 : Int32))).bind fun i3 =>
  (some (i3 + ((i3.toUInt32 >>> ((8 : Int32).toUInt32 &&& Int32.toUInt32 31)).toInt32))).bind fun i4 =>
  (some (i4 + ((i4.toUInt32 >>> ((16 : Int32).toUInt32 &&& Int32.toUInt32 31)).toInt32))).bind fun i5 =>
  some (i5 &&& (63 : Int32), S)
set_option maxRecDepth 20000 in
set_option maxHeartbeats 4000000 in
theorem s_IN_bitCount {S : AS} {a0 : Int32} {r : (Int32 × AS)} (h : f_IN_bitCount S a0 = some r) : kr_Con m_IN_bitCount 0 [.int a0] S (kr_eI r) := by
  refine kr_con rfl rfl (by decide +kernel) (by simp [lg_sl, kr_rfcat, kr_icat, m_IN_bitCount, mL]) ?_
  rw [show lv_args 0 [.int a0] = [(0, .int a0)] from by simp [lv_args, kr_rfcat, kr_icat]]
  unfold f_IN_bitCount at h
  refine r_iload_n (i := 0) (x := a0) 0 rfl d_IN_bitCount_0 ?_
  refine r_iload_n (i := 0) (x := a0) 0 rfl d_IN_bitCount_1 ?_
  refine r_iconst (v := (1 : Int32)) (by decide) d_IN_bitCount_2 ?_
  refine r_iushr d_IN_bitCount_3 ?_
  refine r_ldcw (v := (1431655765 : Int32)) w1359 d_IN_bitCount_4 ?_
  refine r_iand d_IN_bitCount_7 ?_
  refine r_isub d_IN_bitCount_8 ?_
  have h2 := kr_ob h
  clear h
  obtain ⟨i1, ei1, h⟩ := h2
  refine kr_nmI ei1 ?_
  refine r_istore_n (i := 0) (lv' := [(0, .int i1)]) (by decide) rfl d_IN_bitCount_9 ?_
  refine r_iload_n (i := 0) (x := i1) 0 rfl d_IN_bitCount_10 ?_
  refine r_ldcw (v := (858993459 : Int32)) w1360 d_IN_bitCount_11 ?_
  refine r_iand d_IN_bitCount_14 ?_
  refine r_iload_n (i := 0) (x := i1) 0 rfl d_IN_bitCount_15 ?_
  refine r_iconst (v := (2 : Int32)) (by decide) d_IN_bitCount_16 ?_
  refine r_iushr d_IN_bitCount_17 ?_
  refine r_ldcw (v := (858993459 : Int32)) w1360 d_IN_bitCount_18 ?_
  refine r_iand d_IN_bitCount_21 ?_
  refine r_iadd d_IN_bitCount_22 ?_
  have h2 := kr_ob h
  clear h
  obtain ⟨i2, ei2, h⟩ := h2
  refine kr_nmI ei2 ?_
  refine r_istore_n (i := 0) (lv' := [(0, .int i2)]) (by decide) rfl d_IN_bitCount_23 ?_
  refine r_iload_n (i := 0) (x := i2) 0 rfl d_IN_bitCount_24 ?_
  refine r_iload_n (i := 0) (x := i2) 0 rfl d_IN_bitCount_25 ?_
  refine r_iconst (v := (4 : Int32)) (by decide) d_IN_bitCount_26 ?_
  refine r_iushr d_IN_bitCount_27 ?_
  refine r_iadd d_IN_bitCount_28 ?_
  refine r_ldcw (v := (252645135 : Int32)) w1361 d_IN_bitCount_29 ?_
  refine r_iand d_IN_bitCount_32 ?_
  have h2 := kr_ob h
  clear h
  obtain ⟨i3, ei3, h⟩ := h2
  refine kr_nmI ei3 ?_
  refine r_istore_n (i := 0) (lv' := [(0, .int i3)]) (by decide) rfl d_IN_bitCount_33 ?_
  refine r_iload_n (i := 0) (x := i3) 0 rfl d_IN_bitCount_34 ?_
  refine r_iload_n (i := 0) (x := i3) 0 rfl d_IN_bitCount_35 ?_
  refine r_bipush (v := (8 : Int32)) (by decide) d_IN_bitCount_36 ?_
  refine r_iushr d_IN_bitCount_38 ?_
  refine r_iadd d_IN_bitCount_39 ?_
  have h2 := kr_ob h
  clear h
  obtain ⟨i4, ei4, h⟩ := h2
  refine kr_nmI ei4 ?_
  refine r_istore_n (i := 0) (lv' := [(0, .int i4)]) (by decide) rfl d_IN_bitCount_40 ?_
  refine r_iload_n (i := 0) (x := i4) 0 rfl d_IN_bitCount_41 ?_
  refine r_iload_n (i := 0) (x := i4) 0 rfl d_IN_bitCount_42 ?_
  refine r_bipush (v := (16 : Int32)) (by decide) d_IN_bitCount_43 ?_
  refine r_iushr d_IN_bitCount_45 ?_
  refine r_iadd d_IN_bitCount_46 ?_
  have h2 := kr_ob h
  clear h
  obtain ⟨i5, ei5, h⟩ := h2
  refine kr_nmI ei5 ?_
  refine r_istore_n (i := 0) (lv' := [(0, .int i5)]) (by decide) rfl d_IN_bitCount_47 ?_
  refine r_iload_n (i := 0) (x := i5) 0 rfl d_IN_bitCount_48 ?_
  refine r_bipush (v := (63 : Int32)) (by decide) d_IN_bitCount_49 ?_
  refine r_iand d_IN_bitCount_51 ?_
  cases h
  exact r_iret rfl d_IN_bitCount_52
/-! KeyringCourt$Recovery.countVouchers()I -/
def f_Recovery_countVouchers (S : AS) (a0 : Option Nat) : Option (Int32 × AS) :=
  (gI S 17 3 a0).bind fun v1 =>
  kr_b2 (f_IN_bitCount S v1) fun v3 S2 =>
  some (v3, S2)
set_option maxRecDepth 20000 in
set_option maxHeartbeats 4000000 in
theorem s_Recovery_countVouchers {S : AS} {a0 : Option Nat} {r : (Int32 × AS)} (h : f_Recovery_countVouchers S a0 = some r) : kr_Con m_Recovery_countVouchers 1 [va_rf a0] S (kr_eI r) := by
  refine kr_con rfl rfl (by decide +kernel) (by simp [lg_sl, kr_rfcat, kr_icat, m_Recovery_countVouchers, mL]) ?_
  rw [show lv_args 0 [va_rf a0] = [(0, va_rf a0)] from by simp [lv_args, kr_rfcat, kr_icat]]
  unfold f_Recovery_countVouchers at h
  refine r_aload_n (i := 0) (x := a0) 0 rfl d_Recovery_countVouchers_0 ?_
  have h2 := kr_ob h
  clear h
  obtain ⟨v1, ev1, h⟩ := h2
  refine r_getI ev1 fk223 rfl d_Recovery_countVouchers_1 ?_
  have h2 := kr_ob2 h
  clear h
  obtain ⟨v3, S2, eS2, h⟩ := h2
  refine r_callS (M1 := m_IN_bitCount) (As := [.int v1]) (s_IN_bitCount eS2) mok_IN_bitCount rfl w1356 w1357 (by decide) (kr_c8 kr_c0) d_Recovery_countVouchers_4 (kr_k1 ?_) kr_kn
  cases h
  exact r_iret rfl d_Recovery_countVouchers_7
/-! KeyringCourt$Person.levelOfEnrolled()I -/
def f_Person_levelOfEnrolled_B25 (k4 : AS → Option Nat → Int32 → Int32 → Option (Int32 × AS)) (S : AS) (x0 : Option Nat) (x1 : Int32) (x2 : Int32) : Option (Int32 × AS) :=
  (some (x2 + (1 : Int32))).bind fun i1 =>
  k4 S x0 x1 i1
def f_Person_levelOfEnrolled_C4 (k4 : AS → Option Nat → Int32 → Int32 → Option (Int32 × AS)) (S : AS) (x0 : Option Nat) (x1 : Int32) (x2 : Int32) : Option (Int32 × AS) :=
  if (3 : Int32) ≤ x2 then
  some (x1, S)
  else
  (gR S 16 1 x0).bind fun v2 =>
  (aI S 40 v2 x2).bind fun v3 =>
  if v3 = 0 then
  f_Person_levelOfEnrolled_B25 k4 S x0 x1 x2
  else
  kr_b2 (f_Shown_weightOf S x2) fun v5 S4 =>
  (some (x1 + v5)).bind fun i6 =>
  f_Person_levelOfEnrolled_B25 k4 S4 x0 i6 x2
def f_Person_levelOfEnrolled_L4 : Nat → AS → Option Nat → Int32 → Int32 → Option (Int32 × AS)
  | 0, S, x0, x1, x2 => none
  | n + 1, S, x0, x1, x2 => f_Person_levelOfEnrolled_C4 (f_Person_levelOfEnrolled_L4 n) S x0 x1 x2
def f_Person_levelOfEnrolled (S : AS) (a0 : Option Nat) : Option (Int32 × AS) :=
  f_Person_levelOfEnrolled_L4 kr_FU S a0 (0 : Int32) (0 : Int32)
set_option maxRecDepth 20000 in
set_option maxHeartbeats 4000000 in
theorem s_Person_levelOfEnrolled_B25 {k4 : AS → Option Nat → Int32 → Int32 → Option (Int32 × AS)} (hk4 : ∀ {S : AS} {x0 : Option Nat} {x1 : Int32} {x2 : Int32} {r : (Int32 × AS)}, k4 S x0 x1 x2 = some r → kr_AW m_Person_levelOfEnrolled 3 4 [(0, va_rf x0), (1, .int x1), (2, .int x2)] [] S (kr_eI r)) {S : AS} {x0 : Option Nat} {x1 : Int32} {x2 : Int32} {r : (Int32 × AS)} (h : f_Person_levelOfEnrolled_B25 k4 S x0 x1 x2 = some r) : kr_AW m_Person_levelOfEnrolled 3 25 [(0, va_rf x0), (1, .int x1), (2, .int x2)] [] S (kr_eI r) := by
  unfold f_Person_levelOfEnrolled_B25 at h
  have h2 := kr_ob h
  clear h
  obtain ⟨i1, ei1, h⟩ := h2
  refine r_iinc (v := i1) (lv' := [(2, .int i1), (0, va_rf x0), (1, .int x1)]) 2 rfl (kr_inc (by decide) ei1) (by decide) rfl d_Person_levelOfEnrolled_25 ?_
  refine r_goto (tgt := 4) d_Person_levelOfEnrolled_28 rfl ?_
  exact kr_sub [1, 2, 0] rfl (hk4 h)
set_option maxRecDepth 20000 in
set_option maxHeartbeats 4000000 in
theorem s_Person_levelOfEnrolled_C4 {k4 : AS → Option Nat → Int32 → Int32 → Option (Int32 × AS)} (hk4 : ∀ {S : AS} {x0 : Option Nat} {x1 : Int32} {x2 : Int32} {r : (Int32 × AS)}, k4 S x0 x1 x2 = some r → kr_AW m_Person_levelOfEnrolled 3 4 [(0, va_rf x0), (1, .int x1), (2, .int x2)] [] S (kr_eI r)) {S : AS} {x0 : Option Nat} {x1 : Int32} {x2 : Int32} {r : (Int32 × AS)} (h : f_Person_levelOfEnrolled_C4 k4 S x0 x1 x2 = some r) : kr_AW m_Person_levelOfEnrolled 3 4 [(0, va_rf x0), (1, .int x1), (2, .int x2)] [] S (kr_eI r) := by
  unfold f_Person_levelOfEnrolled_C4 at h
  refine r_iload_n (i := 2) (x := x2) 2 rfl d_Person_levelOfEnrolled_4 ?_
  refine r_iconst (v := (3 : Int32)) (by decide) d_Person_levelOfEnrolled_5 ?_
  refine r_icmp_ge (tgt := 31) d_Person_levelOfEnrolled_6 rfl (fun c => ?_) (fun c => ?_)
  · replace h := kr_ip c h
    refine r_iload_n (i := 1) (x := x1) 1 rfl d_Person_levelOfEnrolled_31 ?_
    cases h
    exact r_iret rfl d_Person_levelOfEnrolled_32
  · replace h := kr_in_ c h
    refine r_aload_n (i := 0) (x := x0) 0 rfl d_Person_levelOfEnrolled_9 ?_
    have h2 := kr_ob h
    clear h
    obtain ⟨v2, ev2, h⟩ := h2
    refine r_getR ev2 fk14 rfl d_Person_levelOfEnrolled_10 ?_
    refine r_iload_n (i := 2) (x := x2) 2 rfl d_Person_levelOfEnrolled_13 ?_
    have h2 := kr_ob h
    clear h
    obtain ⟨v3, ev3, h⟩ := h2
    refine r_iaload ev3 d_Person_levelOfEnrolled_14 ?_
    refine r_if_eq (tgt := 25) d_Person_levelOfEnrolled_15 rfl (fun c => ?_) (fun c => ?_)
    · replace h := kr_ip c h
      exact kr_sub [0, 1, 2] rfl (s_Person_levelOfEnrolled_B25 hk4 h)
    · replace h := kr_in_ c h
      refine r_iload_n (i := 1) (x := x1) 1 rfl d_Person_levelOfEnrolled_18 ?_
      refine r_iload_n (i := 2) (x := x2) 2 rfl d_Person_levelOfEnrolled_19 ?_
      have h2 := kr_ob2 h
      clear h
      obtain ⟨v5, S4, eS4, h⟩ := h2
      refine r_callS (M1 := m_Shown_weightOf) (As := [.int x2]) (s_Shown_weightOf eS4) mok_Shown_weightOf rfl w1373 w737 (by decide) (kr_c8 (kr_cI kr_c0)) d_Person_levelOfEnrolled_20 (kr_k1 ?_) kr_kn
      refine r_iadd d_Person_levelOfEnrolled_23 ?_
      have h2 := kr_ob h
      clear h
      obtain ⟨i6, ei6, h⟩ := h2
      refine kr_nmI ei6 ?_
      refine r_istore_n (i := 1) (lv' := [(1, .int i6), (0, va_rf x0), (2, .int x2)]) (by decide) (by show kr_st _ 1 _ = _; simp [kr_st, kr_rfcat, kr_icat]) d_Person_levelOfEnrolled_24 ?_
      exact kr_sub [1, 0, 2] rfl (s_Person_levelOfEnrolled_B25 hk4 h)
theorem s_Person_levelOfEnrolled_L4 (n : Nat) : ∀ {S : AS} {x0 : Option Nat} {x1 : Int32} {x2 : Int32} {r : (Int32 × AS)}, f_Person_levelOfEnrolled_L4 n S x0 x1 x2 = some r → kr_AW m_Person_levelOfEnrolled 3 4 [(0, va_rf x0), (1, .int x1), (2, .int x2)] [] S (kr_eI r) := by
  induction n with
  | zero => intro S x0 x1 x2 r h; cases h
  | succ n ih => intro S x0 x1 x2 r h; exact s_Person_levelOfEnrolled_C4 (fun {_} {_} {_} {_} {_} h => ih h) h
set_option maxRecDepth 20000 in
set_option maxHeartbeats 4000000 in
theorem s_Person_levelOfEnrolled {S : AS} {a0 : Option Nat} {r : (Int32 × AS)} (h : f_Person_levelOfEnrolled S a0 = some r) : kr_Con m_Person_levelOfEnrolled 3 [va_rf a0] S (kr_eI r) := by
  refine kr_con rfl rfl (by decide +kernel) (by simp [lg_sl, kr_rfcat, kr_icat, m_Person_levelOfEnrolled, mL]) ?_
  rw [show lv_args 0 [va_rf a0] = [(0, va_rf a0)] from by simp [lv_args, kr_rfcat, kr_icat]]
  unfold f_Person_levelOfEnrolled at h
  refine r_iconst (v := (0 : Int32)) (by decide) d_Person_levelOfEnrolled_0 ?_
  refine r_istore_n (i := 1) (lv' := [(1, .int (0 : Int32)), (0, va_rf a0)]) (by decide) (by show kr_st _ 1 _ = _; simp [kr_st, kr_rfcat, kr_icat]) d_Person_levelOfEnrolled_1 ?_
  refine r_iconst (v := (0 : Int32)) (by decide) d_Person_levelOfEnrolled_2 ?_
  refine r_istore_n (i := 2) (lv' := [(2, .int (0 : Int32)), (1, .int (0 : Int32)), (0, va_rf a0)]) (by decide) rfl d_Person_levelOfEnrolled_3 ?_
  exact kr_sub [2, 1, 0] rfl (s_Person_levelOfEnrolled_L4 kr_FU h)
/-! KeyringCourt$Person.loseFactors()V -/
def f_Person_loseFactors_C2 (k2 : AS → Option Nat → Int32 → Option AS) (S : AS) (x0 : Option Nat) (x1 : Int32) : Option AS :=
  if (3 : Int32) ≤ x1 then
  some S
  else
  (gR S 16 1 x0).bind fun v1 =>
  (bI S v1 x1 (0 : Int32)).bind fun S2 =>
  (some (x1 + (1 : Int32))).bind fun i3 =>
  k2 S2 x0 i3
def f_Person_loseFactors_L2 : Nat → AS → Option Nat → Int32 → Option AS
  | 0, S, x0, x1 => none
  | n + 1, S, x0, x1 => f_Person_loseFactors_C2 (f_Person_loseFactors_L2 n) S x0 x1
def f_Person_loseFactors (S : AS) (a0 : Option Nat) : Option AS :=
  f_Person_loseFactors_L2 kr_FU S a0 (0 : Int32)
set_option maxRecDepth 20000 in
set_option maxHeartbeats 4000000 in
theorem s_Person_loseFactors_C2 {k2 : AS → Option Nat → Int32 → Option AS} (hk2 : ∀ {S : AS} {x0 : Option Nat} {x1 : Int32} {r : AS}, k2 S x0 x1 = some r → kr_AW m_Person_loseFactors 0 2 [(0, va_rf x0), (1, .int x1)] [] S (kr_eV r)) {S : AS} {x0 : Option Nat} {x1 : Int32} {r : AS} (h : f_Person_loseFactors_C2 k2 S x0 x1 = some r) : kr_AW m_Person_loseFactors 0 2 [(0, va_rf x0), (1, .int x1)] [] S (kr_eV r) := by
  unfold f_Person_loseFactors_C2 at h
  refine r_iload_n (i := 1) (x := x1) 1 rfl d_Person_loseFactors_2 ?_
  refine r_iconst (v := (3 : Int32)) (by decide) d_Person_loseFactors_3 ?_
  refine r_icmp_ge (tgt := 20) d_Person_loseFactors_4 rfl (fun c => ?_) (fun c => ?_)
  · replace h := kr_ip c h
    cases h
    exact r_vret rfl d_Person_loseFactors_20
  · replace h := kr_in_ c h
    refine r_aload_n (i := 0) (x := x0) 0 rfl d_Person_loseFactors_7 ?_
    have h2 := kr_ob h
    clear h
    obtain ⟨v1, ev1, h⟩ := h2
    refine r_getR ev1 fk14 rfl d_Person_loseFactors_8 ?_
    refine r_iload_n (i := 1) (x := x1) 1 rfl d_Person_loseFactors_11 ?_
    refine r_iconst (v := (0 : Int32)) (by decide) d_Person_loseFactors_12 ?_
    have h2 := kr_ob h
    clear h
    obtain ⟨S2, eS2, h⟩ := h2
    refine r_iastore eS2 d_Person_loseFactors_13 ?_
    have h2 := kr_ob h
    clear h
    obtain ⟨i3, ei3, h⟩ := h2
    refine r_iinc (v := i3) (lv' := [(1, .int i3), (0, va_rf x0)]) 1 rfl (kr_inc (by decide) ei3) (by decide) (by simp [kr_st, kr_rfcat, kr_icat]) d_Person_loseFactors_14 ?_
    refine r_goto (tgt := 2) d_Person_loseFactors_17 rfl ?_
    exact kr_sub [1, 0] rfl (hk2 h)
theorem s_Person_loseFactors_L2 (n : Nat) : ∀ {S : AS} {x0 : Option Nat} {x1 : Int32} {r : AS}, f_Person_loseFactors_L2 n S x0 x1 = some r → kr_AW m_Person_loseFactors 0 2 [(0, va_rf x0), (1, .int x1)] [] S (kr_eV r) := by
  induction n with
  | zero => intro S x0 x1 r h; cases h
  | succ n ih => intro S x0 x1 r h; exact s_Person_loseFactors_C2 (fun {_} {_} {_} {_} h => ih h) h
set_option maxRecDepth 20000 in
set_option maxHeartbeats 4000000 in
theorem s_Person_loseFactors {S : AS} {a0 : Option Nat} {r : AS} (h : f_Person_loseFactors S a0 = some r) : kr_Con m_Person_loseFactors 0 [va_rf a0] S (kr_eV r) := by
  refine kr_con rfl rfl (by decide +kernel) (by simp [lg_sl, kr_rfcat, kr_icat, m_Person_loseFactors, mL]) ?_
  rw [show lv_args 0 [va_rf a0] = [(0, va_rf a0)] from by simp [lv_args, kr_rfcat, kr_icat]]
  unfold f_Person_loseFactors at h
  refine r_iconst (v := (0 : Int32)) (by decide) d_Person_loseFactors_0 ?_
  refine r_istore_n (i := 1) (lv' := [(1, .int (0 : Int32)), (0, va_rf a0)]) (by decide) (by show kr_st _ 1 _ = _; simp [kr_st, kr_rfcat, kr_icat]) d_Person_loseFactors_1 ?_
  exact kr_sub [1, 0] rfl (s_Person_loseFactors_L2 kr_FU h)
/-! KeyringCourt$Audit.totalOfFirst(I)I -/
def f_Audit_totalOfFirst_C5 (k5 : AS → Option Nat → Int32 → Int32 → Int32 → Option (Int32 × AS)) (S : AS) (x0 : Option Nat) (x1 : Int32) (x2 : Int32) (x3 : Int32) : Option (Int32 × AS) :=
  if x1 ≤ x3 then
  some (x2, S)
  else
  (kr_rv S 12 x0).bind fun u1 =>
  kr_b2 (f_Audit_totalWith S x0 x2 x3) fun v3 S2 =>
  (some (x3 + (1 : Int32))).bind fun i4 =>
  k5 S2 x0 x1 v3 i4
def f_Audit_totalOfFirst_L5 : Nat → AS → Option Nat → Int32 → Int32 → Int32 → Option (Int32 × AS)
  | 0, S, x0, x1, x2, x3 => none
  | n + 1, S, x0, x1, x2, x3 => f_Audit_totalOfFirst_C5 (f_Audit_totalOfFirst_L5 n) S x0 x1 x2 x3
def f_Audit_totalOfFirst (S : AS) (a0 : Option Nat) (a1 : Int32) : Option (Int32 × AS) :=
  f_Audit_totalOfFirst_L5 kr_FU S a0 a1 (7 : Int32) (0 : Int32)
set_option maxRecDepth 20000 in
set_option maxHeartbeats 4000000 in
theorem s_Audit_totalOfFirst_C5 {k5 : AS → Option Nat → Int32 → Int32 → Int32 → Option (Int32 × AS)} (hk5 : ∀ {S : AS} {x0 : Option Nat} {x1 : Int32} {x2 : Int32} {x3 : Int32} {r : (Int32 × AS)}, k5 S x0 x1 x2 x3 = some r → kr_AW m_Audit_totalOfFirst 1 5 [(0, va_rf x0), (1, .int x1), (2, .int x2), (3, .int x3)] [] S (kr_eI r)) {S : AS} {x0 : Option Nat} {x1 : Int32} {x2 : Int32} {x3 : Int32} {r : (Int32 × AS)} (h : f_Audit_totalOfFirst_C5 k5 S x0 x1 x2 x3 = some r) : kr_AW m_Audit_totalOfFirst 1 5 [(0, va_rf x0), (1, .int x1), (2, .int x2), (3, .int x3)] [] S (kr_eI r) := by
  unfold f_Audit_totalOfFirst_C5 at h
  refine r_iload_n (i := 3) (x := x3) 3 rfl d_Audit_totalOfFirst_5 ?_
  refine r_iload_n (i := 1) (x := x1) 1 rfl d_Audit_totalOfFirst_6 ?_
  refine r_icmp_ge (tgt := 23) d_Audit_totalOfFirst_7 rfl (fun c => ?_) (fun c => ?_)
  · replace h := kr_ip c h
    refine r_iload_n (i := 2) (x := x2) 2 rfl d_Audit_totalOfFirst_23 ?_
    cases h
    exact r_iret rfl d_Audit_totalOfFirst_24
  · replace h := kr_in_ c h
    refine r_aload_n (i := 0) (x := x0) 0 rfl d_Audit_totalOfFirst_10 ?_
    refine r_iload_n (i := 2) (x := x2) 2 rfl d_Audit_totalOfFirst_11 ?_
    refine r_iload_n (i := 3) (x := x3) 3 rfl d_Audit_totalOfFirst_12 ?_
    have h2 := kr_ob h
    clear h
    obtain ⟨⟨⟩, eu1, h⟩ := h2
    have h2 := kr_ob2 h
    clear h
    obtain ⟨v3, S2, eS2, h⟩ := h2
    refine r_callV (M1 := m_Audit_totalWith) (κ := 12) (As := [.int x2, .int x3]) eu1 (s_Audit_totalWith eS2) mok_Audit_totalWith rfl (by decide) rfl w476 w478 w2 (by decide) (kr_c8 kr_c0) d_Audit_totalOfFirst_13 (kr_k1 ?_) kr_kn
    refine r_istore_n (i := 2) (lv' := [(2, .int v3), (0, va_rf x0), (1, .int x1), (3, .int x3)]) (by decide) rfl d_Audit_totalOfFirst_16 ?_
    have h2 := kr_ob h
    clear h
    obtain ⟨i4, ei4, h⟩ := h2
    refine r_iinc (v := i4) (lv' := [(3, .int i4), (2, .int v3), (0, va_rf x0), (1, .int x1)]) 3 rfl (kr_inc (by decide) ei4) (by decide) rfl d_Audit_totalOfFirst_17 ?_
    refine r_goto (tgt := 5) d_Audit_totalOfFirst_20 rfl ?_
    exact kr_sub [2, 3, 1, 0] rfl (hk5 h)
theorem s_Audit_totalOfFirst_L5 (n : Nat) : ∀ {S : AS} {x0 : Option Nat} {x1 : Int32} {x2 : Int32} {x3 : Int32} {r : (Int32 × AS)}, f_Audit_totalOfFirst_L5 n S x0 x1 x2 x3 = some r → kr_AW m_Audit_totalOfFirst 1 5 [(0, va_rf x0), (1, .int x1), (2, .int x2), (3, .int x3)] [] S (kr_eI r) := by
  induction n with
  | zero => intro S x0 x1 x2 x3 r h; cases h
  | succ n ih => intro S x0 x1 x2 x3 r h; exact s_Audit_totalOfFirst_C5 (fun {_} {_} {_} {_} {_} {_} h => ih h) h
set_option maxRecDepth 20000 in
set_option maxHeartbeats 4000000 in
theorem s_Audit_totalOfFirst {S : AS} {a0 : Option Nat} {a1 : Int32} {r : (Int32 × AS)} (h : f_Audit_totalOfFirst S a0 a1 = some r) : kr_Con m_Audit_totalOfFirst 1 [va_rf a0, .int a1] S (kr_eI r) := by
  refine kr_con rfl rfl (by decide +kernel) (by simp [lg_sl, kr_rfcat, kr_icat, m_Audit_totalOfFirst, mL]) ?_
  rw [show lv_args 0 [va_rf a0, .int a1] = [(0, va_rf a0), (1, .int a1)] from by simp [lv_args, kr_rfcat, kr_icat]]
  unfold f_Audit_totalOfFirst at h
  refine r_bipush (v := (7 : Int32)) (by decide) d_Audit_totalOfFirst_0 ?_
  refine r_istore_n (i := 2) (lv' := [(2, .int (7 : Int32)), (0, va_rf a0), (1, .int a1)]) (by decide) rfl d_Audit_totalOfFirst_2 ?_
  refine r_iconst (v := (0 : Int32)) (by decide) d_Audit_totalOfFirst_3 ?_
  refine r_istore_n (i := 3) (lv' := [(3, .int (0 : Int32)), (2, .int (7 : Int32)), (0, va_rf a0), (1, .int a1)]) (by decide) rfl d_Audit_totalOfFirst_4 ?_
  exact kr_sub [2, 3, 1, 0] rfl (s_Audit_totalOfFirst_L5 kr_FU h)
end
