/-! KeyringCourt.<init>()V -/
def f_K_init_C238 (k238 : AS → Option Nat → Int32 → Option AS) (S : AS) (x0 : Option Nat) (x1 : Int32) : Option AS :=
  if (4 : Int32) ≤ x1 then
  some S
  else
  (gR S 22 11 x0).bind fun v1 =>
  (some (nO S 18)).bind fun S2 =>
  (f_Service_init S2 (some (sN S))).bind fun S3 =>
  (bR S3 45 18 18 v1 x1 (some (sN S))).bind fun S4 =>
  (some (x1 + (1 : Int32))).bind fun i5 =>
  k238 S4 x0 i5
def f_K_init_L238 : Nat → AS → Option Nat → Int32 → Option AS
  | 0, S, x0, x1 => none
  | n + 1, S, x0, x1 => f_K_init_C238 (f_K_init_L238 n) S x0 x1
def f_K_init_C210 (k210 : AS → Option Nat → Int32 → Option AS) (S : AS) (x0 : Option Nat) (x1 : Int32) : Option AS :=
  if (6 : Int32) ≤ x1 then
  f_K_init_L238 kr_FU S x0 (0 : Int32)
  else
  (gR S 22 2 x0).bind fun v6 =>
  (some (nO S 16)).bind fun S7 =>
  (f_Person_init S7 (some (sN S)) x1).bind fun S8 =>
  (bR S8 44 16 16 v6 x1 (some (sN S))).bind fun S9 =>
  (some (x1 + (1 : Int32))).bind fun i10 =>
  k210 S9 x0 i10
def f_K_init_L210 : Nat → AS → Option Nat → Int32 → Option AS
  | 0, S, x0, x1 => none
  | n + 1, S, x0, x1 => f_K_init_C210 (f_K_init_L210 n) S x0 x1
def f_K_init (S : AS) (a0 : Option Nat) : Option AS :=
  (a0).bind fun k11 =>
  (some (nO S 12)).bind fun S12 =>
  (f_Audit_init S12 (some (sN S))).bind fun S13 =>
  (pR S13 22 1 (some k11) (some (sN S))).bind fun S14 =>
  (nA S14 44 (6 : Int32)).bind fun S15 =>
  (pR S15 22 2 (some k11) (some (sN S14))).bind fun S16 =>
  (nA S16 40 (3 : Int32)).bind fun S17 =>
  (bI S17 (some (sN S16)) (0 : Int32) (2 : Int32)).bind fun S18 =>
  (bI S18 (some (sN S16)) (1 : Int32) (1 : Int32)).bind fun S19 =>
  (bI S19 (some (sN S16)) (2 : Int32) (1 : Int32)).bind fun S20 =>
  (pR S20 22 3 (some k11) (some (sN S16))).bind fun S21 =>
  (nA S21 40 (3 : Int32)).bind fun S22 =>
  (bI S22 (some (sN S21)) (0 : Int32) (-1 : Int32)).bind fun S23 =>
  (bI S23 (some (sN S21)) (1 : Int32) (-1 : Int32)).bind fun S24 =>
  (bI S24 (some (sN S21)) (2 : Int32) (-1 : Int32)).bind fun S25 =>
  (pR S25 22 4 (some k11) (some (sN S21))).bind fun S26 =>
  (some (nO S26 13)).bind fun S27 =>
  (f_Flow_init S27 (some (sN S26))).bind fun S28 =>
  (pR S28 22 5 (some k11) (some (sN S26))).bind fun S29 =>
  (some (nO S29 10)).bind fun S30 =>
  (f_AL_init S30 (some (sN S29))).bind fun S31 =>
  (pR S31 22 6 (some k11) (some (sN S29))).bind fun S32 =>
  (some (nO S32 10)).bind fun S33 =>
  (f_AL_init S33 (some (sN S32))).bind fun S34 =>
  (pR S34 22 7 (some k11) (some (sN S32))).bind fun S35 =>
  (some (nO S35 10)).bind fun S36 =>
  (f_AL_init S36 (some (sN S35))).bind fun S37 =>
  (pR S37 22 8 (some k11) (some (sN S35))).bind fun S38 =>
  (nA S38 40 (4 : Int32)).bind fun S39 =>
  (pR S39 22 10 (some k11) (some (sN S38))).bind fun S40 =>
  (nA S40 45 (4 : Int32)).bind fun S41 =>
  (pR S41 22 11 (some k11) (some (sN S40))).bind fun S42 =>
  (some (nO S42 10)).bind fun S43 =>
  (f_AL_init S43 (some (sN S42))).bind fun S44 =>
  (pR S44 22 12 (some k11) (some (sN S42))).bind fun S45 =>
  (some (nO S45 10)).bind fun S46 =>
  (f_AL_init S46 (some (sN S45))).bind fun S47 =>
  (pR S47 22 13 (some k11) (some (sN S45))).bind fun S48 =>
  (some (nO S48 10)).bind fun S49 =>
  (f_AL_init S49 (some (sN S48))).bind fun S50 =>
  (pR S50 22 14 (some k11) (some (sN S48))).bind fun S51 =>
  (some (nO S51 15)).bind fun S52 =>
  (f_Keyring_init S52 (some (sN S51))).bind fun S53 =>
  (pR S53 22 15 (some k11) (some (sN S51))).bind fun S54 =>
  (some (nO S54 10)).bind fun S55 =>
  (f_AL_init S55 (some (sN S54))).bind fun S56 =>
  (pR S56 22 16 (some k11) (some (sN S54))).bind fun S57 =>
  (nA S57 40 (6 : Int32)).bind fun S58 =>
  (bI S58 (some (sN S57)) (0 : Int32) (-1 : Int32)).bind fun S59 =>
  (bI S59 (some (sN S57)) (1 : Int32) (-1 : Int32)).bind fun S60 =>
  (bI S60 (some (sN S57)) (2 : Int32) (-1 : Int32)).bind fun S61 =>
  (bI S61 (some (sN S57)) (3 : Int32) (-1 : Int32)).bind fun S62 =>
  (bI S62 (some (sN S57)) (4 : Int32) (-1 : Int32)).bind fun S63 =>
  (bI S63 (some (sN S57)) (5 : Int32) (-1 : Int32)).bind fun S64 =>
  (pR S64 22 17 (some k11) (some (sN S57))).bind fun S65 =>
  f_K_init_L210 kr_FU S65 (some k11) (0 : Int32)
set_option maxRecDepth 20000 in
set_option maxHeartbeats 4000000 in
theorem s_K_init_C238 {k238 : AS → Option Nat → Int32 → Option AS} (hk238 : ∀ {S : AS} {x0 : Option Nat} {x1 : Int32} {r : AS}, k238 S x0 x1 = some r → kr_AW m_K_init 4 238 [(0, va_rf x0), (1, .int x1)] [] S (kr_eV r)) {S : AS} {x0 : Option Nat} {x1 : Int32} {r : AS} (h : f_K_init_C238 k238 S x0 x1 = some r) : kr_AW m_K_init 4 238 [(0, va_rf x0), (1, .int x1)] [] S (kr_eV r) := by
  unfold f_K_init_C238 at h
  refine r_iload_n (i := 1) (x := x1) 1 rfl d_K_init_238 ?_
  refine r_iconst (v := (4 : Int32)) (by decide) d_K_init_239 ?_
  refine r_icmp_ge (tgt := 262) d_K_init_240 rfl (fun c => ?_) (fun c => ?_)
  · replace h := kr_ip c h
    cases h
    exact r_vret rfl d_K_init_262
  · replace h := kr_in_ c h
    refine r_aload_n (i := 0) (x := x0) 0 rfl d_K_init_243 ?_
    have h2 := kr_ob h
    clear h
    obtain ⟨v1, ev1, h⟩ := h2
    refine r_getR ev1 fk23 rfl d_K_init_244 ?_
    refine r_iload_n (i := 1) (x := x1) 1 rfl d_K_init_247 ?_
    have h2 := kr_ob h
    clear h
    obtain ⟨S2, eS2, h⟩ := h2
    refine r_newO_ (κ := 18) eS2 (by decide) w188 w265 w83 d_K_init_248 ?_
    refine r_dup (kr_rfcat _) d_K_init_251 ?_
    have h2 := kr_ob h
    clear h
    obtain ⟨S3, eS3, h⟩ := h2
    refine r_callIN (M1 := m_Service_init) (As := []) (s_Service_init eS3) mok_Service_init rfl rfl rfl w266 w267 (by decide) (kr_c8 (kr_cR (kr_cI (kr_cR kr_c0)))) d_K_init_252 (kr_k0 ?_) kr_kn
    have h2 := kr_ob h
    clear h
    obtain ⟨S4, eS4, h⟩ := h2
    refine r_aastoreK (by decide) (by decide) rfl eS4 d_K_init_255 ?_
    have h2 := kr_ob h
    clear h
    obtain ⟨i5, ei5, h⟩ := h2
    refine r_iinc (v := i5) (lv' := [(1, .int i5), (0, va_rf x0)]) 1 rfl (kr_inc (by decide) ei5) (by decide) (by simp [kr_st, kr_rfcat, kr_icat]) d_K_init_256 ?_
    refine r_goto (tgt := 238) d_K_init_259 rfl ?_
    exact kr_sub [1, 0] rfl (hk238 h)
theorem s_K_init_L238 (n : Nat) : ∀ {S : AS} {x0 : Option Nat} {x1 : Int32} {r : AS}, f_K_init_L238 n S x0 x1 = some r → kr_AW m_K_init 4 238 [(0, va_rf x0), (1, .int x1)] [] S (kr_eV r) := by
  induction n with
  | zero => intro S x0 x1 r h; cases h
  | succ n ih => intro S x0 x1 r h; exact s_K_init_C238 (fun {_} {_} {_} {_} h => ih h) h
set_option maxRecDepth 20000 in
set_option maxHeartbeats 4000000 in
theorem s_K_init_C210 {k210 : AS → Option Nat → Int32 → Option AS} (hk210 : ∀ {S : AS} {x0 : Option Nat} {x1 : Int32} {r : AS}, k210 S x0 x1 = some r → kr_AW m_K_init 4 210 [(0, va_rf x0), (1, .int x1)] [] S (kr_eV r)) {S : AS} {x0 : Option Nat} {x1 : Int32} {r : AS} (h : f_K_init_C210 k210 S x0 x1 = some r) : kr_AW m_K_init 4 210 [(0, va_rf x0), (1, .int x1)] [] S (kr_eV r) := by
  unfold f_K_init_C210 at h
  refine r_iload_n (i := 1) (x := x1) 1 rfl d_K_init_210 ?_
  refine r_bipush (v := (6 : Int32)) (by decide) d_K_init_211 ?_
  refine r_icmp_ge (tgt := 236) d_K_init_213 rfl (fun c => ?_) (fun c => ?_)
  · replace h := kr_ip c h
    refine r_iconst (v := (0 : Int32)) (by decide) d_K_init_236 ?_
    refine r_istore_n (i := 1) (lv' := [(1, .int (0 : Int32)), (0, va_rf x0)]) (by decide) (by show kr_st _ 1 _ = _; simp [kr_st, kr_rfcat, kr_icat]) d_K_init_237 ?_
    exact kr_sub [1, 0] rfl (s_K_init_L238 kr_FU h)
  · replace h := kr_in_ c h
    refine r_aload_n (i := 0) (x := x0) 0 rfl d_K_init_216 ?_
    have h2 := kr_ob h
    clear h
    obtain ⟨v6, ev6, h⟩ := h2
    refine r_getR ev6 fk24 rfl d_K_init_217 ?_
    refine r_iload_n (i := 1) (x := x1) 1 rfl d_K_init_220 ?_
    have h2 := kr_ob h
    clear h
    obtain ⟨S7, eS7, h⟩ := h2
    refine r_newO_ (κ := 16) eS7 (by decide) w134 w219 w82 d_K_init_221 ?_
    refine r_dup (kr_rfcat _) d_K_init_224 ?_
    refine r_iload_n (i := 1) (x := x1) 1 rfl d_K_init_225 ?_
    have h2 := kr_ob h
    clear h
    obtain ⟨S8, eS8, h⟩ := h2
    refine r_callIN (M1 := m_Person_init) (As := [.int x1]) (s_Person_init eS8) mok_Person_init rfl rfl rfl w220 w221 (by decide) (kr_c8 (kr_cR (kr_cI (kr_cR kr_c0)))) d_K_init_226 (kr_k0 ?_) kr_kn
    have h2 := kr_ob h
    clear h
    obtain ⟨S9, eS9, h⟩ := h2
    refine r_aastoreK (by decide) (by decide) rfl eS9 d_K_init_229 ?_
    have h2 := kr_ob h
    clear h
    obtain ⟨i10, ei10, h⟩ := h2
    refine r_iinc (v := i10) (lv' := [(1, .int i10), (0, va_rf x0)]) 1 rfl (kr_inc (by decide) ei10) (by decide) (by simp [kr_st, kr_rfcat, kr_icat]) d_K_init_230 ?_
    refine r_goto (tgt := 210) d_K_init_233 rfl ?_
    exact kr_sub [1, 0] rfl (hk210 h)
theorem s_K_init_L210 (n : Nat) : ∀ {S : AS} {x0 : Option Nat} {x1 : Int32} {r : AS}, f_K_init_L210 n S x0 x1 = some r → kr_AW m_K_init 4 210 [(0, va_rf x0), (1, .int x1)] [] S (kr_eV r) := by
  induction n with
  | zero => intro S x0 x1 r h; cases h
  | succ n ih => intro S x0 x1 r h; exact s_K_init_C210 (fun {_} {_} {_} {_} h => ih h) h
set_option maxRecDepth 20000 in
set_option maxHeartbeats 4000000 in
theorem s_K_init {S : AS} {a0 : Option Nat} {r : AS} (h : f_K_init S a0 = some r) : kr_Con m_K_init 4 [va_rf a0] S (kr_eV r) := by
  refine kr_con rfl rfl (by decide +kernel) (by simp [lg_sl, kr_rfcat, kr_icat, m_K_init, mL]) ?_
  rw [show lv_args 0 [va_rf a0] = [(0, va_rf a0)] from by simp [lv_args, kr_rfcat, kr_icat]]
  unfold f_K_init at h
  refine r_aload_n (i := 0) (x := a0) 0 rfl d_K_init_0 ?_
  have h2 := kr_ob h
  clear h
  obtain ⟨k11, ek11, h⟩ := h2
  subst ek11
  refine r_objInit w109 w110 w111 (by decide) (kr_c8 kr_c0) d_K_init_1 ?_
  refine r_aload_n (i := 0) (x := (some k11)) 0 rfl d_K_init_4 ?_
  have h2 := kr_ob h
  clear h
  obtain ⟨S12, eS12, h⟩ := h2
  refine r_newO_ (κ := 12) eS12 (by decide) w112 w113 w76 d_K_init_5 ?_
  refine r_dup (kr_rfcat _) d_K_init_8 ?_
  have h2 := kr_ob h
  clear h
  obtain ⟨S13, eS13, h⟩ := h2
  refine r_callIN (M1 := m_Audit_init) (As := []) (s_Audit_init eS13) mok_Audit_init rfl rfl rfl w114 w115 (by decide) (kr_c8 (kr_cR (kr_cR kr_c0))) d_K_init_9 (kr_k0 ?_) kr_kn
  have h2 := kr_ob h
  clear h
  obtain ⟨S14, eS14, h⟩ := h2
  refine r_putR eS14 fk25 (Or.inr ⟨rfl, rfl, rfl, _, w286, rfl⟩) rfl d_K_init_12 ?_
  refine r_aload_n (i := 0) (x := (some k11)) 0 rfl d_K_init_15 ?_
  refine r_bipush (v := (6 : Int32)) (by decide) d_K_init_16 ?_
  have h2 := kr_ob h
  clear h
  obtain ⟨S15, eS15, h⟩ := h2
  refine r_newP eS15 w134 d_K_init_18 ?_
  have h2 := kr_ob h
  clear h
  obtain ⟨S16, eS16, h⟩ := h2
  refine r_putR eS16 fk24 (Or.inr ⟨rfl, rfl, rfl, _, w287, rfl⟩) rfl d_K_init_21 ?_
  refine r_aload_n (i := 0) (x := (some k11)) 0 rfl d_K_init_24 ?_
  refine r_iconst (v := (3 : Int32)) (by decide) d_K_init_25 ?_
  have h2 := kr_ob h
  clear h
  obtain ⟨S17, eS17, h⟩ := h2
  refine r_newI eS17 w133 d_K_init_26 ?_
  refine r_dup (kr_rfcat _) d_K_init_28 ?_
  refine r_iconst (v := (0 : Int32)) (by decide) d_K_init_29 ?_
  refine r_iconst (v := (2 : Int32)) (by decide) d_K_init_30 ?_
  have h2 := kr_ob h
  clear h
  obtain ⟨S18, eS18, h⟩ := h2
  refine r_iastore eS18 d_K_init_31 ?_
  refine r_dup (kr_rfcat _) d_K_init_32 ?_
  refine r_iconst (v := (1 : Int32)) (by decide) d_K_init_33 ?_
  refine r_iconst (v := (1 : Int32)) (by decide) d_K_init_34 ?_
  have h2 := kr_ob h
  clear h
  obtain ⟨S19, eS19, h⟩ := h2
  refine r_iastore eS19 d_K_init_35 ?_
  refine r_dup (kr_rfcat _) d_K_init_36 ?_
  refine r_iconst (v := (2 : Int32)) (by decide) d_K_init_37 ?_
  refine r_iconst (v := (1 : Int32)) (by decide) d_K_init_38 ?_
  have h2 := kr_ob h
  clear h
  obtain ⟨S20, eS20, h⟩ := h2
  refine r_iastore eS20 d_K_init_39 ?_
  have h2 := kr_ob h
  clear h
  obtain ⟨S21, eS21, h⟩ := h2
  refine r_putR eS21 fk26 (Or.inr ⟨rfl, rfl, rfl, _, w288, rfl⟩) rfl d_K_init_40 ?_
  refine r_aload_n (i := 0) (x := (some k11)) 0 rfl d_K_init_43 ?_
  refine r_iconst (v := (3 : Int32)) (by decide) d_K_init_44 ?_
  have h2 := kr_ob h
  clear h
  obtain ⟨S22, eS22, h⟩ := h2
  refine r_newI eS22 w133 d_K_init_45 ?_
  refine r_dup (kr_rfcat _) d_K_init_47 ?_
  refine r_iconst (v := (0 : Int32)) (by decide) d_K_init_48 ?_
  refine r_iconst (v := (-1 : Int32)) (by decide) d_K_init_49 ?_
  have h2 := kr_ob h
  clear h
  obtain ⟨S23, eS23, h⟩ := h2
  refine r_iastore eS23 d_K_init_50 ?_
  refine r_dup (kr_rfcat _) d_K_init_51 ?_
  refine r_iconst (v := (1 : Int32)) (by decide) d_K_init_52 ?_
  refine r_iconst (v := (-1 : Int32)) (by decide) d_K_init_53 ?_
  have h2 := kr_ob h
  clear h
  obtain ⟨S24, eS24, h⟩ := h2
  refine r_iastore eS24 d_K_init_54 ?_
  refine r_dup (kr_rfcat _) d_K_init_55 ?_
  refine r_iconst (v := (2 : Int32)) (by decide) d_K_init_56 ?_
  refine r_iconst (v := (-1 : Int32)) (by decide) d_K_init_57 ?_
  have h2 := kr_ob h
  clear h
  obtain ⟨S25, eS25, h⟩ := h2
  refine r_iastore eS25 d_K_init_58 ?_
  have h2 := kr_ob h
  clear h
  obtain ⟨S26, eS26, h⟩ := h2
  refine r_putR eS26 fk27 (Or.inr ⟨rfl, rfl, rfl, _, w289, rfl⟩) rfl d_K_init_59 ?_
  refine r_aload_n (i := 0) (x := (some k11)) 0 rfl d_K_init_62 ?_
  have h2 := kr_ob h
  clear h
  obtain ⟨S27, eS27, h⟩ := h2
  refine r_newO_ (κ := 13) eS27 (by decide) w136 w137 w77 d_K_init_63 ?_
  refine r_dup (kr_rfcat _) d_K_init_66 ?_
  have h2 := kr_ob h
  clear h
  obtain ⟨S28, eS28, h⟩ := h2
  refine r_callIN (M1 := m_Flow_init) (As := []) (s_Flow_init eS28) mok_Flow_init rfl rfl rfl w138 w139 (by decide) (kr_c8 (kr_cR (kr_cR kr_c0))) d_K_init_67 (kr_k0 ?_) kr_kn
  have h2 := kr_ob h
  clear h
  obtain ⟨S29, eS29, h⟩ := h2
  refine r_putR eS29 fk28 (Or.inl rfl) rfl d_K_init_70 ?_
  refine r_aload_n (i := 0) (x := (some k11)) 0 rfl d_K_init_73 ?_
  have h2 := kr_ob h
  clear h
  obtain ⟨S30, eS30, h⟩ := h2
  refine r_newO_ (κ := 10) eS30 (by decide) w162 w163 w80 d_K_init_74 ?_
  refine r_dup (kr_rfcat _) d_K_init_77 ?_
  have h2 := kr_ob h
  clear h
  obtain ⟨S31, eS31, h⟩ := h2
  refine r_callI (M1 := m_AL_init) (As := []) (s_AL_init eS31) mok_AL_init rfl rfl rfl w164 w165 (by decide) (kr_c8 (kr_cR (kr_cR kr_c0))) d_K_init_78 (kr_k0 ?_) kr_kn
  have h2 := kr_ob h
  clear h
  obtain ⟨S32, eS32, h⟩ := h2
  refine r_putR eS32 fk29 (Or.inr ⟨rfl, rfl, rfl, _, w291, rfl⟩) rfl d_K_init_81 ?_
  refine r_aload_n (i := 0) (x := (some k11)) 0 rfl d_K_init_84 ?_
  have h2 := kr_ob h
  clear h
  obtain ⟨S33, eS33, h⟩ := h2
  refine r_newO_ (κ := 10) eS33 (by decide) w162 w163 w80 d_K_init_85 ?_
  refine r_dup (kr_rfcat _) d_K_init_88 ?_
  have h2 := kr_ob h
  clear h
  obtain ⟨S34, eS34, h⟩ := h2
  refine r_callI (M1 := m_AL_init) (As := []) (s_AL_init eS34) mok_AL_init rfl rfl rfl w164 w165 (by decide) (kr_c8 (kr_cR (kr_cR kr_c0))) d_K_init_89 (kr_k0 ?_) kr_kn
  have h2 := kr_ob h
  clear h
  obtain ⟨S35, eS35, h⟩ := h2
  refine r_putR eS35 fk30 (Or.inr ⟨rfl, rfl, rfl, _, w292, rfl⟩) rfl d_K_init_92 ?_
  refine r_aload_n (i := 0) (x := (some k11)) 0 rfl d_K_init_95 ?_
  have h2 := kr_ob h
  clear h
  obtain ⟨S36, eS36, h⟩ := h2
  refine r_newO_ (κ := 10) eS36 (by decide) w162 w163 w80 d_K_init_96 ?_
  refine r_dup (kr_rfcat _) d_K_init_99 ?_
  have h2 := kr_ob h
  clear h
  obtain ⟨S37, eS37, h⟩ := h2
  refine r_callI (M1 := m_AL_init) (As := []) (s_AL_init eS37) mok_AL_init rfl rfl rfl w164 w165 (by decide) (kr_c8 (kr_cR (kr_cR kr_c0))) d_K_init_100 (kr_k0 ?_) kr_kn
  have h2 := kr_ob h
  clear h
  obtain ⟨S38, eS38, h⟩ := h2
  refine r_putR eS38 fk31 (Or.inr ⟨rfl, rfl, rfl, _, w293, rfl⟩) rfl d_K_init_103 ?_
  refine r_aload_n (i := 0) (x := (some k11)) 0 rfl d_K_init_106 ?_
  refine r_iconst (v := (4 : Int32)) (by decide) d_K_init_107 ?_
  have h2 := kr_ob h
  clear h
  obtain ⟨S39, eS39, h⟩ := h2
  refine r_newI eS39 w133 d_K_init_108 ?_
  have h2 := kr_ob h
  clear h
  obtain ⟨S40, eS40, h⟩ := h2
  refine r_putR eS40 fk32 (Or.inr ⟨rfl, rfl, rfl, _, w295, rfl⟩) rfl d_K_init_110 ?_
  refine r_aload_n (i := 0) (x := (some k11)) 0 rfl d_K_init_113 ?_
  refine r_iconst (v := (4 : Int32)) (by decide) d_K_init_114 ?_
  have h2 := kr_ob h
  clear h
  obtain ⟨S41, eS41, h⟩ := h2
  refine r_newV eS41 w188 d_K_init_115 ?_
  have h2 := kr_ob h
  clear h
  obtain ⟨S42, eS42, h⟩ := h2
  refine r_putR eS42 fk23 (Or.inr ⟨rfl, rfl, rfl, _, w296, rfl⟩) rfl d_K_init_118 ?_
  refine r_aload_n (i := 0) (x := (some k11)) 0 rfl d_K_init_121 ?_
  have h2 := kr_ob h
  clear h
  obtain ⟨S43, eS43, h⟩ := h2
  refine r_newO_ (κ := 10) eS43 (by decide) w162 w163 w80 d_K_init_122 ?_
  refine r_dup (kr_rfcat _) d_K_init_125 ?_
  have h2 := kr_ob h
  clear h
  obtain ⟨S44, eS44, h⟩ := h2
  refine r_callI (M1 := m_AL_init) (As := []) (s_AL_init eS44) mok_AL_init rfl rfl rfl w164 w165 (by decide) (kr_c8 (kr_cR (kr_cR kr_c0))) d_K_init_126 (kr_k0 ?_) kr_kn
  have h2 := kr_ob h
  clear h
  obtain ⟨S45, eS45, h⟩ := h2
  refine r_putR eS45 fk33 (Or.inr ⟨rfl, rfl, rfl, _, w297, rfl⟩) rfl d_K_init_129 ?_
  refine r_aload_n (i := 0) (x := (some k11)) 0 rfl d_K_init_132 ?_
  have h2 := kr_ob h
  clear h
  obtain ⟨S46, eS46, h⟩ := h2
  refine r_newO_ (κ := 10) eS46 (by decide) w162 w163 w80 d_K_init_133 ?_
  refine r_dup (kr_rfcat _) d_K_init_136 ?_
  have h2 := kr_ob h
  clear h
  obtain ⟨S47, eS47, h⟩ := h2
  refine r_callI (M1 := m_AL_init) (As := []) (s_AL_init eS47) mok_AL_init rfl rfl rfl w164 w165 (by decide) (kr_c8 (kr_cR (kr_cR kr_c0))) d_K_init_137 (kr_k0 ?_) kr_kn
  have h2 := kr_ob h
  clear h
  obtain ⟨S48, eS48, h⟩ := h2
  refine r_putR eS48 fk34 (Or.inr ⟨rfl, rfl, rfl, _, w298, rfl⟩) rfl d_K_init_140 ?_
  refine r_aload_n (i := 0) (x := (some k11)) 0 rfl d_K_init_143 ?_
  have h2 := kr_ob h
  clear h
  obtain ⟨S49, eS49, h⟩ := h2
  refine r_newO_ (κ := 10) eS49 (by decide) w162 w163 w80 d_K_init_144 ?_
  refine r_dup (kr_rfcat _) d_K_init_147 ?_
  have h2 := kr_ob h
  clear h
  obtain ⟨S50, eS50, h⟩ := h2
  refine r_callI (M1 := m_AL_init) (As := []) (s_AL_init eS50) mok_AL_init rfl rfl rfl w164 w165 (by decide) (kr_c8 (kr_cR (kr_cR kr_c0))) d_K_init_148 (kr_k0 ?_) kr_kn
  have h2 := kr_ob h
  clear h
  obtain ⟨S51, eS51, h⟩ := h2
  refine r_putR eS51 fk35 (Or.inr ⟨rfl, rfl, rfl, _, w299, rfl⟩) rfl d_K_init_151 ?_
  refine r_aload_n (i := 0) (x := (some k11)) 0 rfl d_K_init_154 ?_
  have h2 := kr_ob h
  clear h
  obtain ⟨S52, eS52, h⟩ := h2
  refine r_newO_ (κ := 15) eS52 (by decide) w190 w191 w81 d_K_init_155 ?_
  refine r_dup (kr_rfcat _) d_K_init_158 ?_
  have h2 := kr_ob h
  clear h
  obtain ⟨S53, eS53, h⟩ := h2
  refine r_callIN (M1 := m_Keyring_init) (As := []) (s_Keyring_init eS53) mok_Keyring_init rfl rfl rfl w192 w193 (by decide) (kr_c8 (kr_cR (kr_cR kr_c0))) d_K_init_159 (kr_k0 ?_) kr_kn
  have h2 := kr_ob h
  clear h
  obtain ⟨S54, eS54, h⟩ := h2
  refine r_putR eS54 fk36 (Or.inr ⟨rfl, rfl, rfl, _, w300, rfl⟩) rfl d_K_init_162 ?_
  refine r_aload_n (i := 0) (x := (some k11)) 0 rfl d_K_init_165 ?_
  have h2 := kr_ob h
  clear h
  obtain ⟨S55, eS55, h⟩ := h2
  refine r_newO_ (κ := 10) eS55 (by decide) w162 w163 w80 d_K_init_166 ?_
  refine r_dup (kr_rfcat _) d_K_init_169 ?_
  have h2 := kr_ob h
  clear h
  obtain ⟨S56, eS56, h⟩ := h2
  refine r_callI (M1 := m_AL_init) (As := []) (s_AL_init eS56) mok_AL_init rfl rfl rfl w164 w165 (by decide) (kr_c8 (kr_cR (kr_cR kr_c0))) d_K_init_170 (kr_k0 ?_) kr_kn
  have h2 := kr_ob h
  clear h
  obtain ⟨S57, eS57, h⟩ := h2
  refine r_putR eS57 fk37 (Or.inr ⟨rfl, rfl, rfl, _, w301, rfl⟩) rfl d_K_init_173 ?_
  refine r_aload_n (i := 0) (x := (some k11)) 0 rfl d_K_init_176 ?_
  refine r_bipush (v := (6 : Int32)) (by decide) d_K_init_177 ?_
  have h2 := kr_ob h
  clear h
  obtain ⟨S58, eS58, h⟩ := h2
  refine r_newI eS58 w133 d_K_init_179 ?_
  refine r_dup (kr_rfcat _) d_K_init_181 ?_
  refine r_iconst (v := (0 : Int32)) (by decide) d_K_init_182 ?_
  refine r_iconst (v := (-1 : Int32)) (by decide) d_K_init_183 ?_
  have h2 := kr_ob h
  clear h
  obtain ⟨S59, eS59, h⟩ := h2
  refine r_iastore eS59 d_K_init_184 ?_
  refine r_dup (kr_rfcat _) d_K_init_185 ?_
  refine r_iconst (v := (1 : Int32)) (by decide) d_K_init_186 ?_
  refine r_iconst (v := (-1 : Int32)) (by decide) d_K_init_187 ?_
  have h2 := kr_ob h
  clear h
  obtain ⟨S60, eS60, h⟩ := h2
  refine r_iastore eS60 d_K_init_188 ?_
  refine r_dup (kr_rfcat _) d_K_init_189 ?_
  refine r_iconst (v := (2 : Int32)) (by decide) d_K_init_190 ?_
  refine r_iconst (v := (-1 : Int32)) (by decide) d_K_init_191 ?_
  have h2 := kr_ob h
  clear h
  obtain ⟨S61, eS61, h⟩ := h2
  refine r_iastore eS61 d_K_init_192 ?_
  refine r_dup (kr_rfcat _) d_K_init_193 ?_
  refine r_iconst (v := (3 : Int32)) (by decide) d_K_init_194 ?_
  refine r_iconst (v := (-1 : Int32)) (by decide) d_K_init_195 ?_
  have h2 := kr_ob h
  clear h
  obtain ⟨S62, eS62, h⟩ := h2
  refine r_iastore eS62 d_K_init_196 ?_
  refine r_dup (kr_rfcat _) d_K_init_197 ?_
  refine r_iconst (v := (4 : Int32)) (by decide) d_K_init_198 ?_
  refine r_iconst (v := (-1 : Int32)) (by decide) d_K_init_199 ?_
  have h2 := kr_ob h
  clear h
  obtain ⟨S63, eS63, h⟩ := h2
  refine r_iastore eS63 d_K_init_200 ?_
  refine r_dup (kr_rfcat _) d_K_init_201 ?_
  refine r_iconst (v := (5 : Int32)) (by decide) d_K_init_202 ?_
  refine r_iconst (v := (-1 : Int32)) (by decide) d_K_init_203 ?_
  have h2 := kr_ob h
  clear h
  obtain ⟨S64, eS64, h⟩ := h2
  refine r_iastore eS64 d_K_init_204 ?_
  have h2 := kr_ob h
  clear h
  obtain ⟨S65, eS65, h⟩ := h2
  refine r_putR eS65 fk38 (Or.inr ⟨rfl, rfl, rfl, _, w302, rfl⟩) rfl d_K_init_205 ?_
  refine r_iconst (v := (0 : Int32)) (by decide) d_K_init_208 ?_
  refine r_istore_n (i := 1) (lv' := [(1, .int (0 : Int32)), (0, va_rf (some k11))]) (by decide) (by show kr_st _ 1 _ = _; simp [kr_st, kr_rfcat, kr_icat]) d_K_init_209 ?_
  exact kr_sub [1, 0] rfl (s_K_init_L210 kr_FU h)
/-! KeyringCourt.requireArgument(Z)V -/
def f_K_requireArgument (S : AS) (a0 : Int32) : Option ((Unit ⊕ String) × AS) :=
  if a0 = 0 then
  some (.inr "java/lang/IllegalArgumentException", wX S)
  else
  some (.inl (), S)
set_option maxRecDepth 20000 in
set_option maxHeartbeats 4000000 in
theorem s_K_requireArgument {S : AS} {a0 : Int32} {r : ((Unit ⊕ String) × AS)} (h : f_K_requireArgument S a0 = some r) : kr_Con m_K_requireArgument 7 [.int a0] S (kr_xV r) := by
  refine kr_con rfl rfl (by decide +kernel) (by simp [lg_sl, kr_rfcat, kr_icat, m_K_requireArgument, mL]) ?_
  rw [show lv_args 0 [.int a0] = [(0, .int a0)] from by simp [lv_args, kr_rfcat, kr_icat]]
  unfold f_K_requireArgument at h
  refine r_iload_n (i := 0) (x := a0) 0 rfl d_K_requireArgument_0 ?_
  refine r_if_ne (tgt := 12) d_K_requireArgument_1 rfl (fun c => ?_) (fun c => ?_)
  · replace h := kr_ip c h
    cases h
    exact r_throw ["java/lang/RuntimeException", "java/lang/Exception"] rfl th0 (by decide) (kr_c8 kr_c0) d_K_requireArgument_4 d_K_requireArgument_7 d_K_requireArgument_8 d_K_requireArgument_11
  · replace h := kr_in_ c h
    cases h
    exact r_vret rfl d_K_requireArgument_12
/-! KeyringCourt.requireState(Z)V -/
def f_K_requireState (S : AS) (a0 : Int32) : Option ((Unit ⊕ String) × AS) :=
  if a0 = 0 then
  some (.inr "java/lang/IllegalStateException", wX S)
  else
  some (.inl (), S)
set_option maxRecDepth 20000 in
set_option maxHeartbeats 4000000 in
theorem s_K_requireState {S : AS} {a0 : Int32} {r : ((Unit ⊕ String) × AS)} (h : f_K_requireState S a0 = some r) : kr_Con m_K_requireState 7 [.int a0] S (kr_xV r) := by
  refine kr_con rfl rfl (by decide +kernel) (by simp [lg_sl, kr_rfcat, kr_icat, m_K_requireState, mL]) ?_
  rw [show lv_args 0 [.int a0] = [(0, .int a0)] from by simp [lv_args, kr_rfcat, kr_icat]]
  unfold f_K_requireState at h
  refine r_iload_n (i := 0) (x := a0) 0 rfl d_K_requireState_0 ?_
  refine r_if_ne (tgt := 12) d_K_requireState_1 rfl (fun c => ?_) (fun c => ?_)
  · replace h := kr_ip c h
    cases h
    exact r_throw ["java/lang/RuntimeException", "java/lang/Exception"] rfl th1 (by decide) (kr_c8 kr_c0) d_K_requireState_4 d_K_requireState_7 d_K_requireState_8 d_K_requireState_11
  · replace h := kr_in_ c h
    cases h
    exact r_vret rfl d_K_requireState_12
/-! KeyringCourt.turnKeys()V -/
def f_K_turnKeys_B44 (S : AS) (x0 : Option Nat) : Option AS :=
  (gR S 22 15 x0).bind fun v1 =>
  (gI S 22 0 x0).bind fun v2 =>
  (kr_rv S 15 v1).bind fun u3 =>
  (f_Keyring_retire S v1 v2).bind fun S4 =>
  some S4
def f_K_turnKeys (S : AS) (a0 : Option Nat) : Option AS :=
  (gR S 22 15 a0).bind fun v5 =>
  (gI S 22 0 a0).bind fun v6 =>
  (kr_rv S 15 v5).bind fun u7 =>
  kr_b2 (f_Keyring_isDueToSign S v5 v6) fun v9 S8 =>
  if v9 = 0 then
  f_K_turnKeys_B44 S8 a0
  else
  (gR S8 22 15 a0).bind fun v10 =>
  (gI S8 22 0 a0).bind fun v11 =>
  (kr_rv S8 15 v10).bind fun u12 =>
  (f_Keyring_putWaitingToSign S8 v10 v11).bind fun S13 =>
  (gR S13 22 1 a0).bind fun v14 =>
  (gR S13 22 15 a0).bind fun v15 =>
  (gI S13 15 1 v15).bind fun v16 =>
  (gI S13 22 0 a0).bind fun v17 =>
  (kr_rv S13 12 v14).bind fun u18 =>
  (f_Audit_write S13 v14 (5 : Int32) v16 v17).bind fun S19 =>
  f_K_turnKeys_B44 S19 a0
set_option maxRecDepth 20000 in
set_option maxHeartbeats 4000000 in
theorem s_K_turnKeys_B44 {S : AS} {x0 : Option Nat} {r : AS} (h : f_K_turnKeys_B44 S x0 = some r) : kr_AW m_K_turnKeys 2 44 [(0, va_rf x0)] [] S (kr_eV r) := by
  unfold f_K_turnKeys_B44 at h
  refine r_aload_n (i := 0) (x := x0) 0 rfl d_K_turnKeys_44 ?_
  have h2 := kr_ob h
  clear h
  obtain ⟨v1, ev1, h⟩ := h2
  refine r_getR ev1 fk36 rfl d_K_turnKeys_45 ?_
  refine r_aload_n (i := 0) (x := x0) 0 rfl d_K_turnKeys_48 ?_
  have h2 := kr_ob h
  clear h
  obtain ⟨v2, ev2, h⟩ := h2
  refine r_getI ev2 fk113 rfl d_K_turnKeys_49 ?_
  have h2 := kr_ob h
  clear h
  obtain ⟨⟨⟩, eu3, h⟩ := h2
  have h2 := kr_ob h
  clear h
  obtain ⟨S4, eS4, h⟩ := h2
  refine r_callV (M1 := m_Keyring_retire) (κ := 15) (As := [.int v2]) eu3 (s_Keyring_retire eS4) mok_Keyring_retire rfl (by decide) rfl w481 w482 w483 (by decide) (kr_c8 kr_c0) d_K_turnKeys_52 (kr_k0 ?_) kr_kn
  cases h
  exact r_vret rfl d_K_turnKeys_55
set_option maxRecDepth 20000 in
set_option maxHeartbeats 4000000 in
theorem s_K_turnKeys {S : AS} {a0 : Option Nat} {r : AS} (h : f_K_turnKeys S a0 = some r) : kr_Con m_K_turnKeys 2 [va_rf a0] S (kr_eV r) := by
  refine kr_con rfl rfl (by decide +kernel) (by simp [lg_sl, kr_rfcat, kr_icat, m_K_turnKeys, mL]) ?_
  rw [show lv_args 0 [va_rf a0] = [(0, va_rf a0)] from by simp [lv_args, kr_rfcat, kr_icat]]
  unfold f_K_turnKeys at h
  refine r_aload_n (i := 0) (x := a0) 0 rfl d_K_turnKeys_0 ?_
  have h2 := kr_ob h
  clear h
  obtain ⟨v5, ev5, h⟩ := h2
  refine r_getR ev5 fk36 rfl d_K_turnKeys_1 ?_
  refine r_aload_n (i := 0) (x := a0) 0 rfl d_K_turnKeys_4 ?_
  have h2 := kr_ob h
  clear h
  obtain ⟨v6, ev6, h⟩ := h2
  refine r_getI ev6 fk113 rfl d_K_turnKeys_5 ?_
  have h2 := kr_ob h
  clear h
  obtain ⟨⟨⟩, eu7, h⟩ := h2
  have h2 := kr_ob2 h
  clear h
  obtain ⟨v9, S8, eS8, h⟩ := h2
  refine r_callV (M1 := m_Keyring_isDueToSign) (κ := 15) (As := [.int v6]) eu7 (s_Keyring_isDueToSign eS8) mok_Keyring_isDueToSign rfl (by decide) rfl w464 w465 w466 (by decide) (kr_c8 kr_c0) d_K_turnKeys_8 (kr_k1 ?_) kr_kn
  refine r_if_eq (tgt := 44) d_K_turnKeys_11 rfl (fun c => ?_) (fun c => ?_)
  · replace h := kr_ip c h
    exact kr_sub [0] rfl (s_K_turnKeys_B44 h)
  · replace h := kr_in_ c h
    refine r_aload_n (i := 0) (x := a0) 0 rfl d_K_turnKeys_14 ?_
    have h2 := kr_ob h
    clear h
    obtain ⟨v10, ev10, h⟩ := h2
    refine r_getR ev10 fk36 rfl d_K_turnKeys_15 ?_
    refine r_aload_n (i := 0) (x := a0) 0 rfl d_K_turnKeys_18 ?_
    have h2 := kr_ob h
    clear h
    obtain ⟨v11, ev11, h⟩ := h2
    refine r_getI ev11 fk113 rfl d_K_turnKeys_19 ?_
    have h2 := kr_ob h
    clear h
    obtain ⟨⟨⟩, eu12, h⟩ := h2
    have h2 := kr_ob h
    clear h
    obtain ⟨S13, eS13, h⟩ := h2
    refine r_callV (M1 := m_Keyring_putWaitingToSign) (κ := 15) (As := [.int v11]) eu12 (s_Keyring_putWaitingToSign eS13) mok_Keyring_putWaitingToSign rfl (by decide) rfl w468 w469 w470 (by decide) (kr_c8 kr_c0) d_K_turnKeys_22 (kr_k0 ?_) kr_kn
    refine r_aload_n (i := 0) (x := a0) 0 rfl d_K_turnKeys_25 ?_
    have h2 := kr_ob h
    clear h
    obtain ⟨v14, ev14, h⟩ := h2
    refine r_getR ev14 fk25 rfl d_K_turnKeys_26 ?_
    refine r_iconst (v := (5 : Int32)) (by decide) d_K_turnKeys_29 ?_
    refine r_aload_n (i := 0) (x := a0) 0 rfl d_K_turnKeys_30 ?_
    have h2 := kr_ob h
    clear h
    obtain ⟨v15, ev15, h⟩ := h2
    refine r_getR ev15 fk36 rfl d_K_turnKeys_31 ?_
    have h2 := kr_ob h
    clear h
    obtain ⟨v16, ev16, h⟩ := h2
    refine r_getI ev16 fk114 rfl d_K_turnKeys_34 ?_
    refine r_aload_n (i := 0) (x := a0) 0 rfl d_K_turnKeys_37 ?_
    have h2 := kr_ob h
    clear h
    obtain ⟨v17, ev17, h⟩ := h2
    refine r_getI ev17 fk113 rfl d_K_turnKeys_38 ?_
    have h2 := kr_ob h
    clear h
    obtain ⟨⟨⟩, eu18, h⟩ := h2
    have h2 := kr_ob h
    clear h
    obtain ⟨S19, eS19, h⟩ := h2
    refine r_callV (M1 := m_Audit_write) (κ := 12) (As := [.int (5 : Int32), .int v16, .int v17]) eu18 (s_Audit_write eS19) mok_Audit_write rfl (by decide) rfl w472 w473 w474 (by decide) (kr_c8 kr_c0) d_K_turnKeys_41 (kr_k0 ?_) kr_kn
    exact kr_sub [0] rfl (s_K_turnKeys_B44 h)
/-! KeyringCourt.markEnded(LKeyringCourt$Session;)V -/
def f_K_markEnded (S : AS) (a0 : Option Nat) (a1 : Option Nat) : Option AS :=
  (pZ S 19 6 a1 (0 : Int32)).bind fun S1 =>
  (gI S1 22 9 a0).bind fun v2 =>
  (pI S1 22 9 a0 (v2 - (1 : Int32))).bind fun S3 =>
  (gR S3 22 1 a0).bind fun v4 =>
  (gI S3 19 0 a1).bind fun v5 =>
  (gI S3 22 0 a0).bind fun v6 =>
  (kr_rv S3 12 v4).bind fun u7 =>
  (f_Audit_write S3 v4 (1 : Int32) v5 v6).bind fun S8 =>
  some S8
set_option maxRecDepth 20000 in
set_option maxHeartbeats 4000000 in
theorem s_K_markEnded {S : AS} {a0 : Option Nat} {a1 : Option Nat} {r : AS} (h : f_K_markEnded S a0 a1 = some r) : kr_Con m_K_markEnded 2 [va_rf a0, va_rf a1] S (kr_eV r) := by
  refine kr_con rfl rfl (by decide +kernel) (by simp [lg_sl, kr_rfcat, kr_icat, m_K_markEnded, mL]) ?_
  rw [show lv_args 0 [va_rf a0, va_rf a1] = [(0, va_rf a0), (1, va_rf a1)] from by simp [lv_args, kr_rfcat, kr_icat]]
  unfold f_K_markEnded at h
  refine r_aload_n (i := 1) (x := a1) 1 rfl d_K_markEnded_0 ?_
  refine r_iconst (v := (0 : Int32)) (by decide) d_K_markEnded_1 ?_
  have h2 := kr_ob h
  clear h
  obtain ⟨S1, eS1, h⟩ := h2
  refine r_putZ eS1 fk118 (Or.inl rfl) rfl d_K_markEnded_2 ?_
  refine r_aload_n (i := 0) (x := a0) 0 rfl d_K_markEnded_5 ?_
  refine r_dup (kr_rfcat _) d_K_markEnded_6 ?_
  have h2 := kr_ob h
  clear h
  obtain ⟨v2, ev2, h⟩ := h2
  refine r_getI ev2 fk119 rfl d_K_markEnded_7 ?_
  refine r_iconst (v := (1 : Int32)) (by decide) d_K_markEnded_10 ?_
  refine r_isub d_K_markEnded_11 ?_
  have h2 := kr_ob h
  clear h
  obtain ⟨S3, eS3, h⟩ := h2
  refine r_putI eS3 fk119 (Or.inl rfl) rfl d_K_markEnded_12 ?_
  refine r_aload_n (i := 0) (x := a0) 0 rfl d_K_markEnded_15 ?_
  have h2 := kr_ob h
  clear h
  obtain ⟨v4, ev4, h⟩ := h2
  refine r_getR ev4 fk25 rfl d_K_markEnded_16 ?_
  refine r_iconst (v := (1 : Int32)) (by decide) d_K_markEnded_19 ?_
  refine r_aload_n (i := 1) (x := a1) 1 rfl d_K_markEnded_20 ?_
  have h2 := kr_ob h
  clear h
  obtain ⟨v5, ev5, h⟩ := h2
  refine r_getI ev5 fk120 rfl d_K_markEnded_21 ?_
  refine r_aload_n (i := 0) (x := a0) 0 rfl d_K_markEnded_24 ?_
  have h2 := kr_ob h
  clear h
  obtain ⟨v6, ev6, h⟩ := h2
  refine r_getI ev6 fk113 rfl d_K_markEnded_25 ?_
  have h2 := kr_ob h
  clear h
  obtain ⟨⟨⟩, eu7, h⟩ := h2
  have h2 := kr_ob h
  clear h
  obtain ⟨S8, eS8, h⟩ := h2
  refine r_callV (M1 := m_Audit_write) (κ := 12) (As := [.int (1 : Int32), .int v5, .int v6]) eu7 (s_Audit_write eS8) mok_Audit_write rfl (by decide) rfl w472 w473 w474 (by decide) (kr_c8 kr_c0) d_K_markEnded_28 (kr_k0 ?_) kr_kn
  cases h
  exact r_vret rfl d_K_markEnded_31
/-! KeyringCourt.findService(I)LKeyringCourt$Service; -/
def f_K_findService_B23 (S : AS) (y0 : Option Nat) : Option ((Option Nat ⊕ String) × AS) :=
  if y0 = none then
  some (.inr "java/lang/IndexOutOfBoundsException", wX S)
  else
  some (.inl y0, S)
def f_K_findService_B22 (S : AS) : Option ((Option Nat ⊕ String) × AS) :=
  f_K_findService_B23 S none
def f_K_findService (S : AS) (a0 : Option Nat) (a1 : Int32) : Option ((Option Nat ⊕ String) × AS) :=
  if a1 < 0 then
  f_K_findService_B22 S
  else
  (gR S 22 11 a0).bind fun v1 =>
  (aN S v1).bind fun v2 =>
  if v2 ≤ a1 then
  f_K_findService_B22 S
  else
  (gR S 22 11 a0).bind fun v3 =>
  (aR S 45 v3 a1).bind fun v4 =>
  f_K_findService_B23 S v4
set_option maxRecDepth 20000 in
set_option maxHeartbeats 4000000 in
theorem s_K_findService_B23 {S : AS} {y0 : Option Nat} {r : ((Option Nat ⊕ String) × AS)} (h : f_K_findService_B23 S y0 = some r) : kr_AW m_K_findService 7 23 [] [va_rf y0] S (kr_xR r) := by
  unfold f_K_findService_B23 at h
  refine r_astore_n (i := 2) (lv' := [(2, va_rf y0)]) (by decide) rfl d_K_findService_23 ?_
  refine r_aload_n (i := 2) (x := y0) 0 rfl d_K_findService_24 ?_
  refine r_ifnonnull (tgt := 36) d_K_findService_25 rfl (fun c => ?_) (fun c => ?_)
  · replace h := kr_ip c h
    cases h
    exact r_throw ["java/lang/RuntimeException", "java/lang/Exception"] rfl th2 (by decide) (kr_c8 kr_c0) d_K_findService_28 d_K_findService_31 d_K_findService_32 d_K_findService_35
  · replace h := kr_in_ c h
    refine r_aload_n (i := 2) (x := y0) 0 rfl d_K_findService_36 ?_
    cases h
    exact r_aret rfl rfl d_K_findService_37
set_option maxRecDepth 20000 in
set_option maxHeartbeats 4000000 in
theorem s_K_findService_B22 {S : AS} {r : ((Option Nat ⊕ String) × AS)} (h : f_K_findService_B22 S = some r) : kr_AW m_K_findService 7 22 [] [] S (kr_xR r) := by
  unfold f_K_findService_B22 at h
  refine r_null d_K_findService_22 ?_
  exact kr_sub [] rfl (s_K_findService_B23 h)
set_option maxRecDepth 20000 in
set_option maxHeartbeats 4000000 in
theorem s_K_findService {S : AS} {a0 : Option Nat} {a1 : Int32} {r : ((Option Nat ⊕ String) × AS)} (h : f_K_findService S a0 a1 = some r) : kr_Con m_K_findService 7 [va_rf a0, .int a1] S (kr_xR r) := by
  refine kr_con rfl rfl (by decide +kernel) (by simp [lg_sl, kr_rfcat, kr_icat, m_K_findService, mL]) ?_
  rw [show lv_args 0 [va_rf a0, .int a1] = [(0, va_rf a0), (1, .int a1)] from by simp [lv_args, kr_rfcat, kr_icat]]
  unfold f_K_findService at h
  refine r_iload_n (i := 1) (x := a1) 1 rfl d_K_findService_0 ?_
  refine r_if_lt (tgt := 22) d_K_findService_1 rfl (fun c => ?_) (fun c => ?_)
  · replace h := kr_ip c h
    exact kr_sub [] rfl (s_K_findService_B22 h)
  · replace h := kr_in_ c h
    refine r_iload_n (i := 1) (x := a1) 1 rfl d_K_findService_4 ?_
    refine r_aload_n (i := 0) (x := a0) 0 rfl d_K_findService_5 ?_
    have h2 := kr_ob h
    clear h
    obtain ⟨v1, ev1, h⟩ := h2
    refine r_getR ev1 fk23 rfl d_K_findService_6 ?_
    have h2 := kr_ob h
    clear h
    obtain ⟨v2, ev2, h⟩ := h2
    refine r_alen ev2 d_K_findService_9 ?_
    refine r_icmp_ge (tgt := 22) d_K_findService_10 rfl (fun c => ?_) (fun c => ?_)
    · replace h := kr_ip c h
      exact kr_sub [] rfl (s_K_findService_B22 h)
    · replace h := kr_in_ c h
      refine r_aload_n (i := 0) (x := a0) 0 rfl d_K_findService_13 ?_
      have h2 := kr_ob h
      clear h
      obtain ⟨v3, ev3, h⟩ := h2
      refine r_getR ev3 fk23 rfl d_K_findService_14 ?_
      refine r_iload_n (i := 1) (x := a1) 1 rfl d_K_findService_17 ?_
      have h2 := kr_ob h
      clear h
      obtain ⟨v4, ev4, h⟩ := h2
      refine r_aaload (by decide) ev4 d_K_findService_18 ?_
      refine r_goto (tgt := 23) d_K_findService_19 rfl ?_
      exact kr_sub [] rfl (s_K_findService_B23 h)
/-! KeyringCourt.endFamily(LKeyringCourt$Grant;)V -/
def f_K_endFamily_B53 (k31 : AS → Option Nat → Option Nat → Int32 → Option ((Unit ⊕ String) × AS)) (S : AS) (x0 : Option Nat) (x1 : Option Nat) (x2 : Int32) : Option ((Unit ⊕ String) × AS) :=
  (some (x2 + (1 : Int32))).bind fun i1 =>
  k31 S x0 x1 i1
def f_K_endFamily_C31 (k31 : AS → Option Nat → Option Nat → Int32 → Option ((Unit ⊕ String) × AS)) (S : AS) (x0 : Option Nat) (x1 : Option Nat) (x2 : Int32) : Option ((Unit ⊕ String) × AS) :=
  if (4 : Int32) ≤ x2 then
  some (.inl (), S)
  else
  (kr_rv S 22 x0).bind fun u2 =>
  kr_bx (f_K_findService S x0 x2) fun v4 S3 =>
  (gI S3 18 1 v4).bind fun v5 =>
  if v5 = 0 then
  f_K_endFamily_B53 k31 S3 x0 x1 x2
  else
  (kr_rv S3 14 x1).bind fun u6 =>
  kr_b2 (f_Grant_tell S3 x1 x2) fun v8 S7 =>
  f_K_endFamily_B53 k31 S7 x0 x1 x2
def f_K_endFamily_L31 : Nat → AS → Option Nat → Option Nat → Int32 → Option ((Unit ⊕ String) × AS)
  | 0, S, x0, x1, x2 => none
  | n + 1, S, x0, x1, x2 => f_K_endFamily_C31 (f_K_endFamily_L31 n) S x0 x1 x2
def f_K_endFamily (S : AS) (a0 : Option Nat) (a1 : Option Nat) : Option ((Unit ⊕ String) × AS) :=
  (gI S 14 6 a1).bind fun v9 =>
  if v9 = 0 then
  some (.inl (), S)
  else
  (pZ S 14 6 a1 (0 : Int32)).bind fun S10 =>
  (gR S10 22 1 a0).bind fun v11 =>
  (gI S10 14 5 a1).bind fun v12 =>
  (gI S10 22 0 a0).bind fun v13 =>
  (kr_rv S10 12 v11).bind fun u14 =>
  (f_Audit_write S10 v11 (3 : Int32) v12 v13).bind fun S15 =>
  f_K_endFamily_L31 kr_FU S15 a0 a1 (0 : Int32)
set_option maxRecDepth 20000 in
set_option maxHeartbeats 4000000 in
theorem s_K_endFamily_B53 {k31 : AS → Option Nat → Option Nat → Int32 → Option ((Unit ⊕ String) × AS)} (hk31 : ∀ {S : AS} {x0 : Option Nat} {x1 : Option Nat} {x2 : Int32} {r : ((Unit ⊕ String) × AS)}, k31 S x0 x1 x2 = some r → kr_AW m_K_endFamily 8 31 [(0, va_rf x0), (1, va_rf x1), (2, .int x2)] [] S (kr_xV r)) {S : AS} {x0 : Option Nat} {x1 : Option Nat} {x2 : Int32} {r : ((Unit ⊕ String) × AS)} (h : f_K_endFamily_B53 k31 S x0 x1 x2 = some r) : kr_AW m_K_endFamily 8 53 [(0, va_rf x0), (1, va_rf x1), (2, .int x2)] [] S (kr_xV r) := by
  unfold f_K_endFamily_B53 at h
  have h2 := kr_ob h
  clear h
  obtain ⟨i1, ei1, h⟩ := h2
  refine r_iinc (v := i1) (lv' := [(2, .int i1), (0, va_rf x0), (1, va_rf x1)]) 2 rfl (kr_inc (by decide) ei1) (by decide) (by simp [kr_st, kr_rfcat, kr_icat]) d_K_endFamily_53 ?_
  refine r_goto (tgt := 31) d_K_endFamily_56 rfl ?_
  exact kr_sub [1, 2, 0] rfl (hk31 h)
set_option maxRecDepth 20000 in
set_option maxHeartbeats 4000000 in
theorem s_K_endFamily_C31 {k31 : AS → Option Nat → Option Nat → Int32 → Option ((Unit ⊕ String) × AS)} (hk31 : ∀ {S : AS} {x0 : Option Nat} {x1 : Option Nat} {x2 : Int32} {r : ((Unit ⊕ String) × AS)}, k31 S x0 x1 x2 = some r → kr_AW m_K_endFamily 8 31 [(0, va_rf x0), (1, va_rf x1), (2, .int x2)] [] S (kr_xV r)) {S : AS} {x0 : Option Nat} {x1 : Option Nat} {x2 : Int32} {r : ((Unit ⊕ String) × AS)} (h : f_K_endFamily_C31 k31 S x0 x1 x2 = some r) : kr_AW m_K_endFamily 8 31 [(0, va_rf x0), (1, va_rf x1), (2, .int x2)] [] S (kr_xV r) := by
  unfold f_K_endFamily_C31 at h
  refine r_iload_n (i := 2) (x := x2) 2 rfl d_K_endFamily_31 ?_
  refine r_iconst (v := (4 : Int32)) (by decide) d_K_endFamily_32 ?_
  refine r_icmp_ge (tgt := 59) d_K_endFamily_33 rfl (fun c => ?_) (fun c => ?_)
  · replace h := kr_ip c h
    cases h
    exact r_vret rfl d_K_endFamily_59
  · replace h := kr_in_ c h
    refine r_aload_n (i := 0) (x := x0) 0 rfl d_K_endFamily_36 ?_
    refine r_iload_n (i := 2) (x := x2) 2 rfl d_K_endFamily_37 ?_
    have h2 := kr_ob h
    clear h
    obtain ⟨⟨⟩, eu2, h⟩ := h2
    rcases kr_obx h with ⟨v4, S3, eS3, h2⟩ | ⟨E, S3, eS3, h2⟩
    · clear h
      have h := h2
      clear h2
      refine r_callV (M1 := m_K_findService) (κ := 22) (As := [.int x2]) eu2 (s_K_findService eS3) mok_K_findService rfl (by decide) rfl w525 w527 w8 (by decide) (kr_c8 kr_c0) d_K_endFamily_38 (kr_k1 ?_) kr_kn
      have h2 := kr_ob h
      clear h
      obtain ⟨v5, ev5, h⟩ := h2
      refine r_getI ev5 fk123 rfl d_K_endFamily_41 ?_
      refine r_if_eq (tgt := 53) d_K_endFamily_44 rfl (fun c => ?_) (fun c => ?_)
      · replace h := kr_ip c h
        exact kr_sub [0, 1, 2] rfl (s_K_endFamily_B53 hk31 h)
      · replace h := kr_in_ c h
        refine r_aload_n (i := 1) (x := x1) 1 rfl d_K_endFamily_47 ?_
        refine r_iload_n (i := 2) (x := x2) 2 rfl d_K_endFamily_48 ?_
        have h2 := kr_ob h
        clear h
        obtain ⟨⟨⟩, eu6, h⟩ := h2
        have h2 := kr_ob2 h
        clear h
        obtain ⟨v8, S7, eS7, h⟩ := h2
        refine r_callV (M1 := m_Grant_tell) (κ := 14) (As := [.int x2]) eu6 (s_Grant_tell eS7) mok_Grant_tell rfl (by decide) rfl w544 w545 w546 (by decide) (kr_c8 kr_c0) d_K_endFamily_49 (kr_k1 ?_) kr_kn
        refine r_pop rfl d_K_endFamily_52 ?_
        exact kr_sub [0, 1, 2] rfl (s_K_endFamily_B53 hk31 h)
    · cases h2
      exact r_callV (M1 := m_K_findService) (κ := 22) (As := [.int x2]) eu2 (s_K_findService eS3) mok_K_findService rfl (by decide) rfl w525 w527 w8 (by decide) (kr_c8 kr_c0) d_K_endFamily_38 kr_nk (kr_kx (r_out rfl))
theorem s_K_endFamily_L31 (n : Nat) : ∀ {S : AS} {x0 : Option Nat} {x1 : Option Nat} {x2 : Int32} {r : ((Unit ⊕ String) × AS)}, f_K_endFamily_L31 n S x0 x1 x2 = some r → kr_AW m_K_endFamily 8 31 [(0, va_rf x0), (1, va_rf x1), (2, .int x2)] [] S (kr_xV r) := by
  induction n with
  | zero => intro S x0 x1 x2 r h; cases h
  | succ n ih => intro S x0 x1 x2 r h; exact s_K_endFamily_C31 (fun {_} {_} {_} {_} {_} h => ih h) h
set_option maxRecDepth 20000 in
set_option maxHeartbeats 4000000 in
theorem s_K_endFamily {S : AS} {a0 : Option Nat} {a1 : Option Nat} {r : ((Unit ⊕ String) × AS)} (h : f_K_endFamily S a0 a1 = some r) : kr_Con m_K_endFamily 8 [va_rf a0, va_rf a1] S (kr_xV r) := by
  refine kr_con rfl rfl (by decide +kernel) (by simp [lg_sl, kr_rfcat, kr_icat, m_K_endFamily, mL]) ?_
  rw [show lv_args 0 [va_rf a0, va_rf a1] = [(0, va_rf a0), (1, va_rf a1)] from by simp [lv_args, kr_rfcat, kr_icat]]
  unfold f_K_endFamily at h
  refine r_aload_n (i := 1) (x := a1) 1 rfl d_K_endFamily_0 ?_
  have h2 := kr_ob h
  clear h
  obtain ⟨v9, ev9, h⟩ := h2
  refine r_getI ev9 fk124 rfl d_K_endFamily_1 ?_
  refine r_if_ne (tgt := 8) d_K_endFamily_4 rfl (fun c => ?_) (fun c => ?_)
  · replace h := kr_ip c h
    cases h
    exact r_vret rfl d_K_endFamily_7
  · replace h := kr_in_ c h
    refine r_aload_n (i := 1) (x := a1) 1 rfl d_K_endFamily_8 ?_
    refine r_iconst (v := (0 : Int32)) (by decide) d_K_endFamily_9 ?_
    have h2 := kr_ob h
    clear h
    obtain ⟨S10, eS10, h⟩ := h2
    refine r_putZ eS10 fk124 (Or.inl rfl) rfl d_K_endFamily_10 ?_
    refine r_aload_n (i := 0) (x := a0) 0 rfl d_K_endFamily_13 ?_
    have h2 := kr_ob h
    clear h
    obtain ⟨v11, ev11, h⟩ := h2
    refine r_getR ev11 fk25 rfl d_K_endFamily_14 ?_
    refine r_iconst (v := (3 : Int32)) (by decide) d_K_endFamily_17 ?_
    refine r_aload_n (i := 1) (x := a1) 1 rfl d_K_endFamily_18 ?_
    have h2 := kr_ob h
    clear h
    obtain ⟨v12, ev12, h⟩ := h2
    refine r_getI ev12 fk125 rfl d_K_endFamily_19 ?_
    refine r_aload_n (i := 0) (x := a0) 0 rfl d_K_endFamily_22 ?_
    have h2 := kr_ob h
    clear h
    obtain ⟨v13, ev13, h⟩ := h2
    refine r_getI ev13 fk113 rfl d_K_endFamily_23 ?_
    have h2 := kr_ob h
    clear h
    obtain ⟨⟨⟩, eu14, h⟩ := h2
    have h2 := kr_ob h
    clear h
    obtain ⟨S15, eS15, h⟩ := h2
    refine r_callV (M1 := m_Audit_write) (κ := 12) (As := [.int (3 : Int32), .int v12, .int v13]) eu14 (s_Audit_write eS15) mok_Audit_write rfl (by decide) rfl w472 w473 w474 (by decide) (kr_c8 kr_c0) d_K_endFamily_26 (kr_k0 ?_) kr_kn
    refine r_iconst (v := (0 : Int32)) (by decide) d_K_endFamily_29 ?_
    refine r_istore_n (i := 2) (lv' := [(2, .int (0 : Int32)), (0, va_rf a0), (1, va_rf a1)]) (by decide) (by show kr_st _ 2 _ = _; simp [kr_st, kr_rfcat, kr_icat]) d_K_endFamily_30 ?_
    exact kr_sub [1, 2, 0] rfl (s_K_endFamily_L31 kr_FU h)
/-! KeyringCourt.endFamiliesOf(LKeyringCourt$Session;)V -/
def f_K_endFamiliesOf_B38 (k2 : AS → Option Nat → Option Nat → Int32 → Option ((Unit ⊕ String) × AS)) (S : AS) (x0 : Option Nat) (x1 : Option Nat) (x2 : Int32) : Option ((Unit ⊕ String) × AS) :=
  (some (x2 + (1 : Int32))).bind fun i1 =>
  k2 S x0 x1 i1
def f_K_endFamiliesOf_C2 (k2 : AS → Option Nat → Option Nat → Int32 → Option ((Unit ⊕ String) × AS)) (S : AS) (x0 : Option Nat) (x1 : Option Nat) (x2 : Int32) : Option ((Unit ⊕ String) × AS) :=
  (gR S 22 13 x0).bind fun v2 =>
  (kr_rv S 10 v2).bind fun u3 =>
  kr_b2 (f_AL_size S v2) fun v5 S4 =>
  if v5 ≤ x2 then
  some (.inl (), S4)
  else
  (gR S4 22 13 x0).bind fun v6 =>
  (kr_rv S4 10 v6).bind fun u7 =>
  kr_b2 (f_AL_get S4 v6 x2) fun v9 S8 =>
  (kr_cc S8 14 v9).bind fun u10 =>
  (gR S8 14 0 v9).bind fun v11 =>
  (kr_ac S8 v11).bind fun u12 =>
  (kr_ac S8 x1).bind fun u13 =>
  if v11 = x1 then
  (kr_rv S8 22 x0).bind fun u14 =>
  kr_bx (f_K_endFamily S8 x0 v9) fun z16 S15 =>
  f_K_endFamiliesOf_B38 k2 S15 x0 x1 x2
  else
  f_K_endFamiliesOf_B38 k2 S8 x0 x1 x2
def f_K_endFamiliesOf_L2 : Nat → AS → Option Nat → Option Nat → Int32 → Option ((Unit ⊕ String) × AS)
  | 0, S, x0, x1, x2 => none
  | n + 1, S, x0, x1, x2 => f_K_endFamiliesOf_C2 (f_K_endFamiliesOf_L2 n) S x0 x1 x2
def f_K_endFamiliesOf (S : AS) (a0 : Option Nat) (a1 : Option Nat) : Option ((Unit ⊕ String) × AS) :=
  f_K_endFamiliesOf_L2 kr_FU S a0 a1 (0 : Int32)
set_option maxRecDepth 20000 in
set_option maxHeartbeats 4000000 in
theorem s_K_endFamiliesOf_B38 {k2 : AS → Option Nat → Option Nat → Int32 → Option ((Unit ⊕ String) × AS)} (hk2 : ∀ {S : AS} {x0 : Option Nat} {x1 : Option Nat} {x2 : Int32} {r : ((Unit ⊕ String) × AS)}, k2 S x0 x1 x2 = some r → kr_AW m_K_endFamiliesOf 9 2 [(0, va_rf x0), (1, va_rf x1), (2, .int x2)] [] S (kr_xV r)) {S : AS} {x0 : Option Nat} {x1 : Option Nat} {x2 : Int32} {r : ((Unit ⊕ String) × AS)} (h : f_K_endFamiliesOf_B38 k2 S x0 x1 x2 = some r) : kr_AW m_K_endFamiliesOf 9 38 [(0, va_rf x0), (1, va_rf x1), (2, .int x2)] [] S (kr_xV r) := by
  unfold f_K_endFamiliesOf_B38 at h
  have h2 := kr_ob h
  clear h
  obtain ⟨i1, ei1, h⟩ := h2
  refine r_iinc (v := i1) (lv' := [(2, .int i1), (0, va_rf x0), (1, va_rf x1)]) 2 rfl (kr_inc (by decide) ei1) (by decide) (by simp [kr_st, kr_rfcat, kr_icat]) d_K_endFamiliesOf_38 ?_
  refine r_goto (tgt := 2) d_K_endFamiliesOf_41 rfl ?_
  exact kr_sub [1, 2, 0] rfl (hk2 h)
set_option maxRecDepth 20000 in
set_option maxHeartbeats 4000000 in
theorem s_K_endFamiliesOf_C2 {k2 : AS → Option Nat → Option Nat → Int32 → Option ((Unit ⊕ String) × AS)} (hk2 : ∀ {S : AS} {x0 : Option Nat} {x1 : Option Nat} {x2 : Int32} {r : ((Unit ⊕ String) × AS)}, k2 S x0 x1 x2 = some r → kr_AW m_K_endFamiliesOf 9 2 [(0, va_rf x0), (1, va_rf x1), (2, .int x2)] [] S (kr_xV r)) {S : AS} {x0 : Option Nat} {x1 : Option Nat} {x2 : Int32} {r : ((Unit ⊕ String) × AS)} (h : f_K_endFamiliesOf_C2 k2 S x0 x1 x2 = some r) : kr_AW m_K_endFamiliesOf 9 2 [(0, va_rf x0), (1, va_rf x1), (2, .int x2)] [] S (kr_xV r) := by
  unfold f_K_endFamiliesOf_C2 at h
  refine r_iload_n (i := 2) (x := x2) 2 rfl d_K_endFamiliesOf_2 ?_
  refine r_aload_n (i := 0) (x := x0) 0 rfl d_K_endFamiliesOf_3 ?_
  have h2 := kr_ob h
  clear h
  obtain ⟨v2, ev2, h⟩ := h2
  refine r_getR ev2 fk34 rfl d_K_endFamiliesOf_4 ?_
  have h2 := kr_ob h
  clear h
  obtain ⟨⟨⟩, eu3, h⟩ := h2
  have h2 := kr_ob2 h
  clear h
  obtain ⟨v5, S4, eS4, h⟩ := h2
  refine r_callV (M1 := m_AL_size) (κ := 10) (As := []) eu3 (s_AL_size eS4) mok_AL_size rfl (by decide) rfl w348 w349 w350 (by decide) (kr_c8 (kr_cI kr_c0)) d_K_endFamiliesOf_7 (kr_k1 ?_) kr_kn
  refine r_icmp_ge (tgt := 44) d_K_endFamiliesOf_10 rfl (fun c => ?_) (fun c => ?_)
  · replace h := kr_ip c h
    cases h
    exact r_vret rfl d_K_endFamiliesOf_44
  · replace h := kr_in_ c h
    refine r_aload_n (i := 0) (x := x0) 0 rfl d_K_endFamiliesOf_13 ?_
    have h2 := kr_ob h
    clear h
    obtain ⟨v6, ev6, h⟩ := h2
    refine r_getR ev6 fk34 rfl d_K_endFamiliesOf_14 ?_
    refine r_iload_n (i := 2) (x := x2) 2 rfl d_K_endFamiliesOf_17 ?_
    have h2 := kr_ob h
    clear h
    obtain ⟨⟨⟩, eu7, h⟩ := h2
    have h2 := kr_ob2 h
    clear h
    obtain ⟨v9, S8, eS8, h⟩ := h2
    refine r_callV (M1 := m_AL_get) (κ := 10) (As := [.int x2]) eu7 (s_AL_get eS8) mok_AL_get rfl (by decide) rfl w489 w490 w491 (by decide) (kr_c8 kr_c0) d_K_endFamiliesOf_18 (kr_k1 ?_) kr_kn
    have h2 := kr_ob h
    clear h
    obtain ⟨⟨⟩, eu10, h⟩ := h2
    refine r_cast eu10 (by decide) w520 d_K_endFamiliesOf_21 ?_
    refine r_astore_n (i := 3) (lv' := [(3, va_rf v9), (0, va_rf x0), (1, va_rf x1), (2, .int x2)]) (by decide) rfl d_K_endFamiliesOf_24 ?_
    refine r_aload_n (i := 3) (x := v9) 0 rfl d_K_endFamiliesOf_25 ?_
    have h2 := kr_ob h
    clear h
    obtain ⟨v11, ev11, h⟩ := h2
    refine r_getR ev11 fk126 rfl d_K_endFamiliesOf_26 ?_
    refine r_aload_n (i := 1) (x := x1) 2 rfl d_K_endFamiliesOf_29 ?_
    have h2 := kr_ob h
    clear h
    obtain ⟨⟨⟩, eu12, h⟩ := h2
    have h2 := kr_ob h
    clear h
    obtain ⟨⟨⟩, eu13, h⟩ := h2
    refine r_acmp_ne (tgt := 38) eu12 eu13 d_K_endFamiliesOf_30 rfl (fun c => ?_) (fun c => ?_)
    · replace h := kr_ip c h
      refine r_aload_n (i := 0) (x := x0) 1 rfl d_K_endFamiliesOf_33 ?_
      refine r_aload_n (i := 3) (x := v9) 0 rfl d_K_endFamiliesOf_34 ?_
      have h2 := kr_ob h
      clear h
      obtain ⟨⟨⟩, eu14, h⟩ := h2
      rcases kr_obx h with ⟨z16, S15, eS15, h2⟩ | ⟨E, S15, eS15, h2⟩
      · clear h
        have h := h2
        clear h2
        refine r_callV (M1 := m_K_endFamily) (κ := 22) (As := [va_rf v9]) eu14 (s_K_endFamily eS15) mok_K_endFamily rfl (by decide) rfl w521 w523 w7 (by decide) (kr_c8 kr_c0) d_K_endFamiliesOf_35 (kr_k0 ?_) kr_kn
        exact kr_sub [1, 2, 3] rfl (s_K_endFamiliesOf_B38 hk2 h)
      · cases h2
        exact r_callV (M1 := m_K_endFamily) (κ := 22) (As := [va_rf v9]) eu14 (s_K_endFamily eS15) mok_K_endFamily rfl (by decide) rfl w521 w523 w7 (by decide) (kr_c8 kr_c0) d_K_endFamiliesOf_35 kr_nk (kr_kx (r_out rfl))
    · replace h := kr_in_ c h
      exact kr_sub [1, 2, 3] rfl (s_K_endFamiliesOf_B38 hk2 h)
theorem s_K_endFamiliesOf_L2 (n : Nat) : ∀ {S : AS} {x0 : Option Nat} {x1 : Option Nat} {x2 : Int32} {r : ((Unit ⊕ String) × AS)}, f_K_endFamiliesOf_L2 n S x0 x1 x2 = some r → kr_AW m_K_endFamiliesOf 9 2 [(0, va_rf x0), (1, va_rf x1), (2, .int x2)] [] S (kr_xV r) := by
  induction n with
  | zero => intro S x0 x1 x2 r h; cases h
  | succ n ih => intro S x0 x1 x2 r h; exact s_K_endFamiliesOf_C2 (fun {_} {_} {_} {_} {_} h => ih h) h
set_option maxRecDepth 20000 in
set_option maxHeartbeats 4000000 in
theorem s_K_endFamiliesOf {S : AS} {a0 : Option Nat} {a1 : Option Nat} {r : ((Unit ⊕ String) × AS)} (h : f_K_endFamiliesOf S a0 a1 = some r) : kr_Con m_K_endFamiliesOf 9 [va_rf a0, va_rf a1] S (kr_xV r) := by
  refine kr_con rfl rfl (by decide +kernel) (by simp [lg_sl, kr_rfcat, kr_icat, m_K_endFamiliesOf, mL]) ?_
  rw [show lv_args 0 [va_rf a0, va_rf a1] = [(0, va_rf a0), (1, va_rf a1)] from by simp [lv_args, kr_rfcat, kr_icat]]
  unfold f_K_endFamiliesOf at h
  refine r_iconst (v := (0 : Int32)) (by decide) d_K_endFamiliesOf_0 ?_
  refine r_istore_n (i := 2) (lv' := [(2, .int (0 : Int32)), (0, va_rf a0), (1, va_rf a1)]) (by decide) (by show kr_st _ 2 _ = _; simp [kr_st, kr_rfcat, kr_icat]) d_K_endFamiliesOf_1 ?_
  exact kr_sub [1, 2, 0] rfl (s_K_endFamiliesOf_L2 kr_FU h)
/-! KeyringCourt.endSession(LKeyringCourt$Session;)V -/
def f_K_endSession_B55 (k7 : AS → Option Nat → Option Nat → Int32 → Option ((Unit ⊕ String) × AS)) (S : AS) (x0 : Option Nat) (x1 : Option Nat) (x2 : Int32) : Option ((Unit ⊕ String) × AS) :=
  (some (x2 + (1 : Int32))).bind fun i1 =>
  k7 S x0 x1 i1
def f_K_endSession_C7 (k7 : AS → Option Nat → Option Nat → Int32 → Option ((Unit ⊕ String) × AS)) (S : AS) (x0 : Option Nat) (x1 : Option Nat) (x2 : Int32) : Option ((Unit ⊕ String) × AS) :=
  (gR S 22 8 x0).bind fun v2 =>
  (kr_rv S 10 v2).bind fun u3 =>
  kr_b2 (f_AL_size S v2) fun v5 S4 =>
  if v5 ≤ x2 then
  (kr_rv S4 22 x0).bind fun u6 =>
  kr_bx (f_K_endFamiliesOf S4 x0 x1) fun z8 S7 =>
  some (.inl (), S7)
  else
  (gR S4 22 8 x0).bind fun v9 =>
  (kr_rv S4 10 v9).bind fun u10 =>
  kr_b2 (f_AL_get S4 v9 x2) fun v12 S11 =>
  (kr_cc S11 19 v12).bind fun u13 =>
  (gR S11 19 2 v12).bind fun v14 =>
  (kr_ac S11 v14).bind fun u15 =>
  (kr_ac S11 x1).bind fun u16 =>
  if v14 = x1 then
  (gI S11 19 6 v12).bind fun v17 =>
  if v17 = 0 then
  f_K_endSession_B55 k7 S11 x0 x1 x2
  else
  (kr_rv S11 22 x0).bind fun u18 =>
  (f_K_markEnded S11 x0 v12).bind fun S19 =>
  (kr_rv S19 22 x0).bind fun u20 =>
  kr_bx (f_K_endFamiliesOf S19 x0 v12) fun z22 S21 =>
  f_K_endSession_B55 k7 S21 x0 x1 x2
  else
  f_K_endSession_B55 k7 S11 x0 x1 x2
def f_K_endSession_L7 : Nat → AS → Option Nat → Option Nat → Int32 → Option ((Unit ⊕ String) × AS)
  | 0, S, x0, x1, x2 => none
  | n + 1, S, x0, x1, x2 => f_K_endSession_C7 (f_K_endSession_L7 n) S x0 x1 x2
def f_K_endSession (S : AS) (a0 : Option Nat) (a1 : Option Nat) : Option ((Unit ⊕ String) × AS) :=
  (kr_rv S 22 a0).bind fun u23 =>
  (f_K_markEnded S a0 a1).bind fun S24 =>
  f_K_endSession_L7 kr_FU S24 a0 a1 (0 : Int32)
set_option maxRecDepth 20000 in
set_option maxHeartbeats 4000000 in
theorem s_K_endSession_B55 {k7 : AS → Option Nat → Option Nat → Int32 → Option ((Unit ⊕ String) × AS)} (hk7 : ∀ {S : AS} {x0 : Option Nat} {x1 : Option Nat} {x2 : Int32} {r : ((Unit ⊕ String) × AS)}, k7 S x0 x1 x2 = some r → kr_AW m_K_endSession 10 7 [(0, va_rf x0), (1, va_rf x1), (2, .int x2)] [] S (kr_xV r)) {S : AS} {x0 : Option Nat} {x1 : Option Nat} {x2 : Int32} {r : ((Unit ⊕ String) × AS)} (h : f_K_endSession_B55 k7 S x0 x1 x2 = some r) : kr_AW m_K_endSession 10 55 [(0, va_rf x0), (1, va_rf x1), (2, .int x2)] [] S (kr_xV r) := by
  unfold f_K_endSession_B55 at h
  have h2 := kr_ob h
  clear h
  obtain ⟨i1, ei1, h⟩ := h2
  refine r_iinc (v := i1) (lv' := [(2, .int i1), (0, va_rf x0), (1, va_rf x1)]) 2 rfl (kr_inc (by decide) ei1) (by decide) (by simp [kr_st, kr_rfcat, kr_icat]) d_K_endSession_55 ?_
  refine r_goto (tgt := 7) d_K_endSession_58 rfl ?_
  exact kr_sub [1, 2, 0] rfl (hk7 h)
set_option maxRecDepth 20000 in
set_option maxHeartbeats 4000000 in
theorem s_K_endSession_C7 {k7 : AS → Option Nat → Option Nat → Int32 → Option ((Unit ⊕ String) × AS)} (hk7 : ∀ {S : AS} {x0 : Option Nat} {x1 : Option Nat} {x2 : Int32} {r : ((Unit ⊕ String) × AS)}, k7 S x0 x1 x2 = some r → kr_AW m_K_endSession 10 7 [(0, va_rf x0), (1, va_rf x1), (2, .int x2)] [] S (kr_xV r)) {S : AS} {x0 : Option Nat} {x1 : Option Nat} {x2 : Int32} {r : ((Unit ⊕ String) × AS)} (h : f_K_endSession_C7 k7 S x0 x1 x2 = some r) : kr_AW m_K_endSession 10 7 [(0, va_rf x0), (1, va_rf x1), (2, .int x2)] [] S (kr_xV r) := by
  unfold f_K_endSession_C7 at h
  refine r_iload_n (i := 2) (x := x2) 2 rfl d_K_endSession_7 ?_
  refine r_aload_n (i := 0) (x := x0) 0 rfl d_K_endSession_8 ?_
  have h2 := kr_ob h
  clear h
  obtain ⟨v2, ev2, h⟩ := h2
  refine r_getR ev2 fk31 rfl d_K_endSession_9 ?_
  have h2 := kr_ob h
  clear h
  obtain ⟨⟨⟩, eu3, h⟩ := h2
  have h2 := kr_ob2 h
  clear h
  obtain ⟨v5, S4, eS4, h⟩ := h2
  refine r_callV (M1 := m_AL_size) (κ := 10) (As := []) eu3 (s_AL_size eS4) mok_AL_size rfl (by decide) rfl w348 w349 w350 (by decide) (kr_c8 (kr_cI kr_c0)) d_K_endSession_12 (kr_k1 ?_) kr_kn
  refine r_icmp_ge (tgt := 61) d_K_endSession_15 rfl (fun c => ?_) (fun c => ?_)
  · replace h := kr_ip c h
    refine r_aload_n (i := 0) (x := x0) 0 rfl d_K_endSession_61 ?_
    refine r_aload_n (i := 1) (x := x1) 1 rfl d_K_endSession_62 ?_
    have h2 := kr_ob h
    clear h
    obtain ⟨⟨⟩, eu6, h⟩ := h2
    rcases kr_obx h with ⟨z8, S7, eS7, h2⟩ | ⟨E, S7, eS7, h2⟩
    · clear h
      have h := h2
      clear h2
      refine r_callV (M1 := m_K_endFamiliesOf) (κ := 22) (As := [va_rf x1]) eu6 (s_K_endFamiliesOf eS7) mok_K_endFamiliesOf rfl (by decide) rfl w516 w518 w6 (by decide) (kr_c8 kr_c0) d_K_endSession_63 (kr_k0 ?_) kr_kn
      cases h
      exact r_vret rfl d_K_endSession_66
    · cases h2
      exact r_callV (M1 := m_K_endFamiliesOf) (κ := 22) (As := [va_rf x1]) eu6 (s_K_endFamiliesOf eS7) mok_K_endFamiliesOf rfl (by decide) rfl w516 w518 w6 (by decide) (kr_c8 kr_c0) d_K_endSession_63 kr_nk (kr_kx (r_out rfl))
  · replace h := kr_in_ c h
    refine r_aload_n (i := 0) (x := x0) 0 rfl d_K_endSession_18 ?_
    have h2 := kr_ob h
    clear h
    obtain ⟨v9, ev9, h⟩ := h2
    refine r_getR ev9 fk31 rfl d_K_endSession_19 ?_
    refine r_iload_n (i := 2) (x := x2) 2 rfl d_K_endSession_22 ?_
    have h2 := kr_ob h
    clear h
    obtain ⟨⟨⟩, eu10, h⟩ := h2
    have h2 := kr_ob2 h
    clear h
    obtain ⟨v12, S11, eS11, h⟩ := h2
    refine r_callV (M1 := m_AL_get) (κ := 10) (As := [.int x2]) eu10 (s_AL_get eS11) mok_AL_get rfl (by decide) rfl w489 w490 w491 (by decide) (kr_c8 kr_c0) d_K_endSession_23 (kr_k1 ?_) kr_kn
    have h2 := kr_ob h
    clear h
    obtain ⟨⟨⟩, eu13, h⟩ := h2
    refine r_cast eu13 (by decide) w503 d_K_endSession_26 ?_
    refine r_astore_n (i := 3) (lv' := [(3, va_rf v12), (0, va_rf x0), (1, va_rf x1), (2, .int x2)]) (by decide) rfl d_K_endSession_29 ?_
    refine r_aload_n (i := 3) (x := v12) 0 rfl d_K_endSession_30 ?_
    have h2 := kr_ob h
    clear h
    obtain ⟨v14, ev14, h⟩ := h2
    refine r_getR ev14 fk127 rfl d_K_endSession_31 ?_
    refine r_aload_n (i := 1) (x := x1) 2 rfl d_K_endSession_34 ?_
    have h2 := kr_ob h
    clear h
    obtain ⟨⟨⟩, eu15, h⟩ := h2
    have h2 := kr_ob h
    clear h
    obtain ⟨⟨⟩, eu16, h⟩ := h2
    refine r_acmp_ne (tgt := 55) eu15 eu16 d_K_endSession_35 rfl (fun c => ?_) (fun c => ?_)
    · replace h := kr_ip c h
      refine r_aload_n (i := 3) (x := v12) 0 rfl d_K_endSession_38 ?_
      have h2 := kr_ob h
      clear h
      obtain ⟨v17, ev17, h⟩ := h2
      refine r_getI ev17 fk118 rfl d_K_endSession_39 ?_
      refine r_if_eq (tgt := 55) d_K_endSession_42 rfl (fun c => ?_) (fun c => ?_)
      · replace h := kr_ip c h
        exact kr_sub [1, 2, 3] rfl (s_K_endSession_B55 hk7 h)
      · replace h := kr_in_ c h
        refine r_aload_n (i := 0) (x := x0) 1 rfl d_K_endSession_45 ?_
        refine r_aload_n (i := 3) (x := v12) 0 rfl d_K_endSession_46 ?_
        have h2 := kr_ob h
        clear h
        obtain ⟨⟨⟩, eu18, h⟩ := h2
        have h2 := kr_ob h
        clear h
        obtain ⟨S19, eS19, h⟩ := h2
        refine r_callV (M1 := m_K_markEnded) (κ := 22) (As := [va_rf v12]) eu18 (s_K_markEnded eS19) mok_K_markEnded rfl (by decide) rfl w512 w514 w5 (by decide) (kr_c8 kr_c0) d_K_endSession_47 (kr_k0 ?_) kr_kn
        refine r_aload_n (i := 0) (x := x0) 1 rfl d_K_endSession_50 ?_
        refine r_aload_n (i := 3) (x := v12) 0 rfl d_K_endSession_51 ?_
        have h2 := kr_ob h
        clear h
        obtain ⟨⟨⟩, eu20, h⟩ := h2
        rcases kr_obx h with ⟨z22, S21, eS21, h2⟩ | ⟨E, S21, eS21, h2⟩
        · clear h
          have h := h2
          clear h2
          refine r_callV (M1 := m_K_endFamiliesOf) (κ := 22) (As := [va_rf v12]) eu20 (s_K_endFamiliesOf eS21) mok_K_endFamiliesOf rfl (by decide) rfl w516 w518 w6 (by decide) (kr_c8 kr_c0) d_K_endSession_52 (kr_k0 ?_) kr_kn
          exact kr_sub [1, 2, 3] rfl (s_K_endSession_B55 hk7 h)
        · cases h2
          exact r_callV (M1 := m_K_endFamiliesOf) (κ := 22) (As := [va_rf v12]) eu20 (s_K_endFamiliesOf eS21) mok_K_endFamiliesOf rfl (by decide) rfl w516 w518 w6 (by decide) (kr_c8 kr_c0) d_K_endSession_52 kr_nk (kr_kx (r_out rfl))
    · replace h := kr_in_ c h
      exact kr_sub [1, 2, 3] rfl (s_K_endSession_B55 hk7 h)
theorem s_K_endSession_L7 (n : Nat) : ∀ {S : AS} {x0 : Option Nat} {x1 : Option Nat} {x2 : Int32} {r : ((Unit ⊕ String) × AS)}, f_K_endSession_L7 n S x0 x1 x2 = some r → kr_AW m_K_endSession 10 7 [(0, va_rf x0), (1, va_rf x1), (2, .int x2)] [] S (kr_xV r) := by
  induction n with
  | zero => intro S x0 x1 x2 r h; cases h
  | succ n ih => intro S x0 x1 x2 r h; exact s_K_endSession_C7 (fun {_} {_} {_} {_} {_} h => ih h) h
set_option maxRecDepth 20000 in
set_option maxHeartbeats 4000000 in
theorem s_K_endSession {S : AS} {a0 : Option Nat} {a1 : Option Nat} {r : ((Unit ⊕ String) × AS)} (h : f_K_endSession S a0 a1 = some r) : kr_Con m_K_endSession 10 [va_rf a0, va_rf a1] S (kr_xV r) := by
  refine kr_con rfl rfl (by decide +kernel) (by simp [lg_sl, kr_rfcat, kr_icat, m_K_endSession, mL]) ?_
  rw [show lv_args 0 [va_rf a0, va_rf a1] = [(0, va_rf a0), (1, va_rf a1)] from by simp [lv_args, kr_rfcat, kr_icat]]
  unfold f_K_endSession at h
  refine r_aload_n (i := 0) (x := a0) 0 rfl d_K_endSession_0 ?_
  refine r_aload_n (i := 1) (x := a1) 1 rfl d_K_endSession_1 ?_
  have h2 := kr_ob h
  clear h
  obtain ⟨⟨⟩, eu23, h⟩ := h2
  have h2 := kr_ob h
  clear h
  obtain ⟨S24, eS24, h⟩ := h2
  refine r_callV (M1 := m_K_markEnded) (κ := 22) (As := [va_rf a1]) eu23 (s_K_markEnded eS24) mok_K_markEnded rfl (by decide) rfl w512 w514 w5 (by decide) (kr_c8 kr_c0) d_K_endSession_2 (kr_k0 ?_) kr_kn
  refine r_iconst (v := (0 : Int32)) (by decide) d_K_endSession_5 ?_
  refine r_istore_n (i := 2) (lv' := [(2, .int (0 : Int32)), (0, va_rf a0), (1, va_rf a1)]) (by decide) (by show kr_st _ 2 _ = _; simp [kr_st, kr_rfcat, kr_icat]) d_K_endSession_6 ?_
  exact kr_sub [1, 2, 0] rfl (s_K_endSession_L7 kr_FU h)
/-! KeyringCourt.endOldSessions()V -/
def f_K_endOldSessions_B56 (k10 : AS → Option Nat → Int32 → Option ((Unit ⊕ String) × AS)) (S : AS) (x0 : Option Nat) (x1 : Int32) : Option ((Unit ⊕ String) × AS) :=
  (some (x1 + (1 : Int32))).bind fun i1 =>
  k10 S x0 i1
def f_K_endOldSessions_C10 (k10 : AS → Option Nat → Int32 → Option ((Unit ⊕ String) × AS)) (S : AS) (x0 : Option Nat) (x1 : Int32) : Option ((Unit ⊕ String) × AS) :=
  (gR S 22 8 x0).bind fun v2 =>
  (kr_rv S 10 v2).bind fun u3 =>
  kr_b2 (f_AL_size S v2) fun v5 S4 =>
  if v5 ≤ x1 then
  some (.inl (), S4)
  else
  (gR S4 22 8 x0).bind fun v6 =>
  (kr_rv S4 10 v6).bind fun u7 =>
  kr_b2 (f_AL_get S4 v6 x1) fun v9 S8 =>
  (kr_cc S8 19 v9).bind fun u10 =>
  (gI S8 19 6 v9).bind fun v11 =>
  if v11 = 0 then
  f_K_endOldSessions_B56 k10 S8 x0 x1
  else
  (gI S8 22 0 x0).bind fun v12 =>
  (kr_rv S8 19 v9).bind fun u13 =>
  kr_b2 (f_Session_isOldAt S8 v9 v12) fun v15 S14 =>
  if v15 = 0 then
  f_K_endOldSessions_B56 k10 S14 x0 x1
  else
  (kr_rv S14 22 x0).bind fun u16 =>
  kr_bx (f_K_endSession S14 x0 v9) fun z18 S17 =>
  f_K_endOldSessions_B56 k10 S17 x0 x1
def f_K_endOldSessions_L10 : Nat → AS → Option Nat → Int32 → Option ((Unit ⊕ String) × AS)
  | 0, S, x0, x1 => none
  | n + 1, S, x0, x1 => f_K_endOldSessions_C10 (f_K_endOldSessions_L10 n) S x0 x1
def f_K_endOldSessions (S : AS) (a0 : Option Nat) : Option ((Unit ⊕ String) × AS) :=
  (gI S 22 9 a0).bind fun v19 =>
  if v19 = 0 then
  some (.inl (), S)
  else
  f_K_endOldSessions_L10 kr_FU S a0 (0 : Int32)
set_option maxRecDepth 20000 in
set_option maxHeartbeats 4000000 in
theorem s_K_endOldSessions_B56 {k10 : AS → Option Nat → Int32 → Option ((Unit ⊕ String) × AS)} (hk10 : ∀ {S : AS} {x0 : Option Nat} {x1 : Int32} {r : ((Unit ⊕ String) × AS)}, k10 S x0 x1 = some r → kr_AW m_K_endOldSessions 11 10 [(0, va_rf x0), (1, .int x1)] [] S (kr_xV r)) {S : AS} {x0 : Option Nat} {x1 : Int32} {r : ((Unit ⊕ String) × AS)} (h : f_K_endOldSessions_B56 k10 S x0 x1 = some r) : kr_AW m_K_endOldSessions 11 56 [(0, va_rf x0), (1, .int x1)] [] S (kr_xV r) := by
  unfold f_K_endOldSessions_B56 at h
  have h2 := kr_ob h
  clear h
  obtain ⟨i1, ei1, h⟩ := h2
  refine r_iinc (v := i1) (lv' := [(1, .int i1), (0, va_rf x0)]) 1 rfl (kr_inc (by decide) ei1) (by decide) (by simp [kr_st, kr_rfcat, kr_icat]) d_K_endOldSessions_56 ?_
  refine r_goto (tgt := 10) d_K_endOldSessions_59 rfl ?_
  exact kr_sub [1, 0] rfl (hk10 h)
set_option maxRecDepth 20000 in
set_option maxHeartbeats 4000000 in
theorem s_K_endOldSessions_C10 {k10 : AS → Option Nat → Int32 → Option ((Unit ⊕ String) × AS)} (hk10 : ∀ {S : AS} {x0 : Option Nat} {x1 : Int32} {r : ((Unit ⊕ String) × AS)}, k10 S x0 x1 = some r → kr_AW m_K_endOldSessions 11 10 [(0, va_rf x0), (1, .int x1)] [] S (kr_xV r)) {S : AS} {x0 : Option Nat} {x1 : Int32} {r : ((Unit ⊕ String) × AS)} (h : f_K_endOldSessions_C10 k10 S x0 x1 = some r) : kr_AW m_K_endOldSessions 11 10 [(0, va_rf x0), (1, .int x1)] [] S (kr_xV r) := by
  unfold f_K_endOldSessions_C10 at h
  refine r_iload_n (i := 1) (x := x1) 1 rfl d_K_endOldSessions_10 ?_
  refine r_aload_n (i := 0) (x := x0) 0 rfl d_K_endOldSessions_11 ?_
  have h2 := kr_ob h
  clear h
  obtain ⟨v2, ev2, h⟩ := h2
  refine r_getR ev2 fk31 rfl d_K_endOldSessions_12 ?_
  have h2 := kr_ob h
  clear h
  obtain ⟨⟨⟩, eu3, h⟩ := h2
  have h2 := kr_ob2 h
  clear h
  obtain ⟨v5, S4, eS4, h⟩ := h2
  refine r_callV (M1 := m_AL_size) (κ := 10) (As := []) eu3 (s_AL_size eS4) mok_AL_size rfl (by decide) rfl w348 w349 w350 (by decide) (kr_c8 (kr_cI kr_c0)) d_K_endOldSessions_15 (kr_k1 ?_) kr_kn
  refine r_icmp_ge (tgt := 62) d_K_endOldSessions_18 rfl (fun c => ?_) (fun c => ?_)
  · replace h := kr_ip c h
    cases h
    exact r_vret rfl d_K_endOldSessions_62
  · replace h := kr_in_ c h
    refine r_aload_n (i := 0) (x := x0) 0 rfl d_K_endOldSessions_21 ?_
    have h2 := kr_ob h
    clear h
    obtain ⟨v6, ev6, h⟩ := h2
    refine r_getR ev6 fk31 rfl d_K_endOldSessions_22 ?_
    refine r_iload_n (i := 1) (x := x1) 1 rfl d_K_endOldSessions_25 ?_
    have h2 := kr_ob h
    clear h
    obtain ⟨⟨⟩, eu7, h⟩ := h2
    have h2 := kr_ob2 h
    clear h
    obtain ⟨v9, S8, eS8, h⟩ := h2
    refine r_callV (M1 := m_AL_get) (κ := 10) (As := [.int x1]) eu7 (s_AL_get eS8) mok_AL_get rfl (by decide) rfl w489 w490 w491 (by decide) (kr_c8 kr_c0) d_K_endOldSessions_26 (kr_k1 ?_) kr_kn
    have h2 := kr_ob h
    clear h
    obtain ⟨⟨⟩, eu10, h⟩ := h2
    refine r_cast eu10 (by decide) w503 d_K_endOldSessions_29 ?_
    refine r_astore_n (i := 2) (lv' := [(2, va_rf v9), (0, va_rf x0), (1, .int x1)]) (by decide) rfl d_K_endOldSessions_32 ?_
    refine r_aload_n (i := 2) (x := v9) 0 rfl d_K_endOldSessions_33 ?_
    have h2 := kr_ob h
    clear h
    obtain ⟨v11, ev11, h⟩ := h2
    refine r_getI ev11 fk118 rfl d_K_endOldSessions_34 ?_
    refine r_if_eq (tgt := 56) d_K_endOldSessions_37 rfl (fun c => ?_) (fun c => ?_)
    · replace h := kr_ip c h
      exact kr_sub [1, 2] rfl (s_K_endOldSessions_B56 hk10 h)
    · replace h := kr_in_ c h
      refine r_aload_n (i := 2) (x := v9) 0 rfl d_K_endOldSessions_40 ?_
      refine r_aload_n (i := 0) (x := x0) 1 rfl d_K_endOldSessions_41 ?_
      have h2 := kr_ob h
      clear h
      obtain ⟨v12, ev12, h⟩ := h2
      refine r_getI ev12 fk113 rfl d_K_endOldSessions_42 ?_
      have h2 := kr_ob h
      clear h
      obtain ⟨⟨⟩, eu13, h⟩ := h2
      have h2 := kr_ob2 h
      clear h
      obtain ⟨v15, S14, eS14, h⟩ := h2
      refine r_callV (M1 := m_Session_isOldAt) (κ := 19) (As := [.int v12]) eu13 (s_Session_isOldAt eS14) mok_Session_isOldAt rfl (by decide) rfl w504 w505 w506 (by decide) (kr_c8 kr_c0) d_K_endOldSessions_45 (kr_k1 ?_) kr_kn
      refine r_if_eq (tgt := 56) d_K_endOldSessions_48 rfl (fun c => ?_) (fun c => ?_)
      · replace h := kr_ip c h
        exact kr_sub [1, 2] rfl (s_K_endOldSessions_B56 hk10 h)
      · replace h := kr_in_ c h
        refine r_aload_n (i := 0) (x := x0) 1 rfl d_K_endOldSessions_51 ?_
        refine r_aload_n (i := 2) (x := v9) 0 rfl d_K_endOldSessions_52 ?_
        have h2 := kr_ob h
        clear h
        obtain ⟨⟨⟩, eu16, h⟩ := h2
        rcases kr_obx h with ⟨z18, S17, eS17, h2⟩ | ⟨E, S17, eS17, h2⟩
        · clear h
          have h := h2
          clear h2
          refine r_callV (M1 := m_K_endSession) (κ := 22) (As := [va_rf v9]) eu16 (s_K_endSession eS17) mok_K_endSession rfl (by decide) rfl w508 w510 w4 (by decide) (kr_c8 kr_c0) d_K_endOldSessions_53 (kr_k0 ?_) kr_kn
          exact kr_sub [1, 2] rfl (s_K_endOldSessions_B56 hk10 h)
        · cases h2
          exact r_callV (M1 := m_K_endSession) (κ := 22) (As := [va_rf v9]) eu16 (s_K_endSession eS17) mok_K_endSession rfl (by decide) rfl w508 w510 w4 (by decide) (kr_c8 kr_c0) d_K_endOldSessions_53 kr_nk (kr_kx (r_out rfl))
theorem s_K_endOldSessions_L10 (n : Nat) : ∀ {S : AS} {x0 : Option Nat} {x1 : Int32} {r : ((Unit ⊕ String) × AS)}, f_K_endOldSessions_L10 n S x0 x1 = some r → kr_AW m_K_endOldSessions 11 10 [(0, va_rf x0), (1, .int x1)] [] S (kr_xV r) := by
  induction n with
  | zero => intro S x0 x1 r h; cases h
  | succ n ih => intro S x0 x1 r h; exact s_K_endOldSessions_C10 (fun {_} {_} {_} {_} h => ih h) h
set_option maxRecDepth 20000 in
set_option maxHeartbeats 4000000 in
theorem s_K_endOldSessions {S : AS} {a0 : Option Nat} {r : ((Unit ⊕ String) × AS)} (h : f_K_endOldSessions S a0 = some r) : kr_Con m_K_endOldSessions 11 [va_rf a0] S (kr_xV r) := by
  refine kr_con rfl rfl (by decide +kernel) (by simp [lg_sl, kr_rfcat, kr_icat, m_K_endOldSessions, mL]) ?_
  rw [show lv_args 0 [va_rf a0] = [(0, va_rf a0)] from by simp [lv_args, kr_rfcat, kr_icat]]
  unfold f_K_endOldSessions at h
  refine r_aload_n (i := 0) (x := a0) 0 rfl d_K_endOldSessions_0 ?_
  have h2 := kr_ob h
  clear h
  obtain ⟨v19, ev19, h⟩ := h2
  refine r_getI ev19 fk119 rfl d_K_endOldSessions_1 ?_
  refine r_if_ne (tgt := 8) d_K_endOldSessions_4 rfl (fun c => ?_) (fun c => ?_)
  · replace h := kr_ip c h
    cases h
    exact r_vret rfl d_K_endOldSessions_7
  · replace h := kr_in_ c h
    refine r_iconst (v := (0 : Int32)) (by decide) d_K_endOldSessions_8 ?_
    refine r_istore_n (i := 1) (lv' := [(1, .int (0 : Int32)), (0, va_rf a0)]) (by decide) (by show kr_st _ 1 _ = _; simp [kr_st, kr_rfcat, kr_icat]) d_K_endOldSessions_9 ?_
    exact kr_sub [1, 0] rfl (s_K_endOldSessions_L10 kr_FU h)
/-! KeyringCourt.pass(I)I -/
def f_K_pass_C38 (k38 : AS → Option Nat → Int32 → Int32 → Int32 → Option ((Int32 ⊕ String) × AS)) (S : AS) (x0 : Option Nat) (x1 : Int32) (x2 : Int32) (x3 : Int32) : Option ((Int32 ⊕ String) × AS) :=
  if x1 ≤ x3 then
  (gI S 22 9 x0).bind fun v1 =>
  some (.inl (x2 - v1), S)
  else
  (gI S 22 0 x0).bind fun v2 =>
  (pI S 22 0 x0 (v2 + (1 : Int32))).bind fun S3 =>
  (kr_rv S3 22 x0).bind fun u4 =>
  (f_K_turnKeys S3 x0).bind fun S5 =>
  (kr_rv S5 22 x0).bind fun u6 =>
  kr_bx (f_K_endOldSessions S5 x0) fun z8 S7 =>
  (some (x3 + (1 : Int32))).bind fun i9 =>
  k38 S7 x0 x1 x2 i9
def f_K_pass_L38 : Nat → AS → Option Nat → Int32 → Int32 → Int32 → Option ((Int32 ⊕ String) × AS)
  | 0, S, x0, x1, x2, x3 => none
  | n + 1, S, x0, x1, x2, x3 => f_K_pass_C38 (f_K_pass_L38 n) S x0 x1 x2 x3
def f_K_pass_B28 (S : AS) (x0 : Option Nat) (x1 : Int32) (y0 : Int32) : Option ((Int32 ⊕ String) × AS) :=
  kr_bx (f_K_requireState S y0) fun z11 S10 =>
  (gI S10 22 9 x0).bind fun v12 =>
  f_K_pass_L38 kr_FU S10 x0 x1 v12 (0 : Int32)
def f_K_pass (S : AS) (a0 : Option Nat) (a1 : Int32) : Option ((Int32 ⊕ String) × AS) :=
  kr_b2 (f_K_isWithin S a1 (1 : Int32) (600 : Int32)) fun v14 S13 =>
  kr_bx (f_K_requireArgument S13 v14) fun z16 S15 =>
  (gI S15 22 0 a0).bind fun v17 =>
  if (30000 : Int32) < (v17 + a1) then
  f_K_pass_B28 S15 a0 a1 (0 : Int32)
  else
  f_K_pass_B28 S15 a0 a1 (1 : Int32)
set_option maxRecDepth 20000 in
set_option maxHeartbeats 4000000 in
theorem s_K_pass_C38 {k38 : AS → Option Nat → Int32 → Int32 → Int32 → Option ((Int32 ⊕ String) × AS)} (hk38 : ∀ {S : AS} {x0 : Option Nat} {x1 : Int32} {x2 : Int32} {x3 : Int32} {r : ((Int32 ⊕ String) × AS)}, k38 S x0 x1 x2 x3 = some r → kr_AW m_K_pass 12 38 [(0, va_rf x0), (1, .int x1), (2, .int x2), (3, .int x3)] [] S (kr_xI r)) {S : AS} {x0 : Option Nat} {x1 : Int32} {x2 : Int32} {x3 : Int32} {r : ((Int32 ⊕ String) × AS)} (h : f_K_pass_C38 k38 S x0 x1 x2 x3 = some r) : kr_AW m_K_pass 12 38 [(0, va_rf x0), (1, .int x1), (2, .int x2), (3, .int x3)] [] S (kr_xI r) := by
  unfold f_K_pass_C38 at h
  refine r_iload_n (i := 3) (x := x3) 3 rfl d_K_pass_38 ?_
  refine r_iload_n (i := 1) (x := x1) 1 rfl d_K_pass_39 ?_
  refine r_icmp_ge (tgt := 67) d_K_pass_40 rfl (fun c => ?_) (fun c => ?_)
  · replace h := kr_ip c h
    refine r_iload_n (i := 2) (x := x2) 2 rfl d_K_pass_67 ?_
    refine r_aload_n (i := 0) (x := x0) 0 rfl d_K_pass_68 ?_
    have h2 := kr_ob h
    clear h
    obtain ⟨v1, ev1, h⟩ := h2
    refine r_getI ev1 fk119 rfl d_K_pass_69 ?_
    refine r_isub d_K_pass_72 ?_
    cases h
    exact r_iret rfl d_K_pass_73
  · replace h := kr_in_ c h
    refine r_aload_n (i := 0) (x := x0) 0 rfl d_K_pass_43 ?_
    refine r_dup (kr_rfcat _) d_K_pass_44 ?_
    have h2 := kr_ob h
    clear h
    obtain ⟨v2, ev2, h⟩ := h2
    refine r_getI ev2 fk113 rfl d_K_pass_45 ?_
    refine r_iconst (v := (1 : Int32)) (by decide) d_K_pass_48 ?_
    refine r_iadd d_K_pass_49 ?_
    have h2 := kr_ob h
    clear h
    obtain ⟨S3, eS3, h⟩ := h2
    refine r_putI eS3 fk113 (Or.inl rfl) rfl d_K_pass_50 ?_
    refine r_aload_n (i := 0) (x := x0) 0 rfl d_K_pass_53 ?_
    have h2 := kr_ob h
    clear h
    obtain ⟨⟨⟩, eu4, h⟩ := h2
    have h2 := kr_ob h
    clear h
    obtain ⟨S5, eS5, h⟩ := h2
    refine r_callV (M1 := m_K_turnKeys) (κ := 22) (As := []) eu4 (s_K_turnKeys eS5) mok_K_turnKeys rfl (by decide) rfl w460 w462 w1 (by decide) (kr_c8 kr_c0) d_K_pass_54 (kr_k0 ?_) kr_kn
    refine r_aload_n (i := 0) (x := x0) 0 rfl d_K_pass_57 ?_
    have h2 := kr_ob h
    clear h
    obtain ⟨⟨⟩, eu6, h⟩ := h2
    rcases kr_obx h with ⟨z8, S7, eS7, h2⟩ | ⟨E, S7, eS7, h2⟩
    · clear h
      have h := h2
      clear h2
      refine r_callV (M1 := m_K_endOldSessions) (κ := 22) (As := []) eu6 (s_K_endOldSessions eS7) mok_K_endOldSessions rfl (by decide) rfl w485 w487 w3 (by decide) (kr_c8 kr_c0) d_K_pass_58 (kr_k0 ?_) kr_kn
      have h2 := kr_ob h
      clear h
      obtain ⟨i9, ei9, h⟩ := h2
      refine r_iinc (v := i9) (lv' := [(3, .int i9), (0, va_rf x0), (1, .int x1), (2, .int x2)]) 3 rfl (kr_inc (by decide) ei9) (by decide) rfl d_K_pass_61 ?_
      refine r_goto (tgt := 38) d_K_pass_64 rfl ?_
      exact kr_sub [1, 2, 3, 0] rfl (hk38 h)
    · cases h2
      exact r_callV (M1 := m_K_endOldSessions) (κ := 22) (As := []) eu6 (s_K_endOldSessions eS7) mok_K_endOldSessions rfl (by decide) rfl w485 w487 w3 (by decide) (kr_c8 kr_c0) d_K_pass_58 kr_nk (kr_kx (r_out rfl))
theorem s_K_pass_L38 (n : Nat) : ∀ {S : AS} {x0 : Option Nat} {x1 : Int32} {x2 : Int32} {x3 : Int32} {r : ((Int32 ⊕ String) × AS)}, f_K_pass_L38 n S x0 x1 x2 x3 = some r → kr_AW m_K_pass 12 38 [(0, va_rf x0), (1, .int x1), (2, .int x2), (3, .int x3)] [] S (kr_xI r) := by
  induction n with
  | zero => intro S x0 x1 x2 x3 r h; cases h
  | succ n ih => intro S x0 x1 x2 x3 r h; exact s_K_pass_C38 (fun {_} {_} {_} {_} {_} {_} h => ih h) h
set_option maxRecDepth 20000 in
set_option maxHeartbeats 4000000 in
theorem s_K_pass_B28 {S : AS} {x0 : Option Nat} {x1 : Int32} {y0 : Int32} {r : ((Int32 ⊕ String) × AS)} (h : f_K_pass_B28 S x0 x1 y0 = some r) : kr_AW m_K_pass 12 28 [(0, va_rf x0), (1, .int x1)] [.int y0] S (kr_xI r) := by
  unfold f_K_pass_B28 at h
  rcases kr_obx h with ⟨z11, S10, eS10, h2⟩ | ⟨E, S10, eS10, h2⟩
  · clear h
    have h := h2
    clear h2
    refine r_callS (M1 := m_K_requireState) (As := [.int y0]) (s_K_requireState eS10) mok_K_requireState rfl w442 w443 (by decide) (kr_c8 kr_c0) d_K_pass_28 (kr_k0 ?_) kr_kn
    refine r_aload_n (i := 0) (x := x0) 0 rfl d_K_pass_31 ?_
    have h2 := kr_ob h
    clear h
    obtain ⟨v12, ev12, h⟩ := h2
    refine r_getI ev12 fk119 rfl d_K_pass_32 ?_
    refine r_istore_n (i := 2) (lv' := [(2, .int v12), (0, va_rf x0), (1, .int x1)]) (by decide) rfl d_K_pass_35 ?_
    refine r_iconst (v := (0 : Int32)) (by decide) d_K_pass_36 ?_
    refine r_istore_n (i := 3) (lv' := [(3, .int (0 : Int32)), (2, .int v12), (0, va_rf x0), (1, .int x1)]) (by decide) rfl d_K_pass_37 ?_
    exact kr_sub [2, 3, 1, 0] rfl (s_K_pass_L38 kr_FU h)
  · cases h2
    exact r_callS (M1 := m_K_requireState) (As := [.int y0]) (s_K_requireState eS10) mok_K_requireState rfl w442 w443 (by decide) (kr_c8 kr_c0) d_K_pass_28 kr_nk (kr_kx (r_out rfl))
set_option maxRecDepth 20000 in
set_option maxHeartbeats 4000000 in
theorem s_K_pass {S : AS} {a0 : Option Nat} {a1 : Int32} {r : ((Int32 ⊕ String) × AS)} (h : f_K_pass S a0 a1 = some r) : kr_Con m_K_pass 12 [va_rf a0, .int a1] S (kr_xI r) := by
  refine kr_con rfl rfl (by decide +kernel) (by simp [lg_sl, kr_rfcat, kr_icat, m_K_pass, mL]) ?_
  rw [show lv_args 0 [va_rf a0, .int a1] = [(0, va_rf a0), (1, .int a1)] from by simp [lv_args, kr_rfcat, kr_icat]]
  unfold f_K_pass at h
  refine r_iload_n (i := 1) (x := a1) 1 rfl d_K_pass_0 ?_
  refine r_iconst (v := (1 : Int32)) (by decide) d_K_pass_1 ?_
  refine r_sipush (v := (600 : Int32)) (by decide) d_K_pass_2 ?_
  have h2 := kr_ob2 h
  clear h
  obtain ⟨v14, S13, eS13, h⟩ := h2
  refine r_callS (M1 := m_K_isWithin) (As := [.int a1, .int (1 : Int32), .int (600 : Int32)]) (s_K_isWithin eS13) mok_K_isWithin rfl w373 w374 (by decide) (kr_c8 kr_c0) d_K_pass_5 (kr_k1 ?_) kr_kn
  rcases kr_obx h with ⟨z16, S15, eS15, h2⟩ | ⟨E, S15, eS15, h2⟩
  · clear h
    have h := h2
    clear h2
    refine r_callS (M1 := m_K_requireArgument) (As := [.int v14]) (s_K_requireArgument eS15) mok_K_requireArgument rfl w376 w377 (by decide) (kr_c8 kr_c0) d_K_pass_8 (kr_k0 ?_) kr_kn
    refine r_aload_n (i := 0) (x := a0) 0 rfl d_K_pass_11 ?_
    have h2 := kr_ob h
    clear h
    obtain ⟨v17, ev17, h⟩ := h2
    refine r_getI ev17 fk113 rfl d_K_pass_12 ?_
    refine r_iload_n (i := 1) (x := a1) 1 rfl d_K_pass_15 ?_
    refine r_iadd d_K_pass_16 ?_
    refine r_sipush (v := (30000 : Int32)) (by decide) d_K_pass_17 ?_
    refine r_icmp_gt (tgt := 27) d_K_pass_20 rfl (fun c => ?_) (fun c => ?_)
    · replace h := kr_ip c h
      refine r_iconst (v := (0 : Int32)) (by decide) d_K_pass_27 ?_
      exact kr_sub [0, 1] rfl (s_K_pass_B28 h)
    · replace h := kr_in_ c h
      refine r_iconst (v := (1 : Int32)) (by decide) d_K_pass_23 ?_
      refine r_goto (tgt := 28) d_K_pass_24 rfl ?_
      exact kr_sub [0, 1] rfl (s_K_pass_B28 h)
  · cases h2
    exact r_callS (M1 := m_K_requireArgument) (As := [.int v14]) (s_K_requireArgument eS15) mok_K_requireArgument rfl w376 w377 (by decide) (kr_c8 kr_c0) d_K_pass_8 kr_nk (kr_kx (r_out rfl))
/-! KeyringCourt.findPerson(I)LKeyringCourt$Person; -/
def f_K_findPerson_B23 (S : AS) (y0 : Option Nat) : Option ((Option Nat ⊕ String) × AS) :=
  if y0 = none then
  some (.inr "java/lang/IndexOutOfBoundsException", wX S)
  else
  some (.inl y0, S)
def f_K_findPerson_B22 (S : AS) : Option ((Option Nat ⊕ String) × AS) :=
  f_K_findPerson_B23 S none
def f_K_findPerson (S : AS) (a0 : Option Nat) (a1 : Int32) : Option ((Option Nat ⊕ String) × AS) :=
  if a1 < 0 then
  f_K_findPerson_B22 S
  else
  (gR S 22 2 a0).bind fun v1 =>
  (aN S v1).bind fun v2 =>
  if v2 ≤ a1 then
  f_K_findPerson_B22 S
  else
  (gR S 22 2 a0).bind fun v3 =>
  (aR S 44 v3 a1).bind fun v4 =>
  f_K_findPerson_B23 S v4
set_option maxRecDepth 20000 in
set_option maxHeartbeats 4000000 in
theorem s_K_findPerson_B23 {S : AS} {y0 : Option Nat} {r : ((Option Nat ⊕ String) × AS)} (h : f_K_findPerson_B23 S y0 = some r) : kr_AW m_K_findPerson 7 23 [] [va_rf y0] S (kr_xR r) := by
  unfold f_K_findPerson_B23 at h
  refine r_astore_n (i := 2) (lv' := [(2, va_rf y0)]) (by decide) rfl d_K_findPerson_23 ?_
  refine r_aload_n (i := 2) (x := y0) 0 rfl d_K_findPerson_24 ?_
  refine r_ifnonnull (tgt := 36) d_K_findPerson_25 rfl (fun c => ?_) (fun c => ?_)
  · replace h := kr_ip c h
    cases h
    exact r_throw ["java/lang/RuntimeException", "java/lang/Exception"] rfl th2 (by decide) (kr_c8 kr_c0) d_K_findPerson_28 d_K_findPerson_31 d_K_findPerson_32 d_K_findPerson_35
  · replace h := kr_in_ c h
    refine r_aload_n (i := 2) (x := y0) 0 rfl d_K_findPerson_36 ?_
    cases h
    exact r_aret rfl rfl d_K_findPerson_37
set_option maxRecDepth 20000 in
set_option maxHeartbeats 4000000 in
theorem s_K_findPerson_B22 {S : AS} {r : ((Option Nat ⊕ String) × AS)} (h : f_K_findPerson_B22 S = some r) : kr_AW m_K_findPerson 7 22 [] [] S (kr_xR r) := by
  unfold f_K_findPerson_B22 at h
  refine r_null d_K_findPerson_22 ?_
  exact kr_sub [] rfl (s_K_findPerson_B23 h)
set_option maxRecDepth 20000 in
set_option maxHeartbeats 4000000 in
theorem s_K_findPerson {S : AS} {a0 : Option Nat} {a1 : Int32} {r : ((Option Nat ⊕ String) × AS)} (h : f_K_findPerson S a0 a1 = some r) : kr_Con m_K_findPerson 7 [va_rf a0, .int a1] S (kr_xR r) := by
  refine kr_con rfl rfl (by decide +kernel) (by simp [lg_sl, kr_rfcat, kr_icat, m_K_findPerson, mL]) ?_
  rw [show lv_args 0 [va_rf a0, .int a1] = [(0, va_rf a0), (1, .int a1)] from by simp [lv_args, kr_rfcat, kr_icat]]
  unfold f_K_findPerson at h
  refine r_iload_n (i := 1) (x := a1) 1 rfl d_K_findPerson_0 ?_
  refine r_if_lt (tgt := 22) d_K_findPerson_1 rfl (fun c => ?_) (fun c => ?_)
  · replace h := kr_ip c h
    exact kr_sub [] rfl (s_K_findPerson_B22 h)
  · replace h := kr_in_ c h
    refine r_iload_n (i := 1) (x := a1) 1 rfl d_K_findPerson_4 ?_
    refine r_aload_n (i := 0) (x := a0) 0 rfl d_K_findPerson_5 ?_
    have h2 := kr_ob h
    clear h
    obtain ⟨v1, ev1, h⟩ := h2
    refine r_getR ev1 fk24 rfl d_K_findPerson_6 ?_
    have h2 := kr_ob h
    clear h
    obtain ⟨v2, ev2, h⟩ := h2
    refine r_alen ev2 d_K_findPerson_9 ?_
    refine r_icmp_ge (tgt := 22) d_K_findPerson_10 rfl (fun c => ?_) (fun c => ?_)
    · replace h := kr_ip c h
      exact kr_sub [] rfl (s_K_findPerson_B22 h)
    · replace h := kr_in_ c h
      refine r_aload_n (i := 0) (x := a0) 0 rfl d_K_findPerson_13 ?_
      have h2 := kr_ob h
      clear h
      obtain ⟨v3, ev3, h⟩ := h2
      refine r_getR ev3 fk24 rfl d_K_findPerson_14 ?_
      refine r_iload_n (i := 1) (x := a1) 1 rfl d_K_findPerson_17 ?_
      have h2 := kr_ob h
      clear h
      obtain ⟨v4, ev4, h⟩ := h2
      refine r_aaload (by decide) ev4 d_K_findPerson_18 ?_
      refine r_goto (tgt := 23) d_K_findPerson_19 rfl ?_
      exact kr_sub [] rfl (s_K_findPerson_B23 h)
/-! KeyringCourt.enroll(II)I -/
def f_K_enroll (S : AS) (a0 : Option Nat) (a1 : Int32) (a2 : Int32) : Option ((Int32 ⊕ String) × AS) :=
  (kr_rv S 22 a0).bind fun u1 =>
  kr_bx (f_K_findPerson S a0 a1) fun v3 S2 =>
  kr_b2 (f_K_isFactor S2 a2) fun v5 S4 =>
  kr_bx (f_K_requireArgument S4 v5) fun z7 S6 =>
  (kr_rv S6 16 v3).bind fun u8 =>
  kr_b2 (f_Person_stateOf S6 v3 a2) fun v10 S9 =>
  (kr_rv S9 16 v3).bind fun u11 =>
  (f_Person_makeReady S9 v3 a2).bind fun S12 =>
  some (.inl v10, S12)
set_option maxRecDepth 20000 in
set_option maxHeartbeats 4000000 in
theorem s_K_enroll {S : AS} {a0 : Option Nat} {a1 : Int32} {a2 : Int32} {r : ((Int32 ⊕ String) × AS)} (h : f_K_enroll S a0 a1 a2 = some r) : kr_Con m_K_enroll 8 [va_rf a0, .int a1, .int a2] S (kr_xI r) := by
  refine kr_con rfl rfl (by decide +kernel) (by simp [lg_sl, kr_rfcat, kr_icat, m_K_enroll, mL]) ?_
  rw [show lv_args 0 [va_rf a0, .int a1, .int a2] = [(0, va_rf a0), (1, .int a1), (2, .int a2)] from by simp [lv_args, kr_rfcat, kr_icat]]
  unfold f_K_enroll at h
  refine r_aload_n (i := 0) (x := a0) 0 rfl d_K_enroll_0 ?_
  refine r_iload_n (i := 1) (x := a1) 1 rfl d_K_enroll_1 ?_
  have h2 := kr_ob h
  clear h
  obtain ⟨⟨⟩, eu1, h⟩ := h2
  rcases kr_obx h with ⟨v3, S2, eS2, h2⟩ | ⟨E, S2, eS2, h2⟩
  · clear h
    have h := h2
    clear h2
    refine r_callV (M1 := m_K_findPerson) (κ := 22) (As := [.int a1]) eu1 (s_K_findPerson eS2) mok_K_findPerson rfl (by decide) rfl w559 w561 w9 (by decide) (kr_c8 kr_c0) d_K_enroll_2 (kr_k1 ?_) kr_kn
    refine r_astore_n (i := 3) (lv' := [(3, va_rf v3), (0, va_rf a0), (1, .int a1), (2, .int a2)]) (by decide) rfl d_K_enroll_5 ?_
    refine r_iload_n (i := 2) (x := a2) 3 rfl d_K_enroll_6 ?_
    have h2 := kr_ob2 h
    clear h
    obtain ⟨v5, S4, eS4, h⟩ := h2
    refine r_callS (M1 := m_K_isFactor) (As := [.int a2]) (s_K_isFactor eS4) mok_K_isFactor rfl w563 w564 (by decide) (kr_c8 kr_c0) d_K_enroll_7 (kr_k1 ?_) kr_kn
    rcases kr_obx h with ⟨z7, S6, eS6, h2⟩ | ⟨E, S6, eS6, h2⟩
    · clear h
      have h := h2
      clear h2
      refine r_callS (M1 := m_K_requireArgument) (As := [.int v5]) (s_K_requireArgument eS6) mok_K_requireArgument rfl w376 w377 (by decide) (kr_c8 kr_c0) d_K_enroll_10 (kr_k0 ?_) kr_kn
      refine r_aload_n (i := 3) (x := v3) 0 rfl d_K_enroll_13 ?_
      refine r_iload_n (i := 2) (x := a2) 3 rfl d_K_enroll_14 ?_
      have h2 := kr_ob h
      clear h
      obtain ⟨⟨⟩, eu8, h⟩ := h2
      have h2 := kr_ob2 h
      clear h
      obtain ⟨v10, S9, eS9, h⟩ := h2
      refine r_callV (M1 := m_Person_stateOf) (κ := 16) (As := [.int a2]) eu8 (s_Person_stateOf eS9) mok_Person_stateOf rfl (by decide) rfl w566 w567 w568 (by decide) (kr_c8 kr_c0) d_K_enroll_15 (kr_k1 ?_) kr_kn
      refine r_istore (i := 4) (lv' := [(4, .int v10), (3, va_rf v3), (0, va_rf a0), (1, .int a1), (2, .int a2)]) (by decide) (by show kr_st _ 4 _ = _; simp [kr_st, kr_rfcat, kr_icat]) d_K_enroll_18 ?_
      refine r_aload_n (i := 3) (x := v3) 1 rfl d_K_enroll_20 ?_
      refine r_iload_n (i := 2) (x := a2) 4 rfl d_K_enroll_21 ?_
      have h2 := kr_ob h
      clear h
      obtain ⟨⟨⟩, eu11, h⟩ := h2
      have h2 := kr_ob h
      clear h
      obtain ⟨S12, eS12, h⟩ := h2
      refine r_callV (M1 := m_Person_makeReady) (κ := 16) (As := [.int a2]) eu11 (s_Person_makeReady eS12) mok_Person_makeReady rfl (by decide) rfl w571 w572 w573 (by decide) (kr_c8 kr_c0) d_K_enroll_22 (kr_k0 ?_) kr_kn
      refine r_iload (i := 4) (x := v10) 0 rfl d_K_enroll_25 ?_
      cases h
      exact r_iret rfl d_K_enroll_27
    · cases h2
      exact r_callS (M1 := m_K_requireArgument) (As := [.int v5]) (s_K_requireArgument eS6) mok_K_requireArgument rfl w376 w377 (by decide) (kr_c8 kr_c0) d_K_enroll_10 kr_nk (kr_kx (r_out rfl))
  · cases h2
    exact r_callV (M1 := m_K_findPerson) (κ := 22) (As := [.int a1]) eu1 (s_K_findPerson eS2) mok_K_findPerson rfl (by decide) rfl w559 w561 w9 (by decide) (kr_c8 kr_c0) d_K_enroll_2 kr_nk (kr_kx (r_out rfl))
/-! KeyringCourt.factor(II)I -/
def f_K_factor (S : AS) (a0 : Option Nat) (a1 : Int32) (a2 : Int32) : Option ((Int32 ⊕ String) × AS) :=
  (kr_rv S 22 a0).bind fun u1 =>
  kr_bx (f_K_findPerson S a0 a1) fun v3 S2 =>
  kr_b2 (f_K_isFactor S2 a2) fun v5 S4 =>
  kr_bx (f_K_requireArgument S4 v5) fun z7 S6 =>
  (kr_rv S6 16 v3).bind fun u8 =>
  kr_b2 (f_Person_stateOf S6 v3 a2) fun v10 S9 =>
  some (.inl v10, S9)
set_option maxRecDepth 20000 in
set_option maxHeartbeats 4000000 in
theorem s_K_factor {S : AS} {a0 : Option Nat} {a1 : Int32} {a2 : Int32} {r : ((Int32 ⊕ String) × AS)} (h : f_K_factor S a0 a1 a2 = some r) : kr_Con m_K_factor 8 [va_rf a0, .int a1, .int a2] S (kr_xI r) := by
  refine kr_con rfl rfl (by decide +kernel) (by simp [lg_sl, kr_rfcat, kr_icat, m_K_factor, mL]) ?_
  rw [show lv_args 0 [va_rf a0, .int a1, .int a2] = [(0, va_rf a0), (1, .int a1), (2, .int a2)] from by simp [lv_args, kr_rfcat, kr_icat]]
  unfold f_K_factor at h
  refine r_aload_n (i := 0) (x := a0) 0 rfl d_K_factor_0 ?_
  refine r_iload_n (i := 1) (x := a1) 1 rfl d_K_factor_1 ?_
  have h2 := kr_ob h
  clear h
  obtain ⟨⟨⟩, eu1, h⟩ := h2
  rcases kr_obx h with ⟨v3, S2, eS2, h2⟩ | ⟨E, S2, eS2, h2⟩
  · clear h
    have h := h2
    clear h2
    refine r_callV (M1 := m_K_findPerson) (κ := 22) (As := [.int a1]) eu1 (s_K_findPerson eS2) mok_K_findPerson rfl (by decide) rfl w559 w561 w9 (by decide) (kr_c8 kr_c0) d_K_factor_2 (kr_k1 ?_) kr_kn
    refine r_astore_n (i := 3) (lv' := [(3, va_rf v3), (0, va_rf a0), (1, .int a1), (2, .int a2)]) (by decide) rfl d_K_factor_5 ?_
    refine r_iload_n (i := 2) (x := a2) 3 rfl d_K_factor_6 ?_
    have h2 := kr_ob2 h
    clear h
    obtain ⟨v5, S4, eS4, h⟩ := h2
    refine r_callS (M1 := m_K_isFactor) (As := [.int a2]) (s_K_isFactor eS4) mok_K_isFactor rfl w563 w564 (by decide) (kr_c8 kr_c0) d_K_factor_7 (kr_k1 ?_) kr_kn
    rcases kr_obx h with ⟨z7, S6, eS6, h2⟩ | ⟨E, S6, eS6, h2⟩
    · clear h
      have h := h2
      clear h2
      refine r_callS (M1 := m_K_requireArgument) (As := [.int v5]) (s_K_requireArgument eS6) mok_K_requireArgument rfl w376 w377 (by decide) (kr_c8 kr_c0) d_K_factor_10 (kr_k0 ?_) kr_kn
      refine r_aload_n (i := 3) (x := v3) 0 rfl d_K_factor_13 ?_
      refine r_iload_n (i := 2) (x := a2) 3 rfl d_K_factor_14 ?_
      have h2 := kr_ob h
      clear h
      obtain ⟨⟨⟩, eu8, h⟩ := h2
      have h2 := kr_ob2 h
      clear h
      obtain ⟨v10, S9, eS9, h⟩ := h2
      refine r_callV (M1 := m_Person_stateOf) (κ := 16) (As := [.int a2]) eu8 (s_Person_stateOf eS9) mok_Person_stateOf rfl (by decide) rfl w566 w567 w568 (by decide) (kr_c8 kr_c0) d_K_factor_15 (kr_k1 ?_) kr_kn
      cases h
      exact r_iret rfl d_K_factor_18
    · cases h2
      exact r_callS (M1 := m_K_requireArgument) (As := [.int v5]) (s_K_requireArgument eS6) mok_K_requireArgument rfl w376 w377 (by decide) (kr_c8 kr_c0) d_K_factor_10 kr_nk (kr_kx (r_out rfl))
  · cases h2
    exact r_callV (M1 := m_K_findPerson) (κ := 22) (As := [.int a1]) eu1 (s_K_findPerson eS2) mok_K_findPerson rfl (by decide) rfl w559 w561 w9 (by decide) (kr_c8 kr_c0) d_K_factor_2 kr_nk (kr_kx (r_out rfl))
/-! KeyringCourt.mostFirst(I)I -/
def f_K_mostFirst (S : AS) (a0 : Int32) : Option (Int32 × AS) :=
  if a0 = (0 : Int32) then
  some ((2 : Int32), S)
  else if a0 = (1 : Int32) then
  some ((0 : Int32), S)
  else if a0 = (2 : Int32) then
  some ((20 : Int32), S)
  else if a0 = (3 : Int32) then
  some ((2 : Int32), S)
  else if a0 = (4 : Int32) then
  some ((6 : Int32), S)
  else some ((0 : Int32), S)
set_option maxRecDepth 20000 in
set_option maxHeartbeats 4000000 in
theorem s_K_mostFirst {S : AS} {a0 : Int32} {r : (Int32 × AS)} (h : f_K_mostFirst S a0 = some r) : kr_Con m_K_mostFirst 0 [.int a0] S (kr_eI r) := by
  refine kr_con rfl rfl (by decide +kernel) (by simp [lg_sl, kr_rfcat, kr_icat, m_K_mostFirst, mL]) ?_
  rw [show lv_args 0 [.int a0] = [(0, .int a0)] from by simp [lv_args, kr_rfcat, kr_icat]]
  unfold f_K_mostFirst at h
  refine r_iload_n (i := 0) (x := a0) 0 rfl d_K_mostFirst_0 ?_
  by_cases c0 : a0 = (0 : Int32)
  · replace h := kr_ip c0 h
    refine r_tableIn (x := a0) (tgt := 36) d_K_mostFirst_1 (by rw [c0]; decide) (by rw [c0]; decide) (by rw [c0]; rfl) rfl ?_
    refine r_iconst (v := (2 : Int32)) (by decide) d_K_mostFirst_36 ?_
    cases h
    exact r_iret rfl d_K_mostFirst_37
  replace h := kr_in_ c0 h
  by_cases c1 : a0 = (1 : Int32)
  · replace h := kr_ip c1 h
    refine r_tableIn (x := a0) (tgt := 44) d_K_mostFirst_1 (by rw [c1]; decide) (by rw [c1]; decide) (by rw [c1]; rfl) rfl ?_
    refine r_iconst (v := (0 : Int32)) (by decide) d_K_mostFirst_44 ?_
    cases h
    exact r_iret rfl d_K_mostFirst_45
  replace h := kr_in_ c1 h
  by_cases c2 : a0 = (2 : Int32)
  · replace h := kr_ip c2 h
    refine r_tableIn (x := a0) (tgt := 38) d_K_mostFirst_1 (by rw [c2]; decide) (by rw [c2]; decide) (by rw [c2]; rfl) rfl ?_
    refine r_bipush (v := (20 : Int32)) (by decide) d_K_mostFirst_38 ?_
    cases h
    exact r_iret rfl d_K_mostFirst_40
  replace h := kr_in_ c2 h
  by_cases c3 : a0 = (3 : Int32)
  · replace h := kr_ip c3 h
    refine r_tableIn (x := a0) (tgt := 36) d_K_mostFirst_1 (by rw [c3]; decide) (by rw [c3]; decide) (by rw [c3]; rfl) rfl ?_
    refine r_iconst (v := (2 : Int32)) (by decide) d_K_mostFirst_36 ?_
    cases h
    exact r_iret rfl d_K_mostFirst_37
  replace h := kr_in_ c3 h
  by_cases c4 : a0 = (4 : Int32)
  · replace h := kr_ip c4 h
    refine r_tableIn (x := a0) (tgt := 41) d_K_mostFirst_1 (by rw [c4]; decide) (by rw [c4]; decide) (by rw [c4]; rfl) rfl ?_
    refine r_bipush (v := (6 : Int32)) (by decide) d_K_mostFirst_41 ?_
    cases h
    exact r_iret rfl d_K_mostFirst_43
  replace h := kr_in_ c4 h
  refine r_tableOut (x := a0) (tgt := 44) d_K_mostFirst_1 (kr_tab (lo := 0) (n := 5) (by decide) (by intro j hj; rcases (show j = 0 ∨ j = 1 ∨ j = 2 ∨ j = 3 ∨ j = 4 by omega) with rfl | rfl | rfl | rfl | rfl <;> first | exact c0 | exact c1 | exact c2 | exact c3 | exact c4)) rfl ?_
  refine r_iconst (v := (0 : Int32)) (by decide) d_K_mostFirst_44 ?_
  cases h
  exact r_iret rfl d_K_mostFirst_45
/-! KeyringCourt.isNext(I)Z -/
def f_K_isNext (S : AS) (a0 : Int32) : Option (Int32 × AS) :=
  kr_b2 (f_K_isWithin S a0 (-1 : Int32) (11 : Int32)) fun v2 S1 =>
  (kr_z v2).bind fun u3 =>
  some (v2, S1)
set_option maxRecDepth 20000 in
set_option maxHeartbeats 4000000 in
theorem s_K_isNext {S : AS} {a0 : Int32} {r : (Int32 × AS)} (h : f_K_isNext S a0 = some r) : kr_Con m_K_isNext 1 [.int a0] S (kr_eI r) := by
  refine kr_con rfl rfl (by decide +kernel) (by simp [lg_sl, kr_rfcat, kr_icat, m_K_isNext, mL]) ?_
  rw [show lv_args 0 [.int a0] = [(0, .int a0)] from by simp [lv_args, kr_rfcat, kr_icat]]
  unfold f_K_isNext at h
  refine r_iload_n (i := 0) (x := a0) 0 rfl d_K_isNext_0 ?_
  refine r_iconst (v := (-1 : Int32)) (by decide) d_K_isNext_1 ?_
  refine r_bipush (v := (11 : Int32)) (by decide) d_K_isNext_2 ?_
  have h2 := kr_ob2 h
  clear h
  obtain ⟨v2, S1, eS1, h⟩ := h2
  refine r_callS (M1 := m_K_isWithin) (As := [.int a0, .int (-1 : Int32), .int (11 : Int32)]) (s_K_isWithin eS1) mok_K_isWithin rfl w373 w374 (by decide) (kr_c8 kr_c0) d_K_isNext_4 (kr_k1 ?_) kr_kn
  have h2 := kr_ob h
  clear h
  obtain ⟨⟨⟩, eu3, h⟩ := h2
  cases h
  exact r_zret rfl eu3 d_K_isNext_7
/-! KeyringCourt.isStep(IIIII)Z -/
def f_K_isStep_B71 (S : AS) : Option (Int32 × AS) :=
  some ((1 : Int32), S)
def f_K_isStep_B43 (S : AS) (x0 : Int32) (x3 : Int32) (x4 : Int32) (y0 : Int32) (y1 : Int32) (y2 : Int32) : Option (Int32 × AS) :=
  kr_b2 (f_K_isWithin S y0 y1 y2) fun v2 S1 =>
  if v2 = 0 then
  some ((0 : Int32), S1)
  else
  if (5 : Int32) ≤ x0 then
  f_K_isStep_B71 S1
  else
  kr_b2 (f_K_isNext S1 x3) fun v4 S3 =>
  if v4 = 0 then
  some ((0 : Int32), S3)
  else
  kr_b2 (f_K_isNext S3 x4) fun v6 S5 =>
  if v6 = 0 then
  some ((0 : Int32), S5)
  else
  f_K_isStep_B71 S5
def f_K_isStep_B34 (S : AS) (x0 : Int32) (x3 : Int32) (x4 : Int32) (y0 : Int32) (y1 : Int32) : Option (Int32 × AS) :=
  if x0 = 0 then
  f_K_isStep_B43 S x0 x3 x4 y0 y1 (3 : Int32)
  else
  f_K_isStep_B43 S x0 x3 x4 y0 y1 (0 : Int32)
def f_K_isStep (S : AS) (a0 : Int32) (a1 : Int32) (a2 : Int32) (a3 : Int32) (a4 : Int32) : Option (Int32 × AS) :=
  kr_b2 (f_K_isWithin S a0 (0 : Int32) (6 : Int32)) fun v8 S7 =>
  if v8 = 0 then
  some ((0 : Int32), S7)
  else
  kr_b2 (f_K_mostFirst S7 a0) fun v10 S9 =>
  kr_b2 (f_K_isWithin S9 a1 (0 : Int32) v10) fun v12 S11 =>
  if v12 = 0 then
  some ((0 : Int32), S11)
  else
  if a0 = 0 then
  f_K_isStep_B34 S11 a0 a3 a4 a2 (1 : Int32)
  else
  f_K_isStep_B34 S11 a0 a3 a4 a2 (0 : Int32)
set_option maxRecDepth 20000 in
set_option maxHeartbeats 4000000 in
theorem s_K_isStep_B71 {S : AS} {r : (Int32 × AS)} (h : f_K_isStep_B71 S = some r) : kr_AW m_K_isStep 2 71 [] [] S (kr_eI r) := by
  unfold f_K_isStep_B71 at h
  refine r_iconst (v := (1 : Int32)) (by decide) d_K_isStep_71 ?_
  refine r_goto (tgt := 76) d_K_isStep_72 rfl ?_
  cases h
  exact r_zret rfl rfl d_K_isStep_76
set_option maxRecDepth 20000 in
set_option maxHeartbeats 4000000 in
theorem s_K_isStep_B43 {S : AS} {x0 : Int32} {x3 : Int32} {x4 : Int32} {y0 : Int32} {y1 : Int32} {y2 : Int32} {r : (Int32 × AS)} (h : f_K_isStep_B43 S x0 x3 x4 y0 y1 y2 = some r) : kr_AW m_K_isStep 2 43 [(0, .int x0), (3, .int x3), (4, .int x4)] [.int y2, .int y1, .int y0] S (kr_eI r) := by
  unfold f_K_isStep_B43 at h
  have h2 := kr_ob2 h
  clear h
  obtain ⟨v2, S1, eS1, h⟩ := h2
  refine r_callS (M1 := m_K_isWithin) (As := [.int y0, .int y1, .int y2]) (s_K_isWithin eS1) mok_K_isWithin rfl w373 w374 (by decide) (kr_c8 kr_c0) d_K_isStep_43 (kr_k1 ?_) kr_kn
  refine r_if_ne (tgt := 51) d_K_isStep_46 rfl (fun c => ?_) (fun c => ?_)
  · replace h := kr_ip c h
    refine r_iconst (v := (0 : Int32)) (by decide) d_K_isStep_49 ?_
    cases h
    exact r_zret rfl rfl d_K_isStep_50
  · replace h := kr_in_ c h
    refine r_iload_n (i := 0) (x := x0) 0 rfl d_K_isStep_51 ?_
    refine r_iconst (v := (5 : Int32)) (by decide) d_K_isStep_52 ?_
    refine r_icmp_ge (tgt := 71) d_K_isStep_53 rfl (fun c => ?_) (fun c => ?_)
    · replace h := kr_ip c h
      exact kr_sub [] rfl (s_K_isStep_B71 h)
    · replace h := kr_in_ c h
      refine r_iload_n (i := 3) (x := x3) 1 rfl d_K_isStep_56 ?_
      have h2 := kr_ob2 h
      clear h
      obtain ⟨v4, S3, eS3, h⟩ := h2
      refine r_callS (M1 := m_K_isNext) (As := [.int x3]) (s_K_isNext eS3) mok_K_isNext rfl w595 w596 (by decide) (kr_c8 kr_c0) d_K_isStep_57 (kr_k1 ?_) kr_kn
      refine r_if_eq (tgt := 75) d_K_isStep_60 rfl (fun c => ?_) (fun c => ?_)
      · replace h := kr_ip c h
        refine r_iconst (v := (0 : Int32)) (by decide) d_K_isStep_75 ?_
        cases h
        exact r_zret rfl rfl d_K_isStep_76
      · replace h := kr_in_ c h
        refine r_iload (i := 4) (x := x4) 2 rfl d_K_isStep_63 ?_
        have h2 := kr_ob2 h
        clear h
        obtain ⟨v6, S5, eS5, h⟩ := h2
        refine r_callS (M1 := m_K_isNext) (As := [.int x4]) (s_K_isNext eS5) mok_K_isNext rfl w595 w596 (by decide) (kr_c8 kr_c0) d_K_isStep_65 (kr_k1 ?_) kr_kn
        refine r_if_eq (tgt := 75) d_K_isStep_68 rfl (fun c => ?_) (fun c => ?_)
        · replace h := kr_ip c h
          refine r_iconst (v := (0 : Int32)) (by decide) d_K_isStep_75 ?_
          cases h
          exact r_zret rfl rfl d_K_isStep_76
        · replace h := kr_in_ c h
          exact kr_sub [] rfl (s_K_isStep_B71 h)
set_option maxRecDepth 20000 in
set_option maxHeartbeats 4000000 in
theorem s_K_isStep_B34 {S : AS} {x0 : Int32} {x3 : Int32} {x4 : Int32} {y0 : Int32} {y1 : Int32} {r : (Int32 × AS)} (h : f_K_isStep_B34 S x0 x3 x4 y0 y1 = some r) : kr_AW m_K_isStep 2 34 [(0, .int x0), (3, .int x3), (4, .int x4)] [.int y1, .int y0] S (kr_eI r) := by
  unfold f_K_isStep_B34 at h
  refine r_iload_n (i := 0) (x := x0) 0 rfl d_K_isStep_34 ?_
  refine r_if_ne (tgt := 42) d_K_isStep_35 rfl (fun c => ?_) (fun c => ?_)
  · replace h := kr_ip c h
    refine r_iconst (v := (3 : Int32)) (by decide) d_K_isStep_38 ?_
    refine r_goto (tgt := 43) d_K_isStep_39 rfl ?_
    exact kr_sub [0, 1, 2] rfl (s_K_isStep_B43 h)
  · replace h := kr_in_ c h
    refine r_iconst (v := (0 : Int32)) (by decide) d_K_isStep_42 ?_
    exact kr_sub [0, 1, 2] rfl (s_K_isStep_B43 h)
set_option maxRecDepth 20000 in
set_option maxHeartbeats 4000000 in
theorem s_K_isStep {S : AS} {a0 : Int32} {a1 : Int32} {a2 : Int32} {a3 : Int32} {a4 : Int32} {r : (Int32 × AS)} (h : f_K_isStep S a0 a1 a2 a3 a4 = some r) : kr_Con m_K_isStep 2 [.int a0, .int a1, .int a2, .int a3, .int a4] S (kr_eI r) := by
  refine kr_con rfl rfl (by decide +kernel) (by simp [lg_sl, kr_rfcat, kr_icat, m_K_isStep, mL]) ?_
  rw [show lv_args 0 [.int a0, .int a1, .int a2, .int a3, .int a4] = [(0, .int a0), (1, .int a1), (2, .int a2), (3, .int a3), (4, .int a4)] from by simp [lv_args, kr_rfcat, kr_icat]]
  unfold f_K_isStep at h
  refine r_iload_n (i := 0) (x := a0) 0 rfl d_K_isStep_0 ?_
  refine r_iconst (v := (0 : Int32)) (by decide) d_K_isStep_1 ?_
  refine r_bipush (v := (6 : Int32)) (by decide) d_K_isStep_2 ?_
  have h2 := kr_ob2 h
  clear h
  obtain ⟨v8, S7, eS7, h⟩ := h2
  refine r_callS (M1 := m_K_isWithin) (As := [.int a0, .int (0 : Int32), .int (6 : Int32)]) (s_K_isWithin eS7) mok_K_isWithin rfl w373 w374 (by decide) (kr_c8 kr_c0) d_K_isStep_4 (kr_k1 ?_) kr_kn
  refine r_if_eq (tgt := 22) d_K_isStep_7 rfl (fun c => ?_) (fun c => ?_)
  · replace h := kr_ip c h
    refine r_iconst (v := (0 : Int32)) (by decide) d_K_isStep_22 ?_
    cases h
    exact r_zret rfl rfl d_K_isStep_23
  · replace h := kr_in_ c h
    refine r_iload_n (i := 1) (x := a1) 1 rfl d_K_isStep_10 ?_
    refine r_iconst (v := (0 : Int32)) (by decide) d_K_isStep_11 ?_
    refine r_iload_n (i := 0) (x := a0) 0 rfl d_K_isStep_12 ?_
    have h2 := kr_ob2 h
    clear h
    obtain ⟨v10, S9, eS9, h⟩ := h2
    refine r_callS (M1 := m_K_mostFirst) (As := [.int a0]) (s_K_mostFirst eS9) mok_K_mostFirst rfl w592 w593 (by decide) (kr_c8 (kr_cI (kr_cI kr_c0))) d_K_isStep_13 (kr_k1 ?_) kr_kn
    have h2 := kr_ob2 h
    clear h
    obtain ⟨v12, S11, eS11, h⟩ := h2
    refine r_callS (M1 := m_K_isWithin) (As := [.int a1, .int (0 : Int32), .int v10]) (s_K_isWithin eS11) mok_K_isWithin rfl w373 w374 (by decide) (kr_c8 kr_c0) d_K_isStep_16 (kr_k1 ?_) kr_kn
    refine r_if_ne (tgt := 24) d_K_isStep_19 rfl (fun c => ?_) (fun c => ?_)
    · replace h := kr_ip c h
      refine r_iconst (v := (0 : Int32)) (by decide) d_K_isStep_22 ?_
      cases h
      exact r_zret rfl rfl d_K_isStep_23
    · replace h := kr_in_ c h
      refine r_iload_n (i := 2) (x := a2) 2 rfl d_K_isStep_24 ?_
      refine r_iload_n (i := 0) (x := a0) 0 rfl d_K_isStep_25 ?_
      refine r_if_ne (tgt := 33) d_K_isStep_26 rfl (fun c => ?_) (fun c => ?_)
      · replace h := kr_ip c h
        refine r_iconst (v := (1 : Int32)) (by decide) d_K_isStep_29 ?_
        refine r_goto (tgt := 34) d_K_isStep_30 rfl ?_
        exact kr_sub [0, 3, 4] rfl (s_K_isStep_B34 h)
      · replace h := kr_in_ c h
        refine r_iconst (v := (0 : Int32)) (by decide) d_K_isStep_33 ?_
        exact kr_sub [0, 3, 4] rfl (s_K_isStep_B34 h)
/-! KeyringCourt.step(IIIII)I -/
def f_K_step_B30 (S : AS) (x0 : Option Nat) (x1 : Int32) (x2 : Int32) (x3 : Int32) (x4 : Int32) (x5 : Int32) (y0 : Int32) : Option ((Int32 ⊕ String) × AS) :=
  kr_bx (f_K_requireState S y0) fun z2 S1 =>
  (gR S1 22 5 x0).bind fun v3 =>
  (kr_rv S1 13 v3).bind fun u4 =>
  kr_b2 (f_Flow_add S1 v3 x1 x2 x3 x4 x5) fun v6 S5 =>
  some (.inl v6, S5)
def f_K_step (S : AS) (a0 : Option Nat) (a1 : Int32) (a2 : Int32) (a3 : Int32) (a4 : Int32) (a5 : Int32) : Option ((Int32 ⊕ String) × AS) :=
  kr_b2 (f_K_isStep S a1 a2 a3 a4 a5) fun v8 S7 =>
  kr_bx (f_K_requireArgument S7 v8) fun z10 S9 =>
  (gR S9 22 5 a0).bind fun v11 =>
  (gI S9 13 5 v11).bind fun v12 =>
  if (12 : Int32) ≤ v12 then
  f_K_step_B30 S9 a0 a1 a2 a3 a4 a5 (0 : Int32)
  else
  f_K_step_B30 S9 a0 a1 a2 a3 a4 a5 (1 : Int32)
set_option maxRecDepth 20000 in
set_option maxHeartbeats 4000000 in
theorem s_K_step_B30 {S : AS} {x0 : Option Nat} {x1 : Int32} {x2 : Int32} {x3 : Int32} {x4 : Int32} {x5 : Int32} {y0 : Int32} {r : ((Int32 ⊕ String) × AS)} (h : f_K_step_B30 S x0 x1 x2 x3 x4 x5 y0 = some r) : kr_AW m_K_step 8 30 [(0, va_rf x0), (1, .int x1), (2, .int x2), (3, .int x3), (4, .int x4), (5, .int x5)] [.int y0] S (kr_xI r) := by
  unfold f_K_step_B30 at h
  rcases kr_obx h with ⟨z2, S1, eS1, h2⟩ | ⟨E, S1, eS1, h2⟩
  · clear h
    have h := h2
    clear h2
    refine r_callS (M1 := m_K_requireState) (As := [.int y0]) (s_K_requireState eS1) mok_K_requireState rfl w442 w443 (by decide) (kr_c8 kr_c0) d_K_step_30 (kr_k0 ?_) kr_kn
    refine r_aload_n (i := 0) (x := x0) 0 rfl d_K_step_33 ?_
    have h2 := kr_ob h
    clear h
    obtain ⟨v3, ev3, h⟩ := h2
    refine r_getR ev3 fk28 rfl d_K_step_34 ?_
    refine r_iload_n (i := 1) (x := x1) 1 rfl d_K_step_37 ?_
    refine r_iload_n (i := 2) (x := x2) 2 rfl d_K_step_38 ?_
    refine r_iload_n (i := 3) (x := x3) 3 rfl d_K_step_39 ?_
    refine r_iload (i := 4) (x := x4) 4 rfl d_K_step_40 ?_
    refine r_iload (i := 5) (x := x5) 5 rfl d_K_step_42 ?_
    have h2 := kr_ob h
    clear h
    obtain ⟨⟨⟩, eu4, h⟩ := h2
    have h2 := kr_ob2 h
    clear h
    obtain ⟨v6, S5, eS5, h⟩ := h2
    refine r_callV (M1 := m_Flow_add) (κ := 13) (As := [.int x1, .int x2, .int x3, .int x4, .int x5]) eu4 (s_Flow_add eS5) mok_Flow_add rfl (by decide) rfl w598 w599 w600 (by decide) (kr_c8 kr_c0) d_K_step_44 (kr_k1 ?_) kr_kn
    cases h
    exact r_iret rfl d_K_step_47
  · cases h2
    exact r_callS (M1 := m_K_requireState) (As := [.int y0]) (s_K_requireState eS1) mok_K_requireState rfl w442 w443 (by decide) (kr_c8 kr_c0) d_K_step_30 kr_nk (kr_kx (r_out rfl))
set_option maxRecDepth 20000 in
set_option maxHeartbeats 4000000 in
theorem s_K_step {S : AS} {a0 : Option Nat} {a1 : Int32} {a2 : Int32} {a3 : Int32} {a4 : Int32} {a5 : Int32} {r : ((Int32 ⊕ String) × AS)} (h : f_K_step S a0 a1 a2 a3 a4 a5 = some r) : kr_Con m_K_step 8 [va_rf a0, .int a1, .int a2, .int a3, .int a4, .int a5] S (kr_xI r) := by
  refine kr_con rfl rfl (by decide +kernel) (by simp [lg_sl, kr_rfcat, kr_icat, m_K_step, mL]) ?_
  rw [show lv_args 0 [va_rf a0, .int a1, .int a2, .int a3, .int a4, .int a5] = [(0, va_rf a0), (1, .int a1), (2, .int a2), (3, .int a3), (4, .int a4), (5, .int a5)] from by simp [lv_args, kr_rfcat, kr_icat]]
  unfold f_K_step at h
  refine r_iload_n (i := 1) (x := a1) 1 rfl d_K_step_0 ?_
  refine r_iload_n (i := 2) (x := a2) 2 rfl d_K_step_1 ?_
  refine r_iload_n (i := 3) (x := a3) 3 rfl d_K_step_2 ?_
  refine r_iload (i := 4) (x := a4) 4 rfl d_K_step_3 ?_
  refine r_iload (i := 5) (x := a5) 5 rfl d_K_step_5 ?_
  have h2 := kr_ob2 h
  clear h
  obtain ⟨v8, S7, eS7, h⟩ := h2
  refine r_callS (M1 := m_K_isStep) (As := [.int a1, .int a2, .int a3, .int a4, .int a5]) (s_K_isStep eS7) mok_K_isStep rfl w589 w590 (by decide) (kr_c8 kr_c0) d_K_step_7 (kr_k1 ?_) kr_kn
  rcases kr_obx h with ⟨z10, S9, eS9, h2⟩ | ⟨E, S9, eS9, h2⟩
  · clear h
    have h := h2
    clear h2
    refine r_callS (M1 := m_K_requireArgument) (As := [.int v8]) (s_K_requireArgument eS9) mok_K_requireArgument rfl w376 w377 (by decide) (kr_c8 kr_c0) d_K_step_10 (kr_k0 ?_) kr_kn
    refine r_aload_n (i := 0) (x := a0) 0 rfl d_K_step_13 ?_
    have h2 := kr_ob h
    clear h
    obtain ⟨v11, ev11, h⟩ := h2
    refine r_getR ev11 fk28 rfl d_K_step_14 ?_
    have h2 := kr_ob h
    clear h
    obtain ⟨v12, ev12, h⟩ := h2
    refine r_getI ev12 fk138 rfl d_K_step_17 ?_
    refine r_bipush (v := (12 : Int32)) (by decide) d_K_step_20 ?_
    refine r_icmp_ge (tgt := 29) d_K_step_22 rfl (fun c => ?_) (fun c => ?_)
    · replace h := kr_ip c h
      refine r_iconst (v := (0 : Int32)) (by decide) d_K_step_29 ?_
      exact kr_sub [0, 1, 2, 3, 4, 5] rfl (s_K_step_B30 h)
    · replace h := kr_in_ c h
      refine r_iconst (v := (1 : Int32)) (by decide) d_K_step_25 ?_
      refine r_goto (tgt := 30) d_K_step_26 rfl ?_
      exact kr_sub [0, 1, 2, 3, 4, 5] rfl (s_K_step_B30 h)
  · cases h2
    exact r_callS (M1 := m_K_requireArgument) (As := [.int v8]) (s_K_requireArgument eS9) mok_K_requireArgument rfl w376 w377 (by decide) (kr_c8 kr_c0) d_K_step_10 kr_nk (kr_kx (r_out rfl))
/-! KeyringCourt.clear()I -/
def f_K_clear (S : AS) (a0 : Option Nat) : Option (Int32 × AS) :=
  (gR S 22 5 a0).bind fun v1 =>
  (gI S 13 5 v1).bind fun v2 =>
  (gR S 22 5 a0).bind fun v3 =>
  (pI S 13 5 v3 (0 : Int32)).bind fun S4 =>
  some (v2, S4)
set_option maxRecDepth 20000 in
set_option maxHeartbeats 4000000 in
theorem s_K_clear {S : AS} {a0 : Option Nat} {r : (Int32 × AS)} (h : f_K_clear S a0 = some r) : kr_Con m_K_clear 0 [va_rf a0] S (kr_eI r) := by
  refine kr_con rfl rfl (by decide +kernel) (by simp [lg_sl, kr_rfcat, kr_icat, m_K_clear, mL]) ?_
  rw [show lv_args 0 [va_rf a0] = [(0, va_rf a0)] from by simp [lv_args, kr_rfcat, kr_icat]]
  unfold f_K_clear at h
  refine r_aload_n (i := 0) (x := a0) 0 rfl d_K_clear_0 ?_
  have h2 := kr_ob h
  clear h
  obtain ⟨v1, ev1, h⟩ := h2
  refine r_getR ev1 fk28 rfl d_K_clear_1 ?_
  have h2 := kr_ob h
  clear h
  obtain ⟨v2, ev2, h⟩ := h2
  refine r_getI ev2 fk138 rfl d_K_clear_4 ?_
  refine r_istore_n (i := 1) (lv' := [(1, .int v2), (0, va_rf a0)]) (by decide) (by show kr_st _ 1 _ = _; simp [kr_st, kr_rfcat, kr_icat]) d_K_clear_7 ?_
  refine r_aload_n (i := 0) (x := a0) 1 rfl d_K_clear_8 ?_
  have h2 := kr_ob h
  clear h
  obtain ⟨v3, ev3, h⟩ := h2
  refine r_getR ev3 fk28 rfl d_K_clear_9 ?_
  refine r_iconst (v := (0 : Int32)) (by decide) d_K_clear_12 ?_
  have h2 := kr_ob h
  clear h
  obtain ⟨S4, eS4, h⟩ := h2
  refine r_putI eS4 fk138 (Or.inl rfl) rfl d_K_clear_13 ?_
  refine r_iload_n (i := 1) (x := v2) 0 rfl d_K_clear_16 ?_
  cases h
  exact r_iret rfl d_K_clear_17
/-! KeyringCourt.publish()I -/
def f_K_publish_B55 (S : AS) (x0 : Option Nat) (y0 : Int32) : Option ((Int32 ⊕ String) × AS) :=
  kr_bx (f_K_requireState S y0) fun z2 S1 =>
  (gR S1 22 6 x0).bind fun v3 =>
  (gR S1 22 5 x0).bind fun v4 =>
  (kr_rv S1 10 v3).bind fun u5 =>
  kr_b2 (f_AL_add1 S1 v3 v4) fun v7 S6 =>
  (some (nO S6 13)).bind fun S8 =>
  (f_Flow_init S8 (some (sN S6))).bind fun S9 =>
  (pR S9 22 5 x0 (some (sN S6))).bind fun S10 =>
  (gR S10 22 6 x0).bind fun v11 =>
  (kr_rv S10 10 v11).bind fun u12 =>
  kr_b2 (f_AL_size S10 v11) fun v14 S13 =>
  some (.inl (v14 - (1 : Int32)), S13)
def f_K_publish_B54 (S : AS) (x0 : Option Nat) : Option ((Int32 ⊕ String) × AS) :=
  f_K_publish_B55 S x0 (0 : Int32)
def f_K_publish_B17 (S : AS) (x0 : Option Nat) (y0 : Int32) : Option ((Int32 ⊕ String) × AS) :=
  kr_bx (f_K_requireState S y0) fun z16 S15 =>
  (gR S15 22 5 x0).bind fun v17 =>
  (gI S15 13 5 v17).bind fun v18 =>
  if v18 ≤ 0 then
  f_K_publish_B54 S15 x0
  else
  (gR S15 22 5 x0).bind fun v19 =>
  (kr_rv S15 13 v19).bind fun u20 =>
  kr_b2 (f_Flow_hasAllNextSteps S15 v19) fun v22 S21 =>
  if v22 = 0 then
  f_K_publish_B54 S21 x0
  else
  (gR S21 22 5 x0).bind fun v23 =>
  (kr_rv S21 13 v23).bind fun u24 =>
  kr_b2 (f_Flow_hasLoopOfTests S21 v23) fun v26 S25 =>
  if v26 = 0 then
  f_K_publish_B55 S25 x0 (1 : Int32)
  else
  f_K_publish_B54 S25 x0
def f_K_publish (S : AS) (a0 : Option Nat) : Option ((Int32 ⊕ String) × AS) :=
  (gR S 22 6 a0).bind fun v27 =>
  (kr_rv S 10 v27).bind fun u28 =>
  kr_b2 (f_AL_size S v27) fun v30 S29 =>
  if (8 : Int32) ≤ v30 then
  f_K_publish_B17 S29 a0 (0 : Int32)
  else
  f_K_publish_B17 S29 a0 (1 : Int32)
set_option maxRecDepth 20000 in
set_option maxHeartbeats 4000000 in
theorem s_K_publish_B55 {S : AS} {x0 : Option Nat} {y0 : Int32} {r : ((Int32 ⊕ String) × AS)} (h : f_K_publish_B55 S x0 y0 = some r) : kr_AW m_K_publish 8 55 [(0, va_rf x0)] [.int y0] S (kr_xI r) := by
  unfold f_K_publish_B55 at h
  rcases kr_obx h with ⟨z2, S1, eS1, h2⟩ | ⟨E, S1, eS1, h2⟩
  · clear h
    have h := h2
    clear h2
    refine r_callS (M1 := m_K_requireState) (As := [.int y0]) (s_K_requireState eS1) mok_K_requireState rfl w442 w443 (by decide) (kr_c8 kr_c0) d_K_publish_55 (kr_k0 ?_) kr_kn
    refine r_aload_n (i := 0) (x := x0) 0 rfl d_K_publish_58 ?_
    have h2 := kr_ob h
    clear h
    obtain ⟨v3, ev3, h⟩ := h2
    refine r_getR ev3 fk29 rfl d_K_publish_59 ?_
    refine r_aload_n (i := 0) (x := x0) 0 rfl d_K_publish_62 ?_
    have h2 := kr_ob h
    clear h
    obtain ⟨v4, ev4, h⟩ := h2
    refine r_getR ev4 fk28 rfl d_K_publish_63 ?_
    have h2 := kr_ob h
    clear h
    obtain ⟨⟨⟩, eu5, h⟩ := h2
    have h2 := kr_ob2 h
    clear h
    obtain ⟨v7, S6, eS6, h⟩ := h2
    refine r_callV (M1 := m_AL_add1) (κ := 10) (As := [va_rf v4]) eu5 (s_AL_add1 eS6) mok_AL_add1 rfl (by decide) rfl w642 w643 w644 (by decide) (kr_c8 kr_c0) d_K_publish_66 (kr_k1 ?_) kr_kn
    refine r_pop rfl d_K_publish_69 ?_
    refine r_aload_n (i := 0) (x := x0) 0 rfl d_K_publish_70 ?_
    have h2 := kr_ob h
    clear h
    obtain ⟨S8, eS8, h⟩ := h2
    refine r_newO_ (κ := 13) eS8 (by decide) w136 w137 w77 d_K_publish_71 ?_
    refine r_dup (kr_rfcat _) d_K_publish_74 ?_
    have h2 := kr_ob h
    clear h
    obtain ⟨S9, eS9, h⟩ := h2
    refine r_callIN (M1 := m_Flow_init) (As := []) (s_Flow_init eS9) mok_Flow_init rfl rfl rfl w138 w139 (by decide) (kr_c8 (kr_cR (kr_cR kr_c0))) d_K_publish_75 (kr_k0 ?_) kr_kn
    have h2 := kr_ob h
    clear h
    obtain ⟨S10, eS10, h⟩ := h2
    refine r_putR eS10 fk28 (Or.inl rfl) rfl d_K_publish_78 ?_
    refine r_aload_n (i := 0) (x := x0) 0 rfl d_K_publish_81 ?_
    have h2 := kr_ob h
    clear h
    obtain ⟨v11, ev11, h⟩ := h2
    refine r_getR ev11 fk29 rfl d_K_publish_82 ?_
    have h2 := kr_ob h
    clear h
    obtain ⟨⟨⟩, eu12, h⟩ := h2
    have h2 := kr_ob2 h
    clear h
    obtain ⟨v14, S13, eS13, h⟩ := h2
    refine r_callV (M1 := m_AL_size) (κ := 10) (As := []) eu12 (s_AL_size eS13) mok_AL_size rfl (by decide) rfl w348 w349 w350 (by decide) (kr_c8 kr_c0) d_K_publish_85 (kr_k1 ?_) kr_kn
    refine r_iconst (v := (1 : Int32)) (by decide) d_K_publish_88 ?_
    refine r_isub d_K_publish_89 ?_
    cases h
    exact r_iret rfl d_K_publish_90
  · cases h2
    exact r_callS (M1 := m_K_requireState) (As := [.int y0]) (s_K_requireState eS1) mok_K_requireState rfl w442 w443 (by decide) (kr_c8 kr_c0) d_K_publish_55 kr_nk (kr_kx (r_out rfl))
set_option maxRecDepth 20000 in
set_option maxHeartbeats 4000000 in
theorem s_K_publish_B54 {S : AS} {x0 : Option Nat} {r : ((Int32 ⊕ String) × AS)} (h : f_K_publish_B54 S x0 = some r) : kr_AW m_K_publish 8 54 [(0, va_rf x0)] [] S (kr_xI r) := by
  unfold f_K_publish_B54 at h
  refine r_iconst (v := (0 : Int32)) (by decide) d_K_publish_54 ?_
  exact kr_sub [0] rfl (s_K_publish_B55 h)
set_option maxRecDepth 20000 in
set_option maxHeartbeats 4000000 in
theorem s_K_publish_B17 {S : AS} {x0 : Option Nat} {y0 : Int32} {r : ((Int32 ⊕ String) × AS)} (h : f_K_publish_B17 S x0 y0 = some r) : kr_AW m_K_publish 8 17 [(0, va_rf x0)] [.int y0] S (kr_xI r) := by
  unfold f_K_publish_B17 at h
  rcases kr_obx h with ⟨z16, S15, eS15, h2⟩ | ⟨E, S15, eS15, h2⟩
  · clear h
    have h := h2
    clear h2
    refine r_callS (M1 := m_K_requireState) (As := [.int y0]) (s_K_requireState eS15) mok_K_requireState rfl w442 w443 (by decide) (kr_c8 kr_c0) d_K_publish_17 (kr_k0 ?_) kr_kn
    refine r_aload_n (i := 0) (x := x0) 0 rfl d_K_publish_20 ?_
    have h2 := kr_ob h
    clear h
    obtain ⟨v17, ev17, h⟩ := h2
    refine r_getR ev17 fk28 rfl d_K_publish_21 ?_
    have h2 := kr_ob h
    clear h
    obtain ⟨v18, ev18, h⟩ := h2
    refine r_getI ev18 fk138 rfl d_K_publish_24 ?_
    refine r_if_le (tgt := 54) d_K_publish_27 rfl (fun c => ?_) (fun c => ?_)
    · replace h := kr_ip c h
      exact kr_sub [0] rfl (s_K_publish_B54 h)
    · replace h := kr_in_ c h
      refine r_aload_n (i := 0) (x := x0) 0 rfl d_K_publish_30 ?_
      have h2 := kr_ob h
      clear h
      obtain ⟨v19, ev19, h⟩ := h2
      refine r_getR ev19 fk28 rfl d_K_publish_31 ?_
      have h2 := kr_ob h
      clear h
      obtain ⟨⟨⟩, eu20, h⟩ := h2
      have h2 := kr_ob2 h
      clear h
      obtain ⟨v22, S21, eS21, h⟩ := h2
      refine r_callV (M1 := m_Flow_hasAllNextSteps) (κ := 13) (As := []) eu20 (s_Flow_hasAllNextSteps eS21) mok_Flow_hasAllNextSteps rfl (by decide) rfl w609 w610 w611 (by decide) (kr_c8 kr_c0) d_K_publish_34 (kr_k1 ?_) kr_kn
      refine r_if_eq (tgt := 54) d_K_publish_37 rfl (fun c => ?_) (fun c => ?_)
      · replace h := kr_ip c h
        exact kr_sub [0] rfl (s_K_publish_B54 h)
      · replace h := kr_in_ c h
        refine r_aload_n (i := 0) (x := x0) 0 rfl d_K_publish_40 ?_
        have h2 := kr_ob h
        clear h
        obtain ⟨v23, ev23, h⟩ := h2
        refine r_getR ev23 fk28 rfl d_K_publish_41 ?_
        have h2 := kr_ob h
        clear h
        obtain ⟨⟨⟩, eu24, h⟩ := h2
        have h2 := kr_ob2 h
        clear h
        obtain ⟨v26, S25, eS25, h⟩ := h2
        refine r_callV (M1 := m_Flow_hasLoopOfTests) (κ := 13) (As := []) eu24 (s_Flow_hasLoopOfTests eS25) mok_Flow_hasLoopOfTests rfl (by decide) rfl w629 w630 w631 (by decide) (kr_c8 kr_c0) d_K_publish_44 (kr_k1 ?_) kr_kn
        refine r_if_ne (tgt := 54) d_K_publish_47 rfl (fun c => ?_) (fun c => ?_)
        · replace h := kr_ip c h
          refine r_iconst (v := (1 : Int32)) (by decide) d_K_publish_50 ?_
          refine r_goto (tgt := 55) d_K_publish_51 rfl ?_
          exact kr_sub [0] rfl (s_K_publish_B55 h)
        · replace h := kr_in_ c h
          exact kr_sub [0] rfl (s_K_publish_B54 h)
  · cases h2
    exact r_callS (M1 := m_K_requireState) (As := [.int y0]) (s_K_requireState eS15) mok_K_requireState rfl w442 w443 (by decide) (kr_c8 kr_c0) d_K_publish_17 kr_nk (kr_kx (r_out rfl))
set_option maxRecDepth 20000 in
set_option maxHeartbeats 4000000 in
theorem s_K_publish {S : AS} {a0 : Option Nat} {r : ((Int32 ⊕ String) × AS)} (h : f_K_publish S a0 = some r) : kr_Con m_K_publish 8 [va_rf a0] S (kr_xI r) := by
  refine kr_con rfl rfl (by decide +kernel) (by simp [lg_sl, kr_rfcat, kr_icat, m_K_publish, mL]) ?_
  rw [show lv_args 0 [va_rf a0] = [(0, va_rf a0)] from by simp [lv_args, kr_rfcat, kr_icat]]
  unfold f_K_publish at h
  refine r_aload_n (i := 0) (x := a0) 0 rfl d_K_publish_0 ?_
  have h2 := kr_ob h
  clear h
  obtain ⟨v27, ev27, h⟩ := h2
  refine r_getR ev27 fk29 rfl d_K_publish_1 ?_
  have h2 := kr_ob h
  clear h
  obtain ⟨⟨⟩, eu28, h⟩ := h2
  have h2 := kr_ob2 h
  clear h
  obtain ⟨v30, S29, eS29, h⟩ := h2
  refine r_callV (M1 := m_AL_size) (κ := 10) (As := []) eu28 (s_AL_size eS29) mok_AL_size rfl (by decide) rfl w348 w349 w350 (by decide) (kr_c8 kr_c0) d_K_publish_4 (kr_k1 ?_) kr_kn
  refine r_bipush (v := (8 : Int32)) (by decide) d_K_publish_7 ?_
  refine r_icmp_ge (tgt := 16) d_K_publish_9 rfl (fun c => ?_) (fun c => ?_)
  · replace h := kr_ip c h
    refine r_iconst (v := (0 : Int32)) (by decide) d_K_publish_16 ?_
    exact kr_sub [0] rfl (s_K_publish_B17 h)
  · replace h := kr_in_ c h
    refine r_iconst (v := (1 : Int32)) (by decide) d_K_publish_12 ?_
    refine r_goto (tgt := 17) d_K_publish_13 rfl ?_
    exact kr_sub [0] rfl (s_K_publish_B17 h)
/-! KeyringCourt.requireIndex(II)V -/
def f_K_requireIndex_B9 (S : AS) : Option ((Unit ⊕ String) × AS) :=
  some (.inr "java/lang/IndexOutOfBoundsException", wX S)
def f_K_requireIndex (S : AS) (a0 : Int32) (a1 : Int32) : Option ((Unit ⊕ String) × AS) :=
  if a0 < 0 then
  f_K_requireIndex_B9 S
  else
  if a0 < a1 then
  some (.inl (), S)
  else
  f_K_requireIndex_B9 S
set_option maxRecDepth 20000 in
set_option maxHeartbeats 4000000 in
theorem s_K_requireIndex_B9 {S : AS} {r : ((Unit ⊕ String) × AS)} (h : f_K_requireIndex_B9 S = some r) : kr_AW m_K_requireIndex 7 9 [] [] S (kr_xV r) := by
  unfold f_K_requireIndex_B9 at h
  cases h
  exact r_throw ["java/lang/RuntimeException", "java/lang/Exception"] rfl th2 (by decide) (kr_c8 kr_c0) d_K_requireIndex_9 d_K_requireIndex_12 d_K_requireIndex_13 d_K_requireIndex_16
set_option maxRecDepth 20000 in
set_option maxHeartbeats 4000000 in
theorem s_K_requireIndex {S : AS} {a0 : Int32} {a1 : Int32} {r : ((Unit ⊕ String) × AS)} (h : f_K_requireIndex S a0 a1 = some r) : kr_Con m_K_requireIndex 7 [.int a0, .int a1] S (kr_xV r) := by
  refine kr_con rfl rfl (by decide +kernel) (by simp [lg_sl, kr_rfcat, kr_icat, m_K_requireIndex, mL]) ?_
  rw [show lv_args 0 [.int a0, .int a1] = [(0, .int a0), (1, .int a1)] from by simp [lv_args, kr_rfcat, kr_icat]]
  unfold f_K_requireIndex at h
  refine r_iload_n (i := 0) (x := a0) 0 rfl d_K_requireIndex_0 ?_
  refine r_if_lt (tgt := 9) d_K_requireIndex_1 rfl (fun c => ?_) (fun c => ?_)
  · replace h := kr_ip c h
    exact kr_sub [] rfl (s_K_requireIndex_B9 h)
  · replace h := kr_in_ c h
    refine r_iload_n (i := 0) (x := a0) 0 rfl d_K_requireIndex_4 ?_
    refine r_iload_n (i := 1) (x := a1) 1 rfl d_K_requireIndex_5 ?_
    refine r_icmp_lt (tgt := 17) d_K_requireIndex_6 rfl (fun c => ?_) (fun c => ?_)
    · replace h := kr_ip c h
      cases h
      exact r_vret rfl d_K_requireIndex_17
    · replace h := kr_in_ c h
      exact kr_sub [] rfl (s_K_requireIndex_B9 h)
/-! KeyringCourt.weakest(I)I -/
def f_K_weakest (S : AS) (a0 : Option Nat) (a1 : Int32) : Option ((Int32 ⊕ String) × AS) :=
  (gR S 22 6 a0).bind fun v1 =>
  (kr_rv S 10 v1).bind fun u2 =>
  kr_b2 (f_AL_size S v1) fun v4 S3 =>
  kr_bx (f_K_requireIndex S3 a1 v4) fun z6 S5 =>
  (gR S5 22 6 a0).bind fun v7 =>
  (kr_rv S5 10 v7).bind fun u8 =>
  kr_b2 (f_AL_get S5 v7 a1) fun v10 S9 =>
  (kr_cc S9 13 v10).bind fun u11 =>
  (kr_rv S9 13 v10).bind fun u12 =>
  kr_b2 (f_Flow_weakestLevel S9 v10) fun v14 S13 =>
  some (.inl v14, S13)
set_option maxRecDepth 20000 in
set_option maxHeartbeats 4000000 in
theorem s_K_weakest {S : AS} {a0 : Option Nat} {a1 : Int32} {r : ((Int32 ⊕ String) × AS)} (h : f_K_weakest S a0 a1 = some r) : kr_Con m_K_weakest 8 [va_rf a0, .int a1] S (kr_xI r) := by
  refine kr_con rfl rfl (by decide +kernel) (by simp [lg_sl, kr_rfcat, kr_icat, m_K_weakest, mL]) ?_
  rw [show lv_args 0 [va_rf a0, .int a1] = [(0, va_rf a0), (1, .int a1)] from by simp [lv_args, kr_rfcat, kr_icat]]
  unfold f_K_weakest at h
  refine r_iload_n (i := 1) (x := a1) 1 rfl d_K_weakest_0 ?_
  refine r_aload_n (i := 0) (x := a0) 0 rfl d_K_weakest_1 ?_
  have h2 := kr_ob h
  clear h
  obtain ⟨v1, ev1, h⟩ := h2
  refine r_getR ev1 fk29 rfl d_K_weakest_2 ?_
  have h2 := kr_ob h
  clear h
  obtain ⟨⟨⟩, eu2, h⟩ := h2
  have h2 := kr_ob2 h
  clear h
  obtain ⟨v4, S3, eS3, h⟩ := h2
  refine r_callV (M1 := m_AL_size) (κ := 10) (As := []) eu2 (s_AL_size eS3) mok_AL_size rfl (by decide) rfl w348 w349 w350 (by decide) (kr_c8 (kr_cI kr_c0)) d_K_weakest_5 (kr_k1 ?_) kr_kn
  rcases kr_obx h with ⟨z6, S5, eS5, h2⟩ | ⟨E, S5, eS5, h2⟩
  · clear h
    have h := h2
    clear h2
    refine r_callS (M1 := m_K_requireIndex) (As := [.int a1, .int v4]) (s_K_requireIndex eS5) mok_K_requireIndex rfl w713 w714 (by decide) (kr_c8 kr_c0) d_K_weakest_8 (kr_k0 ?_) kr_kn
    refine r_aload_n (i := 0) (x := a0) 0 rfl d_K_weakest_11 ?_
    have h2 := kr_ob h
    clear h
    obtain ⟨v7, ev7, h⟩ := h2
    refine r_getR ev7 fk29 rfl d_K_weakest_12 ?_
    refine r_iload_n (i := 1) (x := a1) 1 rfl d_K_weakest_15 ?_
    have h2 := kr_ob h
    clear h
    obtain ⟨⟨⟩, eu8, h⟩ := h2
    have h2 := kr_ob2 h
    clear h
    obtain ⟨v10, S9, eS9, h⟩ := h2
    refine r_callV (M1 := m_AL_get) (κ := 10) (As := [.int a1]) eu8 (s_AL_get eS9) mok_AL_get rfl (by decide) rfl w489 w490 w491 (by decide) (kr_c8 kr_c0) d_K_weakest_16 (kr_k1 ?_) kr_kn
    have h2 := kr_ob h
    clear h
    obtain ⟨⟨⟩, eu11, h⟩ := h2
    refine r_cast eu11 (by decide) w136 d_K_weakest_19 ?_
    have h2 := kr_ob h
    clear h
    obtain ⟨⟨⟩, eu12, h⟩ := h2
    have h2 := kr_ob2 h
    clear h
    obtain ⟨v14, S13, eS13, h⟩ := h2
    refine r_callV (M1 := m_Flow_weakestLevel) (κ := 13) (As := []) eu12 (s_Flow_weakestLevel eS13) mok_Flow_weakestLevel rfl (by decide) rfl w716 w717 w718 (by decide) (kr_c8 kr_c0) d_K_weakest_22 (kr_k1 ?_) kr_kn
    cases h
    exact r_iret rfl d_K_weakest_25
  · cases h2
    exact r_callS (M1 := m_K_requireIndex) (As := [.int a1, .int v4]) (s_K_requireIndex eS5) mok_K_requireIndex rfl w713 w714 (by decide) (kr_c8 kr_c0) d_K_weakest_8 kr_nk (kr_kx (r_out rfl))
/-! KeyringCourt.points(IIZ)I -/
def f_K_points_B41 (S : AS) (x1 : Int32) (x2 : Int32) (y0 : Option Nat) : Option ((Int32 ⊕ String) × AS) :=
  (aI S 40 y0 x1).bind fun v1 =>
  (bI S y0 x1 x2).bind fun S2 =>
  some (.inl v1, S2)
def f_K_points_B19 (S : AS) (x0 : Option Nat) (x1 : Int32) (x2 : Int32) (x3 : Int32) (y0 : Int32) (y1 : Int32) : Option ((Int32 ⊕ String) × AS) :=
  kr_b2 (f_K_isWithin S y0 y1 (5 : Int32)) fun v4 S3 =>
  kr_bx (f_K_requireArgument S3 v4) fun z6 S5 =>
  if x3 = 0 then
  (gR S5 22 3 x0).bind fun v7 =>
  f_K_points_B41 S5 x1 x2 v7
  else
  (gR S5 22 4 x0).bind fun v8 =>
  f_K_points_B41 S5 x1 x2 v8
def f_K_points (S : AS) (a0 : Option Nat) (a1 : Int32) (a2 : Int32) (a3 : Int32) : Option ((Int32 ⊕ String) × AS) :=
  kr_b2 (f_K_isWithin S a1 (0 : Int32) (2 : Int32)) fun v10 S9 =>
  kr_bx (f_K_requireArgument S9 v10) fun z12 S11 =>
  if a3 = 0 then
  f_K_points_B19 S11 a0 a1 a2 a3 a2 (0 : Int32)
  else
  f_K_points_B19 S11 a0 a1 a2 a3 a2 (-1 : Int32)
set_option maxRecDepth 20000 in
set_option maxHeartbeats 4000000 in
theorem s_K_points_B41 {S : AS} {x1 : Int32} {x2 : Int32} {y0 : Option Nat} {r : ((Int32 ⊕ String) × AS)} (h : f_K_points_B41 S x1 x2 y0 = some r) : kr_AW m_K_points 8 41 [(1, .int x1), (2, .int x2)] [va_rf y0] S (kr_xI r) := by
  unfold f_K_points_B41 at h
  refine r_astore (i := 4) (lv' := [(4, va_rf y0), (1, .int x1), (2, .int x2)]) (by decide) rfl d_K_points_41 ?_
  refine r_aload (i := 4) (x := y0) 0 rfl d_K_points_43 ?_
  refine r_iload_n (i := 1) (x := x1) 1 rfl d_K_points_45 ?_
  have h2 := kr_ob h
  clear h
  obtain ⟨v1, ev1, h⟩ := h2
  refine r_iaload ev1 d_K_points_46 ?_
  refine r_istore (i := 5) (lv' := [(5, .int v1), (4, va_rf y0), (1, .int x1), (2, .int x2)]) (by decide) (by show kr_st _ 5 _ = _; simp [kr_st, kr_rfcat, kr_icat]) d_K_points_47 ?_
  refine r_aload (i := 4) (x := y0) 1 rfl d_K_points_49 ?_
  refine r_iload_n (i := 1) (x := x1) 2 rfl d_K_points_51 ?_
  refine r_iload_n (i := 2) (x := x2) 3 rfl d_K_points_52 ?_
  have h2 := kr_ob h
  clear h
  obtain ⟨S2, eS2, h⟩ := h2
  refine r_iastore eS2 d_K_points_53 ?_
  refine r_iload (i := 5) (x := v1) 0 rfl d_K_points_54 ?_
  cases h
  exact r_iret rfl d_K_points_56
set_option maxRecDepth 20000 in
set_option maxHeartbeats 4000000 in
theorem s_K_points_B19 {S : AS} {x0 : Option Nat} {x1 : Int32} {x2 : Int32} {x3 : Int32} {y0 : Int32} {y1 : Int32} {r : ((Int32 ⊕ String) × AS)} (h : f_K_points_B19 S x0 x1 x2 x3 y0 y1 = some r) : kr_AW m_K_points 8 19 [(0, va_rf x0), (1, .int x1), (2, .int x2), (3, .int x3)] [.int y1, .int y0] S (kr_xI r) := by
  unfold f_K_points_B19 at h
  refine r_iconst (v := (5 : Int32)) (by decide) d_K_points_19 ?_
  have h2 := kr_ob2 h
  clear h
  obtain ⟨v4, S3, eS3, h⟩ := h2
  refine r_callS (M1 := m_K_isWithin) (As := [.int y0, .int y1, .int (5 : Int32)]) (s_K_isWithin eS3) mok_K_isWithin rfl w373 w374 (by decide) (kr_c8 kr_c0) d_K_points_20 (kr_k1 ?_) kr_kn
  rcases kr_obx h with ⟨z6, S5, eS5, h2⟩ | ⟨E, S5, eS5, h2⟩
  · clear h
    have h := h2
    clear h2
    refine r_callS (M1 := m_K_requireArgument) (As := [.int v4]) (s_K_requireArgument eS5) mok_K_requireArgument rfl w376 w377 (by decide) (kr_c8 kr_c0) d_K_points_23 (kr_k0 ?_) kr_kn
    refine r_iload_n (i := 3) (x := x3) 3 rfl d_K_points_26 ?_
    refine r_if_eq (tgt := 37) d_K_points_27 rfl (fun c => ?_) (fun c => ?_)
    · replace h := kr_ip c h
      refine r_aload_n (i := 0) (x := x0) 0 rfl d_K_points_37 ?_
      have h2 := kr_ob h
      clear h
      obtain ⟨v7, ev7, h⟩ := h2
      refine r_getR ev7 fk26 rfl d_K_points_38 ?_
      exact kr_sub [1, 2] rfl (s_K_points_B41 h)
    · replace h := kr_in_ c h
      refine r_aload_n (i := 0) (x := x0) 0 rfl d_K_points_30 ?_
      have h2 := kr_ob h
      clear h
      obtain ⟨v8, ev8, h⟩ := h2
      refine r_getR ev8 fk27 rfl d_K_points_31 ?_
      refine r_goto (tgt := 41) d_K_points_34 rfl ?_
      exact kr_sub [1, 2] rfl (s_K_points_B41 h)
  · cases h2
    exact r_callS (M1 := m_K_requireArgument) (As := [.int v4]) (s_K_requireArgument eS5) mok_K_requireArgument rfl w376 w377 (by decide) (kr_c8 kr_c0) d_K_points_23 kr_nk (kr_kx (r_out rfl))
set_option maxRecDepth 20000 in
set_option maxHeartbeats 4000000 in
theorem s_K_points {S : AS} {a0 : Option Nat} {a1 : Int32} {a2 : Int32} {a3 : Int32} {r : ((Int32 ⊕ String) × AS)} (h : f_K_points S a0 a1 a2 a3 = some r) : kr_Con m_K_points 8 [va_rf a0, .int a1, .int a2, .int a3] S (kr_xI r) := by
  refine kr_con rfl rfl (by decide +kernel) (by simp [lg_sl, kr_rfcat, kr_icat, m_K_points, mL]) ?_
  rw [show lv_args 0 [va_rf a0, .int a1, .int a2, .int a3] = [(0, va_rf a0), (1, .int a1), (2, .int a2), (3, .int a3)] from by simp [lv_args, kr_rfcat, kr_icat]]
  unfold f_K_points at h
  refine r_iload_n (i := 1) (x := a1) 1 rfl d_K_points_0 ?_
  refine r_iconst (v := (0 : Int32)) (by decide) d_K_points_1 ?_
  refine r_iconst (v := (2 : Int32)) (by decide) d_K_points_2 ?_
  have h2 := kr_ob2 h
  clear h
  obtain ⟨v10, S9, eS9, h⟩ := h2
  refine r_callS (M1 := m_K_isWithin) (As := [.int a1, .int (0 : Int32), .int (2 : Int32)]) (s_K_isWithin eS9) mok_K_isWithin rfl w373 w374 (by decide) (kr_c8 kr_c0) d_K_points_3 (kr_k1 ?_) kr_kn
  rcases kr_obx h with ⟨z12, S11, eS11, h2⟩ | ⟨E, S11, eS11, h2⟩
  · clear h
    have h := h2
    clear h2
    refine r_callS (M1 := m_K_requireArgument) (As := [.int v10]) (s_K_requireArgument eS11) mok_K_requireArgument rfl w376 w377 (by decide) (kr_c8 kr_c0) d_K_points_6 (kr_k0 ?_) kr_kn
    refine r_iload_n (i := 2) (x := a2) 2 rfl d_K_points_9 ?_
    refine r_iload_n (i := 3) (x := a3) 3 rfl d_K_points_10 ?_
    refine r_if_eq (tgt := 18) d_K_points_11 rfl (fun c => ?_) (fun c => ?_)
    · replace h := kr_ip c h
      refine r_iconst (v := (0 : Int32)) (by decide) d_K_points_18 ?_
      exact kr_sub [0, 1, 2, 3] rfl (s_K_points_B19 h)
    · replace h := kr_in_ c h
      refine r_iconst (v := (-1 : Int32)) (by decide) d_K_points_14 ?_
      refine r_goto (tgt := 19) d_K_points_15 rfl ?_
      exact kr_sub [0, 1, 2, 3] rfl (s_K_points_B19 h)
  · cases h2
    exact r_callS (M1 := m_K_requireArgument) (As := [.int v10]) (s_K_requireArgument eS11) mok_K_requireArgument rfl w376 w377 (by decide) (kr_c8 kr_c0) d_K_points_6 kr_nk (kr_kx (r_out rfl))
/-! KeyringCourt.pointsOf(IZ)I -/
def f_K_pointsOf_B34 (S : AS) (x0 : Option Nat) (x1 : Int32) : Option (Int32 × AS) :=
  (gR S 22 3 x0).bind fun v1 =>
  (aI S 40 v1 x1).bind fun v2 =>
  some (v2, S)
def f_K_pointsOf (S : AS) (a0 : Option Nat) (a1 : Int32) (a2 : Int32) : Option (Int32 × AS) :=
  kr_b2 (f_K_isWithin S a1 (0 : Int32) (2 : Int32)) fun v4 S3 =>
  if v4 = 0 then
  some ((0 : Int32), S3)
  else
  if a2 = 0 then
  f_K_pointsOf_B34 S3 a0 a1
  else
  (gR S3 22 4 a0).bind fun v5 =>
  (aI S3 40 v5 a1).bind fun v6 =>
  if v6 = (-1 : Int32) then
  f_K_pointsOf_B34 S3 a0 a1
  else
  (gR S3 22 4 a0).bind fun v7 =>
  (aI S3 40 v7 a1).bind fun v8 =>
  some (v8, S3)
set_option maxRecDepth 20000 in
set_option maxHeartbeats 4000000 in
theorem s_K_pointsOf_B34 {S : AS} {x0 : Option Nat} {x1 : Int32} {r : (Int32 × AS)} (h : f_K_pointsOf_B34 S x0 x1 = some r) : kr_AW m_K_pointsOf 1 34 [(0, va_rf x0), (1, .int x1)] [] S (kr_eI r) := by
  unfold f_K_pointsOf_B34 at h
  refine r_aload_n (i := 0) (x := x0) 0 rfl d_K_pointsOf_34 ?_
  have h2 := kr_ob h
  clear h
  obtain ⟨v1, ev1, h⟩ := h2
  refine r_getR ev1 fk26 rfl d_K_pointsOf_35 ?_
  refine r_iload_n (i := 1) (x := x1) 1 rfl d_K_pointsOf_38 ?_
  have h2 := kr_ob h
  clear h
  obtain ⟨v2, ev2, h⟩ := h2
  refine r_iaload ev2 d_K_pointsOf_39 ?_
  cases h
  exact r_iret rfl d_K_pointsOf_40
set_option maxRecDepth 20000 in
set_option maxHeartbeats 4000000 in
theorem s_K_pointsOf {S : AS} {a0 : Option Nat} {a1 : Int32} {a2 : Int32} {r : (Int32 × AS)} (h : f_K_pointsOf S a0 a1 a2 = some r) : kr_Con m_K_pointsOf 1 [va_rf a0, .int a1, .int a2] S (kr_eI r) := by
  refine kr_con rfl rfl (by decide +kernel) (by simp [lg_sl, kr_rfcat, kr_icat, m_K_pointsOf, mL]) ?_
  rw [show lv_args 0 [va_rf a0, .int a1, .int a2] = [(0, va_rf a0), (1, .int a1), (2, .int a2)] from by simp [lv_args, kr_rfcat, kr_icat]]
  unfold f_K_pointsOf at h
  refine r_iload_n (i := 1) (x := a1) 1 rfl d_K_pointsOf_0 ?_
  refine r_iconst (v := (0 : Int32)) (by decide) d_K_pointsOf_1 ?_
  refine r_iconst (v := (2 : Int32)) (by decide) d_K_pointsOf_2 ?_
  have h2 := kr_ob2 h
  clear h
  obtain ⟨v4, S3, eS3, h⟩ := h2
  refine r_callS (M1 := m_K_isWithin) (As := [.int a1, .int (0 : Int32), .int (2 : Int32)]) (s_K_isWithin eS3) mok_K_isWithin rfl w373 w374 (by decide) (kr_c8 kr_c0) d_K_pointsOf_3 (kr_k1 ?_) kr_kn
  refine r_if_ne (tgt := 11) d_K_pointsOf_6 rfl (fun c => ?_) (fun c => ?_)
  · replace h := kr_ip c h
    refine r_iconst (v := (0 : Int32)) (by decide) d_K_pointsOf_9 ?_
    cases h
    exact r_iret rfl d_K_pointsOf_10
  · replace h := kr_in_ c h
    refine r_iload_n (i := 2) (x := a2) 2 rfl d_K_pointsOf_11 ?_
    refine r_if_eq (tgt := 34) d_K_pointsOf_12 rfl (fun c => ?_) (fun c => ?_)
    · replace h := kr_ip c h
      exact kr_sub [0, 1] rfl (s_K_pointsOf_B34 h)
    · replace h := kr_in_ c h
      refine r_aload_n (i := 0) (x := a0) 0 rfl d_K_pointsOf_15 ?_
      have h2 := kr_ob h
      clear h
      obtain ⟨v5, ev5, h⟩ := h2
      refine r_getR ev5 fk27 rfl d_K_pointsOf_16 ?_
      refine r_iload_n (i := 1) (x := a1) 1 rfl d_K_pointsOf_19 ?_
      have h2 := kr_ob h
      clear h
      obtain ⟨v6, ev6, h⟩ := h2
      refine r_iaload ev6 d_K_pointsOf_20 ?_
      refine r_iconst (v := (-1 : Int32)) (by decide) d_K_pointsOf_21 ?_
      refine r_icmp_eq (tgt := 34) d_K_pointsOf_22 rfl (fun c => ?_) (fun c => ?_)
      · replace h := kr_ip c h
        exact kr_sub [0, 1] rfl (s_K_pointsOf_B34 h)
      · replace h := kr_in_ c h
        refine r_aload_n (i := 0) (x := a0) 0 rfl d_K_pointsOf_25 ?_
        have h2 := kr_ob h
        clear h
        obtain ⟨v7, ev7, h⟩ := h2
        refine r_getR ev7 fk27 rfl d_K_pointsOf_26 ?_
        refine r_iload_n (i := 1) (x := a1) 1 rfl d_K_pointsOf_29 ?_
        have h2 := kr_ob h
        clear h
        obtain ⟨v8, ev8, h⟩ := h2
        refine r_iaload ev8 d_K_pointsOf_30 ?_
        refine r_goto (tgt := 40) d_K_pointsOf_31 rfl ?_
        cases h
        exact r_iret rfl d_K_pointsOf_40
/-! KeyringCourt.riskOf(LKeyringCourt$Attempt;Z)I -/
def f_K_riskOf_B52 (S : AS) (x0 : Option Nat) (x1 : Option Nat) (x2 : Int32) (x3 : Option Nat) (x4 : Int32) : Option (Int32 × AS) :=
  (gI S 11 2 x1).bind fun v1 =>
  (gI S 16 8 x3).bind fun v2 =>
  kr_b2 (f_K_isIn S v1 v2) fun v4 S3 =>
  if v4 = 0 then
  (kr_rv S3 22 x0).bind fun u5 =>
  kr_b2 (f_K_pointsOf S3 x0 (1 : Int32) x2) fun v7 S6 =>
  (some (x4 + v7)).bind fun i8 =>
  some (i8, S6)
  else
  some (x4, S3)
def f_K_riskOf (S : AS) (a0 : Option Nat) (a1 : Option Nat) (a2 : Int32) : Option (Int32 × AS) :=
  (gR S 11 0 a1).bind fun v9 =>
  (kr_rv S 22 a0).bind fun u10 =>
  kr_b2 (f_K_pointsOf S a0 (2 : Int32) a2) fun v12 S11 =>
  (gI S11 22 0 a0).bind fun v13 =>
  (kr_rv S11 16 v9).bind fun u14 =>
  kr_b2 (f_Person_wrongsSince S11 v9 ((v13 - (60 : Int32)) + (1 : Int32))) fun v16 S15 =>
  (some (v12 * v16)).bind fun i17 =>
  (gI S15 11 1 a1).bind fun v18 =>
  (gI S15 16 7 v9).bind fun v19 =>
  kr_b2 (f_K_isIn S15 v18 v19) fun v21 S20 =>
  if v21 = 0 then
  (kr_rv S20 22 a0).bind fun u22 =>
  kr_b2 (f_K_pointsOf S20 a0 (0 : Int32) a2) fun v24 S23 =>
  (some (i17 + v24)).bind fun i25 =>
  f_K_riskOf_B52 S23 a0 a1 a2 v9 i25
  else
  f_K_riskOf_B52 S20 a0 a1 a2 v9 i17
set_option maxRecDepth 20000 in
set_option maxHeartbeats 4000000 in
theorem s_K_riskOf_B52 {S : AS} {x0 : Option Nat} {x1 : Option Nat} {x2 : Int32} {x3 : Option Nat} {x4 : Int32} {r : (Int32 × AS)} (h : f_K_riskOf_B52 S x0 x1 x2 x3 x4 = some r) : kr_AW m_K_riskOf 2 52 [(0, va_rf x0), (1, va_rf x1), (2, .int x2), (3, va_rf x3), (4, .int x4)] [] S (kr_eI r) := by
  unfold f_K_riskOf_B52 at h
  refine r_aload_n (i := 1) (x := x1) 1 rfl d_K_riskOf_52 ?_
  have h2 := kr_ob h
  clear h
  obtain ⟨v1, ev1, h⟩ := h2
  refine r_getI ev1 fk150 rfl d_K_riskOf_53 ?_
  refine r_aload_n (i := 3) (x := x3) 3 rfl d_K_riskOf_56 ?_
  have h2 := kr_ob h
  clear h
  obtain ⟨v2, ev2, h⟩ := h2
  refine r_getI ev2 fk151 rfl d_K_riskOf_57 ?_
  have h2 := kr_ob2 h
  clear h
  obtain ⟨v4, S3, eS3, h⟩ := h2
  refine r_callS (M1 := m_K_isIn) (As := [.int v1, .int v2]) (s_K_isIn eS3) mok_K_isIn rfl w842 w549 (by decide) (kr_c8 kr_c0) d_K_riskOf_60 (kr_k1 ?_) kr_kn
  refine r_if_ne (tgt := 77) d_K_riskOf_63 rfl (fun c => ?_) (fun c => ?_)
  · replace h := kr_ip c h
    refine r_iload (i := 4) (x := x4) 4 rfl d_K_riskOf_66 ?_
    refine r_aload_n (i := 0) (x := x0) 0 rfl d_K_riskOf_68 ?_
    refine r_iconst (v := (1 : Int32)) (by decide) d_K_riskOf_69 ?_
    refine r_iload_n (i := 2) (x := x2) 2 rfl d_K_riskOf_70 ?_
    have h2 := kr_ob h
    clear h
    obtain ⟨⟨⟩, eu5, h⟩ := h2
    have h2 := kr_ob2 h
    clear h
    obtain ⟨v7, S6, eS6, h⟩ := h2
    refine r_callV (M1 := m_K_pointsOf) (κ := 22) (As := [.int (1 : Int32), .int x2]) eu5 (s_K_pointsOf eS6) mok_K_pointsOf rfl (by decide) rfl w847 w849 w20 (by decide) (kr_c8 (kr_cI kr_c0)) d_K_riskOf_71 (kr_k1 ?_) kr_kn
    refine r_iadd d_K_riskOf_74 ?_
    have h2 := kr_ob h
    clear h
    obtain ⟨i8, ei8, h⟩ := h2
    refine kr_nmI ei8 ?_
    refine r_istore (i := 4) (lv' := [(4, .int i8), (0, va_rf x0), (1, va_rf x1), (2, .int x2), (3, va_rf x3)]) (by decide) (by show kr_st _ 4 _ = _; simp [kr_st, kr_rfcat, kr_icat]) d_K_riskOf_75 ?_
    refine r_iload (i := 4) (x := i8) 0 rfl d_K_riskOf_77 ?_
    cases h
    exact r_iret rfl d_K_riskOf_79
  · replace h := kr_in_ c h
    refine r_iload (i := 4) (x := x4) 4 rfl d_K_riskOf_77 ?_
    cases h
    exact r_iret rfl d_K_riskOf_79
set_option maxRecDepth 20000 in
set_option maxHeartbeats 4000000 in
theorem s_K_riskOf {S : AS} {a0 : Option Nat} {a1 : Option Nat} {a2 : Int32} {r : (Int32 × AS)} (h : f_K_riskOf S a0 a1 a2 = some r) : kr_Con m_K_riskOf 2 [va_rf a0, va_rf a1, .int a2] S (kr_eI r) := by
  refine kr_con rfl rfl (by decide +kernel) (by simp [lg_sl, kr_rfcat, kr_icat, m_K_riskOf, mL]) ?_
  rw [show lv_args 0 [va_rf a0, va_rf a1, .int a2] = [(0, va_rf a0), (1, va_rf a1), (2, .int a2)] from by simp [lv_args, kr_rfcat, kr_icat]]
  unfold f_K_riskOf at h
  refine r_aload_n (i := 1) (x := a1) 1 rfl d_K_riskOf_0 ?_
  have h2 := kr_ob h
  clear h
  obtain ⟨v9, ev9, h⟩ := h2
  refine r_getR ev9 fk152 rfl d_K_riskOf_1 ?_
  refine r_astore_n (i := 3) (lv' := [(3, va_rf v9), (0, va_rf a0), (1, va_rf a1), (2, .int a2)]) (by decide) rfl d_K_riskOf_4 ?_
  refine r_aload_n (i := 0) (x := a0) 1 rfl d_K_riskOf_5 ?_
  refine r_iconst (v := (2 : Int32)) (by decide) d_K_riskOf_6 ?_
  refine r_iload_n (i := 2) (x := a2) 3 rfl d_K_riskOf_7 ?_
  have h2 := kr_ob h
  clear h
  obtain ⟨⟨⟩, eu10, h⟩ := h2
  have h2 := kr_ob2 h
  clear h
  obtain ⟨v12, S11, eS11, h⟩ := h2
  refine r_callV (M1 := m_K_pointsOf) (κ := 22) (As := [.int (2 : Int32), .int a2]) eu10 (s_K_pointsOf eS11) mok_K_pointsOf rfl (by decide) rfl w847 w849 w20 (by decide) (kr_c8 kr_c0) d_K_riskOf_8 (kr_k1 ?_) kr_kn
  refine r_aload_n (i := 3) (x := v9) 0 rfl d_K_riskOf_11 ?_
  refine r_aload_n (i := 0) (x := a0) 1 rfl d_K_riskOf_12 ?_
  have h2 := kr_ob h
  clear h
  obtain ⟨v13, ev13, h⟩ := h2
  refine r_getI ev13 fk113 rfl d_K_riskOf_13 ?_
  refine r_bipush (v := (60 : Int32)) (by decide) d_K_riskOf_16 ?_
  refine r_isub d_K_riskOf_18 ?_
  refine r_iconst (v := (1 : Int32)) (by decide) d_K_riskOf_19 ?_
  refine r_iadd d_K_riskOf_20 ?_
  have h2 := kr_ob h
  clear h
  obtain ⟨⟨⟩, eu14, h⟩ := h2
  have h2 := kr_ob2 h
  clear h
  obtain ⟨v16, S15, eS15, h⟩ := h2
  refine r_callV (M1 := m_Person_wrongsSince) (κ := 16) (As := [.int ((v13 - (60 : Int32)) + (1 : Int32))]) eu14 (s_Person_wrongsSince eS15) mok_Person_wrongsSince rfl (by decide) rfl w851 w852 w853 (by decide) (kr_c8 (kr_cI kr_c0)) d_K_riskOf_21 (kr_k1 ?_) kr_kn
  refine r_imul d_K_riskOf_24 ?_
  have h2 := kr_ob h
  clear h
  obtain ⟨i17, ei17, h⟩ := h2
  refine kr_nmI ei17 ?_
  refine r_istore (i := 4) (lv' := [(4, .int i17), (3, va_rf v9), (0, va_rf a0), (1, va_rf a1), (2, .int a2)]) (by decide) (by show kr_st _ 4 _ = _; simp [kr_st, kr_rfcat, kr_icat]) d_K_riskOf_25 ?_
  refine r_aload_n (i := 1) (x := a1) 3 rfl d_K_riskOf_27 ?_
  have h2 := kr_ob h
  clear h
  obtain ⟨v18, ev18, h⟩ := h2
  refine r_getI ev18 fk153 rfl d_K_riskOf_28 ?_
  refine r_aload_n (i := 3) (x := v9) 1 rfl d_K_riskOf_31 ?_
  have h2 := kr_ob h
  clear h
  obtain ⟨v19, ev19, h⟩ := h2
  refine r_getI ev19 fk154 rfl d_K_riskOf_32 ?_
  have h2 := kr_ob2 h
  clear h
  obtain ⟨v21, S20, eS20, h⟩ := h2
  refine r_callS (M1 := m_K_isIn) (As := [.int v18, .int v19]) (s_K_isIn eS20) mok_K_isIn rfl w842 w549 (by decide) (kr_c8 kr_c0) d_K_riskOf_35 (kr_k1 ?_) kr_kn
  refine r_if_ne (tgt := 52) d_K_riskOf_38 rfl (fun c => ?_) (fun c => ?_)
  · replace h := kr_ip c h
    refine r_iload (i := 4) (x := i17) 0 rfl d_K_riskOf_41 ?_
    refine r_aload_n (i := 0) (x := a0) 2 rfl d_K_riskOf_43 ?_
    refine r_iconst (v := (0 : Int32)) (by decide) d_K_riskOf_44 ?_
    refine r_iload_n (i := 2) (x := a2) 4 rfl d_K_riskOf_45 ?_
    have h2 := kr_ob h
    clear h
    obtain ⟨⟨⟩, eu22, h⟩ := h2
    have h2 := kr_ob2 h
    clear h
    obtain ⟨v24, S23, eS23, h⟩ := h2
    refine r_callV (M1 := m_K_pointsOf) (κ := 22) (As := [.int (0 : Int32), .int a2]) eu22 (s_K_pointsOf eS23) mok_K_pointsOf rfl (by decide) rfl w847 w849 w20 (by decide) (kr_c8 (kr_cI kr_c0)) d_K_riskOf_46 (kr_k1 ?_) kr_kn
    refine r_iadd d_K_riskOf_49 ?_
    have h2 := kr_ob h
    clear h
    obtain ⟨i25, ei25, h⟩ := h2
    refine kr_nmI ei25 ?_
    refine r_istore (i := 4) (lv' := [(4, .int i25), (3, va_rf v9), (0, va_rf a0), (1, va_rf a1), (2, .int a2)]) (by decide) (by show kr_st _ 4 _ = _; simp [kr_st, kr_rfcat, kr_icat]) d_K_riskOf_50 ?_
    exact kr_sub [2, 3, 4, 1, 0] rfl (s_K_riskOf_B52 h)
  · replace h := kr_in_ c h
    exact kr_sub [2, 3, 4, 1, 0] rfl (s_K_riskOf_B52 h)
/-! KeyringCourt.holds(LKeyringCourt$Attempt;I)Z -/
def f_K_holds (S : AS) (a0 : Option Nat) (a1 : Option Nat) (a2 : Int32) : Option (Int32 × AS) :=
  (gR S 11 3 a1).bind fun v1 =>
  (kr_rv S 13 v1).bind fun u2 =>
  kr_b2 (f_Flow_firstOf S v1 a2) fun v4 S3 =>
  (gR S3 11 3 a1).bind fun v5 =>
  (kr_rv S3 13 v5).bind fun u6 =>
  kr_b2 (f_Flow_kindOf S3 v5 a2) fun v8 S7 =>
  if v8 = (1 : Int32) then
  (gI S7 11 1 a1).bind fun v9 =>
  (gR S7 11 0 a1).bind fun v10 =>
  (gI S7 16 7 v10).bind fun v11 =>
  kr_b2 (f_K_isIn S7 v9 v11) fun v13 S12 =>
  (kr_z v13).bind fun u14 =>
  some (v13, S12)
  else if v8 = (2 : Int32) then
  (kr_rv S7 22 a0).bind fun u15 =>
  kr_b2 (f_K_riskOf S7 a0 a1 (0 : Int32)) fun v17 S16 =>
  if v17 < v4 then
  some ((0 : Int32), S16)
  else
  some ((1 : Int32), S16)
  else if v8 = (3 : Int32) then
  (gR S7 11 0 a1).bind fun v18 =>
  (kr_rv S7 16 v18).bind fun u19 =>
  kr_b2 (f_Person_stateOf S7 v18 v4) fun v21 S20 =>
  if v21 = (1 : Int32) then
  some ((1 : Int32), S20)
  else
  some ((0 : Int32), S20)
  else if v8 = (4 : Int32) then
  (gR S7 11 4 a1).bind fun v22 =>
  (kr_rv S7 20 v22).bind fun u23 =>
  kr_b2 (f_Shown_levelSince S7 v22 (0 : Int32)) fun v25 S24 =>
  if v25 < v4 then
  some ((0 : Int32), S24)
  else
  some ((1 : Int32), S24)
  else some ((0 : Int32), S7)
set_option maxRecDepth 20000 in
set_option maxHeartbeats 4000000 in
theorem s_K_holds {S : AS} {a0 : Option Nat} {a1 : Option Nat} {a2 : Int32} {r : (Int32 × AS)} (h : f_K_holds S a0 a1 a2 = some r) : kr_Con m_K_holds 4 [va_rf a0, va_rf a1, .int a2] S (kr_eI r) := by
  refine kr_con rfl rfl (by decide +kernel) (by simp [lg_sl, kr_rfcat, kr_icat, m_K_holds, mL]) ?_
  rw [show lv_args 0 [va_rf a0, va_rf a1, .int a2] = [(0, va_rf a0), (1, va_rf a1), (2, .int a2)] from by simp [lv_args, kr_rfcat, kr_icat]]
  unfold f_K_holds at h
  refine r_aload_n (i := 1) (x := a1) 1 rfl d_K_holds_0 ?_
  have h2 := kr_ob h
  clear h
  obtain ⟨v1, ev1, h⟩ := h2
  refine r_getR ev1 fk155 rfl d_K_holds_1 ?_
  refine r_iload_n (i := 2) (x := a2) 2 rfl d_K_holds_4 ?_
  have h2 := kr_ob h
  clear h
  obtain ⟨⟨⟩, eu2, h⟩ := h2
  have h2 := kr_ob2 h
  clear h
  obtain ⟨v4, S3, eS3, h⟩ := h2
  refine r_callV (M1 := m_Flow_firstOf) (κ := 13) (As := [.int a2]) eu2 (s_Flow_firstOf eS3) mok_Flow_firstOf rfl (by decide) rfl w840 w729 w730 (by decide) (kr_c8 kr_c0) d_K_holds_5 (kr_k1 ?_) kr_kn
  refine r_istore_n (i := 3) (lv' := [(3, .int v4), (0, va_rf a0), (1, va_rf a1), (2, .int a2)]) (by decide) rfl d_K_holds_8 ?_
  refine r_aload_n (i := 1) (x := a1) 2 rfl d_K_holds_9 ?_
  have h2 := kr_ob h
  clear h
  obtain ⟨v5, ev5, h⟩ := h2
  refine r_getR ev5 fk155 rfl d_K_holds_10 ?_
  refine r_iload_n (i := 2) (x := a2) 3 rfl d_K_holds_13 ?_
  have h2 := kr_ob h
  clear h
  obtain ⟨⟨⟩, eu6, h⟩ := h2
  have h2 := kr_ob2 h
  clear h
  obtain ⟨v8, S7, eS7, h⟩ := h2
  refine r_callV (M1 := m_Flow_kindOf) (κ := 13) (As := [.int a2]) eu6 (s_Flow_kindOf eS7) mok_Flow_kindOf rfl (by decide) rfl w841 w614 w615 (by decide) (kr_c8 kr_c0) d_K_holds_14 (kr_k1 ?_) kr_kn
  by_cases c0 : v8 = (1 : Int32)
  · replace h := kr_ip c0 h
    refine r_tableIn (x := v8) (tgt := 48) d_K_holds_17 (by rw [c0]; decide) (by rw [c0]; decide) (by rw [c0]; rfl) rfl ?_
    refine r_aload_n (i := 1) (x := a1) 2 rfl d_K_holds_48 ?_
    have h2 := kr_ob h
    clear h
    obtain ⟨v9, ev9, h⟩ := h2
    refine r_getI ev9 fk153 rfl d_K_holds_49 ?_
    refine r_aload_n (i := 1) (x := a1) 2 rfl d_K_holds_52 ?_
    have h2 := kr_ob h
    clear h
    obtain ⟨v10, ev10, h⟩ := h2
    refine r_getR ev10 fk152 rfl d_K_holds_53 ?_
    have h2 := kr_ob h
    clear h
    obtain ⟨v11, ev11, h⟩ := h2
    refine r_getI ev11 fk154 rfl d_K_holds_56 ?_
    have h2 := kr_ob2 h
    clear h
    obtain ⟨v13, S12, eS12, h⟩ := h2
    refine r_callS (M1 := m_K_isIn) (As := [.int v9, .int v11]) (s_K_isIn eS12) mok_K_isIn rfl w842 w549 (by decide) (kr_c8 kr_c0) d_K_holds_59 (kr_k1 ?_) kr_kn
    have h2 := kr_ob h
    clear h
    obtain ⟨⟨⟩, eu14, h⟩ := h2
    cases h
    exact r_zret rfl eu14 d_K_holds_62
  replace h := kr_in_ c0 h
  by_cases c1 : v8 = (2 : Int32)
  · replace h := kr_ip c1 h
    refine r_tableIn (x := v8) (tgt := 63) d_K_holds_17 (by rw [c1]; decide) (by rw [c1]; decide) (by rw [c1]; rfl) rfl ?_
    refine r_aload_n (i := 0) (x := a0) 1 rfl d_K_holds_63 ?_
    refine r_aload_n (i := 1) (x := a1) 2 rfl d_K_holds_64 ?_
    refine r_iconst (v := (0 : Int32)) (by decide) d_K_holds_65 ?_
    have h2 := kr_ob h
    clear h
    obtain ⟨⟨⟩, eu15, h⟩ := h2
    have h2 := kr_ob2 h
    clear h
    obtain ⟨v17, S16, eS16, h⟩ := h2
    refine r_callV (M1 := m_K_riskOf) (κ := 22) (As := [va_rf a1, .int (0 : Int32)]) eu15 (s_K_riskOf eS16) mok_K_riskOf rfl (by decide) rfl w843 w845 w19 (by decide) (kr_c8 kr_c0) d_K_holds_66 (kr_k1 ?_) kr_kn
    refine r_iload_n (i := 3) (x := v4) 0 rfl d_K_holds_69 ?_
    refine r_icmp_lt (tgt := 77) d_K_holds_70 rfl (fun c => ?_) (fun c => ?_)
    · replace h := kr_ip c h
      refine r_iconst (v := (0 : Int32)) (by decide) d_K_holds_77 ?_
      cases h
      exact r_zret rfl rfl d_K_holds_78
    · replace h := kr_in_ c h
      refine r_iconst (v := (1 : Int32)) (by decide) d_K_holds_73 ?_
      refine r_goto (tgt := 78) d_K_holds_74 rfl ?_
      cases h
      exact r_zret rfl rfl d_K_holds_78
  replace h := kr_in_ c1 h
  by_cases c2 : v8 = (3 : Int32)
  · replace h := kr_ip c2 h
    refine r_tableIn (x := v8) (tgt := 79) d_K_holds_17 (by rw [c2]; decide) (by rw [c2]; decide) (by rw [c2]; rfl) rfl ?_
    refine r_aload_n (i := 1) (x := a1) 2 rfl d_K_holds_79 ?_
    have h2 := kr_ob h
    clear h
    obtain ⟨v18, ev18, h⟩ := h2
    refine r_getR ev18 fk152 rfl d_K_holds_80 ?_
    refine r_iload_n (i := 3) (x := v4) 0 rfl d_K_holds_83 ?_
    have h2 := kr_ob h
    clear h
    obtain ⟨⟨⟩, eu19, h⟩ := h2
    have h2 := kr_ob2 h
    clear h
    obtain ⟨v21, S20, eS20, h⟩ := h2
    refine r_callV (M1 := m_Person_stateOf) (κ := 16) (As := [.int v4]) eu19 (s_Person_stateOf eS20) mok_Person_stateOf rfl (by decide) rfl w566 w567 w568 (by decide) (kr_c8 kr_c0) d_K_holds_84 (kr_k1 ?_) kr_kn
    refine r_iconst (v := (1 : Int32)) (by decide) d_K_holds_87 ?_
    refine r_icmp_ne (tgt := 95) d_K_holds_88 rfl (fun c => ?_) (fun c => ?_)
    · replace h := kr_ip c h
      refine r_iconst (v := (1 : Int32)) (by decide) d_K_holds_91 ?_
      refine r_goto (tgt := 96) d_K_holds_92 rfl ?_
      cases h
      exact r_zret rfl rfl d_K_holds_96
    · replace h := kr_in_ c h
      refine r_iconst (v := (0 : Int32)) (by decide) d_K_holds_95 ?_
      cases h
      exact r_zret rfl rfl d_K_holds_96
  replace h := kr_in_ c2 h
  by_cases c3 : v8 = (4 : Int32)
  · replace h := kr_ip c3 h
    refine r_tableIn (x := v8) (tgt := 97) d_K_holds_17 (by rw [c3]; decide) (by rw [c3]; decide) (by rw [c3]; rfl) rfl ?_
    refine r_aload_n (i := 1) (x := a1) 2 rfl d_K_holds_97 ?_
    have h2 := kr_ob h
    clear h
    obtain ⟨v22, ev22, h⟩ := h2
    refine r_getR ev22 fk156 rfl d_K_holds_98 ?_
    refine r_iconst (v := (0 : Int32)) (by decide) d_K_holds_101 ?_
    have h2 := kr_ob h
    clear h
    obtain ⟨⟨⟩, eu23, h⟩ := h2
    have h2 := kr_ob2 h
    clear h
    obtain ⟨v25, S24, eS24, h⟩ := h2
    refine r_callV (M1 := m_Shown_levelSince) (κ := 20) (As := [.int (0 : Int32)]) eu23 (s_Shown_levelSince eS24) mok_Shown_levelSince rfl (by decide) rfl w856 w857 w858 (by decide) (kr_c8 kr_c0) d_K_holds_102 (kr_k1 ?_) kr_kn
    refine r_iload_n (i := 3) (x := v4) 0 rfl d_K_holds_105 ?_
    refine r_icmp_lt (tgt := 113) d_K_holds_106 rfl (fun c => ?_) (fun c => ?_)
    · replace h := kr_ip c h
      refine r_iconst (v := (0 : Int32)) (by decide) d_K_holds_113 ?_
      cases h
      exact r_zret rfl rfl d_K_holds_114
    · replace h := kr_in_ c h
      refine r_iconst (v := (1 : Int32)) (by decide) d_K_holds_109 ?_
      refine r_goto (tgt := 114) d_K_holds_110 rfl ?_
      cases h
      exact r_zret rfl rfl d_K_holds_114
  replace h := kr_in_ c3 h
  refine r_tableOut (x := v8) (tgt := 115) d_K_holds_17 (kr_tab (lo := 1) (n := 4) (by decide) (by intro j hj; rcases (show j = 0 ∨ j = 1 ∨ j = 2 ∨ j = 3 by omega) with rfl | rfl | rfl | rfl <;> first | exact c0 | exact c1 | exact c2 | exact c3)) rfl ?_
  refine r_iconst (v := (0 : Int32)) (by decide) d_K_holds_115 ?_
  cases h
  exact r_zret rfl rfl d_K_holds_116
/-! KeyringCourt.beginSession(LKeyringCourt$Person;LKeyringCourt$Session;LKeyringCourt$Shown;)I -/
def f_K_beginSession (S : AS) (a0 : Option Nat) (a1 : Option Nat) (a2 : Option Nat) (a3 : Option Nat) : Option (Int32 × AS) :=
  (gR S 22 8 a0).bind fun v1 =>
  (kr_rv S 10 v1).bind fun u2 =>
  kr_b2 (f_AL_size S v1) fun v4 S3 =>
  (gR S3 22 8 a0).bind fun v5 =>
  (some (nO S3 19)).bind fun S6 =>
  (some (nO S6 20)).bind fun S7 =>
  (f_Shown_init2 S7 (some (sN S6)) a3).bind fun S8 =>
  (gI S8 22 0 a0).bind fun v9 =>
  (f_Session_init S8 (some (sN S3)) v4 a1 a2 (some (sN S6)) v9).bind fun S10 =>
  (kr_rv S10 10 v5).bind fun u11 =>
  kr_b2 (f_AL_add1 S10 v5 (some (sN S3))) fun v13 S12 =>
  (gI S12 22 9 a0).bind fun v14 =>
  (pI S12 22 9 a0 (v14 + (1 : Int32))).bind fun S15 =>
  (gR S15 22 1 a0).bind fun v16 =>
  (gI S15 22 0 a0).bind fun v17 =>
  (kr_rv S15 12 v16).bind fun u18 =>
  (f_Audit_write S15 v16 (0 : Int32) v4 v17).bind fun S19 =>
  some (v4, S19)
set_option maxRecDepth 20000 in
set_option maxHeartbeats 4000000 in
theorem s_K_beginSession {S : AS} {a0 : Option Nat} {a1 : Option Nat} {a2 : Option Nat} {a3 : Option Nat} {r : (Int32 × AS)} (h : f_K_beginSession S a0 a1 a2 a3 = some r) : kr_Con m_K_beginSession 7 [va_rf a0, va_rf a1, va_rf a2, va_rf a3] S (kr_eI r) := by
  refine kr_con rfl rfl (by decide +kernel) (by simp [lg_sl, kr_rfcat, kr_icat, m_K_beginSession, mL]) ?_
  rw [show lv_args 0 [va_rf a0, va_rf a1, va_rf a2, va_rf a3] = [(0, va_rf a0), (1, va_rf a1), (2, va_rf a2), (3, va_rf a3)] from by simp [lv_args, kr_rfcat, kr_icat]]
  unfold f_K_beginSession at h
  refine r_aload_n (i := 0) (x := a0) 0 rfl d_K_beginSession_0 ?_
  have h2 := kr_ob h
  clear h
  obtain ⟨v1, ev1, h⟩ := h2
  refine r_getR ev1 fk31 rfl d_K_beginSession_1 ?_
  have h2 := kr_ob h
  clear h
  obtain ⟨⟨⟩, eu2, h⟩ := h2
  have h2 := kr_ob2 h
  clear h
  obtain ⟨v4, S3, eS3, h⟩ := h2
  refine r_callV (M1 := m_AL_size) (κ := 10) (As := []) eu2 (s_AL_size eS3) mok_AL_size rfl (by decide) rfl w348 w349 w350 (by decide) (kr_c8 kr_c0) d_K_beginSession_4 (kr_k1 ?_) kr_kn
  refine r_istore (i := 4) (lv' := [(4, .int v4), (0, va_rf a0), (1, va_rf a1), (2, va_rf a2), (3, va_rf a3)]) (by decide) (by show kr_st _ 4 _ = _; simp [kr_st, kr_rfcat, kr_icat]) d_K_beginSession_7 ?_
  refine r_aload_n (i := 0) (x := a0) 1 rfl d_K_beginSession_9 ?_
  have h2 := kr_ob h
  clear h
  obtain ⟨v5, ev5, h⟩ := h2
  refine r_getR ev5 fk31 rfl d_K_beginSession_10 ?_
  have h2 := kr_ob h
  clear h
  obtain ⟨S6, eS6, h⟩ := h2
  refine r_newO_ (κ := 19) eS6 (by decide) w503 w873 w99 d_K_beginSession_13 ?_
  refine r_dup (kr_rfcat _) d_K_beginSession_16 ?_
  refine r_iload (i := 4) (x := v4) 0 rfl d_K_beginSession_17 ?_
  refine r_aload_n (i := 1) (x := a1) 2 rfl d_K_beginSession_19 ?_
  refine r_aload_n (i := 2) (x := a2) 3 rfl d_K_beginSession_20 ?_
  have h2 := kr_ob h
  clear h
  obtain ⟨S7, eS7, h⟩ := h2
  refine r_newO_ (κ := 20) eS7 (by decide) w874 w782 w97 d_K_beginSession_21 ?_
  refine r_dup (kr_rfcat _) d_K_beginSession_24 ?_
  refine r_aload_n (i := 3) (x := a3) 4 rfl d_K_beginSession_25 ?_
  have h2 := kr_ob h
  clear h
  obtain ⟨S8, eS8, h⟩ := h2
  refine r_callIN (M1 := m_Shown_init2) (As := [va_rf a3]) (s_Shown_init2 eS8) mok_Shown_init2 rfl rfl rfl w875 w876 (by decide) (kr_c8 (kr_cR (kr_cR (kr_cR (kr_cI (kr_cR (kr_cR (kr_cR kr_c0)))))))) d_K_beginSession_26 (kr_k0 ?_) kr_kn
  refine r_aload_n (i := 0) (x := a0) 1 rfl d_K_beginSession_29 ?_
  have h2 := kr_ob h
  clear h
  obtain ⟨v9, ev9, h⟩ := h2
  refine r_getI ev9 fk113 rfl d_K_beginSession_30 ?_
  have h2 := kr_ob h
  clear h
  obtain ⟨S10, eS10, h⟩ := h2
  refine r_callIN (M1 := m_Session_init) (As := [.int v4, va_rf a1, va_rf a2, va_rf (some (sN S6)), .int v9]) (s_Session_init eS10) mok_Session_init rfl rfl rfl w878 w879 (by decide) (kr_c8 (kr_cR (kr_cR kr_c0))) d_K_beginSession_33 (kr_k0 ?_) kr_kn
  have h2 := kr_ob h
  clear h
  obtain ⟨⟨⟩, eu11, h⟩ := h2
  have h2 := kr_ob2 h
  clear h
  obtain ⟨v13, S12, eS12, h⟩ := h2
  refine r_callV (M1 := m_AL_add1) (κ := 10) (As := [va_rf (some (sN S3))]) eu11 (s_AL_add1 eS12) mok_AL_add1 rfl (by decide) rfl w642 w643 w644 (by decide) (kr_c8 kr_c0) d_K_beginSession_36 (kr_k1 ?_) kr_kn
  refine r_pop rfl d_K_beginSession_39 ?_
  refine r_aload_n (i := 0) (x := a0) 1 rfl d_K_beginSession_40 ?_
  refine r_dup (kr_rfcat _) d_K_beginSession_41 ?_
  have h2 := kr_ob h
  clear h
  obtain ⟨v14, ev14, h⟩ := h2
  refine r_getI ev14 fk119 rfl d_K_beginSession_42 ?_
  refine r_iconst (v := (1 : Int32)) (by decide) d_K_beginSession_45 ?_
  refine r_iadd d_K_beginSession_46 ?_
  have h2 := kr_ob h
  clear h
  obtain ⟨S15, eS15, h⟩ := h2
  refine r_putI eS15 fk119 (Or.inl rfl) rfl d_K_beginSession_47 ?_
  refine r_aload_n (i := 0) (x := a0) 1 rfl d_K_beginSession_50 ?_
  have h2 := kr_ob h
  clear h
  obtain ⟨v16, ev16, h⟩ := h2
  refine r_getR ev16 fk25 rfl d_K_beginSession_51 ?_
  refine r_iconst (v := (0 : Int32)) (by decide) d_K_beginSession_54 ?_
  refine r_iload (i := 4) (x := v4) 0 rfl d_K_beginSession_55 ?_
  refine r_aload_n (i := 0) (x := a0) 1 rfl d_K_beginSession_57 ?_
  have h2 := kr_ob h
  clear h
  obtain ⟨v17, ev17, h⟩ := h2
  refine r_getI ev17 fk113 rfl d_K_beginSession_58 ?_
  have h2 := kr_ob h
  clear h
  obtain ⟨⟨⟩, eu18, h⟩ := h2
  have h2 := kr_ob h
  clear h
  obtain ⟨S19, eS19, h⟩ := h2
  refine r_callV (M1 := m_Audit_write) (κ := 12) (As := [.int (0 : Int32), .int v4, .int v17]) eu18 (s_Audit_write eS19) mok_Audit_write rfl (by decide) rfl w472 w473 w474 (by decide) (kr_c8 kr_c0) d_K_beginSession_61 (kr_k0 ?_) kr_kn
  refine r_iload (i := 4) (x := v4) 0 rfl d_K_beginSession_64 ?_
  cases h
  exact r_iret rfl d_K_beginSession_66
/-! KeyringCourt.grant(LKeyringCourt$Attempt;)V -/
def f_K_grant (S : AS) (a0 : Option Nat) (a1 : Option Nat) : Option AS :=
  (pI S 11 5 a1 (1 : Int32)).bind fun S1 =>
  (gR S1 11 0 a1).bind fun v2 =>
  (gR S1 11 4 a1).bind fun v3 =>
  (kr_rv S1 22 a0).bind fun u4 =>
  kr_b2 (f_K_beginSession S1 a0 v2 none v3) fun v6 S5 =>
  (pI S5 11 9 a1 v6).bind fun S7 =>
  (gR S7 11 0 a1).bind fun v8 =>
  (gI S7 11 1 a1).bind fun v9 =>
  (gI S7 11 2 a1).bind fun v10 =>
  (kr_rv S7 16 v8).bind fun u11 =>
  (f_Person_learn S7 v8 v9 v10).bind fun S12 =>
  some S12
set_option maxRecDepth 20000 in
set_option maxHeartbeats 4000000 in
theorem s_K_grant {S : AS} {a0 : Option Nat} {a1 : Option Nat} {r : AS} (h : f_K_grant S a0 a1 = some r) : kr_Con m_K_grant 8 [va_rf a0, va_rf a1] S (kr_eV r) := by
  refine kr_con rfl rfl (by decide +kernel) (by simp [lg_sl, kr_rfcat, kr_icat, m_K_grant, mL]) ?_
  rw [show lv_args 0 [va_rf a0, va_rf a1] = [(0, va_rf a0), (1, va_rf a1)] from by simp [lv_args, kr_rfcat, kr_icat]]
  unfold f_K_grant at h
  refine r_aload_n (i := 1) (x := a1) 1 rfl d_K_grant_0 ?_
  refine r_iconst (v := (1 : Int32)) (by decide) d_K_grant_1 ?_
  have h2 := kr_ob h
  clear h
  obtain ⟨S1, eS1, h⟩ := h2
  refine r_putI eS1 fk165 (Or.inl rfl) rfl d_K_grant_2 ?_
  refine r_aload_n (i := 1) (x := a1) 1 rfl d_K_grant_5 ?_
  refine r_aload_n (i := 0) (x := a0) 0 rfl d_K_grant_6 ?_
  refine r_aload_n (i := 1) (x := a1) 1 rfl d_K_grant_7 ?_
  have h2 := kr_ob h
  clear h
  obtain ⟨v2, ev2, h⟩ := h2
  refine r_getR ev2 fk152 rfl d_K_grant_8 ?_
  refine r_null d_K_grant_11 ?_
  refine r_aload_n (i := 1) (x := a1) 1 rfl d_K_grant_12 ?_
  have h2 := kr_ob h
  clear h
  obtain ⟨v3, ev3, h⟩ := h2
  refine r_getR ev3 fk156 rfl d_K_grant_13 ?_
  have h2 := kr_ob h
  clear h
  obtain ⟨⟨⟩, eu4, h⟩ := h2
  have h2 := kr_ob2 h
  clear h
  obtain ⟨v6, S5, eS5, h⟩ := h2
  refine r_callV (M1 := m_K_beginSession) (κ := 22) (As := [va_rf v2, va_rf none, va_rf v3]) eu4 (s_K_beginSession eS5) mok_K_beginSession rfl (by decide) rfl w869 w871 w22 (by decide) (kr_c8 (kr_cR kr_c0)) d_K_grant_16 (kr_k1 ?_) kr_kn
  have h2 := kr_ob h
  clear h
  obtain ⟨S7, eS7, h⟩ := h2
  refine r_putI eS7 fk166 (Or.inl rfl) rfl d_K_grant_19 ?_
  refine r_aload_n (i := 1) (x := a1) 1 rfl d_K_grant_22 ?_
  have h2 := kr_ob h
  clear h
  obtain ⟨v8, ev8, h⟩ := h2
  refine r_getR ev8 fk152 rfl d_K_grant_23 ?_
  refine r_aload_n (i := 1) (x := a1) 1 rfl d_K_grant_26 ?_
  have h2 := kr_ob h
  clear h
  obtain ⟨v9, ev9, h⟩ := h2
  refine r_getI ev9 fk153 rfl d_K_grant_27 ?_
  refine r_aload_n (i := 1) (x := a1) 1 rfl d_K_grant_30 ?_
  have h2 := kr_ob h
  clear h
  obtain ⟨v10, ev10, h⟩ := h2
  refine r_getI ev10 fk150 rfl d_K_grant_31 ?_
  have h2 := kr_ob h
  clear h
  obtain ⟨⟨⟩, eu11, h⟩ := h2
  have h2 := kr_ob h
  clear h
  obtain ⟨S12, eS12, h⟩ := h2
  refine r_callV (M1 := m_Person_learn) (κ := 16) (As := [.int v9, .int v10]) eu11 (s_Person_learn eS12) mok_Person_learn rfl (by decide) rfl w910 w911 w912 (by decide) (kr_c8 kr_c0) d_K_grant_34 (kr_k0 ?_) kr_kn
  cases h
  exact r_vret rfl d_K_grant_37
/-! KeyringCourt.goOn(LKeyringCourt$Attempt;I)V -/
def f_K_goOn_B44 (S : AS) (x0 : Option Nat) (x1 : Option Nat) (x3 : Int32) : Option AS :=
  (gR S 11 3 x1).bind fun v1 =>
  (kr_rv S 13 v1).bind fun u2 =>
  kr_b2 (f_Flow_kindOf S v1 x3) fun v4 S3 =>
  if v4 = 0 then
  (kr_rv S3 11 x1).bind fun u5 =>
  (f_Attempt_waitAt S3 x1 x3).bind fun S6 =>
  some S6
  else
  if v4 = (5 : Int32) then
  (gR S3 22 8 x0).bind fun v7 =>
  (kr_rv S3 10 v7).bind fun u8 =>
  kr_b2 (f_AL_size S3 v7) fun v10 S9 =>
  if (60 : Int32) ≤ v10 then
  (pI S9 11 5 x1 (2 : Int32)).bind fun S11 =>
  some S11
  else
  (kr_rv S9 22 x0).bind fun u12 =>
  (f_K_grant S9 x0 x1).bind fun S13 =>
  some S13
  else
  (pI S3 11 5 x1 (2 : Int32)).bind fun S14 =>
  some S14
def f_K_goOn_C5 (k5 : AS → Option Nat → Option Nat → Int32 → Int32 → Option AS) (S : AS) (x0 : Option Nat) (x1 : Option Nat) (x3 : Int32) (x4 : Int32) : Option AS :=
  if (12 : Int32) ≤ x4 then
  f_K_goOn_B44 S x0 x1 x3
  else
  (gR S 11 3 x1).bind fun v15 =>
  (kr_rv S 13 v15).bind fun u16 =>
  kr_b2 (f_Flow_isTest S v15 x3) fun v18 S17 =>
  if v18 = 0 then
  f_K_goOn_B44 S17 x0 x1 x3
  else
  (gR S17 11 3 x1).bind fun v19 =>
  (kr_rv S17 22 x0).bind fun u20 =>
  kr_b2 (f_K_holds S17 x0 x1 x3) fun v22 S21 =>
  (kr_rv S21 13 v19).bind fun u23 =>
  kr_b2 (f_Flow_nextOf S21 v19 x3 v22) fun v25 S24 =>
  (some (x4 + (1 : Int32))).bind fun i26 =>
  k5 S24 x0 x1 v25 i26
def f_K_goOn_L5 : Nat → AS → Option Nat → Option Nat → Int32 → Int32 → Option AS
  | 0, S, x0, x1, x3, x4 => none
  | n + 1, S, x0, x1, x3, x4 => f_K_goOn_C5 (f_K_goOn_L5 n) S x0 x1 x3 x4
def f_K_goOn (S : AS) (a0 : Option Nat) (a1 : Option Nat) (a2 : Int32) : Option AS :=
  f_K_goOn_L5 kr_FU S a0 a1 a2 (0 : Int32)
set_option maxRecDepth 20000 in
set_option maxHeartbeats 4000000 in
theorem s_K_goOn_B44 {S : AS} {x0 : Option Nat} {x1 : Option Nat} {x3 : Int32} {r : AS} (h : f_K_goOn_B44 S x0 x1 x3 = some r) : kr_AW m_K_goOn 9 44 [(0, va_rf x0), (1, va_rf x1), (3, .int x3)] [] S (kr_eV r) := by
  unfold f_K_goOn_B44 at h
  refine r_aload_n (i := 1) (x := x1) 1 rfl d_K_goOn_44 ?_
  have h2 := kr_ob h
  clear h
  obtain ⟨v1, ev1, h⟩ := h2
  refine r_getR ev1 fk155 rfl d_K_goOn_45 ?_
  refine r_iload_n (i := 3) (x := x3) 2 rfl d_K_goOn_48 ?_
  have h2 := kr_ob h
  clear h
  obtain ⟨⟨⟩, eu2, h⟩ := h2
  have h2 := kr_ob2 h
  clear h
  obtain ⟨v4, S3, eS3, h⟩ := h2
  refine r_callV (M1 := m_Flow_kindOf) (κ := 13) (As := [.int x3]) eu2 (s_Flow_kindOf eS3) mok_Flow_kindOf rfl (by decide) rfl w841 w614 w615 (by decide) (kr_c8 kr_c0) d_K_goOn_49 (kr_k1 ?_) kr_kn
  refine r_istore (i := 4) (lv' := [(4, .int v4), (0, va_rf x0), (1, va_rf x1), (3, .int x3)]) (by decide) rfl d_K_goOn_52 ?_
  refine r_iload (i := 4) (x := v4) 0 rfl d_K_goOn_54 ?_
  refine r_if_ne (tgt := 67) d_K_goOn_56 rfl (fun c => ?_) (fun c => ?_)
  · replace h := kr_ip c h
    refine r_aload_n (i := 1) (x := x1) 2 rfl d_K_goOn_59 ?_
    refine r_iload_n (i := 3) (x := x3) 3 rfl d_K_goOn_60 ?_
    have h2 := kr_ob h
    clear h
    obtain ⟨⟨⟩, eu5, h⟩ := h2
    have h2 := kr_ob h
    clear h
    obtain ⟨S6, eS6, h⟩ := h2
    refine r_callV (M1 := m_Attempt_waitAt) (κ := 11) (As := [.int x3]) eu5 (s_Attempt_waitAt eS6) mok_Attempt_waitAt rfl (by decide) rfl w861 w862 w863 (by decide) (kr_c8 kr_c0) d_K_goOn_61 (kr_k0 ?_) kr_kn
    refine r_goto (tgt := 98) d_K_goOn_64 rfl ?_
    cases h
    exact r_vret rfl d_K_goOn_98
  · replace h := kr_in_ c h
    refine r_iload (i := 4) (x := v4) 0 rfl d_K_goOn_67 ?_
    refine r_iconst (v := (5 : Int32)) (by decide) d_K_goOn_69 ?_
    refine r_icmp_ne (tgt := 93) d_K_goOn_70 rfl (fun c => ?_) (fun c => ?_)
    · replace h := kr_ip c h
      refine r_aload_n (i := 0) (x := x0) 1 rfl d_K_goOn_73 ?_
      have h2 := kr_ob h
      clear h
      obtain ⟨v7, ev7, h⟩ := h2
      refine r_getR ev7 fk31 rfl d_K_goOn_74 ?_
      have h2 := kr_ob h
      clear h
      obtain ⟨⟨⟩, eu8, h⟩ := h2
      have h2 := kr_ob2 h
      clear h
      obtain ⟨v10, S9, eS9, h⟩ := h2
      refine r_callV (M1 := m_AL_size) (κ := 10) (As := []) eu8 (s_AL_size eS9) mok_AL_size rfl (by decide) rfl w348 w349 w350 (by decide) (kr_c8 kr_c0) d_K_goOn_77 (kr_k1 ?_) kr_kn
      refine r_bipush (v := (60 : Int32)) (by decide) d_K_goOn_80 ?_
      refine r_icmp_ge (tgt := 93) d_K_goOn_82 rfl (fun c => ?_) (fun c => ?_)
      · replace h := kr_ip c h
        refine r_aload_n (i := 1) (x := x1) 2 rfl d_K_goOn_93 ?_
        refine r_iconst (v := (2 : Int32)) (by decide) d_K_goOn_94 ?_
        have h2 := kr_ob h
        clear h
        obtain ⟨S11, eS11, h⟩ := h2
        refine r_putI eS11 fk165 (Or.inl rfl) rfl d_K_goOn_95 ?_
        cases h
        exact r_vret rfl d_K_goOn_98
      · replace h := kr_in_ c h
        refine r_aload_n (i := 0) (x := x0) 1 rfl d_K_goOn_85 ?_
        refine r_aload_n (i := 1) (x := x1) 2 rfl d_K_goOn_86 ?_
        have h2 := kr_ob h
        clear h
        obtain ⟨⟨⟩, eu12, h⟩ := h2
        have h2 := kr_ob h
        clear h
        obtain ⟨S13, eS13, h⟩ := h2
        refine r_callV (M1 := m_K_grant) (κ := 22) (As := [va_rf x1]) eu12 (s_K_grant eS13) mok_K_grant rfl (by decide) rfl w865 w867 w21 (by decide) (kr_c8 kr_c0) d_K_goOn_87 (kr_k0 ?_) kr_kn
        refine r_goto (tgt := 98) d_K_goOn_90 rfl ?_
        cases h
        exact r_vret rfl d_K_goOn_98
    · replace h := kr_in_ c h
      refine r_aload_n (i := 1) (x := x1) 2 rfl d_K_goOn_93 ?_
      refine r_iconst (v := (2 : Int32)) (by decide) d_K_goOn_94 ?_
      have h2 := kr_ob h
      clear h
      obtain ⟨S14, eS14, h⟩ := h2
      refine r_putI eS14 fk165 (Or.inl rfl) rfl d_K_goOn_95 ?_
      cases h
      exact r_vret rfl d_K_goOn_98
set_option maxRecDepth 20000 in
set_option maxHeartbeats 4000000 in
theorem s_K_goOn_C5 {k5 : AS → Option Nat → Option Nat → Int32 → Int32 → Option AS} (hk5 : ∀ {S : AS} {x0 : Option Nat} {x1 : Option Nat} {x3 : Int32} {x4 : Int32} {r : AS}, k5 S x0 x1 x3 x4 = some r → kr_AW m_K_goOn 9 5 [(0, va_rf x0), (1, va_rf x1), (3, .int x3), (4, .int x4)] [] S (kr_eV r)) {S : AS} {x0 : Option Nat} {x1 : Option Nat} {x3 : Int32} {x4 : Int32} {r : AS} (h : f_K_goOn_C5 k5 S x0 x1 x3 x4 = some r) : kr_AW m_K_goOn 9 5 [(0, va_rf x0), (1, va_rf x1), (3, .int x3), (4, .int x4)] [] S (kr_eV r) := by
  unfold f_K_goOn_C5 at h
  refine r_iload (i := 4) (x := x4) 3 rfl d_K_goOn_5 ?_
  refine r_bipush (v := (12 : Int32)) (by decide) d_K_goOn_7 ?_
  refine r_icmp_ge (tgt := 44) d_K_goOn_9 rfl (fun c => ?_) (fun c => ?_)
  · replace h := kr_ip c h
    exact kr_sub [0, 1, 2] rfl (s_K_goOn_B44 h)
  · replace h := kr_in_ c h
    refine r_aload_n (i := 1) (x := x1) 1 rfl d_K_goOn_12 ?_
    have h2 := kr_ob h
    clear h
    obtain ⟨v15, ev15, h⟩ := h2
    refine r_getR ev15 fk155 rfl d_K_goOn_13 ?_
    refine r_iload_n (i := 3) (x := x3) 2 rfl d_K_goOn_16 ?_
    have h2 := kr_ob h
    clear h
    obtain ⟨⟨⟩, eu16, h⟩ := h2
    have h2 := kr_ob2 h
    clear h
    obtain ⟨v18, S17, eS17, h⟩ := h2
    refine r_callV (M1 := m_Flow_isTest) (κ := 13) (As := [.int x3]) eu16 (s_Flow_isTest eS17) mok_Flow_isTest rfl (by decide) rfl w835 w634 w635 (by decide) (kr_c8 kr_c0) d_K_goOn_17 (kr_k1 ?_) kr_kn
    refine r_if_eq (tgt := 44) d_K_goOn_20 rfl (fun c => ?_) (fun c => ?_)
    · replace h := kr_ip c h
      exact kr_sub [0, 1, 2] rfl (s_K_goOn_B44 h)
    · replace h := kr_in_ c h
      refine r_aload_n (i := 1) (x := x1) 1 rfl d_K_goOn_23 ?_
      have h2 := kr_ob h
      clear h
      obtain ⟨v19, ev19, h⟩ := h2
      refine r_getR ev19 fk155 rfl d_K_goOn_24 ?_
      refine r_iload_n (i := 3) (x := x3) 2 rfl d_K_goOn_27 ?_
      refine r_aload_n (i := 0) (x := x0) 0 rfl d_K_goOn_28 ?_
      refine r_aload_n (i := 1) (x := x1) 1 rfl d_K_goOn_29 ?_
      refine r_iload_n (i := 3) (x := x3) 2 rfl d_K_goOn_30 ?_
      have h2 := kr_ob h
      clear h
      obtain ⟨⟨⟩, eu20, h⟩ := h2
      have h2 := kr_ob2 h
      clear h
      obtain ⟨v22, S21, eS21, h⟩ := h2
      refine r_callV (M1 := m_K_holds) (κ := 22) (As := [va_rf x1, .int x3]) eu20 (s_K_holds eS21) mok_K_holds rfl (by decide) rfl w836 w838 w18 (by decide) (kr_c8 (kr_cI (kr_cR kr_c0))) d_K_goOn_31 (kr_k1 ?_) kr_kn
      have h2 := kr_ob h
      clear h
      obtain ⟨⟨⟩, eu23, h⟩ := h2
      have h2 := kr_ob2 h
      clear h
      obtain ⟨v25, S24, eS24, h⟩ := h2
      refine r_callV (M1 := m_Flow_nextOf) (κ := 13) (As := [.int x3, .int v22]) eu23 (s_Flow_nextOf eS24) mok_Flow_nextOf rfl (by decide) rfl w860 w622 w623 (by decide) (kr_c8 kr_c0) d_K_goOn_34 (kr_k1 ?_) kr_kn
      refine r_istore_n (i := 3) (lv' := [(3, .int v25), (0, va_rf x0), (1, va_rf x1), (4, .int x4)]) (by decide) rfl d_K_goOn_37 ?_
      have h2 := kr_ob h
      clear h
      obtain ⟨i26, ei26, h⟩ := h2
      refine r_iinc (v := i26) (lv' := [(4, .int i26), (3, .int v25), (0, va_rf x0), (1, va_rf x1)]) 3 rfl (kr_inc (by decide) ei26) (by decide) rfl d_K_goOn_38 ?_
      refine r_goto (tgt := 5) d_K_goOn_41 rfl ?_
      exact kr_sub [2, 3, 1, 0] rfl (hk5 h)
theorem s_K_goOn_L5 (n : Nat) : ∀ {S : AS} {x0 : Option Nat} {x1 : Option Nat} {x3 : Int32} {x4 : Int32} {r : AS}, f_K_goOn_L5 n S x0 x1 x3 x4 = some r → kr_AW m_K_goOn 9 5 [(0, va_rf x0), (1, va_rf x1), (3, .int x3), (4, .int x4)] [] S (kr_eV r) := by
  induction n with
  | zero => intro S x0 x1 x3 x4 r h; cases h
  | succ n ih => intro S x0 x1 x3 x4 r h; exact s_K_goOn_C5 (fun {_} {_} {_} {_} {_} {_} h => ih h) h
set_option maxRecDepth 20000 in
set_option maxHeartbeats 4000000 in
theorem s_K_goOn {S : AS} {a0 : Option Nat} {a1 : Option Nat} {a2 : Int32} {r : AS} (h : f_K_goOn S a0 a1 a2 = some r) : kr_Con m_K_goOn 9 [va_rf a0, va_rf a1, .int a2] S (kr_eV r) := by
  refine kr_con rfl rfl (by decide +kernel) (by simp [lg_sl, kr_rfcat, kr_icat, m_K_goOn, mL]) ?_
  rw [show lv_args 0 [va_rf a0, va_rf a1, .int a2] = [(0, va_rf a0), (1, va_rf a1), (2, .int a2)] from by simp [lv_args, kr_rfcat, kr_icat]]
  unfold f_K_goOn at h
  refine r_iload_n (i := 2) (x := a2) 2 rfl d_K_goOn_0 ?_
  refine r_istore_n (i := 3) (lv' := [(3, .int a2), (0, va_rf a0), (1, va_rf a1), (2, .int a2)]) (by decide) rfl d_K_goOn_1 ?_
  refine r_iconst (v := (0 : Int32)) (by decide) d_K_goOn_2 ?_
  refine r_istore (i := 4) (lv' := [(4, .int (0 : Int32)), (3, .int a2), (0, va_rf a0), (1, va_rf a1), (2, .int a2)]) (by decide) rfl d_K_goOn_3 ?_
  exact kr_sub [2, 3, 1, 0] rfl (s_K_goOn_L5 kr_FU h)
/-! KeyringCourt.begin(III)I -/
def f_K_begin_B54 (S : AS) (x0 : Option Nat) (x2 : Int32) (x3 : Int32) (x4 : Option Nat) (y0 : Int32) : Option ((Int32 ⊕ String) × AS) :=
  kr_bx (f_K_requireState S y0) fun z2 S1 =>
  (some (nO S1 11)).bind fun S3 =>
  (gR S3 22 6 x0).bind fun v4 =>
  (gR S3 22 6 x0).bind fun v5 =>
  (kr_rv S3 10 v5).bind fun u6 =>
  kr_b2 (f_AL_size S3 v5) fun v8 S7 =>
  (kr_rv S7 10 v4).bind fun u9 =>
  kr_b2 (f_AL_get S7 v4 (v8 - (1 : Int32))) fun v11 S10 =>
  (kr_cc S10 13 v11).bind fun u12 =>
  (f_Attempt_init S10 (some (sN S1)) x4 x2 x3 v11).bind fun S13 =>
  (gR S13 22 7 x0).bind fun v14 =>
  (kr_rv S13 10 v14).bind fun u15 =>
  kr_b2 (f_AL_add1 S13 v14 (some (sN S1))) fun v17 S16 =>
  (kr_rv S16 22 x0).bind fun u18 =>
  (f_K_goOn S16 x0 (some (sN S1)) (0 : Int32)).bind fun S19 =>
  (gR S19 22 7 x0).bind fun v20 =>
  (kr_rv S19 10 v20).bind fun u21 =>
  kr_b2 (f_AL_size S19 v20) fun v23 S22 =>
  some (.inl (v23 - (1 : Int32)), S22)
def f_K_begin_B53 (S : AS) (x0 : Option Nat) (x2 : Int32) (x3 : Int32) (x4 : Option Nat) : Option ((Int32 ⊕ String) × AS) :=
  f_K_begin_B54 S x0 x2 x3 x4 (0 : Int32)
def f_K_begin (S : AS) (a0 : Option Nat) (a1 : Int32) (a2 : Int32) (a3 : Int32) : Option ((Int32 ⊕ String) × AS) :=
  (kr_rv S 22 a0).bind fun u24 =>
  kr_bx (f_K_findPerson S a0 a1) fun v26 S25 =>
  kr_bx (f_K_requireIndex S25 a2 (6 : Int32)) fun z28 S27 =>
  kr_bx (f_K_requireIndex S27 a3 (6 : Int32)) fun z30 S29 =>
  (gR S29 22 6 a0).bind fun v31 =>
  (kr_rv S29 10 v31).bind fun u32 =>
  kr_b2 (f_AL_isEmpty S29 v31) fun v34 S33 =>
  if v34 = 0 then
  (gI S33 16 11 v26).bind fun v35 =>
  if v35 = 0 then
  (gR S33 22 7 a0).bind fun v36 =>
  (kr_rv S33 10 v36).bind fun u37 =>
  kr_b2 (f_AL_size S33 v36) fun v39 S38 =>
  if (60 : Int32) ≤ v39 then
  f_K_begin_B53 S38 a0 a2 a3 v26
  else
  f_K_begin_B54 S38 a0 a2 a3 v26 (1 : Int32)
  else
  f_K_begin_B53 S33 a0 a2 a3 v26
  else
  f_K_begin_B53 S33 a0 a2 a3 v26
set_option maxRecDepth 20000 in
set_option maxHeartbeats 4000000 in
theorem s_K_begin_B54 {S : AS} {x0 : Option Nat} {x2 : Int32} {x3 : Int32} {x4 : Option Nat} {y0 : Int32} {r : ((Int32 ⊕ String) × AS)} (h : f_K_begin_B54 S x0 x2 x3 x4 y0 = some r) : kr_AW m_K_begin 10 54 [(0, va_rf x0), (2, .int x2), (3, .int x3), (4, va_rf x4)] [.int y0] S (kr_xI r) := by
  unfold f_K_begin_B54 at h
  rcases kr_obx h with ⟨z2, S1, eS1, h2⟩ | ⟨E, S1, eS1, h2⟩
  · clear h
    have h := h2
    clear h2
    refine r_callS (M1 := m_K_requireState) (As := [.int y0]) (s_K_requireState eS1) mok_K_requireState rfl w442 w443 (by decide) (kr_c8 kr_c0) d_K_begin_54 (kr_k0 ?_) kr_kn
    have h2 := kr_ob h
    clear h
    obtain ⟨S3, eS3, h⟩ := h2
    refine r_newO_ (κ := 11) eS3 (by decide) w775 w776 w98 d_K_begin_57 ?_
    refine r_dup (kr_rfcat _) d_K_begin_60 ?_
    refine r_aload (i := 4) (x := x4) 3 rfl d_K_begin_61 ?_
    refine r_iload_n (i := 2) (x := x2) 1 rfl d_K_begin_63 ?_
    refine r_iload_n (i := 3) (x := x3) 2 rfl d_K_begin_64 ?_
    refine r_aload_n (i := 0) (x := x0) 0 rfl d_K_begin_65 ?_
    have h2 := kr_ob h
    clear h
    obtain ⟨v4, ev4, h⟩ := h2
    refine r_getR ev4 fk29 rfl d_K_begin_66 ?_
    refine r_aload_n (i := 0) (x := x0) 0 rfl d_K_begin_69 ?_
    have h2 := kr_ob h
    clear h
    obtain ⟨v5, ev5, h⟩ := h2
    refine r_getR ev5 fk29 rfl d_K_begin_70 ?_
    have h2 := kr_ob h
    clear h
    obtain ⟨⟨⟩, eu6, h⟩ := h2
    have h2 := kr_ob2 h
    clear h
    obtain ⟨v8, S7, eS7, h⟩ := h2
    refine r_callV (M1 := m_AL_size) (κ := 10) (As := []) eu6 (s_AL_size eS7) mok_AL_size rfl (by decide) rfl w348 w349 w350 (by decide) (kr_c8 (kr_cR (kr_cI (kr_cI (kr_cR (kr_cR (kr_cR kr_c0))))))) d_K_begin_73 (kr_k1 ?_) kr_kn
    refine r_iconst (v := (1 : Int32)) (by decide) d_K_begin_76 ?_
    refine r_isub d_K_begin_77 ?_
    have h2 := kr_ob h
    clear h
    obtain ⟨⟨⟩, eu9, h⟩ := h2
    have h2 := kr_ob2 h
    clear h
    obtain ⟨v11, S10, eS10, h⟩ := h2
    refine r_callV (M1 := m_AL_get) (κ := 10) (As := [.int (v8 - (1 : Int32))]) eu9 (s_AL_get eS10) mok_AL_get rfl (by decide) rfl w489 w490 w491 (by decide) (kr_c8 (kr_cI (kr_cI (kr_cR (kr_cR (kr_cR kr_c0)))))) d_K_begin_78 (kr_k1 ?_) kr_kn
    have h2 := kr_ob h
    clear h
    obtain ⟨⟨⟩, eu12, h⟩ := h2
    refine r_cast eu12 (by decide) w136 d_K_begin_81 ?_
    have h2 := kr_ob h
    clear h
    obtain ⟨S13, eS13, h⟩ := h2
    refine r_callIN (M1 := m_Attempt_init) (As := [va_rf x4, .int x2, .int x3, va_rf v11]) (s_Attempt_init eS13) mok_Attempt_init rfl rfl rfl w777 w778 (by decide) (kr_c8 (kr_cR kr_c0)) d_K_begin_84 (kr_k0 ?_) kr_kn
    refine r_astore (i := 5) (lv' := [(5, va_rf (some (sN S1))), (0, va_rf x0), (2, .int x2), (3, .int x3), (4, va_rf x4)]) (by decide) (by show kr_st _ 5 _ = _; simp [kr_st, kr_rfcat, kr_icat]) d_K_begin_87 ?_
    refine r_aload_n (i := 0) (x := x0) 1 rfl d_K_begin_89 ?_
    have h2 := kr_ob h
    clear h
    obtain ⟨v14, ev14, h⟩ := h2
    refine r_getR ev14 fk30 rfl d_K_begin_90 ?_
    refine r_aload (i := 5) (x := (some (sN S1))) 0 rfl d_K_begin_93 ?_
    have h2 := kr_ob h
    clear h
    obtain ⟨⟨⟩, eu15, h⟩ := h2
    have h2 := kr_ob2 h
    clear h
    obtain ⟨v17, S16, eS16, h⟩ := h2
    refine r_callV (M1 := m_AL_add1) (κ := 10) (As := [va_rf (some (sN S1))]) eu15 (s_AL_add1 eS16) mok_AL_add1 rfl (by decide) rfl w642 w643 w644 (by decide) (kr_c8 kr_c0) d_K_begin_95 (kr_k1 ?_) kr_kn
    refine r_pop rfl d_K_begin_98 ?_
    refine r_aload_n (i := 0) (x := x0) 1 rfl d_K_begin_99 ?_
    refine r_aload (i := 5) (x := (some (sN S1))) 0 rfl d_K_begin_100 ?_
    refine r_iconst (v := (0 : Int32)) (by decide) d_K_begin_102 ?_
    have h2 := kr_ob h
    clear h
    obtain ⟨⟨⟩, eu18, h⟩ := h2
    have h2 := kr_ob h
    clear h
    obtain ⟨S19, eS19, h⟩ := h2
    refine r_callV (M1 := m_K_goOn) (κ := 22) (As := [va_rf (some (sN S1)), .int (0 : Int32)]) eu18 (s_K_goOn eS19) mok_K_goOn rfl (by decide) rfl w831 w833 w17 (by decide) (kr_c8 kr_c0) d_K_begin_103 (kr_k0 ?_) kr_kn
    refine r_aload_n (i := 0) (x := x0) 1 rfl d_K_begin_106 ?_
    have h2 := kr_ob h
    clear h
    obtain ⟨v20, ev20, h⟩ := h2
    refine r_getR ev20 fk30 rfl d_K_begin_107 ?_
    have h2 := kr_ob h
    clear h
    obtain ⟨⟨⟩, eu21, h⟩ := h2
    have h2 := kr_ob2 h
    clear h
    obtain ⟨v23, S22, eS22, h⟩ := h2
    refine r_callV (M1 := m_AL_size) (κ := 10) (As := []) eu21 (s_AL_size eS22) mok_AL_size rfl (by decide) rfl w348 w349 w350 (by decide) (kr_c8 kr_c0) d_K_begin_110 (kr_k1 ?_) kr_kn
    refine r_iconst (v := (1 : Int32)) (by decide) d_K_begin_113 ?_
    refine r_isub d_K_begin_114 ?_
    cases h
    exact r_iret rfl d_K_begin_115
  · cases h2
    exact r_callS (M1 := m_K_requireState) (As := [.int y0]) (s_K_requireState eS1) mok_K_requireState rfl w442 w443 (by decide) (kr_c8 kr_c0) d_K_begin_54 kr_nk (kr_kx (r_out rfl))
set_option maxRecDepth 20000 in
set_option maxHeartbeats 4000000 in
theorem s_K_begin_B53 {S : AS} {x0 : Option Nat} {x2 : Int32} {x3 : Int32} {x4 : Option Nat} {r : ((Int32 ⊕ String) × AS)} (h : f_K_begin_B53 S x0 x2 x3 x4 = some r) : kr_AW m_K_begin 10 53 [(0, va_rf x0), (2, .int x2), (3, .int x3), (4, va_rf x4)] [] S (kr_xI r) := by
  unfold f_K_begin_B53 at h
  refine r_iconst (v := (0 : Int32)) (by decide) d_K_begin_53 ?_
  exact kr_sub [0, 1, 2, 3] rfl (s_K_begin_B54 h)
set_option maxRecDepth 20000 in
set_option maxHeartbeats 4000000 in
theorem s_K_begin {S : AS} {a0 : Option Nat} {a1 : Int32} {a2 : Int32} {a3 : Int32} {r : ((Int32 ⊕ String) × AS)} (h : f_K_begin S a0 a1 a2 a3 = some r) : kr_Con m_K_begin 10 [va_rf a0, .int a1, .int a2, .int a3] S (kr_xI r) := by
  refine kr_con rfl rfl (by decide +kernel) (by simp [lg_sl, kr_rfcat, kr_icat, m_K_begin, mL]) ?_
  rw [show lv_args 0 [va_rf a0, .int a1, .int a2, .int a3] = [(0, va_rf a0), (1, .int a1), (2, .int a2), (3, .int a3)] from by simp [lv_args, kr_rfcat, kr_icat]]
  unfold f_K_begin at h
  refine r_aload_n (i := 0) (x := a0) 0 rfl d_K_begin_0 ?_
  refine r_iload_n (i := 1) (x := a1) 1 rfl d_K_begin_1 ?_
  have h2 := kr_ob h
  clear h
  obtain ⟨⟨⟩, eu24, h⟩ := h2
  rcases kr_obx h with ⟨v26, S25, eS25, h2⟩ | ⟨E, S25, eS25, h2⟩
  · clear h
    have h := h2
    clear h2
    refine r_callV (M1 := m_K_findPerson) (κ := 22) (As := [.int a1]) eu24 (s_K_findPerson eS25) mok_K_findPerson rfl (by decide) rfl w559 w561 w9 (by decide) (kr_c8 kr_c0) d_K_begin_2 (kr_k1 ?_) kr_kn
    refine r_astore (i := 4) (lv' := [(4, va_rf v26), (0, va_rf a0), (1, .int a1), (2, .int a2), (3, .int a3)]) (by decide) rfl d_K_begin_5 ?_
    refine r_iload_n (i := 2) (x := a2) 3 rfl d_K_begin_7 ?_
    refine r_bipush (v := (6 : Int32)) (by decide) d_K_begin_8 ?_
    rcases kr_obx h with ⟨z28, S27, eS27, h2⟩ | ⟨E, S27, eS27, h2⟩
    · clear h
      have h := h2
      clear h2
      refine r_callS (M1 := m_K_requireIndex) (As := [.int a2, .int (6 : Int32)]) (s_K_requireIndex eS27) mok_K_requireIndex rfl w713 w714 (by decide) (kr_c8 kr_c0) d_K_begin_10 (kr_k0 ?_) kr_kn
      refine r_iload_n (i := 3) (x := a3) 4 rfl d_K_begin_13 ?_
      refine r_bipush (v := (6 : Int32)) (by decide) d_K_begin_14 ?_
      rcases kr_obx h with ⟨z30, S29, eS29, h2⟩ | ⟨E, S29, eS29, h2⟩
      · clear h
        have h := h2
        clear h2
        refine r_callS (M1 := m_K_requireIndex) (As := [.int a3, .int (6 : Int32)]) (s_K_requireIndex eS29) mok_K_requireIndex rfl w713 w714 (by decide) (kr_c8 kr_c0) d_K_begin_16 (kr_k0 ?_) kr_kn
        refine r_aload_n (i := 0) (x := a0) 1 rfl d_K_begin_19 ?_
        have h2 := kr_ob h
        clear h
        obtain ⟨v31, ev31, h⟩ := h2
        refine r_getR ev31 fk29 rfl d_K_begin_20 ?_
        have h2 := kr_ob h
        clear h
        obtain ⟨⟨⟩, eu32, h⟩ := h2
        have h2 := kr_ob2 h
        clear h
        obtain ⟨v34, S33, eS33, h⟩ := h2
        refine r_callV (M1 := m_AL_isEmpty) (κ := 10) (As := []) eu32 (s_AL_isEmpty eS33) mok_AL_isEmpty rfl (by decide) rfl w771 w772 w773 (by decide) (kr_c8 kr_c0) d_K_begin_23 (kr_k1 ?_) kr_kn
        refine r_if_ne (tgt := 53) d_K_begin_26 rfl (fun c => ?_) (fun c => ?_)
        · replace h := kr_ip c h
          refine r_aload (i := 4) (x := v26) 0 rfl d_K_begin_29 ?_
          have h2 := kr_ob h
          clear h
          obtain ⟨v35, ev35, h⟩ := h2
          refine r_getI ev35 fk167 rfl d_K_begin_31 ?_
          refine r_if_ne (tgt := 53) d_K_begin_34 rfl (fun c => ?_) (fun c => ?_)
          · replace h := kr_ip c h
            refine r_aload_n (i := 0) (x := a0) 1 rfl d_K_begin_37 ?_
            have h2 := kr_ob h
            clear h
            obtain ⟨v36, ev36, h⟩ := h2
            refine r_getR ev36 fk30 rfl d_K_begin_38 ?_
            have h2 := kr_ob h
            clear h
            obtain ⟨⟨⟩, eu37, h⟩ := h2
            have h2 := kr_ob2 h
            clear h
            obtain ⟨v39, S38, eS38, h⟩ := h2
            refine r_callV (M1 := m_AL_size) (κ := 10) (As := []) eu37 (s_AL_size eS38) mok_AL_size rfl (by decide) rfl w348 w349 w350 (by decide) (kr_c8 kr_c0) d_K_begin_41 (kr_k1 ?_) kr_kn
            refine r_bipush (v := (60 : Int32)) (by decide) d_K_begin_44 ?_
            refine r_icmp_ge (tgt := 53) d_K_begin_46 rfl (fun c => ?_) (fun c => ?_)
            · replace h := kr_ip c h
              exact kr_sub [1, 3, 4, 0] rfl (s_K_begin_B53 h)
            · replace h := kr_in_ c h
              refine r_iconst (v := (1 : Int32)) (by decide) d_K_begin_49 ?_
              refine r_goto (tgt := 54) d_K_begin_50 rfl ?_
              exact kr_sub [1, 3, 4, 0] rfl (s_K_begin_B54 h)
          · replace h := kr_in_ c h
            exact kr_sub [1, 3, 4, 0] rfl (s_K_begin_B53 h)
        · replace h := kr_in_ c h
          exact kr_sub [1, 3, 4, 0] rfl (s_K_begin_B53 h)
      · cases h2
        exact r_callS (M1 := m_K_requireIndex) (As := [.int a3, .int (6 : Int32)]) (s_K_requireIndex eS29) mok_K_requireIndex rfl w713 w714 (by decide) (kr_c8 kr_c0) d_K_begin_16 kr_nk (kr_kx (r_out rfl))
    · cases h2
      exact r_callS (M1 := m_K_requireIndex) (As := [.int a2, .int (6 : Int32)]) (s_K_requireIndex eS27) mok_K_requireIndex rfl w713 w714 (by decide) (kr_c8 kr_c0) d_K_begin_10 kr_nk (kr_kx (r_out rfl))
  · cases h2
    exact r_callV (M1 := m_K_findPerson) (κ := 22) (As := [.int a1]) eu24 (s_K_findPerson eS25) mok_K_findPerson rfl (by decide) rfl w559 w561 w9 (by decide) (kr_c8 kr_c0) d_K_begin_2 kr_nk (kr_kx (r_out rfl))
/-! KeyringCourt.findAttempt(I)LKeyringCourt$Attempt; -/
def f_K_findAttempt (S : AS) (a0 : Option Nat) (a1 : Int32) : Option ((Option Nat ⊕ String) × AS) :=
  (gR S 22 7 a0).bind fun v1 =>
  (kr_rv S 10 v1).bind fun u2 =>
  kr_b2 (f_AL_size S v1) fun v4 S3 =>
  kr_bx (f_K_requireIndex S3 a1 v4) fun z6 S5 =>
  (gR S5 22 7 a0).bind fun v7 =>
  (kr_rv S5 10 v7).bind fun u8 =>
  kr_b2 (f_AL_get S5 v7 a1) fun v10 S9 =>
  (kr_cc S9 11 v10).bind fun u11 =>
  some (.inl v10, S9)
set_option maxRecDepth 20000 in
set_option maxHeartbeats 4000000 in
theorem s_K_findAttempt {S : AS} {a0 : Option Nat} {a1 : Int32} {r : ((Option Nat ⊕ String) × AS)} (h : f_K_findAttempt S a0 a1 = some r) : kr_Con m_K_findAttempt 8 [va_rf a0, .int a1] S (kr_xR r) := by
  refine kr_con rfl rfl (by decide +kernel) (by simp [lg_sl, kr_rfcat, kr_icat, m_K_findAttempt, mL]) ?_
  rw [show lv_args 0 [va_rf a0, .int a1] = [(0, va_rf a0), (1, .int a1)] from by simp [lv_args, kr_rfcat, kr_icat]]
  unfold f_K_findAttempt at h
  refine r_iload_n (i := 1) (x := a1) 1 rfl d_K_findAttempt_0 ?_
  refine r_aload_n (i := 0) (x := a0) 0 rfl d_K_findAttempt_1 ?_
  have h2 := kr_ob h
  clear h
  obtain ⟨v1, ev1, h⟩ := h2
  refine r_getR ev1 fk30 rfl d_K_findAttempt_2 ?_
  have h2 := kr_ob h
  clear h
  obtain ⟨⟨⟩, eu2, h⟩ := h2
  have h2 := kr_ob2 h
  clear h
  obtain ⟨v4, S3, eS3, h⟩ := h2
  refine r_callV (M1 := m_AL_size) (κ := 10) (As := []) eu2 (s_AL_size eS3) mok_AL_size rfl (by decide) rfl w348 w349 w350 (by decide) (kr_c8 (kr_cI kr_c0)) d_K_findAttempt_5 (kr_k1 ?_) kr_kn
  rcases kr_obx h with ⟨z6, S5, eS5, h2⟩ | ⟨E, S5, eS5, h2⟩
  · clear h
    have h := h2
    clear h2
    refine r_callS (M1 := m_K_requireIndex) (As := [.int a1, .int v4]) (s_K_requireIndex eS5) mok_K_requireIndex rfl w713 w714 (by decide) (kr_c8 kr_c0) d_K_findAttempt_8 (kr_k0 ?_) kr_kn
    refine r_aload_n (i := 0) (x := a0) 0 rfl d_K_findAttempt_11 ?_
    have h2 := kr_ob h
    clear h
    obtain ⟨v7, ev7, h⟩ := h2
    refine r_getR ev7 fk30 rfl d_K_findAttempt_12 ?_
    refine r_iload_n (i := 1) (x := a1) 1 rfl d_K_findAttempt_15 ?_
    have h2 := kr_ob h
    clear h
    obtain ⟨⟨⟩, eu8, h⟩ := h2
    have h2 := kr_ob2 h
    clear h
    obtain ⟨v10, S9, eS9, h⟩ := h2
    refine r_callV (M1 := m_AL_get) (κ := 10) (As := [.int a1]) eu8 (s_AL_get eS9) mok_AL_get rfl (by decide) rfl w489 w490 w491 (by decide) (kr_c8 kr_c0) d_K_findAttempt_16 (kr_k1 ?_) kr_kn
    have h2 := kr_ob h
    clear h
    obtain ⟨⟨⟩, eu11, h⟩ := h2
    refine r_cast eu11 (by decide) w775 d_K_findAttempt_19 ?_
    cases h
    exact r_aret rfl rfl d_K_findAttempt_22
  · cases h2
    exact r_callS (M1 := m_K_requireIndex) (As := [.int a1, .int v4]) (s_K_requireIndex eS5) mok_K_requireIndex rfl w713 w714 (by decide) (kr_c8 kr_c0) d_K_findAttempt_8 kr_nk (kr_kx (r_out rfl))
/-! KeyringCourt.isAnsweredRight(LKeyringCourt$Person;IZI)Z -/
def f_K_isAnsweredRight_B39 (S : AS) (x0 : Option Nat) (x1 : Option Nat) (x2 : Int32) (x5 : Int32) (x6 : Int32) : Option (Int32 × AS) :=
  if x5 = 0 then
  (kr_z x6).bind fun u1 =>
  some (x6, S)
  else
  (kr_rv S 16 x1).bind fun u2 =>
  kr_b2 (f_Person_stateOf S x1 x2) fun v4 S3 =>
  if v4 = (2 : Int32) then
  (gR S3 22 1 x0).bind fun v5 =>
  (gI S3 16 0 x1).bind fun v6 =>
  (gI S3 22 0 x0).bind fun v7 =>
  (kr_rv S3 12 v5).bind fun u8 =>
  (f_Audit_write S3 v5 (4 : Int32) (((3 : Int32) * v6) + x2) v7).bind fun S9 =>
  (kr_z x6).bind fun u10 =>
  some (x6, S9)
  else
  (kr_z x6).bind fun u11 =>
  some (x6, S3)
def f_K_isAnsweredRight_B14 (S : AS) (x0 : Option Nat) (x1 : Option Nat) (x2 : Int32) (x3 : Int32) (x4 : Int32) (y0 : Int32) : Option (Int32 × AS) :=
  (kr_rv S 16 x1).bind fun u12 =>
  kr_b2 (f_Person_takes S x1 x2 x3 x4) fun v14 S13 =>
  if v14 = 0 then
  (gI S13 22 0 x0).bind fun v15 =>
  (kr_rv S13 16 x1).bind fun u16 =>
  (f_Person_noteWrong S13 x1 v15).bind fun S17 =>
  f_K_isAnsweredRight_B39 S17 x0 x1 x2 y0 v14
  else
  f_K_isAnsweredRight_B39 S13 x0 x1 x2 y0 v14
def f_K_isAnsweredRight (S : AS) (a0 : Option Nat) (a1 : Option Nat) (a2 : Int32) (a3 : Int32) (a4 : Int32) : Option (Int32 × AS) :=
  (kr_rv S 16 a1).bind fun u18 =>
  kr_b2 (f_Person_stateOf S a1 a2) fun v20 S19 =>
  if v20 = (1 : Int32) then
  f_K_isAnsweredRight_B14 S19 a0 a1 a2 a3 a4 (1 : Int32)
  else
  f_K_isAnsweredRight_B14 S19 a0 a1 a2 a3 a4 (0 : Int32)
set_option maxRecDepth 20000 in
set_option maxHeartbeats 4000000 in
theorem s_K_isAnsweredRight_B39 {S : AS} {x0 : Option Nat} {x1 : Option Nat} {x2 : Int32} {x5 : Int32} {x6 : Int32} {r : (Int32 × AS)} (h : f_K_isAnsweredRight_B39 S x0 x1 x2 x5 x6 = some r) : kr_AW m_K_isAnsweredRight 3 39 [(0, va_rf x0), (1, va_rf x1), (2, .int x2), (5, .int x5), (6, .int x6)] [] S (kr_eI r) := by
  unfold f_K_isAnsweredRight_B39 at h
  refine r_iload (i := 5) (x := x5) 3 rfl d_K_isAnsweredRight_39 ?_
  refine r_if_eq (tgt := 73) d_K_isAnsweredRight_41 rfl (fun c => ?_) (fun c => ?_)
  · replace h := kr_ip c h
    refine r_iload (i := 6) (x := x6) 4 rfl d_K_isAnsweredRight_73 ?_
    have h2 := kr_ob h
    clear h
    obtain ⟨⟨⟩, eu1, h⟩ := h2
    cases h
    exact r_zret rfl eu1 d_K_isAnsweredRight_75
  · replace h := kr_in_ c h
    refine r_aload_n (i := 1) (x := x1) 1 rfl d_K_isAnsweredRight_44 ?_
    refine r_iload_n (i := 2) (x := x2) 2 rfl d_K_isAnsweredRight_45 ?_
    have h2 := kr_ob h
    clear h
    obtain ⟨⟨⟩, eu2, h⟩ := h2
    have h2 := kr_ob2 h
    clear h
    obtain ⟨v4, S3, eS3, h⟩ := h2
    refine r_callV (M1 := m_Person_stateOf) (κ := 16) (As := [.int x2]) eu2 (s_Person_stateOf eS3) mok_Person_stateOf rfl (by decide) rfl w566 w567 w568 (by decide) (kr_c8 kr_c0) d_K_isAnsweredRight_46 (kr_k1 ?_) kr_kn
    refine r_iconst (v := (2 : Int32)) (by decide) d_K_isAnsweredRight_49 ?_
    refine r_icmp_ne (tgt := 73) d_K_isAnsweredRight_50 rfl (fun c => ?_) (fun c => ?_)
    · replace h := kr_ip c h
      refine r_aload_n (i := 0) (x := x0) 0 rfl d_K_isAnsweredRight_53 ?_
      have h2 := kr_ob h
      clear h
      obtain ⟨v5, ev5, h⟩ := h2
      refine r_getR ev5 fk25 rfl d_K_isAnsweredRight_54 ?_
      refine r_iconst (v := (4 : Int32)) (by decide) d_K_isAnsweredRight_57 ?_
      refine r_iconst (v := (3 : Int32)) (by decide) d_K_isAnsweredRight_58 ?_
      refine r_aload_n (i := 1) (x := x1) 1 rfl d_K_isAnsweredRight_59 ?_
      have h2 := kr_ob h
      clear h
      obtain ⟨v6, ev6, h⟩ := h2
      refine r_getI ev6 fk169 rfl d_K_isAnsweredRight_60 ?_
      refine r_imul d_K_isAnsweredRight_63 ?_
      refine r_iload_n (i := 2) (x := x2) 2 rfl d_K_isAnsweredRight_64 ?_
      refine r_iadd d_K_isAnsweredRight_65 ?_
      refine r_aload_n (i := 0) (x := x0) 0 rfl d_K_isAnsweredRight_66 ?_
      have h2 := kr_ob h
      clear h
      obtain ⟨v7, ev7, h⟩ := h2
      refine r_getI ev7 fk113 rfl d_K_isAnsweredRight_67 ?_
      have h2 := kr_ob h
      clear h
      obtain ⟨⟨⟩, eu8, h⟩ := h2
      have h2 := kr_ob h
      clear h
      obtain ⟨S9, eS9, h⟩ := h2
      refine r_callV (M1 := m_Audit_write) (κ := 12) (As := [.int (4 : Int32), .int (((3 : Int32) * v6) + x2), .int v7]) eu8 (s_Audit_write eS9) mok_Audit_write rfl (by decide) rfl w472 w473 w474 (by decide) (kr_c8 kr_c0) d_K_isAnsweredRight_70 (kr_k0 ?_) kr_kn
      refine r_iload (i := 6) (x := x6) 4 rfl d_K_isAnsweredRight_73 ?_
      have h2 := kr_ob h
      clear h
      obtain ⟨⟨⟩, eu10, h⟩ := h2
      cases h
      exact r_zret rfl eu10 d_K_isAnsweredRight_75
    · replace h := kr_in_ c h
      refine r_iload (i := 6) (x := x6) 4 rfl d_K_isAnsweredRight_73 ?_
      have h2 := kr_ob h
      clear h
      obtain ⟨⟨⟩, eu11, h⟩ := h2
      cases h
      exact r_zret rfl eu11 d_K_isAnsweredRight_75
set_option maxRecDepth 20000 in
set_option maxHeartbeats 4000000 in
theorem s_K_isAnsweredRight_B14 {S : AS} {x0 : Option Nat} {x1 : Option Nat} {x2 : Int32} {x3 : Int32} {x4 : Int32} {y0 : Int32} {r : (Int32 × AS)} (h : f_K_isAnsweredRight_B14 S x0 x1 x2 x3 x4 y0 = some r) : kr_AW m_K_isAnsweredRight 3 14 [(0, va_rf x0), (1, va_rf x1), (2, .int x2), (3, .int x3), (4, .int x4)] [.int y0] S (kr_eI r) := by
  unfold f_K_isAnsweredRight_B14 at h
  refine r_istore (i := 5) (lv' := [(5, .int y0), (0, va_rf x0), (1, va_rf x1), (2, .int x2), (3, .int x3), (4, .int x4)]) (by decide) rfl d_K_isAnsweredRight_14 ?_
  refine r_aload_n (i := 1) (x := x1) 2 rfl d_K_isAnsweredRight_16 ?_
  refine r_iload_n (i := 2) (x := x2) 3 rfl d_K_isAnsweredRight_17 ?_
  refine r_iload_n (i := 3) (x := x3) 4 rfl d_K_isAnsweredRight_18 ?_
  refine r_iload (i := 4) (x := x4) 5 rfl d_K_isAnsweredRight_19 ?_
  have h2 := kr_ob h
  clear h
  obtain ⟨⟨⟩, eu12, h⟩ := h2
  have h2 := kr_ob2 h
  clear h
  obtain ⟨v14, S13, eS13, h⟩ := h2
  refine r_callV (M1 := m_Person_takes) (κ := 16) (As := [.int x2, .int x3, .int x4]) eu12 (s_Person_takes eS13) mok_Person_takes rfl (by decide) rfl w933 w934 w935 (by decide) (kr_c8 kr_c0) d_K_isAnsweredRight_21 (kr_k1 ?_) kr_kn
  refine r_istore (i := 6) (lv' := [(6, .int v14), (5, .int y0), (0, va_rf x0), (1, va_rf x1), (2, .int x2), (3, .int x3), (4, .int x4)]) (by decide) rfl d_K_isAnsweredRight_24 ?_
  refine r_iload (i := 6) (x := v14) 0 rfl d_K_isAnsweredRight_26 ?_
  refine r_if_ne (tgt := 39) d_K_isAnsweredRight_28 rfl (fun c => ?_) (fun c => ?_)
  · replace h := kr_ip c h
    refine r_aload_n (i := 1) (x := x1) 3 rfl d_K_isAnsweredRight_31 ?_
    refine r_aload_n (i := 0) (x := x0) 2 rfl d_K_isAnsweredRight_32 ?_
    have h2 := kr_ob h
    clear h
    obtain ⟨v15, ev15, h⟩ := h2
    refine r_getI ev15 fk113 rfl d_K_isAnsweredRight_33 ?_
    have h2 := kr_ob h
    clear h
    obtain ⟨⟨⟩, eu16, h⟩ := h2
    have h2 := kr_ob h
    clear h
    obtain ⟨S17, eS17, h⟩ := h2
    refine r_callV (M1 := m_Person_noteWrong) (κ := 16) (As := [.int v15]) eu16 (s_Person_noteWrong eS17) mok_Person_noteWrong rfl (by decide) rfl w937 w938 w939 (by decide) (kr_c8 kr_c0) d_K_isAnsweredRight_36 (kr_k0 ?_) kr_kn
    exact kr_sub [2, 3, 4, 1, 0] rfl (s_K_isAnsweredRight_B39 h)
  · replace h := kr_in_ c h
    exact kr_sub [2, 3, 4, 1, 0] rfl (s_K_isAnsweredRight_B39 h)
set_option maxRecDepth 20000 in
set_option maxHeartbeats 4000000 in
theorem s_K_isAnsweredRight {S : AS} {a0 : Option Nat} {a1 : Option Nat} {a2 : Int32} {a3 : Int32} {a4 : Int32} {r : (Int32 × AS)} (h : f_K_isAnsweredRight S a0 a1 a2 a3 a4 = some r) : kr_Con m_K_isAnsweredRight 3 [va_rf a0, va_rf a1, .int a2, .int a3, .int a4] S (kr_eI r) := by
  refine kr_con rfl rfl (by decide +kernel) (by simp [lg_sl, kr_rfcat, kr_icat, m_K_isAnsweredRight, mL]) ?_
  rw [show lv_args 0 [va_rf a0, va_rf a1, .int a2, .int a3, .int a4] = [(0, va_rf a0), (1, va_rf a1), (2, .int a2), (3, .int a3), (4, .int a4)] from by simp [lv_args, kr_rfcat, kr_icat]]
  unfold f_K_isAnsweredRight at h
  refine r_aload_n (i := 1) (x := a1) 1 rfl d_K_isAnsweredRight_0 ?_
  refine r_iload_n (i := 2) (x := a2) 2 rfl d_K_isAnsweredRight_1 ?_
  have h2 := kr_ob h
  clear h
  obtain ⟨⟨⟩, eu18, h⟩ := h2
  have h2 := kr_ob2 h
  clear h
  obtain ⟨v20, S19, eS19, h⟩ := h2
  refine r_callV (M1 := m_Person_stateOf) (κ := 16) (As := [.int a2]) eu18 (s_Person_stateOf eS19) mok_Person_stateOf rfl (by decide) rfl w566 w567 w568 (by decide) (kr_c8 kr_c0) d_K_isAnsweredRight_2 (kr_k1 ?_) kr_kn
  refine r_iconst (v := (1 : Int32)) (by decide) d_K_isAnsweredRight_5 ?_
  refine r_icmp_ne (tgt := 13) d_K_isAnsweredRight_6 rfl (fun c => ?_) (fun c => ?_)
  · replace h := kr_ip c h
    refine r_iconst (v := (1 : Int32)) (by decide) d_K_isAnsweredRight_9 ?_
    refine r_goto (tgt := 14) d_K_isAnsweredRight_10 rfl ?_
    exact kr_sub [0, 1, 2, 3, 4] rfl (s_K_isAnsweredRight_B14 h)
  · replace h := kr_in_ c h
    refine r_iconst (v := (0 : Int32)) (by decide) d_K_isAnsweredRight_13 ?_
    exact kr_sub [0, 1, 2, 3, 4] rfl (s_K_isAnsweredRight_B14 h)
/-! KeyringCourt.takeAnswer(LKeyringCourt$Attempt;ZI)V -/
def f_K_takeAnswer_B114 (S : AS) (x1 : Option Nat) : Option AS :=
  (gI S 11 5 x1).bind fun v1 =>
  if v1 = 0 then
  (gI S 11 8 x1).bind fun v2 =>
  if v2 < (12 : Int32) then
  some S
  else
  (pI S 11 5 x1 (2 : Int32)).bind fun S3 =>
  some S3
  else
  some S
def f_K_takeAnswer (S : AS) (a0 : Option Nat) (a1 : Option Nat) (a2 : Int32) (a3 : Int32) : Option AS :=
  (gR S 11 3 a1).bind fun v4 =>
  (gI S 11 6 a1).bind fun v5 =>
  (kr_rv S 13 v4).bind fun u6 =>
  kr_b2 (f_Flow_firstOf S v4 v5) fun v8 S7 =>
  (gI S7 11 8 a1).bind fun v9 =>
  (pI S7 11 8 a1 (v9 + (1 : Int32))).bind fun S10 =>
  (gR S10 11 0 a1).bind fun v11 =>
  (kr_rv S10 22 a0).bind fun u12 =>
  kr_b2 (f_K_isAnsweredRight S10 a0 v11 v8 a2 a3) fun v14 S13 =>
  if v14 = 0 then
  (gI S13 11 7 a1).bind fun v15 =>
  (pI S13 11 7 a1 (v15 + (1 : Int32))).bind fun S16 =>
  (gI S16 11 7 a1).bind fun v17 =>
  (gI S16 11 6 a1).bind fun v18 =>
  (kr_rv S16 13 v4).bind fun u19 =>
  kr_b2 (f_Flow_secondOf S16 v4 v18) fun v21 S20 =>
  if v17 < v21 then
  f_K_takeAnswer_B114 S20 a1
  else
  (gI S20 11 6 a1).bind fun v22 =>
  (kr_rv S20 13 v4).bind fun u23 =>
  kr_b2 (f_Flow_nextOf S20 v4 v22 (0 : Int32)) fun v25 S24 =>
  (kr_rv S24 22 a0).bind fun u26 =>
  (f_K_goOn S24 a0 a1 v25).bind fun S27 =>
  f_K_takeAnswer_B114 S27 a1
  else
  (gR S13 11 4 a1).bind fun v28 =>
  (gI S13 22 0 a0).bind fun v29 =>
  (kr_rv S13 20 v28).bind fun u30 =>
  (f_Shown_show S13 v28 v8 v29).bind fun S31 =>
  (gI S31 11 6 a1).bind fun v32 =>
  (kr_rv S31 13 v4).bind fun u33 =>
  kr_b2 (f_Flow_nextOf S31 v4 v32 (1 : Int32)) fun v35 S34 =>
  (kr_rv S34 22 a0).bind fun u36 =>
  (f_K_goOn S34 a0 a1 v35).bind fun S37 =>
  f_K_takeAnswer_B114 S37 a1
set_option maxRecDepth 20000 in
set_option maxHeartbeats 4000000 in
theorem s_K_takeAnswer_B114 {S : AS} {x1 : Option Nat} {r : AS} (h : f_K_takeAnswer_B114 S x1 = some r) : kr_AW m_K_takeAnswer 10 114 [(1, va_rf x1)] [] S (kr_eV r) := by
  unfold f_K_takeAnswer_B114 at h
  refine r_aload_n (i := 1) (x := x1) 0 rfl d_K_takeAnswer_114 ?_
  have h2 := kr_ob h
  clear h
  obtain ⟨v1, ev1, h⟩ := h2
  refine r_getI ev1 fk165 rfl d_K_takeAnswer_115 ?_
  refine r_if_ne (tgt := 135) d_K_takeAnswer_118 rfl (fun c => ?_) (fun c => ?_)
  · replace h := kr_ip c h
    refine r_aload_n (i := 1) (x := x1) 0 rfl d_K_takeAnswer_121 ?_
    have h2 := kr_ob h
    clear h
    obtain ⟨v2, ev2, h⟩ := h2
    refine r_getI ev2 fk170 rfl d_K_takeAnswer_122 ?_
    refine r_bipush (v := (12 : Int32)) (by decide) d_K_takeAnswer_125 ?_
    refine r_icmp_lt (tgt := 135) d_K_takeAnswer_127 rfl (fun c => ?_) (fun c => ?_)
    · replace h := kr_ip c h
      cases h
      exact r_vret rfl d_K_takeAnswer_135
    · replace h := kr_in_ c h
      refine r_aload_n (i := 1) (x := x1) 0 rfl d_K_takeAnswer_130 ?_
      refine r_iconst (v := (2 : Int32)) (by decide) d_K_takeAnswer_131 ?_
      have h2 := kr_ob h
      clear h
      obtain ⟨S3, eS3, h⟩ := h2
      refine r_putI eS3 fk165 (Or.inl rfl) rfl d_K_takeAnswer_132 ?_
      cases h
      exact r_vret rfl d_K_takeAnswer_135
  · replace h := kr_in_ c h
    cases h
    exact r_vret rfl d_K_takeAnswer_135
set_option maxRecDepth 20000 in
set_option maxHeartbeats 4000000 in
theorem s_K_takeAnswer {S : AS} {a0 : Option Nat} {a1 : Option Nat} {a2 : Int32} {a3 : Int32} {r : AS} (h : f_K_takeAnswer S a0 a1 a2 a3 = some r) : kr_Con m_K_takeAnswer 10 [va_rf a0, va_rf a1, .int a2, .int a3] S (kr_eV r) := by
  refine kr_con rfl rfl (by decide +kernel) (by simp [lg_sl, kr_rfcat, kr_icat, m_K_takeAnswer, mL]) ?_
  rw [show lv_args 0 [va_rf a0, va_rf a1, .int a2, .int a3] = [(0, va_rf a0), (1, va_rf a1), (2, .int a2), (3, .int a3)] from by simp [lv_args, kr_rfcat, kr_icat]]
  unfold f_K_takeAnswer at h
  refine r_aload_n (i := 1) (x := a1) 1 rfl d_K_takeAnswer_0 ?_
  have h2 := kr_ob h
  clear h
  obtain ⟨v4, ev4, h⟩ := h2
  refine r_getR ev4 fk155 rfl d_K_takeAnswer_1 ?_
  refine r_astore (i := 4) (lv' := [(4, va_rf v4), (0, va_rf a0), (1, va_rf a1), (2, .int a2), (3, .int a3)]) (by decide) rfl d_K_takeAnswer_4 ?_
  refine r_aload (i := 4) (x := v4) 0 rfl d_K_takeAnswer_6 ?_
  refine r_aload_n (i := 1) (x := a1) 2 rfl d_K_takeAnswer_8 ?_
  have h2 := kr_ob h
  clear h
  obtain ⟨v5, ev5, h⟩ := h2
  refine r_getI ev5 fk171 rfl d_K_takeAnswer_9 ?_
  have h2 := kr_ob h
  clear h
  obtain ⟨⟨⟩, eu6, h⟩ := h2
  have h2 := kr_ob2 h
  clear h
  obtain ⟨v8, S7, eS7, h⟩ := h2
  refine r_callV (M1 := m_Flow_firstOf) (κ := 13) (As := [.int v5]) eu6 (s_Flow_firstOf eS7) mok_Flow_firstOf rfl (by decide) rfl w840 w729 w730 (by decide) (kr_c8 kr_c0) d_K_takeAnswer_12 (kr_k1 ?_) kr_kn
  refine r_istore (i := 5) (lv' := [(5, .int v8), (4, va_rf v4), (0, va_rf a0), (1, va_rf a1), (2, .int a2), (3, .int a3)]) (by decide) (by show kr_st _ 5 _ = _; simp [kr_st, kr_rfcat, kr_icat]) d_K_takeAnswer_15 ?_
  refine r_aload_n (i := 1) (x := a1) 3 rfl d_K_takeAnswer_17 ?_
  refine r_dup (kr_rfcat _) d_K_takeAnswer_18 ?_
  have h2 := kr_ob h
  clear h
  obtain ⟨v9, ev9, h⟩ := h2
  refine r_getI ev9 fk170 rfl d_K_takeAnswer_19 ?_
  refine r_iconst (v := (1 : Int32)) (by decide) d_K_takeAnswer_22 ?_
  refine r_iadd d_K_takeAnswer_23 ?_
  have h2 := kr_ob h
  clear h
  obtain ⟨S10, eS10, h⟩ := h2
  refine r_putI eS10 fk170 (Or.inl rfl) rfl d_K_takeAnswer_24 ?_
  refine r_aload_n (i := 0) (x := a0) 2 rfl d_K_takeAnswer_27 ?_
  refine r_aload_n (i := 1) (x := a1) 3 rfl d_K_takeAnswer_28 ?_
  have h2 := kr_ob h
  clear h
  obtain ⟨v11, ev11, h⟩ := h2
  refine r_getR ev11 fk152 rfl d_K_takeAnswer_29 ?_
  refine r_iload (i := 5) (x := v8) 0 rfl d_K_takeAnswer_32 ?_
  refine r_iload_n (i := 2) (x := a2) 4 rfl d_K_takeAnswer_34 ?_
  refine r_iload_n (i := 3) (x := a3) 5 rfl d_K_takeAnswer_35 ?_
  have h2 := kr_ob h
  clear h
  obtain ⟨⟨⟩, eu12, h⟩ := h2
  have h2 := kr_ob2 h
  clear h
  obtain ⟨v14, S13, eS13, h⟩ := h2
  refine r_callV (M1 := m_K_isAnsweredRight) (κ := 22) (As := [va_rf v11, .int v8, .int a2, .int a3]) eu12 (s_K_isAnsweredRight eS13) mok_K_isAnsweredRight rfl (by decide) rfl w929 w931 w25 (by decide) (kr_c8 kr_c0) d_K_takeAnswer_36 (kr_k1 ?_) kr_kn
  refine r_if_eq (tgt := 73) d_K_takeAnswer_39 rfl (fun c => ?_) (fun c => ?_)
  · replace h := kr_ip c h
    refine r_aload_n (i := 1) (x := a1) 3 rfl d_K_takeAnswer_73 ?_
    refine r_dup (kr_rfcat _) d_K_takeAnswer_74 ?_
    have h2 := kr_ob h
    clear h
    obtain ⟨v15, ev15, h⟩ := h2
    refine r_getI ev15 fk172 rfl d_K_takeAnswer_75 ?_
    refine r_iconst (v := (1 : Int32)) (by decide) d_K_takeAnswer_78 ?_
    refine r_iadd d_K_takeAnswer_79 ?_
    have h2 := kr_ob h
    clear h
    obtain ⟨S16, eS16, h⟩ := h2
    refine r_putI eS16 fk172 (Or.inl rfl) rfl d_K_takeAnswer_80 ?_
    refine r_aload_n (i := 1) (x := a1) 3 rfl d_K_takeAnswer_83 ?_
    have h2 := kr_ob h
    clear h
    obtain ⟨v17, ev17, h⟩ := h2
    refine r_getI ev17 fk172 rfl d_K_takeAnswer_84 ?_
    refine r_aload (i := 4) (x := v4) 1 rfl d_K_takeAnswer_87 ?_
    refine r_aload_n (i := 1) (x := a1) 3 rfl d_K_takeAnswer_89 ?_
    have h2 := kr_ob h
    clear h
    obtain ⟨v18, ev18, h⟩ := h2
    refine r_getI ev18 fk171 rfl d_K_takeAnswer_90 ?_
    have h2 := kr_ob h
    clear h
    obtain ⟨⟨⟩, eu19, h⟩ := h2
    have h2 := kr_ob2 h
    clear h
    obtain ⟨v21, S20, eS20, h⟩ := h2
    refine r_callV (M1 := m_Flow_secondOf) (κ := 13) (As := [.int v18]) eu19 (s_Flow_secondOf eS20) mok_Flow_secondOf rfl (by decide) rfl w945 w946 w947 (by decide) (kr_c8 (kr_cI kr_c0)) d_K_takeAnswer_93 (kr_k1 ?_) kr_kn
    refine r_icmp_lt (tgt := 114) d_K_takeAnswer_96 rfl (fun c => ?_) (fun c => ?_)
    · replace h := kr_ip c h
      exact kr_sub [3] rfl (s_K_takeAnswer_B114 h)
    · replace h := kr_in_ c h
      refine r_aload_n (i := 0) (x := a0) 2 rfl d_K_takeAnswer_99 ?_
      refine r_aload_n (i := 1) (x := a1) 3 rfl d_K_takeAnswer_100 ?_
      refine r_aload (i := 4) (x := v4) 1 rfl d_K_takeAnswer_101 ?_
      refine r_aload_n (i := 1) (x := a1) 3 rfl d_K_takeAnswer_103 ?_
      have h2 := kr_ob h
      clear h
      obtain ⟨v22, ev22, h⟩ := h2
      refine r_getI ev22 fk171 rfl d_K_takeAnswer_104 ?_
      refine r_iconst (v := (0 : Int32)) (by decide) d_K_takeAnswer_107 ?_
      have h2 := kr_ob h
      clear h
      obtain ⟨⟨⟩, eu23, h⟩ := h2
      have h2 := kr_ob2 h
      clear h
      obtain ⟨v25, S24, eS24, h⟩ := h2
      refine r_callV (M1 := m_Flow_nextOf) (κ := 13) (As := [.int v22, .int (0 : Int32)]) eu23 (s_Flow_nextOf eS24) mok_Flow_nextOf rfl (by decide) rfl w860 w622 w623 (by decide) (kr_c8 (kr_cR (kr_cR kr_c0))) d_K_takeAnswer_108 (kr_k1 ?_) kr_kn
      have h2 := kr_ob h
      clear h
      obtain ⟨⟨⟩, eu26, h⟩ := h2
      have h2 := kr_ob h
      clear h
      obtain ⟨S27, eS27, h⟩ := h2
      refine r_callV (M1 := m_K_goOn) (κ := 22) (As := [va_rf a1, .int v25]) eu26 (s_K_goOn eS27) mok_K_goOn rfl (by decide) rfl w831 w833 w17 (by decide) (kr_c8 kr_c0) d_K_takeAnswer_111 (kr_k0 ?_) kr_kn
      exact kr_sub [3] rfl (s_K_takeAnswer_B114 h)
  · replace h := kr_in_ c h
    refine r_aload_n (i := 1) (x := a1) 3 rfl d_K_takeAnswer_42 ?_
    have h2 := kr_ob h
    clear h
    obtain ⟨v28, ev28, h⟩ := h2
    refine r_getR ev28 fk156 rfl d_K_takeAnswer_43 ?_
    refine r_iload (i := 5) (x := v8) 0 rfl d_K_takeAnswer_46 ?_
    refine r_aload_n (i := 0) (x := a0) 2 rfl d_K_takeAnswer_48 ?_
    have h2 := kr_ob h
    clear h
    obtain ⟨v29, ev29, h⟩ := h2
    refine r_getI ev29 fk113 rfl d_K_takeAnswer_49 ?_
    have h2 := kr_ob h
    clear h
    obtain ⟨⟨⟩, eu30, h⟩ := h2
    have h2 := kr_ob h
    clear h
    obtain ⟨S31, eS31, h⟩ := h2
    refine r_callV (M1 := m_Shown_show) (κ := 20) (As := [.int v8, .int v29]) eu30 (s_Shown_show eS31) mok_Shown_show rfl (by decide) rfl w941 w942 w943 (by decide) (kr_c8 kr_c0) d_K_takeAnswer_52 (kr_k0 ?_) kr_kn
    refine r_aload_n (i := 0) (x := a0) 2 rfl d_K_takeAnswer_55 ?_
    refine r_aload_n (i := 1) (x := a1) 3 rfl d_K_takeAnswer_56 ?_
    refine r_aload (i := 4) (x := v4) 1 rfl d_K_takeAnswer_57 ?_
    refine r_aload_n (i := 1) (x := a1) 3 rfl d_K_takeAnswer_59 ?_
    have h2 := kr_ob h
    clear h
    obtain ⟨v32, ev32, h⟩ := h2
    refine r_getI ev32 fk171 rfl d_K_takeAnswer_60 ?_
    refine r_iconst (v := (1 : Int32)) (by decide) d_K_takeAnswer_63 ?_
    have h2 := kr_ob h
    clear h
    obtain ⟨⟨⟩, eu33, h⟩ := h2
    have h2 := kr_ob2 h
    clear h
    obtain ⟨v35, S34, eS34, h⟩ := h2
    refine r_callV (M1 := m_Flow_nextOf) (κ := 13) (As := [.int v32, .int (1 : Int32)]) eu33 (s_Flow_nextOf eS34) mok_Flow_nextOf rfl (by decide) rfl w860 w622 w623 (by decide) (kr_c8 (kr_cR (kr_cR kr_c0))) d_K_takeAnswer_64 (kr_k1 ?_) kr_kn
    have h2 := kr_ob h
    clear h
    obtain ⟨⟨⟩, eu36, h⟩ := h2
    have h2 := kr_ob h
    clear h
    obtain ⟨S37, eS37, h⟩ := h2
    refine r_callV (M1 := m_K_goOn) (κ := 22) (As := [va_rf a1, .int v35]) eu36 (s_K_goOn eS37) mok_K_goOn rfl (by decide) rfl w831 w833 w17 (by decide) (kr_c8 kr_c0) d_K_takeAnswer_67 (kr_k0 ?_) kr_kn
    refine r_goto (tgt := 114) d_K_takeAnswer_70 rfl ?_
    exact kr_sub [3] rfl (s_K_takeAnswer_B114 h)
/-! KeyringCourt.answer(IZI)I -/
def f_K_answer_B31 (S : AS) (x0 : Option Nat) (x2 : Int32) (x3 : Int32) (x4 : Option Nat) (y0 : Int32) : Option ((Int32 ⊕ String) × AS) :=
  kr_bx (f_K_requireState S y0) fun z2 S1 =>
  (kr_rv S1 22 x0).bind fun u3 =>
  (f_K_takeAnswer S1 x0 x4 x2 x3).bind fun S4 =>
  (gI S4 11 5 x4).bind fun v5 =>
  some (.inl v5, S4)
def f_K_answer (S : AS) (a0 : Option Nat) (a1 : Int32) (a2 : Int32) (a3 : Int32) : Option ((Int32 ⊕ String) × AS) :=
  (kr_rv S 22 a0).bind fun u6 =>
  kr_bx (f_K_findAttempt S a0 a1) fun v8 S7 =>
  kr_b2 (f_K_isWithin S7 a3 (0 : Int32) (9999 : Int32)) fun v10 S9 =>
  kr_bx (f_K_requireArgument S9 v10) fun z12 S11 =>
  (gI S11 11 5 v8).bind fun v13 =>
  if v13 = 0 then
  f_K_answer_B31 S11 a0 a2 a3 v8 (1 : Int32)
  else
  f_K_answer_B31 S11 a0 a2 a3 v8 (0 : Int32)
set_option maxRecDepth 20000 in
set_option maxHeartbeats 4000000 in
theorem s_K_answer_B31 {S : AS} {x0 : Option Nat} {x2 : Int32} {x3 : Int32} {x4 : Option Nat} {y0 : Int32} {r : ((Int32 ⊕ String) × AS)} (h : f_K_answer_B31 S x0 x2 x3 x4 y0 = some r) : kr_AW m_K_answer 11 31 [(0, va_rf x0), (2, .int x2), (3, .int x3), (4, va_rf x4)] [.int y0] S (kr_xI r) := by
  unfold f_K_answer_B31 at h
  rcases kr_obx h with ⟨z2, S1, eS1, h2⟩ | ⟨E, S1, eS1, h2⟩
  · clear h
    have h := h2
    clear h2
    refine r_callS (M1 := m_K_requireState) (As := [.int y0]) (s_K_requireState eS1) mok_K_requireState rfl w442 w443 (by decide) (kr_c8 kr_c0) d_K_answer_31 (kr_k0 ?_) kr_kn
    refine r_aload_n (i := 0) (x := x0) 0 rfl d_K_answer_34 ?_
    refine r_aload (i := 4) (x := x4) 3 rfl d_K_answer_35 ?_
    refine r_iload_n (i := 2) (x := x2) 1 rfl d_K_answer_37 ?_
    refine r_iload_n (i := 3) (x := x3) 2 rfl d_K_answer_38 ?_
    have h2 := kr_ob h
    clear h
    obtain ⟨⟨⟩, eu3, h⟩ := h2
    have h2 := kr_ob h
    clear h
    obtain ⟨S4, eS4, h⟩ := h2
    refine r_callV (M1 := m_K_takeAnswer) (κ := 22) (As := [va_rf x4, .int x2, .int x3]) eu3 (s_K_takeAnswer eS4) mok_K_takeAnswer rfl (by decide) rfl w925 w927 w24 (by decide) (kr_c8 kr_c0) d_K_answer_39 (kr_k0 ?_) kr_kn
    refine r_aload (i := 4) (x := x4) 3 rfl d_K_answer_42 ?_
    have h2 := kr_ob h
    clear h
    obtain ⟨v5, ev5, h⟩ := h2
    refine r_getI ev5 fk165 rfl d_K_answer_44 ?_
    cases h
    exact r_iret rfl d_K_answer_47
  · cases h2
    exact r_callS (M1 := m_K_requireState) (As := [.int y0]) (s_K_requireState eS1) mok_K_requireState rfl w442 w443 (by decide) (kr_c8 kr_c0) d_K_answer_31 kr_nk (kr_kx (r_out rfl))
set_option maxRecDepth 20000 in
set_option maxHeartbeats 4000000 in
theorem s_K_answer {S : AS} {a0 : Option Nat} {a1 : Int32} {a2 : Int32} {a3 : Int32} {r : ((Int32 ⊕ String) × AS)} (h : f_K_answer S a0 a1 a2 a3 = some r) : kr_Con m_K_answer 11 [va_rf a0, .int a1, .int a2, .int a3] S (kr_xI r) := by
  refine kr_con rfl rfl (by decide +kernel) (by simp [lg_sl, kr_rfcat, kr_icat, m_K_answer, mL]) ?_
  rw [show lv_args 0 [va_rf a0, .int a1, .int a2, .int a3] = [(0, va_rf a0), (1, .int a1), (2, .int a2), (3, .int a3)] from by simp [lv_args, kr_rfcat, kr_icat]]
  unfold f_K_answer at h
  refine r_aload_n (i := 0) (x := a0) 0 rfl d_K_answer_0 ?_
  refine r_iload_n (i := 1) (x := a1) 1 rfl d_K_answer_1 ?_
  have h2 := kr_ob h
  clear h
  obtain ⟨⟨⟩, eu6, h⟩ := h2
  rcases kr_obx h with ⟨v8, S7, eS7, h2⟩ | ⟨E, S7, eS7, h2⟩
  · clear h
    have h := h2
    clear h2
    refine r_callV (M1 := m_K_findAttempt) (κ := 22) (As := [.int a1]) eu6 (s_K_findAttempt eS7) mok_K_findAttempt rfl (by decide) rfl w921 w923 w23 (by decide) (kr_c8 kr_c0) d_K_answer_2 (kr_k1 ?_) kr_kn
    refine r_astore (i := 4) (lv' := [(4, va_rf v8), (0, va_rf a0), (1, .int a1), (2, .int a2), (3, .int a3)]) (by decide) rfl d_K_answer_5 ?_
    refine r_iload_n (i := 3) (x := a3) 4 rfl d_K_answer_7 ?_
    refine r_iconst (v := (0 : Int32)) (by decide) d_K_answer_8 ?_
    refine r_sipush (v := (9999 : Int32)) (by decide) d_K_answer_9 ?_
    have h2 := kr_ob2 h
    clear h
    obtain ⟨v10, S9, eS9, h⟩ := h2
    refine r_callS (M1 := m_K_isWithin) (As := [.int a3, .int (0 : Int32), .int (9999 : Int32)]) (s_K_isWithin eS9) mok_K_isWithin rfl w373 w374 (by decide) (kr_c8 kr_c0) d_K_answer_12 (kr_k1 ?_) kr_kn
    rcases kr_obx h with ⟨z12, S11, eS11, h2⟩ | ⟨E, S11, eS11, h2⟩
    · clear h
      have h := h2
      clear h2
      refine r_callS (M1 := m_K_requireArgument) (As := [.int v10]) (s_K_requireArgument eS11) mok_K_requireArgument rfl w376 w377 (by decide) (kr_c8 kr_c0) d_K_answer_15 (kr_k0 ?_) kr_kn
      refine r_aload (i := 4) (x := v8) 0 rfl d_K_answer_18 ?_
      have h2 := kr_ob h
      clear h
      obtain ⟨v13, ev13, h⟩ := h2
      refine r_getI ev13 fk165 rfl d_K_answer_20 ?_
      refine r_if_ne (tgt := 30) d_K_answer_23 rfl (fun c => ?_) (fun c => ?_)
      · replace h := kr_ip c h
        refine r_iconst (v := (1 : Int32)) (by decide) d_K_answer_26 ?_
        refine r_goto (tgt := 31) d_K_answer_27 rfl ?_
        exact kr_sub [1, 3, 4, 0] rfl (s_K_answer_B31 h)
      · replace h := kr_in_ c h
        refine r_iconst (v := (0 : Int32)) (by decide) d_K_answer_30 ?_
        exact kr_sub [1, 3, 4, 0] rfl (s_K_answer_B31 h)
    · cases h2
      exact r_callS (M1 := m_K_requireArgument) (As := [.int v10]) (s_K_requireArgument eS11) mok_K_requireArgument rfl w376 w377 (by decide) (kr_c8 kr_c0) d_K_answer_15 kr_nk (kr_kx (r_out rfl))
  · cases h2
    exact r_callV (M1 := m_K_findAttempt) (κ := 22) (As := [.int a1]) eu6 (s_K_findAttempt eS7) mok_K_findAttempt rfl (by decide) rfl w921 w923 w23 (by decide) (kr_c8 kr_c0) d_K_answer_2 kr_nk (kr_kx (r_out rfl))
/-! KeyringCourt.state(I)I -/
def f_K_state (S : AS) (a0 : Option Nat) (a1 : Int32) : Option ((Int32 ⊕ String) × AS) :=
  (kr_rv S 22 a0).bind fun u1 =>
  kr_bx (f_K_findAttempt S a0 a1) fun v3 S2 =>
  (gI S2 11 5 v3).bind fun v4 =>
  some (.inl v4, S2)
set_option maxRecDepth 20000 in
set_option maxHeartbeats 4000000 in
theorem s_K_state {S : AS} {a0 : Option Nat} {a1 : Int32} {r : ((Int32 ⊕ String) × AS)} (h : f_K_state S a0 a1 = some r) : kr_Con m_K_state 9 [va_rf a0, .int a1] S (kr_xI r) := by
  refine kr_con rfl rfl (by decide +kernel) (by simp [lg_sl, kr_rfcat, kr_icat, m_K_state, mL]) ?_
  rw [show lv_args 0 [va_rf a0, .int a1] = [(0, va_rf a0), (1, .int a1)] from by simp [lv_args, kr_rfcat, kr_icat]]
  unfold f_K_state at h
  refine r_aload_n (i := 0) (x := a0) 0 rfl d_K_state_0 ?_
  refine r_iload_n (i := 1) (x := a1) 1 rfl d_K_state_1 ?_
  have h2 := kr_ob h
  clear h
  obtain ⟨⟨⟩, eu1, h⟩ := h2
  rcases kr_obx h with ⟨v3, S2, eS2, h2⟩ | ⟨E, S2, eS2, h2⟩
  · clear h
    have h := h2
    clear h2
    refine r_callV (M1 := m_K_findAttempt) (κ := 22) (As := [.int a1]) eu1 (s_K_findAttempt eS2) mok_K_findAttempt rfl (by decide) rfl w921 w923 w23 (by decide) (kr_c8 kr_c0) d_K_state_2 (kr_k1 ?_) kr_kn
    have h2 := kr_ob h
    clear h
    obtain ⟨v4, ev4, h⟩ := h2
    refine r_getI ev4 fk165 rfl d_K_state_5 ?_
    cases h
    exact r_iret rfl d_K_state_8
  · cases h2
    exact r_callV (M1 := m_K_findAttempt) (κ := 22) (As := [.int a1]) eu1 (s_K_findAttempt eS2) mok_K_findAttempt rfl (by decide) rfl w921 w923 w23 (by decide) (kr_c8 kr_c0) d_K_state_2 kr_nk (kr_kx (r_out rfl))
/-! KeyringCourt.asked(I)I -/
def f_K_asked (S : AS) (a0 : Option Nat) (a1 : Int32) : Option ((Int32 ⊕ String) × AS) :=
  (kr_rv S 22 a0).bind fun u1 =>
  kr_bx (f_K_findAttempt S a0 a1) fun v3 S2 =>
  (gI S2 11 5 v3).bind fun v4 =>
  if v4 = 0 then
  (gR S2 11 3 v3).bind fun v5 =>
  (gI S2 11 6 v3).bind fun v6 =>
  (kr_rv S2 13 v5).bind fun u7 =>
  kr_b2 (f_Flow_firstOf S2 v5 v6) fun v9 S8 =>
  some (.inl v9, S8)
  else
  some (.inl (-1 : Int32), S2)
set_option maxRecDepth 20000 in
set_option maxHeartbeats 4000000 in
theorem s_K_asked {S : AS} {a0 : Option Nat} {a1 : Int32} {r : ((Int32 ⊕ String) × AS)} (h : f_K_asked S a0 a1 = some r) : kr_Con m_K_asked 9 [va_rf a0, .int a1] S (kr_xI r) := by
  refine kr_con rfl rfl (by decide +kernel) (by simp [lg_sl, kr_rfcat, kr_icat, m_K_asked, mL]) ?_
  rw [show lv_args 0 [va_rf a0, .int a1] = [(0, va_rf a0), (1, .int a1)] from by simp [lv_args, kr_rfcat, kr_icat]]
  unfold f_K_asked at h
  refine r_aload_n (i := 0) (x := a0) 0 rfl d_K_asked_0 ?_
  refine r_iload_n (i := 1) (x := a1) 1 rfl d_K_asked_1 ?_
  have h2 := kr_ob h
  clear h
  obtain ⟨⟨⟩, eu1, h⟩ := h2
  rcases kr_obx h with ⟨v3, S2, eS2, h2⟩ | ⟨E, S2, eS2, h2⟩
  · clear h
    have h := h2
    clear h2
    refine r_callV (M1 := m_K_findAttempt) (κ := 22) (As := [.int a1]) eu1 (s_K_findAttempt eS2) mok_K_findAttempt rfl (by decide) rfl w921 w923 w23 (by decide) (kr_c8 kr_c0) d_K_asked_2 (kr_k1 ?_) kr_kn
    refine r_astore_n (i := 2) (lv' := [(2, va_rf v3), (0, va_rf a0), (1, .int a1)]) (by decide) rfl d_K_asked_5 ?_
    refine r_aload_n (i := 2) (x := v3) 0 rfl d_K_asked_6 ?_
    have h2 := kr_ob h
    clear h
    obtain ⟨v4, ev4, h⟩ := h2
    refine r_getI ev4 fk165 rfl d_K_asked_7 ?_
    refine r_if_ne (tgt := 27) d_K_asked_10 rfl (fun c => ?_) (fun c => ?_)
    · replace h := kr_ip c h
      refine r_aload_n (i := 2) (x := v3) 0 rfl d_K_asked_13 ?_
      have h2 := kr_ob h
      clear h
      obtain ⟨v5, ev5, h⟩ := h2
      refine r_getR ev5 fk155 rfl d_K_asked_14 ?_
      refine r_aload_n (i := 2) (x := v3) 0 rfl d_K_asked_17 ?_
      have h2 := kr_ob h
      clear h
      obtain ⟨v6, ev6, h⟩ := h2
      refine r_getI ev6 fk171 rfl d_K_asked_18 ?_
      have h2 := kr_ob h
      clear h
      obtain ⟨⟨⟩, eu7, h⟩ := h2
      have h2 := kr_ob2 h
      clear h
      obtain ⟨v9, S8, eS8, h⟩ := h2
      refine r_callV (M1 := m_Flow_firstOf) (κ := 13) (As := [.int v6]) eu7 (s_Flow_firstOf eS8) mok_Flow_firstOf rfl (by decide) rfl w840 w729 w730 (by decide) (kr_c8 kr_c0) d_K_asked_21 (kr_k1 ?_) kr_kn
      refine r_goto (tgt := 28) d_K_asked_24 rfl ?_
      cases h
      exact r_iret rfl d_K_asked_28
    · replace h := kr_in_ c h
      refine r_iconst (v := (-1 : Int32)) (by decide) d_K_asked_27 ?_
      cases h
      exact r_iret rfl d_K_asked_28
  · cases h2
    exact r_callV (M1 := m_K_findAttempt) (κ := 22) (As := [.int a1]) eu1 (s_K_findAttempt eS2) mok_K_findAttempt rfl (by decide) rfl w921 w923 w23 (by decide) (kr_c8 kr_c0) d_K_asked_2 kr_nk (kr_kx (r_out rfl))
/-! KeyringCourt.sessionOf(I)I -/
def f_K_sessionOf (S : AS) (a0 : Option Nat) (a1 : Int32) : Option ((Int32 ⊕ String) × AS) :=
  (kr_rv S 22 a0).bind fun u1 =>
  kr_bx (f_K_findAttempt S a0 a1) fun v3 S2 =>
  (gI S2 11 9 v3).bind fun v4 =>
  some (.inl v4, S2)
set_option maxRecDepth 20000 in
set_option maxHeartbeats 4000000 in
theorem s_K_sessionOf {S : AS} {a0 : Option Nat} {a1 : Int32} {r : ((Int32 ⊕ String) × AS)} (h : f_K_sessionOf S a0 a1 = some r) : kr_Con m_K_sessionOf 9 [va_rf a0, .int a1] S (kr_xI r) := by
  refine kr_con rfl rfl (by decide +kernel) (by simp [lg_sl, kr_rfcat, kr_icat, m_K_sessionOf, mL]) ?_
  rw [show lv_args 0 [va_rf a0, .int a1] = [(0, va_rf a0), (1, .int a1)] from by simp [lv_args, kr_rfcat, kr_icat]]
  unfold f_K_sessionOf at h
  refine r_aload_n (i := 0) (x := a0) 0 rfl d_K_sessionOf_0 ?_
  refine r_iload_n (i := 1) (x := a1) 1 rfl d_K_sessionOf_1 ?_
  have h2 := kr_ob h
  clear h
  obtain ⟨⟨⟩, eu1, h⟩ := h2
  rcases kr_obx h with ⟨v3, S2, eS2, h2⟩ | ⟨E, S2, eS2, h2⟩
  · clear h
    have h := h2
    clear h2
    refine r_callV (M1 := m_K_findAttempt) (κ := 22) (As := [.int a1]) eu1 (s_K_findAttempt eS2) mok_K_findAttempt rfl (by decide) rfl w921 w923 w23 (by decide) (kr_c8 kr_c0) d_K_sessionOf_2 (kr_k1 ?_) kr_kn
    have h2 := kr_ob h
    clear h
    obtain ⟨v4, ev4, h⟩ := h2
    refine r_getI ev4 fk166 rfl d_K_sessionOf_5 ?_
    cases h
    exact r_iret rfl d_K_sessionOf_8
  · cases h2
    exact r_callV (M1 := m_K_findAttempt) (κ := 22) (As := [.int a1]) eu1 (s_K_findAttempt eS2) mok_K_findAttempt rfl (by decide) rfl w921 w923 w23 (by decide) (kr_c8 kr_c0) d_K_sessionOf_2 kr_nk (kr_kx (r_out rfl))
/-! KeyringCourt.risk(I)I -/
def f_K_risk (S : AS) (a0 : Option Nat) (a1 : Int32) : Option ((Int32 ⊕ String) × AS) :=
  (kr_rv S 22 a0).bind fun u1 =>
  kr_bx (f_K_findAttempt S a0 a1) fun v3 S2 =>
  (kr_rv S2 22 a0).bind fun u4 =>
  kr_b2 (f_K_riskOf S2 a0 v3 (0 : Int32)) fun v6 S5 =>
  some (.inl v6, S5)
set_option maxRecDepth 20000 in
set_option maxHeartbeats 4000000 in
theorem s_K_risk {S : AS} {a0 : Option Nat} {a1 : Int32} {r : ((Int32 ⊕ String) × AS)} (h : f_K_risk S a0 a1 = some r) : kr_Con m_K_risk 9 [va_rf a0, .int a1] S (kr_xI r) := by
  refine kr_con rfl rfl (by decide +kernel) (by simp [lg_sl, kr_rfcat, kr_icat, m_K_risk, mL]) ?_
  rw [show lv_args 0 [va_rf a0, .int a1] = [(0, va_rf a0), (1, .int a1)] from by simp [lv_args, kr_rfcat, kr_icat]]
  unfold f_K_risk at h
  refine r_aload_n (i := 0) (x := a0) 0 rfl d_K_risk_0 ?_
  refine r_aload_n (i := 0) (x := a0) 0 rfl d_K_risk_1 ?_
  refine r_iload_n (i := 1) (x := a1) 1 rfl d_K_risk_2 ?_
  have h2 := kr_ob h
  clear h
  obtain ⟨⟨⟩, eu1, h⟩ := h2
  rcases kr_obx h with ⟨v3, S2, eS2, h2⟩ | ⟨E, S2, eS2, h2⟩
  · clear h
    have h := h2
    clear h2
    refine r_callV (M1 := m_K_findAttempt) (κ := 22) (As := [.int a1]) eu1 (s_K_findAttempt eS2) mok_K_findAttempt rfl (by decide) rfl w921 w923 w23 (by decide) (kr_c8 (kr_cR kr_c0)) d_K_risk_3 (kr_k1 ?_) kr_kn
    refine r_iconst (v := (0 : Int32)) (by decide) d_K_risk_6 ?_
    have h2 := kr_ob h
    clear h
    obtain ⟨⟨⟩, eu4, h⟩ := h2
    have h2 := kr_ob2 h
    clear h
    obtain ⟨v6, S5, eS5, h⟩ := h2
    refine r_callV (M1 := m_K_riskOf) (κ := 22) (As := [va_rf v3, .int (0 : Int32)]) eu4 (s_K_riskOf eS5) mok_K_riskOf rfl (by decide) rfl w843 w845 w19 (by decide) (kr_c8 kr_c0) d_K_risk_7 (kr_k1 ?_) kr_kn
    cases h
    exact r_iret rfl d_K_risk_10
  · cases h2
    exact r_callV (M1 := m_K_findAttempt) (κ := 22) (As := [.int a1]) eu1 (s_K_findAttempt eS2) mok_K_findAttempt rfl (by decide) rfl w921 w923 w23 (by decide) (kr_c8 (kr_cR kr_c0)) d_K_risk_3 kr_nk (kr_kx (r_out rfl))
/-! KeyringCourt.trialRisk(I)I -/
def f_K_trialRisk (S : AS) (a0 : Option Nat) (a1 : Int32) : Option ((Int32 ⊕ String) × AS) :=
  (kr_rv S 22 a0).bind fun u1 =>
  kr_bx (f_K_findAttempt S a0 a1) fun v3 S2 =>
  (kr_rv S2 22 a0).bind fun u4 =>
  kr_b2 (f_K_riskOf S2 a0 v3 (1 : Int32)) fun v6 S5 =>
  some (.inl v6, S5)
set_option maxRecDepth 20000 in
set_option maxHeartbeats 4000000 in
theorem s_K_trialRisk {S : AS} {a0 : Option Nat} {a1 : Int32} {r : ((Int32 ⊕ String) × AS)} (h : f_K_trialRisk S a0 a1 = some r) : kr_Con m_K_trialRisk 9 [va_rf a0, .int a1] S (kr_xI r) := by
  refine kr_con rfl rfl (by decide +kernel) (by simp [lg_sl, kr_rfcat, kr_icat, m_K_trialRisk, mL]) ?_
  rw [show lv_args 0 [va_rf a0, .int a1] = [(0, va_rf a0), (1, .int a1)] from by simp [lv_args, kr_rfcat, kr_icat]]
  unfold f_K_trialRisk at h
  refine r_aload_n (i := 0) (x := a0) 0 rfl d_K_trialRisk_0 ?_
  refine r_aload_n (i := 0) (x := a0) 0 rfl d_K_trialRisk_1 ?_
  refine r_iload_n (i := 1) (x := a1) 1 rfl d_K_trialRisk_2 ?_
  have h2 := kr_ob h
  clear h
  obtain ⟨⟨⟩, eu1, h⟩ := h2
  rcases kr_obx h with ⟨v3, S2, eS2, h2⟩ | ⟨E, S2, eS2, h2⟩
  · clear h
    have h := h2
    clear h2
    refine r_callV (M1 := m_K_findAttempt) (κ := 22) (As := [.int a1]) eu1 (s_K_findAttempt eS2) mok_K_findAttempt rfl (by decide) rfl w921 w923 w23 (by decide) (kr_c8 (kr_cR kr_c0)) d_K_trialRisk_3 (kr_k1 ?_) kr_kn
    refine r_iconst (v := (1 : Int32)) (by decide) d_K_trialRisk_6 ?_
    have h2 := kr_ob h
    clear h
    obtain ⟨⟨⟩, eu4, h⟩ := h2
    have h2 := kr_ob2 h
    clear h
    obtain ⟨v6, S5, eS5, h⟩ := h2
    refine r_callV (M1 := m_K_riskOf) (κ := 22) (As := [va_rf v3, .int (1 : Int32)]) eu4 (s_K_riskOf eS5) mok_K_riskOf rfl (by decide) rfl w843 w845 w19 (by decide) (kr_c8 kr_c0) d_K_trialRisk_7 (kr_k1 ?_) kr_kn
    cases h
    exact r_iret rfl d_K_trialRisk_10
  · cases h2
    exact r_callV (M1 := m_K_findAttempt) (κ := 22) (As := [.int a1]) eu1 (s_K_findAttempt eS2) mok_K_findAttempt rfl (by decide) rfl w921 w923 w23 (by decide) (kr_c8 (kr_cR kr_c0)) d_K_trialRisk_3 kr_nk (kr_kx (r_out rfl))
/-! KeyringCourt.sessions()I -/
def f_K_sessions (S : AS) (a0 : Option Nat) : Option (Int32 × AS) :=
  (gR S 22 8 a0).bind fun v1 =>
  (kr_rv S 10 v1).bind fun u2 =>
  kr_b2 (f_AL_size S v1) fun v4 S3 =>
  some (v4, S3)
set_option maxRecDepth 20000 in
set_option maxHeartbeats 4000000 in
theorem s_K_sessions {S : AS} {a0 : Option Nat} {r : (Int32 × AS)} (h : f_K_sessions S a0 = some r) : kr_Con m_K_sessions 1 [va_rf a0] S (kr_eI r) := by
  refine kr_con rfl rfl (by decide +kernel) (by simp [lg_sl, kr_rfcat, kr_icat, m_K_sessions, mL]) ?_
  rw [show lv_args 0 [va_rf a0] = [(0, va_rf a0)] from by simp [lv_args, kr_rfcat, kr_icat]]
  unfold f_K_sessions at h
  refine r_aload_n (i := 0) (x := a0) 0 rfl d_K_sessions_0 ?_
  have h2 := kr_ob h
  clear h
  obtain ⟨v1, ev1, h⟩ := h2
  refine r_getR ev1 fk31 rfl d_K_sessions_1 ?_
  have h2 := kr_ob h
  clear h
  obtain ⟨⟨⟩, eu2, h⟩ := h2
  have h2 := kr_ob2 h
  clear h
  obtain ⟨v4, S3, eS3, h⟩ := h2
  refine r_callV (M1 := m_AL_size) (κ := 10) (As := []) eu2 (s_AL_size eS3) mok_AL_size rfl (by decide) rfl w348 w349 w350 (by decide) (kr_c8 kr_c0) d_K_sessions_4 (kr_k1 ?_) kr_kn
  cases h
  exact r_iret rfl d_K_sessions_7
/-! KeyringCourt.findSession(I)LKeyringCourt$Session; -/
def f_K_findSession (S : AS) (a0 : Option Nat) (a1 : Int32) : Option ((Option Nat ⊕ String) × AS) :=
  (gR S 22 8 a0).bind fun v1 =>
  (kr_rv S 10 v1).bind fun u2 =>
  kr_b2 (f_AL_size S v1) fun v4 S3 =>
  kr_bx (f_K_requireIndex S3 a1 v4) fun z6 S5 =>
  (gR S5 22 8 a0).bind fun v7 =>
  (kr_rv S5 10 v7).bind fun u8 =>
  kr_b2 (f_AL_get S5 v7 a1) fun v10 S9 =>
  (kr_cc S9 19 v10).bind fun u11 =>
  some (.inl v10, S9)
set_option maxRecDepth 20000 in
set_option maxHeartbeats 4000000 in
theorem s_K_findSession {S : AS} {a0 : Option Nat} {a1 : Int32} {r : ((Option Nat ⊕ String) × AS)} (h : f_K_findSession S a0 a1 = some r) : kr_Con m_K_findSession 8 [va_rf a0, .int a1] S (kr_xR r) := by
  refine kr_con rfl rfl (by decide +kernel) (by simp [lg_sl, kr_rfcat, kr_icat, m_K_findSession, mL]) ?_
  rw [show lv_args 0 [va_rf a0, .int a1] = [(0, va_rf a0), (1, .int a1)] from by simp [lv_args, kr_rfcat, kr_icat]]
  unfold f_K_findSession at h
  refine r_iload_n (i := 1) (x := a1) 1 rfl d_K_findSession_0 ?_
  refine r_aload_n (i := 0) (x := a0) 0 rfl d_K_findSession_1 ?_
  have h2 := kr_ob h
  clear h
  obtain ⟨v1, ev1, h⟩ := h2
  refine r_getR ev1 fk31 rfl d_K_findSession_2 ?_
  have h2 := kr_ob h
  clear h
  obtain ⟨⟨⟩, eu2, h⟩ := h2
  have h2 := kr_ob2 h
  clear h
  obtain ⟨v4, S3, eS3, h⟩ := h2
  refine r_callV (M1 := m_AL_size) (κ := 10) (As := []) eu2 (s_AL_size eS3) mok_AL_size rfl (by decide) rfl w348 w349 w350 (by decide) (kr_c8 (kr_cI kr_c0)) d_K_findSession_5 (kr_k1 ?_) kr_kn
  rcases kr_obx h with ⟨z6, S5, eS5, h2⟩ | ⟨E, S5, eS5, h2⟩
  · clear h
    have h := h2
    clear h2
    refine r_callS (M1 := m_K_requireIndex) (As := [.int a1, .int v4]) (s_K_requireIndex eS5) mok_K_requireIndex rfl w713 w714 (by decide) (kr_c8 kr_c0) d_K_findSession_8 (kr_k0 ?_) kr_kn
    refine r_aload_n (i := 0) (x := a0) 0 rfl d_K_findSession_11 ?_
    have h2 := kr_ob h
    clear h
    obtain ⟨v7, ev7, h⟩ := h2
    refine r_getR ev7 fk31 rfl d_K_findSession_12 ?_
    refine r_iload_n (i := 1) (x := a1) 1 rfl d_K_findSession_15 ?_
    have h2 := kr_ob h
    clear h
    obtain ⟨⟨⟩, eu8, h⟩ := h2
    have h2 := kr_ob2 h
    clear h
    obtain ⟨v10, S9, eS9, h⟩ := h2
    refine r_callV (M1 := m_AL_get) (κ := 10) (As := [.int a1]) eu8 (s_AL_get eS9) mok_AL_get rfl (by decide) rfl w489 w490 w491 (by decide) (kr_c8 kr_c0) d_K_findSession_16 (kr_k1 ?_) kr_kn
    have h2 := kr_ob h
    clear h
    obtain ⟨⟨⟩, eu11, h⟩ := h2
    refine r_cast eu11 (by decide) w503 d_K_findSession_19 ?_
    cases h
    exact r_aret rfl rfl d_K_findSession_22
  · cases h2
    exact r_callS (M1 := m_K_requireIndex) (As := [.int a1, .int v4]) (s_K_requireIndex eS5) mok_K_requireIndex rfl w713 w714 (by decide) (kr_c8 kr_c0) d_K_findSession_8 kr_nk (kr_kx (r_out rfl))
/-! KeyringCourt.isLive(I)Z -/
def f_K_isLive (S : AS) (a0 : Option Nat) (a1 : Int32) : Option ((Int32 ⊕ String) × AS) :=
  (kr_rv S 22 a0).bind fun u1 =>
  kr_bx (f_K_findSession S a0 a1) fun v3 S2 =>
  (gI S2 19 6 v3).bind fun v4 =>
  (kr_z v4).bind fun u5 =>
  some (.inl v4, S2)
set_option maxRecDepth 20000 in
set_option maxHeartbeats 4000000 in
theorem s_K_isLive {S : AS} {a0 : Option Nat} {a1 : Int32} {r : ((Int32 ⊕ String) × AS)} (h : f_K_isLive S a0 a1 = some r) : kr_Con m_K_isLive 9 [va_rf a0, .int a1] S (kr_xI r) := by
  refine kr_con rfl rfl (by decide +kernel) (by simp [lg_sl, kr_rfcat, kr_icat, m_K_isLive, mL]) ?_
  rw [show lv_args 0 [va_rf a0, .int a1] = [(0, va_rf a0), (1, .int a1)] from by simp [lv_args, kr_rfcat, kr_icat]]
  unfold f_K_isLive at h
  refine r_aload_n (i := 0) (x := a0) 0 rfl d_K_isLive_0 ?_
  refine r_iload_n (i := 1) (x := a1) 1 rfl d_K_isLive_1 ?_
  have h2 := kr_ob h
  clear h
  obtain ⟨⟨⟩, eu1, h⟩ := h2
  rcases kr_obx h with ⟨v3, S2, eS2, h2⟩ | ⟨E, S2, eS2, h2⟩
  · clear h
    have h := h2
    clear h2
    refine r_callV (M1 := m_K_findSession) (κ := 22) (As := [.int a1]) eu1 (s_K_findSession eS2) mok_K_findSession rfl (by decide) rfl w991 w993 w26 (by decide) (kr_c8 kr_c0) d_K_isLive_2 (kr_k1 ?_) kr_kn
    have h2 := kr_ob h
    clear h
    obtain ⟨v4, ev4, h⟩ := h2
    refine r_getI ev4 fk118 rfl d_K_isLive_5 ?_
    have h2 := kr_ob h
    clear h
    obtain ⟨⟨⟩, eu5, h⟩ := h2
    cases h
    exact r_zret rfl eu5 d_K_isLive_8
  · cases h2
    exact r_callV (M1 := m_K_findSession) (κ := 22) (As := [.int a1]) eu1 (s_K_findSession eS2) mok_K_findSession rfl (by decide) rfl w991 w993 w26 (by decide) (kr_c8 kr_c0) d_K_isLive_2 kr_nk (kr_kx (r_out rfl))
/-! KeyringCourt.isLiveByAudit(I)Z -/
def f_K_isLiveByAudit (S : AS) (a0 : Option Nat) (a1 : Int32) : Option ((Int32 ⊕ String) × AS) :=
  (gR S 22 8 a0).bind fun v1 =>
  (kr_rv S 10 v1).bind fun u2 =>
  kr_b2 (f_AL_size S v1) fun v4 S3 =>
  kr_bx (f_K_requireIndex S3 a1 v4) fun z6 S5 =>
  (gR S5 22 1 a0).bind fun v7 =>
  (kr_rv S5 12 v7).bind fun u8 =>
  kr_b2 (f_Audit_has S5 v7 (0 : Int32) a1) fun v10 S9 =>
  if v10 = 0 then
  some (.inl (0 : Int32), S9)
  else
  (gR S9 22 1 a0).bind fun v11 =>
  (kr_rv S9 12 v11).bind fun u12 =>
  kr_b2 (f_Audit_has S9 v11 (1 : Int32) a1) fun v14 S13 =>
  if v14 = 0 then
  some (.inl (1 : Int32), S13)
  else
  some (.inl (0 : Int32), S13)
set_option maxRecDepth 20000 in
set_option maxHeartbeats 4000000 in
theorem s_K_isLiveByAudit {S : AS} {a0 : Option Nat} {a1 : Int32} {r : ((Int32 ⊕ String) × AS)} (h : f_K_isLiveByAudit S a0 a1 = some r) : kr_Con m_K_isLiveByAudit 8 [va_rf a0, .int a1] S (kr_xI r) := by
  refine kr_con rfl rfl (by decide +kernel) (by simp [lg_sl, kr_rfcat, kr_icat, m_K_isLiveByAudit, mL]) ?_
  rw [show lv_args 0 [va_rf a0, .int a1] = [(0, va_rf a0), (1, .int a1)] from by simp [lv_args, kr_rfcat, kr_icat]]
  unfold f_K_isLiveByAudit at h
  refine r_iload_n (i := 1) (x := a1) 1 rfl d_K_isLiveByAudit_0 ?_
  refine r_aload_n (i := 0) (x := a0) 0 rfl d_K_isLiveByAudit_1 ?_
  have h2 := kr_ob h
  clear h
  obtain ⟨v1, ev1, h⟩ := h2
  refine r_getR ev1 fk31 rfl d_K_isLiveByAudit_2 ?_
  have h2 := kr_ob h
  clear h
  obtain ⟨⟨⟩, eu2, h⟩ := h2
  have h2 := kr_ob2 h
  clear h
  obtain ⟨v4, S3, eS3, h⟩ := h2
  refine r_callV (M1 := m_AL_size) (κ := 10) (As := []) eu2 (s_AL_size eS3) mok_AL_size rfl (by decide) rfl w348 w349 w350 (by decide) (kr_c8 (kr_cI kr_c0)) d_K_isLiveByAudit_5 (kr_k1 ?_) kr_kn
  rcases kr_obx h with ⟨z6, S5, eS5, h2⟩ | ⟨E, S5, eS5, h2⟩
  · clear h
    have h := h2
    clear h2
    refine r_callS (M1 := m_K_requireIndex) (As := [.int a1, .int v4]) (s_K_requireIndex eS5) mok_K_requireIndex rfl w713 w714 (by decide) (kr_c8 kr_c0) d_K_isLiveByAudit_8 (kr_k0 ?_) kr_kn
    refine r_aload_n (i := 0) (x := a0) 0 rfl d_K_isLiveByAudit_11 ?_
    have h2 := kr_ob h
    clear h
    obtain ⟨v7, ev7, h⟩ := h2
    refine r_getR ev7 fk25 rfl d_K_isLiveByAudit_12 ?_
    refine r_iconst (v := (0 : Int32)) (by decide) d_K_isLiveByAudit_15 ?_
    refine r_iload_n (i := 1) (x := a1) 1 rfl d_K_isLiveByAudit_16 ?_
    have h2 := kr_ob h
    clear h
    obtain ⟨⟨⟩, eu8, h⟩ := h2
    have h2 := kr_ob2 h
    clear h
    obtain ⟨v10, S9, eS9, h⟩ := h2
    refine r_callV (M1 := m_Audit_has) (κ := 12) (As := [.int (0 : Int32), .int a1]) eu8 (s_Audit_has eS9) mok_Audit_has rfl (by decide) rfl w1002 w1003 w1004 (by decide) (kr_c8 kr_c0) d_K_isLiveByAudit_17 (kr_k1 ?_) kr_kn
    refine r_if_eq (tgt := 39) d_K_isLiveByAudit_20 rfl (fun c => ?_) (fun c => ?_)
    · replace h := kr_ip c h
      refine r_iconst (v := (0 : Int32)) (by decide) d_K_isLiveByAudit_39 ?_
      cases h
      exact r_zret rfl rfl d_K_isLiveByAudit_40
    · replace h := kr_in_ c h
      refine r_aload_n (i := 0) (x := a0) 0 rfl d_K_isLiveByAudit_23 ?_
      have h2 := kr_ob h
      clear h
      obtain ⟨v11, ev11, h⟩ := h2
      refine r_getR ev11 fk25 rfl d_K_isLiveByAudit_24 ?_
      refine r_iconst (v := (1 : Int32)) (by decide) d_K_isLiveByAudit_27 ?_
      refine r_iload_n (i := 1) (x := a1) 1 rfl d_K_isLiveByAudit_28 ?_
      have h2 := kr_ob h
      clear h
      obtain ⟨⟨⟩, eu12, h⟩ := h2
      have h2 := kr_ob2 h
      clear h
      obtain ⟨v14, S13, eS13, h⟩ := h2
      refine r_callV (M1 := m_Audit_has) (κ := 12) (As := [.int (1 : Int32), .int a1]) eu12 (s_Audit_has eS13) mok_Audit_has rfl (by decide) rfl w1002 w1003 w1004 (by decide) (kr_c8 kr_c0) d_K_isLiveByAudit_29 (kr_k1 ?_) kr_kn
      refine r_if_ne (tgt := 39) d_K_isLiveByAudit_32 rfl (fun c => ?_) (fun c => ?_)
      · replace h := kr_ip c h
        refine r_iconst (v := (1 : Int32)) (by decide) d_K_isLiveByAudit_35 ?_
        refine r_goto (tgt := 40) d_K_isLiveByAudit_36 rfl ?_
        cases h
        exact r_zret rfl rfl d_K_isLiveByAudit_40
      · replace h := kr_in_ c h
        refine r_iconst (v := (0 : Int32)) (by decide) d_K_isLiveByAudit_39 ?_
        cases h
        exact r_zret rfl rfl d_K_isLiveByAudit_40
  · cases h2
    exact r_callS (M1 := m_K_requireIndex) (As := [.int a1, .int v4]) (s_K_requireIndex eS5) mok_K_requireIndex rfl w713 w714 (by decide) (kr_c8 kr_c0) d_K_isLiveByAudit_8 kr_nk (kr_kx (r_out rfl))
/-! KeyringCourt.level(I)I -/
def f_K_level (S : AS) (a0 : Option Nat) (a1 : Int32) : Option ((Int32 ⊕ String) × AS) :=
  (kr_rv S 22 a0).bind fun u1 =>
  kr_bx (f_K_findSession S a0 a1) fun v3 S2 =>
  (gI S2 22 0 a0).bind fun v4 =>
  (kr_rv S2 19 v3).bind fun u5 =>
  kr_b2 (f_Session_levelAt S2 v3 v4) fun v7 S6 =>
  some (.inl v7, S6)
set_option maxRecDepth 20000 in
set_option maxHeartbeats 4000000 in
theorem s_K_level {S : AS} {a0 : Option Nat} {a1 : Int32} {r : ((Int32 ⊕ String) × AS)} (h : f_K_level S a0 a1 = some r) : kr_Con m_K_level 9 [va_rf a0, .int a1] S (kr_xI r) := by
  refine kr_con rfl rfl (by decide +kernel) (by simp [lg_sl, kr_rfcat, kr_icat, m_K_level, mL]) ?_
  rw [show lv_args 0 [va_rf a0, .int a1] = [(0, va_rf a0), (1, .int a1)] from by simp [lv_args, kr_rfcat, kr_icat]]
  unfold f_K_level at h
  refine r_aload_n (i := 0) (x := a0) 0 rfl d_K_level_0 ?_
  refine r_iload_n (i := 1) (x := a1) 1 rfl d_K_level_1 ?_
  have h2 := kr_ob h
  clear h
  obtain ⟨⟨⟩, eu1, h⟩ := h2
  rcases kr_obx h with ⟨v3, S2, eS2, h2⟩ | ⟨E, S2, eS2, h2⟩
  · clear h
    have h := h2
    clear h2
    refine r_callV (M1 := m_K_findSession) (κ := 22) (As := [.int a1]) eu1 (s_K_findSession eS2) mok_K_findSession rfl (by decide) rfl w991 w993 w26 (by decide) (kr_c8 kr_c0) d_K_level_2 (kr_k1 ?_) kr_kn
    refine r_aload_n (i := 0) (x := a0) 0 rfl d_K_level_5 ?_
    have h2 := kr_ob h
    clear h
    obtain ⟨v4, ev4, h⟩ := h2
    refine r_getI ev4 fk113 rfl d_K_level_6 ?_
    have h2 := kr_ob h
    clear h
    obtain ⟨⟨⟩, eu5, h⟩ := h2
    have h2 := kr_ob2 h
    clear h
    obtain ⟨v7, S6, eS6, h⟩ := h2
    refine r_callV (M1 := m_Session_levelAt) (κ := 19) (As := [.int v4]) eu5 (s_Session_levelAt eS6) mok_Session_levelAt rfl (by decide) rfl w1017 w1018 w1019 (by decide) (kr_c8 kr_c0) d_K_level_9 (kr_k1 ?_) kr_kn
    cases h
    exact r_iret rfl d_K_level_12
  · cases h2
    exact r_callV (M1 := m_K_findSession) (κ := 22) (As := [.int a1]) eu1 (s_K_findSession eS2) mok_K_findSession rfl (by decide) rfl w991 w993 w26 (by decide) (kr_c8 kr_c0) d_K_level_2 kr_nk (kr_kx (r_out rfl))
/-! KeyringCourt.stepUp(IIZI)I -/
def f_K_stepUp_B96 (S : AS) (x0 : Option Nat) (x5 : Option Nat) : Option ((Int32 ⊕ String) × AS) :=
  (gI S 22 0 x0).bind fun v1 =>
  (kr_rv S 19 x5).bind fun u2 =>
  kr_b2 (f_Session_levelAt S x5 v1) fun v4 S3 =>
  some (.inl v4, S3)
def f_K_stepUp_B55 (S : AS) (x0 : Option Nat) (x2 : Int32) (x3 : Int32) (x4 : Int32) (x5 : Option Nat) (y0 : Int32) : Option ((Int32 ⊕ String) × AS) :=
  kr_bx (f_K_requireState S y0) fun z6 S5 =>
  (gI S5 22 0 x0).bind fun v7 =>
  (pI S5 19 5 x5 v7).bind fun S8 =>
  (gR S8 19 1 x5).bind fun v9 =>
  (kr_rv S8 22 x0).bind fun u10 =>
  kr_b2 (f_K_isAnsweredRight S8 x0 v9 x2 x3 x4) fun v12 S11 =>
  if v12 = 0 then
  f_K_stepUp_B96 S11 x0 x5
  else
  (gR S11 19 3 x5).bind fun v13 =>
  (gI S11 22 0 x0).bind fun v14 =>
  (kr_rv S11 20 v13).bind fun u15 =>
  (f_Shown_show S11 v13 x2 v14).bind fun S16 =>
  f_K_stepUp_B96 S16 x0 x5
def f_K_stepUp_B54 (S : AS) (x0 : Option Nat) (x2 : Int32) (x3 : Int32) (x4 : Int32) (x5 : Option Nat) : Option ((Int32 ⊕ String) × AS) :=
  f_K_stepUp_B55 S x0 x2 x3 x4 x5 (0 : Int32)
def f_K_stepUp_B31 (S : AS) (x0 : Option Nat) (x2 : Int32) (x3 : Int32) (x4 : Int32) (x5 : Option Nat) (y0 : Int32) : Option ((Int32 ⊕ String) × AS) :=
  kr_bx (f_K_requireArgument S y0) fun z18 S17 =>
  (gI S17 19 6 x5).bind fun v19 =>
  if v19 = 0 then
  f_K_stepUp_B54 S17 x0 x2 x3 x4 x5
  else
  (gR S17 19 2 x5).bind fun v20 =>
  if v20 = none then
  f_K_stepUp_B55 S17 x0 x2 x3 x4 x5 (1 : Int32)
  else
  f_K_stepUp_B54 S17 x0 x2 x3 x4 x5
def f_K_stepUp_B30 (S : AS) (x0 : Option Nat) (x2 : Int32) (x3 : Int32) (x4 : Int32) (x5 : Option Nat) : Option ((Int32 ⊕ String) × AS) :=
  f_K_stepUp_B31 S x0 x2 x3 x4 x5 (0 : Int32)
def f_K_stepUp (S : AS) (a0 : Option Nat) (a1 : Int32) (a2 : Int32) (a3 : Int32) (a4 : Int32) : Option ((Int32 ⊕ String) × AS) :=
  (kr_rv S 22 a0).bind fun u21 =>
  kr_bx (f_K_findSession S a0 a1) fun v23 S22 =>
  kr_b2 (f_K_isFactor S22 a2) fun v25 S24 =>
  if v25 = 0 then
  f_K_stepUp_B30 S24 a0 a2 a3 a4 v23
  else
  kr_b2 (f_K_isWithin S24 a4 (0 : Int32) (9999 : Int32)) fun v27 S26 =>
  if v27 = 0 then
  f_K_stepUp_B30 S26 a0 a2 a3 a4 v23
  else
  f_K_stepUp_B31 S26 a0 a2 a3 a4 v23 (1 : Int32)
set_option maxRecDepth 20000 in
set_option maxHeartbeats 4000000 in
theorem s_K_stepUp_B96 {S : AS} {x0 : Option Nat} {x5 : Option Nat} {r : ((Int32 ⊕ String) × AS)} (h : f_K_stepUp_B96 S x0 x5 = some r) : kr_AW m_K_stepUp 9 96 [(0, va_rf x0), (5, va_rf x5)] [] S (kr_xI r) := by
  unfold f_K_stepUp_B96 at h
  refine r_aload (i := 5) (x := x5) 1 rfl d_K_stepUp_96 ?_
  refine r_aload_n (i := 0) (x := x0) 0 rfl d_K_stepUp_98 ?_
  have h2 := kr_ob h
  clear h
  obtain ⟨v1, ev1, h⟩ := h2
  refine r_getI ev1 fk113 rfl d_K_stepUp_99 ?_
  have h2 := kr_ob h
  clear h
  obtain ⟨⟨⟩, eu2, h⟩ := h2
  have h2 := kr_ob2 h
  clear h
  obtain ⟨v4, S3, eS3, h⟩ := h2
  refine r_callV (M1 := m_Session_levelAt) (κ := 19) (As := [.int v1]) eu2 (s_Session_levelAt eS3) mok_Session_levelAt rfl (by decide) rfl w1017 w1018 w1019 (by decide) (kr_c8 kr_c0) d_K_stepUp_102 (kr_k1 ?_) kr_kn
  cases h
  exact r_iret rfl d_K_stepUp_105
set_option maxRecDepth 20000 in
set_option maxHeartbeats 4000000 in
theorem s_K_stepUp_B55 {S : AS} {x0 : Option Nat} {x2 : Int32} {x3 : Int32} {x4 : Int32} {x5 : Option Nat} {y0 : Int32} {r : ((Int32 ⊕ String) × AS)} (h : f_K_stepUp_B55 S x0 x2 x3 x4 x5 y0 = some r) : kr_AW m_K_stepUp 9 55 [(0, va_rf x0), (2, .int x2), (3, .int x3), (4, .int x4), (5, va_rf x5)] [.int y0] S (kr_xI r) := by
  unfold f_K_stepUp_B55 at h
  rcases kr_obx h with ⟨z6, S5, eS5, h2⟩ | ⟨E, S5, eS5, h2⟩
  · clear h
    have h := h2
    clear h2
    refine r_callS (M1 := m_K_requireState) (As := [.int y0]) (s_K_requireState eS5) mok_K_requireState rfl w442 w443 (by decide) (kr_c8 kr_c0) d_K_stepUp_55 (kr_k0 ?_) kr_kn
    refine r_aload (i := 5) (x := x5) 4 rfl d_K_stepUp_58 ?_
    refine r_aload_n (i := 0) (x := x0) 0 rfl d_K_stepUp_60 ?_
    have h2 := kr_ob h
    clear h
    obtain ⟨v7, ev7, h⟩ := h2
    refine r_getI ev7 fk113 rfl d_K_stepUp_61 ?_
    have h2 := kr_ob h
    clear h
    obtain ⟨S8, eS8, h⟩ := h2
    refine r_putI eS8 fk173 (Or.inl rfl) rfl d_K_stepUp_64 ?_
    refine r_aload_n (i := 0) (x := x0) 0 rfl d_K_stepUp_67 ?_
    refine r_aload (i := 5) (x := x5) 4 rfl d_K_stepUp_68 ?_
    have h2 := kr_ob h
    clear h
    obtain ⟨v9, ev9, h⟩ := h2
    refine r_getR ev9 fk174 rfl d_K_stepUp_70 ?_
    refine r_iload_n (i := 2) (x := x2) 1 rfl d_K_stepUp_73 ?_
    refine r_iload_n (i := 3) (x := x3) 2 rfl d_K_stepUp_74 ?_
    refine r_iload (i := 4) (x := x4) 3 rfl d_K_stepUp_75 ?_
    have h2 := kr_ob h
    clear h
    obtain ⟨⟨⟩, eu10, h⟩ := h2
    have h2 := kr_ob2 h
    clear h
    obtain ⟨v12, S11, eS11, h⟩ := h2
    refine r_callV (M1 := m_K_isAnsweredRight) (κ := 22) (As := [va_rf v9, .int x2, .int x3, .int x4]) eu10 (s_K_isAnsweredRight eS11) mok_K_isAnsweredRight rfl (by decide) rfl w929 w931 w25 (by decide) (kr_c8 kr_c0) d_K_stepUp_77 (kr_k1 ?_) kr_kn
    refine r_if_eq (tgt := 96) d_K_stepUp_80 rfl (fun c => ?_) (fun c => ?_)
    · replace h := kr_ip c h
      exact kr_sub [0, 4] rfl (s_K_stepUp_B96 h)
    · replace h := kr_in_ c h
      refine r_aload (i := 5) (x := x5) 4 rfl d_K_stepUp_83 ?_
      have h2 := kr_ob h
      clear h
      obtain ⟨v13, ev13, h⟩ := h2
      refine r_getR ev13 fk175 rfl d_K_stepUp_85 ?_
      refine r_iload_n (i := 2) (x := x2) 1 rfl d_K_stepUp_88 ?_
      refine r_aload_n (i := 0) (x := x0) 0 rfl d_K_stepUp_89 ?_
      have h2 := kr_ob h
      clear h
      obtain ⟨v14, ev14, h⟩ := h2
      refine r_getI ev14 fk113 rfl d_K_stepUp_90 ?_
      have h2 := kr_ob h
      clear h
      obtain ⟨⟨⟩, eu15, h⟩ := h2
      have h2 := kr_ob h
      clear h
      obtain ⟨S16, eS16, h⟩ := h2
      refine r_callV (M1 := m_Shown_show) (κ := 20) (As := [.int x2, .int v14]) eu15 (s_Shown_show eS16) mok_Shown_show rfl (by decide) rfl w941 w942 w943 (by decide) (kr_c8 kr_c0) d_K_stepUp_93 (kr_k0 ?_) kr_kn
      exact kr_sub [0, 4] rfl (s_K_stepUp_B96 h)
  · cases h2
    exact r_callS (M1 := m_K_requireState) (As := [.int y0]) (s_K_requireState eS5) mok_K_requireState rfl w442 w443 (by decide) (kr_c8 kr_c0) d_K_stepUp_55 kr_nk (kr_kx (r_out rfl))
set_option maxRecDepth 20000 in
set_option maxHeartbeats 4000000 in
theorem s_K_stepUp_B54 {S : AS} {x0 : Option Nat} {x2 : Int32} {x3 : Int32} {x4 : Int32} {x5 : Option Nat} {r : ((Int32 ⊕ String) × AS)} (h : f_K_stepUp_B54 S x0 x2 x3 x4 x5 = some r) : kr_AW m_K_stepUp 9 54 [(0, va_rf x0), (2, .int x2), (3, .int x3), (4, .int x4), (5, va_rf x5)] [] S (kr_xI r) := by
  unfold f_K_stepUp_B54 at h
  refine r_iconst (v := (0 : Int32)) (by decide) d_K_stepUp_54 ?_
  exact kr_sub [0, 1, 2, 3, 4] rfl (s_K_stepUp_B55 h)
set_option maxRecDepth 20000 in
set_option maxHeartbeats 4000000 in
theorem s_K_stepUp_B31 {S : AS} {x0 : Option Nat} {x2 : Int32} {x3 : Int32} {x4 : Int32} {x5 : Option Nat} {y0 : Int32} {r : ((Int32 ⊕ String) × AS)} (h : f_K_stepUp_B31 S x0 x2 x3 x4 x5 y0 = some r) : kr_AW m_K_stepUp 9 31 [(0, va_rf x0), (2, .int x2), (3, .int x3), (4, .int x4), (5, va_rf x5)] [.int y0] S (kr_xI r) := by
  unfold f_K_stepUp_B31 at h
  rcases kr_obx h with ⟨z18, S17, eS17, h2⟩ | ⟨E, S17, eS17, h2⟩
  · clear h
    have h := h2
    clear h2
    refine r_callS (M1 := m_K_requireArgument) (As := [.int y0]) (s_K_requireArgument eS17) mok_K_requireArgument rfl w376 w377 (by decide) (kr_c8 kr_c0) d_K_stepUp_31 (kr_k0 ?_) kr_kn
    refine r_aload (i := 5) (x := x5) 4 rfl d_K_stepUp_34 ?_
    have h2 := kr_ob h
    clear h
    obtain ⟨v19, ev19, h⟩ := h2
    refine r_getI ev19 fk118 rfl d_K_stepUp_36 ?_
    refine r_if_eq (tgt := 54) d_K_stepUp_39 rfl (fun c => ?_) (fun c => ?_)
    · replace h := kr_ip c h
      exact kr_sub [0, 1, 2, 3, 4] rfl (s_K_stepUp_B54 h)
    · replace h := kr_in_ c h
      refine r_aload (i := 5) (x := x5) 4 rfl d_K_stepUp_42 ?_
      have h2 := kr_ob h
      clear h
      obtain ⟨v20, ev20, h⟩ := h2
      refine r_getR ev20 fk127 rfl d_K_stepUp_44 ?_
      refine r_ifnonnull (tgt := 54) d_K_stepUp_47 rfl (fun c => ?_) (fun c => ?_)
      · replace h := kr_ip c h
        refine r_iconst (v := (1 : Int32)) (by decide) d_K_stepUp_50 ?_
        refine r_goto (tgt := 55) d_K_stepUp_51 rfl ?_
        exact kr_sub [0, 1, 2, 3, 4] rfl (s_K_stepUp_B55 h)
      · replace h := kr_in_ c h
        exact kr_sub [0, 1, 2, 3, 4] rfl (s_K_stepUp_B54 h)
  · cases h2
    exact r_callS (M1 := m_K_requireArgument) (As := [.int y0]) (s_K_requireArgument eS17) mok_K_requireArgument rfl w376 w377 (by decide) (kr_c8 kr_c0) d_K_stepUp_31 kr_nk (kr_kx (r_out rfl))
set_option maxRecDepth 20000 in
set_option maxHeartbeats 4000000 in
theorem s_K_stepUp_B30 {S : AS} {x0 : Option Nat} {x2 : Int32} {x3 : Int32} {x4 : Int32} {x5 : Option Nat} {r : ((Int32 ⊕ String) × AS)} (h : f_K_stepUp_B30 S x0 x2 x3 x4 x5 = some r) : kr_AW m_K_stepUp 9 30 [(0, va_rf x0), (2, .int x2), (3, .int x3), (4, .int x4), (5, va_rf x5)] [] S (kr_xI r) := by
  unfold f_K_stepUp_B30 at h
  refine r_iconst (v := (0 : Int32)) (by decide) d_K_stepUp_30 ?_
  exact kr_sub [0, 1, 2, 3, 4] rfl (s_K_stepUp_B31 h)
set_option maxRecDepth 20000 in
set_option maxHeartbeats 4000000 in
theorem s_K_stepUp {S : AS} {a0 : Option Nat} {a1 : Int32} {a2 : Int32} {a3 : Int32} {a4 : Int32} {r : ((Int32 ⊕ String) × AS)} (h : f_K_stepUp S a0 a1 a2 a3 a4 = some r) : kr_Con m_K_stepUp 9 [va_rf a0, .int a1, .int a2, .int a3, .int a4] S (kr_xI r) := by
  refine kr_con rfl rfl (by decide +kernel) (by simp [lg_sl, kr_rfcat, kr_icat, m_K_stepUp, mL]) ?_
  rw [show lv_args 0 [va_rf a0, .int a1, .int a2, .int a3, .int a4] = [(0, va_rf a0), (1, .int a1), (2, .int a2), (3, .int a3), (4, .int a4)] from by simp [lv_args, kr_rfcat, kr_icat]]
  unfold f_K_stepUp at h
  refine r_aload_n (i := 0) (x := a0) 0 rfl d_K_stepUp_0 ?_
  refine r_iload_n (i := 1) (x := a1) 1 rfl d_K_stepUp_1 ?_
  have h2 := kr_ob h
  clear h
  obtain ⟨⟨⟩, eu21, h⟩ := h2
  rcases kr_obx h with ⟨v23, S22, eS22, h2⟩ | ⟨E, S22, eS22, h2⟩
  · clear h
    have h := h2
    clear h2
    refine r_callV (M1 := m_K_findSession) (κ := 22) (As := [.int a1]) eu21 (s_K_findSession eS22) mok_K_findSession rfl (by decide) rfl w991 w993 w26 (by decide) (kr_c8 kr_c0) d_K_stepUp_2 (kr_k1 ?_) kr_kn
    refine r_astore (i := 5) (lv' := [(5, va_rf v23), (0, va_rf a0), (1, .int a1), (2, .int a2), (3, .int a3), (4, .int a4)]) (by decide) rfl d_K_stepUp_5 ?_
    refine r_iload_n (i := 2) (x := a2) 3 rfl d_K_stepUp_7 ?_
    have h2 := kr_ob2 h
    clear h
    obtain ⟨v25, S24, eS24, h⟩ := h2
    refine r_callS (M1 := m_K_isFactor) (As := [.int a2]) (s_K_isFactor eS24) mok_K_isFactor rfl w563 w564 (by decide) (kr_c8 kr_c0) d_K_stepUp_8 (kr_k1 ?_) kr_kn
    refine r_if_eq (tgt := 30) d_K_stepUp_11 rfl (fun c => ?_) (fun c => ?_)
    · replace h := kr_ip c h
      exact kr_sub [1, 3, 4, 5, 0] rfl (s_K_stepUp_B30 h)
    · replace h := kr_in_ c h
      refine r_iload (i := 4) (x := a4) 5 rfl d_K_stepUp_14 ?_
      refine r_iconst (v := (0 : Int32)) (by decide) d_K_stepUp_16 ?_
      refine r_sipush (v := (9999 : Int32)) (by decide) d_K_stepUp_17 ?_
      have h2 := kr_ob2 h
      clear h
      obtain ⟨v27, S26, eS26, h⟩ := h2
      refine r_callS (M1 := m_K_isWithin) (As := [.int a4, .int (0 : Int32), .int (9999 : Int32)]) (s_K_isWithin eS26) mok_K_isWithin rfl w373 w374 (by decide) (kr_c8 kr_c0) d_K_stepUp_20 (kr_k1 ?_) kr_kn
      refine r_if_eq (tgt := 30) d_K_stepUp_23 rfl (fun c => ?_) (fun c => ?_)
      · replace h := kr_ip c h
        exact kr_sub [1, 3, 4, 5, 0] rfl (s_K_stepUp_B30 h)
      · replace h := kr_in_ c h
        refine r_iconst (v := (1 : Int32)) (by decide) d_K_stepUp_26 ?_
        refine r_goto (tgt := 31) d_K_stepUp_27 rfl ?_
        exact kr_sub [1, 3, 4, 5, 0] rfl (s_K_stepUp_B31 h)
  · cases h2
    exact r_callV (M1 := m_K_findSession) (κ := 22) (As := [.int a1]) eu21 (s_K_findSession eS22) mok_K_findSession rfl (by decide) rfl w991 w993 w26 (by decide) (kr_c8 kr_c0) d_K_stepUp_2 kr_nk (kr_kx (r_out rfl))
/-! KeyringCourt.signOut(I)I -/
def f_K_signOut (S : AS) (a0 : Option Nat) (a1 : Int32) : Option ((Int32 ⊕ String) × AS) :=
  (kr_rv S 22 a0).bind fun u1 =>
  kr_bx (f_K_findSession S a0 a1) fun v3 S2 =>
  (gI S2 19 6 v3).bind fun v4 =>
  kr_bx (f_K_requireState S2 v4) fun z6 S5 =>
  (gI S5 22 9 a0).bind fun v7 =>
  (kr_rv S5 22 a0).bind fun u8 =>
  kr_bx (f_K_endSession S5 a0 v3) fun z10 S9 =>
  (gI S9 22 9 a0).bind fun v11 =>
  some (.inl (v7 - v11), S9)
set_option maxRecDepth 20000 in
set_option maxHeartbeats 4000000 in
theorem s_K_signOut {S : AS} {a0 : Option Nat} {a1 : Int32} {r : ((Int32 ⊕ String) × AS)} (h : f_K_signOut S a0 a1 = some r) : kr_Con m_K_signOut 11 [va_rf a0, .int a1] S (kr_xI r) := by
  refine kr_con rfl rfl (by decide +kernel) (by simp [lg_sl, kr_rfcat, kr_icat, m_K_signOut, mL]) ?_
  rw [show lv_args 0 [va_rf a0, .int a1] = [(0, va_rf a0), (1, .int a1)] from by simp [lv_args, kr_rfcat, kr_icat]]
  unfold f_K_signOut at h
  refine r_aload_n (i := 0) (x := a0) 0 rfl d_K_signOut_0 ?_
  refine r_iload_n (i := 1) (x := a1) 1 rfl d_K_signOut_1 ?_
  have h2 := kr_ob h
  clear h
  obtain ⟨⟨⟩, eu1, h⟩ := h2
  rcases kr_obx h with ⟨v3, S2, eS2, h2⟩ | ⟨E, S2, eS2, h2⟩
  · clear h
    have h := h2
    clear h2
    refine r_callV (M1 := m_K_findSession) (κ := 22) (As := [.int a1]) eu1 (s_K_findSession eS2) mok_K_findSession rfl (by decide) rfl w991 w993 w26 (by decide) (kr_c8 kr_c0) d_K_signOut_2 (kr_k1 ?_) kr_kn
    refine r_astore_n (i := 2) (lv' := [(2, va_rf v3), (0, va_rf a0), (1, .int a1)]) (by decide) rfl d_K_signOut_5 ?_
    refine r_aload_n (i := 2) (x := v3) 0 rfl d_K_signOut_6 ?_
    have h2 := kr_ob h
    clear h
    obtain ⟨v4, ev4, h⟩ := h2
    refine r_getI ev4 fk118 rfl d_K_signOut_7 ?_
    rcases kr_obx h with ⟨z6, S5, eS5, h2⟩ | ⟨E, S5, eS5, h2⟩
    · clear h
      have h := h2
      clear h2
      refine r_callS (M1 := m_K_requireState) (As := [.int v4]) (s_K_requireState eS5) mok_K_requireState rfl w442 w443 (by decide) (kr_c8 kr_c0) d_K_signOut_10 (kr_k0 ?_) kr_kn
      refine r_aload_n (i := 0) (x := a0) 1 rfl d_K_signOut_13 ?_
      have h2 := kr_ob h
      clear h
      obtain ⟨v7, ev7, h⟩ := h2
      refine r_getI ev7 fk119 rfl d_K_signOut_14 ?_
      refine r_istore_n (i := 3) (lv' := [(3, .int v7), (2, va_rf v3), (0, va_rf a0), (1, .int a1)]) (by decide) (by show kr_st _ 3 _ = _; simp [kr_st, kr_rfcat, kr_icat]) d_K_signOut_17 ?_
      refine r_aload_n (i := 0) (x := a0) 2 rfl d_K_signOut_18 ?_
      refine r_aload_n (i := 2) (x := v3) 1 rfl d_K_signOut_19 ?_
      have h2 := kr_ob h
      clear h
      obtain ⟨⟨⟩, eu8, h⟩ := h2
      rcases kr_obx h with ⟨z10, S9, eS9, h2⟩ | ⟨E, S9, eS9, h2⟩
      · clear h
        have h := h2
        clear h2
        refine r_callV (M1 := m_K_endSession) (κ := 22) (As := [va_rf v3]) eu8 (s_K_endSession eS9) mok_K_endSession rfl (by decide) rfl w508 w510 w4 (by decide) (kr_c8 kr_c0) d_K_signOut_20 (kr_k0 ?_) kr_kn
        refine r_iload_n (i := 3) (x := v7) 0 rfl d_K_signOut_23 ?_
        refine r_aload_n (i := 0) (x := a0) 2 rfl d_K_signOut_24 ?_
        have h2 := kr_ob h
        clear h
        obtain ⟨v11, ev11, h⟩ := h2
        refine r_getI ev11 fk119 rfl d_K_signOut_25 ?_
        refine r_isub d_K_signOut_28 ?_
        cases h
        exact r_iret rfl d_K_signOut_29
      · cases h2
        exact r_callV (M1 := m_K_endSession) (κ := 22) (As := [va_rf v3]) eu8 (s_K_endSession eS9) mok_K_endSession rfl (by decide) rfl w508 w510 w4 (by decide) (kr_c8 kr_c0) d_K_signOut_20 kr_nk (kr_kx (r_out rfl))
    · cases h2
      exact r_callS (M1 := m_K_requireState) (As := [.int v4]) (s_K_requireState eS5) mok_K_requireState rfl w442 w443 (by decide) (kr_c8 kr_c0) d_K_signOut_10 kr_nk (kr_kx (r_out rfl))
  · cases h2
    exact r_callV (M1 := m_K_findSession) (κ := 22) (As := [.int a1]) eu1 (s_K_findSession eS2) mok_K_findSession rfl (by decide) rfl w991 w993 w26 (by decide) (kr_c8 kr_c0) d_K_signOut_2 kr_nk (kr_kx (r_out rfl))
/-! KeyringCourt.helper(I)Z -/
def f_K_helper (S : AS) (a0 : Option Nat) (a1 : Int32) : Option ((Int32 ⊕ String) × AS) :=
  (kr_rv S 22 a0).bind fun u1 =>
  kr_bx (f_K_findPerson S a0 a1) fun v3 S2 =>
  (gI S2 16 10 v3).bind fun v4 =>
  if v4 = 0 then
  (pZ S2 16 10 v3 (1 : Int32)).bind fun S5 =>
  (gI S5 16 10 v3).bind fun v6 =>
  (kr_z v6).bind fun u7 =>
  some (.inl v6, S5)
  else
  (pZ S2 16 10 v3 (0 : Int32)).bind fun S8 =>
  (gI S8 16 10 v3).bind fun v9 =>
  (kr_z v9).bind fun u10 =>
  some (.inl v9, S8)
set_option maxRecDepth 20000 in
set_option maxHeartbeats 4000000 in
theorem s_K_helper {S : AS} {a0 : Option Nat} {a1 : Int32} {r : ((Int32 ⊕ String) × AS)} (h : f_K_helper S a0 a1 = some r) : kr_Con m_K_helper 8 [va_rf a0, .int a1] S (kr_xI r) := by
  refine kr_con rfl rfl (by decide +kernel) (by simp [lg_sl, kr_rfcat, kr_icat, m_K_helper, mL]) ?_
  rw [show lv_args 0 [va_rf a0, .int a1] = [(0, va_rf a0), (1, .int a1)] from by simp [lv_args, kr_rfcat, kr_icat]]
  unfold f_K_helper at h
  refine r_aload_n (i := 0) (x := a0) 0 rfl d_K_helper_0 ?_
  refine r_iload_n (i := 1) (x := a1) 1 rfl d_K_helper_1 ?_
  have h2 := kr_ob h
  clear h
  obtain ⟨⟨⟩, eu1, h⟩ := h2
  rcases kr_obx h with ⟨v3, S2, eS2, h2⟩ | ⟨E, S2, eS2, h2⟩
  · clear h
    have h := h2
    clear h2
    refine r_callV (M1 := m_K_findPerson) (κ := 22) (As := [.int a1]) eu1 (s_K_findPerson eS2) mok_K_findPerson rfl (by decide) rfl w559 w561 w9 (by decide) (kr_c8 kr_c0) d_K_helper_2 (kr_k1 ?_) kr_kn
    refine r_astore_n (i := 2) (lv' := [(2, va_rf v3), (0, va_rf a0), (1, .int a1)]) (by decide) rfl d_K_helper_5 ?_
    refine r_aload_n (i := 2) (x := v3) 0 rfl d_K_helper_6 ?_
    refine r_aload_n (i := 2) (x := v3) 0 rfl d_K_helper_7 ?_
    have h2 := kr_ob h
    clear h
    obtain ⟨v4, ev4, h⟩ := h2
    refine r_getI ev4 fk176 rfl d_K_helper_8 ?_
    refine r_if_ne (tgt := 18) d_K_helper_11 rfl (fun c => ?_) (fun c => ?_)
    · replace h := kr_ip c h
      refine r_iconst (v := (1 : Int32)) (by decide) d_K_helper_14 ?_
      refine r_goto (tgt := 19) d_K_helper_15 rfl ?_
      have h2 := kr_ob h
      clear h
      obtain ⟨S5, eS5, h⟩ := h2
      refine r_putZ eS5 fk176 (Or.inl rfl) rfl d_K_helper_19 ?_
      refine r_aload_n (i := 2) (x := v3) 0 rfl d_K_helper_22 ?_
      have h2 := kr_ob h
      clear h
      obtain ⟨v6, ev6, h⟩ := h2
      refine r_getI ev6 fk176 rfl d_K_helper_23 ?_
      have h2 := kr_ob h
      clear h
      obtain ⟨⟨⟩, eu7, h⟩ := h2
      cases h
      exact r_zret rfl eu7 d_K_helper_26
    · replace h := kr_in_ c h
      refine r_iconst (v := (0 : Int32)) (by decide) d_K_helper_18 ?_
      have h2 := kr_ob h
      clear h
      obtain ⟨S8, eS8, h⟩ := h2
      refine r_putZ eS8 fk176 (Or.inl rfl) rfl d_K_helper_19 ?_
      refine r_aload_n (i := 2) (x := v3) 0 rfl d_K_helper_22 ?_
      have h2 := kr_ob h
      clear h
      obtain ⟨v9, ev9, h⟩ := h2
      refine r_getI ev9 fk176 rfl d_K_helper_23 ?_
      have h2 := kr_ob h
      clear h
      obtain ⟨⟨⟩, eu10, h⟩ := h2
      cases h
      exact r_zret rfl eu10 d_K_helper_26
  · cases h2
    exact r_callV (M1 := m_K_findPerson) (κ := 22) (As := [.int a1]) eu1 (s_K_findPerson eS2) mok_K_findPerson rfl (by decide) rfl w559 w561 w9 (by decide) (kr_c8 kr_c0) d_K_helper_2 kr_nk (kr_kx (r_out rfl))
/-! KeyringCourt.act(II)I -/
def f_K_act_B99 (S : AS) (x0 : Option Nat) (x3 : Option Nat) (x4 : Option Nat) (y0 : Int32) : Option ((Int32 ⊕ String) × AS) :=
  kr_bx (f_K_requireState S y0) fun z2 S1 =>
  (gR S1 19 3 x3).bind fun v3 =>
  (kr_rv S1 22 x0).bind fun u4 =>
  kr_b2 (f_K_beginSession S1 x0 x4 x3 v3) fun v6 S5 =>
  some (.inl v6, S5)
def f_K_act_B79 (S : AS) (x0 : Option Nat) (x3 : Option Nat) (x4 : Option Nat) (y0 : Int32) : Option ((Int32 ⊕ String) × AS) :=
  kr_bx (f_K_requireState S y0) fun z8 S7 =>
  (gR S7 22 8 x0).bind fun v9 =>
  (kr_rv S7 10 v9).bind fun u10 =>
  kr_b2 (f_AL_size S7 v9) fun v12 S11 =>
  if (60 : Int32) ≤ v12 then
  f_K_act_B99 S11 x0 x3 x4 (0 : Int32)
  else
  f_K_act_B99 S11 x0 x3 x4 (1 : Int32)
def f_K_act_B78 (S : AS) (x0 : Option Nat) (x3 : Option Nat) (x4 : Option Nat) : Option ((Int32 ⊕ String) × AS) :=
  f_K_act_B79 S x0 x3 x4 (0 : Int32)
def f_K_act_B44 (S : AS) (x0 : Option Nat) (x3 : Option Nat) (x4 : Option Nat) (y0 : Int32) : Option ((Int32 ⊕ String) × AS) :=
  kr_bx (f_K_requireState S y0) fun z14 S13 =>
  (gR S13 19 1 x3).bind fun v15 =>
  (gI S13 16 10 v15).bind fun v16 =>
  if v16 = 0 then
  f_K_act_B78 S13 x0 x3 x4
  else
  (gR S13 19 1 x3).bind fun v17 =>
  (kr_ac S13 v17).bind fun u18 =>
  (kr_ac S13 x4).bind fun u19 =>
  if v17 = x4 then
  f_K_act_B78 S13 x0 x3 x4
  else
  (gI S13 16 11 x4).bind fun v20 =>
  if v20 = 0 then
  f_K_act_B79 S13 x0 x3 x4 (1 : Int32)
  else
  f_K_act_B78 S13 x0 x3 x4
def f_K_act_B43 (S : AS) (x0 : Option Nat) (x3 : Option Nat) (x4 : Option Nat) : Option ((Int32 ⊕ String) × AS) :=
  f_K_act_B44 S x0 x3 x4 (0 : Int32)
def f_K_act (S : AS) (a0 : Option Nat) (a1 : Int32) (a2 : Int32) : Option ((Int32 ⊕ String) × AS) :=
  (kr_rv S 22 a0).bind fun u21 =>
  kr_bx (f_K_findSession S a0 a1) fun v23 S22 =>
  (kr_rv S22 22 a0).bind fun u24 =>
  kr_bx (f_K_findPerson S22 a0 a2) fun v26 S25 =>
  (gI S25 19 6 v23).bind fun v27 =>
  if v27 = 0 then
  f_K_act_B43 S25 a0 v23 v26
  else
  (gR S25 19 2 v23).bind fun v28 =>
  if v28 = none then
  (gI S25 22 0 a0).bind fun v29 =>
  (kr_rv S25 19 v23).bind fun u30 =>
  kr_b2 (f_Session_levelAt S25 v23 v29) fun v32 S31 =>
  if v32 < (3 : Int32) then
  f_K_act_B43 S31 a0 v23 v26
  else
  f_K_act_B44 S31 a0 v23 v26 (1 : Int32)
  else
  f_K_act_B43 S25 a0 v23 v26
set_option maxRecDepth 20000 in
set_option maxHeartbeats 4000000 in
theorem s_K_act_B99 {S : AS} {x0 : Option Nat} {x3 : Option Nat} {x4 : Option Nat} {y0 : Int32} {r : ((Int32 ⊕ String) × AS)} (h : f_K_act_B99 S x0 x3 x4 y0 = some r) : kr_AW m_K_act 9 99 [(0, va_rf x0), (3, va_rf x3), (4, va_rf x4)] [.int y0] S (kr_xI r) := by
  unfold f_K_act_B99 at h
  rcases kr_obx h with ⟨z2, S1, eS1, h2⟩ | ⟨E, S1, eS1, h2⟩
  · clear h
    have h := h2
    clear h2
    refine r_callS (M1 := m_K_requireState) (As := [.int y0]) (s_K_requireState eS1) mok_K_requireState rfl w442 w443 (by decide) (kr_c8 kr_c0) d_K_act_99 (kr_k0 ?_) kr_kn
    refine r_aload_n (i := 0) (x := x0) 0 rfl d_K_act_102 ?_
    refine r_aload (i := 4) (x := x4) 2 rfl d_K_act_103 ?_
    refine r_aload_n (i := 3) (x := x3) 1 rfl d_K_act_105 ?_
    refine r_aload_n (i := 3) (x := x3) 1 rfl d_K_act_106 ?_
    have h2 := kr_ob h
    clear h
    obtain ⟨v3, ev3, h⟩ := h2
    refine r_getR ev3 fk175 rfl d_K_act_107 ?_
    have h2 := kr_ob h
    clear h
    obtain ⟨⟨⟩, eu4, h⟩ := h2
    have h2 := kr_ob2 h
    clear h
    obtain ⟨v6, S5, eS5, h⟩ := h2
    refine r_callV (M1 := m_K_beginSession) (κ := 22) (As := [va_rf x4, va_rf x3, va_rf v3]) eu4 (s_K_beginSession eS5) mok_K_beginSession rfl (by decide) rfl w869 w871 w22 (by decide) (kr_c8 kr_c0) d_K_act_110 (kr_k1 ?_) kr_kn
    cases h
    exact r_iret rfl d_K_act_113
  · cases h2
    exact r_callS (M1 := m_K_requireState) (As := [.int y0]) (s_K_requireState eS1) mok_K_requireState rfl w442 w443 (by decide) (kr_c8 kr_c0) d_K_act_99 kr_nk (kr_kx (r_out rfl))
set_option maxRecDepth 20000 in
set_option maxHeartbeats 4000000 in
theorem s_K_act_B79 {S : AS} {x0 : Option Nat} {x3 : Option Nat} {x4 : Option Nat} {y0 : Int32} {r : ((Int32 ⊕ String) × AS)} (h : f_K_act_B79 S x0 x3 x4 y0 = some r) : kr_AW m_K_act 9 79 [(0, va_rf x0), (3, va_rf x3), (4, va_rf x4)] [.int y0] S (kr_xI r) := by
  unfold f_K_act_B79 at h
  rcases kr_obx h with ⟨z8, S7, eS7, h2⟩ | ⟨E, S7, eS7, h2⟩
  · clear h
    have h := h2
    clear h2
    refine r_callS (M1 := m_K_requireState) (As := [.int y0]) (s_K_requireState eS7) mok_K_requireState rfl w442 w443 (by decide) (kr_c8 kr_c0) d_K_act_79 (kr_k0 ?_) kr_kn
    refine r_aload_n (i := 0) (x := x0) 0 rfl d_K_act_82 ?_
    have h2 := kr_ob h
    clear h
    obtain ⟨v9, ev9, h⟩ := h2
    refine r_getR ev9 fk31 rfl d_K_act_83 ?_
    have h2 := kr_ob h
    clear h
    obtain ⟨⟨⟩, eu10, h⟩ := h2
    have h2 := kr_ob2 h
    clear h
    obtain ⟨v12, S11, eS11, h⟩ := h2
    refine r_callV (M1 := m_AL_size) (κ := 10) (As := []) eu10 (s_AL_size eS11) mok_AL_size rfl (by decide) rfl w348 w349 w350 (by decide) (kr_c8 kr_c0) d_K_act_86 (kr_k1 ?_) kr_kn
    refine r_bipush (v := (60 : Int32)) (by decide) d_K_act_89 ?_
    refine r_icmp_ge (tgt := 98) d_K_act_91 rfl (fun c => ?_) (fun c => ?_)
    · replace h := kr_ip c h
      refine r_iconst (v := (0 : Int32)) (by decide) d_K_act_98 ?_
      exact kr_sub [0, 1, 2] rfl (s_K_act_B99 h)
    · replace h := kr_in_ c h
      refine r_iconst (v := (1 : Int32)) (by decide) d_K_act_94 ?_
      refine r_goto (tgt := 99) d_K_act_95 rfl ?_
      exact kr_sub [0, 1, 2] rfl (s_K_act_B99 h)
  · cases h2
    exact r_callS (M1 := m_K_requireState) (As := [.int y0]) (s_K_requireState eS7) mok_K_requireState rfl w442 w443 (by decide) (kr_c8 kr_c0) d_K_act_79 kr_nk (kr_kx (r_out rfl))
set_option maxRecDepth 20000 in
set_option maxHeartbeats 4000000 in
theorem s_K_act_B78 {S : AS} {x0 : Option Nat} {x3 : Option Nat} {x4 : Option Nat} {r : ((Int32 ⊕ String) × AS)} (h : f_K_act_B78 S x0 x3 x4 = some r) : kr_AW m_K_act 9 78 [(0, va_rf x0), (3, va_rf x3), (4, va_rf x4)] [] S (kr_xI r) := by
  unfold f_K_act_B78 at h
  refine r_iconst (v := (0 : Int32)) (by decide) d_K_act_78 ?_
  exact kr_sub [0, 1, 2] rfl (s_K_act_B79 h)
set_option maxRecDepth 20000 in
set_option maxHeartbeats 4000000 in
theorem s_K_act_B44 {S : AS} {x0 : Option Nat} {x3 : Option Nat} {x4 : Option Nat} {y0 : Int32} {r : ((Int32 ⊕ String) × AS)} (h : f_K_act_B44 S x0 x3 x4 y0 = some r) : kr_AW m_K_act 9 44 [(0, va_rf x0), (3, va_rf x3), (4, va_rf x4)] [.int y0] S (kr_xI r) := by
  unfold f_K_act_B44 at h
  rcases kr_obx h with ⟨z14, S13, eS13, h2⟩ | ⟨E, S13, eS13, h2⟩
  · clear h
    have h := h2
    clear h2
    refine r_callS (M1 := m_K_requireState) (As := [.int y0]) (s_K_requireState eS13) mok_K_requireState rfl w442 w443 (by decide) (kr_c8 kr_c0) d_K_act_44 (kr_k0 ?_) kr_kn
    refine r_aload_n (i := 3) (x := x3) 1 rfl d_K_act_47 ?_
    have h2 := kr_ob h
    clear h
    obtain ⟨v15, ev15, h⟩ := h2
    refine r_getR ev15 fk174 rfl d_K_act_48 ?_
    have h2 := kr_ob h
    clear h
    obtain ⟨v16, ev16, h⟩ := h2
    refine r_getI ev16 fk176 rfl d_K_act_51 ?_
    refine r_if_eq (tgt := 78) d_K_act_54 rfl (fun c => ?_) (fun c => ?_)
    · replace h := kr_ip c h
      exact kr_sub [0, 1, 2] rfl (s_K_act_B78 h)
    · replace h := kr_in_ c h
      refine r_aload_n (i := 3) (x := x3) 1 rfl d_K_act_57 ?_
      have h2 := kr_ob h
      clear h
      obtain ⟨v17, ev17, h⟩ := h2
      refine r_getR ev17 fk174 rfl d_K_act_58 ?_
      refine r_aload (i := 4) (x := x4) 2 rfl d_K_act_61 ?_
      have h2 := kr_ob h
      clear h
      obtain ⟨⟨⟩, eu18, h⟩ := h2
      have h2 := kr_ob h
      clear h
      obtain ⟨⟨⟩, eu19, h⟩ := h2
      refine r_acmp_eq (tgt := 78) eu18 eu19 d_K_act_63 rfl (fun c => ?_) (fun c => ?_)
      · replace h := kr_ip c h
        exact kr_sub [0, 1, 2] rfl (s_K_act_B78 h)
      · replace h := kr_in_ c h
        refine r_aload (i := 4) (x := x4) 2 rfl d_K_act_66 ?_
        have h2 := kr_ob h
        clear h
        obtain ⟨v20, ev20, h⟩ := h2
        refine r_getI ev20 fk167 rfl d_K_act_68 ?_
        refine r_if_ne (tgt := 78) d_K_act_71 rfl (fun c => ?_) (fun c => ?_)
        · replace h := kr_ip c h
          refine r_iconst (v := (1 : Int32)) (by decide) d_K_act_74 ?_
          refine r_goto (tgt := 79) d_K_act_75 rfl ?_
          exact kr_sub [0, 1, 2] rfl (s_K_act_B79 h)
        · replace h := kr_in_ c h
          exact kr_sub [0, 1, 2] rfl (s_K_act_B78 h)
  · cases h2
    exact r_callS (M1 := m_K_requireState) (As := [.int y0]) (s_K_requireState eS13) mok_K_requireState rfl w442 w443 (by decide) (kr_c8 kr_c0) d_K_act_44 kr_nk (kr_kx (r_out rfl))
set_option maxRecDepth 20000 in
set_option maxHeartbeats 4000000 in
theorem s_K_act_B43 {S : AS} {x0 : Option Nat} {x3 : Option Nat} {x4 : Option Nat} {r : ((Int32 ⊕ String) × AS)} (h : f_K_act_B43 S x0 x3 x4 = some r) : kr_AW m_K_act 9 43 [(0, va_rf x0), (3, va_rf x3), (4, va_rf x4)] [] S (kr_xI r) := by
  unfold f_K_act_B43 at h
  refine r_iconst (v := (0 : Int32)) (by decide) d_K_act_43 ?_
  exact kr_sub [0, 1, 2] rfl (s_K_act_B44 h)
set_option maxRecDepth 20000 in
set_option maxHeartbeats 4000000 in
theorem s_K_act {S : AS} {a0 : Option Nat} {a1 : Int32} {a2 : Int32} {r : ((Int32 ⊕ String) × AS)} (h : f_K_act S a0 a1 a2 = some r) : kr_Con m_K_act 9 [va_rf a0, .int a1, .int a2] S (kr_xI r) := by
  refine kr_con rfl rfl (by decide +kernel) (by simp [lg_sl, kr_rfcat, kr_icat, m_K_act, mL]) ?_
  rw [show lv_args 0 [va_rf a0, .int a1, .int a2] = [(0, va_rf a0), (1, .int a1), (2, .int a2)] from by simp [lv_args, kr_rfcat, kr_icat]]
  unfold f_K_act at h
  refine r_aload_n (i := 0) (x := a0) 0 rfl d_K_act_0 ?_
  refine r_iload_n (i := 1) (x := a1) 1 rfl d_K_act_1 ?_
  have h2 := kr_ob h
  clear h
  obtain ⟨⟨⟩, eu21, h⟩ := h2
  rcases kr_obx h with ⟨v23, S22, eS22, h2⟩ | ⟨E, S22, eS22, h2⟩
  · clear h
    have h := h2
    clear h2
    refine r_callV (M1 := m_K_findSession) (κ := 22) (As := [.int a1]) eu21 (s_K_findSession eS22) mok_K_findSession rfl (by decide) rfl w991 w993 w26 (by decide) (kr_c8 kr_c0) d_K_act_2 (kr_k1 ?_) kr_kn
    refine r_astore_n (i := 3) (lv' := [(3, va_rf v23), (0, va_rf a0), (1, .int a1), (2, .int a2)]) (by decide) rfl d_K_act_5 ?_
    refine r_aload_n (i := 0) (x := a0) 1 rfl d_K_act_6 ?_
    refine r_iload_n (i := 2) (x := a2) 3 rfl d_K_act_7 ?_
    have h2 := kr_ob h
    clear h
    obtain ⟨⟨⟩, eu24, h⟩ := h2
    rcases kr_obx h with ⟨v26, S25, eS25, h2⟩ | ⟨E, S25, eS25, h2⟩
    · clear h
      have h := h2
      clear h2
      refine r_callV (M1 := m_K_findPerson) (κ := 22) (As := [.int a2]) eu24 (s_K_findPerson eS25) mok_K_findPerson rfl (by decide) rfl w559 w561 w9 (by decide) (kr_c8 kr_c0) d_K_act_8 (kr_k1 ?_) kr_kn
      refine r_astore (i := 4) (lv' := [(4, va_rf v26), (3, va_rf v23), (0, va_rf a0), (1, .int a1), (2, .int a2)]) (by decide) (by show kr_st _ 4 _ = _; simp [kr_st, kr_rfcat, kr_icat]) d_K_act_11 ?_
      refine r_aload_n (i := 3) (x := v23) 1 rfl d_K_act_13 ?_
      have h2 := kr_ob h
      clear h
      obtain ⟨v27, ev27, h⟩ := h2
      refine r_getI ev27 fk118 rfl d_K_act_14 ?_
      refine r_if_eq (tgt := 43) d_K_act_17 rfl (fun c => ?_) (fun c => ?_)
      · replace h := kr_ip c h
        exact kr_sub [2, 1, 0] rfl (s_K_act_B43 h)
      · replace h := kr_in_ c h
        refine r_aload_n (i := 3) (x := v23) 1 rfl d_K_act_20 ?_
        have h2 := kr_ob h
        clear h
        obtain ⟨v28, ev28, h⟩ := h2
        refine r_getR ev28 fk127 rfl d_K_act_21 ?_
        refine r_ifnonnull (tgt := 43) d_K_act_24 rfl (fun c => ?_) (fun c => ?_)
        · replace h := kr_ip c h
          refine r_aload_n (i := 3) (x := v23) 1 rfl d_K_act_27 ?_
          refine r_aload_n (i := 0) (x := a0) 2 rfl d_K_act_28 ?_
          have h2 := kr_ob h
          clear h
          obtain ⟨v29, ev29, h⟩ := h2
          refine r_getI ev29 fk113 rfl d_K_act_29 ?_
          have h2 := kr_ob h
          clear h
          obtain ⟨⟨⟩, eu30, h⟩ := h2
          have h2 := kr_ob2 h
          clear h
          obtain ⟨v32, S31, eS31, h⟩ := h2
          refine r_callV (M1 := m_Session_levelAt) (κ := 19) (As := [.int v29]) eu30 (s_Session_levelAt eS31) mok_Session_levelAt rfl (by decide) rfl w1017 w1018 w1019 (by decide) (kr_c8 kr_c0) d_K_act_32 (kr_k1 ?_) kr_kn
          refine r_iconst (v := (3 : Int32)) (by decide) d_K_act_35 ?_
          refine r_icmp_lt (tgt := 43) d_K_act_36 rfl (fun c => ?_) (fun c => ?_)
          · replace h := kr_ip c h
            exact kr_sub [2, 1, 0] rfl (s_K_act_B43 h)
          · replace h := kr_in_ c h
            refine r_iconst (v := (1 : Int32)) (by decide) d_K_act_39 ?_
            refine r_goto (tgt := 44) d_K_act_40 rfl ?_
            exact kr_sub [2, 1, 0] rfl (s_K_act_B44 h)
        · replace h := kr_in_ c h
          exact kr_sub [2, 1, 0] rfl (s_K_act_B43 h)
    · cases h2
      exact r_callV (M1 := m_K_findPerson) (κ := 22) (As := [.int a2]) eu24 (s_K_findPerson eS25) mok_K_findPerson rfl (by decide) rfl w559 w561 w9 (by decide) (kr_c8 kr_c0) d_K_act_8 kr_nk (kr_kx (r_out rfl))
  · cases h2
    exact r_callV (M1 := m_K_findSession) (κ := 22) (As := [.int a1]) eu21 (s_K_findSession eS22) mok_K_findSession rfl (by decide) rfl w991 w993 w26 (by decide) (kr_c8 kr_c0) d_K_act_2 kr_nk (kr_kx (r_out rfl))
/-! KeyringCourt.consent(III)I -/
def f_K_consent_B20 (S : AS) (x2 : Int32) (x3 : Int32) (y0 : Option Nat) : Option ((Int32 ⊕ String) × AS) :=
  (aN S y0).bind fun v1 =>
  kr_bx (f_K_requireIndex S x2 v1) fun z3 S2 =>
  kr_b2 (f_K_isWithin S2 x3 (0 : Int32) (15 : Int32)) fun v5 S4 =>
  kr_bx (f_K_requireArgument S4 v5) fun z7 S6 =>
  (aI S6 40 y0 x2).bind fun v8 =>
  (bI S6 y0 x2 (v8 ||| x3)).bind fun S9 =>
  (aI S9 40 y0 x2).bind fun v10 =>
  some (.inl v10, S9)
def f_K_consent (S : AS) (a0 : Option Nat) (a1 : Int32) (a2 : Int32) (a3 : Int32) : Option ((Int32 ⊕ String) × AS) :=
  if a1 = (-1 : Int32) then
  (gR S 22 10 a0).bind fun v11 =>
  f_K_consent_B20 S a2 a3 v11
  else
  (kr_rv S 22 a0).bind fun u12 =>
  kr_bx (f_K_findPerson S a0 a1) fun v14 S13 =>
  (gR S13 16 9 v14).bind fun v15 =>
  f_K_consent_B20 S13 a2 a3 v15
set_option maxRecDepth 20000 in
set_option maxHeartbeats 4000000 in
theorem s_K_consent_B20 {S : AS} {x2 : Int32} {x3 : Int32} {y0 : Option Nat} {r : ((Int32 ⊕ String) × AS)} (h : f_K_consent_B20 S x2 x3 y0 = some r) : kr_AW m_K_consent 8 20 [(2, .int x2), (3, .int x3)] [va_rf y0] S (kr_xI r) := by
  unfold f_K_consent_B20 at h
  refine r_astore (i := 4) (lv' := [(4, va_rf y0), (2, .int x2), (3, .int x3)]) (by decide) rfl d_K_consent_20 ?_
  refine r_iload_n (i := 2) (x := x2) 1 rfl d_K_consent_22 ?_
  refine r_aload (i := 4) (x := y0) 0 rfl d_K_consent_23 ?_
  have h2 := kr_ob h
  clear h
  obtain ⟨v1, ev1, h⟩ := h2
  refine r_alen ev1 d_K_consent_25 ?_
  rcases kr_obx h with ⟨z3, S2, eS2, h2⟩ | ⟨E, S2, eS2, h2⟩
  · clear h
    have h := h2
    clear h2
    refine r_callS (M1 := m_K_requireIndex) (As := [.int x2, .int v1]) (s_K_requireIndex eS2) mok_K_requireIndex rfl w713 w714 (by decide) (kr_c8 kr_c0) d_K_consent_26 (kr_k0 ?_) kr_kn
    refine r_iload_n (i := 3) (x := x3) 2 rfl d_K_consent_29 ?_
    refine r_iconst (v := (0 : Int32)) (by decide) d_K_consent_30 ?_
    refine r_bipush (v := (15 : Int32)) (by decide) d_K_consent_31 ?_
    have h2 := kr_ob2 h
    clear h
    obtain ⟨v5, S4, eS4, h⟩ := h2
    refine r_callS (M1 := m_K_isWithin) (As := [.int x3, .int (0 : Int32), .int (15 : Int32)]) (s_K_isWithin eS4) mok_K_isWithin rfl w373 w374 (by decide) (kr_c8 kr_c0) d_K_consent_33 (kr_k1 ?_) kr_kn
    rcases kr_obx h with ⟨z7, S6, eS6, h2⟩ | ⟨E, S6, eS6, h2⟩
    · clear h
      have h := h2
      clear h2
      refine r_callS (M1 := m_K_requireArgument) (As := [.int v5]) (s_K_requireArgument eS6) mok_K_requireArgument rfl w376 w377 (by decide) (kr_c8 kr_c0) d_K_consent_36 (kr_k0 ?_) kr_kn
      refine r_aload (i := 4) (x := y0) 0 rfl d_K_consent_39 ?_
      refine r_iload_n (i := 2) (x := x2) 1 rfl d_K_consent_41 ?_
      refine r_dup2 rfl (kr_rfcat _) d_K_consent_42 ?_
      have h2 := kr_ob h
      clear h
      obtain ⟨v8, ev8, h⟩ := h2
      refine r_iaload ev8 d_K_consent_43 ?_
      refine r_iload_n (i := 3) (x := x3) 2 rfl d_K_consent_44 ?_
      refine r_ior d_K_consent_45 ?_
      have h2 := kr_ob h
      clear h
      obtain ⟨S9, eS9, h⟩ := h2
      refine r_iastore eS9 d_K_consent_46 ?_
      refine r_aload (i := 4) (x := y0) 0 rfl d_K_consent_47 ?_
      refine r_iload_n (i := 2) (x := x2) 1 rfl d_K_consent_49 ?_
      have h2 := kr_ob h
      clear h
      obtain ⟨v10, ev10, h⟩ := h2
      refine r_iaload ev10 d_K_consent_50 ?_
      cases h
      exact r_iret rfl d_K_consent_51
    · cases h2
      exact r_callS (M1 := m_K_requireArgument) (As := [.int v5]) (s_K_requireArgument eS6) mok_K_requireArgument rfl w376 w377 (by decide) (kr_c8 kr_c0) d_K_consent_36 kr_nk (kr_kx (r_out rfl))
  · cases h2
    exact r_callS (M1 := m_K_requireIndex) (As := [.int x2, .int v1]) (s_K_requireIndex eS2) mok_K_requireIndex rfl w713 w714 (by decide) (kr_c8 kr_c0) d_K_consent_26 kr_nk (kr_kx (r_out rfl))
set_option maxRecDepth 20000 in
set_option maxHeartbeats 4000000 in
theorem s_K_consent {S : AS} {a0 : Option Nat} {a1 : Int32} {a2 : Int32} {a3 : Int32} {r : ((Int32 ⊕ String) × AS)} (h : f_K_consent S a0 a1 a2 a3 = some r) : kr_Con m_K_consent 8 [va_rf a0, .int a1, .int a2, .int a3] S (kr_xI r) := by
  refine kr_con rfl rfl (by decide +kernel) (by simp [lg_sl, kr_rfcat, kr_icat, m_K_consent, mL]) ?_
  rw [show lv_args 0 [va_rf a0, .int a1, .int a2, .int a3] = [(0, va_rf a0), (1, .int a1), (2, .int a2), (3, .int a3)] from by simp [lv_args, kr_rfcat, kr_icat]]
  unfold f_K_consent at h
  refine r_iload_n (i := 1) (x := a1) 1 rfl d_K_consent_0 ?_
  refine r_iconst (v := (-1 : Int32)) (by decide) d_K_consent_1 ?_
  refine r_icmp_ne (tgt := 12) d_K_consent_2 rfl (fun c => ?_) (fun c => ?_)
  · replace h := kr_ip c h
    refine r_aload_n (i := 0) (x := a0) 0 rfl d_K_consent_5 ?_
    have h2 := kr_ob h
    clear h
    obtain ⟨v11, ev11, h⟩ := h2
    refine r_getR ev11 fk32 rfl d_K_consent_6 ?_
    refine r_goto (tgt := 20) d_K_consent_9 rfl ?_
    exact kr_sub [2, 3] rfl (s_K_consent_B20 h)
  · replace h := kr_in_ c h
    refine r_aload_n (i := 0) (x := a0) 0 rfl d_K_consent_12 ?_
    refine r_iload_n (i := 1) (x := a1) 1 rfl d_K_consent_13 ?_
    have h2 := kr_ob h
    clear h
    obtain ⟨⟨⟩, eu12, h⟩ := h2
    rcases kr_obx h with ⟨v14, S13, eS13, h2⟩ | ⟨E, S13, eS13, h2⟩
    · clear h
      have h := h2
      clear h2
      refine r_callV (M1 := m_K_findPerson) (κ := 22) (As := [.int a1]) eu12 (s_K_findPerson eS13) mok_K_findPerson rfl (by decide) rfl w559 w561 w9 (by decide) (kr_c8 kr_c0) d_K_consent_14 (kr_k1 ?_) kr_kn
      have h2 := kr_ob h
      clear h
      obtain ⟨v15, ev15, h⟩ := h2
      refine r_getR ev15 fk177 rfl d_K_consent_17 ?_
      exact kr_sub [2, 3] rfl (s_K_consent_B20 h)
    · cases h2
      exact r_callV (M1 := m_K_findPerson) (κ := 22) (As := [.int a1]) eu12 (s_K_findPerson eS13) mok_K_findPerson rfl (by decide) rfl w559 w561 w9 (by decide) (kr_c8 kr_c0) d_K_consent_14 kr_nk (kr_kx (r_out rfl))
/-! KeyringCourt.withdraw(II)I -/
def f_K_withdraw_B92 (k28 : AS → Option Nat → Int32 → Option Nat → Int32 → Int32 → Option ((Int32 ⊕ String) × AS)) (S : AS) (x0 : Option Nat) (x2 : Int32) (x3 : Option Nat) (x4 : Int32) (x5 : Int32) : Option ((Int32 ⊕ String) × AS) :=
  (some (x5 + (1 : Int32))).bind fun i1 =>
  k28 S x0 x2 x3 x4 i1
def f_K_withdraw_C28 (k28 : AS → Option Nat → Int32 → Option Nat → Int32 → Int32 → Option ((Int32 ⊕ String) × AS)) (S : AS) (x0 : Option Nat) (x2 : Int32) (x3 : Option Nat) (x4 : Int32) (x5 : Int32) : Option ((Int32 ⊕ String) × AS) :=
  (gR S 22 13 x0).bind fun v2 =>
  (kr_rv S 10 v2).bind fun u3 =>
  kr_b2 (f_AL_size S v2) fun v5 S4 =>
  if v5 ≤ x5 then
  some (.inl x4, S4)
  else
  (gR S4 22 13 x0).bind fun v6 =>
  (kr_rv S4 10 v6).bind fun u7 =>
  kr_b2 (f_AL_get S4 v6 x5) fun v9 S8 =>
  (kr_cc S8 14 v9).bind fun u10 =>
  (gI S8 14 6 v9).bind fun v11 =>
  if v11 = 0 then
  f_K_withdraw_B92 k28 S8 x0 x2 x3 x4 x5
  else
  (gR S8 14 0 v9).bind fun v12 =>
  (gR S8 19 1 v12).bind fun v13 =>
  (kr_ac S8 v13).bind fun u14 =>
  (kr_ac S8 x3).bind fun u15 =>
  if v13 = x3 then
  (gI S8 14 1 v9).bind fun v16 =>
  if v16 = x2 then
  (kr_rv S8 22 x0).bind fun u17 =>
  kr_bx (f_K_endFamily S8 x0 v9) fun z19 S18 =>
  (some (x4 + (1 : Int32))).bind fun i20 =>
  f_K_withdraw_B92 k28 S18 x0 x2 x3 i20 x5
  else
  f_K_withdraw_B92 k28 S8 x0 x2 x3 x4 x5
  else
  f_K_withdraw_B92 k28 S8 x0 x2 x3 x4 x5
def f_K_withdraw_L28 : Nat → AS → Option Nat → Int32 → Option Nat → Int32 → Int32 → Option ((Int32 ⊕ String) × AS)
  | 0, S, x0, x2, x3, x4, x5 => none
  | n + 1, S, x0, x2, x3, x4, x5 => f_K_withdraw_C28 (f_K_withdraw_L28 n) S x0 x2 x3 x4 x5
def f_K_withdraw (S : AS) (a0 : Option Nat) (a1 : Int32) (a2 : Int32) : Option ((Int32 ⊕ String) × AS) :=
  (kr_rv S 22 a0).bind fun u21 =>
  kr_bx (f_K_findPerson S a0 a1) fun v23 S22 =>
  (gR S22 16 9 v23).bind fun v24 =>
  (aN S22 v24).bind fun v25 =>
  kr_bx (f_K_requireIndex S22 a2 v25) fun z27 S26 =>
  (gR S26 16 9 v23).bind fun v28 =>
  (bI S26 v28 a2 (0 : Int32)).bind fun S29 =>
  f_K_withdraw_L28 kr_FU S29 a0 a2 v23 (0 : Int32) (0 : Int32)
set_option maxRecDepth 20000 in
set_option maxHeartbeats 4000000 in
theorem s_K_withdraw_B92 {k28 : AS → Option Nat → Int32 → Option Nat → Int32 → Int32 → Option ((Int32 ⊕ String) × AS)} (hk28 : ∀ {S : AS} {x0 : Option Nat} {x2 : Int32} {x3 : Option Nat} {x4 : Int32} {x5 : Int32} {r : ((Int32 ⊕ String) × AS)}, k28 S x0 x2 x3 x4 x5 = some r → kr_AW m_K_withdraw 9 28 [(0, va_rf x0), (2, .int x2), (3, va_rf x3), (4, .int x4), (5, .int x5)] [] S (kr_xI r)) {S : AS} {x0 : Option Nat} {x2 : Int32} {x3 : Option Nat} {x4 : Int32} {x5 : Int32} {r : ((Int32 ⊕ String) × AS)} (h : f_K_withdraw_B92 k28 S x0 x2 x3 x4 x5 = some r) : kr_AW m_K_withdraw 9 92 [(0, va_rf x0), (2, .int x2), (3, va_rf x3), (4, .int x4), (5, .int x5)] [] S (kr_xI r) := by
  unfold f_K_withdraw_B92 at h
  have h2 := kr_ob h
  clear h
  obtain ⟨i1, ei1, h⟩ := h2
  refine r_iinc (v := i1) (lv' := [(5, .int i1), (0, va_rf x0), (2, .int x2), (3, va_rf x3), (4, .int x4)]) 4 rfl (kr_inc (by decide) ei1) (by decide) rfl d_K_withdraw_92 ?_
  refine r_goto (tgt := 28) d_K_withdraw_95 rfl ?_
  exact kr_sub [1, 2, 3, 4, 0] rfl (hk28 h)
set_option maxRecDepth 20000 in
set_option maxHeartbeats 4000000 in
theorem s_K_withdraw_C28 {k28 : AS → Option Nat → Int32 → Option Nat → Int32 → Int32 → Option ((Int32 ⊕ String) × AS)} (hk28 : ∀ {S : AS} {x0 : Option Nat} {x2 : Int32} {x3 : Option Nat} {x4 : Int32} {x5 : Int32} {r : ((Int32 ⊕ String) × AS)}, k28 S x0 x2 x3 x4 x5 = some r → kr_AW m_K_withdraw 9 28 [(0, va_rf x0), (2, .int x2), (3, va_rf x3), (4, .int x4), (5, .int x5)] [] S (kr_xI r)) {S : AS} {x0 : Option Nat} {x2 : Int32} {x3 : Option Nat} {x4 : Int32} {x5 : Int32} {r : ((Int32 ⊕ String) × AS)} (h : f_K_withdraw_C28 k28 S x0 x2 x3 x4 x5 = some r) : kr_AW m_K_withdraw 9 28 [(0, va_rf x0), (2, .int x2), (3, va_rf x3), (4, .int x4), (5, .int x5)] [] S (kr_xI r) := by
  unfold f_K_withdraw_C28 at h
  refine r_iload (i := 5) (x := x5) 4 rfl d_K_withdraw_28 ?_
  refine r_aload_n (i := 0) (x := x0) 0 rfl d_K_withdraw_30 ?_
  have h2 := kr_ob h
  clear h
  obtain ⟨v2, ev2, h⟩ := h2
  refine r_getR ev2 fk34 rfl d_K_withdraw_31 ?_
  have h2 := kr_ob h
  clear h
  obtain ⟨⟨⟩, eu3, h⟩ := h2
  have h2 := kr_ob2 h
  clear h
  obtain ⟨v5, S4, eS4, h⟩ := h2
  refine r_callV (M1 := m_AL_size) (κ := 10) (As := []) eu3 (s_AL_size eS4) mok_AL_size rfl (by decide) rfl w348 w349 w350 (by decide) (kr_c8 (kr_cI kr_c0)) d_K_withdraw_34 (kr_k1 ?_) kr_kn
  refine r_icmp_ge (tgt := 98) d_K_withdraw_37 rfl (fun c => ?_) (fun c => ?_)
  · replace h := kr_ip c h
    refine r_iload (i := 4) (x := x4) 3 rfl d_K_withdraw_98 ?_
    cases h
    exact r_iret rfl d_K_withdraw_100
  · replace h := kr_in_ c h
    refine r_aload_n (i := 0) (x := x0) 0 rfl d_K_withdraw_40 ?_
    have h2 := kr_ob h
    clear h
    obtain ⟨v6, ev6, h⟩ := h2
    refine r_getR ev6 fk34 rfl d_K_withdraw_41 ?_
    refine r_iload (i := 5) (x := x5) 4 rfl d_K_withdraw_44 ?_
    have h2 := kr_ob h
    clear h
    obtain ⟨⟨⟩, eu7, h⟩ := h2
    have h2 := kr_ob2 h
    clear h
    obtain ⟨v9, S8, eS8, h⟩ := h2
    refine r_callV (M1 := m_AL_get) (κ := 10) (As := [.int x5]) eu7 (s_AL_get eS8) mok_AL_get rfl (by decide) rfl w489 w490 w491 (by decide) (kr_c8 kr_c0) d_K_withdraw_46 (kr_k1 ?_) kr_kn
    have h2 := kr_ob h
    clear h
    obtain ⟨⟨⟩, eu10, h⟩ := h2
    refine r_cast eu10 (by decide) w520 d_K_withdraw_49 ?_
    refine r_astore (i := 6) (lv' := [(6, va_rf v9), (0, va_rf x0), (2, .int x2), (3, va_rf x3), (4, .int x4), (5, .int x5)]) (by decide) rfl d_K_withdraw_52 ?_
    refine r_aload (i := 6) (x := v9) 0 rfl d_K_withdraw_54 ?_
    have h2 := kr_ob h
    clear h
    obtain ⟨v11, ev11, h⟩ := h2
    refine r_getI ev11 fk124 rfl d_K_withdraw_56 ?_
    refine r_if_eq (tgt := 92) d_K_withdraw_59 rfl (fun c => ?_) (fun c => ?_)
    · replace h := kr_ip c h
      exact kr_sub [1, 2, 3, 4, 5] rfl (s_K_withdraw_B92 hk28 h)
    · replace h := kr_in_ c h
      refine r_aload (i := 6) (x := v9) 0 rfl d_K_withdraw_62 ?_
      have h2 := kr_ob h
      clear h
      obtain ⟨v12, ev12, h⟩ := h2
      refine r_getR ev12 fk126 rfl d_K_withdraw_64 ?_
      have h2 := kr_ob h
      clear h
      obtain ⟨v13, ev13, h⟩ := h2
      refine r_getR ev13 fk174 rfl d_K_withdraw_67 ?_
      refine r_aload_n (i := 3) (x := x3) 3 rfl d_K_withdraw_70 ?_
      have h2 := kr_ob h
      clear h
      obtain ⟨⟨⟩, eu14, h⟩ := h2
      have h2 := kr_ob h
      clear h
      obtain ⟨⟨⟩, eu15, h⟩ := h2
      refine r_acmp_ne (tgt := 92) eu14 eu15 d_K_withdraw_71 rfl (fun c => ?_) (fun c => ?_)
      · replace h := kr_ip c h
        refine r_aload (i := 6) (x := v9) 0 rfl d_K_withdraw_74 ?_
        have h2 := kr_ob h
        clear h
        obtain ⟨v16, ev16, h⟩ := h2
        refine r_getI ev16 fk178 rfl d_K_withdraw_76 ?_
        refine r_iload_n (i := 2) (x := x2) 2 rfl d_K_withdraw_79 ?_
        refine r_icmp_ne (tgt := 92) d_K_withdraw_80 rfl (fun c => ?_) (fun c => ?_)
        · replace h := kr_ip c h
          refine r_aload_n (i := 0) (x := x0) 1 rfl d_K_withdraw_83 ?_
          refine r_aload (i := 6) (x := v9) 0 rfl d_K_withdraw_84 ?_
          have h2 := kr_ob h
          clear h
          obtain ⟨⟨⟩, eu17, h⟩ := h2
          rcases kr_obx h with ⟨z19, S18, eS18, h2⟩ | ⟨E, S18, eS18, h2⟩
          · clear h
            have h := h2
            clear h2
            refine r_callV (M1 := m_K_endFamily) (κ := 22) (As := [va_rf v9]) eu17 (s_K_endFamily eS18) mok_K_endFamily rfl (by decide) rfl w521 w523 w7 (by decide) (kr_c8 kr_c0) d_K_withdraw_86 (kr_k0 ?_) kr_kn
            have h2 := kr_ob h
            clear h
            obtain ⟨i20, ei20, h⟩ := h2
            refine r_iinc (v := i20) (lv' := [(4, .int i20), (6, va_rf v9), (0, va_rf x0), (2, .int x2), (3, va_rf x3), (5, .int x5)]) 4 rfl (kr_inc (by decide) ei20) (by decide) (by simp [kr_st, kr_rfcat, kr_icat]) d_K_withdraw_89 ?_
            exact kr_sub [2, 3, 4, 0, 5] rfl (s_K_withdraw_B92 hk28 h)
          · cases h2
            exact r_callV (M1 := m_K_endFamily) (κ := 22) (As := [va_rf v9]) eu17 (s_K_endFamily eS18) mok_K_endFamily rfl (by decide) rfl w521 w523 w7 (by decide) (kr_c8 kr_c0) d_K_withdraw_86 kr_nk (kr_kx (r_out rfl))
        · replace h := kr_in_ c h
          exact kr_sub [1, 2, 3, 4, 5] rfl (s_K_withdraw_B92 hk28 h)
      · replace h := kr_in_ c h
        exact kr_sub [1, 2, 3, 4, 5] rfl (s_K_withdraw_B92 hk28 h)
theorem s_K_withdraw_L28 (n : Nat) : ∀ {S : AS} {x0 : Option Nat} {x2 : Int32} {x3 : Option Nat} {x4 : Int32} {x5 : Int32} {r : ((Int32 ⊕ String) × AS)}, f_K_withdraw_L28 n S x0 x2 x3 x4 x5 = some r → kr_AW m_K_withdraw 9 28 [(0, va_rf x0), (2, .int x2), (3, va_rf x3), (4, .int x4), (5, .int x5)] [] S (kr_xI r) := by
  induction n with
  | zero => intro S x0 x2 x3 x4 x5 r h; cases h
  | succ n ih => intro S x0 x2 x3 x4 x5 r h; exact s_K_withdraw_C28 (fun {_} {_} {_} {_} {_} {_} {_} h => ih h) h
set_option maxRecDepth 20000 in
set_option maxHeartbeats 4000000 in
theorem s_K_withdraw {S : AS} {a0 : Option Nat} {a1 : Int32} {a2 : Int32} {r : ((Int32 ⊕ String) × AS)} (h : f_K_withdraw S a0 a1 a2 = some r) : kr_Con m_K_withdraw 9 [va_rf a0, .int a1, .int a2] S (kr_xI r) := by
  refine kr_con rfl rfl (by decide +kernel) (by simp [lg_sl, kr_rfcat, kr_icat, m_K_withdraw, mL]) ?_
  rw [show lv_args 0 [va_rf a0, .int a1, .int a2] = [(0, va_rf a0), (1, .int a1), (2, .int a2)] from by simp [lv_args, kr_rfcat, kr_icat]]
  unfold f_K_withdraw at h
  refine r_aload_n (i := 0) (x := a0) 0 rfl d_K_withdraw_0 ?_
  refine r_iload_n (i := 1) (x := a1) 1 rfl d_K_withdraw_1 ?_
  have h2 := kr_ob h
  clear h
  obtain ⟨⟨⟩, eu21, h⟩ := h2
  rcases kr_obx h with ⟨v23, S22, eS22, h2⟩ | ⟨E, S22, eS22, h2⟩
  · clear h
    have h := h2
    clear h2
    refine r_callV (M1 := m_K_findPerson) (κ := 22) (As := [.int a1]) eu21 (s_K_findPerson eS22) mok_K_findPerson rfl (by decide) rfl w559 w561 w9 (by decide) (kr_c8 kr_c0) d_K_withdraw_2 (kr_k1 ?_) kr_kn
    refine r_astore_n (i := 3) (lv' := [(3, va_rf v23), (0, va_rf a0), (1, .int a1), (2, .int a2)]) (by decide) rfl d_K_withdraw_5 ?_
    refine r_iload_n (i := 2) (x := a2) 3 rfl d_K_withdraw_6 ?_
    refine r_aload_n (i := 3) (x := v23) 0 rfl d_K_withdraw_7 ?_
    have h2 := kr_ob h
    clear h
    obtain ⟨v24, ev24, h⟩ := h2
    refine r_getR ev24 fk177 rfl d_K_withdraw_8 ?_
    have h2 := kr_ob h
    clear h
    obtain ⟨v25, ev25, h⟩ := h2
    refine r_alen ev25 d_K_withdraw_11 ?_
    rcases kr_obx h with ⟨z27, S26, eS26, h2⟩ | ⟨E, S26, eS26, h2⟩
    · clear h
      have h := h2
      clear h2
      refine r_callS (M1 := m_K_requireIndex) (As := [.int a2, .int v25]) (s_K_requireIndex eS26) mok_K_requireIndex rfl w713 w714 (by decide) (kr_c8 kr_c0) d_K_withdraw_12 (kr_k0 ?_) kr_kn
      refine r_aload_n (i := 3) (x := v23) 0 rfl d_K_withdraw_15 ?_
      have h2 := kr_ob h
      clear h
      obtain ⟨v28, ev28, h⟩ := h2
      refine r_getR ev28 fk177 rfl d_K_withdraw_16 ?_
      refine r_iload_n (i := 2) (x := a2) 3 rfl d_K_withdraw_19 ?_
      refine r_iconst (v := (0 : Int32)) (by decide) d_K_withdraw_20 ?_
      have h2 := kr_ob h
      clear h
      obtain ⟨S29, eS29, h⟩ := h2
      refine r_iastore eS29 d_K_withdraw_21 ?_
      refine r_iconst (v := (0 : Int32)) (by decide) d_K_withdraw_22 ?_
      refine r_istore (i := 4) (lv' := [(4, .int (0 : Int32)), (3, va_rf v23), (0, va_rf a0), (1, .int a1), (2, .int a2)]) (by decide) (by show kr_st _ 4 _ = _; simp [kr_st, kr_rfcat, kr_icat]) d_K_withdraw_23 ?_
      refine r_iconst (v := (0 : Int32)) (by decide) d_K_withdraw_25 ?_
      refine r_istore (i := 5) (lv' := [(5, .int (0 : Int32)), (4, .int (0 : Int32)), (3, va_rf v23), (0, va_rf a0), (1, .int a1), (2, .int a2)]) (by decide) rfl d_K_withdraw_26 ?_
      exact kr_sub [3, 5, 2, 1, 0] rfl (s_K_withdraw_L28 kr_FU h)
    · cases h2
      exact r_callS (M1 := m_K_requireIndex) (As := [.int a2, .int v25]) (s_K_requireIndex eS26) mok_K_requireIndex rfl w713 w714 (by decide) (kr_c8 kr_c0) d_K_withdraw_12 kr_nk (kr_kx (r_out rfl))
  · cases h2
    exact r_callV (M1 := m_K_findPerson) (κ := 22) (As := [.int a1]) eu21 (s_K_findPerson eS22) mok_K_findPerson rfl (by decide) rfl w559 w561 w9 (by decide) (kr_c8 kr_c0) d_K_withdraw_2 kr_nk (kr_kx (r_out rfl))
/-! KeyringCourt.need(II)I -/
def f_K_need (S : AS) (a0 : Option Nat) (a1 : Int32) (a2 : Int32) : Option ((Int32 ⊕ String) × AS) :=
  (kr_rv S 22 a0).bind fun u1 =>
  kr_bx (f_K_findService S a0 a1) fun v3 S2 =>
  kr_b2 (f_K_isWithin S2 a2 (0 : Int32) (6 : Int32)) fun v5 S4 =>
  kr_bx (f_K_requireArgument S4 v5) fun z7 S6 =>
  (gI S6 18 0 v3).bind fun v8 =>
  (pI S6 18 0 v3 a2).bind fun S9 =>
  some (.inl v8, S9)
set_option maxRecDepth 20000 in
set_option maxHeartbeats 4000000 in
theorem s_K_need {S : AS} {a0 : Option Nat} {a1 : Int32} {a2 : Int32} {r : ((Int32 ⊕ String) × AS)} (h : f_K_need S a0 a1 a2 = some r) : kr_Con m_K_need 8 [va_rf a0, .int a1, .int a2] S (kr_xI r) := by
  refine kr_con rfl rfl (by decide +kernel) (by simp [lg_sl, kr_rfcat, kr_icat, m_K_need, mL]) ?_
  rw [show lv_args 0 [va_rf a0, .int a1, .int a2] = [(0, va_rf a0), (1, .int a1), (2, .int a2)] from by simp [lv_args, kr_rfcat, kr_icat]]
  unfold f_K_need at h
  refine r_aload_n (i := 0) (x := a0) 0 rfl d_K_need_0 ?_
  refine r_iload_n (i := 1) (x := a1) 1 rfl d_K_need_1 ?_
  have h2 := kr_ob h
  clear h
  obtain ⟨⟨⟩, eu1, h⟩ := h2
  rcases kr_obx h with ⟨v3, S2, eS2, h2⟩ | ⟨E, S2, eS2, h2⟩
  · clear h
    have h := h2
    clear h2
    refine r_callV (M1 := m_K_findService) (κ := 22) (As := [.int a1]) eu1 (s_K_findService eS2) mok_K_findService rfl (by decide) rfl w525 w527 w8 (by decide) (kr_c8 kr_c0) d_K_need_2 (kr_k1 ?_) kr_kn
    refine r_astore_n (i := 3) (lv' := [(3, va_rf v3), (0, va_rf a0), (1, .int a1), (2, .int a2)]) (by decide) rfl d_K_need_5 ?_
    refine r_iload_n (i := 2) (x := a2) 3 rfl d_K_need_6 ?_
    refine r_iconst (v := (0 : Int32)) (by decide) d_K_need_7 ?_
    refine r_bipush (v := (6 : Int32)) (by decide) d_K_need_8 ?_
    have h2 := kr_ob2 h
    clear h
    obtain ⟨v5, S4, eS4, h⟩ := h2
    refine r_callS (M1 := m_K_isWithin) (As := [.int a2, .int (0 : Int32), .int (6 : Int32)]) (s_K_isWithin eS4) mok_K_isWithin rfl w373 w374 (by decide) (kr_c8 kr_c0) d_K_need_10 (kr_k1 ?_) kr_kn
    rcases kr_obx h with ⟨z7, S6, eS6, h2⟩ | ⟨E, S6, eS6, h2⟩
    · clear h
      have h := h2
      clear h2
      refine r_callS (M1 := m_K_requireArgument) (As := [.int v5]) (s_K_requireArgument eS6) mok_K_requireArgument rfl w376 w377 (by decide) (kr_c8 kr_c0) d_K_need_13 (kr_k0 ?_) kr_kn
      refine r_aload_n (i := 3) (x := v3) 0 rfl d_K_need_16 ?_
      have h2 := kr_ob h
      clear h
      obtain ⟨v8, ev8, h⟩ := h2
      refine r_getI ev8 fk179 rfl d_K_need_17 ?_
      refine r_istore (i := 4) (lv' := [(4, .int v8), (3, va_rf v3), (0, va_rf a0), (1, .int a1), (2, .int a2)]) (by decide) (by show kr_st _ 4 _ = _; simp [kr_st, kr_rfcat, kr_icat]) d_K_need_20 ?_
      refine r_aload_n (i := 3) (x := v3) 1 rfl d_K_need_22 ?_
      refine r_iload_n (i := 2) (x := a2) 4 rfl d_K_need_23 ?_
      have h2 := kr_ob h
      clear h
      obtain ⟨S9, eS9, h⟩ := h2
      refine r_putI eS9 fk179 (Or.inl rfl) rfl d_K_need_24 ?_
      refine r_iload (i := 4) (x := v8) 0 rfl d_K_need_27 ?_
      cases h
      exact r_iret rfl d_K_need_29
    · cases h2
      exact r_callS (M1 := m_K_requireArgument) (As := [.int v5]) (s_K_requireArgument eS6) mok_K_requireArgument rfl w376 w377 (by decide) (kr_c8 kr_c0) d_K_need_13 kr_nk (kr_kx (r_out rfl))
  · cases h2
    exact r_callV (M1 := m_K_findService) (κ := 22) (As := [.int a1]) eu1 (s_K_findService eS2) mok_K_findService rfl (by decide) rfl w525 w527 w8 (by decide) (kr_c8 kr_c0) d_K_need_2 kr_nk (kr_kx (r_out rfl))
/-! KeyringCourt.consentedTo(LKeyringCourt$Person;I)I -/
def f_K_consentedTo (S : AS) (a0 : Option Nat) (a1 : Option Nat) (a2 : Int32) : Option (Int32 × AS) :=
  if a2 < 0 then
  some ((0 : Int32), S)
  else
  (gR S 22 10 a0).bind fun v1 =>
  (aN S v1).bind fun v2 =>
  if v2 ≤ a2 then
  some ((0 : Int32), S)
  else
  (gR S 16 9 a1).bind fun v3 =>
  (aN S v3).bind fun v4 =>
  if a2 < v4 then
  (gR S 22 10 a0).bind fun v5 =>
  (aI S 40 v5 a2).bind fun v6 =>
  (gR S 16 9 a1).bind fun v7 =>
  (aI S 40 v7 a2).bind fun v8 =>
  some (v6 ||| v8, S)
  else
  some ((0 : Int32), S)
set_option maxRecDepth 20000 in
set_option maxHeartbeats 4000000 in
theorem s_K_consentedTo {S : AS} {a0 : Option Nat} {a1 : Option Nat} {a2 : Int32} {r : (Int32 × AS)} (h : f_K_consentedTo S a0 a1 a2 = some r) : kr_Con m_K_consentedTo 0 [va_rf a0, va_rf a1, .int a2] S (kr_eI r) := by
  refine kr_con rfl rfl (by decide +kernel) (by simp [lg_sl, kr_rfcat, kr_icat, m_K_consentedTo, mL]) ?_
  rw [show lv_args 0 [va_rf a0, va_rf a1, .int a2] = [(0, va_rf a0), (1, va_rf a1), (2, .int a2)] from by simp [lv_args, kr_rfcat, kr_icat]]
  unfold f_K_consentedTo at h
  refine r_iload_n (i := 2) (x := a2) 2 rfl d_K_consentedTo_0 ?_
  refine r_if_lt (tgt := 22) d_K_consentedTo_1 rfl (fun c => ?_) (fun c => ?_)
  · replace h := kr_ip c h
    refine r_iconst (v := (0 : Int32)) (by decide) d_K_consentedTo_22 ?_
    cases h
    exact r_iret rfl d_K_consentedTo_23
  · replace h := kr_in_ c h
    refine r_iload_n (i := 2) (x := a2) 2 rfl d_K_consentedTo_4 ?_
    refine r_aload_n (i := 0) (x := a0) 0 rfl d_K_consentedTo_5 ?_
    have h2 := kr_ob h
    clear h
    obtain ⟨v1, ev1, h⟩ := h2
    refine r_getR ev1 fk32 rfl d_K_consentedTo_6 ?_
    have h2 := kr_ob h
    clear h
    obtain ⟨v2, ev2, h⟩ := h2
    refine r_alen ev2 d_K_consentedTo_9 ?_
    refine r_icmp_ge (tgt := 22) d_K_consentedTo_10 rfl (fun c => ?_) (fun c => ?_)
    · replace h := kr_ip c h
      refine r_iconst (v := (0 : Int32)) (by decide) d_K_consentedTo_22 ?_
      cases h
      exact r_iret rfl d_K_consentedTo_23
    · replace h := kr_in_ c h
      refine r_iload_n (i := 2) (x := a2) 2 rfl d_K_consentedTo_13 ?_
      refine r_aload_n (i := 1) (x := a1) 1 rfl d_K_consentedTo_14 ?_
      have h2 := kr_ob h
      clear h
      obtain ⟨v3, ev3, h⟩ := h2
      refine r_getR ev3 fk177 rfl d_K_consentedTo_15 ?_
      have h2 := kr_ob h
      clear h
      obtain ⟨v4, ev4, h⟩ := h2
      refine r_alen ev4 d_K_consentedTo_18 ?_
      refine r_icmp_lt (tgt := 24) d_K_consentedTo_19 rfl (fun c => ?_) (fun c => ?_)
      · replace h := kr_ip c h
        refine r_aload_n (i := 0) (x := a0) 0 rfl d_K_consentedTo_24 ?_
        have h2 := kr_ob h
        clear h
        obtain ⟨v5, ev5, h⟩ := h2
        refine r_getR ev5 fk32 rfl d_K_consentedTo_25 ?_
        refine r_iload_n (i := 2) (x := a2) 2 rfl d_K_consentedTo_28 ?_
        have h2 := kr_ob h
        clear h
        obtain ⟨v6, ev6, h⟩ := h2
        refine r_iaload ev6 d_K_consentedTo_29 ?_
        refine r_aload_n (i := 1) (x := a1) 1 rfl d_K_consentedTo_30 ?_
        have h2 := kr_ob h
        clear h
        obtain ⟨v7, ev7, h⟩ := h2
        refine r_getR ev7 fk177 rfl d_K_consentedTo_31 ?_
        refine r_iload_n (i := 2) (x := a2) 2 rfl d_K_consentedTo_34 ?_
        have h2 := kr_ob h
        clear h
        obtain ⟨v8, ev8, h⟩ := h2
        refine r_iaload ev8 d_K_consentedTo_35 ?_
        refine r_ior d_K_consentedTo_36 ?_
        cases h
        exact r_iret rfl d_K_consentedTo_37
      · replace h := kr_in_ c h
        refine r_iconst (v := (0 : Int32)) (by decide) d_K_consentedTo_22 ?_
        cases h
        exact r_iret rfl d_K_consentedTo_23
/-! KeyringCourt.authorize(IIII)I -/
def f_K_authorize_B55 (S : AS) (x0 : Option Nat) (x2 : Int32) (x3 : Int32) (x4 : Int32) (x5 : Option Nat) (x6 : Option Nat) (y0 : Int32) : Option ((Int32 ⊕ String) × AS) :=
  kr_bx (f_K_requireState S y0) fun z2 S1 =>
  (gI S1 22 0 x0).bind fun v3 =>
  (pI S1 19 5 x5 v3).bind fun S4 =>
  (gR S4 19 1 x5).bind fun v5 =>
  (kr_rv S4 22 x0).bind fun u6 =>
  kr_b2 (f_K_consentedTo S4 x0 v5 x2) fun v8 S7 =>
  if (x4 &&& (v8 ^^^ (-1 : Int32))) = 0 then
  (gI S7 22 0 x0).bind fun v9 =>
  (kr_rv S7 19 x5).bind fun u10 =>
  kr_b2 (f_Session_levelAt S7 x5 v9) fun v12 S11 =>
  (gI S11 18 0 x6).bind fun v13 =>
  if v13 ≤ v12 then
  (gR S11 22 12 x0).bind fun v14 =>
  (some (nO S11 14)).bind fun S15 =>
  (gI S15 22 0 x0).bind fun v16 =>
  (f_Grant_init S15 (some (sN S11)) x5 x2 x3 x4 v16).bind fun S17 =>
  (kr_rv S17 10 v14).bind fun u18 =>
  kr_b2 (f_AL_add1 S17 v14 (some (sN S11))) fun v20 S19 =>
  (gR S19 22 12 x0).bind fun v21 =>
  (kr_rv S19 10 v21).bind fun u22 =>
  kr_b2 (f_AL_size S19 v21) fun v24 S23 =>
  some (.inl (v24 - (1 : Int32)), S23)
  else
  some (.inl (-2 : Int32), S11)
  else
  some (.inl (-3 : Int32), S7)
def f_K_authorize_B54 (S : AS) (x0 : Option Nat) (x2 : Int32) (x3 : Int32) (x4 : Int32) (x5 : Option Nat) (x6 : Option Nat) : Option ((Int32 ⊕ String) × AS) :=
  f_K_authorize_B55 S x0 x2 x3 x4 x5 x6 (0 : Int32)
def f_K_authorize (S : AS) (a0 : Option Nat) (a1 : Int32) (a2 : Int32) (a3 : Int32) (a4 : Int32) : Option ((Int32 ⊕ String) × AS) :=
  (kr_rv S 22 a0).bind fun u25 =>
  kr_bx (f_K_findSession S a0 a1) fun v27 S26 =>
  kr_bx (f_K_requireIndex S26 a2 (4 : Int32)) fun z29 S28 =>
  (kr_rv S28 22 a0).bind fun u30 =>
  kr_bx (f_K_findService S28 a0 a3) fun v32 S31 =>
  kr_b2 (f_K_isWithin S31 a4 (1 : Int32) (15 : Int32)) fun v34 S33 =>
  kr_bx (f_K_requireArgument S33 v34) fun z36 S35 =>
  (gI S35 19 6 v27).bind fun v37 =>
  if v37 = 0 then
  f_K_authorize_B54 S35 a0 a2 a3 a4 v27 v32
  else
  (gR S35 22 12 a0).bind fun v38 =>
  (kr_rv S35 10 v38).bind fun u39 =>
  kr_b2 (f_AL_size S35 v38) fun v41 S40 =>
  if (60 : Int32) ≤ v41 then
  f_K_authorize_B54 S40 a0 a2 a3 a4 v27 v32
  else
  f_K_authorize_B55 S40 a0 a2 a3 a4 v27 v32 (1 : Int32)
set_option maxRecDepth 20000 in
set_option maxHeartbeats 4000000 in
theorem s_K_authorize_B55 {S : AS} {x0 : Option Nat} {x2 : Int32} {x3 : Int32} {x4 : Int32} {x5 : Option Nat} {x6 : Option Nat} {y0 : Int32} {r : ((Int32 ⊕ String) × AS)} (h : f_K_authorize_B55 S x0 x2 x3 x4 x5 x6 y0 = some r) : kr_AW m_K_authorize 9 55 [(0, va_rf x0), (2, .int x2), (3, .int x3), (4, .int x4), (5, va_rf x5), (6, va_rf x6)] [.int y0] S (kr_xI r) := by
  unfold f_K_authorize_B55 at h
  rcases kr_obx h with ⟨z2, S1, eS1, h2⟩ | ⟨E, S1, eS1, h2⟩
  · clear h
    have h := h2
    clear h2
    refine r_callS (M1 := m_K_requireState) (As := [.int y0]) (s_K_requireState eS1) mok_K_requireState rfl w442 w443 (by decide) (kr_c8 kr_c0) d_K_authorize_55 (kr_k0 ?_) kr_kn
    refine r_aload (i := 5) (x := x5) 4 rfl d_K_authorize_58 ?_
    refine r_aload_n (i := 0) (x := x0) 0 rfl d_K_authorize_60 ?_
    have h2 := kr_ob h
    clear h
    obtain ⟨v3, ev3, h⟩ := h2
    refine r_getI ev3 fk113 rfl d_K_authorize_61 ?_
    have h2 := kr_ob h
    clear h
    obtain ⟨S4, eS4, h⟩ := h2
    refine r_putI eS4 fk173 (Or.inl rfl) rfl d_K_authorize_64 ?_
    refine r_iload (i := 4) (x := x4) 3 rfl d_K_authorize_67 ?_
    refine r_aload_n (i := 0) (x := x0) 0 rfl d_K_authorize_69 ?_
    refine r_aload (i := 5) (x := x5) 4 rfl d_K_authorize_70 ?_
    have h2 := kr_ob h
    clear h
    obtain ⟨v5, ev5, h⟩ := h2
    refine r_getR ev5 fk174 rfl d_K_authorize_72 ?_
    refine r_iload_n (i := 2) (x := x2) 1 rfl d_K_authorize_75 ?_
    have h2 := kr_ob h
    clear h
    obtain ⟨⟨⟩, eu6, h⟩ := h2
    have h2 := kr_ob2 h
    clear h
    obtain ⟨v8, S7, eS7, h⟩ := h2
    refine r_callV (M1 := m_K_consentedTo) (κ := 22) (As := [va_rf v5, .int x2]) eu6 (s_K_consentedTo eS7) mok_K_consentedTo rfl (by decide) rfl w1078 w1080 w27 (by decide) (kr_c8 (kr_cI kr_c0)) d_K_authorize_76 (kr_k1 ?_) kr_kn
    refine r_iconst (v := (-1 : Int32)) (by decide) d_K_authorize_79 ?_
    refine r_ixor d_K_authorize_80 ?_
    refine r_iand d_K_authorize_81 ?_
    refine r_if_eq (tgt := 88) d_K_authorize_82 rfl (fun c => ?_) (fun c => ?_)
    · replace h := kr_ip c h
      refine r_aload (i := 5) (x := x5) 4 rfl d_K_authorize_88 ?_
      refine r_aload_n (i := 0) (x := x0) 0 rfl d_K_authorize_90 ?_
      have h2 := kr_ob h
      clear h
      obtain ⟨v9, ev9, h⟩ := h2
      refine r_getI ev9 fk113 rfl d_K_authorize_91 ?_
      have h2 := kr_ob h
      clear h
      obtain ⟨⟨⟩, eu10, h⟩ := h2
      have h2 := kr_ob2 h
      clear h
      obtain ⟨v12, S11, eS11, h⟩ := h2
      refine r_callV (M1 := m_Session_levelAt) (κ := 19) (As := [.int v9]) eu10 (s_Session_levelAt eS11) mok_Session_levelAt rfl (by decide) rfl w1017 w1018 w1019 (by decide) (kr_c8 kr_c0) d_K_authorize_94 (kr_k1 ?_) kr_kn
      refine r_aload (i := 6) (x := x6) 5 rfl d_K_authorize_97 ?_
      have h2 := kr_ob h
      clear h
      obtain ⟨v13, ev13, h⟩ := h2
      refine r_getI ev13 fk179 rfl d_K_authorize_99 ?_
      refine r_icmp_ge (tgt := 108) d_K_authorize_102 rfl (fun c => ?_) (fun c => ?_)
      · replace h := kr_ip c h
        refine r_aload_n (i := 0) (x := x0) 0 rfl d_K_authorize_108 ?_
        have h2 := kr_ob h
        clear h
        obtain ⟨v14, ev14, h⟩ := h2
        refine r_getR ev14 fk33 rfl d_K_authorize_109 ?_
        have h2 := kr_ob h
        clear h
        obtain ⟨S15, eS15, h⟩ := h2
        refine r_newO_ (κ := 14) eS15 (by decide) w520 w1082 w100 d_K_authorize_112 ?_
        refine r_dup (kr_rfcat _) d_K_authorize_115 ?_
        refine r_aload (i := 5) (x := x5) 4 rfl d_K_authorize_116 ?_
        refine r_iload_n (i := 2) (x := x2) 1 rfl d_K_authorize_118 ?_
        refine r_iload_n (i := 3) (x := x3) 2 rfl d_K_authorize_119 ?_
        refine r_iload (i := 4) (x := x4) 3 rfl d_K_authorize_120 ?_
        refine r_aload_n (i := 0) (x := x0) 0 rfl d_K_authorize_122 ?_
        have h2 := kr_ob h
        clear h
        obtain ⟨v16, ev16, h⟩ := h2
        refine r_getI ev16 fk113 rfl d_K_authorize_123 ?_
        have h2 := kr_ob h
        clear h
        obtain ⟨S17, eS17, h⟩ := h2
        refine r_callIN (M1 := m_Grant_init) (As := [va_rf x5, .int x2, .int x3, .int x4, .int v16]) (s_Grant_init eS17) mok_Grant_init rfl rfl rfl w1083 w1084 (by decide) (kr_c8 (kr_cR (kr_cR kr_c0))) d_K_authorize_126 (kr_k0 ?_) kr_kn
        have h2 := kr_ob h
        clear h
        obtain ⟨⟨⟩, eu18, h⟩ := h2
        have h2 := kr_ob2 h
        clear h
        obtain ⟨v20, S19, eS19, h⟩ := h2
        refine r_callV (M1 := m_AL_add1) (κ := 10) (As := [va_rf (some (sN S11))]) eu18 (s_AL_add1 eS19) mok_AL_add1 rfl (by decide) rfl w642 w643 w644 (by decide) (kr_c8 kr_c0) d_K_authorize_129 (kr_k1 ?_) kr_kn
        refine r_pop rfl d_K_authorize_132 ?_
        refine r_aload_n (i := 0) (x := x0) 0 rfl d_K_authorize_133 ?_
        have h2 := kr_ob h
        clear h
        obtain ⟨v21, ev21, h⟩ := h2
        refine r_getR ev21 fk33 rfl d_K_authorize_134 ?_
        have h2 := kr_ob h
        clear h
        obtain ⟨⟨⟩, eu22, h⟩ := h2
        have h2 := kr_ob2 h
        clear h
        obtain ⟨v24, S23, eS23, h⟩ := h2
        refine r_callV (M1 := m_AL_size) (κ := 10) (As := []) eu22 (s_AL_size eS23) mok_AL_size rfl (by decide) rfl w348 w349 w350 (by decide) (kr_c8 kr_c0) d_K_authorize_137 (kr_k1 ?_) kr_kn
        refine r_iconst (v := (1 : Int32)) (by decide) d_K_authorize_140 ?_
        refine r_isub d_K_authorize_141 ?_
        cases h
        exact r_iret rfl d_K_authorize_142
      · replace h := kr_in_ c h
        refine r_bipush (v := (-2 : Int32)) (by decide) d_K_authorize_105 ?_
        cases h
        exact r_iret rfl d_K_authorize_107
    · replace h := kr_in_ c h
      refine r_bipush (v := (-3 : Int32)) (by decide) d_K_authorize_85 ?_
      cases h
      exact r_iret rfl d_K_authorize_87
  · cases h2
    exact r_callS (M1 := m_K_requireState) (As := [.int y0]) (s_K_requireState eS1) mok_K_requireState rfl w442 w443 (by decide) (kr_c8 kr_c0) d_K_authorize_55 kr_nk (kr_kx (r_out rfl))
set_option maxRecDepth 20000 in
set_option maxHeartbeats 4000000 in
theorem s_K_authorize_B54 {S : AS} {x0 : Option Nat} {x2 : Int32} {x3 : Int32} {x4 : Int32} {x5 : Option Nat} {x6 : Option Nat} {r : ((Int32 ⊕ String) × AS)} (h : f_K_authorize_B54 S x0 x2 x3 x4 x5 x6 = some r) : kr_AW m_K_authorize 9 54 [(0, va_rf x0), (2, .int x2), (3, .int x3), (4, .int x4), (5, va_rf x5), (6, va_rf x6)] [] S (kr_xI r) := by
  unfold f_K_authorize_B54 at h
  refine r_iconst (v := (0 : Int32)) (by decide) d_K_authorize_54 ?_
  exact kr_sub [0, 1, 2, 3, 4, 5] rfl (s_K_authorize_B55 h)
set_option maxRecDepth 20000 in
set_option maxHeartbeats 4000000 in
theorem s_K_authorize {S : AS} {a0 : Option Nat} {a1 : Int32} {a2 : Int32} {a3 : Int32} {a4 : Int32} {r : ((Int32 ⊕ String) × AS)} (h : f_K_authorize S a0 a1 a2 a3 a4 = some r) : kr_Con m_K_authorize 9 [va_rf a0, .int a1, .int a2, .int a3, .int a4] S (kr_xI r) := by
  refine kr_con rfl rfl (by decide +kernel) (by simp [lg_sl, kr_rfcat, kr_icat, m_K_authorize, mL]) ?_
  rw [show lv_args 0 [va_rf a0, .int a1, .int a2, .int a3, .int a4] = [(0, va_rf a0), (1, .int a1), (2, .int a2), (3, .int a3), (4, .int a4)] from by simp [lv_args, kr_rfcat, kr_icat]]
  unfold f_K_authorize at h
  refine r_aload_n (i := 0) (x := a0) 0 rfl d_K_authorize_0 ?_
  refine r_iload_n (i := 1) (x := a1) 1 rfl d_K_authorize_1 ?_
  have h2 := kr_ob h
  clear h
  obtain ⟨⟨⟩, eu25, h⟩ := h2
  rcases kr_obx h with ⟨v27, S26, eS26, h2⟩ | ⟨E, S26, eS26, h2⟩
  · clear h
    have h := h2
    clear h2
    refine r_callV (M1 := m_K_findSession) (κ := 22) (As := [.int a1]) eu25 (s_K_findSession eS26) mok_K_findSession rfl (by decide) rfl w991 w993 w26 (by decide) (kr_c8 kr_c0) d_K_authorize_2 (kr_k1 ?_) kr_kn
    refine r_astore (i := 5) (lv' := [(5, va_rf v27), (0, va_rf a0), (1, .int a1), (2, .int a2), (3, .int a3), (4, .int a4)]) (by decide) rfl d_K_authorize_5 ?_
    refine r_iload_n (i := 2) (x := a2) 3 rfl d_K_authorize_7 ?_
    refine r_iconst (v := (4 : Int32)) (by decide) d_K_authorize_8 ?_
    rcases kr_obx h with ⟨z29, S28, eS28, h2⟩ | ⟨E, S28, eS28, h2⟩
    · clear h
      have h := h2
      clear h2
      refine r_callS (M1 := m_K_requireIndex) (As := [.int a2, .int (4 : Int32)]) (s_K_requireIndex eS28) mok_K_requireIndex rfl w713 w714 (by decide) (kr_c8 kr_c0) d_K_authorize_9 (kr_k0 ?_) kr_kn
      refine r_aload_n (i := 0) (x := a0) 1 rfl d_K_authorize_12 ?_
      refine r_iload_n (i := 3) (x := a3) 4 rfl d_K_authorize_13 ?_
      have h2 := kr_ob h
      clear h
      obtain ⟨⟨⟩, eu30, h⟩ := h2
      rcases kr_obx h with ⟨v32, S31, eS31, h2⟩ | ⟨E, S31, eS31, h2⟩
      · clear h
        have h := h2
        clear h2
        refine r_callV (M1 := m_K_findService) (κ := 22) (As := [.int a3]) eu30 (s_K_findService eS31) mok_K_findService rfl (by decide) rfl w525 w527 w8 (by decide) (kr_c8 kr_c0) d_K_authorize_14 (kr_k1 ?_) kr_kn
        refine r_astore (i := 6) (lv' := [(6, va_rf v32), (5, va_rf v27), (0, va_rf a0), (1, .int a1), (2, .int a2), (3, .int a3), (4, .int a4)]) (by decide) (by show kr_st _ 6 _ = _; simp [kr_st, kr_rfcat, kr_icat]) d_K_authorize_17 ?_
        refine r_iload (i := 4) (x := a4) 6 rfl d_K_authorize_19 ?_
        refine r_iconst (v := (1 : Int32)) (by decide) d_K_authorize_21 ?_
        refine r_bipush (v := (15 : Int32)) (by decide) d_K_authorize_22 ?_
        have h2 := kr_ob2 h
        clear h
        obtain ⟨v34, S33, eS33, h⟩ := h2
        refine r_callS (M1 := m_K_isWithin) (As := [.int a4, .int (1 : Int32), .int (15 : Int32)]) (s_K_isWithin eS33) mok_K_isWithin rfl w373 w374 (by decide) (kr_c8 kr_c0) d_K_authorize_24 (kr_k1 ?_) kr_kn
        rcases kr_obx h with ⟨z36, S35, eS35, h2⟩ | ⟨E, S35, eS35, h2⟩
        · clear h
          have h := h2
          clear h2
          refine r_callS (M1 := m_K_requireArgument) (As := [.int v34]) (s_K_requireArgument eS35) mok_K_requireArgument rfl w376 w377 (by decide) (kr_c8 kr_c0) d_K_authorize_27 (kr_k0 ?_) kr_kn
          refine r_aload (i := 5) (x := v27) 1 rfl d_K_authorize_30 ?_
          have h2 := kr_ob h
          clear h
          obtain ⟨v37, ev37, h⟩ := h2
          refine r_getI ev37 fk118 rfl d_K_authorize_32 ?_
          refine r_if_eq (tgt := 54) d_K_authorize_35 rfl (fun c => ?_) (fun c => ?_)
          · replace h := kr_ip c h
            exact kr_sub [2, 4, 5, 6, 1, 0] rfl (s_K_authorize_B54 h)
          · replace h := kr_in_ c h
            refine r_aload_n (i := 0) (x := a0) 2 rfl d_K_authorize_38 ?_
            have h2 := kr_ob h
            clear h
            obtain ⟨v38, ev38, h⟩ := h2
            refine r_getR ev38 fk33 rfl d_K_authorize_39 ?_
            have h2 := kr_ob h
            clear h
            obtain ⟨⟨⟩, eu39, h⟩ := h2
            have h2 := kr_ob2 h
            clear h
            obtain ⟨v41, S40, eS40, h⟩ := h2
            refine r_callV (M1 := m_AL_size) (κ := 10) (As := []) eu39 (s_AL_size eS40) mok_AL_size rfl (by decide) rfl w348 w349 w350 (by decide) (kr_c8 kr_c0) d_K_authorize_42 (kr_k1 ?_) kr_kn
            refine r_bipush (v := (60 : Int32)) (by decide) d_K_authorize_45 ?_
            refine r_icmp_ge (tgt := 54) d_K_authorize_47 rfl (fun c => ?_) (fun c => ?_)
            · replace h := kr_ip c h
              exact kr_sub [2, 4, 5, 6, 1, 0] rfl (s_K_authorize_B54 h)
            · replace h := kr_in_ c h
              refine r_iconst (v := (1 : Int32)) (by decide) d_K_authorize_50 ?_
              refine r_goto (tgt := 55) d_K_authorize_51 rfl ?_
              exact kr_sub [2, 4, 5, 6, 1, 0] rfl (s_K_authorize_B55 h)
        · cases h2
          exact r_callS (M1 := m_K_requireArgument) (As := [.int v34]) (s_K_requireArgument eS35) mok_K_requireArgument rfl w376 w377 (by decide) (kr_c8 kr_c0) d_K_authorize_27 kr_nk (kr_kx (r_out rfl))
      · cases h2
        exact r_callV (M1 := m_K_findService) (κ := 22) (As := [.int a3]) eu30 (s_K_findService eS31) mok_K_findService rfl (by decide) rfl w525 w527 w8 (by decide) (kr_c8 kr_c0) d_K_authorize_14 kr_nk (kr_kx (r_out rfl))
    · cases h2
      exact r_callS (M1 := m_K_requireIndex) (As := [.int a2, .int (4 : Int32)]) (s_K_requireIndex eS28) mok_K_requireIndex rfl w713 w714 (by decide) (kr_c8 kr_c0) d_K_authorize_9 kr_nk (kr_kx (r_out rfl))
  · cases h2
    exact r_callV (M1 := m_K_findSession) (κ := 22) (As := [.int a1]) eu25 (s_K_findSession eS26) mok_K_findSession rfl (by decide) rfl w991 w993 w26 (by decide) (kr_c8 kr_c0) d_K_authorize_2 kr_nk (kr_kx (r_out rfl))
/-! KeyringCourt.addToken(LKeyringCourt$Token;)V -/
def f_K_addToken (S : AS) (a0 : Option Nat) (a1 : Option Nat) : Option AS :=
  (gR S 21 0 a1).bind fun v1 =>
  (gR S 22 14 a0).bind fun v2 =>
  (kr_rv S 10 v2).bind fun u3 =>
  kr_b2 (f_AL_size S v2) fun v5 S4 =>
  (pI S4 14 9 v1 v5).bind fun S6 =>
  (gR S6 21 0 a1).bind fun v7 =>
  (gI S6 14 10 v7).bind fun v8 =>
  (gI S6 21 2 a1).bind fun v9 =>
  (pI S6 14 10 v7 (v8 ||| ((1 : Int32) <<< (v9 &&& 31)))).bind fun S10 =>
  (gR S10 22 14 a0).bind fun v11 =>
  (kr_rv S10 10 v11).bind fun u12 =>
  kr_b2 (f_AL_add1 S10 v11 a1) fun v14 S13 =>
  some S13
set_option maxRecDepth 20000 in
set_option maxHeartbeats 4000000 in
theorem s_K_addToken {S : AS} {a0 : Option Nat} {a1 : Option Nat} {r : AS} (h : f_K_addToken S a0 a1 = some r) : kr_Con m_K_addToken 7 [va_rf a0, va_rf a1] S (kr_eV r) := by
  refine kr_con rfl rfl (by decide +kernel) (by simp [lg_sl, kr_rfcat, kr_icat, m_K_addToken, mL]) ?_
  rw [show lv_args 0 [va_rf a0, va_rf a1] = [(0, va_rf a0), (1, va_rf a1)] from by simp [lv_args, kr_rfcat, kr_icat]]
  unfold f_K_addToken at h
  refine r_aload_n (i := 1) (x := a1) 1 rfl d_K_addToken_0 ?_
  have h2 := kr_ob h
  clear h
  obtain ⟨v1, ev1, h⟩ := h2
  refine r_getR ev1 fk195 rfl d_K_addToken_1 ?_
  refine r_aload_n (i := 0) (x := a0) 0 rfl d_K_addToken_4 ?_
  have h2 := kr_ob h
  clear h
  obtain ⟨v2, ev2, h⟩ := h2
  refine r_getR ev2 fk35 rfl d_K_addToken_5 ?_
  have h2 := kr_ob h
  clear h
  obtain ⟨⟨⟩, eu3, h⟩ := h2
  have h2 := kr_ob2 h
  clear h
  obtain ⟨v5, S4, eS4, h⟩ := h2
  refine r_callV (M1 := m_AL_size) (κ := 10) (As := []) eu3 (s_AL_size eS4) mok_AL_size rfl (by decide) rfl w348 w349 w350 (by decide) (kr_c8 (kr_cR kr_c0)) d_K_addToken_8 (kr_k1 ?_) kr_kn
  have h2 := kr_ob h
  clear h
  obtain ⟨S6, eS6, h⟩ := h2
  refine r_putI eS6 fk196 (Or.inl rfl) rfl d_K_addToken_11 ?_
  refine r_aload_n (i := 1) (x := a1) 1 rfl d_K_addToken_14 ?_
  have h2 := kr_ob h
  clear h
  obtain ⟨v7, ev7, h⟩ := h2
  refine r_getR ev7 fk195 rfl d_K_addToken_15 ?_
  refine r_dup (kr_rfcat _) d_K_addToken_18 ?_
  have h2 := kr_ob h
  clear h
  obtain ⟨v8, ev8, h⟩ := h2
  refine r_getI ev8 fk197 rfl d_K_addToken_19 ?_
  refine r_iconst (v := (1 : Int32)) (by decide) d_K_addToken_22 ?_
  refine r_aload_n (i := 1) (x := a1) 1 rfl d_K_addToken_23 ?_
  have h2 := kr_ob h
  clear h
  obtain ⟨v9, ev9, h⟩ := h2
  refine r_getI ev9 fk198 rfl d_K_addToken_24 ?_
  refine r_ishl d_K_addToken_27 ?_
  refine r_ior d_K_addToken_28 ?_
  have h2 := kr_ob h
  clear h
  obtain ⟨S10, eS10, h⟩ := h2
  refine r_putI eS10 fk197 (Or.inl rfl) rfl d_K_addToken_29 ?_
  refine r_aload_n (i := 0) (x := a0) 0 rfl d_K_addToken_32 ?_
  have h2 := kr_ob h
  clear h
  obtain ⟨v11, ev11, h⟩ := h2
  refine r_getR ev11 fk35 rfl d_K_addToken_33 ?_
  refine r_aload_n (i := 1) (x := a1) 1 rfl d_K_addToken_36 ?_
  have h2 := kr_ob h
  clear h
  obtain ⟨⟨⟩, eu12, h⟩ := h2
  have h2 := kr_ob2 h
  clear h
  obtain ⟨v14, S13, eS13, h⟩ := h2
  refine r_callV (M1 := m_AL_add1) (κ := 10) (As := [va_rf a1]) eu12 (s_AL_add1 eS13) mok_AL_add1 rfl (by decide) rfl w642 w643 w644 (by decide) (kr_c8 kr_c0) d_K_addToken_37 (kr_k1 ?_) kr_kn
  refine r_pop rfl d_K_addToken_40 ?_
  cases h
  exact r_vret rfl d_K_addToken_41
/-! KeyringCourt.addFirstHandToken(LKeyringCourt$Grant;)V -/
def f_K_addFirstHandToken (S : AS) (a0 : Option Nat) (a1 : Option Nat) : Option AS :=
  (some (nO S 21)).bind fun S1 =>
  (gI S1 14 1 a1).bind fun v2 =>
  (gI S1 14 2 a1).bind fun v3 =>
  (gI S1 14 3 a1).bind fun v4 =>
  (gR S1 22 15 a0).bind fun v5 =>
  (gI S1 15 1 v5).bind fun v6 =>
  (gI S1 22 0 a0).bind fun v7 =>
  (f_Token_init S1 (some (sN S)) a1 v2 v3 v4 (0 : Int32) v6 (v7 + (10 : Int32))).bind fun S8 =>
  (kr_rv S8 22 a0).bind fun u9 =>
  (f_K_addToken S8 a0 (some (sN S))).bind fun S10 =>
  some S10
set_option maxRecDepth 20000 in
set_option maxHeartbeats 4000000 in
theorem s_K_addFirstHandToken {S : AS} {a0 : Option Nat} {a1 : Option Nat} {r : AS} (h : f_K_addFirstHandToken S a0 a1 = some r) : kr_Con m_K_addFirstHandToken 8 [va_rf a0, va_rf a1] S (kr_eV r) := by
  refine kr_con rfl rfl (by decide +kernel) (by simp [lg_sl, kr_rfcat, kr_icat, m_K_addFirstHandToken, mL]) ?_
  rw [show lv_args 0 [va_rf a0, va_rf a1] = [(0, va_rf a0), (1, va_rf a1)] from by simp [lv_args, kr_rfcat, kr_icat]]
  unfold f_K_addFirstHandToken at h
  refine r_aload_n (i := 0) (x := a0) 0 rfl d_K_addFirstHandToken_0 ?_
  have h2 := kr_ob h
  clear h
  obtain ⟨S1, eS1, h⟩ := h2
  refine r_newO_ (κ := 21) eS1 (by decide) w1148 w1149 w101 d_K_addFirstHandToken_1 ?_
  refine r_dup (kr_rfcat _) d_K_addFirstHandToken_4 ?_
  refine r_aload_n (i := 1) (x := a1) 1 rfl d_K_addFirstHandToken_5 ?_
  refine r_aload_n (i := 1) (x := a1) 1 rfl d_K_addFirstHandToken_6 ?_
  have h2 := kr_ob h
  clear h
  obtain ⟨v2, ev2, h⟩ := h2
  refine r_getI ev2 fk178 rfl d_K_addFirstHandToken_7 ?_
  refine r_aload_n (i := 1) (x := a1) 1 rfl d_K_addFirstHandToken_10 ?_
  have h2 := kr_ob h
  clear h
  obtain ⟨v3, ev3, h⟩ := h2
  refine r_getI ev3 fk199 rfl d_K_addFirstHandToken_11 ?_
  refine r_aload_n (i := 1) (x := a1) 1 rfl d_K_addFirstHandToken_14 ?_
  have h2 := kr_ob h
  clear h
  obtain ⟨v4, ev4, h⟩ := h2
  refine r_getI ev4 fk200 rfl d_K_addFirstHandToken_15 ?_
  refine r_iconst (v := (0 : Int32)) (by decide) d_K_addFirstHandToken_18 ?_
  refine r_aload_n (i := 0) (x := a0) 0 rfl d_K_addFirstHandToken_19 ?_
  have h2 := kr_ob h
  clear h
  obtain ⟨v5, ev5, h⟩ := h2
  refine r_getR ev5 fk36 rfl d_K_addFirstHandToken_20 ?_
  have h2 := kr_ob h
  clear h
  obtain ⟨v6, ev6, h⟩ := h2
  refine r_getI ev6 fk114 rfl d_K_addFirstHandToken_23 ?_
  refine r_aload_n (i := 0) (x := a0) 0 rfl d_K_addFirstHandToken_26 ?_
  have h2 := kr_ob h
  clear h
  obtain ⟨v7, ev7, h⟩ := h2
  refine r_getI ev7 fk113 rfl d_K_addFirstHandToken_27 ?_
  refine r_bipush (v := (10 : Int32)) (by decide) d_K_addFirstHandToken_30 ?_
  refine r_iadd d_K_addFirstHandToken_32 ?_
  have h2 := kr_ob h
  clear h
  obtain ⟨S8, eS8, h⟩ := h2
  refine r_callIN (M1 := m_Token_init) (As := [va_rf a1, .int v2, .int v3, .int v4, .int (0 : Int32), .int v6, .int (v7 + (10 : Int32))]) (s_Token_init eS8) mok_Token_init rfl rfl rfl w1150 w1151 (by decide) (kr_c8 (kr_cR (kr_cR kr_c0))) d_K_addFirstHandToken_33 (kr_k0 ?_) kr_kn
  have h2 := kr_ob h
  clear h
  obtain ⟨⟨⟩, eu9, h⟩ := h2
  have h2 := kr_ob h
  clear h
  obtain ⟨S10, eS10, h⟩ := h2
  refine r_callV (M1 := m_K_addToken) (κ := 22) (As := [va_rf (some (sN S))]) eu9 (s_K_addToken eS10) mok_K_addToken rfl (by decide) rfl w1183 w1185 w30 (by decide) (kr_c8 kr_c0) d_K_addFirstHandToken_36 (kr_k0 ?_) kr_kn
  cases h
  exact r_vret rfl d_K_addFirstHandToken_39
/-! KeyringCourt.makeFamily(LKeyringCourt$Grant;)V -/
def f_K_makeFamily (S : AS) (a0 : Option Nat) (a1 : Option Nat) : Option AS :=
  (gR S 22 13 a0).bind fun v1 =>
  (kr_rv S 10 v1).bind fun u2 =>
  kr_b2 (f_AL_size S v1) fun v4 S3 =>
  (pI S3 14 5 a1 v4).bind fun S5 =>
  (pZ S5 14 6 a1 (1 : Int32)).bind fun S6 =>
  (gR S6 22 13 a0).bind fun v7 =>
  (kr_rv S6 10 v7).bind fun u8 =>
  kr_b2 (f_AL_add1 S6 v7 a1) fun v10 S9 =>
  (gR S9 22 1 a0).bind fun v11 =>
  (gI S9 14 5 a1).bind fun v12 =>
  (gI S9 22 0 a0).bind fun v13 =>
  (kr_rv S9 12 v11).bind fun u14 =>
  (f_Audit_write S9 v11 (2 : Int32) v12 v13).bind fun S15 =>
  (kr_rv S15 22 a0).bind fun u16 =>
  (f_K_addFirstHandToken S15 a0 a1).bind fun S17 =>
  some S17
set_option maxRecDepth 20000 in
set_option maxHeartbeats 4000000 in
theorem s_K_makeFamily {S : AS} {a0 : Option Nat} {a1 : Option Nat} {r : AS} (h : f_K_makeFamily S a0 a1 = some r) : kr_Con m_K_makeFamily 9 [va_rf a0, va_rf a1] S (kr_eV r) := by
  refine kr_con rfl rfl (by decide +kernel) (by simp [lg_sl, kr_rfcat, kr_icat, m_K_makeFamily, mL]) ?_
  rw [show lv_args 0 [va_rf a0, va_rf a1] = [(0, va_rf a0), (1, va_rf a1)] from by simp [lv_args, kr_rfcat, kr_icat]]
  unfold f_K_makeFamily at h
  refine r_aload_n (i := 1) (x := a1) 1 rfl d_K_makeFamily_0 ?_
  refine r_aload_n (i := 0) (x := a0) 0 rfl d_K_makeFamily_1 ?_
  have h2 := kr_ob h
  clear h
  obtain ⟨v1, ev1, h⟩ := h2
  refine r_getR ev1 fk34 rfl d_K_makeFamily_2 ?_
  have h2 := kr_ob h
  clear h
  obtain ⟨⟨⟩, eu2, h⟩ := h2
  have h2 := kr_ob2 h
  clear h
  obtain ⟨v4, S3, eS3, h⟩ := h2
  refine r_callV (M1 := m_AL_size) (κ := 10) (As := []) eu2 (s_AL_size eS3) mok_AL_size rfl (by decide) rfl w348 w349 w350 (by decide) (kr_c8 (kr_cR kr_c0)) d_K_makeFamily_5 (kr_k1 ?_) kr_kn
  have h2 := kr_ob h
  clear h
  obtain ⟨S5, eS5, h⟩ := h2
  refine r_putI eS5 fk125 (Or.inl rfl) rfl d_K_makeFamily_8 ?_
  refine r_aload_n (i := 1) (x := a1) 1 rfl d_K_makeFamily_11 ?_
  refine r_iconst (v := (1 : Int32)) (by decide) d_K_makeFamily_12 ?_
  have h2 := kr_ob h
  clear h
  obtain ⟨S6, eS6, h⟩ := h2
  refine r_putZ eS6 fk124 (Or.inl rfl) rfl d_K_makeFamily_13 ?_
  refine r_aload_n (i := 0) (x := a0) 0 rfl d_K_makeFamily_16 ?_
  have h2 := kr_ob h
  clear h
  obtain ⟨v7, ev7, h⟩ := h2
  refine r_getR ev7 fk34 rfl d_K_makeFamily_17 ?_
  refine r_aload_n (i := 1) (x := a1) 1 rfl d_K_makeFamily_20 ?_
  have h2 := kr_ob h
  clear h
  obtain ⟨⟨⟩, eu8, h⟩ := h2
  have h2 := kr_ob2 h
  clear h
  obtain ⟨v10, S9, eS9, h⟩ := h2
  refine r_callV (M1 := m_AL_add1) (κ := 10) (As := [va_rf a1]) eu8 (s_AL_add1 eS9) mok_AL_add1 rfl (by decide) rfl w642 w643 w644 (by decide) (kr_c8 kr_c0) d_K_makeFamily_21 (kr_k1 ?_) kr_kn
  refine r_pop rfl d_K_makeFamily_24 ?_
  refine r_aload_n (i := 0) (x := a0) 0 rfl d_K_makeFamily_25 ?_
  have h2 := kr_ob h
  clear h
  obtain ⟨v11, ev11, h⟩ := h2
  refine r_getR ev11 fk25 rfl d_K_makeFamily_26 ?_
  refine r_iconst (v := (2 : Int32)) (by decide) d_K_makeFamily_29 ?_
  refine r_aload_n (i := 1) (x := a1) 1 rfl d_K_makeFamily_30 ?_
  have h2 := kr_ob h
  clear h
  obtain ⟨v12, ev12, h⟩ := h2
  refine r_getI ev12 fk125 rfl d_K_makeFamily_31 ?_
  refine r_aload_n (i := 0) (x := a0) 0 rfl d_K_makeFamily_34 ?_
  have h2 := kr_ob h
  clear h
  obtain ⟨v13, ev13, h⟩ := h2
  refine r_getI ev13 fk113 rfl d_K_makeFamily_35 ?_
  have h2 := kr_ob h
  clear h
  obtain ⟨⟨⟩, eu14, h⟩ := h2
  have h2 := kr_ob h
  clear h
  obtain ⟨S15, eS15, h⟩ := h2
  refine r_callV (M1 := m_Audit_write) (κ := 12) (As := [.int (2 : Int32), .int v12, .int v13]) eu14 (s_Audit_write eS15) mok_Audit_write rfl (by decide) rfl w472 w473 w474 (by decide) (kr_c8 kr_c0) d_K_makeFamily_38 (kr_k0 ?_) kr_kn
  refine r_aload_n (i := 0) (x := a0) 0 rfl d_K_makeFamily_41 ?_
  refine r_aload_n (i := 1) (x := a1) 1 rfl d_K_makeFamily_42 ?_
  have h2 := kr_ob h
  clear h
  obtain ⟨⟨⟩, eu16, h⟩ := h2
  have h2 := kr_ob h
  clear h
  obtain ⟨S17, eS17, h⟩ := h2
  refine r_callV (M1 := m_K_addFirstHandToken) (κ := 22) (As := [va_rf a1]) eu16 (s_K_addFirstHandToken eS17) mok_K_addFirstHandToken rfl (by decide) rfl w1144 w1146 w29 (by decide) (kr_c8 kr_c0) d_K_makeFamily_43 (kr_k0 ?_) kr_kn
  cases h
  exact r_vret rfl d_K_makeFamily_46
/-! KeyringCourt.redeem(I)I -/
def f_K_redeem_B81 (S : AS) (x0 : Option Nat) (x2 : Option Nat) (y0 : Int32) : Option ((Int32 ⊕ String) × AS) :=
  kr_bx (f_K_requireState S y0) fun z2 S1 =>
  (kr_rv S1 22 x0).bind fun u3 =>
  (f_K_makeFamily S1 x0 x2).bind fun S4 =>
  (gI S4 14 5 x2).bind fun v5 =>
  some (.inl v5, S4)
def f_K_redeem (S : AS) (a0 : Option Nat) (a1 : Int32) : Option ((Int32 ⊕ String) × AS) :=
  (gR S 22 12 a0).bind fun v6 =>
  (kr_rv S 10 v6).bind fun u7 =>
  kr_b2 (f_AL_size S v6) fun v9 S8 =>
  kr_bx (f_K_requireIndex S8 a1 v9) fun z11 S10 =>
  (gR S10 22 12 a0).bind fun v12 =>
  (kr_rv S10 10 v12).bind fun u13 =>
  kr_b2 (f_AL_get S10 v12 a1) fun v15 S14 =>
  (kr_cc S14 14 v15).bind fun u16 =>
  (gI S14 14 5 v15).bind fun v17 =>
  if v17 = (-1 : Int32) then
  (gR S14 14 0 v15).bind fun v18 =>
  (gI S14 19 6 v18).bind fun v19 =>
  if v19 = 0 then
  some (.inl (-1 : Int32), S14)
  else
  (gI S14 22 0 a0).bind fun v20 =>
  (gI S14 14 4 v15).bind fun v21 =>
  if (v20 - v21) ≤ (5 : Int32) then
  (gR S14 22 14 a0).bind fun v22 =>
  (kr_rv S14 10 v22).bind fun u23 =>
  kr_b2 (f_AL_size S14 v22) fun v25 S24 =>
  if (200 : Int32) ≤ v25 then
  f_K_redeem_B81 S24 a0 v15 (0 : Int32)
  else
  f_K_redeem_B81 S24 a0 v15 (1 : Int32)
  else
  some (.inl (-1 : Int32), S14)
  else
  (kr_rv S14 22 a0).bind fun u26 =>
  kr_bx (f_K_endFamily S14 a0 v15) fun z28 S27 =>
  some (.inl (-1 : Int32), S27)
set_option maxRecDepth 20000 in
set_option maxHeartbeats 4000000 in
theorem s_K_redeem_B81 {S : AS} {x0 : Option Nat} {x2 : Option Nat} {y0 : Int32} {r : ((Int32 ⊕ String) × AS)} (h : f_K_redeem_B81 S x0 x2 y0 = some r) : kr_AW m_K_redeem 10 81 [(0, va_rf x0), (2, va_rf x2)] [.int y0] S (kr_xI r) := by
  unfold f_K_redeem_B81 at h
  rcases kr_obx h with ⟨z2, S1, eS1, h2⟩ | ⟨E, S1, eS1, h2⟩
  · clear h
    have h := h2
    clear h2
    refine r_callS (M1 := m_K_requireState) (As := [.int y0]) (s_K_requireState eS1) mok_K_requireState rfl w442 w443 (by decide) (kr_c8 kr_c0) d_K_redeem_81 (kr_k0 ?_) kr_kn
    refine r_aload_n (i := 0) (x := x0) 0 rfl d_K_redeem_84 ?_
    refine r_aload_n (i := 2) (x := x2) 1 rfl d_K_redeem_85 ?_
    have h2 := kr_ob h
    clear h
    obtain ⟨⟨⟩, eu3, h⟩ := h2
    have h2 := kr_ob h
    clear h
    obtain ⟨S4, eS4, h⟩ := h2
    refine r_callV (M1 := m_K_makeFamily) (κ := 22) (As := [va_rf x2]) eu3 (s_K_makeFamily eS4) mok_K_makeFamily rfl (by decide) rfl w1140 w1142 w28 (by decide) (kr_c8 kr_c0) d_K_redeem_86 (kr_k0 ?_) kr_kn
    refine r_aload_n (i := 2) (x := x2) 1 rfl d_K_redeem_89 ?_
    have h2 := kr_ob h
    clear h
    obtain ⟨v5, ev5, h⟩ := h2
    refine r_getI ev5 fk125 rfl d_K_redeem_90 ?_
    cases h
    exact r_iret rfl d_K_redeem_93
  · cases h2
    exact r_callS (M1 := m_K_requireState) (As := [.int y0]) (s_K_requireState eS1) mok_K_requireState rfl w442 w443 (by decide) (kr_c8 kr_c0) d_K_redeem_81 kr_nk (kr_kx (r_out rfl))
set_option maxRecDepth 20000 in
set_option maxHeartbeats 4000000 in
theorem s_K_redeem {S : AS} {a0 : Option Nat} {a1 : Int32} {r : ((Int32 ⊕ String) × AS)} (h : f_K_redeem S a0 a1 = some r) : kr_Con m_K_redeem 10 [va_rf a0, .int a1] S (kr_xI r) := by
  refine kr_con rfl rfl (by decide +kernel) (by simp [lg_sl, kr_rfcat, kr_icat, m_K_redeem, mL]) ?_
  rw [show lv_args 0 [va_rf a0, .int a1] = [(0, va_rf a0), (1, .int a1)] from by simp [lv_args, kr_rfcat, kr_icat]]
  unfold f_K_redeem at h
  refine r_iload_n (i := 1) (x := a1) 1 rfl d_K_redeem_0 ?_
  refine r_aload_n (i := 0) (x := a0) 0 rfl d_K_redeem_1 ?_
  have h2 := kr_ob h
  clear h
  obtain ⟨v6, ev6, h⟩ := h2
  refine r_getR ev6 fk33 rfl d_K_redeem_2 ?_
  have h2 := kr_ob h
  clear h
  obtain ⟨⟨⟩, eu7, h⟩ := h2
  have h2 := kr_ob2 h
  clear h
  obtain ⟨v9, S8, eS8, h⟩ := h2
  refine r_callV (M1 := m_AL_size) (κ := 10) (As := []) eu7 (s_AL_size eS8) mok_AL_size rfl (by decide) rfl w348 w349 w350 (by decide) (kr_c8 (kr_cI kr_c0)) d_K_redeem_5 (kr_k1 ?_) kr_kn
  rcases kr_obx h with ⟨z11, S10, eS10, h2⟩ | ⟨E, S10, eS10, h2⟩
  · clear h
    have h := h2
    clear h2
    refine r_callS (M1 := m_K_requireIndex) (As := [.int a1, .int v9]) (s_K_requireIndex eS10) mok_K_requireIndex rfl w713 w714 (by decide) (kr_c8 kr_c0) d_K_redeem_8 (kr_k0 ?_) kr_kn
    refine r_aload_n (i := 0) (x := a0) 0 rfl d_K_redeem_11 ?_
    have h2 := kr_ob h
    clear h
    obtain ⟨v12, ev12, h⟩ := h2
    refine r_getR ev12 fk33 rfl d_K_redeem_12 ?_
    refine r_iload_n (i := 1) (x := a1) 1 rfl d_K_redeem_15 ?_
    have h2 := kr_ob h
    clear h
    obtain ⟨⟨⟩, eu13, h⟩ := h2
    have h2 := kr_ob2 h
    clear h
    obtain ⟨v15, S14, eS14, h⟩ := h2
    refine r_callV (M1 := m_AL_get) (κ := 10) (As := [.int a1]) eu13 (s_AL_get eS14) mok_AL_get rfl (by decide) rfl w489 w490 w491 (by decide) (kr_c8 kr_c0) d_K_redeem_16 (kr_k1 ?_) kr_kn
    have h2 := kr_ob h
    clear h
    obtain ⟨⟨⟩, eu16, h⟩ := h2
    refine r_cast eu16 (by decide) w520 d_K_redeem_19 ?_
    refine r_astore_n (i := 2) (lv' := [(2, va_rf v15), (0, va_rf a0), (1, .int a1)]) (by decide) rfl d_K_redeem_22 ?_
    refine r_aload_n (i := 2) (x := v15) 0 rfl d_K_redeem_23 ?_
    have h2 := kr_ob h
    clear h
    obtain ⟨v17, ev17, h⟩ := h2
    refine r_getI ev17 fk125 rfl d_K_redeem_24 ?_
    refine r_iconst (v := (-1 : Int32)) (by decide) d_K_redeem_27 ?_
    refine r_icmp_eq (tgt := 38) d_K_redeem_28 rfl (fun c => ?_) (fun c => ?_)
    · replace h := kr_ip c h
      refine r_aload_n (i := 2) (x := v15) 0 rfl d_K_redeem_38 ?_
      have h2 := kr_ob h
      clear h
      obtain ⟨v18, ev18, h⟩ := h2
      refine r_getR ev18 fk126 rfl d_K_redeem_39 ?_
      have h2 := kr_ob h
      clear h
      obtain ⟨v19, ev19, h⟩ := h2
      refine r_getI ev19 fk118 rfl d_K_redeem_42 ?_
      refine r_if_eq (tgt := 61) d_K_redeem_45 rfl (fun c => ?_) (fun c => ?_)
      · replace h := kr_ip c h
        refine r_iconst (v := (-1 : Int32)) (by decide) d_K_redeem_61 ?_
        cases h
        exact r_iret rfl d_K_redeem_62
      · replace h := kr_in_ c h
        refine r_aload_n (i := 0) (x := a0) 1 rfl d_K_redeem_48 ?_
        have h2 := kr_ob h
        clear h
        obtain ⟨v20, ev20, h⟩ := h2
        refine r_getI ev20 fk113 rfl d_K_redeem_49 ?_
        refine r_aload_n (i := 2) (x := v15) 0 rfl d_K_redeem_52 ?_
        have h2 := kr_ob h
        clear h
        obtain ⟨v21, ev21, h⟩ := h2
        refine r_getI ev21 fk201 rfl d_K_redeem_53 ?_
        refine r_isub d_K_redeem_56 ?_
        refine r_iconst (v := (5 : Int32)) (by decide) d_K_redeem_57 ?_
        refine r_icmp_le (tgt := 63) d_K_redeem_58 rfl (fun c => ?_) (fun c => ?_)
        · replace h := kr_ip c h
          refine r_aload_n (i := 0) (x := a0) 1 rfl d_K_redeem_63 ?_
          have h2 := kr_ob h
          clear h
          obtain ⟨v22, ev22, h⟩ := h2
          refine r_getR ev22 fk35 rfl d_K_redeem_64 ?_
          have h2 := kr_ob h
          clear h
          obtain ⟨⟨⟩, eu23, h⟩ := h2
          have h2 := kr_ob2 h
          clear h
          obtain ⟨v25, S24, eS24, h⟩ := h2
          refine r_callV (M1 := m_AL_size) (κ := 10) (As := []) eu23 (s_AL_size eS24) mok_AL_size rfl (by decide) rfl w348 w349 w350 (by decide) (kr_c8 kr_c0) d_K_redeem_67 (kr_k1 ?_) kr_kn
          refine r_sipush (v := (200 : Int32)) (by decide) d_K_redeem_70 ?_
          refine r_icmp_ge (tgt := 80) d_K_redeem_73 rfl (fun c => ?_) (fun c => ?_)
          · replace h := kr_ip c h
            refine r_iconst (v := (0 : Int32)) (by decide) d_K_redeem_80 ?_
            exact kr_sub [1, 0] rfl (s_K_redeem_B81 h)
          · replace h := kr_in_ c h
            refine r_iconst (v := (1 : Int32)) (by decide) d_K_redeem_76 ?_
            refine r_goto (tgt := 81) d_K_redeem_77 rfl ?_
            exact kr_sub [1, 0] rfl (s_K_redeem_B81 h)
        · replace h := kr_in_ c h
          refine r_iconst (v := (-1 : Int32)) (by decide) d_K_redeem_61 ?_
          cases h
          exact r_iret rfl d_K_redeem_62
    · replace h := kr_in_ c h
      refine r_aload_n (i := 0) (x := a0) 1 rfl d_K_redeem_31 ?_
      refine r_aload_n (i := 2) (x := v15) 0 rfl d_K_redeem_32 ?_
      have h2 := kr_ob h
      clear h
      obtain ⟨⟨⟩, eu26, h⟩ := h2
      rcases kr_obx h with ⟨z28, S27, eS27, h2⟩ | ⟨E, S27, eS27, h2⟩
      · clear h
        have h := h2
        clear h2
        refine r_callV (M1 := m_K_endFamily) (κ := 22) (As := [va_rf v15]) eu26 (s_K_endFamily eS27) mok_K_endFamily rfl (by decide) rfl w521 w523 w7 (by decide) (kr_c8 kr_c0) d_K_redeem_33 (kr_k0 ?_) kr_kn
        refine r_iconst (v := (-1 : Int32)) (by decide) d_K_redeem_36 ?_
        cases h
        exact r_iret rfl d_K_redeem_37
      · cases h2
        exact r_callV (M1 := m_K_endFamily) (κ := 22) (As := [va_rf v15]) eu26 (s_K_endFamily eS27) mok_K_endFamily rfl (by decide) rfl w521 w523 w7 (by decide) (kr_c8 kr_c0) d_K_redeem_33 kr_nk (kr_kx (r_out rfl))
  · cases h2
    exact r_callS (M1 := m_K_requireIndex) (As := [.int a1, .int v9]) (s_K_requireIndex eS10) mok_K_requireIndex rfl w713 w714 (by decide) (kr_c8 kr_c0) d_K_redeem_8 kr_nk (kr_kx (r_out rfl))
/-! KeyringCourt.findFamily(I)LKeyringCourt$Grant; -/
def f_K_findFamily (S : AS) (a0 : Option Nat) (a1 : Int32) : Option ((Option Nat ⊕ String) × AS) :=
  (gR S 22 13 a0).bind fun v1 =>
  (kr_rv S 10 v1).bind fun u2 =>
  kr_b2 (f_AL_size S v1) fun v4 S3 =>
  kr_bx (f_K_requireIndex S3 a1 v4) fun z6 S5 =>
  (gR S5 22 13 a0).bind fun v7 =>
  (kr_rv S5 10 v7).bind fun u8 =>
  kr_b2 (f_AL_get S5 v7 a1) fun v10 S9 =>
  (kr_cc S9 14 v10).bind fun u11 =>
  some (.inl v10, S9)
set_option maxRecDepth 20000 in
set_option maxHeartbeats 4000000 in
theorem s_K_findFamily {S : AS} {a0 : Option Nat} {a1 : Int32} {r : ((Option Nat ⊕ String) × AS)} (h : f_K_findFamily S a0 a1 = some r) : kr_Con m_K_findFamily 8 [va_rf a0, .int a1] S (kr_xR r) := by
  refine kr_con rfl rfl (by decide +kernel) (by simp [lg_sl, kr_rfcat, kr_icat, m_K_findFamily, mL]) ?_
  rw [show lv_args 0 [va_rf a0, .int a1] = [(0, va_rf a0), (1, .int a1)] from by simp [lv_args, kr_rfcat, kr_icat]]
  unfold f_K_findFamily at h
  refine r_iload_n (i := 1) (x := a1) 1 rfl d_K_findFamily_0 ?_
  refine r_aload_n (i := 0) (x := a0) 0 rfl d_K_findFamily_1 ?_
  have h2 := kr_ob h
  clear h
  obtain ⟨v1, ev1, h⟩ := h2
  refine r_getR ev1 fk34 rfl d_K_findFamily_2 ?_
  have h2 := kr_ob h
  clear h
  obtain ⟨⟨⟩, eu2, h⟩ := h2
  have h2 := kr_ob2 h
  clear h
  obtain ⟨v4, S3, eS3, h⟩ := h2
  refine r_callV (M1 := m_AL_size) (κ := 10) (As := []) eu2 (s_AL_size eS3) mok_AL_size rfl (by decide) rfl w348 w349 w350 (by decide) (kr_c8 (kr_cI kr_c0)) d_K_findFamily_5 (kr_k1 ?_) kr_kn
  rcases kr_obx h with ⟨z6, S5, eS5, h2⟩ | ⟨E, S5, eS5, h2⟩
  · clear h
    have h := h2
    clear h2
    refine r_callS (M1 := m_K_requireIndex) (As := [.int a1, .int v4]) (s_K_requireIndex eS5) mok_K_requireIndex rfl w713 w714 (by decide) (kr_c8 kr_c0) d_K_findFamily_8 (kr_k0 ?_) kr_kn
    refine r_aload_n (i := 0) (x := a0) 0 rfl d_K_findFamily_11 ?_
    have h2 := kr_ob h
    clear h
    obtain ⟨v7, ev7, h⟩ := h2
    refine r_getR ev7 fk34 rfl d_K_findFamily_12 ?_
    refine r_iload_n (i := 1) (x := a1) 1 rfl d_K_findFamily_15 ?_
    have h2 := kr_ob h
    clear h
    obtain ⟨⟨⟩, eu8, h⟩ := h2
    have h2 := kr_ob2 h
    clear h
    obtain ⟨v10, S9, eS9, h⟩ := h2
    refine r_callV (M1 := m_AL_get) (κ := 10) (As := [.int a1]) eu8 (s_AL_get eS9) mok_AL_get rfl (by decide) rfl w489 w490 w491 (by decide) (kr_c8 kr_c0) d_K_findFamily_16 (kr_k1 ?_) kr_kn
    have h2 := kr_ob h
    clear h
    obtain ⟨⟨⟩, eu11, h⟩ := h2
    refine r_cast eu11 (by decide) w520 d_K_findFamily_19 ?_
    cases h
    exact r_aret rfl rfl d_K_findFamily_22
  · cases h2
    exact r_callS (M1 := m_K_requireIndex) (As := [.int a1, .int v4]) (s_K_requireIndex eS5) mok_K_requireIndex rfl w713 w714 (by decide) (kr_c8 kr_c0) d_K_findFamily_8 kr_nk (kr_kx (r_out rfl))
/-! KeyringCourt.rotate(LKeyringCourt$Grant;)V -/
def f_K_rotate (S : AS) (a0 : Option Nat) (a1 : Option Nat) : Option AS :=
  (gI S 14 7 a1).bind fun v1 =>
  (pI S 14 7 a1 (v1 + (1 : Int32))).bind fun S2 =>
  (gI S2 22 0 a0).bind fun v3 =>
  (pI S2 14 8 a1 v3).bind fun S4 =>
  (gR S4 14 0 a1).bind fun v5 =>
  (gI S4 22 0 a0).bind fun v6 =>
  (pI S4 19 5 v5 v6).bind fun S7 =>
  (kr_rv S7 22 a0).bind fun u8 =>
  (f_K_addFirstHandToken S7 a0 a1).bind fun S9 =>
  some S9
set_option maxRecDepth 20000 in
set_option maxHeartbeats 4000000 in
theorem s_K_rotate {S : AS} {a0 : Option Nat} {a1 : Option Nat} {r : AS} (h : f_K_rotate S a0 a1 = some r) : kr_Con m_K_rotate 9 [va_rf a0, va_rf a1] S (kr_eV r) := by
  refine kr_con rfl rfl (by decide +kernel) (by simp [lg_sl, kr_rfcat, kr_icat, m_K_rotate, mL]) ?_
  rw [show lv_args 0 [va_rf a0, va_rf a1] = [(0, va_rf a0), (1, va_rf a1)] from by simp [lv_args, kr_rfcat, kr_icat]]
  unfold f_K_rotate at h
  refine r_aload_n (i := 1) (x := a1) 1 rfl d_K_rotate_0 ?_
  refine r_dup (kr_rfcat _) d_K_rotate_1 ?_
  have h2 := kr_ob h
  clear h
  obtain ⟨v1, ev1, h⟩ := h2
  refine r_getI ev1 fk202 rfl d_K_rotate_2 ?_
  refine r_iconst (v := (1 : Int32)) (by decide) d_K_rotate_5 ?_
  refine r_iadd d_K_rotate_6 ?_
  have h2 := kr_ob h
  clear h
  obtain ⟨S2, eS2, h⟩ := h2
  refine r_putI eS2 fk202 (Or.inl rfl) rfl d_K_rotate_7 ?_
  refine r_aload_n (i := 1) (x := a1) 1 rfl d_K_rotate_10 ?_
  refine r_aload_n (i := 0) (x := a0) 0 rfl d_K_rotate_11 ?_
  have h2 := kr_ob h
  clear h
  obtain ⟨v3, ev3, h⟩ := h2
  refine r_getI ev3 fk113 rfl d_K_rotate_12 ?_
  have h2 := kr_ob h
  clear h
  obtain ⟨S4, eS4, h⟩ := h2
  refine r_putI eS4 fk203 (Or.inl rfl) rfl d_K_rotate_15 ?_
  refine r_aload_n (i := 1) (x := a1) 1 rfl d_K_rotate_18 ?_
  have h2 := kr_ob h
  clear h
  obtain ⟨v5, ev5, h⟩ := h2
  refine r_getR ev5 fk126 rfl d_K_rotate_19 ?_
  refine r_aload_n (i := 0) (x := a0) 0 rfl d_K_rotate_22 ?_
  have h2 := kr_ob h
  clear h
  obtain ⟨v6, ev6, h⟩ := h2
  refine r_getI ev6 fk113 rfl d_K_rotate_23 ?_
  have h2 := kr_ob h
  clear h
  obtain ⟨S7, eS7, h⟩ := h2
  refine r_putI eS7 fk173 (Or.inl rfl) rfl d_K_rotate_26 ?_
  refine r_aload_n (i := 0) (x := a0) 0 rfl d_K_rotate_29 ?_
  refine r_aload_n (i := 1) (x := a1) 1 rfl d_K_rotate_30 ?_
  have h2 := kr_ob h
  clear h
  obtain ⟨⟨⟩, eu8, h⟩ := h2
  have h2 := kr_ob h
  clear h
  obtain ⟨S9, eS9, h⟩ := h2
  refine r_callV (M1 := m_K_addFirstHandToken) (κ := 22) (As := [va_rf a1]) eu8 (s_K_addFirstHandToken eS9) mok_K_addFirstHandToken rfl (by decide) rfl w1144 w1146 w29 (by decide) (kr_c8 kr_c0) d_K_rotate_31 (kr_k0 ?_) kr_kn
  cases h
  exact r_vret rfl d_K_rotate_34
/-! KeyringCourt.refresh(II)I -/
def f_K_refresh_B63 (S : AS) (x0 : Option Nat) (x3 : Option Nat) (y0 : Int32) : Option ((Int32 ⊕ String) × AS) :=
  kr_bx (f_K_requireState S y0) fun z2 S1 =>
  (kr_rv S1 22 x0).bind fun u3 =>
  (f_K_rotate S1 x0 x3).bind fun S4 =>
  (gI S4 14 7 x3).bind fun v5 =>
  some (.inl v5, S4)
def f_K_refresh_B104 (S : AS) (x0 : Option Nat) (x3 : Option Nat) : Option ((Int32 ⊕ String) × AS) :=
  (kr_rv S 22 x0).bind fun u6 =>
  kr_bx (f_K_endFamily S x0 x3) fun z8 S7 =>
  some (.inl (-1 : Int32), S7)
def f_K_refresh (S : AS) (a0 : Option Nat) (a1 : Int32) (a2 : Int32) : Option ((Int32 ⊕ String) × AS) :=
  (kr_rv S 22 a0).bind fun u9 =>
  kr_bx (f_K_findFamily S a0 a1) fun v11 S10 =>
  (gI S10 14 7 v11).bind fun v12 =>
  kr_b2 (f_K_isWithin S10 a2 (0 : Int32) v12) fun v14 S13 =>
  kr_bx (f_K_requireArgument S13 v14) fun z16 S15 =>
  (gI S15 14 6 v11).bind fun v17 =>
  if v17 = 0 then
  some (.inl (-1 : Int32), S15)
  else
  (gR S15 14 0 v11).bind fun v18 =>
  (gI S15 19 6 v18).bind fun v19 =>
  if v19 = 0 then
  some (.inl (-1 : Int32), S15)
  else
  (gI S15 14 7 v11).bind fun v20 =>
  if a2 = v20 then
  (gR S15 22 14 a0).bind fun v21 =>
  (kr_rv S15 10 v21).bind fun u22 =>
  kr_b2 (f_AL_size S15 v21) fun v24 S23 =>
  if (200 : Int32) ≤ v24 then
  f_K_refresh_B63 S23 a0 v11 (0 : Int32)
  else
  f_K_refresh_B63 S23 a0 v11 (1 : Int32)
  else
  (gI S15 14 7 v11).bind fun v25 =>
  if a2 = (v25 - (1 : Int32)) then
  (gI S15 22 0 a0).bind fun v26 =>
  (gI S15 14 8 v11).bind fun v27 =>
  if (1 : Int32) < (v26 - v27) then
  f_K_refresh_B104 S15 a0 v11
  else
  (gI S15 14 7 v11).bind fun v28 =>
  some (.inl v28, S15)
  else
  f_K_refresh_B104 S15 a0 v11
set_option maxRecDepth 20000 in
set_option maxHeartbeats 4000000 in
theorem s_K_refresh_B63 {S : AS} {x0 : Option Nat} {x3 : Option Nat} {y0 : Int32} {r : ((Int32 ⊕ String) × AS)} (h : f_K_refresh_B63 S x0 x3 y0 = some r) : kr_AW m_K_refresh 10 63 [(0, va_rf x0), (3, va_rf x3)] [.int y0] S (kr_xI r) := by
  unfold f_K_refresh_B63 at h
  rcases kr_obx h with ⟨z2, S1, eS1, h2⟩ | ⟨E, S1, eS1, h2⟩
  · clear h
    have h := h2
    clear h2
    refine r_callS (M1 := m_K_requireState) (As := [.int y0]) (s_K_requireState eS1) mok_K_requireState rfl w442 w443 (by decide) (kr_c8 kr_c0) d_K_refresh_63 (kr_k0 ?_) kr_kn
    refine r_aload_n (i := 0) (x := x0) 0 rfl d_K_refresh_66 ?_
    refine r_aload_n (i := 3) (x := x3) 1 rfl d_K_refresh_67 ?_
    have h2 := kr_ob h
    clear h
    obtain ⟨⟨⟩, eu3, h⟩ := h2
    have h2 := kr_ob h
    clear h
    obtain ⟨S4, eS4, h⟩ := h2
    refine r_callV (M1 := m_K_rotate) (κ := 22) (As := [va_rf x3]) eu3 (s_K_rotate eS4) mok_K_rotate rfl (by decide) rfl w1198 w1200 w32 (by decide) (kr_c8 kr_c0) d_K_refresh_68 (kr_k0 ?_) kr_kn
    refine r_aload_n (i := 3) (x := x3) 1 rfl d_K_refresh_71 ?_
    have h2 := kr_ob h
    clear h
    obtain ⟨v5, ev5, h⟩ := h2
    refine r_getI ev5 fk202 rfl d_K_refresh_72 ?_
    cases h
    exact r_iret rfl d_K_refresh_75
  · cases h2
    exact r_callS (M1 := m_K_requireState) (As := [.int y0]) (s_K_requireState eS1) mok_K_requireState rfl w442 w443 (by decide) (kr_c8 kr_c0) d_K_refresh_63 kr_nk (kr_kx (r_out rfl))
set_option maxRecDepth 20000 in
set_option maxHeartbeats 4000000 in
theorem s_K_refresh_B104 {S : AS} {x0 : Option Nat} {x3 : Option Nat} {r : ((Int32 ⊕ String) × AS)} (h : f_K_refresh_B104 S x0 x3 = some r) : kr_AW m_K_refresh 10 104 [(0, va_rf x0), (3, va_rf x3)] [] S (kr_xI r) := by
  unfold f_K_refresh_B104 at h
  refine r_aload_n (i := 0) (x := x0) 0 rfl d_K_refresh_104 ?_
  refine r_aload_n (i := 3) (x := x3) 1 rfl d_K_refresh_105 ?_
  have h2 := kr_ob h
  clear h
  obtain ⟨⟨⟩, eu6, h⟩ := h2
  rcases kr_obx h with ⟨z8, S7, eS7, h2⟩ | ⟨E, S7, eS7, h2⟩
  · clear h
    have h := h2
    clear h2
    refine r_callV (M1 := m_K_endFamily) (κ := 22) (As := [va_rf x3]) eu6 (s_K_endFamily eS7) mok_K_endFamily rfl (by decide) rfl w521 w523 w7 (by decide) (kr_c8 kr_c0) d_K_refresh_106 (kr_k0 ?_) kr_kn
    refine r_iconst (v := (-1 : Int32)) (by decide) d_K_refresh_109 ?_
    cases h
    exact r_iret rfl d_K_refresh_110
  · cases h2
    exact r_callV (M1 := m_K_endFamily) (κ := 22) (As := [va_rf x3]) eu6 (s_K_endFamily eS7) mok_K_endFamily rfl (by decide) rfl w521 w523 w7 (by decide) (kr_c8 kr_c0) d_K_refresh_106 kr_nk (kr_kx (r_out rfl))
set_option maxRecDepth 20000 in
set_option maxHeartbeats 4000000 in
theorem s_K_refresh {S : AS} {a0 : Option Nat} {a1 : Int32} {a2 : Int32} {r : ((Int32 ⊕ String) × AS)} (h : f_K_refresh S a0 a1 a2 = some r) : kr_Con m_K_refresh 10 [va_rf a0, .int a1, .int a2] S (kr_xI r) := by
  refine kr_con rfl rfl (by decide +kernel) (by simp [lg_sl, kr_rfcat, kr_icat, m_K_refresh, mL]) ?_
  rw [show lv_args 0 [va_rf a0, .int a1, .int a2] = [(0, va_rf a0), (1, .int a1), (2, .int a2)] from by simp [lv_args, kr_rfcat, kr_icat]]
  unfold f_K_refresh at h
  refine r_aload_n (i := 0) (x := a0) 0 rfl d_K_refresh_0 ?_
  refine r_iload_n (i := 1) (x := a1) 1 rfl d_K_refresh_1 ?_
  have h2 := kr_ob h
  clear h
  obtain ⟨⟨⟩, eu9, h⟩ := h2
  rcases kr_obx h with ⟨v11, S10, eS10, h2⟩ | ⟨E, S10, eS10, h2⟩
  · clear h
    have h := h2
    clear h2
    refine r_callV (M1 := m_K_findFamily) (κ := 22) (As := [.int a1]) eu9 (s_K_findFamily eS10) mok_K_findFamily rfl (by decide) rfl w1194 w1196 w31 (by decide) (kr_c8 kr_c0) d_K_refresh_2 (kr_k1 ?_) kr_kn
    refine r_astore_n (i := 3) (lv' := [(3, va_rf v11), (0, va_rf a0), (1, .int a1), (2, .int a2)]) (by decide) rfl d_K_refresh_5 ?_
    refine r_iload_n (i := 2) (x := a2) 3 rfl d_K_refresh_6 ?_
    refine r_iconst (v := (0 : Int32)) (by decide) d_K_refresh_7 ?_
    refine r_aload_n (i := 3) (x := v11) 0 rfl d_K_refresh_8 ?_
    have h2 := kr_ob h
    clear h
    obtain ⟨v12, ev12, h⟩ := h2
    refine r_getI ev12 fk202 rfl d_K_refresh_9 ?_
    have h2 := kr_ob2 h
    clear h
    obtain ⟨v14, S13, eS13, h⟩ := h2
    refine r_callS (M1 := m_K_isWithin) (As := [.int a2, .int (0 : Int32), .int v12]) (s_K_isWithin eS13) mok_K_isWithin rfl w373 w374 (by decide) (kr_c8 kr_c0) d_K_refresh_12 (kr_k1 ?_) kr_kn
    rcases kr_obx h with ⟨z16, S15, eS15, h2⟩ | ⟨E, S15, eS15, h2⟩
    · clear h
      have h := h2
      clear h2
      refine r_callS (M1 := m_K_requireArgument) (As := [.int v14]) (s_K_requireArgument eS15) mok_K_requireArgument rfl w376 w377 (by decide) (kr_c8 kr_c0) d_K_refresh_15 (kr_k0 ?_) kr_kn
      refine r_aload_n (i := 3) (x := v11) 0 rfl d_K_refresh_18 ?_
      have h2 := kr_ob h
      clear h
      obtain ⟨v17, ev17, h⟩ := h2
      refine r_getI ev17 fk124 rfl d_K_refresh_19 ?_
      refine r_if_eq (tgt := 35) d_K_refresh_22 rfl (fun c => ?_) (fun c => ?_)
      · replace h := kr_ip c h
        refine r_iconst (v := (-1 : Int32)) (by decide) d_K_refresh_35 ?_
        cases h
        exact r_iret rfl d_K_refresh_36
      · replace h := kr_in_ c h
        refine r_aload_n (i := 3) (x := v11) 0 rfl d_K_refresh_25 ?_
        have h2 := kr_ob h
        clear h
        obtain ⟨v18, ev18, h⟩ := h2
        refine r_getR ev18 fk126 rfl d_K_refresh_26 ?_
        have h2 := kr_ob h
        clear h
        obtain ⟨v19, ev19, h⟩ := h2
        refine r_getI ev19 fk118 rfl d_K_refresh_29 ?_
        refine r_if_ne (tgt := 37) d_K_refresh_32 rfl (fun c => ?_) (fun c => ?_)
        · replace h := kr_ip c h
          refine r_iconst (v := (-1 : Int32)) (by decide) d_K_refresh_35 ?_
          cases h
          exact r_iret rfl d_K_refresh_36
        · replace h := kr_in_ c h
          refine r_iload_n (i := 2) (x := a2) 3 rfl d_K_refresh_37 ?_
          refine r_aload_n (i := 3) (x := v11) 0 rfl d_K_refresh_38 ?_
          have h2 := kr_ob h
          clear h
          obtain ⟨v20, ev20, h⟩ := h2
          refine r_getI ev20 fk202 rfl d_K_refresh_39 ?_
          refine r_icmp_ne (tgt := 76) d_K_refresh_42 rfl (fun c => ?_) (fun c => ?_)
          · replace h := kr_ip c h
            refine r_aload_n (i := 0) (x := a0) 1 rfl d_K_refresh_45 ?_
            have h2 := kr_ob h
            clear h
            obtain ⟨v21, ev21, h⟩ := h2
            refine r_getR ev21 fk35 rfl d_K_refresh_46 ?_
            have h2 := kr_ob h
            clear h
            obtain ⟨⟨⟩, eu22, h⟩ := h2
            have h2 := kr_ob2 h
            clear h
            obtain ⟨v24, S23, eS23, h⟩ := h2
            refine r_callV (M1 := m_AL_size) (κ := 10) (As := []) eu22 (s_AL_size eS23) mok_AL_size rfl (by decide) rfl w348 w349 w350 (by decide) (kr_c8 kr_c0) d_K_refresh_49 (kr_k1 ?_) kr_kn
            refine r_sipush (v := (200 : Int32)) (by decide) d_K_refresh_52 ?_
            refine r_icmp_ge (tgt := 62) d_K_refresh_55 rfl (fun c => ?_) (fun c => ?_)
            · replace h := kr_ip c h
              refine r_iconst (v := (0 : Int32)) (by decide) d_K_refresh_62 ?_
              exact kr_sub [1, 0] rfl (s_K_refresh_B63 h)
            · replace h := kr_in_ c h
              refine r_iconst (v := (1 : Int32)) (by decide) d_K_refresh_58 ?_
              refine r_goto (tgt := 63) d_K_refresh_59 rfl ?_
              exact kr_sub [1, 0] rfl (s_K_refresh_B63 h)
          · replace h := kr_in_ c h
            refine r_iload_n (i := 2) (x := a2) 3 rfl d_K_refresh_76 ?_
            refine r_aload_n (i := 3) (x := v11) 0 rfl d_K_refresh_77 ?_
            have h2 := kr_ob h
            clear h
            obtain ⟨v25, ev25, h⟩ := h2
            refine r_getI ev25 fk202 rfl d_K_refresh_78 ?_
            refine r_iconst (v := (1 : Int32)) (by decide) d_K_refresh_81 ?_
            refine r_isub d_K_refresh_82 ?_
            refine r_icmp_ne (tgt := 104) d_K_refresh_83 rfl (fun c => ?_) (fun c => ?_)
            · replace h := kr_ip c h
              refine r_aload_n (i := 0) (x := a0) 1 rfl d_K_refresh_86 ?_
              have h2 := kr_ob h
              clear h
              obtain ⟨v26, ev26, h⟩ := h2
              refine r_getI ev26 fk113 rfl d_K_refresh_87 ?_
              refine r_aload_n (i := 3) (x := v11) 0 rfl d_K_refresh_90 ?_
              have h2 := kr_ob h
              clear h
              obtain ⟨v27, ev27, h⟩ := h2
              refine r_getI ev27 fk203 rfl d_K_refresh_91 ?_
              refine r_isub d_K_refresh_94 ?_
              refine r_iconst (v := (1 : Int32)) (by decide) d_K_refresh_95 ?_
              refine r_icmp_gt (tgt := 104) d_K_refresh_96 rfl (fun c => ?_) (fun c => ?_)
              · replace h := kr_ip c h
                exact kr_sub [1, 0] rfl (s_K_refresh_B104 h)
              · replace h := kr_in_ c h
                refine r_aload_n (i := 3) (x := v11) 0 rfl d_K_refresh_99 ?_
                have h2 := kr_ob h
                clear h
                obtain ⟨v28, ev28, h⟩ := h2
                refine r_getI ev28 fk202 rfl d_K_refresh_100 ?_
                cases h
                exact r_iret rfl d_K_refresh_103
            · replace h := kr_in_ c h
              exact kr_sub [1, 0] rfl (s_K_refresh_B104 h)
    · cases h2
      exact r_callS (M1 := m_K_requireArgument) (As := [.int v14]) (s_K_requireArgument eS15) mok_K_requireArgument rfl w376 w377 (by decide) (kr_c8 kr_c0) d_K_refresh_15 kr_nk (kr_kx (r_out rfl))
  · cases h2
    exact r_callV (M1 := m_K_findFamily) (κ := 22) (As := [.int a1]) eu9 (s_K_findFamily eS10) mok_K_findFamily rfl (by decide) rfl w1194 w1196 w31 (by decide) (kr_c8 kr_c0) d_K_refresh_2 kr_nk (kr_kx (r_out rfl))
/-! KeyringCourt.isGood(I)Z -/
def f_K_isGood (S : AS) (a0 : Option Nat) (a1 : Int32) : Option ((Int32 ⊕ String) × AS) :=
  (kr_rv S 22 a0).bind fun u1 =>
  kr_bx (f_K_findFamily S a0 a1) fun v3 S2 =>
  (gI S2 14 6 v3).bind fun v4 =>
  (kr_z v4).bind fun u5 =>
  some (.inl v4, S2)
set_option maxRecDepth 20000 in
set_option maxHeartbeats 4000000 in
theorem s_K_isGood {S : AS} {a0 : Option Nat} {a1 : Int32} {r : ((Int32 ⊕ String) × AS)} (h : f_K_isGood S a0 a1 = some r) : kr_Con m_K_isGood 9 [va_rf a0, .int a1] S (kr_xI r) := by
  refine kr_con rfl rfl (by decide +kernel) (by simp [lg_sl, kr_rfcat, kr_icat, m_K_isGood, mL]) ?_
  rw [show lv_args 0 [va_rf a0, .int a1] = [(0, va_rf a0), (1, .int a1)] from by simp [lv_args, kr_rfcat, kr_icat]]
  unfold f_K_isGood at h
  refine r_aload_n (i := 0) (x := a0) 0 rfl d_K_isGood_0 ?_
  refine r_iload_n (i := 1) (x := a1) 1 rfl d_K_isGood_1 ?_
  have h2 := kr_ob h
  clear h
  obtain ⟨⟨⟩, eu1, h⟩ := h2
  rcases kr_obx h with ⟨v3, S2, eS2, h2⟩ | ⟨E, S2, eS2, h2⟩
  · clear h
    have h := h2
    clear h2
    refine r_callV (M1 := m_K_findFamily) (κ := 22) (As := [.int a1]) eu1 (s_K_findFamily eS2) mok_K_findFamily rfl (by decide) rfl w1194 w1196 w31 (by decide) (kr_c8 kr_c0) d_K_isGood_2 (kr_k1 ?_) kr_kn
    have h2 := kr_ob h
    clear h
    obtain ⟨v4, ev4, h⟩ := h2
    refine r_getI ev4 fk124 rfl d_K_isGood_5 ?_
    have h2 := kr_ob h
    clear h
    obtain ⟨⟨⟩, eu5, h⟩ := h2
    cases h
    exact r_zret rfl eu5 d_K_isGood_8
  · cases h2
    exact r_callV (M1 := m_K_findFamily) (κ := 22) (As := [.int a1]) eu1 (s_K_findFamily eS2) mok_K_findFamily rfl (by decide) rfl w1194 w1196 w31 (by decide) (kr_c8 kr_c0) d_K_isGood_2 kr_nk (kr_kx (r_out rfl))
/-! KeyringCourt.tokenOf(I)I -/
def f_K_tokenOf (S : AS) (a0 : Option Nat) (a1 : Int32) : Option ((Int32 ⊕ String) × AS) :=
  (kr_rv S 22 a0).bind fun u1 =>
  kr_bx (f_K_findFamily S a0 a1) fun v3 S2 =>
  (gI S2 14 9 v3).bind fun v4 =>
  some (.inl v4, S2)
set_option maxRecDepth 20000 in
set_option maxHeartbeats 4000000 in
theorem s_K_tokenOf {S : AS} {a0 : Option Nat} {a1 : Int32} {r : ((Int32 ⊕ String) × AS)} (h : f_K_tokenOf S a0 a1 = some r) : kr_Con m_K_tokenOf 9 [va_rf a0, .int a1] S (kr_xI r) := by
  refine kr_con rfl rfl (by decide +kernel) (by simp [lg_sl, kr_rfcat, kr_icat, m_K_tokenOf, mL]) ?_
  rw [show lv_args 0 [va_rf a0, .int a1] = [(0, va_rf a0), (1, .int a1)] from by simp [lv_args, kr_rfcat, kr_icat]]
  unfold f_K_tokenOf at h
  refine r_aload_n (i := 0) (x := a0) 0 rfl d_K_tokenOf_0 ?_
  refine r_iload_n (i := 1) (x := a1) 1 rfl d_K_tokenOf_1 ?_
  have h2 := kr_ob h
  clear h
  obtain ⟨⟨⟩, eu1, h⟩ := h2
  rcases kr_obx h with ⟨v3, S2, eS2, h2⟩ | ⟨E, S2, eS2, h2⟩
  · clear h
    have h := h2
    clear h2
    refine r_callV (M1 := m_K_findFamily) (κ := 22) (As := [.int a1]) eu1 (s_K_findFamily eS2) mok_K_findFamily rfl (by decide) rfl w1194 w1196 w31 (by decide) (kr_c8 kr_c0) d_K_tokenOf_2 (kr_k1 ?_) kr_kn
    have h2 := kr_ob h
    clear h
    obtain ⟨v4, ev4, h⟩ := h2
    refine r_getI ev4 fk196 rfl d_K_tokenOf_5 ?_
    cases h
    exact r_iret rfl d_K_tokenOf_8
  · cases h2
    exact r_callV (M1 := m_K_findFamily) (κ := 22) (As := [.int a1]) eu1 (s_K_findFamily eS2) mok_K_findFamily rfl (by decide) rfl w1194 w1196 w31 (by decide) (kr_c8 kr_c0) d_K_tokenOf_2 kr_nk (kr_kx (r_out rfl))
/-! KeyringCourt.findToken(I)LKeyringCourt$Token; -/
def f_K_findToken (S : AS) (a0 : Option Nat) (a1 : Int32) : Option ((Option Nat ⊕ String) × AS) :=
  (gR S 22 14 a0).bind fun v1 =>
  (kr_rv S 10 v1).bind fun u2 =>
  kr_b2 (f_AL_size S v1) fun v4 S3 =>
  kr_bx (f_K_requireIndex S3 a1 v4) fun z6 S5 =>
  (gR S5 22 14 a0).bind fun v7 =>
  (kr_rv S5 10 v7).bind fun u8 =>
  kr_b2 (f_AL_get S5 v7 a1) fun v10 S9 =>
  (kr_cc S9 21 v10).bind fun u11 =>
  some (.inl v10, S9)
set_option maxRecDepth 20000 in
set_option maxHeartbeats 4000000 in
theorem s_K_findToken {S : AS} {a0 : Option Nat} {a1 : Int32} {r : ((Option Nat ⊕ String) × AS)} (h : f_K_findToken S a0 a1 = some r) : kr_Con m_K_findToken 8 [va_rf a0, .int a1] S (kr_xR r) := by
  refine kr_con rfl rfl (by decide +kernel) (by simp [lg_sl, kr_rfcat, kr_icat, m_K_findToken, mL]) ?_
  rw [show lv_args 0 [va_rf a0, .int a1] = [(0, va_rf a0), (1, .int a1)] from by simp [lv_args, kr_rfcat, kr_icat]]
  unfold f_K_findToken at h
  refine r_iload_n (i := 1) (x := a1) 1 rfl d_K_findToken_0 ?_
  refine r_aload_n (i := 0) (x := a0) 0 rfl d_K_findToken_1 ?_
  have h2 := kr_ob h
  clear h
  obtain ⟨v1, ev1, h⟩ := h2
  refine r_getR ev1 fk35 rfl d_K_findToken_2 ?_
  have h2 := kr_ob h
  clear h
  obtain ⟨⟨⟩, eu2, h⟩ := h2
  have h2 := kr_ob2 h
  clear h
  obtain ⟨v4, S3, eS3, h⟩ := h2
  refine r_callV (M1 := m_AL_size) (κ := 10) (As := []) eu2 (s_AL_size eS3) mok_AL_size rfl (by decide) rfl w348 w349 w350 (by decide) (kr_c8 (kr_cI kr_c0)) d_K_findToken_5 (kr_k1 ?_) kr_kn
  rcases kr_obx h with ⟨z6, S5, eS5, h2⟩ | ⟨E, S5, eS5, h2⟩
  · clear h
    have h := h2
    clear h2
    refine r_callS (M1 := m_K_requireIndex) (As := [.int a1, .int v4]) (s_K_requireIndex eS5) mok_K_requireIndex rfl w713 w714 (by decide) (kr_c8 kr_c0) d_K_findToken_8 (kr_k0 ?_) kr_kn
    refine r_aload_n (i := 0) (x := a0) 0 rfl d_K_findToken_11 ?_
    have h2 := kr_ob h
    clear h
    obtain ⟨v7, ev7, h⟩ := h2
    refine r_getR ev7 fk35 rfl d_K_findToken_12 ?_
    refine r_iload_n (i := 1) (x := a1) 1 rfl d_K_findToken_15 ?_
    have h2 := kr_ob h
    clear h
    obtain ⟨⟨⟩, eu8, h⟩ := h2
    have h2 := kr_ob2 h
    clear h
    obtain ⟨v10, S9, eS9, h⟩ := h2
    refine r_callV (M1 := m_AL_get) (κ := 10) (As := [.int a1]) eu8 (s_AL_get eS9) mok_AL_get rfl (by decide) rfl w489 w490 w491 (by decide) (kr_c8 kr_c0) d_K_findToken_16 (kr_k1 ?_) kr_kn
    have h2 := kr_ob h
    clear h
    obtain ⟨⟨⟩, eu11, h⟩ := h2
    refine r_cast eu11 (by decide) w1148 d_K_findToken_19 ?_
    cases h
    exact r_aret rfl rfl d_K_findToken_22
  · cases h2
    exact r_callS (M1 := m_K_requireIndex) (As := [.int a1, .int v4]) (s_K_requireIndex eS5) mok_K_requireIndex rfl w713 w714 (by decide) (kr_c8 kr_c0) d_K_findToken_8 kr_nk (kr_kx (r_out rfl))
/-! KeyringCourt.exchange(III)I -/
def f_K_exchange_B102 (S : AS) (x0 : Option Nat) (x2 : Int32) (x3 : Int32) (x4 : Option Nat) (x5 : Option Nat) (y0 : Int32) : Option ((Int32 ⊕ String) × AS) :=
  kr_bx (f_K_requireState S y0) fun z2 S1 =>
  (gR S1 21 0 x4).bind fun v3 =>
  (gR S1 14 0 v3).bind fun v4 =>
  (gI S1 22 0 x0).bind fun v5 =>
  (kr_rv S1 19 v4).bind fun u6 =>
  kr_b2 (f_Session_levelAt S1 v4 v5) fun v8 S7 =>
  (gI S7 18 0 x5).bind fun v9 =>
  if v9 ≤ v8 then
  (some (nO S7 21)).bind fun S10 =>
  (gR S10 21 0 x4).bind fun v11 =>
  (gI S10 21 2 x4).bind fun v12 =>
  (gI S10 21 4 x4).bind fun v13 =>
  (gR S10 22 15 x0).bind fun v14 =>
  (gI S10 15 1 v14).bind fun v15 =>
  (gI S10 21 6 x4).bind fun v16 =>
  (f_Token_init S10 (some (sN S7)) v11 v12 x2 x3 (v13 + (1 : Int32)) v15 v16).bind fun S17 =>
  (kr_rv S17 22 x0).bind fun u18 =>
  (f_K_addToken S17 x0 (some (sN S7))).bind fun S19 =>
  (gR S19 22 14 x0).bind fun v20 =>
  (kr_rv S19 10 v20).bind fun u21 =>
  kr_b2 (f_AL_size S19 v20) fun v23 S22 =>
  some (.inl (v23 - (1 : Int32)), S22)
  else
  some (.inl (-2 : Int32), S7)
def f_K_exchange_B81 (S : AS) (x0 : Option Nat) (x2 : Int32) (x3 : Int32) (x4 : Option Nat) (x5 : Option Nat) (y0 : Int32) : Option ((Int32 ⊕ String) × AS) :=
  kr_bx (f_K_requireState S y0) fun z25 S24 =>
  (gR S24 22 14 x0).bind fun v26 =>
  (kr_rv S24 10 v26).bind fun u27 =>
  kr_b2 (f_AL_size S24 v26) fun v29 S28 =>
  if (200 : Int32) ≤ v29 then
  f_K_exchange_B102 S28 x0 x2 x3 x4 x5 (0 : Int32)
  else
  f_K_exchange_B102 S28 x0 x2 x3 x4 x5 (1 : Int32)
def f_K_exchange_B80 (S : AS) (x0 : Option Nat) (x2 : Int32) (x3 : Int32) (x4 : Option Nat) (x5 : Option Nat) : Option ((Int32 ⊕ String) × AS) :=
  f_K_exchange_B81 S x0 x2 x3 x4 x5 (0 : Int32)
def f_K_exchange_B41 (S : AS) (x0 : Option Nat) (x2 : Int32) (x3 : Int32) (x4 : Option Nat) (x5 : Option Nat) (y0 : Int32) : Option ((Int32 ⊕ String) × AS) :=
  kr_bx (f_K_requireArgument S y0) fun z31 S30 =>
  (gI S30 22 0 x0).bind fun v32 =>
  (gI S30 21 6 x4).bind fun v33 =>
  if v33 < v32 then
  f_K_exchange_B80 S30 x0 x2 x3 x4 x5
  else
  (gR S30 21 0 x4).bind fun v34 =>
  (gI S30 14 6 v34).bind fun v35 =>
  if v35 = 0 then
  f_K_exchange_B80 S30 x0 x2 x3 x4 x5
  else
  (gI S30 21 4 x4).bind fun v36 =>
  if (3 : Int32) ≤ v36 then
  f_K_exchange_B80 S30 x0 x2 x3 x4 x5
  else
  f_K_exchange_B81 S30 x0 x2 x3 x4 x5 (1 : Int32)
def f_K_exchange_B40 (S : AS) (x0 : Option Nat) (x2 : Int32) (x3 : Int32) (x4 : Option Nat) (x5 : Option Nat) : Option ((Int32 ⊕ String) × AS) :=
  f_K_exchange_B41 S x0 x2 x3 x4 x5 (0 : Int32)
def f_K_exchange (S : AS) (a0 : Option Nat) (a1 : Int32) (a2 : Int32) (a3 : Int32) : Option ((Int32 ⊕ String) × AS) :=
  (kr_rv S 22 a0).bind fun u37 =>
  kr_bx (f_K_findToken S a0 a1) fun v39 S38 =>
  (kr_rv S38 22 a0).bind fun u40 =>
  kr_bx (f_K_findService S38 a0 a2) fun v42 S41 =>
  kr_b2 (f_K_isWithin S41 a3 (1 : Int32) (15 : Int32)) fun v44 S43 =>
  if v44 = 0 then
  f_K_exchange_B40 S43 a0 a2 a3 v39 v42
  else
  (gI S43 21 3 v39).bind fun v45 =>
  if (a3 &&& (v45 ^^^ (-1 : Int32))) = 0 then
  f_K_exchange_B41 S43 a0 a2 a3 v39 v42 (1 : Int32)
  else
  f_K_exchange_B40 S43 a0 a2 a3 v39 v42
set_option maxRecDepth 20000 in
set_option maxHeartbeats 4000000 in
theorem s_K_exchange_B102 {S : AS} {x0 : Option Nat} {x2 : Int32} {x3 : Int32} {x4 : Option Nat} {x5 : Option Nat} {y0 : Int32} {r : ((Int32 ⊕ String) × AS)} (h : f_K_exchange_B102 S x0 x2 x3 x4 x5 y0 = some r) : kr_AW m_K_exchange 9 102 [(0, va_rf x0), (2, .int x2), (3, .int x3), (4, va_rf x4), (5, va_rf x5)] [.int y0] S (kr_xI r) := by
  unfold f_K_exchange_B102 at h
  rcases kr_obx h with ⟨z2, S1, eS1, h2⟩ | ⟨E, S1, eS1, h2⟩
  · clear h
    have h := h2
    clear h2
    refine r_callS (M1 := m_K_requireState) (As := [.int y0]) (s_K_requireState eS1) mok_K_requireState rfl w442 w443 (by decide) (kr_c8 kr_c0) d_K_exchange_102 (kr_k0 ?_) kr_kn
    refine r_aload (i := 4) (x := x4) 3 rfl d_K_exchange_105 ?_
    have h2 := kr_ob h
    clear h
    obtain ⟨v3, ev3, h⟩ := h2
    refine r_getR ev3 fk195 rfl d_K_exchange_107 ?_
    have h2 := kr_ob h
    clear h
    obtain ⟨v4, ev4, h⟩ := h2
    refine r_getR ev4 fk126 rfl d_K_exchange_110 ?_
    refine r_aload_n (i := 0) (x := x0) 0 rfl d_K_exchange_113 ?_
    have h2 := kr_ob h
    clear h
    obtain ⟨v5, ev5, h⟩ := h2
    refine r_getI ev5 fk113 rfl d_K_exchange_114 ?_
    have h2 := kr_ob h
    clear h
    obtain ⟨⟨⟩, eu6, h⟩ := h2
    have h2 := kr_ob2 h
    clear h
    obtain ⟨v8, S7, eS7, h⟩ := h2
    refine r_callV (M1 := m_Session_levelAt) (κ := 19) (As := [.int v5]) eu6 (s_Session_levelAt eS7) mok_Session_levelAt rfl (by decide) rfl w1017 w1018 w1019 (by decide) (kr_c8 kr_c0) d_K_exchange_117 (kr_k1 ?_) kr_kn
    refine r_aload (i := 5) (x := x5) 4 rfl d_K_exchange_120 ?_
    have h2 := kr_ob h
    clear h
    obtain ⟨v9, ev9, h⟩ := h2
    refine r_getI ev9 fk179 rfl d_K_exchange_122 ?_
    refine r_icmp_ge (tgt := 131) d_K_exchange_125 rfl (fun c => ?_) (fun c => ?_)
    · replace h := kr_ip c h
      refine r_aload_n (i := 0) (x := x0) 0 rfl d_K_exchange_131 ?_
      have h2 := kr_ob h
      clear h
      obtain ⟨S10, eS10, h⟩ := h2
      refine r_newO_ (κ := 21) eS10 (by decide) w1148 w1149 w101 d_K_exchange_132 ?_
      refine r_dup (kr_rfcat _) d_K_exchange_135 ?_
      refine r_aload (i := 4) (x := x4) 3 rfl d_K_exchange_136 ?_
      have h2 := kr_ob h
      clear h
      obtain ⟨v11, ev11, h⟩ := h2
      refine r_getR ev11 fk195 rfl d_K_exchange_138 ?_
      refine r_aload (i := 4) (x := x4) 3 rfl d_K_exchange_141 ?_
      have h2 := kr_ob h
      clear h
      obtain ⟨v12, ev12, h⟩ := h2
      refine r_getI ev12 fk198 rfl d_K_exchange_143 ?_
      refine r_iload_n (i := 2) (x := x2) 1 rfl d_K_exchange_146 ?_
      refine r_iload_n (i := 3) (x := x3) 2 rfl d_K_exchange_147 ?_
      refine r_aload (i := 4) (x := x4) 3 rfl d_K_exchange_148 ?_
      have h2 := kr_ob h
      clear h
      obtain ⟨v13, ev13, h⟩ := h2
      refine r_getI ev13 fk204 rfl d_K_exchange_150 ?_
      refine r_iconst (v := (1 : Int32)) (by decide) d_K_exchange_153 ?_
      refine r_iadd d_K_exchange_154 ?_
      refine r_aload_n (i := 0) (x := x0) 0 rfl d_K_exchange_155 ?_
      have h2 := kr_ob h
      clear h
      obtain ⟨v14, ev14, h⟩ := h2
      refine r_getR ev14 fk36 rfl d_K_exchange_156 ?_
      have h2 := kr_ob h
      clear h
      obtain ⟨v15, ev15, h⟩ := h2
      refine r_getI ev15 fk114 rfl d_K_exchange_159 ?_
      refine r_aload (i := 4) (x := x4) 3 rfl d_K_exchange_162 ?_
      have h2 := kr_ob h
      clear h
      obtain ⟨v16, ev16, h⟩ := h2
      refine r_getI ev16 fk205 rfl d_K_exchange_164 ?_
      have h2 := kr_ob h
      clear h
      obtain ⟨S17, eS17, h⟩ := h2
      refine r_callIN (M1 := m_Token_init) (As := [va_rf v11, .int v12, .int x2, .int x3, .int (v13 + (1 : Int32)), .int v15, .int v16]) (s_Token_init eS17) mok_Token_init rfl rfl rfl w1150 w1151 (by decide) (kr_c8 (kr_cR (kr_cR kr_c0))) d_K_exchange_167 (kr_k0 ?_) kr_kn
      have h2 := kr_ob h
      clear h
      obtain ⟨⟨⟩, eu18, h⟩ := h2
      have h2 := kr_ob h
      clear h
      obtain ⟨S19, eS19, h⟩ := h2
      refine r_callV (M1 := m_K_addToken) (κ := 22) (As := [va_rf (some (sN S7))]) eu18 (s_K_addToken eS19) mok_K_addToken rfl (by decide) rfl w1183 w1185 w30 (by decide) (kr_c8 kr_c0) d_K_exchange_170 (kr_k0 ?_) kr_kn
      refine r_aload_n (i := 0) (x := x0) 0 rfl d_K_exchange_173 ?_
      have h2 := kr_ob h
      clear h
      obtain ⟨v20, ev20, h⟩ := h2
      refine r_getR ev20 fk35 rfl d_K_exchange_174 ?_
      have h2 := kr_ob h
      clear h
      obtain ⟨⟨⟩, eu21, h⟩ := h2
      have h2 := kr_ob2 h
      clear h
      obtain ⟨v23, S22, eS22, h⟩ := h2
      refine r_callV (M1 := m_AL_size) (κ := 10) (As := []) eu21 (s_AL_size eS22) mok_AL_size rfl (by decide) rfl w348 w349 w350 (by decide) (kr_c8 kr_c0) d_K_exchange_177 (kr_k1 ?_) kr_kn
      refine r_iconst (v := (1 : Int32)) (by decide) d_K_exchange_180 ?_
      refine r_isub d_K_exchange_181 ?_
      cases h
      exact r_iret rfl d_K_exchange_182
    · replace h := kr_in_ c h
      refine r_bipush (v := (-2 : Int32)) (by decide) d_K_exchange_128 ?_
      cases h
      exact r_iret rfl d_K_exchange_130
  · cases h2
    exact r_callS (M1 := m_K_requireState) (As := [.int y0]) (s_K_requireState eS1) mok_K_requireState rfl w442 w443 (by decide) (kr_c8 kr_c0) d_K_exchange_102 kr_nk (kr_kx (r_out rfl))
set_option maxRecDepth 20000 in
set_option maxHeartbeats 4000000 in
theorem s_K_exchange_B81 {S : AS} {x0 : Option Nat} {x2 : Int32} {x3 : Int32} {x4 : Option Nat} {x5 : Option Nat} {y0 : Int32} {r : ((Int32 ⊕ String) × AS)} (h : f_K_exchange_B81 S x0 x2 x3 x4 x5 y0 = some r) : kr_AW m_K_exchange 9 81 [(0, va_rf x0), (2, .int x2), (3, .int x3), (4, va_rf x4), (5, va_rf x5)] [.int y0] S (kr_xI r) := by
  unfold f_K_exchange_B81 at h
  rcases kr_obx h with ⟨z25, S24, eS24, h2⟩ | ⟨E, S24, eS24, h2⟩
  · clear h
    have h := h2
    clear h2
    refine r_callS (M1 := m_K_requireState) (As := [.int y0]) (s_K_requireState eS24) mok_K_requireState rfl w442 w443 (by decide) (kr_c8 kr_c0) d_K_exchange_81 (kr_k0 ?_) kr_kn
    refine r_aload_n (i := 0) (x := x0) 0 rfl d_K_exchange_84 ?_
    have h2 := kr_ob h
    clear h
    obtain ⟨v26, ev26, h⟩ := h2
    refine r_getR ev26 fk35 rfl d_K_exchange_85 ?_
    have h2 := kr_ob h
    clear h
    obtain ⟨⟨⟩, eu27, h⟩ := h2
    have h2 := kr_ob2 h
    clear h
    obtain ⟨v29, S28, eS28, h⟩ := h2
    refine r_callV (M1 := m_AL_size) (κ := 10) (As := []) eu27 (s_AL_size eS28) mok_AL_size rfl (by decide) rfl w348 w349 w350 (by decide) (kr_c8 kr_c0) d_K_exchange_88 (kr_k1 ?_) kr_kn
    refine r_sipush (v := (200 : Int32)) (by decide) d_K_exchange_91 ?_
    refine r_icmp_ge (tgt := 101) d_K_exchange_94 rfl (fun c => ?_) (fun c => ?_)
    · replace h := kr_ip c h
      refine r_iconst (v := (0 : Int32)) (by decide) d_K_exchange_101 ?_
      exact kr_sub [0, 1, 2, 3, 4] rfl (s_K_exchange_B102 h)
    · replace h := kr_in_ c h
      refine r_iconst (v := (1 : Int32)) (by decide) d_K_exchange_97 ?_
      refine r_goto (tgt := 102) d_K_exchange_98 rfl ?_
      exact kr_sub [0, 1, 2, 3, 4] rfl (s_K_exchange_B102 h)
  · cases h2
    exact r_callS (M1 := m_K_requireState) (As := [.int y0]) (s_K_requireState eS24) mok_K_requireState rfl w442 w443 (by decide) (kr_c8 kr_c0) d_K_exchange_81 kr_nk (kr_kx (r_out rfl))
set_option maxRecDepth 20000 in
set_option maxHeartbeats 4000000 in
theorem s_K_exchange_B80 {S : AS} {x0 : Option Nat} {x2 : Int32} {x3 : Int32} {x4 : Option Nat} {x5 : Option Nat} {r : ((Int32 ⊕ String) × AS)} (h : f_K_exchange_B80 S x0 x2 x3 x4 x5 = some r) : kr_AW m_K_exchange 9 80 [(0, va_rf x0), (2, .int x2), (3, .int x3), (4, va_rf x4), (5, va_rf x5)] [] S (kr_xI r) := by
  unfold f_K_exchange_B80 at h
  refine r_iconst (v := (0 : Int32)) (by decide) d_K_exchange_80 ?_
  exact kr_sub [0, 1, 2, 3, 4] rfl (s_K_exchange_B81 h)
set_option maxRecDepth 20000 in
set_option maxHeartbeats 4000000 in
theorem s_K_exchange_B41 {S : AS} {x0 : Option Nat} {x2 : Int32} {x3 : Int32} {x4 : Option Nat} {x5 : Option Nat} {y0 : Int32} {r : ((Int32 ⊕ String) × AS)} (h : f_K_exchange_B41 S x0 x2 x3 x4 x5 y0 = some r) : kr_AW m_K_exchange 9 41 [(0, va_rf x0), (2, .int x2), (3, .int x3), (4, va_rf x4), (5, va_rf x5)] [.int y0] S (kr_xI r) := by
  unfold f_K_exchange_B41 at h
  rcases kr_obx h with ⟨z31, S30, eS30, h2⟩ | ⟨E, S30, eS30, h2⟩
  · clear h
    have h := h2
    clear h2
    refine r_callS (M1 := m_K_requireArgument) (As := [.int y0]) (s_K_requireArgument eS30) mok_K_requireArgument rfl w376 w377 (by decide) (kr_c8 kr_c0) d_K_exchange_41 (kr_k0 ?_) kr_kn
    refine r_aload_n (i := 0) (x := x0) 0 rfl d_K_exchange_44 ?_
    have h2 := kr_ob h
    clear h
    obtain ⟨v32, ev32, h⟩ := h2
    refine r_getI ev32 fk113 rfl d_K_exchange_45 ?_
    refine r_aload (i := 4) (x := x4) 3 rfl d_K_exchange_48 ?_
    have h2 := kr_ob h
    clear h
    obtain ⟨v33, ev33, h⟩ := h2
    refine r_getI ev33 fk205 rfl d_K_exchange_50 ?_
    refine r_icmp_gt (tgt := 80) d_K_exchange_53 rfl (fun c => ?_) (fun c => ?_)
    · replace h := kr_ip c h
      exact kr_sub [0, 1, 2, 3, 4] rfl (s_K_exchange_B80 h)
    · replace h := kr_in_ c h
      refine r_aload (i := 4) (x := x4) 3 rfl d_K_exchange_56 ?_
      have h2 := kr_ob h
      clear h
      obtain ⟨v34, ev34, h⟩ := h2
      refine r_getR ev34 fk195 rfl d_K_exchange_58 ?_
      have h2 := kr_ob h
      clear h
      obtain ⟨v35, ev35, h⟩ := h2
      refine r_getI ev35 fk124 rfl d_K_exchange_61 ?_
      refine r_if_eq (tgt := 80) d_K_exchange_64 rfl (fun c => ?_) (fun c => ?_)
      · replace h := kr_ip c h
        exact kr_sub [0, 1, 2, 3, 4] rfl (s_K_exchange_B80 h)
      · replace h := kr_in_ c h
        refine r_aload (i := 4) (x := x4) 3 rfl d_K_exchange_67 ?_
        have h2 := kr_ob h
        clear h
        obtain ⟨v36, ev36, h⟩ := h2
        refine r_getI ev36 fk204 rfl d_K_exchange_69 ?_
        refine r_iconst (v := (3 : Int32)) (by decide) d_K_exchange_72 ?_
        refine r_icmp_ge (tgt := 80) d_K_exchange_73 rfl (fun c => ?_) (fun c => ?_)
        · replace h := kr_ip c h
          exact kr_sub [0, 1, 2, 3, 4] rfl (s_K_exchange_B80 h)
        · replace h := kr_in_ c h
          refine r_iconst (v := (1 : Int32)) (by decide) d_K_exchange_76 ?_
          refine r_goto (tgt := 81) d_K_exchange_77 rfl ?_
          exact kr_sub [0, 1, 2, 3, 4] rfl (s_K_exchange_B81 h)
  · cases h2
    exact r_callS (M1 := m_K_requireArgument) (As := [.int y0]) (s_K_requireArgument eS30) mok_K_requireArgument rfl w376 w377 (by decide) (kr_c8 kr_c0) d_K_exchange_41 kr_nk (kr_kx (r_out rfl))
set_option maxRecDepth 20000 in
set_option maxHeartbeats 4000000 in
theorem s_K_exchange_B40 {S : AS} {x0 : Option Nat} {x2 : Int32} {x3 : Int32} {x4 : Option Nat} {x5 : Option Nat} {r : ((Int32 ⊕ String) × AS)} (h : f_K_exchange_B40 S x0 x2 x3 x4 x5 = some r) : kr_AW m_K_exchange 9 40 [(0, va_rf x0), (2, .int x2), (3, .int x3), (4, va_rf x4), (5, va_rf x5)] [] S (kr_xI r) := by
  unfold f_K_exchange_B40 at h
  refine r_iconst (v := (0 : Int32)) (by decide) d_K_exchange_40 ?_
  exact kr_sub [0, 1, 2, 3, 4] rfl (s_K_exchange_B41 h)
set_option maxRecDepth 20000 in
set_option maxHeartbeats 4000000 in
theorem s_K_exchange {S : AS} {a0 : Option Nat} {a1 : Int32} {a2 : Int32} {a3 : Int32} {r : ((Int32 ⊕ String) × AS)} (h : f_K_exchange S a0 a1 a2 a3 = some r) : kr_Con m_K_exchange 9 [va_rf a0, .int a1, .int a2, .int a3] S (kr_xI r) := by
  refine kr_con rfl rfl (by decide +kernel) (by simp [lg_sl, kr_rfcat, kr_icat, m_K_exchange, mL]) ?_
  rw [show lv_args 0 [va_rf a0, .int a1, .int a2, .int a3] = [(0, va_rf a0), (1, .int a1), (2, .int a2), (3, .int a3)] from by simp [lv_args, kr_rfcat, kr_icat]]
  unfold f_K_exchange at h
  refine r_aload_n (i := 0) (x := a0) 0 rfl d_K_exchange_0 ?_
  refine r_iload_n (i := 1) (x := a1) 1 rfl d_K_exchange_1 ?_
  have h2 := kr_ob h
  clear h
  obtain ⟨⟨⟩, eu37, h⟩ := h2
  rcases kr_obx h with ⟨v39, S38, eS38, h2⟩ | ⟨E, S38, eS38, h2⟩
  · clear h
    have h := h2
    clear h2
    refine r_callV (M1 := m_K_findToken) (κ := 22) (As := [.int a1]) eu37 (s_K_findToken eS38) mok_K_findToken rfl (by decide) rfl w1223 w1225 w33 (by decide) (kr_c8 kr_c0) d_K_exchange_2 (kr_k1 ?_) kr_kn
    refine r_astore (i := 4) (lv' := [(4, va_rf v39), (0, va_rf a0), (1, .int a1), (2, .int a2), (3, .int a3)]) (by decide) rfl d_K_exchange_5 ?_
    refine r_aload_n (i := 0) (x := a0) 1 rfl d_K_exchange_7 ?_
    refine r_iload_n (i := 2) (x := a2) 3 rfl d_K_exchange_8 ?_
    have h2 := kr_ob h
    clear h
    obtain ⟨⟨⟩, eu40, h⟩ := h2
    rcases kr_obx h with ⟨v42, S41, eS41, h2⟩ | ⟨E, S41, eS41, h2⟩
    · clear h
      have h := h2
      clear h2
      refine r_callV (M1 := m_K_findService) (κ := 22) (As := [.int a2]) eu40 (s_K_findService eS41) mok_K_findService rfl (by decide) rfl w525 w527 w8 (by decide) (kr_c8 kr_c0) d_K_exchange_9 (kr_k1 ?_) kr_kn
      refine r_astore (i := 5) (lv' := [(5, va_rf v42), (4, va_rf v39), (0, va_rf a0), (1, .int a1), (2, .int a2), (3, .int a3)]) (by decide) (by show kr_st _ 5 _ = _; simp [kr_st, kr_rfcat, kr_icat]) d_K_exchange_12 ?_
      refine r_iload_n (i := 3) (x := a3) 5 rfl d_K_exchange_14 ?_
      refine r_iconst (v := (1 : Int32)) (by decide) d_K_exchange_15 ?_
      refine r_bipush (v := (15 : Int32)) (by decide) d_K_exchange_16 ?_
      have h2 := kr_ob2 h
      clear h
      obtain ⟨v44, S43, eS43, h⟩ := h2
      refine r_callS (M1 := m_K_isWithin) (As := [.int a3, .int (1 : Int32), .int (15 : Int32)]) (s_K_isWithin eS43) mok_K_isWithin rfl w373 w374 (by decide) (kr_c8 kr_c0) d_K_exchange_18 (kr_k1 ?_) kr_kn
      refine r_if_eq (tgt := 40) d_K_exchange_21 rfl (fun c => ?_) (fun c => ?_)
      · replace h := kr_ip c h
        exact kr_sub [2, 4, 5, 1, 0] rfl (s_K_exchange_B40 h)
      · replace h := kr_in_ c h
        refine r_iload_n (i := 3) (x := a3) 5 rfl d_K_exchange_24 ?_
        refine r_aload (i := 4) (x := v39) 1 rfl d_K_exchange_25 ?_
        have h2 := kr_ob h
        clear h
        obtain ⟨v45, ev45, h⟩ := h2
        refine r_getI ev45 fk206 rfl d_K_exchange_27 ?_
        refine r_iconst (v := (-1 : Int32)) (by decide) d_K_exchange_30 ?_
        refine r_ixor d_K_exchange_31 ?_
        refine r_iand d_K_exchange_32 ?_
        refine r_if_ne (tgt := 40) d_K_exchange_33 rfl (fun c => ?_) (fun c => ?_)
        · replace h := kr_ip c h
          refine r_iconst (v := (1 : Int32)) (by decide) d_K_exchange_36 ?_
          refine r_goto (tgt := 41) d_K_exchange_37 rfl ?_
          exact kr_sub [2, 4, 5, 1, 0] rfl (s_K_exchange_B41 h)
        · replace h := kr_in_ c h
          exact kr_sub [2, 4, 5, 1, 0] rfl (s_K_exchange_B40 h)
    · cases h2
      exact r_callV (M1 := m_K_findService) (κ := 22) (As := [.int a2]) eu40 (s_K_findService eS41) mok_K_findService rfl (by decide) rfl w525 w527 w8 (by decide) (kr_c8 kr_c0) d_K_exchange_9 kr_nk (kr_kx (r_out rfl))
  · cases h2
    exact r_callV (M1 := m_K_findToken) (κ := 22) (As := [.int a1]) eu37 (s_K_findToken eS38) mok_K_findToken rfl (by decide) rfl w1223 w1225 w33 (by decide) (kr_c8 kr_c0) d_K_exchange_2 kr_nk (kr_kx (r_out rfl))
/-! KeyringCourt.token(I)I -/
def f_K_token (S : AS) (a0 : Option Nat) (a1 : Int32) : Option ((Int32 ⊕ String) × AS) :=
  (kr_rv S 22 a0).bind fun u1 =>
  kr_bx (f_K_findToken S a0 a1) fun v3 S2 =>
  (gI S2 21 6 v3).bind fun v4 =>
  (gI S2 21 1 v3).bind fun v5 =>
  (gI S2 21 2 v3).bind fun v6 =>
  (gI S2 21 4 v3).bind fun v7 =>
  some (.inl (((((1000 : Int32) * v4) + ((100 : Int32) * v5)) + ((10 : Int32) * v6)) + v7), S2)
set_option maxRecDepth 20000 in
set_option maxHeartbeats 4000000 in
theorem s_K_token {S : AS} {a0 : Option Nat} {a1 : Int32} {r : ((Int32 ⊕ String) × AS)} (h : f_K_token S a0 a1 = some r) : kr_Con m_K_token 9 [va_rf a0, .int a1] S (kr_xI r) := by
  refine kr_con rfl rfl (by decide +kernel) (by simp [lg_sl, kr_rfcat, kr_icat, m_K_token, mL]) ?_
  rw [show lv_args 0 [va_rf a0, .int a1] = [(0, va_rf a0), (1, .int a1)] from by simp [lv_args, kr_rfcat, kr_icat]]
  unfold f_K_token at h
  refine r_aload_n (i := 0) (x := a0) 0 rfl d_K_token_0 ?_
  refine r_iload_n (i := 1) (x := a1) 1 rfl d_K_token_1 ?_
  have h2 := kr_ob h
  clear h
  obtain ⟨⟨⟩, eu1, h⟩ := h2
  rcases kr_obx h with ⟨v3, S2, eS2, h2⟩ | ⟨E, S2, eS2, h2⟩
  · clear h
    have h := h2
    clear h2
    refine r_callV (M1 := m_K_findToken) (κ := 22) (As := [.int a1]) eu1 (s_K_findToken eS2) mok_K_findToken rfl (by decide) rfl w1223 w1225 w33 (by decide) (kr_c8 kr_c0) d_K_token_2 (kr_k1 ?_) kr_kn
    refine r_astore_n (i := 2) (lv' := [(2, va_rf v3), (0, va_rf a0), (1, .int a1)]) (by decide) rfl d_K_token_5 ?_
    refine r_sipush (v := (1000 : Int32)) (by decide) d_K_token_6 ?_
    refine r_aload_n (i := 2) (x := v3) 0 rfl d_K_token_9 ?_
    have h2 := kr_ob h
    clear h
    obtain ⟨v4, ev4, h⟩ := h2
    refine r_getI ev4 fk205 rfl d_K_token_10 ?_
    refine r_imul d_K_token_13 ?_
    refine r_bipush (v := (100 : Int32)) (by decide) d_K_token_14 ?_
    refine r_aload_n (i := 2) (x := v3) 0 rfl d_K_token_16 ?_
    have h2 := kr_ob h
    clear h
    obtain ⟨v5, ev5, h⟩ := h2
    refine r_getI ev5 fk207 rfl d_K_token_17 ?_
    refine r_imul d_K_token_20 ?_
    refine r_iadd d_K_token_21 ?_
    refine r_bipush (v := (10 : Int32)) (by decide) d_K_token_22 ?_
    refine r_aload_n (i := 2) (x := v3) 0 rfl d_K_token_24 ?_
    have h2 := kr_ob h
    clear h
    obtain ⟨v6, ev6, h⟩ := h2
    refine r_getI ev6 fk198 rfl d_K_token_25 ?_
    refine r_imul d_K_token_28 ?_
    refine r_iadd d_K_token_29 ?_
    refine r_aload_n (i := 2) (x := v3) 0 rfl d_K_token_30 ?_
    have h2 := kr_ob h
    clear h
    obtain ⟨v7, ev7, h⟩ := h2
    refine r_getI ev7 fk204 rfl d_K_token_31 ?_
    refine r_iadd d_K_token_34 ?_
    cases h
    exact r_iret rfl d_K_token_35
  · cases h2
    exact r_callV (M1 := m_K_findToken) (κ := 22) (As := [.int a1]) eu1 (s_K_findToken eS2) mok_K_findToken rfl (by decide) rfl w1223 w1225 w33 (by decide) (kr_c8 kr_c0) d_K_token_2 kr_nk (kr_kx (r_out rfl))
/-! KeyringCourt.turn()I -/
def f_K_turn_B28 (S : AS) (x0 : Option Nat) (y0 : Int32) : Option ((Int32 ⊕ String) × AS) :=
  kr_bx (f_K_requireState S y0) fun z2 S1 =>
  (gR S1 22 15 x0).bind fun v3 =>
  (gI S1 22 0 x0).bind fun v4 =>
  (kr_rv S1 15 v3).bind fun u5 =>
  kr_b2 (f_Keyring_publishWaiting S1 v3 v4) fun v7 S6 =>
  some (.inl v7, S6)
def f_K_turn_B27 (S : AS) (x0 : Option Nat) : Option ((Int32 ⊕ String) × AS) :=
  f_K_turn_B28 S x0 (0 : Int32)
def f_K_turn (S : AS) (a0 : Option Nat) : Option ((Int32 ⊕ String) × AS) :=
  (gR S 22 15 a0).bind fun v8 =>
  (gI S 15 2 v8).bind fun v9 =>
  if v9 = (-1 : Int32) then
  (gR S 22 15 a0).bind fun v10 =>
  (gI S 15 0 v10).bind fun v11 =>
  if (20 : Int32) ≤ v11 then
  f_K_turn_B27 S a0
  else
  f_K_turn_B28 S a0 (1 : Int32)
  else
  f_K_turn_B27 S a0
set_option maxRecDepth 20000 in
set_option maxHeartbeats 4000000 in
theorem s_K_turn_B28 {S : AS} {x0 : Option Nat} {y0 : Int32} {r : ((Int32 ⊕ String) × AS)} (h : f_K_turn_B28 S x0 y0 = some r) : kr_AW m_K_turn 8 28 [(0, va_rf x0)] [.int y0] S (kr_xI r) := by
  unfold f_K_turn_B28 at h
  rcases kr_obx h with ⟨z2, S1, eS1, h2⟩ | ⟨E, S1, eS1, h2⟩
  · clear h
    have h := h2
    clear h2
    refine r_callS (M1 := m_K_requireState) (As := [.int y0]) (s_K_requireState eS1) mok_K_requireState rfl w442 w443 (by decide) (kr_c8 kr_c0) d_K_turn_28 (kr_k0 ?_) kr_kn
    refine r_aload_n (i := 0) (x := x0) 0 rfl d_K_turn_31 ?_
    have h2 := kr_ob h
    clear h
    obtain ⟨v3, ev3, h⟩ := h2
    refine r_getR ev3 fk36 rfl d_K_turn_32 ?_
    refine r_aload_n (i := 0) (x := x0) 0 rfl d_K_turn_35 ?_
    have h2 := kr_ob h
    clear h
    obtain ⟨v4, ev4, h⟩ := h2
    refine r_getI ev4 fk113 rfl d_K_turn_36 ?_
    have h2 := kr_ob h
    clear h
    obtain ⟨⟨⟩, eu5, h⟩ := h2
    have h2 := kr_ob2 h
    clear h
    obtain ⟨v7, S6, eS6, h⟩ := h2
    refine r_callV (M1 := m_Keyring_publishWaiting) (κ := 15) (As := [.int v4]) eu5 (s_Keyring_publishWaiting eS6) mok_Keyring_publishWaiting rfl (by decide) rfl w1241 w1242 w1243 (by decide) (kr_c8 kr_c0) d_K_turn_39 (kr_k1 ?_) kr_kn
    cases h
    exact r_iret rfl d_K_turn_42
  · cases h2
    exact r_callS (M1 := m_K_requireState) (As := [.int y0]) (s_K_requireState eS1) mok_K_requireState rfl w442 w443 (by decide) (kr_c8 kr_c0) d_K_turn_28 kr_nk (kr_kx (r_out rfl))
set_option maxRecDepth 20000 in
set_option maxHeartbeats 4000000 in
theorem s_K_turn_B27 {S : AS} {x0 : Option Nat} {r : ((Int32 ⊕ String) × AS)} (h : f_K_turn_B27 S x0 = some r) : kr_AW m_K_turn 8 27 [(0, va_rf x0)] [] S (kr_xI r) := by
  unfold f_K_turn_B27 at h
  refine r_iconst (v := (0 : Int32)) (by decide) d_K_turn_27 ?_
  exact kr_sub [0] rfl (s_K_turn_B28 h)
set_option maxRecDepth 20000 in
set_option maxHeartbeats 4000000 in
theorem s_K_turn {S : AS} {a0 : Option Nat} {r : ((Int32 ⊕ String) × AS)} (h : f_K_turn S a0 = some r) : kr_Con m_K_turn 8 [va_rf a0] S (kr_xI r) := by
  refine kr_con rfl rfl (by decide +kernel) (by simp [lg_sl, kr_rfcat, kr_icat, m_K_turn, mL]) ?_
  rw [show lv_args 0 [va_rf a0] = [(0, va_rf a0)] from by simp [lv_args, kr_rfcat, kr_icat]]
  unfold f_K_turn at h
  refine r_aload_n (i := 0) (x := a0) 0 rfl d_K_turn_0 ?_
  have h2 := kr_ob h
  clear h
  obtain ⟨v8, ev8, h⟩ := h2
  refine r_getR ev8 fk36 rfl d_K_turn_1 ?_
  have h2 := kr_ob h
  clear h
  obtain ⟨v9, ev9, h⟩ := h2
  refine r_getI ev9 fk208 rfl d_K_turn_4 ?_
  refine r_iconst (v := (-1 : Int32)) (by decide) d_K_turn_7 ?_
  refine r_icmp_ne (tgt := 27) d_K_turn_8 rfl (fun c => ?_) (fun c => ?_)
  · replace h := kr_ip c h
    refine r_aload_n (i := 0) (x := a0) 0 rfl d_K_turn_11 ?_
    have h2 := kr_ob h
    clear h
    obtain ⟨v10, ev10, h⟩ := h2
    refine r_getR ev10 fk36 rfl d_K_turn_12 ?_
    have h2 := kr_ob h
    clear h
    obtain ⟨v11, ev11, h⟩ := h2
    refine r_getI ev11 fk209 rfl d_K_turn_15 ?_
    refine r_bipush (v := (20 : Int32)) (by decide) d_K_turn_18 ?_
    refine r_icmp_ge (tgt := 27) d_K_turn_20 rfl (fun c => ?_) (fun c => ?_)
    · replace h := kr_ip c h
      exact kr_sub [0] rfl (s_K_turn_B27 h)
    · replace h := kr_in_ c h
      refine r_iconst (v := (1 : Int32)) (by decide) d_K_turn_23 ?_
      refine r_goto (tgt := 28) d_K_turn_24 rfl ?_
      exact kr_sub [0] rfl (s_K_turn_B28 h)
  · replace h := kr_in_ c h
    exact kr_sub [0] rfl (s_K_turn_B27 h)
/-! KeyringCourt.emergency()I -/
def f_K_emergency_B28 (S : AS) (x0 : Option Nat) (y0 : Int32) : Option ((Int32 ⊕ String) × AS) :=
  kr_bx (f_K_requireState S y0) fun z2 S1 =>
  (gR S1 22 15 x0).bind fun v3 =>
  (kr_rv S1 15 v3).bind fun u4 =>
  (f_Keyring_replaceSigner S1 v3).bind fun S5 =>
  (gR S5 22 1 x0).bind fun v6 =>
  (gR S5 22 15 x0).bind fun v7 =>
  (gI S5 15 1 v7).bind fun v8 =>
  (gI S5 22 0 x0).bind fun v9 =>
  (kr_rv S5 12 v6).bind fun u10 =>
  (f_Audit_write S5 v6 (5 : Int32) v8 v9).bind fun S11 =>
  (gR S11 22 15 x0).bind fun v12 =>
  (gI S11 15 1 v12).bind fun v13 =>
  some (.inl v13, S11)
def f_K_emergency_B23 (S : AS) (x0 : Option Nat) : Option ((Int32 ⊕ String) × AS) :=
  f_K_emergency_B28 S x0 (1 : Int32)
def f_K_emergency (S : AS) (a0 : Option Nat) : Option ((Int32 ⊕ String) × AS) :=
  (gR S 22 15 a0).bind fun v14 =>
  (gI S 15 2 v14).bind fun v15 =>
  if v15 = (-1 : Int32) then
  (gR S 22 15 a0).bind fun v16 =>
  (gI S 15 0 v16).bind fun v17 =>
  if (20 : Int32) ≤ v17 then
  f_K_emergency_B28 S a0 (0 : Int32)
  else
  f_K_emergency_B23 S a0
  else
  f_K_emergency_B23 S a0
set_option maxRecDepth 20000 in
set_option maxHeartbeats 4000000 in
theorem s_K_emergency_B28 {S : AS} {x0 : Option Nat} {y0 : Int32} {r : ((Int32 ⊕ String) × AS)} (h : f_K_emergency_B28 S x0 y0 = some r) : kr_AW m_K_emergency 8 28 [(0, va_rf x0)] [.int y0] S (kr_xI r) := by
  unfold f_K_emergency_B28 at h
  rcases kr_obx h with ⟨z2, S1, eS1, h2⟩ | ⟨E, S1, eS1, h2⟩
  · clear h
    have h := h2
    clear h2
    refine r_callS (M1 := m_K_requireState) (As := [.int y0]) (s_K_requireState eS1) mok_K_requireState rfl w442 w443 (by decide) (kr_c8 kr_c0) d_K_emergency_28 (kr_k0 ?_) kr_kn
    refine r_aload_n (i := 0) (x := x0) 0 rfl d_K_emergency_31 ?_
    have h2 := kr_ob h
    clear h
    obtain ⟨v3, ev3, h⟩ := h2
    refine r_getR ev3 fk36 rfl d_K_emergency_32 ?_
    have h2 := kr_ob h
    clear h
    obtain ⟨⟨⟩, eu4, h⟩ := h2
    have h2 := kr_ob h
    clear h
    obtain ⟨S5, eS5, h⟩ := h2
    refine r_callV (M1 := m_Keyring_replaceSigner) (κ := 15) (As := []) eu4 (s_Keyring_replaceSigner eS5) mok_Keyring_replaceSigner rfl (by decide) rfl w1256 w1257 w1258 (by decide) (kr_c8 kr_c0) d_K_emergency_35 (kr_k0 ?_) kr_kn
    refine r_aload_n (i := 0) (x := x0) 0 rfl d_K_emergency_38 ?_
    have h2 := kr_ob h
    clear h
    obtain ⟨v6, ev6, h⟩ := h2
    refine r_getR ev6 fk25 rfl d_K_emergency_39 ?_
    refine r_iconst (v := (5 : Int32)) (by decide) d_K_emergency_42 ?_
    refine r_aload_n (i := 0) (x := x0) 0 rfl d_K_emergency_43 ?_
    have h2 := kr_ob h
    clear h
    obtain ⟨v7, ev7, h⟩ := h2
    refine r_getR ev7 fk36 rfl d_K_emergency_44 ?_
    have h2 := kr_ob h
    clear h
    obtain ⟨v8, ev8, h⟩ := h2
    refine r_getI ev8 fk114 rfl d_K_emergency_47 ?_
    refine r_aload_n (i := 0) (x := x0) 0 rfl d_K_emergency_50 ?_
    have h2 := kr_ob h
    clear h
    obtain ⟨v9, ev9, h⟩ := h2
    refine r_getI ev9 fk113 rfl d_K_emergency_51 ?_
    have h2 := kr_ob h
    clear h
    obtain ⟨⟨⟩, eu10, h⟩ := h2
    have h2 := kr_ob h
    clear h
    obtain ⟨S11, eS11, h⟩ := h2
    refine r_callV (M1 := m_Audit_write) (κ := 12) (As := [.int (5 : Int32), .int v8, .int v9]) eu10 (s_Audit_write eS11) mok_Audit_write rfl (by decide) rfl w472 w473 w474 (by decide) (kr_c8 kr_c0) d_K_emergency_54 (kr_k0 ?_) kr_kn
    refine r_aload_n (i := 0) (x := x0) 0 rfl d_K_emergency_57 ?_
    have h2 := kr_ob h
    clear h
    obtain ⟨v12, ev12, h⟩ := h2
    refine r_getR ev12 fk36 rfl d_K_emergency_58 ?_
    have h2 := kr_ob h
    clear h
    obtain ⟨v13, ev13, h⟩ := h2
    refine r_getI ev13 fk114 rfl d_K_emergency_61 ?_
    cases h
    exact r_iret rfl d_K_emergency_64
  · cases h2
    exact r_callS (M1 := m_K_requireState) (As := [.int y0]) (s_K_requireState eS1) mok_K_requireState rfl w442 w443 (by decide) (kr_c8 kr_c0) d_K_emergency_28 kr_nk (kr_kx (r_out rfl))
set_option maxRecDepth 20000 in
set_option maxHeartbeats 4000000 in
theorem s_K_emergency_B23 {S : AS} {x0 : Option Nat} {r : ((Int32 ⊕ String) × AS)} (h : f_K_emergency_B23 S x0 = some r) : kr_AW m_K_emergency 8 23 [(0, va_rf x0)] [] S (kr_xI r) := by
  unfold f_K_emergency_B23 at h
  refine r_iconst (v := (1 : Int32)) (by decide) d_K_emergency_23 ?_
  refine r_goto (tgt := 28) d_K_emergency_24 rfl ?_
  exact kr_sub [0] rfl (s_K_emergency_B28 h)
set_option maxRecDepth 20000 in
set_option maxHeartbeats 4000000 in
theorem s_K_emergency {S : AS} {a0 : Option Nat} {r : ((Int32 ⊕ String) × AS)} (h : f_K_emergency S a0 = some r) : kr_Con m_K_emergency 8 [va_rf a0] S (kr_xI r) := by
  refine kr_con rfl rfl (by decide +kernel) (by simp [lg_sl, kr_rfcat, kr_icat, m_K_emergency, mL]) ?_
  rw [show lv_args 0 [va_rf a0] = [(0, va_rf a0)] from by simp [lv_args, kr_rfcat, kr_icat]]
  unfold f_K_emergency at h
  refine r_aload_n (i := 0) (x := a0) 0 rfl d_K_emergency_0 ?_
  have h2 := kr_ob h
  clear h
  obtain ⟨v14, ev14, h⟩ := h2
  refine r_getR ev14 fk36 rfl d_K_emergency_1 ?_
  have h2 := kr_ob h
  clear h
  obtain ⟨v15, ev15, h⟩ := h2
  refine r_getI ev15 fk208 rfl d_K_emergency_4 ?_
  refine r_iconst (v := (-1 : Int32)) (by decide) d_K_emergency_7 ?_
  refine r_icmp_ne (tgt := 23) d_K_emergency_8 rfl (fun c => ?_) (fun c => ?_)
  · replace h := kr_ip c h
    refine r_aload_n (i := 0) (x := a0) 0 rfl d_K_emergency_11 ?_
    have h2 := kr_ob h
    clear h
    obtain ⟨v16, ev16, h⟩ := h2
    refine r_getR ev16 fk36 rfl d_K_emergency_12 ?_
    have h2 := kr_ob h
    clear h
    obtain ⟨v17, ev17, h⟩ := h2
    refine r_getI ev17 fk209 rfl d_K_emergency_15 ?_
    refine r_bipush (v := (20 : Int32)) (by decide) d_K_emergency_18 ?_
    refine r_icmp_ge (tgt := 27) d_K_emergency_20 rfl (fun c => ?_) (fun c => ?_)
    · replace h := kr_ip c h
      refine r_iconst (v := (0 : Int32)) (by decide) d_K_emergency_27 ?_
      exact kr_sub [0] rfl (s_K_emergency_B28 h)
    · replace h := kr_in_ c h
      exact kr_sub [0] rfl (s_K_emergency_B23 h)
  · replace h := kr_in_ c h
    exact kr_sub [0] rfl (s_K_emergency_B23 h)
/-! KeyringCourt.signing()I -/
def f_K_signing (S : AS) (a0 : Option Nat) : Option (Int32 × AS) :=
  (gR S 22 15 a0).bind fun v1 =>
  (gI S 15 1 v1).bind fun v2 =>
  some (v2, S)
set_option maxRecDepth 20000 in
set_option maxHeartbeats 4000000 in
theorem s_K_signing {S : AS} {a0 : Option Nat} {r : (Int32 × AS)} (h : f_K_signing S a0 = some r) : kr_Con m_K_signing 0 [va_rf a0] S (kr_eI r) := by
  refine kr_con rfl rfl (by decide +kernel) (by simp [lg_sl, kr_rfcat, kr_icat, m_K_signing, mL]) ?_
  rw [show lv_args 0 [va_rf a0] = [(0, va_rf a0)] from by simp [lv_args, kr_rfcat, kr_icat]]
  unfold f_K_signing at h
  refine r_aload_n (i := 0) (x := a0) 0 rfl d_K_signing_0 ?_
  have h2 := kr_ob h
  clear h
  obtain ⟨v1, ev1, h⟩ := h2
  refine r_getR ev1 fk36 rfl d_K_signing_1 ?_
  have h2 := kr_ob h
  clear h
  obtain ⟨v2, ev2, h⟩ := h2
  refine r_getI ev2 fk114 rfl d_K_signing_4 ?_
  cases h
  exact r_iret rfl d_K_signing_7
/-! KeyringCourt.isPublished(I)Z -/
def f_K_isPublished (S : AS) (a0 : Option Nat) (a1 : Int32) : Option ((Int32 ⊕ String) × AS) :=
  (gR S 22 15 a0).bind fun v1 =>
  (gI S 15 0 v1).bind fun v2 =>
  kr_bx (f_K_requireIndex S a1 v2) fun z4 S3 =>
  (gR S3 22 15 a0).bind fun v5 =>
  (gI S3 15 4 v5).bind fun v6 =>
  kr_b2 (f_K_isIn S3 a1 v6) fun v8 S7 =>
  (kr_z v8).bind fun u9 =>
  some (.inl v8, S7)
set_option maxRecDepth 20000 in
set_option maxHeartbeats 4000000 in
theorem s_K_isPublished {S : AS} {a0 : Option Nat} {a1 : Int32} {r : ((Int32 ⊕ String) × AS)} (h : f_K_isPublished S a0 a1 = some r) : kr_Con m_K_isPublished 8 [va_rf a0, .int a1] S (kr_xI r) := by
  refine kr_con rfl rfl (by decide +kernel) (by simp [lg_sl, kr_rfcat, kr_icat, m_K_isPublished, mL]) ?_
  rw [show lv_args 0 [va_rf a0, .int a1] = [(0, va_rf a0), (1, .int a1)] from by simp [lv_args, kr_rfcat, kr_icat]]
  unfold f_K_isPublished at h
  refine r_iload_n (i := 1) (x := a1) 1 rfl d_K_isPublished_0 ?_
  refine r_aload_n (i := 0) (x := a0) 0 rfl d_K_isPublished_1 ?_
  have h2 := kr_ob h
  clear h
  obtain ⟨v1, ev1, h⟩ := h2
  refine r_getR ev1 fk36 rfl d_K_isPublished_2 ?_
  have h2 := kr_ob h
  clear h
  obtain ⟨v2, ev2, h⟩ := h2
  refine r_getI ev2 fk209 rfl d_K_isPublished_5 ?_
  rcases kr_obx h with ⟨z4, S3, eS3, h2⟩ | ⟨E, S3, eS3, h2⟩
  · clear h
    have h := h2
    clear h2
    refine r_callS (M1 := m_K_requireIndex) (As := [.int a1, .int v2]) (s_K_requireIndex eS3) mok_K_requireIndex rfl w713 w714 (by decide) (kr_c8 kr_c0) d_K_isPublished_8 (kr_k0 ?_) kr_kn
    refine r_iload_n (i := 1) (x := a1) 1 rfl d_K_isPublished_11 ?_
    refine r_aload_n (i := 0) (x := a0) 0 rfl d_K_isPublished_12 ?_
    have h2 := kr_ob h
    clear h
    obtain ⟨v5, ev5, h⟩ := h2
    refine r_getR ev5 fk36 rfl d_K_isPublished_13 ?_
    have h2 := kr_ob h
    clear h
    obtain ⟨v6, ev6, h⟩ := h2
    refine r_getI ev6 fk210 rfl d_K_isPublished_16 ?_
    have h2 := kr_ob2 h
    clear h
    obtain ⟨v8, S7, eS7, h⟩ := h2
    refine r_callS (M1 := m_K_isIn) (As := [.int a1, .int v6]) (s_K_isIn eS7) mok_K_isIn rfl w842 w549 (by decide) (kr_c8 kr_c0) d_K_isPublished_19 (kr_k1 ?_) kr_kn
    have h2 := kr_ob h
    clear h
    obtain ⟨⟨⟩, eu9, h⟩ := h2
    cases h
    exact r_zret rfl eu9 d_K_isPublished_22
  · cases h2
    exact r_callS (M1 := m_K_requireIndex) (As := [.int a1, .int v2]) (s_K_requireIndex eS3) mok_K_requireIndex rfl w713 w714 (by decide) (kr_c8 kr_c0) d_K_isPublished_8 kr_nk (kr_kx (r_out rfl))
/-! KeyringCourt.tellOfEnded(I)I -/
def f_K_tellOfEnded_B48 (k4 : AS → Option Nat → Int32 → Int32 → Int32 → Option (Int32 × AS)) (S : AS) (x0 : Option Nat) (x1 : Int32) (x2 : Int32) (x3 : Int32) : Option (Int32 × AS) :=
  (some (x3 + (1 : Int32))).bind fun i1 =>
  k4 S x0 x1 x2 i1
def f_K_tellOfEnded_C4 (k4 : AS → Option Nat → Int32 → Int32 → Int32 → Option (Int32 × AS)) (S : AS) (x0 : Option Nat) (x1 : Int32) (x2 : Int32) (x3 : Int32) : Option (Int32 × AS) :=
  (gR S 22 13 x0).bind fun v2 =>
  (kr_rv S 10 v2).bind fun u3 =>
  kr_b2 (f_AL_size S v2) fun v5 S4 =>
  if v5 ≤ x3 then
  some (x2, S4)
  else
  (gR S4 22 13 x0).bind fun v6 =>
  (kr_rv S4 10 v6).bind fun u7 =>
  kr_b2 (f_AL_get S4 v6 x3) fun v9 S8 =>
  (kr_cc S8 14 v9).bind fun u10 =>
  (gI S8 14 6 v9).bind fun v11 =>
  if v11 = 0 then
  (kr_rv S8 14 v9).bind fun u12 =>
  kr_b2 (f_Grant_tell S8 v9 x1) fun v14 S13 =>
  if v14 = 0 then
  f_K_tellOfEnded_B48 k4 S13 x0 x1 x2 x3
  else
  (some (x2 + (1 : Int32))).bind fun i15 =>
  f_K_tellOfEnded_B48 k4 S13 x0 x1 i15 x3
  else
  f_K_tellOfEnded_B48 k4 S8 x0 x1 x2 x3
def f_K_tellOfEnded_L4 : Nat → AS → Option Nat → Int32 → Int32 → Int32 → Option (Int32 × AS)
  | 0, S, x0, x1, x2, x3 => none
  | n + 1, S, x0, x1, x2, x3 => f_K_tellOfEnded_C4 (f_K_tellOfEnded_L4 n) S x0 x1 x2 x3
def f_K_tellOfEnded (S : AS) (a0 : Option Nat) (a1 : Int32) : Option (Int32 × AS) :=
  f_K_tellOfEnded_L4 kr_FU S a0 a1 (0 : Int32) (0 : Int32)
set_option maxRecDepth 20000 in
set_option maxHeartbeats 4000000 in
theorem s_K_tellOfEnded_B48 {k4 : AS → Option Nat → Int32 → Int32 → Int32 → Option (Int32 × AS)} (hk4 : ∀ {S : AS} {x0 : Option Nat} {x1 : Int32} {x2 : Int32} {x3 : Int32} {r : (Int32 × AS)}, k4 S x0 x1 x2 x3 = some r → kr_AW m_K_tellOfEnded 3 4 [(0, va_rf x0), (1, .int x1), (2, .int x2), (3, .int x3)] [] S (kr_eI r)) {S : AS} {x0 : Option Nat} {x1 : Int32} {x2 : Int32} {x3 : Int32} {r : (Int32 × AS)} (h : f_K_tellOfEnded_B48 k4 S x0 x1 x2 x3 = some r) : kr_AW m_K_tellOfEnded 3 48 [(0, va_rf x0), (1, .int x1), (2, .int x2), (3, .int x3)] [] S (kr_eI r) := by
  unfold f_K_tellOfEnded_B48 at h
  have h2 := kr_ob h
  clear h
  obtain ⟨i1, ei1, h⟩ := h2
  refine r_iinc (v := i1) (lv' := [(3, .int i1), (0, va_rf x0), (1, .int x1), (2, .int x2)]) 3 rfl (kr_inc (by decide) ei1) (by decide) rfl d_K_tellOfEnded_48 ?_
  refine r_goto (tgt := 4) d_K_tellOfEnded_51 rfl ?_
  exact kr_sub [1, 2, 3, 0] rfl (hk4 h)
set_option maxRecDepth 20000 in
set_option maxHeartbeats 4000000 in
theorem s_K_tellOfEnded_C4 {k4 : AS → Option Nat → Int32 → Int32 → Int32 → Option (Int32 × AS)} (hk4 : ∀ {S : AS} {x0 : Option Nat} {x1 : Int32} {x2 : Int32} {x3 : Int32} {r : (Int32 × AS)}, k4 S x0 x1 x2 x3 = some r → kr_AW m_K_tellOfEnded 3 4 [(0, va_rf x0), (1, .int x1), (2, .int x2), (3, .int x3)] [] S (kr_eI r)) {S : AS} {x0 : Option Nat} {x1 : Int32} {x2 : Int32} {x3 : Int32} {r : (Int32 × AS)} (h : f_K_tellOfEnded_C4 k4 S x0 x1 x2 x3 = some r) : kr_AW m_K_tellOfEnded 3 4 [(0, va_rf x0), (1, .int x1), (2, .int x2), (3, .int x3)] [] S (kr_eI r) := by
  unfold f_K_tellOfEnded_C4 at h
  refine r_iload_n (i := 3) (x := x3) 3 rfl d_K_tellOfEnded_4 ?_
  refine r_aload_n (i := 0) (x := x0) 0 rfl d_K_tellOfEnded_5 ?_
  have h2 := kr_ob h
  clear h
  obtain ⟨v2, ev2, h⟩ := h2
  refine r_getR ev2 fk34 rfl d_K_tellOfEnded_6 ?_
  have h2 := kr_ob h
  clear h
  obtain ⟨⟨⟩, eu3, h⟩ := h2
  have h2 := kr_ob2 h
  clear h
  obtain ⟨v5, S4, eS4, h⟩ := h2
  refine r_callV (M1 := m_AL_size) (κ := 10) (As := []) eu3 (s_AL_size eS4) mok_AL_size rfl (by decide) rfl w348 w349 w350 (by decide) (kr_c8 (kr_cI kr_c0)) d_K_tellOfEnded_9 (kr_k1 ?_) kr_kn
  refine r_icmp_ge (tgt := 54) d_K_tellOfEnded_12 rfl (fun c => ?_) (fun c => ?_)
  · replace h := kr_ip c h
    refine r_iload_n (i := 2) (x := x2) 2 rfl d_K_tellOfEnded_54 ?_
    cases h
    exact r_iret rfl d_K_tellOfEnded_55
  · replace h := kr_in_ c h
    refine r_aload_n (i := 0) (x := x0) 0 rfl d_K_tellOfEnded_15 ?_
    have h2 := kr_ob h
    clear h
    obtain ⟨v6, ev6, h⟩ := h2
    refine r_getR ev6 fk34 rfl d_K_tellOfEnded_16 ?_
    refine r_iload_n (i := 3) (x := x3) 3 rfl d_K_tellOfEnded_19 ?_
    have h2 := kr_ob h
    clear h
    obtain ⟨⟨⟩, eu7, h⟩ := h2
    have h2 := kr_ob2 h
    clear h
    obtain ⟨v9, S8, eS8, h⟩ := h2
    refine r_callV (M1 := m_AL_get) (κ := 10) (As := [.int x3]) eu7 (s_AL_get eS8) mok_AL_get rfl (by decide) rfl w489 w490 w491 (by decide) (kr_c8 kr_c0) d_K_tellOfEnded_20 (kr_k1 ?_) kr_kn
    have h2 := kr_ob h
    clear h
    obtain ⟨⟨⟩, eu10, h⟩ := h2
    refine r_cast eu10 (by decide) w520 d_K_tellOfEnded_23 ?_
    refine r_astore (i := 4) (lv' := [(4, va_rf v9), (0, va_rf x0), (1, .int x1), (2, .int x2), (3, .int x3)]) (by decide) rfl d_K_tellOfEnded_26 ?_
    refine r_aload (i := 4) (x := v9) 0 rfl d_K_tellOfEnded_28 ?_
    have h2 := kr_ob h
    clear h
    obtain ⟨v11, ev11, h⟩ := h2
    refine r_getI ev11 fk124 rfl d_K_tellOfEnded_30 ?_
    refine r_if_ne (tgt := 48) d_K_tellOfEnded_33 rfl (fun c => ?_) (fun c => ?_)
    · replace h := kr_ip c h
      refine r_aload (i := 4) (x := v9) 0 rfl d_K_tellOfEnded_36 ?_
      refine r_iload_n (i := 1) (x := x1) 2 rfl d_K_tellOfEnded_38 ?_
      have h2 := kr_ob h
      clear h
      obtain ⟨⟨⟩, eu12, h⟩ := h2
      have h2 := kr_ob2 h
      clear h
      obtain ⟨v14, S13, eS13, h⟩ := h2
      refine r_callV (M1 := m_Grant_tell) (κ := 14) (As := [.int x1]) eu12 (s_Grant_tell eS13) mok_Grant_tell rfl (by decide) rfl w544 w545 w546 (by decide) (kr_c8 kr_c0) d_K_tellOfEnded_39 (kr_k1 ?_) kr_kn
      refine r_if_eq (tgt := 48) d_K_tellOfEnded_42 rfl (fun c => ?_) (fun c => ?_)
      · replace h := kr_ip c h
        exact kr_sub [1, 2, 3, 4] rfl (s_K_tellOfEnded_B48 hk4 h)
      · replace h := kr_in_ c h
        have h2 := kr_ob h
        clear h
        obtain ⟨i15, ei15, h⟩ := h2
        refine r_iinc (v := i15) (lv' := [(2, .int i15), (4, va_rf v9), (0, va_rf x0), (1, .int x1), (3, .int x3)]) 3 rfl (kr_inc (by decide) ei15) (by decide) rfl d_K_tellOfEnded_45 ?_
        exact kr_sub [2, 3, 0, 4] rfl (s_K_tellOfEnded_B48 hk4 h)
    · replace h := kr_in_ c h
      exact kr_sub [1, 2, 3, 4] rfl (s_K_tellOfEnded_B48 hk4 h)
theorem s_K_tellOfEnded_L4 (n : Nat) : ∀ {S : AS} {x0 : Option Nat} {x1 : Int32} {x2 : Int32} {x3 : Int32} {r : (Int32 × AS)}, f_K_tellOfEnded_L4 n S x0 x1 x2 x3 = some r → kr_AW m_K_tellOfEnded 3 4 [(0, va_rf x0), (1, .int x1), (2, .int x2), (3, .int x3)] [] S (kr_eI r) := by
  induction n with
  | zero => intro S x0 x1 x2 x3 r h; cases h
  | succ n ih => intro S x0 x1 x2 x3 r h; exact s_K_tellOfEnded_C4 (fun {_} {_} {_} {_} {_} {_} h => ih h) h
set_option maxRecDepth 20000 in
set_option maxHeartbeats 4000000 in
theorem s_K_tellOfEnded {S : AS} {a0 : Option Nat} {a1 : Int32} {r : (Int32 × AS)} (h : f_K_tellOfEnded S a0 a1 = some r) : kr_Con m_K_tellOfEnded 3 [va_rf a0, .int a1] S (kr_eI r) := by
  refine kr_con rfl rfl (by decide +kernel) (by simp [lg_sl, kr_rfcat, kr_icat, m_K_tellOfEnded, mL]) ?_
  rw [show lv_args 0 [va_rf a0, .int a1] = [(0, va_rf a0), (1, .int a1)] from by simp [lv_args, kr_rfcat, kr_icat]]
  unfold f_K_tellOfEnded at h
  refine r_iconst (v := (0 : Int32)) (by decide) d_K_tellOfEnded_0 ?_
  refine r_istore_n (i := 2) (lv' := [(2, .int (0 : Int32)), (0, va_rf a0), (1, .int a1)]) (by decide) rfl d_K_tellOfEnded_1 ?_
  refine r_iconst (v := (0 : Int32)) (by decide) d_K_tellOfEnded_2 ?_
  refine r_istore_n (i := 3) (lv' := [(3, .int (0 : Int32)), (2, .int (0 : Int32)), (0, va_rf a0), (1, .int a1)]) (by decide) rfl d_K_tellOfEnded_3 ?_
  exact kr_sub [2, 3, 1, 0] rfl (s_K_tellOfEnded_L4 kr_FU h)
/-! KeyringCourt.line(I)I -/
def f_K_line_B19 (S : AS) (x0 : Option Nat) (x1 : Int32) (x2 : Option Nat) (y0 : Option Nat) (y1 : Int32) : Option ((Int32 ⊕ String) × AS) :=
  (pZ S 18 1 y0 y1).bind fun S1 =>
  (gI S1 18 1 x2).bind fun v2 =>
  if v2 = 0 then
  some (.inl (0 : Int32), S1)
  else
  (kr_rv S1 22 x0).bind fun u3 =>
  kr_b2 (f_K_tellOfEnded S1 x0 x1) fun v5 S4 =>
  some (.inl v5, S4)
def f_K_line (S : AS) (a0 : Option Nat) (a1 : Int32) : Option ((Int32 ⊕ String) × AS) :=
  (kr_rv S 22 a0).bind fun u6 =>
  kr_bx (f_K_findService S a0 a1) fun v8 S7 =>
  (gI S7 18 1 v8).bind fun v9 =>
  if v9 = 0 then
  f_K_line_B19 S7 a0 a1 v8 v8 (1 : Int32)
  else
  f_K_line_B19 S7 a0 a1 v8 v8 (0 : Int32)
set_option maxRecDepth 20000 in
set_option maxHeartbeats 4000000 in
theorem s_K_line_B19 {S : AS} {x0 : Option Nat} {x1 : Int32} {x2 : Option Nat} {y0 : Option Nat} {y1 : Int32} {r : ((Int32 ⊕ String) × AS)} (h : f_K_line_B19 S x0 x1 x2 y0 y1 = some r) : kr_AW m_K_line 8 19 [(0, va_rf x0), (1, .int x1), (2, va_rf x2)] [.int y1, va_rf y0] S (kr_xI r) := by
  unfold f_K_line_B19 at h
  have h2 := kr_ob h
  clear h
  obtain ⟨S1, eS1, h⟩ := h2
  refine r_putZ eS1 fk123 (Or.inl rfl) rfl d_K_line_19 ?_
  refine r_aload_n (i := 2) (x := x2) 2 rfl d_K_line_22 ?_
  have h2 := kr_ob h
  clear h
  obtain ⟨v2, ev2, h⟩ := h2
  refine r_getI ev2 fk123 rfl d_K_line_23 ?_
  refine r_if_eq (tgt := 37) d_K_line_26 rfl (fun c => ?_) (fun c => ?_)
  · replace h := kr_ip c h
    refine r_iconst (v := (0 : Int32)) (by decide) d_K_line_37 ?_
    cases h
    exact r_iret rfl d_K_line_38
  · replace h := kr_in_ c h
    refine r_aload_n (i := 0) (x := x0) 0 rfl d_K_line_29 ?_
    refine r_iload_n (i := 1) (x := x1) 1 rfl d_K_line_30 ?_
    have h2 := kr_ob h
    clear h
    obtain ⟨⟨⟩, eu3, h⟩ := h2
    have h2 := kr_ob2 h
    clear h
    obtain ⟨v5, S4, eS4, h⟩ := h2
    refine r_callV (M1 := m_K_tellOfEnded) (κ := 22) (As := [.int x1]) eu3 (s_K_tellOfEnded eS4) mok_K_tellOfEnded rfl (by decide) rfl w1274 w1276 w35 (by decide) (kr_c8 kr_c0) d_K_line_31 (kr_k1 ?_) kr_kn
    refine r_goto (tgt := 38) d_K_line_34 rfl ?_
    cases h
    exact r_iret rfl d_K_line_38
set_option maxRecDepth 20000 in
set_option maxHeartbeats 4000000 in
theorem s_K_line {S : AS} {a0 : Option Nat} {a1 : Int32} {r : ((Int32 ⊕ String) × AS)} (h : f_K_line S a0 a1 = some r) : kr_Con m_K_line 8 [va_rf a0, .int a1] S (kr_xI r) := by
  refine kr_con rfl rfl (by decide +kernel) (by simp [lg_sl, kr_rfcat, kr_icat, m_K_line, mL]) ?_
  rw [show lv_args 0 [va_rf a0, .int a1] = [(0, va_rf a0), (1, .int a1)] from by simp [lv_args, kr_rfcat, kr_icat]]
  unfold f_K_line at h
  refine r_aload_n (i := 0) (x := a0) 0 rfl d_K_line_0 ?_
  refine r_iload_n (i := 1) (x := a1) 1 rfl d_K_line_1 ?_
  have h2 := kr_ob h
  clear h
  obtain ⟨⟨⟩, eu6, h⟩ := h2
  rcases kr_obx h with ⟨v8, S7, eS7, h2⟩ | ⟨E, S7, eS7, h2⟩
  · clear h
    have h := h2
    clear h2
    refine r_callV (M1 := m_K_findService) (κ := 22) (As := [.int a1]) eu6 (s_K_findService eS7) mok_K_findService rfl (by decide) rfl w525 w527 w8 (by decide) (kr_c8 kr_c0) d_K_line_2 (kr_k1 ?_) kr_kn
    refine r_astore_n (i := 2) (lv' := [(2, va_rf v8), (0, va_rf a0), (1, .int a1)]) (by decide) rfl d_K_line_5 ?_
    refine r_aload_n (i := 2) (x := v8) 0 rfl d_K_line_6 ?_
    refine r_aload_n (i := 2) (x := v8) 0 rfl d_K_line_7 ?_
    have h2 := kr_ob h
    clear h
    obtain ⟨v9, ev9, h⟩ := h2
    refine r_getI ev9 fk123 rfl d_K_line_8 ?_
    refine r_if_ne (tgt := 18) d_K_line_11 rfl (fun c => ?_) (fun c => ?_)
    · replace h := kr_ip c h
      refine r_iconst (v := (1 : Int32)) (by decide) d_K_line_14 ?_
      refine r_goto (tgt := 19) d_K_line_15 rfl ?_
      exact kr_sub [1, 2, 0] rfl (s_K_line_B19 h)
    · replace h := kr_in_ c h
      refine r_iconst (v := (0 : Int32)) (by decide) d_K_line_18 ?_
      exact kr_sub [1, 2, 0] rfl (s_K_line_B19 h)
  · cases h2
    exact r_callV (M1 := m_K_findService) (κ := 22) (As := [.int a1]) eu6 (s_K_findService eS7) mok_K_findService rfl (by decide) rfl w525 w527 w8 (by decide) (kr_c8 kr_c0) d_K_line_2 kr_nk (kr_kx (r_out rfl))
/-! KeyringCourt.fetchKeys(LKeyringCourt$Service;I)V -/
def f_K_fetchKeys_B30 (S : AS) (x0 : Option Nat) (x1 : Option Nat) (y0 : Int32) : Option AS :=
  (gI S 18 1 x1).bind fun v1 =>
  if v1 = 0 then
  some S
  else
  if y0 = 0 then
  some S
  else
  (gR S 22 15 x0).bind fun v2 =>
  (gI S 15 4 v2).bind fun v3 =>
  (pI S 18 2 x1 v3).bind fun S4 =>
  (gI S4 22 0 x0).bind fun v5 =>
  (pI S4 18 3 x1 v5).bind fun S6 =>
  some S6
def f_K_fetchKeys_B25 (S : AS) (x0 : Option Nat) (x1 : Option Nat) : Option AS :=
  f_K_fetchKeys_B30 S x0 x1 (1 : Int32)
def f_K_fetchKeys (S : AS) (a0 : Option Nat) (a1 : Option Nat) (a2 : Int32) : Option AS :=
  (gI S 22 0 a0).bind fun v7 =>
  (gI S 18 3 a1).bind fun v8 =>
  if (15 : Int32) < (v7 - v8) then
  f_K_fetchKeys_B25 S a0 a1
  else
  (gI S 18 2 a1).bind fun v9 =>
  kr_b2 (f_K_isIn S a2 v9) fun v11 S10 =>
  if v11 = 0 then
  f_K_fetchKeys_B25 S10 a0 a1
  else
  f_K_fetchKeys_B30 S10 a0 a1 (0 : Int32)
set_option maxRecDepth 20000 in
set_option maxHeartbeats 4000000 in
theorem s_K_fetchKeys_B30 {S : AS} {x0 : Option Nat} {x1 : Option Nat} {y0 : Int32} {r : AS} (h : f_K_fetchKeys_B30 S x0 x1 y0 = some r) : kr_AW m_K_fetchKeys 1 30 [(0, va_rf x0), (1, va_rf x1)] [.int y0] S (kr_eV r) := by
  unfold f_K_fetchKeys_B30 at h
  refine r_istore_n (i := 3) (lv' := [(3, .int y0), (0, va_rf x0), (1, va_rf x1)]) (by decide) rfl d_K_fetchKeys_30 ?_
  refine r_aload_n (i := 1) (x := x1) 2 rfl d_K_fetchKeys_31 ?_
  have h2 := kr_ob h
  clear h
  obtain ⟨v1, ev1, h⟩ := h2
  refine r_getI ev1 fk123 rfl d_K_fetchKeys_32 ?_
  refine r_if_eq (tgt := 61) d_K_fetchKeys_35 rfl (fun c => ?_) (fun c => ?_)
  · replace h := kr_ip c h
    cases h
    exact r_vret rfl d_K_fetchKeys_61
  · replace h := kr_in_ c h
    refine r_iload_n (i := 3) (x := y0) 0 rfl d_K_fetchKeys_38 ?_
    refine r_if_eq (tgt := 61) d_K_fetchKeys_39 rfl (fun c => ?_) (fun c => ?_)
    · replace h := kr_ip c h
      cases h
      exact r_vret rfl d_K_fetchKeys_61
    · replace h := kr_in_ c h
      refine r_aload_n (i := 1) (x := x1) 2 rfl d_K_fetchKeys_42 ?_
      refine r_aload_n (i := 0) (x := x0) 1 rfl d_K_fetchKeys_43 ?_
      have h2 := kr_ob h
      clear h
      obtain ⟨v2, ev2, h⟩ := h2
      refine r_getR ev2 fk36 rfl d_K_fetchKeys_44 ?_
      have h2 := kr_ob h
      clear h
      obtain ⟨v3, ev3, h⟩ := h2
      refine r_getI ev3 fk210 rfl d_K_fetchKeys_47 ?_
      have h2 := kr_ob h
      clear h
      obtain ⟨S4, eS4, h⟩ := h2
      refine r_putI eS4 fk211 (Or.inl rfl) rfl d_K_fetchKeys_50 ?_
      refine r_aload_n (i := 1) (x := x1) 2 rfl d_K_fetchKeys_53 ?_
      refine r_aload_n (i := 0) (x := x0) 1 rfl d_K_fetchKeys_54 ?_
      have h2 := kr_ob h
      clear h
      obtain ⟨v5, ev5, h⟩ := h2
      refine r_getI ev5 fk113 rfl d_K_fetchKeys_55 ?_
      have h2 := kr_ob h
      clear h
      obtain ⟨S6, eS6, h⟩ := h2
      refine r_putI eS6 fk212 (Or.inl rfl) rfl d_K_fetchKeys_58 ?_
      cases h
      exact r_vret rfl d_K_fetchKeys_61
set_option maxRecDepth 20000 in
set_option maxHeartbeats 4000000 in
theorem s_K_fetchKeys_B25 {S : AS} {x0 : Option Nat} {x1 : Option Nat} {r : AS} (h : f_K_fetchKeys_B25 S x0 x1 = some r) : kr_AW m_K_fetchKeys 1 25 [(0, va_rf x0), (1, va_rf x1)] [] S (kr_eV r) := by
  unfold f_K_fetchKeys_B25 at h
  refine r_iconst (v := (1 : Int32)) (by decide) d_K_fetchKeys_25 ?_
  refine r_goto (tgt := 30) d_K_fetchKeys_26 rfl ?_
  exact kr_sub [0, 1] rfl (s_K_fetchKeys_B30 h)
set_option maxRecDepth 20000 in
set_option maxHeartbeats 4000000 in
theorem s_K_fetchKeys {S : AS} {a0 : Option Nat} {a1 : Option Nat} {a2 : Int32} {r : AS} (h : f_K_fetchKeys S a0 a1 a2 = some r) : kr_Con m_K_fetchKeys 1 [va_rf a0, va_rf a1, .int a2] S (kr_eV r) := by
  refine kr_con rfl rfl (by decide +kernel) (by simp [lg_sl, kr_rfcat, kr_icat, m_K_fetchKeys, mL]) ?_
  rw [show lv_args 0 [va_rf a0, va_rf a1, .int a2] = [(0, va_rf a0), (1, va_rf a1), (2, .int a2)] from by simp [lv_args, kr_rfcat, kr_icat]]
  unfold f_K_fetchKeys at h
  refine r_aload_n (i := 0) (x := a0) 0 rfl d_K_fetchKeys_0 ?_
  have h2 := kr_ob h
  clear h
  obtain ⟨v7, ev7, h⟩ := h2
  refine r_getI ev7 fk113 rfl d_K_fetchKeys_1 ?_
  refine r_aload_n (i := 1) (x := a1) 1 rfl d_K_fetchKeys_4 ?_
  have h2 := kr_ob h
  clear h
  obtain ⟨v8, ev8, h⟩ := h2
  refine r_getI ev8 fk212 rfl d_K_fetchKeys_5 ?_
  refine r_isub d_K_fetchKeys_8 ?_
  refine r_bipush (v := (15 : Int32)) (by decide) d_K_fetchKeys_9 ?_
  refine r_icmp_gt (tgt := 25) d_K_fetchKeys_11 rfl (fun c => ?_) (fun c => ?_)
  · replace h := kr_ip c h
    exact kr_sub [0, 1] rfl (s_K_fetchKeys_B25 h)
  · replace h := kr_in_ c h
    refine r_iload_n (i := 2) (x := a2) 2 rfl d_K_fetchKeys_14 ?_
    refine r_aload_n (i := 1) (x := a1) 1 rfl d_K_fetchKeys_15 ?_
    have h2 := kr_ob h
    clear h
    obtain ⟨v9, ev9, h⟩ := h2
    refine r_getI ev9 fk211 rfl d_K_fetchKeys_16 ?_
    have h2 := kr_ob2 h
    clear h
    obtain ⟨v11, S10, eS10, h⟩ := h2
    refine r_callS (M1 := m_K_isIn) (As := [.int a2, .int v9]) (s_K_isIn eS10) mok_K_isIn rfl w842 w549 (by decide) (kr_c8 kr_c0) d_K_fetchKeys_19 (kr_k1 ?_) kr_kn
    refine r_if_ne (tgt := 29) d_K_fetchKeys_22 rfl (fun c => ?_) (fun c => ?_)
    · replace h := kr_ip c h
      exact kr_sub [0, 1] rfl (s_K_fetchKeys_B25 h)
    · replace h := kr_in_ c h
      refine r_iconst (v := (0 : Int32)) (by decide) d_K_fetchKeys_29 ?_
      exact kr_sub [0, 1] rfl (s_K_fetchKeys_B30 h)
/-! KeyringCourt.check(III)I -/
def f_K_check (S : AS) (a0 : Option Nat) (a1 : Int32) (a2 : Int32) (a3 : Int32) : Option ((Int32 ⊕ String) × AS) :=
  (kr_rv S 22 a0).bind fun u1 =>
  kr_bx (f_K_findService S a0 a1) fun v3 S2 =>
  (kr_rv S2 22 a0).bind fun u4 =>
  kr_bx (f_K_findToken S2 a0 a2) fun v6 S5 =>
  kr_b2 (f_K_isWithin S5 a3 (0 : Int32) (3 : Int32)) fun v8 S7 =>
  kr_bx (f_K_requireArgument S7 v8) fun z10 S9 =>
  (gI S9 21 2 v6).bind fun v11 =>
  if v11 = a1 then
  (gI S9 22 0 a0).bind fun v12 =>
  (gI S9 21 6 v6).bind fun v13 =>
  if v12 ≤ v13 then
  (gI S9 21 5 v6).bind fun v14 =>
  (kr_rv S9 22 a0).bind fun u15 =>
  (f_K_fetchKeys S9 a0 v3 v14).bind fun S16 =>
  (gI S16 21 5 v6).bind fun v17 =>
  (gI S16 18 2 v3).bind fun v18 =>
  kr_b2 (f_K_isIn S16 v17 v18) fun v20 S19 =>
  if v20 = 0 then
  some (.inl (3 : Int32), S19)
  else
  (gR S19 21 0 v6).bind fun v21 =>
  (gI S19 14 11 v21).bind fun v22 =>
  kr_b2 (f_K_isIn S19 a1 v22) fun v24 S23 =>
  if v24 = 0 then
  (gI S23 21 3 v6).bind fun v25 =>
  kr_b2 (f_K_isIn S23 a3 v25) fun v27 S26 =>
  if v27 = 0 then
  some (.inl (5 : Int32), S26)
  else
  some (.inl (0 : Int32), S26)
  else
  some (.inl (4 : Int32), S23)
  else
  some (.inl (2 : Int32), S9)
  else
  some (.inl (1 : Int32), S9)
set_option maxRecDepth 20000 in
set_option maxHeartbeats 4000000 in
theorem s_K_check {S : AS} {a0 : Option Nat} {a1 : Int32} {a2 : Int32} {a3 : Int32} {r : ((Int32 ⊕ String) × AS)} (h : f_K_check S a0 a1 a2 a3 = some r) : kr_Con m_K_check 9 [va_rf a0, .int a1, .int a2, .int a3] S (kr_xI r) := by
  refine kr_con rfl rfl (by decide +kernel) (by simp [lg_sl, kr_rfcat, kr_icat, m_K_check, mL]) ?_
  rw [show lv_args 0 [va_rf a0, .int a1, .int a2, .int a3] = [(0, va_rf a0), (1, .int a1), (2, .int a2), (3, .int a3)] from by simp [lv_args, kr_rfcat, kr_icat]]
  unfold f_K_check at h
  refine r_aload_n (i := 0) (x := a0) 0 rfl d_K_check_0 ?_
  refine r_iload_n (i := 1) (x := a1) 1 rfl d_K_check_1 ?_
  have h2 := kr_ob h
  clear h
  obtain ⟨⟨⟩, eu1, h⟩ := h2
  rcases kr_obx h with ⟨v3, S2, eS2, h2⟩ | ⟨E, S2, eS2, h2⟩
  · clear h
    have h := h2
    clear h2
    refine r_callV (M1 := m_K_findService) (κ := 22) (As := [.int a1]) eu1 (s_K_findService eS2) mok_K_findService rfl (by decide) rfl w525 w527 w8 (by decide) (kr_c8 kr_c0) d_K_check_2 (kr_k1 ?_) kr_kn
    refine r_astore (i := 4) (lv' := [(4, va_rf v3), (0, va_rf a0), (1, .int a1), (2, .int a2), (3, .int a3)]) (by decide) rfl d_K_check_5 ?_
    refine r_aload_n (i := 0) (x := a0) 1 rfl d_K_check_7 ?_
    refine r_iload_n (i := 2) (x := a2) 3 rfl d_K_check_8 ?_
    have h2 := kr_ob h
    clear h
    obtain ⟨⟨⟩, eu4, h⟩ := h2
    rcases kr_obx h with ⟨v6, S5, eS5, h2⟩ | ⟨E, S5, eS5, h2⟩
    · clear h
      have h := h2
      clear h2
      refine r_callV (M1 := m_K_findToken) (κ := 22) (As := [.int a2]) eu4 (s_K_findToken eS5) mok_K_findToken rfl (by decide) rfl w1223 w1225 w33 (by decide) (kr_c8 kr_c0) d_K_check_9 (kr_k1 ?_) kr_kn
      refine r_astore (i := 5) (lv' := [(5, va_rf v6), (4, va_rf v3), (0, va_rf a0), (1, .int a1), (2, .int a2), (3, .int a3)]) (by decide) (by show kr_st _ 5 _ = _; simp [kr_st, kr_rfcat, kr_icat]) d_K_check_12 ?_
      refine r_iload_n (i := 3) (x := a3) 5 rfl d_K_check_14 ?_
      refine r_iconst (v := (0 : Int32)) (by decide) d_K_check_15 ?_
      refine r_iconst (v := (3 : Int32)) (by decide) d_K_check_16 ?_
      have h2 := kr_ob2 h
      clear h
      obtain ⟨v8, S7, eS7, h⟩ := h2
      refine r_callS (M1 := m_K_isWithin) (As := [.int a3, .int (0 : Int32), .int (3 : Int32)]) (s_K_isWithin eS7) mok_K_isWithin rfl w373 w374 (by decide) (kr_c8 kr_c0) d_K_check_17 (kr_k1 ?_) kr_kn
      rcases kr_obx h with ⟨z10, S9, eS9, h2⟩ | ⟨E, S9, eS9, h2⟩
      · clear h
        have h := h2
        clear h2
        refine r_callS (M1 := m_K_requireArgument) (As := [.int v8]) (s_K_requireArgument eS9) mok_K_requireArgument rfl w376 w377 (by decide) (kr_c8 kr_c0) d_K_check_20 (kr_k0 ?_) kr_kn
        refine r_aload (i := 5) (x := v6) 0 rfl d_K_check_23 ?_
        have h2 := kr_ob h
        clear h
        obtain ⟨v11, ev11, h⟩ := h2
        refine r_getI ev11 fk198 rfl d_K_check_25 ?_
        refine r_iload_n (i := 1) (x := a1) 3 rfl d_K_check_28 ?_
        refine r_icmp_eq (tgt := 34) d_K_check_29 rfl (fun c => ?_) (fun c => ?_)
        · replace h := kr_ip c h
          refine r_aload_n (i := 0) (x := a0) 2 rfl d_K_check_34 ?_
          have h2 := kr_ob h
          clear h
          obtain ⟨v12, ev12, h⟩ := h2
          refine r_getI ev12 fk113 rfl d_K_check_35 ?_
          refine r_aload (i := 5) (x := v6) 0 rfl d_K_check_38 ?_
          have h2 := kr_ob h
          clear h
          obtain ⟨v13, ev13, h⟩ := h2
          refine r_getI ev13 fk205 rfl d_K_check_40 ?_
          refine r_icmp_le (tgt := 48) d_K_check_43 rfl (fun c => ?_) (fun c => ?_)
          · replace h := kr_ip c h
            refine r_aload_n (i := 0) (x := a0) 2 rfl d_K_check_48 ?_
            refine r_aload (i := 4) (x := v3) 1 rfl d_K_check_49 ?_
            refine r_aload (i := 5) (x := v6) 0 rfl d_K_check_51 ?_
            have h2 := kr_ob h
            clear h
            obtain ⟨v14, ev14, h⟩ := h2
            refine r_getI ev14 fk213 rfl d_K_check_53 ?_
            have h2 := kr_ob h
            clear h
            obtain ⟨⟨⟩, eu15, h⟩ := h2
            have h2 := kr_ob h
            clear h
            obtain ⟨S16, eS16, h⟩ := h2
            refine r_callV (M1 := m_K_fetchKeys) (κ := 22) (As := [va_rf v3, .int v14]) eu15 (s_K_fetchKeys eS16) mok_K_fetchKeys rfl (by decide) rfl w1285 w1287 w36 (by decide) (kr_c8 kr_c0) d_K_check_56 (kr_k0 ?_) kr_kn
            refine r_aload (i := 5) (x := v6) 0 rfl d_K_check_59 ?_
            have h2 := kr_ob h
            clear h
            obtain ⟨v17, ev17, h⟩ := h2
            refine r_getI ev17 fk213 rfl d_K_check_61 ?_
            refine r_aload (i := 4) (x := v3) 1 rfl d_K_check_64 ?_
            have h2 := kr_ob h
            clear h
            obtain ⟨v18, ev18, h⟩ := h2
            refine r_getI ev18 fk211 rfl d_K_check_66 ?_
            have h2 := kr_ob2 h
            clear h
            obtain ⟨v20, S19, eS19, h⟩ := h2
            refine r_callS (M1 := m_K_isIn) (As := [.int v17, .int v18]) (s_K_isIn eS19) mok_K_isIn rfl w842 w549 (by decide) (kr_c8 kr_c0) d_K_check_69 (kr_k1 ?_) kr_kn
            refine r_if_ne (tgt := 77) d_K_check_72 rfl (fun c => ?_) (fun c => ?_)
            · replace h := kr_ip c h
              refine r_iconst (v := (3 : Int32)) (by decide) d_K_check_75 ?_
              cases h
              exact r_iret rfl d_K_check_76
            · replace h := kr_in_ c h
              refine r_iload_n (i := 1) (x := a1) 3 rfl d_K_check_77 ?_
              refine r_aload (i := 5) (x := v6) 0 rfl d_K_check_78 ?_
              have h2 := kr_ob h
              clear h
              obtain ⟨v21, ev21, h⟩ := h2
              refine r_getR ev21 fk195 rfl d_K_check_80 ?_
              have h2 := kr_ob h
              clear h
              obtain ⟨v22, ev22, h⟩ := h2
              refine r_getI ev22 fk214 rfl d_K_check_83 ?_
              have h2 := kr_ob2 h
              clear h
              obtain ⟨v24, S23, eS23, h⟩ := h2
              refine r_callS (M1 := m_K_isIn) (As := [.int a1, .int v22]) (s_K_isIn eS23) mok_K_isIn rfl w842 w549 (by decide) (kr_c8 kr_c0) d_K_check_86 (kr_k1 ?_) kr_kn
              refine r_if_eq (tgt := 94) d_K_check_89 rfl (fun c => ?_) (fun c => ?_)
              · replace h := kr_ip c h
                refine r_iload_n (i := 3) (x := a3) 5 rfl d_K_check_94 ?_
                refine r_aload (i := 5) (x := v6) 0 rfl d_K_check_95 ?_
                have h2 := kr_ob h
                clear h
                obtain ⟨v25, ev25, h⟩ := h2
                refine r_getI ev25 fk206 rfl d_K_check_97 ?_
                have h2 := kr_ob2 h
                clear h
                obtain ⟨v27, S26, eS26, h⟩ := h2
                refine r_callS (M1 := m_K_isIn) (As := [.int a3, .int v25]) (s_K_isIn eS26) mok_K_isIn rfl w842 w549 (by decide) (kr_c8 kr_c0) d_K_check_100 (kr_k1 ?_) kr_kn
                refine r_if_eq (tgt := 110) d_K_check_103 rfl (fun c => ?_) (fun c => ?_)
                · replace h := kr_ip c h
                  refine r_iconst (v := (5 : Int32)) (by decide) d_K_check_110 ?_
                  cases h
                  exact r_iret rfl d_K_check_111
                · replace h := kr_in_ c h
                  refine r_iconst (v := (0 : Int32)) (by decide) d_K_check_106 ?_
                  refine r_goto (tgt := 111) d_K_check_107 rfl ?_
                  cases h
                  exact r_iret rfl d_K_check_111
              · replace h := kr_in_ c h
                refine r_iconst (v := (4 : Int32)) (by decide) d_K_check_92 ?_
                cases h
                exact r_iret rfl d_K_check_93
          · replace h := kr_in_ c h
            refine r_iconst (v := (2 : Int32)) (by decide) d_K_check_46 ?_
            cases h
            exact r_iret rfl d_K_check_47
        · replace h := kr_in_ c h
          refine r_iconst (v := (1 : Int32)) (by decide) d_K_check_32 ?_
          cases h
          exact r_iret rfl d_K_check_33
      · cases h2
        exact r_callS (M1 := m_K_requireArgument) (As := [.int v8]) (s_K_requireArgument eS9) mok_K_requireArgument rfl w376 w377 (by decide) (kr_c8 kr_c0) d_K_check_20 kr_nk (kr_kx (r_out rfl))
    · cases h2
      exact r_callV (M1 := m_K_findToken) (κ := 22) (As := [.int a2]) eu4 (s_K_findToken eS5) mok_K_findToken rfl (by decide) rfl w1223 w1225 w33 (by decide) (kr_c8 kr_c0) d_K_check_9 kr_nk (kr_kx (r_out rfl))
  · cases h2
    exact r_callV (M1 := m_K_findService) (κ := 22) (As := [.int a1]) eu1 (s_K_findService eS2) mok_K_findService rfl (by decide) rfl w525 w527 w8 (by decide) (kr_c8 kr_c0) d_K_check_2 kr_nk (kr_kx (r_out rfl))
/-! KeyringCourt.lag(I)I -/
def f_K_lag (S : AS) (a0 : Option Nat) (a1 : Int32) : Option ((Int32 ⊕ String) × AS) :=
  (kr_rv S 22 a0).bind fun u1 =>
  kr_bx (f_K_findToken S a0 a1) fun v3 S2 =>
  (gR S2 21 0 v3).bind fun v4 =>
  (gI S2 14 6 v4).bind fun v5 =>
  if v5 = 0 then
  (gI S2 21 2 v3).bind fun v6 =>
  (gR S2 21 0 v3).bind fun v7 =>
  (gI S2 14 11 v7).bind fun v8 =>
  kr_b2 (f_K_isIn S2 v6 v8) fun v10 S9 =>
  if v10 = 0 then
  (gI S9 21 6 v3).bind fun v11 =>
  (gI S9 22 0 a0).bind fun v12 =>
  some (.inl (if (0 : Int32) < ((v11 - v12) + (1 : Int32)) then ((v11 - v12) + (1 : Int32)) else (0 : Int32)), S9)
  else
  some (.inl (0 : Int32), S9)
  else
  some (.inl (0 : Int32), S2)
set_option maxRecDepth 20000 in
set_option maxHeartbeats 4000000 in
theorem s_K_lag {S : AS} {a0 : Option Nat} {a1 : Int32} {r : ((Int32 ⊕ String) × AS)} (h : f_K_lag S a0 a1 = some r) : kr_Con m_K_lag 9 [va_rf a0, .int a1] S (kr_xI r) := by
  refine kr_con rfl rfl (by decide +kernel) (by simp [lg_sl, kr_rfcat, kr_icat, m_K_lag, mL]) ?_
  rw [show lv_args 0 [va_rf a0, .int a1] = [(0, va_rf a0), (1, .int a1)] from by simp [lv_args, kr_rfcat, kr_icat]]
  unfold f_K_lag at h
  refine r_aload_n (i := 0) (x := a0) 0 rfl d_K_lag_0 ?_
  refine r_iload_n (i := 1) (x := a1) 1 rfl d_K_lag_1 ?_
  have h2 := kr_ob h
  clear h
  obtain ⟨⟨⟩, eu1, h⟩ := h2
  rcases kr_obx h with ⟨v3, S2, eS2, h2⟩ | ⟨E, S2, eS2, h2⟩
  · clear h
    have h := h2
    clear h2
    refine r_callV (M1 := m_K_findToken) (κ := 22) (As := [.int a1]) eu1 (s_K_findToken eS2) mok_K_findToken rfl (by decide) rfl w1223 w1225 w33 (by decide) (kr_c8 kr_c0) d_K_lag_2 (kr_k1 ?_) kr_kn
    refine r_astore_n (i := 2) (lv' := [(2, va_rf v3), (0, va_rf a0), (1, .int a1)]) (by decide) rfl d_K_lag_5 ?_
    refine r_aload_n (i := 2) (x := v3) 0 rfl d_K_lag_6 ?_
    have h2 := kr_ob h
    clear h
    obtain ⟨v4, ev4, h⟩ := h2
    refine r_getR ev4 fk195 rfl d_K_lag_7 ?_
    have h2 := kr_ob h
    clear h
    obtain ⟨v5, ev5, h⟩ := h2
    refine r_getI ev5 fk124 rfl d_K_lag_10 ?_
    refine r_if_ne (tgt := 33) d_K_lag_13 rfl (fun c => ?_) (fun c => ?_)
    · replace h := kr_ip c h
      refine r_aload_n (i := 2) (x := v3) 0 rfl d_K_lag_16 ?_
      have h2 := kr_ob h
      clear h
      obtain ⟨v6, ev6, h⟩ := h2
      refine r_getI ev6 fk198 rfl d_K_lag_17 ?_
      refine r_aload_n (i := 2) (x := v3) 0 rfl d_K_lag_20 ?_
      have h2 := kr_ob h
      clear h
      obtain ⟨v7, ev7, h⟩ := h2
      refine r_getR ev7 fk195 rfl d_K_lag_21 ?_
      have h2 := kr_ob h
      clear h
      obtain ⟨v8, ev8, h⟩ := h2
      refine r_getI ev8 fk214 rfl d_K_lag_24 ?_
      have h2 := kr_ob2 h
      clear h
      obtain ⟨v10, S9, eS9, h⟩ := h2
      refine r_callS (M1 := m_K_isIn) (As := [.int v6, .int v8]) (s_K_isIn eS9) mok_K_isIn rfl w842 w549 (by decide) (kr_c8 kr_c0) d_K_lag_27 (kr_k1 ?_) kr_kn
      refine r_if_eq (tgt := 35) d_K_lag_30 rfl (fun c => ?_) (fun c => ?_)
      · replace h := kr_ip c h
        refine r_iconst (v := (0 : Int32)) (by decide) d_K_lag_35 ?_
        refine r_aload_n (i := 2) (x := v3) 0 rfl d_K_lag_36 ?_
        have h2 := kr_ob h
        clear h
        obtain ⟨v11, ev11, h⟩ := h2
        refine r_getI ev11 fk205 rfl d_K_lag_37 ?_
        refine r_aload_n (i := 0) (x := a0) 1 rfl d_K_lag_40 ?_
        have h2 := kr_ob h
        clear h
        obtain ⟨v12, ev12, h⟩ := h2
        refine r_getI ev12 fk113 rfl d_K_lag_41 ?_
        refine r_isub d_K_lag_44 ?_
        refine r_iconst (v := (1 : Int32)) (by decide) d_K_lag_45 ?_
        refine r_iadd d_K_lag_46 ?_
        refine r_mmax w1296 w662 w94 w663 (by decide) (kr_c8 kr_c0) d_K_lag_47 ?_
        cases h
        exact r_iret rfl d_K_lag_50
      · replace h := kr_in_ c h
        refine r_iconst (v := (0 : Int32)) (by decide) d_K_lag_33 ?_
        cases h
        exact r_iret rfl d_K_lag_34
    · replace h := kr_in_ c h
      refine r_iconst (v := (0 : Int32)) (by decide) d_K_lag_33 ?_
      cases h
      exact r_iret rfl d_K_lag_34
  · cases h2
    exact r_callV (M1 := m_K_findToken) (κ := 22) (As := [.int a1]) eu1 (s_K_findToken eS2) mok_K_findToken rfl (by decide) rfl w1223 w1225 w33 (by decide) (kr_c8 kr_c0) d_K_lag_2 kr_nk (kr_kx (r_out rfl))
/-! KeyringCourt.hasOpenRecovery(LKeyringCourt$Person;)Z -/
def f_K_hasOpenRecovery_B42 (k2 : AS → Option Nat → Option Nat → Int32 → Option (Int32 × AS)) (S : AS) (x0 : Option Nat) (x1 : Option Nat) (x2 : Int32) : Option (Int32 × AS) :=
  (some (x2 + (1 : Int32))).bind fun i1 =>
  k2 S x0 x1 i1
def f_K_hasOpenRecovery_C2 (k2 : AS → Option Nat → Option Nat → Int32 → Option (Int32 × AS)) (S : AS) (x0 : Option Nat) (x1 : Option Nat) (x2 : Int32) : Option (Int32 × AS) :=
  (gR S 22 16 x0).bind fun v2 =>
  (kr_rv S 10 v2).bind fun u3 =>
  kr_b2 (f_AL_size S v2) fun v5 S4 =>
  if v5 ≤ x2 then
  some ((0 : Int32), S4)
  else
  (gR S4 22 16 x0).bind fun v6 =>
  (kr_rv S4 10 v6).bind fun u7 =>
  kr_b2 (f_AL_get S4 v6 x2) fun v9 S8 =>
  (kr_cc S8 17 v9).bind fun u10 =>
  (gI S8 17 2 v9).bind fun v11 =>
  if v11 = 0 then
  f_K_hasOpenRecovery_B42 k2 S8 x0 x1 x2
  else
  (gR S8 17 0 v9).bind fun v12 =>
  (kr_ac S8 v12).bind fun u13 =>
  (kr_ac S8 x1).bind fun u14 =>
  if v12 = x1 then
  some ((1 : Int32), S8)
  else
  f_K_hasOpenRecovery_B42 k2 S8 x0 x1 x2
def f_K_hasOpenRecovery_L2 : Nat → AS → Option Nat → Option Nat → Int32 → Option (Int32 × AS)
  | 0, S, x0, x1, x2 => none
  | n + 1, S, x0, x1, x2 => f_K_hasOpenRecovery_C2 (f_K_hasOpenRecovery_L2 n) S x0 x1 x2
def f_K_hasOpenRecovery (S : AS) (a0 : Option Nat) (a1 : Option Nat) : Option (Int32 × AS) :=
  f_K_hasOpenRecovery_L2 kr_FU S a0 a1 (0 : Int32)
set_option maxRecDepth 20000 in
set_option maxHeartbeats 4000000 in
theorem s_K_hasOpenRecovery_B42 {k2 : AS → Option Nat → Option Nat → Int32 → Option (Int32 × AS)} (hk2 : ∀ {S : AS} {x0 : Option Nat} {x1 : Option Nat} {x2 : Int32} {r : (Int32 × AS)}, k2 S x0 x1 x2 = some r → kr_AW m_K_hasOpenRecovery 3 2 [(0, va_rf x0), (1, va_rf x1), (2, .int x2)] [] S (kr_eI r)) {S : AS} {x0 : Option Nat} {x1 : Option Nat} {x2 : Int32} {r : (Int32 × AS)} (h : f_K_hasOpenRecovery_B42 k2 S x0 x1 x2 = some r) : kr_AW m_K_hasOpenRecovery 3 42 [(0, va_rf x0), (1, va_rf x1), (2, .int x2)] [] S (kr_eI r) := by
  unfold f_K_hasOpenRecovery_B42 at h
  have h2 := kr_ob h
  clear h
  obtain ⟨i1, ei1, h⟩ := h2
  refine r_iinc (v := i1) (lv' := [(2, .int i1), (0, va_rf x0), (1, va_rf x1)]) 2 rfl (kr_inc (by decide) ei1) (by decide) (by simp [kr_st, kr_rfcat, kr_icat]) d_K_hasOpenRecovery_42 ?_
  refine r_goto (tgt := 2) d_K_hasOpenRecovery_45 rfl ?_
  exact kr_sub [1, 2, 0] rfl (hk2 h)
set_option maxRecDepth 20000 in
set_option maxHeartbeats 4000000 in
theorem s_K_hasOpenRecovery_C2 {k2 : AS → Option Nat → Option Nat → Int32 → Option (Int32 × AS)} (hk2 : ∀ {S : AS} {x0 : Option Nat} {x1 : Option Nat} {x2 : Int32} {r : (Int32 × AS)}, k2 S x0 x1 x2 = some r → kr_AW m_K_hasOpenRecovery 3 2 [(0, va_rf x0), (1, va_rf x1), (2, .int x2)] [] S (kr_eI r)) {S : AS} {x0 : Option Nat} {x1 : Option Nat} {x2 : Int32} {r : (Int32 × AS)} (h : f_K_hasOpenRecovery_C2 k2 S x0 x1 x2 = some r) : kr_AW m_K_hasOpenRecovery 3 2 [(0, va_rf x0), (1, va_rf x1), (2, .int x2)] [] S (kr_eI r) := by
  unfold f_K_hasOpenRecovery_C2 at h
  refine r_iload_n (i := 2) (x := x2) 2 rfl d_K_hasOpenRecovery_2 ?_
  refine r_aload_n (i := 0) (x := x0) 0 rfl d_K_hasOpenRecovery_3 ?_
  have h2 := kr_ob h
  clear h
  obtain ⟨v2, ev2, h⟩ := h2
  refine r_getR ev2 fk37 rfl d_K_hasOpenRecovery_4 ?_
  have h2 := kr_ob h
  clear h
  obtain ⟨⟨⟩, eu3, h⟩ := h2
  have h2 := kr_ob2 h
  clear h
  obtain ⟨v5, S4, eS4, h⟩ := h2
  refine r_callV (M1 := m_AL_size) (κ := 10) (As := []) eu3 (s_AL_size eS4) mok_AL_size rfl (by decide) rfl w348 w349 w350 (by decide) (kr_c8 (kr_cI kr_c0)) d_K_hasOpenRecovery_7 (kr_k1 ?_) kr_kn
  refine r_icmp_ge (tgt := 48) d_K_hasOpenRecovery_10 rfl (fun c => ?_) (fun c => ?_)
  · replace h := kr_ip c h
    refine r_iconst (v := (0 : Int32)) (by decide) d_K_hasOpenRecovery_48 ?_
    cases h
    exact r_zret rfl rfl d_K_hasOpenRecovery_49
  · replace h := kr_in_ c h
    refine r_aload_n (i := 0) (x := x0) 0 rfl d_K_hasOpenRecovery_13 ?_
    have h2 := kr_ob h
    clear h
    obtain ⟨v6, ev6, h⟩ := h2
    refine r_getR ev6 fk37 rfl d_K_hasOpenRecovery_14 ?_
    refine r_iload_n (i := 2) (x := x2) 2 rfl d_K_hasOpenRecovery_17 ?_
    have h2 := kr_ob h
    clear h
    obtain ⟨⟨⟩, eu7, h⟩ := h2
    have h2 := kr_ob2 h
    clear h
    obtain ⟨v9, S8, eS8, h⟩ := h2
    refine r_callV (M1 := m_AL_get) (κ := 10) (As := [.int x2]) eu7 (s_AL_get eS8) mok_AL_get rfl (by decide) rfl w489 w490 w491 (by decide) (kr_c8 kr_c0) d_K_hasOpenRecovery_18 (kr_k1 ?_) kr_kn
    have h2 := kr_ob h
    clear h
    obtain ⟨⟨⟩, eu10, h⟩ := h2
    refine r_cast eu10 (by decide) w1308 d_K_hasOpenRecovery_21 ?_
    refine r_astore_n (i := 3) (lv' := [(3, va_rf v9), (0, va_rf x0), (1, va_rf x1), (2, .int x2)]) (by decide) rfl d_K_hasOpenRecovery_24 ?_
    refine r_aload_n (i := 3) (x := v9) 0 rfl d_K_hasOpenRecovery_25 ?_
    have h2 := kr_ob h
    clear h
    obtain ⟨v11, ev11, h⟩ := h2
    refine r_getI ev11 fk215 rfl d_K_hasOpenRecovery_26 ?_
    refine r_if_eq (tgt := 42) d_K_hasOpenRecovery_29 rfl (fun c => ?_) (fun c => ?_)
    · replace h := kr_ip c h
      exact kr_sub [1, 2, 3] rfl (s_K_hasOpenRecovery_B42 hk2 h)
    · replace h := kr_in_ c h
      refine r_aload_n (i := 3) (x := v9) 0 rfl d_K_hasOpenRecovery_32 ?_
      have h2 := kr_ob h
      clear h
      obtain ⟨v12, ev12, h⟩ := h2
      refine r_getR ev12 fk216 rfl d_K_hasOpenRecovery_33 ?_
      refine r_aload_n (i := 1) (x := x1) 2 rfl d_K_hasOpenRecovery_36 ?_
      have h2 := kr_ob h
      clear h
      obtain ⟨⟨⟩, eu13, h⟩ := h2
      have h2 := kr_ob h
      clear h
      obtain ⟨⟨⟩, eu14, h⟩ := h2
      refine r_acmp_ne (tgt := 42) eu13 eu14 d_K_hasOpenRecovery_37 rfl (fun c => ?_) (fun c => ?_)
      · replace h := kr_ip c h
        refine r_iconst (v := (1 : Int32)) (by decide) d_K_hasOpenRecovery_40 ?_
        cases h
        exact r_zret rfl rfl d_K_hasOpenRecovery_41
      · replace h := kr_in_ c h
        exact kr_sub [1, 2, 3] rfl (s_K_hasOpenRecovery_B42 hk2 h)
theorem s_K_hasOpenRecovery_L2 (n : Nat) : ∀ {S : AS} {x0 : Option Nat} {x1 : Option Nat} {x2 : Int32} {r : (Int32 × AS)}, f_K_hasOpenRecovery_L2 n S x0 x1 x2 = some r → kr_AW m_K_hasOpenRecovery 3 2 [(0, va_rf x0), (1, va_rf x1), (2, .int x2)] [] S (kr_eI r) := by
  induction n with
  | zero => intro S x0 x1 x2 r h; cases h
  | succ n ih => intro S x0 x1 x2 r h; exact s_K_hasOpenRecovery_C2 (fun {_} {_} {_} {_} {_} h => ih h) h
set_option maxRecDepth 20000 in
set_option maxHeartbeats 4000000 in
theorem s_K_hasOpenRecovery {S : AS} {a0 : Option Nat} {a1 : Option Nat} {r : (Int32 × AS)} (h : f_K_hasOpenRecovery S a0 a1 = some r) : kr_Con m_K_hasOpenRecovery 3 [va_rf a0, va_rf a1] S (kr_eI r) := by
  refine kr_con rfl rfl (by decide +kernel) (by simp [lg_sl, kr_rfcat, kr_icat, m_K_hasOpenRecovery, mL]) ?_
  rw [show lv_args 0 [va_rf a0, va_rf a1] = [(0, va_rf a0), (1, va_rf a1)] from by simp [lv_args, kr_rfcat, kr_icat]]
  unfold f_K_hasOpenRecovery at h
  refine r_iconst (v := (0 : Int32)) (by decide) d_K_hasOpenRecovery_0 ?_
  refine r_istore_n (i := 2) (lv' := [(2, .int (0 : Int32)), (0, va_rf a0), (1, va_rf a1)]) (by decide) (by show kr_st _ 2 _ = _; simp [kr_st, kr_rfcat, kr_icat]) d_K_hasOpenRecovery_1 ?_
  exact kr_sub [1, 2, 0] rfl (s_K_hasOpenRecovery_L2 kr_FU h)
/-! KeyringCourt.recover(I)I -/
def f_K_recover_B38 (S : AS) (x0 : Option Nat) (x2 : Option Nat) (y0 : Int32) : Option ((Int32 ⊕ String) × AS) :=
  kr_bx (f_K_requireState S y0) fun z2 S1 =>
  (gR S1 22 16 x0).bind fun v3 =>
  (some (nO S1 17)).bind fun S4 =>
  (gI S4 22 0 x0).bind fun v5 =>
  (f_Recovery_init S4 (some (sN S1)) x2 v5).bind fun S6 =>
  (kr_rv S6 10 v3).bind fun u7 =>
  kr_b2 (f_AL_add1 S6 v3 (some (sN S1))) fun v9 S8 =>
  (gR S8 22 16 x0).bind fun v10 =>
  (kr_rv S8 10 v10).bind fun u11 =>
  kr_b2 (f_AL_size S8 v10) fun v13 S12 =>
  some (.inl (v13 - (1 : Int32)), S12)
def f_K_recover_B37 (S : AS) (x0 : Option Nat) (x2 : Option Nat) : Option ((Int32 ⊕ String) × AS) :=
  f_K_recover_B38 S x0 x2 (0 : Int32)
def f_K_recover (S : AS) (a0 : Option Nat) (a1 : Int32) : Option ((Int32 ⊕ String) × AS) :=
  (kr_rv S 22 a0).bind fun u14 =>
  kr_bx (f_K_findPerson S a0 a1) fun v16 S15 =>
  (gI S15 16 11 v16).bind fun v17 =>
  if v17 = 0 then
  (kr_rv S15 22 a0).bind fun u18 =>
  kr_b2 (f_K_hasOpenRecovery S15 a0 v16) fun v20 S19 =>
  if v20 = 0 then
  (gR S19 22 16 a0).bind fun v21 =>
  (kr_rv S19 10 v21).bind fun u22 =>
  kr_b2 (f_AL_size S19 v21) fun v24 S23 =>
  if (20 : Int32) ≤ v24 then
  f_K_recover_B37 S23 a0 v16
  else
  f_K_recover_B38 S23 a0 v16 (1 : Int32)
  else
  f_K_recover_B37 S19 a0 v16
  else
  f_K_recover_B37 S15 a0 v16
set_option maxRecDepth 20000 in
set_option maxHeartbeats 4000000 in
theorem s_K_recover_B38 {S : AS} {x0 : Option Nat} {x2 : Option Nat} {y0 : Int32} {r : ((Int32 ⊕ String) × AS)} (h : f_K_recover_B38 S x0 x2 y0 = some r) : kr_AW m_K_recover 8 38 [(0, va_rf x0), (2, va_rf x2)] [.int y0] S (kr_xI r) := by
  unfold f_K_recover_B38 at h
  rcases kr_obx h with ⟨z2, S1, eS1, h2⟩ | ⟨E, S1, eS1, h2⟩
  · clear h
    have h := h2
    clear h2
    refine r_callS (M1 := m_K_requireState) (As := [.int y0]) (s_K_requireState eS1) mok_K_requireState rfl w442 w443 (by decide) (kr_c8 kr_c0) d_K_recover_38 (kr_k0 ?_) kr_kn
    refine r_aload_n (i := 0) (x := x0) 0 rfl d_K_recover_41 ?_
    have h2 := kr_ob h
    clear h
    obtain ⟨v3, ev3, h⟩ := h2
    refine r_getR ev3 fk37 rfl d_K_recover_42 ?_
    have h2 := kr_ob h
    clear h
    obtain ⟨S4, eS4, h⟩ := h2
    refine r_newO_ (κ := 17) eS4 (by decide) w1308 w1309 w102 d_K_recover_45 ?_
    refine r_dup (kr_rfcat _) d_K_recover_48 ?_
    refine r_aload_n (i := 2) (x := x2) 1 rfl d_K_recover_49 ?_
    refine r_aload_n (i := 0) (x := x0) 0 rfl d_K_recover_50 ?_
    have h2 := kr_ob h
    clear h
    obtain ⟨v5, ev5, h⟩ := h2
    refine r_getI ev5 fk113 rfl d_K_recover_51 ?_
    have h2 := kr_ob h
    clear h
    obtain ⟨S6, eS6, h⟩ := h2
    refine r_callIN (M1 := m_Recovery_init) (As := [va_rf x2, .int v5]) (s_Recovery_init eS6) mok_Recovery_init rfl rfl rfl w1310 w1311 (by decide) (kr_c8 (kr_cR (kr_cR kr_c0))) d_K_recover_54 (kr_k0 ?_) kr_kn
    have h2 := kr_ob h
    clear h
    obtain ⟨⟨⟩, eu7, h⟩ := h2
    have h2 := kr_ob2 h
    clear h
    obtain ⟨v9, S8, eS8, h⟩ := h2
    refine r_callV (M1 := m_AL_add1) (κ := 10) (As := [va_rf (some (sN S1))]) eu7 (s_AL_add1 eS8) mok_AL_add1 rfl (by decide) rfl w642 w643 w644 (by decide) (kr_c8 kr_c0) d_K_recover_57 (kr_k1 ?_) kr_kn
    refine r_pop rfl d_K_recover_60 ?_
    refine r_aload_n (i := 0) (x := x0) 0 rfl d_K_recover_61 ?_
    have h2 := kr_ob h
    clear h
    obtain ⟨v10, ev10, h⟩ := h2
    refine r_getR ev10 fk37 rfl d_K_recover_62 ?_
    have h2 := kr_ob h
    clear h
    obtain ⟨⟨⟩, eu11, h⟩ := h2
    have h2 := kr_ob2 h
    clear h
    obtain ⟨v13, S12, eS12, h⟩ := h2
    refine r_callV (M1 := m_AL_size) (κ := 10) (As := []) eu11 (s_AL_size eS12) mok_AL_size rfl (by decide) rfl w348 w349 w350 (by decide) (kr_c8 kr_c0) d_K_recover_65 (kr_k1 ?_) kr_kn
    refine r_iconst (v := (1 : Int32)) (by decide) d_K_recover_68 ?_
    refine r_isub d_K_recover_69 ?_
    cases h
    exact r_iret rfl d_K_recover_70
  · cases h2
    exact r_callS (M1 := m_K_requireState) (As := [.int y0]) (s_K_requireState eS1) mok_K_requireState rfl w442 w443 (by decide) (kr_c8 kr_c0) d_K_recover_38 kr_nk (kr_kx (r_out rfl))
set_option maxRecDepth 20000 in
set_option maxHeartbeats 4000000 in
theorem s_K_recover_B37 {S : AS} {x0 : Option Nat} {x2 : Option Nat} {r : ((Int32 ⊕ String) × AS)} (h : f_K_recover_B37 S x0 x2 = some r) : kr_AW m_K_recover 8 37 [(0, va_rf x0), (2, va_rf x2)] [] S (kr_xI r) := by
  unfold f_K_recover_B37 at h
  refine r_iconst (v := (0 : Int32)) (by decide) d_K_recover_37 ?_
  exact kr_sub [0, 1] rfl (s_K_recover_B38 h)
set_option maxRecDepth 20000 in
set_option maxHeartbeats 4000000 in
theorem s_K_recover {S : AS} {a0 : Option Nat} {a1 : Int32} {r : ((Int32 ⊕ String) × AS)} (h : f_K_recover S a0 a1 = some r) : kr_Con m_K_recover 8 [va_rf a0, .int a1] S (kr_xI r) := by
  refine kr_con rfl rfl (by decide +kernel) (by simp [lg_sl, kr_rfcat, kr_icat, m_K_recover, mL]) ?_
  rw [show lv_args 0 [va_rf a0, .int a1] = [(0, va_rf a0), (1, .int a1)] from by simp [lv_args, kr_rfcat, kr_icat]]
  unfold f_K_recover at h
  refine r_aload_n (i := 0) (x := a0) 0 rfl d_K_recover_0 ?_
  refine r_iload_n (i := 1) (x := a1) 1 rfl d_K_recover_1 ?_
  have h2 := kr_ob h
  clear h
  obtain ⟨⟨⟩, eu14, h⟩ := h2
  rcases kr_obx h with ⟨v16, S15, eS15, h2⟩ | ⟨E, S15, eS15, h2⟩
  · clear h
    have h := h2
    clear h2
    refine r_callV (M1 := m_K_findPerson) (κ := 22) (As := [.int a1]) eu14 (s_K_findPerson eS15) mok_K_findPerson rfl (by decide) rfl w559 w561 w9 (by decide) (kr_c8 kr_c0) d_K_recover_2 (kr_k1 ?_) kr_kn
    refine r_astore_n (i := 2) (lv' := [(2, va_rf v16), (0, va_rf a0), (1, .int a1)]) (by decide) rfl d_K_recover_5 ?_
    refine r_aload_n (i := 2) (x := v16) 0 rfl d_K_recover_6 ?_
    have h2 := kr_ob h
    clear h
    obtain ⟨v17, ev17, h⟩ := h2
    refine r_getI ev17 fk167 rfl d_K_recover_7 ?_
    refine r_if_ne (tgt := 37) d_K_recover_10 rfl (fun c => ?_) (fun c => ?_)
    · replace h := kr_ip c h
      refine r_aload_n (i := 0) (x := a0) 1 rfl d_K_recover_13 ?_
      refine r_aload_n (i := 2) (x := v16) 0 rfl d_K_recover_14 ?_
      have h2 := kr_ob h
      clear h
      obtain ⟨⟨⟩, eu18, h⟩ := h2
      have h2 := kr_ob2 h
      clear h
      obtain ⟨v20, S19, eS19, h⟩ := h2
      refine r_callV (M1 := m_K_hasOpenRecovery) (κ := 22) (As := [va_rf v16]) eu18 (s_K_hasOpenRecovery eS19) mok_K_hasOpenRecovery rfl (by decide) rfl w1304 w1306 w37 (by decide) (kr_c8 kr_c0) d_K_recover_15 (kr_k1 ?_) kr_kn
      refine r_if_ne (tgt := 37) d_K_recover_18 rfl (fun c => ?_) (fun c => ?_)
      · replace h := kr_ip c h
        refine r_aload_n (i := 0) (x := a0) 1 rfl d_K_recover_21 ?_
        have h2 := kr_ob h
        clear h
        obtain ⟨v21, ev21, h⟩ := h2
        refine r_getR ev21 fk37 rfl d_K_recover_22 ?_
        have h2 := kr_ob h
        clear h
        obtain ⟨⟨⟩, eu22, h⟩ := h2
        have h2 := kr_ob2 h
        clear h
        obtain ⟨v24, S23, eS23, h⟩ := h2
        refine r_callV (M1 := m_AL_size) (κ := 10) (As := []) eu22 (s_AL_size eS23) mok_AL_size rfl (by decide) rfl w348 w349 w350 (by decide) (kr_c8 kr_c0) d_K_recover_25 (kr_k1 ?_) kr_kn
        refine r_bipush (v := (20 : Int32)) (by decide) d_K_recover_28 ?_
        refine r_icmp_ge (tgt := 37) d_K_recover_30 rfl (fun c => ?_) (fun c => ?_)
        · replace h := kr_ip c h
          exact kr_sub [1, 0] rfl (s_K_recover_B37 h)
        · replace h := kr_in_ c h
          refine r_iconst (v := (1 : Int32)) (by decide) d_K_recover_33 ?_
          refine r_goto (tgt := 38) d_K_recover_34 rfl ?_
          exact kr_sub [1, 0] rfl (s_K_recover_B38 h)
      · replace h := kr_in_ c h
        exact kr_sub [1, 0] rfl (s_K_recover_B37 h)
    · replace h := kr_in_ c h
      exact kr_sub [1, 0] rfl (s_K_recover_B37 h)
  · cases h2
    exact r_callV (M1 := m_K_findPerson) (κ := 22) (As := [.int a1]) eu14 (s_K_findPerson eS15) mok_K_findPerson rfl (by decide) rfl w559 w561 w9 (by decide) (kr_c8 kr_c0) d_K_recover_2 kr_nk (kr_kx (r_out rfl))
/-! KeyringCourt.findRecovery(I)LKeyringCourt$Recovery; -/
def f_K_findRecovery (S : AS) (a0 : Option Nat) (a1 : Int32) : Option ((Option Nat ⊕ String) × AS) :=
  (gR S 22 16 a0).bind fun v1 =>
  (kr_rv S 10 v1).bind fun u2 =>
  kr_b2 (f_AL_size S v1) fun v4 S3 =>
  kr_bx (f_K_requireIndex S3 a1 v4) fun z6 S5 =>
  (gR S5 22 16 a0).bind fun v7 =>
  (kr_rv S5 10 v7).bind fun u8 =>
  kr_b2 (f_AL_get S5 v7 a1) fun v10 S9 =>
  (kr_cc S9 17 v10).bind fun u11 =>
  some (.inl v10, S9)
set_option maxRecDepth 20000 in
set_option maxHeartbeats 4000000 in
theorem s_K_findRecovery {S : AS} {a0 : Option Nat} {a1 : Int32} {r : ((Option Nat ⊕ String) × AS)} (h : f_K_findRecovery S a0 a1 = some r) : kr_Con m_K_findRecovery 8 [va_rf a0, .int a1] S (kr_xR r) := by
  refine kr_con rfl rfl (by decide +kernel) (by simp [lg_sl, kr_rfcat, kr_icat, m_K_findRecovery, mL]) ?_
  rw [show lv_args 0 [va_rf a0, .int a1] = [(0, va_rf a0), (1, .int a1)] from by simp [lv_args, kr_rfcat, kr_icat]]
  unfold f_K_findRecovery at h
  refine r_iload_n (i := 1) (x := a1) 1 rfl d_K_findRecovery_0 ?_
  refine r_aload_n (i := 0) (x := a0) 0 rfl d_K_findRecovery_1 ?_
  have h2 := kr_ob h
  clear h
  obtain ⟨v1, ev1, h⟩ := h2
  refine r_getR ev1 fk37 rfl d_K_findRecovery_2 ?_
  have h2 := kr_ob h
  clear h
  obtain ⟨⟨⟩, eu2, h⟩ := h2
  have h2 := kr_ob2 h
  clear h
  obtain ⟨v4, S3, eS3, h⟩ := h2
  refine r_callV (M1 := m_AL_size) (κ := 10) (As := []) eu2 (s_AL_size eS3) mok_AL_size rfl (by decide) rfl w348 w349 w350 (by decide) (kr_c8 (kr_cI kr_c0)) d_K_findRecovery_5 (kr_k1 ?_) kr_kn
  rcases kr_obx h with ⟨z6, S5, eS5, h2⟩ | ⟨E, S5, eS5, h2⟩
  · clear h
    have h := h2
    clear h2
    refine r_callS (M1 := m_K_requireIndex) (As := [.int a1, .int v4]) (s_K_requireIndex eS5) mok_K_requireIndex rfl w713 w714 (by decide) (kr_c8 kr_c0) d_K_findRecovery_8 (kr_k0 ?_) kr_kn
    refine r_aload_n (i := 0) (x := a0) 0 rfl d_K_findRecovery_11 ?_
    have h2 := kr_ob h
    clear h
    obtain ⟨v7, ev7, h⟩ := h2
    refine r_getR ev7 fk37 rfl d_K_findRecovery_12 ?_
    refine r_iload_n (i := 1) (x := a1) 1 rfl d_K_findRecovery_15 ?_
    have h2 := kr_ob h
    clear h
    obtain ⟨⟨⟩, eu8, h⟩ := h2
    have h2 := kr_ob2 h
    clear h
    obtain ⟨v10, S9, eS9, h⟩ := h2
    refine r_callV (M1 := m_AL_get) (κ := 10) (As := [.int a1]) eu8 (s_AL_get eS9) mok_AL_get rfl (by decide) rfl w489 w490 w491 (by decide) (kr_c8 kr_c0) d_K_findRecovery_16 (kr_k1 ?_) kr_kn
    have h2 := kr_ob h
    clear h
    obtain ⟨⟨⟩, eu11, h⟩ := h2
    refine r_cast eu11 (by decide) w1308 d_K_findRecovery_19 ?_
    cases h
    exact r_aret rfl rfl d_K_findRecovery_22
  · cases h2
    exact r_callS (M1 := m_K_requireIndex) (As := [.int a1, .int v4]) (s_K_requireIndex eS5) mok_K_requireIndex rfl w713 w714 (by decide) (kr_c8 kr_c0) d_K_findRecovery_8 kr_nk (kr_kx (r_out rfl))
/-! KeyringCourt.vouch(II)I -/
def f_K_vouch_B92 (S : AS) (x0 : Option Nat) (x3 : Option Nat) (x4 : Option Nat) (y0 : Int32) : Option ((Int32 ⊕ String) × AS) :=
  kr_bx (f_K_requireState S y0) fun z2 S1 =>
  (gI S1 17 3 x3).bind fun v3 =>
  (gR S1 19 1 x4).bind fun v4 =>
  (gI S1 16 0 v4).bind fun v5 =>
  (pI S1 17 3 x3 (v3 ||| ((1 : Int32) <<< (v5 &&& 31)))).bind fun S6 =>
  (gI S6 17 4 x3).bind fun v7 =>
  (gI S6 22 0 x0).bind fun v8 =>
  (kr_rv S6 19 x4).bind fun u9 =>
  kr_b2 (f_Session_levelAt S6 x4 v8) fun v11 S10 =>
  (pI S10 17 4 x3 (v7 + v11)).bind fun S12 =>
  (gI S12 17 4 x3).bind fun v13 =>
  some (.inl v13, S12)
def f_K_vouch_B91 (S : AS) (x0 : Option Nat) (x3 : Option Nat) (x4 : Option Nat) : Option ((Int32 ⊕ String) × AS) :=
  f_K_vouch_B92 S x0 x3 x4 (0 : Int32)
def f_K_vouch_B53 (S : AS) (x0 : Option Nat) (x3 : Option Nat) (x4 : Option Nat) (y0 : Int32) : Option ((Int32 ⊕ String) × AS) :=
  kr_bx (f_K_requireState S y0) fun z15 S14 =>
  (gI S14 22 0 x0).bind fun v16 =>
  (kr_rv S14 19 x4).bind fun u17 =>
  kr_b2 (f_Session_levelAt S14 x4 v16) fun v19 S18 =>
  if v19 < (3 : Int32) then
  f_K_vouch_B91 S18 x0 x3 x4
  else
  (gR S18 19 1 x4).bind fun v20 =>
  (gI S18 16 0 v20).bind fun v21 =>
  (gI S18 17 3 x3).bind fun v22 =>
  kr_b2 (f_K_isIn S18 v21 v22) fun v24 S23 =>
  if v24 = 0 then
  f_K_vouch_B92 S23 x0 x3 x4 (1 : Int32)
  else
  f_K_vouch_B91 S23 x0 x3 x4
def f_K_vouch_B52 (S : AS) (x0 : Option Nat) (x3 : Option Nat) (x4 : Option Nat) : Option ((Int32 ⊕ String) × AS) :=
  f_K_vouch_B53 S x0 x3 x4 (0 : Int32)
def f_K_vouch (S : AS) (a0 : Option Nat) (a1 : Int32) (a2 : Int32) : Option ((Int32 ⊕ String) × AS) :=
  (kr_rv S 22 a0).bind fun u25 =>
  kr_bx (f_K_findRecovery S a0 a1) fun v27 S26 =>
  (kr_rv S26 22 a0).bind fun u28 =>
  kr_bx (f_K_findSession S26 a0 a2) fun v30 S29 =>
  (gI S29 17 2 v27).bind fun v31 =>
  if v31 = 0 then
  f_K_vouch_B52 S29 a0 v27 v30
  else
  (gI S29 19 6 v30).bind fun v32 =>
  if v32 = 0 then
  f_K_vouch_B52 S29 a0 v27 v30
  else
  (gR S29 19 2 v30).bind fun v33 =>
  if v33 = none then
  (gR S29 19 1 v30).bind fun v34 =>
  (gR S29 17 0 v27).bind fun v35 =>
  (kr_ac S29 v34).bind fun u36 =>
  (kr_ac S29 v35).bind fun u37 =>
  if v34 = v35 then
  f_K_vouch_B52 S29 a0 v27 v30
  else
  f_K_vouch_B53 S29 a0 v27 v30 (1 : Int32)
  else
  f_K_vouch_B52 S29 a0 v27 v30
set_option maxRecDepth 20000 in
set_option maxHeartbeats 4000000 in
theorem s_K_vouch_B92 {S : AS} {x0 : Option Nat} {x3 : Option Nat} {x4 : Option Nat} {y0 : Int32} {r : ((Int32 ⊕ String) × AS)} (h : f_K_vouch_B92 S x0 x3 x4 y0 = some r) : kr_AW m_K_vouch 9 92 [(0, va_rf x0), (3, va_rf x3), (4, va_rf x4)] [.int y0] S (kr_xI r) := by
  unfold f_K_vouch_B92 at h
  rcases kr_obx h with ⟨z2, S1, eS1, h2⟩ | ⟨E, S1, eS1, h2⟩
  · clear h
    have h := h2
    clear h2
    refine r_callS (M1 := m_K_requireState) (As := [.int y0]) (s_K_requireState eS1) mok_K_requireState rfl w442 w443 (by decide) (kr_c8 kr_c0) d_K_vouch_92 (kr_k0 ?_) kr_kn
    refine r_aload_n (i := 3) (x := x3) 1 rfl d_K_vouch_95 ?_
    refine r_dup (kr_rfcat _) d_K_vouch_96 ?_
    have h2 := kr_ob h
    clear h
    obtain ⟨v3, ev3, h⟩ := h2
    refine r_getI ev3 fk221 rfl d_K_vouch_97 ?_
    refine r_iconst (v := (1 : Int32)) (by decide) d_K_vouch_100 ?_
    refine r_aload (i := 4) (x := x4) 2 rfl d_K_vouch_101 ?_
    have h2 := kr_ob h
    clear h
    obtain ⟨v4, ev4, h⟩ := h2
    refine r_getR ev4 fk174 rfl d_K_vouch_103 ?_
    have h2 := kr_ob h
    clear h
    obtain ⟨v5, ev5, h⟩ := h2
    refine r_getI ev5 fk169 rfl d_K_vouch_106 ?_
    refine r_ishl d_K_vouch_109 ?_
    refine r_ior d_K_vouch_110 ?_
    have h2 := kr_ob h
    clear h
    obtain ⟨S6, eS6, h⟩ := h2
    refine r_putI eS6 fk221 (Or.inl rfl) rfl d_K_vouch_111 ?_
    refine r_aload_n (i := 3) (x := x3) 1 rfl d_K_vouch_114 ?_
    refine r_dup (kr_rfcat _) d_K_vouch_115 ?_
    have h2 := kr_ob h
    clear h
    obtain ⟨v7, ev7, h⟩ := h2
    refine r_getI ev7 fk222 rfl d_K_vouch_116 ?_
    refine r_aload (i := 4) (x := x4) 2 rfl d_K_vouch_119 ?_
    refine r_aload_n (i := 0) (x := x0) 0 rfl d_K_vouch_121 ?_
    have h2 := kr_ob h
    clear h
    obtain ⟨v8, ev8, h⟩ := h2
    refine r_getI ev8 fk113 rfl d_K_vouch_122 ?_
    have h2 := kr_ob h
    clear h
    obtain ⟨⟨⟩, eu9, h⟩ := h2
    have h2 := kr_ob2 h
    clear h
    obtain ⟨v11, S10, eS10, h⟩ := h2
    refine r_callV (M1 := m_Session_levelAt) (κ := 19) (As := [.int v8]) eu9 (s_Session_levelAt eS10) mok_Session_levelAt rfl (by decide) rfl w1017 w1018 w1019 (by decide) (kr_c8 (kr_cI (kr_cR kr_c0))) d_K_vouch_125 (kr_k1 ?_) kr_kn
    refine r_iadd d_K_vouch_128 ?_
    have h2 := kr_ob h
    clear h
    obtain ⟨S12, eS12, h⟩ := h2
    refine r_putI eS12 fk222 (Or.inl rfl) rfl d_K_vouch_129 ?_
    refine r_aload_n (i := 3) (x := x3) 1 rfl d_K_vouch_132 ?_
    have h2 := kr_ob h
    clear h
    obtain ⟨v13, ev13, h⟩ := h2
    refine r_getI ev13 fk222 rfl d_K_vouch_133 ?_
    cases h
    exact r_iret rfl d_K_vouch_136
  · cases h2
    exact r_callS (M1 := m_K_requireState) (As := [.int y0]) (s_K_requireState eS1) mok_K_requireState rfl w442 w443 (by decide) (kr_c8 kr_c0) d_K_vouch_92 kr_nk (kr_kx (r_out rfl))
set_option maxRecDepth 20000 in
set_option maxHeartbeats 4000000 in
theorem s_K_vouch_B91 {S : AS} {x0 : Option Nat} {x3 : Option Nat} {x4 : Option Nat} {r : ((Int32 ⊕ String) × AS)} (h : f_K_vouch_B91 S x0 x3 x4 = some r) : kr_AW m_K_vouch 9 91 [(0, va_rf x0), (3, va_rf x3), (4, va_rf x4)] [] S (kr_xI r) := by
  unfold f_K_vouch_B91 at h
  refine r_iconst (v := (0 : Int32)) (by decide) d_K_vouch_91 ?_
  exact kr_sub [0, 1, 2] rfl (s_K_vouch_B92 h)
set_option maxRecDepth 20000 in
set_option maxHeartbeats 4000000 in
theorem s_K_vouch_B53 {S : AS} {x0 : Option Nat} {x3 : Option Nat} {x4 : Option Nat} {y0 : Int32} {r : ((Int32 ⊕ String) × AS)} (h : f_K_vouch_B53 S x0 x3 x4 y0 = some r) : kr_AW m_K_vouch 9 53 [(0, va_rf x0), (3, va_rf x3), (4, va_rf x4)] [.int y0] S (kr_xI r) := by
  unfold f_K_vouch_B53 at h
  rcases kr_obx h with ⟨z15, S14, eS14, h2⟩ | ⟨E, S14, eS14, h2⟩
  · clear h
    have h := h2
    clear h2
    refine r_callS (M1 := m_K_requireState) (As := [.int y0]) (s_K_requireState eS14) mok_K_requireState rfl w442 w443 (by decide) (kr_c8 kr_c0) d_K_vouch_53 (kr_k0 ?_) kr_kn
    refine r_aload (i := 4) (x := x4) 2 rfl d_K_vouch_56 ?_
    refine r_aload_n (i := 0) (x := x0) 0 rfl d_K_vouch_58 ?_
    have h2 := kr_ob h
    clear h
    obtain ⟨v16, ev16, h⟩ := h2
    refine r_getI ev16 fk113 rfl d_K_vouch_59 ?_
    have h2 := kr_ob h
    clear h
    obtain ⟨⟨⟩, eu17, h⟩ := h2
    have h2 := kr_ob2 h
    clear h
    obtain ⟨v19, S18, eS18, h⟩ := h2
    refine r_callV (M1 := m_Session_levelAt) (κ := 19) (As := [.int v16]) eu17 (s_Session_levelAt eS18) mok_Session_levelAt rfl (by decide) rfl w1017 w1018 w1019 (by decide) (kr_c8 kr_c0) d_K_vouch_62 (kr_k1 ?_) kr_kn
    refine r_iconst (v := (3 : Int32)) (by decide) d_K_vouch_65 ?_
    refine r_icmp_lt (tgt := 91) d_K_vouch_66 rfl (fun c => ?_) (fun c => ?_)
    · replace h := kr_ip c h
      exact kr_sub [0, 1, 2] rfl (s_K_vouch_B91 h)
    · replace h := kr_in_ c h
      refine r_aload (i := 4) (x := x4) 2 rfl d_K_vouch_69 ?_
      have h2 := kr_ob h
      clear h
      obtain ⟨v20, ev20, h⟩ := h2
      refine r_getR ev20 fk174 rfl d_K_vouch_71 ?_
      have h2 := kr_ob h
      clear h
      obtain ⟨v21, ev21, h⟩ := h2
      refine r_getI ev21 fk169 rfl d_K_vouch_74 ?_
      refine r_aload_n (i := 3) (x := x3) 1 rfl d_K_vouch_77 ?_
      have h2 := kr_ob h
      clear h
      obtain ⟨v22, ev22, h⟩ := h2
      refine r_getI ev22 fk221 rfl d_K_vouch_78 ?_
      have h2 := kr_ob2 h
      clear h
      obtain ⟨v24, S23, eS23, h⟩ := h2
      refine r_callS (M1 := m_K_isIn) (As := [.int v21, .int v22]) (s_K_isIn eS23) mok_K_isIn rfl w842 w549 (by decide) (kr_c8 kr_c0) d_K_vouch_81 (kr_k1 ?_) kr_kn
      refine r_if_ne (tgt := 91) d_K_vouch_84 rfl (fun c => ?_) (fun c => ?_)
      · replace h := kr_ip c h
        refine r_iconst (v := (1 : Int32)) (by decide) d_K_vouch_87 ?_
        refine r_goto (tgt := 92) d_K_vouch_88 rfl ?_
        exact kr_sub [0, 1, 2] rfl (s_K_vouch_B92 h)
      · replace h := kr_in_ c h
        exact kr_sub [0, 1, 2] rfl (s_K_vouch_B91 h)
  · cases h2
    exact r_callS (M1 := m_K_requireState) (As := [.int y0]) (s_K_requireState eS14) mok_K_requireState rfl w442 w443 (by decide) (kr_c8 kr_c0) d_K_vouch_53 kr_nk (kr_kx (r_out rfl))
set_option maxRecDepth 20000 in
set_option maxHeartbeats 4000000 in
theorem s_K_vouch_B52 {S : AS} {x0 : Option Nat} {x3 : Option Nat} {x4 : Option Nat} {r : ((Int32 ⊕ String) × AS)} (h : f_K_vouch_B52 S x0 x3 x4 = some r) : kr_AW m_K_vouch 9 52 [(0, va_rf x0), (3, va_rf x3), (4, va_rf x4)] [] S (kr_xI r) := by
  unfold f_K_vouch_B52 at h
  refine r_iconst (v := (0 : Int32)) (by decide) d_K_vouch_52 ?_
  exact kr_sub [0, 1, 2] rfl (s_K_vouch_B53 h)
set_option maxRecDepth 20000 in
set_option maxHeartbeats 4000000 in
theorem s_K_vouch {S : AS} {a0 : Option Nat} {a1 : Int32} {a2 : Int32} {r : ((Int32 ⊕ String) × AS)} (h : f_K_vouch S a0 a1 a2 = some r) : kr_Con m_K_vouch 9 [va_rf a0, .int a1, .int a2] S (kr_xI r) := by
  refine kr_con rfl rfl (by decide +kernel) (by simp [lg_sl, kr_rfcat, kr_icat, m_K_vouch, mL]) ?_
  rw [show lv_args 0 [va_rf a0, .int a1, .int a2] = [(0, va_rf a0), (1, .int a1), (2, .int a2)] from by simp [lv_args, kr_rfcat, kr_icat]]
  unfold f_K_vouch at h
  refine r_aload_n (i := 0) (x := a0) 0 rfl d_K_vouch_0 ?_
  refine r_iload_n (i := 1) (x := a1) 1 rfl d_K_vouch_1 ?_
  have h2 := kr_ob h
  clear h
  obtain ⟨⟨⟩, eu25, h⟩ := h2
  rcases kr_obx h with ⟨v27, S26, eS26, h2⟩ | ⟨E, S26, eS26, h2⟩
  · clear h
    have h := h2
    clear h2
    refine r_callV (M1 := m_K_findRecovery) (κ := 22) (As := [.int a1]) eu25 (s_K_findRecovery eS26) mok_K_findRecovery rfl (by decide) rfl w1341 w1343 w38 (by decide) (kr_c8 kr_c0) d_K_vouch_2 (kr_k1 ?_) kr_kn
    refine r_astore_n (i := 3) (lv' := [(3, va_rf v27), (0, va_rf a0), (1, .int a1), (2, .int a2)]) (by decide) rfl d_K_vouch_5 ?_
    refine r_aload_n (i := 0) (x := a0) 1 rfl d_K_vouch_6 ?_
    refine r_iload_n (i := 2) (x := a2) 3 rfl d_K_vouch_7 ?_
    have h2 := kr_ob h
    clear h
    obtain ⟨⟨⟩, eu28, h⟩ := h2
    rcases kr_obx h with ⟨v30, S29, eS29, h2⟩ | ⟨E, S29, eS29, h2⟩
    · clear h
      have h := h2
      clear h2
      refine r_callV (M1 := m_K_findSession) (κ := 22) (As := [.int a2]) eu28 (s_K_findSession eS29) mok_K_findSession rfl (by decide) rfl w991 w993 w26 (by decide) (kr_c8 kr_c0) d_K_vouch_8 (kr_k1 ?_) kr_kn
      refine r_astore (i := 4) (lv' := [(4, va_rf v30), (3, va_rf v27), (0, va_rf a0), (1, .int a1), (2, .int a2)]) (by decide) (by show kr_st _ 4 _ = _; simp [kr_st, kr_rfcat, kr_icat]) d_K_vouch_11 ?_
      refine r_aload_n (i := 3) (x := v27) 1 rfl d_K_vouch_13 ?_
      have h2 := kr_ob h
      clear h
      obtain ⟨v31, ev31, h⟩ := h2
      refine r_getI ev31 fk215 rfl d_K_vouch_14 ?_
      refine r_if_eq (tgt := 52) d_K_vouch_17 rfl (fun c => ?_) (fun c => ?_)
      · replace h := kr_ip c h
        exact kr_sub [2, 1, 0] rfl (s_K_vouch_B52 h)
      · replace h := kr_in_ c h
        refine r_aload (i := 4) (x := v30) 0 rfl d_K_vouch_20 ?_
        have h2 := kr_ob h
        clear h
        obtain ⟨v32, ev32, h⟩ := h2
        refine r_getI ev32 fk118 rfl d_K_vouch_22 ?_
        refine r_if_eq (tgt := 52) d_K_vouch_25 rfl (fun c => ?_) (fun c => ?_)
        · replace h := kr_ip c h
          exact kr_sub [2, 1, 0] rfl (s_K_vouch_B52 h)
        · replace h := kr_in_ c h
          refine r_aload (i := 4) (x := v30) 0 rfl d_K_vouch_28 ?_
          have h2 := kr_ob h
          clear h
          obtain ⟨v33, ev33, h⟩ := h2
          refine r_getR ev33 fk127 rfl d_K_vouch_30 ?_
          refine r_ifnonnull (tgt := 52) d_K_vouch_33 rfl (fun c => ?_) (fun c => ?_)
          · replace h := kr_ip c h
            refine r_aload (i := 4) (x := v30) 0 rfl d_K_vouch_36 ?_
            have h2 := kr_ob h
            clear h
            obtain ⟨v34, ev34, h⟩ := h2
            refine r_getR ev34 fk174 rfl d_K_vouch_38 ?_
            refine r_aload_n (i := 3) (x := v27) 1 rfl d_K_vouch_41 ?_
            have h2 := kr_ob h
            clear h
            obtain ⟨v35, ev35, h⟩ := h2
            refine r_getR ev35 fk216 rfl d_K_vouch_42 ?_
            have h2 := kr_ob h
            clear h
            obtain ⟨⟨⟩, eu36, h⟩ := h2
            have h2 := kr_ob h
            clear h
            obtain ⟨⟨⟩, eu37, h⟩ := h2
            refine r_acmp_eq (tgt := 52) eu36 eu37 d_K_vouch_45 rfl (fun c => ?_) (fun c => ?_)
            · replace h := kr_ip c h
              exact kr_sub [2, 1, 0] rfl (s_K_vouch_B52 h)
            · replace h := kr_in_ c h
              refine r_iconst (v := (1 : Int32)) (by decide) d_K_vouch_48 ?_
              refine r_goto (tgt := 53) d_K_vouch_49 rfl ?_
              exact kr_sub [2, 1, 0] rfl (s_K_vouch_B53 h)
          · replace h := kr_in_ c h
            exact kr_sub [2, 1, 0] rfl (s_K_vouch_B52 h)
    · cases h2
      exact r_callV (M1 := m_K_findSession) (κ := 22) (As := [.int a2]) eu28 (s_K_findSession eS29) mok_K_findSession rfl (by decide) rfl w991 w993 w26 (by decide) (kr_c8 kr_c0) d_K_vouch_8 kr_nk (kr_kx (r_out rfl))
  · cases h2
    exact r_callV (M1 := m_K_findRecovery) (κ := 22) (As := [.int a1]) eu25 (s_K_findRecovery eS26) mok_K_findRecovery rfl (by decide) rfl w1341 w1343 w38 (by decide) (kr_c8 kr_c0) d_K_vouch_2 kr_nk (kr_kx (r_out rfl))
/-! KeyringCourt.stop(II)I -/
def f_K_stop_B53 (S : AS) (x3 : Option Nat) (y0 : Int32) : Option ((Int32 ⊕ String) × AS) :=
  kr_bx (f_K_requireState S y0) fun z2 S1 =>
  (pZ S1 17 2 x3 (0 : Int32)).bind fun S3 =>
  (kr_rv S3 17 x3).bind fun u4 =>
  kr_b2 (f_Recovery_countVouchers S3 x3) fun v6 S5 =>
  some (.inl v6, S5)
def f_K_stop_B52 (S : AS) (x3 : Option Nat) : Option ((Int32 ⊕ String) × AS) :=
  f_K_stop_B53 S x3 (0 : Int32)
def f_K_stop (S : AS) (a0 : Option Nat) (a1 : Int32) (a2 : Int32) : Option ((Int32 ⊕ String) × AS) :=
  (kr_rv S 22 a0).bind fun u7 =>
  kr_bx (f_K_findRecovery S a0 a1) fun v9 S8 =>
  (kr_rv S8 22 a0).bind fun u10 =>
  kr_bx (f_K_findSession S8 a0 a2) fun v12 S11 =>
  (gI S11 17 2 v9).bind fun v13 =>
  if v13 = 0 then
  f_K_stop_B52 S11 v9
  else
  (gI S11 19 6 v12).bind fun v14 =>
  if v14 = 0 then
  f_K_stop_B52 S11 v9
  else
  (gR S11 19 2 v12).bind fun v15 =>
  if v15 = none then
  (gR S11 19 1 v12).bind fun v16 =>
  (gR S11 17 0 v9).bind fun v17 =>
  (kr_ac S11 v16).bind fun u18 =>
  (kr_ac S11 v17).bind fun u19 =>
  if v16 = v17 then
  f_K_stop_B53 S11 v9 (1 : Int32)
  else
  f_K_stop_B52 S11 v9
  else
  f_K_stop_B52 S11 v9
set_option maxRecDepth 20000 in
set_option maxHeartbeats 4000000 in
theorem s_K_stop_B53 {S : AS} {x3 : Option Nat} {y0 : Int32} {r : ((Int32 ⊕ String) × AS)} (h : f_K_stop_B53 S x3 y0 = some r) : kr_AW m_K_stop 9 53 [(3, va_rf x3)] [.int y0] S (kr_xI r) := by
  unfold f_K_stop_B53 at h
  rcases kr_obx h with ⟨z2, S1, eS1, h2⟩ | ⟨E, S1, eS1, h2⟩
  · clear h
    have h := h2
    clear h2
    refine r_callS (M1 := m_K_requireState) (As := [.int y0]) (s_K_requireState eS1) mok_K_requireState rfl w442 w443 (by decide) (kr_c8 kr_c0) d_K_stop_53 (kr_k0 ?_) kr_kn
    refine r_aload_n (i := 3) (x := x3) 0 rfl d_K_stop_56 ?_
    refine r_iconst (v := (0 : Int32)) (by decide) d_K_stop_57 ?_
    have h2 := kr_ob h
    clear h
    obtain ⟨S3, eS3, h⟩ := h2
    refine r_putZ eS3 fk215 (Or.inl rfl) rfl d_K_stop_58 ?_
    refine r_aload_n (i := 3) (x := x3) 0 rfl d_K_stop_61 ?_
    have h2 := kr_ob h
    clear h
    obtain ⟨⟨⟩, eu4, h⟩ := h2
    have h2 := kr_ob2 h
    clear h
    obtain ⟨v6, S5, eS5, h⟩ := h2
    refine r_callV (M1 := m_Recovery_countVouchers) (κ := 17) (As := []) eu4 (s_Recovery_countVouchers eS5) mok_Recovery_countVouchers rfl (by decide) rfl w1352 w1353 w1354 (by decide) (kr_c8 kr_c0) d_K_stop_62 (kr_k1 ?_) kr_kn
    cases h
    exact r_iret rfl d_K_stop_65
  · cases h2
    exact r_callS (M1 := m_K_requireState) (As := [.int y0]) (s_K_requireState eS1) mok_K_requireState rfl w442 w443 (by decide) (kr_c8 kr_c0) d_K_stop_53 kr_nk (kr_kx (r_out rfl))
set_option maxRecDepth 20000 in
set_option maxHeartbeats 4000000 in
theorem s_K_stop_B52 {S : AS} {x3 : Option Nat} {r : ((Int32 ⊕ String) × AS)} (h : f_K_stop_B52 S x3 = some r) : kr_AW m_K_stop 9 52 [(3, va_rf x3)] [] S (kr_xI r) := by
  unfold f_K_stop_B52 at h
  refine r_iconst (v := (0 : Int32)) (by decide) d_K_stop_52 ?_
  exact kr_sub [0] rfl (s_K_stop_B53 h)
set_option maxRecDepth 20000 in
set_option maxHeartbeats 4000000 in
theorem s_K_stop {S : AS} {a0 : Option Nat} {a1 : Int32} {a2 : Int32} {r : ((Int32 ⊕ String) × AS)} (h : f_K_stop S a0 a1 a2 = some r) : kr_Con m_K_stop 9 [va_rf a0, .int a1, .int a2] S (kr_xI r) := by
  refine kr_con rfl rfl (by decide +kernel) (by simp [lg_sl, kr_rfcat, kr_icat, m_K_stop, mL]) ?_
  rw [show lv_args 0 [va_rf a0, .int a1, .int a2] = [(0, va_rf a0), (1, .int a1), (2, .int a2)] from by simp [lv_args, kr_rfcat, kr_icat]]
  unfold f_K_stop at h
  refine r_aload_n (i := 0) (x := a0) 0 rfl d_K_stop_0 ?_
  refine r_iload_n (i := 1) (x := a1) 1 rfl d_K_stop_1 ?_
  have h2 := kr_ob h
  clear h
  obtain ⟨⟨⟩, eu7, h⟩ := h2
  rcases kr_obx h with ⟨v9, S8, eS8, h2⟩ | ⟨E, S8, eS8, h2⟩
  · clear h
    have h := h2
    clear h2
    refine r_callV (M1 := m_K_findRecovery) (κ := 22) (As := [.int a1]) eu7 (s_K_findRecovery eS8) mok_K_findRecovery rfl (by decide) rfl w1341 w1343 w38 (by decide) (kr_c8 kr_c0) d_K_stop_2 (kr_k1 ?_) kr_kn
    refine r_astore_n (i := 3) (lv' := [(3, va_rf v9), (0, va_rf a0), (1, .int a1), (2, .int a2)]) (by decide) rfl d_K_stop_5 ?_
    refine r_aload_n (i := 0) (x := a0) 1 rfl d_K_stop_6 ?_
    refine r_iload_n (i := 2) (x := a2) 3 rfl d_K_stop_7 ?_
    have h2 := kr_ob h
    clear h
    obtain ⟨⟨⟩, eu10, h⟩ := h2
    rcases kr_obx h with ⟨v12, S11, eS11, h2⟩ | ⟨E, S11, eS11, h2⟩
    · clear h
      have h := h2
      clear h2
      refine r_callV (M1 := m_K_findSession) (κ := 22) (As := [.int a2]) eu10 (s_K_findSession eS11) mok_K_findSession rfl (by decide) rfl w991 w993 w26 (by decide) (kr_c8 kr_c0) d_K_stop_8 (kr_k1 ?_) kr_kn
      refine r_astore (i := 4) (lv' := [(4, va_rf v12), (3, va_rf v9), (0, va_rf a0), (1, .int a1), (2, .int a2)]) (by decide) (by show kr_st _ 4 _ = _; simp [kr_st, kr_rfcat, kr_icat]) d_K_stop_11 ?_
      refine r_aload_n (i := 3) (x := v9) 1 rfl d_K_stop_13 ?_
      have h2 := kr_ob h
      clear h
      obtain ⟨v13, ev13, h⟩ := h2
      refine r_getI ev13 fk215 rfl d_K_stop_14 ?_
      refine r_if_eq (tgt := 52) d_K_stop_17 rfl (fun c => ?_) (fun c => ?_)
      · replace h := kr_ip c h
        exact kr_sub [1] rfl (s_K_stop_B52 h)
      · replace h := kr_in_ c h
        refine r_aload (i := 4) (x := v12) 0 rfl d_K_stop_20 ?_
        have h2 := kr_ob h
        clear h
        obtain ⟨v14, ev14, h⟩ := h2
        refine r_getI ev14 fk118 rfl d_K_stop_22 ?_
        refine r_if_eq (tgt := 52) d_K_stop_25 rfl (fun c => ?_) (fun c => ?_)
        · replace h := kr_ip c h
          exact kr_sub [1] rfl (s_K_stop_B52 h)
        · replace h := kr_in_ c h
          refine r_aload (i := 4) (x := v12) 0 rfl d_K_stop_28 ?_
          have h2 := kr_ob h
          clear h
          obtain ⟨v15, ev15, h⟩ := h2
          refine r_getR ev15 fk127 rfl d_K_stop_30 ?_
          refine r_ifnonnull (tgt := 52) d_K_stop_33 rfl (fun c => ?_) (fun c => ?_)
          · replace h := kr_ip c h
            refine r_aload (i := 4) (x := v12) 0 rfl d_K_stop_36 ?_
            have h2 := kr_ob h
            clear h
            obtain ⟨v16, ev16, h⟩ := h2
            refine r_getR ev16 fk174 rfl d_K_stop_38 ?_
            refine r_aload_n (i := 3) (x := v9) 1 rfl d_K_stop_41 ?_
            have h2 := kr_ob h
            clear h
            obtain ⟨v17, ev17, h⟩ := h2
            refine r_getR ev17 fk216 rfl d_K_stop_42 ?_
            have h2 := kr_ob h
            clear h
            obtain ⟨⟨⟩, eu18, h⟩ := h2
            have h2 := kr_ob h
            clear h
            obtain ⟨⟨⟩, eu19, h⟩ := h2
            refine r_acmp_ne (tgt := 52) eu18 eu19 d_K_stop_45 rfl (fun c => ?_) (fun c => ?_)
            · replace h := kr_ip c h
              refine r_iconst (v := (1 : Int32)) (by decide) d_K_stop_48 ?_
              refine r_goto (tgt := 53) d_K_stop_49 rfl ?_
              exact kr_sub [1] rfl (s_K_stop_B53 h)
            · replace h := kr_in_ c h
              exact kr_sub [1] rfl (s_K_stop_B52 h)
          · replace h := kr_in_ c h
            exact kr_sub [1] rfl (s_K_stop_B52 h)
    · cases h2
      exact r_callV (M1 := m_K_findSession) (κ := 22) (As := [.int a2]) eu10 (s_K_findSession eS11) mok_K_findSession rfl (by decide) rfl w991 w993 w26 (by decide) (kr_c8 kr_c0) d_K_stop_8 kr_nk (kr_kx (r_out rfl))
  · cases h2
    exact r_callV (M1 := m_K_findRecovery) (κ := 22) (As := [.int a1]) eu7 (s_K_findRecovery eS8) mok_K_findRecovery rfl (by decide) rfl w1341 w1343 w38 (by decide) (kr_c8 kr_c0) d_K_stop_2 kr_nk (kr_kx (r_out rfl))
/-! KeyringCourt.endSessionsOf(LKeyringCourt$Person;)I -/
def f_K_endSessionsOf_B54 (k7 : AS → Option Nat → Option Nat → Int32 → Int32 → Option ((Int32 ⊕ String) × AS)) (S : AS) (x0 : Option Nat) (x1 : Option Nat) (x2 : Int32) (x3 : Int32) : Option ((Int32 ⊕ String) × AS) :=
  (some (x3 + (1 : Int32))).bind fun i1 =>
  k7 S x0 x1 x2 i1
def f_K_endSessionsOf_C7 (k7 : AS → Option Nat → Option Nat → Int32 → Int32 → Option ((Int32 ⊕ String) × AS)) (S : AS) (x0 : Option Nat) (x1 : Option Nat) (x2 : Int32) (x3 : Int32) : Option ((Int32 ⊕ String) × AS) :=
  (gR S 22 8 x0).bind fun v2 =>
  (kr_rv S 10 v2).bind fun u3 =>
  kr_b2 (f_AL_size S v2) fun v5 S4 =>
  if v5 ≤ x3 then
  (gI S4 22 9 x0).bind fun v6 =>
  some (.inl (x2 - v6), S4)
  else
  (gR S4 22 8 x0).bind fun v7 =>
  (kr_rv S4 10 v7).bind fun u8 =>
  kr_b2 (f_AL_get S4 v7 x3) fun v10 S9 =>
  (kr_cc S9 19 v10).bind fun u11 =>
  (gR S9 19 1 v10).bind fun v12 =>
  (kr_ac S9 v12).bind fun u13 =>
  (kr_ac S9 x1).bind fun u14 =>
  if v12 = x1 then
  (gI S9 19 6 v10).bind fun v15 =>
  if v15 = 0 then
  f_K_endSessionsOf_B54 k7 S9 x0 x1 x2 x3
  else
  (kr_rv S9 22 x0).bind fun u16 =>
  kr_bx (f_K_endSession S9 x0 v10) fun z18 S17 =>
  f_K_endSessionsOf_B54 k7 S17 x0 x1 x2 x3
  else
  f_K_endSessionsOf_B54 k7 S9 x0 x1 x2 x3
def f_K_endSessionsOf_L7 : Nat → AS → Option Nat → Option Nat → Int32 → Int32 → Option ((Int32 ⊕ String) × AS)
  | 0, S, x0, x1, x2, x3 => none
  | n + 1, S, x0, x1, x2, x3 => f_K_endSessionsOf_C7 (f_K_endSessionsOf_L7 n) S x0 x1 x2 x3
def f_K_endSessionsOf (S : AS) (a0 : Option Nat) (a1 : Option Nat) : Option ((Int32 ⊕ String) × AS) :=
  (gI S 22 9 a0).bind fun v19 =>
  f_K_endSessionsOf_L7 kr_FU S a0 a1 v19 (0 : Int32)
set_option maxRecDepth 20000 in
set_option maxHeartbeats 4000000 in
theorem s_K_endSessionsOf_B54 {k7 : AS → Option Nat → Option Nat → Int32 → Int32 → Option ((Int32 ⊕ String) × AS)} (hk7 : ∀ {S : AS} {x0 : Option Nat} {x1 : Option Nat} {x2 : Int32} {x3 : Int32} {r : ((Int32 ⊕ String) × AS)}, k7 S x0 x1 x2 x3 = some r → kr_AW m_K_endSessionsOf 11 7 [(0, va_rf x0), (1, va_rf x1), (2, .int x2), (3, .int x3)] [] S (kr_xI r)) {S : AS} {x0 : Option Nat} {x1 : Option Nat} {x2 : Int32} {x3 : Int32} {r : ((Int32 ⊕ String) × AS)} (h : f_K_endSessionsOf_B54 k7 S x0 x1 x2 x3 = some r) : kr_AW m_K_endSessionsOf 11 54 [(0, va_rf x0), (1, va_rf x1), (2, .int x2), (3, .int x3)] [] S (kr_xI r) := by
  unfold f_K_endSessionsOf_B54 at h
  have h2 := kr_ob h
  clear h
  obtain ⟨i1, ei1, h⟩ := h2
  refine r_iinc (v := i1) (lv' := [(3, .int i1), (0, va_rf x0), (1, va_rf x1), (2, .int x2)]) 3 rfl (kr_inc (by decide) ei1) (by decide) rfl d_K_endSessionsOf_54 ?_
  refine r_goto (tgt := 7) d_K_endSessionsOf_57 rfl ?_
  exact kr_sub [1, 2, 3, 0] rfl (hk7 h)
set_option maxRecDepth 20000 in
set_option maxHeartbeats 4000000 in
theorem s_K_endSessionsOf_C7 {k7 : AS → Option Nat → Option Nat → Int32 → Int32 → Option ((Int32 ⊕ String) × AS)} (hk7 : ∀ {S : AS} {x0 : Option Nat} {x1 : Option Nat} {x2 : Int32} {x3 : Int32} {r : ((Int32 ⊕ String) × AS)}, k7 S x0 x1 x2 x3 = some r → kr_AW m_K_endSessionsOf 11 7 [(0, va_rf x0), (1, va_rf x1), (2, .int x2), (3, .int x3)] [] S (kr_xI r)) {S : AS} {x0 : Option Nat} {x1 : Option Nat} {x2 : Int32} {x3 : Int32} {r : ((Int32 ⊕ String) × AS)} (h : f_K_endSessionsOf_C7 k7 S x0 x1 x2 x3 = some r) : kr_AW m_K_endSessionsOf 11 7 [(0, va_rf x0), (1, va_rf x1), (2, .int x2), (3, .int x3)] [] S (kr_xI r) := by
  unfold f_K_endSessionsOf_C7 at h
  refine r_iload_n (i := 3) (x := x3) 3 rfl d_K_endSessionsOf_7 ?_
  refine r_aload_n (i := 0) (x := x0) 0 rfl d_K_endSessionsOf_8 ?_
  have h2 := kr_ob h
  clear h
  obtain ⟨v2, ev2, h⟩ := h2
  refine r_getR ev2 fk31 rfl d_K_endSessionsOf_9 ?_
  have h2 := kr_ob h
  clear h
  obtain ⟨⟨⟩, eu3, h⟩ := h2
  have h2 := kr_ob2 h
  clear h
  obtain ⟨v5, S4, eS4, h⟩ := h2
  refine r_callV (M1 := m_AL_size) (κ := 10) (As := []) eu3 (s_AL_size eS4) mok_AL_size rfl (by decide) rfl w348 w349 w350 (by decide) (kr_c8 (kr_cI kr_c0)) d_K_endSessionsOf_12 (kr_k1 ?_) kr_kn
  refine r_icmp_ge (tgt := 60) d_K_endSessionsOf_15 rfl (fun c => ?_) (fun c => ?_)
  · replace h := kr_ip c h
    refine r_iload_n (i := 2) (x := x2) 2 rfl d_K_endSessionsOf_60 ?_
    refine r_aload_n (i := 0) (x := x0) 0 rfl d_K_endSessionsOf_61 ?_
    have h2 := kr_ob h
    clear h
    obtain ⟨v6, ev6, h⟩ := h2
    refine r_getI ev6 fk119 rfl d_K_endSessionsOf_62 ?_
    refine r_isub d_K_endSessionsOf_65 ?_
    cases h
    exact r_iret rfl d_K_endSessionsOf_66
  · replace h := kr_in_ c h
    refine r_aload_n (i := 0) (x := x0) 0 rfl d_K_endSessionsOf_18 ?_
    have h2 := kr_ob h
    clear h
    obtain ⟨v7, ev7, h⟩ := h2
    refine r_getR ev7 fk31 rfl d_K_endSessionsOf_19 ?_
    refine r_iload_n (i := 3) (x := x3) 3 rfl d_K_endSessionsOf_22 ?_
    have h2 := kr_ob h
    clear h
    obtain ⟨⟨⟩, eu8, h⟩ := h2
    have h2 := kr_ob2 h
    clear h
    obtain ⟨v10, S9, eS9, h⟩ := h2
    refine r_callV (M1 := m_AL_get) (κ := 10) (As := [.int x3]) eu8 (s_AL_get eS9) mok_AL_get rfl (by decide) rfl w489 w490 w491 (by decide) (kr_c8 kr_c0) d_K_endSessionsOf_23 (kr_k1 ?_) kr_kn
    have h2 := kr_ob h
    clear h
    obtain ⟨⟨⟩, eu11, h⟩ := h2
    refine r_cast eu11 (by decide) w503 d_K_endSessionsOf_26 ?_
    refine r_astore (i := 4) (lv' := [(4, va_rf v10), (0, va_rf x0), (1, va_rf x1), (2, .int x2), (3, .int x3)]) (by decide) rfl d_K_endSessionsOf_29 ?_
    refine r_aload (i := 4) (x := v10) 0 rfl d_K_endSessionsOf_31 ?_
    have h2 := kr_ob h
    clear h
    obtain ⟨v12, ev12, h⟩ := h2
    refine r_getR ev12 fk174 rfl d_K_endSessionsOf_33 ?_
    refine r_aload_n (i := 1) (x := x1) 2 rfl d_K_endSessionsOf_36 ?_
    have h2 := kr_ob h
    clear h
    obtain ⟨⟨⟩, eu13, h⟩ := h2
    have h2 := kr_ob h
    clear h
    obtain ⟨⟨⟩, eu14, h⟩ := h2
    refine r_acmp_ne (tgt := 54) eu13 eu14 d_K_endSessionsOf_37 rfl (fun c => ?_) (fun c => ?_)
    · replace h := kr_ip c h
      refine r_aload (i := 4) (x := v10) 0 rfl d_K_endSessionsOf_40 ?_
      have h2 := kr_ob h
      clear h
      obtain ⟨v15, ev15, h⟩ := h2
      refine r_getI ev15 fk118 rfl d_K_endSessionsOf_42 ?_
      refine r_if_eq (tgt := 54) d_K_endSessionsOf_45 rfl (fun c => ?_) (fun c => ?_)
      · replace h := kr_ip c h
        exact kr_sub [1, 2, 3, 4] rfl (s_K_endSessionsOf_B54 hk7 h)
      · replace h := kr_in_ c h
        refine r_aload_n (i := 0) (x := x0) 1 rfl d_K_endSessionsOf_48 ?_
        refine r_aload (i := 4) (x := v10) 0 rfl d_K_endSessionsOf_49 ?_
        have h2 := kr_ob h
        clear h
        obtain ⟨⟨⟩, eu16, h⟩ := h2
        rcases kr_obx h with ⟨z18, S17, eS17, h2⟩ | ⟨E, S17, eS17, h2⟩
        · clear h
          have h := h2
          clear h2
          refine r_callV (M1 := m_K_endSession) (κ := 22) (As := [va_rf v10]) eu16 (s_K_endSession eS17) mok_K_endSession rfl (by decide) rfl w508 w510 w4 (by decide) (kr_c8 kr_c0) d_K_endSessionsOf_51 (kr_k0 ?_) kr_kn
          exact kr_sub [1, 2, 3, 4] rfl (s_K_endSessionsOf_B54 hk7 h)
        · cases h2
          exact r_callV (M1 := m_K_endSession) (κ := 22) (As := [va_rf v10]) eu16 (s_K_endSession eS17) mok_K_endSession rfl (by decide) rfl w508 w510 w4 (by decide) (kr_c8 kr_c0) d_K_endSessionsOf_51 kr_nk (kr_kx (r_out rfl))
    · replace h := kr_in_ c h
      exact kr_sub [1, 2, 3, 4] rfl (s_K_endSessionsOf_B54 hk7 h)
theorem s_K_endSessionsOf_L7 (n : Nat) : ∀ {S : AS} {x0 : Option Nat} {x1 : Option Nat} {x2 : Int32} {x3 : Int32} {r : ((Int32 ⊕ String) × AS)}, f_K_endSessionsOf_L7 n S x0 x1 x2 x3 = some r → kr_AW m_K_endSessionsOf 11 7 [(0, va_rf x0), (1, va_rf x1), (2, .int x2), (3, .int x3)] [] S (kr_xI r) := by
  induction n with
  | zero => intro S x0 x1 x2 x3 r h; cases h
  | succ n ih => intro S x0 x1 x2 x3 r h; exact s_K_endSessionsOf_C7 (fun {_} {_} {_} {_} {_} {_} h => ih h) h
set_option maxRecDepth 20000 in
set_option maxHeartbeats 4000000 in
theorem s_K_endSessionsOf {S : AS} {a0 : Option Nat} {a1 : Option Nat} {r : ((Int32 ⊕ String) × AS)} (h : f_K_endSessionsOf S a0 a1 = some r) : kr_Con m_K_endSessionsOf 11 [va_rf a0, va_rf a1] S (kr_xI r) := by
  refine kr_con rfl rfl (by decide +kernel) (by simp [lg_sl, kr_rfcat, kr_icat, m_K_endSessionsOf, mL]) ?_
  rw [show lv_args 0 [va_rf a0, va_rf a1] = [(0, va_rf a0), (1, va_rf a1)] from by simp [lv_args, kr_rfcat, kr_icat]]
  unfold f_K_endSessionsOf at h
  refine r_aload_n (i := 0) (x := a0) 0 rfl d_K_endSessionsOf_0 ?_
  have h2 := kr_ob h
  clear h
  obtain ⟨v19, ev19, h⟩ := h2
  refine r_getI ev19 fk119 rfl d_K_endSessionsOf_1 ?_
  refine r_istore_n (i := 2) (lv' := [(2, .int v19), (0, va_rf a0), (1, va_rf a1)]) (by decide) (by show kr_st _ 2 _ = _; simp [kr_st, kr_rfcat, kr_icat]) d_K_endSessionsOf_4 ?_
  refine r_iconst (v := (0 : Int32)) (by decide) d_K_endSessionsOf_5 ?_
  refine r_istore_n (i := 3) (lv' := [(3, .int (0 : Int32)), (2, .int v19), (0, va_rf a0), (1, va_rf a1)]) (by decide) rfl d_K_endSessionsOf_6 ?_
  exact kr_sub [2, 3, 1, 0] rfl (s_K_endSessionsOf_L7 kr_FU h)
/-! KeyringCourt.finish(I)I -/
def f_K_finish_B70 (S : AS) (x0 : Option Nat) (x1 : Int32) (x2 : Option Nat) (y0 : Int32) : Option ((Int32 ⊕ String) × AS) :=
  kr_bx (f_K_requireState S y0) fun z2 S1 =>
  (pZ S1 17 2 x2 (0 : Int32)).bind fun S3 =>
  (gR S3 22 1 x0).bind fun v4 =>
  (gI S3 22 0 x0).bind fun v5 =>
  (kr_rv S3 12 v4).bind fun u6 =>
  (f_Audit_write S3 v4 (6 : Int32) x1 v5).bind fun S7 =>
  (gR S7 17 0 x2).bind fun v8 =>
  (kr_rv S7 22 x0).bind fun u9 =>
  kr_bx (f_K_endSessionsOf S7 x0 v8) fun v11 S10 =>
  (gR S10 17 0 x2).bind fun v12 =>
  (kr_rv S10 16 v12).bind fun u13 =>
  (f_Person_loseFactors S10 v12).bind fun S14 =>
  (gR S14 17 0 x2).bind fun v15 =>
  (kr_rv S14 16 v15).bind fun u16 =>
  (f_Person_makeReady S14 v15 (0 : Int32)).bind fun S17 =>
  some (.inl v11, S17)
def f_K_finish_B48 (S : AS) (x0 : Option Nat) (x1 : Int32) (x2 : Option Nat) (y0 : Int32) : Option ((Int32 ⊕ String) × AS) :=
  kr_bx (f_K_requireState S y0) fun z19 S18 =>
  (gI S18 17 4 x2).bind fun v20 =>
  (gR S18 17 0 x2).bind fun v21 =>
  (kr_rv S18 16 v21).bind fun u22 =>
  kr_b2 (f_Person_levelOfEnrolled S18 v21) fun v24 S23 =>
  if v20 < v24 then
  f_K_finish_B70 S23 x0 x1 x2 (0 : Int32)
  else
  f_K_finish_B70 S23 x0 x1 x2 (1 : Int32)
def f_K_finish_B32 (S : AS) (x0 : Option Nat) (x1 : Int32) (x2 : Option Nat) (y0 : Int32) : Option ((Int32 ⊕ String) × AS) :=
  kr_bx (f_K_requireState S y0) fun z26 S25 =>
  (kr_rv S25 17 x2).bind fun u27 =>
  kr_b2 (f_Recovery_countVouchers S25 x2) fun v29 S28 =>
  if v29 < (2 : Int32) then
  f_K_finish_B48 S28 x0 x1 x2 (0 : Int32)
  else
  f_K_finish_B48 S28 x0 x1 x2 (1 : Int32)
def f_K_finish_B31 (S : AS) (x0 : Option Nat) (x1 : Int32) (x2 : Option Nat) : Option ((Int32 ⊕ String) × AS) :=
  f_K_finish_B32 S x0 x1 x2 (0 : Int32)
def f_K_finish (S : AS) (a0 : Option Nat) (a1 : Int32) : Option ((Int32 ⊕ String) × AS) :=
  (kr_rv S 22 a0).bind fun u30 =>
  kr_bx (f_K_findRecovery S a0 a1) fun v32 S31 =>
  (gI S31 17 2 v32).bind fun v33 =>
  if v33 = 0 then
  f_K_finish_B31 S31 a0 a1 v32
  else
  (gI S31 22 0 a0).bind fun v34 =>
  (gI S31 17 1 v32).bind fun v35 =>
  if (v34 - v35) < (60 : Int32) then
  f_K_finish_B31 S31 a0 a1 v32
  else
  f_K_finish_B32 S31 a0 a1 v32 (1 : Int32)
set_option maxRecDepth 20000 in
set_option maxHeartbeats 4000000 in
theorem s_K_finish_B70 {S : AS} {x0 : Option Nat} {x1 : Int32} {x2 : Option Nat} {y0 : Int32} {r : ((Int32 ⊕ String) × AS)} (h : f_K_finish_B70 S x0 x1 x2 y0 = some r) : kr_AW m_K_finish 12 70 [(0, va_rf x0), (1, .int x1), (2, va_rf x2)] [.int y0] S (kr_xI r) := by
  unfold f_K_finish_B70 at h
  rcases kr_obx h with ⟨z2, S1, eS1, h2⟩ | ⟨E, S1, eS1, h2⟩
  · clear h
    have h := h2
    clear h2
    refine r_callS (M1 := m_K_requireState) (As := [.int y0]) (s_K_requireState eS1) mok_K_requireState rfl w442 w443 (by decide) (kr_c8 kr_c0) d_K_finish_70 (kr_k0 ?_) kr_kn
    refine r_aload_n (i := 2) (x := x2) 2 rfl d_K_finish_73 ?_
    refine r_iconst (v := (0 : Int32)) (by decide) d_K_finish_74 ?_
    have h2 := kr_ob h
    clear h
    obtain ⟨S3, eS3, h⟩ := h2
    refine r_putZ eS3 fk215 (Or.inl rfl) rfl d_K_finish_75 ?_
    refine r_aload_n (i := 0) (x := x0) 0 rfl d_K_finish_78 ?_
    have h2 := kr_ob h
    clear h
    obtain ⟨v4, ev4, h⟩ := h2
    refine r_getR ev4 fk25 rfl d_K_finish_79 ?_
    refine r_bipush (v := (6 : Int32)) (by decide) d_K_finish_82 ?_
    refine r_iload_n (i := 1) (x := x1) 1 rfl d_K_finish_84 ?_
    refine r_aload_n (i := 0) (x := x0) 0 rfl d_K_finish_85 ?_
    have h2 := kr_ob h
    clear h
    obtain ⟨v5, ev5, h⟩ := h2
    refine r_getI ev5 fk113 rfl d_K_finish_86 ?_
    have h2 := kr_ob h
    clear h
    obtain ⟨⟨⟩, eu6, h⟩ := h2
    have h2 := kr_ob h
    clear h
    obtain ⟨S7, eS7, h⟩ := h2
    refine r_callV (M1 := m_Audit_write) (κ := 12) (As := [.int (6 : Int32), .int x1, .int v5]) eu6 (s_Audit_write eS7) mok_Audit_write rfl (by decide) rfl w472 w473 w474 (by decide) (kr_c8 kr_c0) d_K_finish_89 (kr_k0 ?_) kr_kn
    refine r_aload_n (i := 0) (x := x0) 0 rfl d_K_finish_92 ?_
    refine r_aload_n (i := 2) (x := x2) 2 rfl d_K_finish_93 ?_
    have h2 := kr_ob h
    clear h
    obtain ⟨v8, ev8, h⟩ := h2
    refine r_getR ev8 fk216 rfl d_K_finish_94 ?_
    have h2 := kr_ob h
    clear h
    obtain ⟨⟨⟩, eu9, h⟩ := h2
    rcases kr_obx h with ⟨v11, S10, eS10, h2⟩ | ⟨E, S10, eS10, h2⟩
    · clear h
      have h := h2
      clear h2
      refine r_callV (M1 := m_K_endSessionsOf) (κ := 22) (As := [va_rf v8]) eu9 (s_K_endSessionsOf eS10) mok_K_endSessionsOf rfl (by decide) rfl w1374 w1376 w39 (by decide) (kr_c8 kr_c0) d_K_finish_97 (kr_k1 ?_) kr_kn
      refine r_istore_n (i := 3) (lv' := [(3, .int v11), (0, va_rf x0), (1, .int x1), (2, va_rf x2)]) (by decide) (by show kr_st _ 3 _ = _; simp [kr_st, kr_rfcat, kr_icat]) d_K_finish_100 ?_
      refine r_aload_n (i := 2) (x := x2) 3 rfl d_K_finish_101 ?_
      have h2 := kr_ob h
      clear h
      obtain ⟨v12, ev12, h⟩ := h2
      refine r_getR ev12 fk216 rfl d_K_finish_102 ?_
      have h2 := kr_ob h
      clear h
      obtain ⟨⟨⟩, eu13, h⟩ := h2
      have h2 := kr_ob h
      clear h
      obtain ⟨S14, eS14, h⟩ := h2
      refine r_callV (M1 := m_Person_loseFactors) (κ := 16) (As := []) eu13 (s_Person_loseFactors eS14) mok_Person_loseFactors rfl (by decide) rfl w1378 w1379 w1380 (by decide) (kr_c8 kr_c0) d_K_finish_105 (kr_k0 ?_) kr_kn
      refine r_aload_n (i := 2) (x := x2) 3 rfl d_K_finish_108 ?_
      have h2 := kr_ob h
      clear h
      obtain ⟨v15, ev15, h⟩ := h2
      refine r_getR ev15 fk216 rfl d_K_finish_109 ?_
      refine r_iconst (v := (0 : Int32)) (by decide) d_K_finish_112 ?_
      have h2 := kr_ob h
      clear h
      obtain ⟨⟨⟩, eu16, h⟩ := h2
      have h2 := kr_ob h
      clear h
      obtain ⟨S17, eS17, h⟩ := h2
      refine r_callV (M1 := m_Person_makeReady) (κ := 16) (As := [.int (0 : Int32)]) eu16 (s_Person_makeReady eS17) mok_Person_makeReady rfl (by decide) rfl w571 w572 w573 (by decide) (kr_c8 kr_c0) d_K_finish_113 (kr_k0 ?_) kr_kn
      refine r_iload_n (i := 3) (x := v11) 0 rfl d_K_finish_116 ?_
      cases h
      exact r_iret rfl d_K_finish_117
    · cases h2
      exact r_callV (M1 := m_K_endSessionsOf) (κ := 22) (As := [va_rf v8]) eu9 (s_K_endSessionsOf eS10) mok_K_endSessionsOf rfl (by decide) rfl w1374 w1376 w39 (by decide) (kr_c8 kr_c0) d_K_finish_97 kr_nk (kr_kx (r_out rfl))
  · cases h2
    exact r_callS (M1 := m_K_requireState) (As := [.int y0]) (s_K_requireState eS1) mok_K_requireState rfl w442 w443 (by decide) (kr_c8 kr_c0) d_K_finish_70 kr_nk (kr_kx (r_out rfl))
set_option maxRecDepth 20000 in
set_option maxHeartbeats 4000000 in
theorem s_K_finish_B48 {S : AS} {x0 : Option Nat} {x1 : Int32} {x2 : Option Nat} {y0 : Int32} {r : ((Int32 ⊕ String) × AS)} (h : f_K_finish_B48 S x0 x1 x2 y0 = some r) : kr_AW m_K_finish 12 48 [(0, va_rf x0), (1, .int x1), (2, va_rf x2)] [.int y0] S (kr_xI r) := by
  unfold f_K_finish_B48 at h
  rcases kr_obx h with ⟨z19, S18, eS18, h2⟩ | ⟨E, S18, eS18, h2⟩
  · clear h
    have h := h2
    clear h2
    refine r_callS (M1 := m_K_requireState) (As := [.int y0]) (s_K_requireState eS18) mok_K_requireState rfl w442 w443 (by decide) (kr_c8 kr_c0) d_K_finish_48 (kr_k0 ?_) kr_kn
    refine r_aload_n (i := 2) (x := x2) 2 rfl d_K_finish_51 ?_
    have h2 := kr_ob h
    clear h
    obtain ⟨v20, ev20, h⟩ := h2
    refine r_getI ev20 fk222 rfl d_K_finish_52 ?_
    refine r_aload_n (i := 2) (x := x2) 2 rfl d_K_finish_55 ?_
    have h2 := kr_ob h
    clear h
    obtain ⟨v21, ev21, h⟩ := h2
    refine r_getR ev21 fk216 rfl d_K_finish_56 ?_
    have h2 := kr_ob h
    clear h
    obtain ⟨⟨⟩, eu22, h⟩ := h2
    have h2 := kr_ob2 h
    clear h
    obtain ⟨v24, S23, eS23, h⟩ := h2
    refine r_callV (M1 := m_Person_levelOfEnrolled) (κ := 16) (As := []) eu22 (s_Person_levelOfEnrolled eS23) mok_Person_levelOfEnrolled rfl (by decide) rfl w1369 w1370 w1371 (by decide) (kr_c8 (kr_cI kr_c0)) d_K_finish_59 (kr_k1 ?_) kr_kn
    refine r_icmp_lt (tgt := 69) d_K_finish_62 rfl (fun c => ?_) (fun c => ?_)
    · replace h := kr_ip c h
      refine r_iconst (v := (0 : Int32)) (by decide) d_K_finish_69 ?_
      exact kr_sub [0, 1, 2] rfl (s_K_finish_B70 h)
    · replace h := kr_in_ c h
      refine r_iconst (v := (1 : Int32)) (by decide) d_K_finish_65 ?_
      refine r_goto (tgt := 70) d_K_finish_66 rfl ?_
      exact kr_sub [0, 1, 2] rfl (s_K_finish_B70 h)
  · cases h2
    exact r_callS (M1 := m_K_requireState) (As := [.int y0]) (s_K_requireState eS18) mok_K_requireState rfl w442 w443 (by decide) (kr_c8 kr_c0) d_K_finish_48 kr_nk (kr_kx (r_out rfl))
set_option maxRecDepth 20000 in
set_option maxHeartbeats 4000000 in
theorem s_K_finish_B32 {S : AS} {x0 : Option Nat} {x1 : Int32} {x2 : Option Nat} {y0 : Int32} {r : ((Int32 ⊕ String) × AS)} (h : f_K_finish_B32 S x0 x1 x2 y0 = some r) : kr_AW m_K_finish 12 32 [(0, va_rf x0), (1, .int x1), (2, va_rf x2)] [.int y0] S (kr_xI r) := by
  unfold f_K_finish_B32 at h
  rcases kr_obx h with ⟨z26, S25, eS25, h2⟩ | ⟨E, S25, eS25, h2⟩
  · clear h
    have h := h2
    clear h2
    refine r_callS (M1 := m_K_requireState) (As := [.int y0]) (s_K_requireState eS25) mok_K_requireState rfl w442 w443 (by decide) (kr_c8 kr_c0) d_K_finish_32 (kr_k0 ?_) kr_kn
    refine r_aload_n (i := 2) (x := x2) 2 rfl d_K_finish_35 ?_
    have h2 := kr_ob h
    clear h
    obtain ⟨⟨⟩, eu27, h⟩ := h2
    have h2 := kr_ob2 h
    clear h
    obtain ⟨v29, S28, eS28, h⟩ := h2
    refine r_callV (M1 := m_Recovery_countVouchers) (κ := 17) (As := []) eu27 (s_Recovery_countVouchers eS28) mok_Recovery_countVouchers rfl (by decide) rfl w1352 w1353 w1354 (by decide) (kr_c8 kr_c0) d_K_finish_36 (kr_k1 ?_) kr_kn
    refine r_iconst (v := (2 : Int32)) (by decide) d_K_finish_39 ?_
    refine r_icmp_lt (tgt := 47) d_K_finish_40 rfl (fun c => ?_) (fun c => ?_)
    · replace h := kr_ip c h
      refine r_iconst (v := (0 : Int32)) (by decide) d_K_finish_47 ?_
      exact kr_sub [0, 1, 2] rfl (s_K_finish_B48 h)
    · replace h := kr_in_ c h
      refine r_iconst (v := (1 : Int32)) (by decide) d_K_finish_43 ?_
      refine r_goto (tgt := 48) d_K_finish_44 rfl ?_
      exact kr_sub [0, 1, 2] rfl (s_K_finish_B48 h)
  · cases h2
    exact r_callS (M1 := m_K_requireState) (As := [.int y0]) (s_K_requireState eS25) mok_K_requireState rfl w442 w443 (by decide) (kr_c8 kr_c0) d_K_finish_32 kr_nk (kr_kx (r_out rfl))
set_option maxRecDepth 20000 in
set_option maxHeartbeats 4000000 in
theorem s_K_finish_B31 {S : AS} {x0 : Option Nat} {x1 : Int32} {x2 : Option Nat} {r : ((Int32 ⊕ String) × AS)} (h : f_K_finish_B31 S x0 x1 x2 = some r) : kr_AW m_K_finish 12 31 [(0, va_rf x0), (1, .int x1), (2, va_rf x2)] [] S (kr_xI r) := by
  unfold f_K_finish_B31 at h
  refine r_iconst (v := (0 : Int32)) (by decide) d_K_finish_31 ?_
  exact kr_sub [0, 1, 2] rfl (s_K_finish_B32 h)
set_option maxRecDepth 20000 in
set_option maxHeartbeats 4000000 in
theorem s_K_finish {S : AS} {a0 : Option Nat} {a1 : Int32} {r : ((Int32 ⊕ String) × AS)} (h : f_K_finish S a0 a1 = some r) : kr_Con m_K_finish 12 [va_rf a0, .int a1] S (kr_xI r) := by
  refine kr_con rfl rfl (by decide +kernel) (by simp [lg_sl, kr_rfcat, kr_icat, m_K_finish, mL]) ?_
  rw [show lv_args 0 [va_rf a0, .int a1] = [(0, va_rf a0), (1, .int a1)] from by simp [lv_args, kr_rfcat, kr_icat]]
  unfold f_K_finish at h
  refine r_aload_n (i := 0) (x := a0) 0 rfl d_K_finish_0 ?_
  refine r_iload_n (i := 1) (x := a1) 1 rfl d_K_finish_1 ?_
  have h2 := kr_ob h
  clear h
  obtain ⟨⟨⟩, eu30, h⟩ := h2
  rcases kr_obx h with ⟨v32, S31, eS31, h2⟩ | ⟨E, S31, eS31, h2⟩
  · clear h
    have h := h2
    clear h2
    refine r_callV (M1 := m_K_findRecovery) (κ := 22) (As := [.int a1]) eu30 (s_K_findRecovery eS31) mok_K_findRecovery rfl (by decide) rfl w1341 w1343 w38 (by decide) (kr_c8 kr_c0) d_K_finish_2 (kr_k1 ?_) kr_kn
    refine r_astore_n (i := 2) (lv' := [(2, va_rf v32), (0, va_rf a0), (1, .int a1)]) (by decide) rfl d_K_finish_5 ?_
    refine r_aload_n (i := 2) (x := v32) 0 rfl d_K_finish_6 ?_
    have h2 := kr_ob h
    clear h
    obtain ⟨v33, ev33, h⟩ := h2
    refine r_getI ev33 fk215 rfl d_K_finish_7 ?_
    refine r_if_eq (tgt := 31) d_K_finish_10 rfl (fun c => ?_) (fun c => ?_)
    · replace h := kr_ip c h
      exact kr_sub [1, 2, 0] rfl (s_K_finish_B31 h)
    · replace h := kr_in_ c h
      refine r_aload_n (i := 0) (x := a0) 1 rfl d_K_finish_13 ?_
      have h2 := kr_ob h
      clear h
      obtain ⟨v34, ev34, h⟩ := h2
      refine r_getI ev34 fk113 rfl d_K_finish_14 ?_
      refine r_aload_n (i := 2) (x := v32) 0 rfl d_K_finish_17 ?_
      have h2 := kr_ob h
      clear h
      obtain ⟨v35, ev35, h⟩ := h2
      refine r_getI ev35 fk224 rfl d_K_finish_18 ?_
      refine r_isub d_K_finish_21 ?_
      refine r_bipush (v := (60 : Int32)) (by decide) d_K_finish_22 ?_
      refine r_icmp_lt (tgt := 31) d_K_finish_24 rfl (fun c => ?_) (fun c => ?_)
      · replace h := kr_ip c h
        exact kr_sub [1, 2, 0] rfl (s_K_finish_B31 h)
      · replace h := kr_in_ c h
        refine r_iconst (v := (1 : Int32)) (by decide) d_K_finish_27 ?_
        refine r_goto (tgt := 32) d_K_finish_28 rfl ?_
        exact kr_sub [1, 2, 0] rfl (s_K_finish_B32 h)
  · cases h2
    exact r_callV (M1 := m_K_findRecovery) (κ := 22) (As := [.int a1]) eu30 (s_K_findRecovery eS31) mok_K_findRecovery rfl (by decide) rfl w1341 w1343 w38 (by decide) (kr_c8 kr_c0) d_K_finish_2 kr_nk (kr_kx (r_out rfl))
/-! KeyringCourt.link(II)I -/
def f_K_link_B47 (S : AS) (x0 : Option Nat) (x1 : Int32) (x2 : Int32) (x3 : Int32) (y0 : Int32) : Option ((Int32 ⊕ String) × AS) :=
  kr_bx (f_K_requireState S y0) fun z2 S1 =>
  (gR S1 22 17 x0).bind fun v3 =>
  (bI S1 v3 x1 x2).bind fun S4 =>
  some (.inl x3, S4)
def f_K_link_B42 (S : AS) (x0 : Option Nat) (x1 : Int32) (x2 : Int32) (x3 : Int32) : Option ((Int32 ⊕ String) × AS) :=
  f_K_link_B47 S x0 x1 x2 x3 (1 : Int32)
def f_K_link_B20 (S : AS) (x0 : Option Nat) (x1 : Int32) (x2 : Int32) : Option ((Int32 ⊕ String) × AS) :=
  (gR S 22 17 x0).bind fun v5 =>
  (aI S 40 v5 x1).bind fun v6 =>
  if x2 = (-1 : Int32) then
  f_K_link_B42 S x0 x1 x2 v6
  else
  if v6 = (-1 : Int32) then
  f_K_link_B42 S x0 x1 x2 v6
  else
  if v6 = x2 then
  f_K_link_B42 S x0 x1 x2 v6
  else
  f_K_link_B47 S x0 x1 x2 v6 (0 : Int32)
def f_K_link (S : AS) (a0 : Option Nat) (a1 : Int32) (a2 : Int32) : Option ((Int32 ⊕ String) × AS) :=
  (gR S 22 17 a0).bind fun v7 =>
  (aN S v7).bind fun v8 =>
  kr_bx (f_K_requireIndex S a1 v8) fun z10 S9 =>
  if a2 = (-1 : Int32) then
  f_K_link_B20 S9 a0 a1 a2
  else
  kr_bx (f_K_requireIndex S9 a2 (6 : Int32)) fun z12 S11 =>
  f_K_link_B20 S11 a0 a1 a2
set_option maxRecDepth 20000 in
set_option maxHeartbeats 4000000 in
theorem s_K_link_B47 {S : AS} {x0 : Option Nat} {x1 : Int32} {x2 : Int32} {x3 : Int32} {y0 : Int32} {r : ((Int32 ⊕ String) × AS)} (h : f_K_link_B47 S x0 x1 x2 x3 y0 = some r) : kr_AW m_K_link 8 47 [(0, va_rf x0), (1, .int x1), (2, .int x2), (3, .int x3)] [.int y0] S (kr_xI r) := by
  unfold f_K_link_B47 at h
  rcases kr_obx h with ⟨z2, S1, eS1, h2⟩ | ⟨E, S1, eS1, h2⟩
  · clear h
    have h := h2
    clear h2
    refine r_callS (M1 := m_K_requireState) (As := [.int y0]) (s_K_requireState eS1) mok_K_requireState rfl w442 w443 (by decide) (kr_c8 kr_c0) d_K_link_47 (kr_k0 ?_) kr_kn
    refine r_aload_n (i := 0) (x := x0) 0 rfl d_K_link_50 ?_
    have h2 := kr_ob h
    clear h
    obtain ⟨v3, ev3, h⟩ := h2
    refine r_getR ev3 fk38 rfl d_K_link_51 ?_
    refine r_iload_n (i := 1) (x := x1) 1 rfl d_K_link_54 ?_
    refine r_iload_n (i := 2) (x := x2) 2 rfl d_K_link_55 ?_
    have h2 := kr_ob h
    clear h
    obtain ⟨S4, eS4, h⟩ := h2
    refine r_iastore eS4 d_K_link_56 ?_
    refine r_iload_n (i := 3) (x := x3) 3 rfl d_K_link_57 ?_
    cases h
    exact r_iret rfl d_K_link_58
  · cases h2
    exact r_callS (M1 := m_K_requireState) (As := [.int y0]) (s_K_requireState eS1) mok_K_requireState rfl w442 w443 (by decide) (kr_c8 kr_c0) d_K_link_47 kr_nk (kr_kx (r_out rfl))
set_option maxRecDepth 20000 in
set_option maxHeartbeats 4000000 in
theorem s_K_link_B42 {S : AS} {x0 : Option Nat} {x1 : Int32} {x2 : Int32} {x3 : Int32} {r : ((Int32 ⊕ String) × AS)} (h : f_K_link_B42 S x0 x1 x2 x3 = some r) : kr_AW m_K_link 8 42 [(0, va_rf x0), (1, .int x1), (2, .int x2), (3, .int x3)] [] S (kr_xI r) := by
  unfold f_K_link_B42 at h
  refine r_iconst (v := (1 : Int32)) (by decide) d_K_link_42 ?_
  refine r_goto (tgt := 47) d_K_link_43 rfl ?_
  exact kr_sub [0, 1, 2, 3] rfl (s_K_link_B47 h)
set_option maxRecDepth 20000 in
set_option maxHeartbeats 4000000 in
theorem s_K_link_B20 {S : AS} {x0 : Option Nat} {x1 : Int32} {x2 : Int32} {r : ((Int32 ⊕ String) × AS)} (h : f_K_link_B20 S x0 x1 x2 = some r) : kr_AW m_K_link 8 20 [(0, va_rf x0), (1, .int x1), (2, .int x2)] [] S (kr_xI r) := by
  unfold f_K_link_B20 at h
  refine r_aload_n (i := 0) (x := x0) 0 rfl d_K_link_20 ?_
  have h2 := kr_ob h
  clear h
  obtain ⟨v5, ev5, h⟩ := h2
  refine r_getR ev5 fk38 rfl d_K_link_21 ?_
  refine r_iload_n (i := 1) (x := x1) 1 rfl d_K_link_24 ?_
  have h2 := kr_ob h
  clear h
  obtain ⟨v6, ev6, h⟩ := h2
  refine r_iaload ev6 d_K_link_25 ?_
  refine r_istore_n (i := 3) (lv' := [(3, .int v6), (0, va_rf x0), (1, .int x1), (2, .int x2)]) (by decide) rfl d_K_link_26 ?_
  refine r_iload_n (i := 2) (x := x2) 3 rfl d_K_link_27 ?_
  refine r_iconst (v := (-1 : Int32)) (by decide) d_K_link_28 ?_
  refine r_icmp_eq (tgt := 42) d_K_link_29 rfl (fun c => ?_) (fun c => ?_)
  · replace h := kr_ip c h
    exact kr_sub [1, 2, 3, 0] rfl (s_K_link_B42 h)
  · replace h := kr_in_ c h
    refine r_iload_n (i := 3) (x := v6) 0 rfl d_K_link_32 ?_
    refine r_iconst (v := (-1 : Int32)) (by decide) d_K_link_33 ?_
    refine r_icmp_eq (tgt := 42) d_K_link_34 rfl (fun c => ?_) (fun c => ?_)
    · replace h := kr_ip c h
      exact kr_sub [1, 2, 3, 0] rfl (s_K_link_B42 h)
    · replace h := kr_in_ c h
      refine r_iload_n (i := 3) (x := v6) 0 rfl d_K_link_37 ?_
      refine r_iload_n (i := 2) (x := x2) 3 rfl d_K_link_38 ?_
      refine r_icmp_ne (tgt := 46) d_K_link_39 rfl (fun c => ?_) (fun c => ?_)
      · replace h := kr_ip c h
        exact kr_sub [1, 2, 3, 0] rfl (s_K_link_B42 h)
      · replace h := kr_in_ c h
        refine r_iconst (v := (0 : Int32)) (by decide) d_K_link_46 ?_
        exact kr_sub [1, 2, 3, 0] rfl (s_K_link_B47 h)
set_option maxRecDepth 20000 in
set_option maxHeartbeats 4000000 in
theorem s_K_link {S : AS} {a0 : Option Nat} {a1 : Int32} {a2 : Int32} {r : ((Int32 ⊕ String) × AS)} (h : f_K_link S a0 a1 a2 = some r) : kr_Con m_K_link 8 [va_rf a0, .int a1, .int a2] S (kr_xI r) := by
  refine kr_con rfl rfl (by decide +kernel) (by simp [lg_sl, kr_rfcat, kr_icat, m_K_link, mL]) ?_
  rw [show lv_args 0 [va_rf a0, .int a1, .int a2] = [(0, va_rf a0), (1, .int a1), (2, .int a2)] from by simp [lv_args, kr_rfcat, kr_icat]]
  unfold f_K_link at h
  refine r_iload_n (i := 1) (x := a1) 1 rfl d_K_link_0 ?_
  refine r_aload_n (i := 0) (x := a0) 0 rfl d_K_link_1 ?_
  have h2 := kr_ob h
  clear h
  obtain ⟨v7, ev7, h⟩ := h2
  refine r_getR ev7 fk38 rfl d_K_link_2 ?_
  have h2 := kr_ob h
  clear h
  obtain ⟨v8, ev8, h⟩ := h2
  refine r_alen ev8 d_K_link_5 ?_
  rcases kr_obx h with ⟨z10, S9, eS9, h2⟩ | ⟨E, S9, eS9, h2⟩
  · clear h
    have h := h2
    clear h2
    refine r_callS (M1 := m_K_requireIndex) (As := [.int a1, .int v8]) (s_K_requireIndex eS9) mok_K_requireIndex rfl w713 w714 (by decide) (kr_c8 kr_c0) d_K_link_6 (kr_k0 ?_) kr_kn
    refine r_iload_n (i := 2) (x := a2) 2 rfl d_K_link_9 ?_
    refine r_iconst (v := (-1 : Int32)) (by decide) d_K_link_10 ?_
    refine r_icmp_eq (tgt := 20) d_K_link_11 rfl (fun c => ?_) (fun c => ?_)
    · replace h := kr_ip c h
      exact kr_sub [0, 1, 2] rfl (s_K_link_B20 h)
    · replace h := kr_in_ c h
      refine r_iload_n (i := 2) (x := a2) 2 rfl d_K_link_14 ?_
      refine r_bipush (v := (6 : Int32)) (by decide) d_K_link_15 ?_
      rcases kr_obx h with ⟨z12, S11, eS11, h2⟩ | ⟨E, S11, eS11, h2⟩
      · clear h
        have h := h2
        clear h2
        refine r_callS (M1 := m_K_requireIndex) (As := [.int a2, .int (6 : Int32)]) (s_K_requireIndex eS11) mok_K_requireIndex rfl w713 w714 (by decide) (kr_c8 kr_c0) d_K_link_17 (kr_k0 ?_) kr_kn
        exact kr_sub [0, 1, 2] rfl (s_K_link_B20 h)
      · cases h2
        exact r_callS (M1 := m_K_requireIndex) (As := [.int a2, .int (6 : Int32)]) (s_K_requireIndex eS11) mok_K_requireIndex rfl w713 w714 (by decide) (kr_c8 kr_c0) d_K_link_17 kr_nk (kr_kx (r_out rfl))
  · cases h2
    exact r_callS (M1 := m_K_requireIndex) (As := [.int a1, .int v8]) (s_K_requireIndex eS9) mok_K_requireIndex rfl w713 w714 (by decide) (kr_c8 kr_c0) d_K_link_6 kr_nk (kr_kx (r_out rfl))
/-! KeyringCourt.foreign(I)I -/
def f_K_foreign_B59 (S : AS) (x0 : Option Nat) (x3 : Option Nat) (y0 : Int32) : Option ((Int32 ⊕ String) × AS) :=
  kr_bx (f_K_requireState S y0) fun z2 S1 =>
  (some (nO S1 20)).bind fun S3 =>
  (f_Shown_init1 S3 (some (sN S1))).bind fun S4 =>
  (kr_rv S4 22 x0).bind fun u5 =>
  kr_b2 (f_K_beginSession S4 x0 x3 none (some (sN S1))) fun v7 S6 =>
  some (.inl v7, S6)
def f_K_foreign_B38 (S : AS) (x0 : Option Nat) (x2 : Int32) (y0 : Int32) : Option ((Int32 ⊕ String) × AS) :=
  kr_bx (f_K_requireState S y0) fun z9 S8 =>
  (kr_rv S8 22 x0).bind fun u10 =>
  kr_bx (f_K_findPerson S8 x0 x2) fun v12 S11 =>
  (gI S11 16 11 v12).bind fun v13 =>
  if v13 = 0 then
  f_K_foreign_B59 S11 x0 v12 (1 : Int32)
  else
  f_K_foreign_B59 S11 x0 v12 (0 : Int32)
def f_K_foreign_B37 (S : AS) (x0 : Option Nat) (x2 : Int32) : Option ((Int32 ⊕ String) × AS) :=
  f_K_foreign_B38 S x0 x2 (0 : Int32)
def f_K_foreign (S : AS) (a0 : Option Nat) (a1 : Int32) : Option ((Int32 ⊕ String) × AS) :=
  (gR S 22 17 a0).bind fun v14 =>
  (aN S v14).bind fun v15 =>
  kr_bx (f_K_requireIndex S a1 v15) fun z17 S16 =>
  (gR S16 22 17 a0).bind fun v18 =>
  (aI S16 40 v18 a1).bind fun v19 =>
  if v19 = (-1 : Int32) then
  f_K_foreign_B37 S16 a0 v19
  else
  (gR S16 22 8 a0).bind fun v20 =>
  (kr_rv S16 10 v20).bind fun u21 =>
  kr_b2 (f_AL_size S16 v20) fun v23 S22 =>
  if (60 : Int32) ≤ v23 then
  f_K_foreign_B37 S22 a0 v19
  else
  f_K_foreign_B38 S22 a0 v19 (1 : Int32)
set_option maxRecDepth 20000 in
set_option maxHeartbeats 4000000 in
theorem s_K_foreign_B59 {S : AS} {x0 : Option Nat} {x3 : Option Nat} {y0 : Int32} {r : ((Int32 ⊕ String) × AS)} (h : f_K_foreign_B59 S x0 x3 y0 = some r) : kr_AW m_K_foreign 8 59 [(0, va_rf x0), (3, va_rf x3)] [.int y0] S (kr_xI r) := by
  unfold f_K_foreign_B59 at h
  rcases kr_obx h with ⟨z2, S1, eS1, h2⟩ | ⟨E, S1, eS1, h2⟩
  · clear h
    have h := h2
    clear h2
    refine r_callS (M1 := m_K_requireState) (As := [.int y0]) (s_K_requireState eS1) mok_K_requireState rfl w442 w443 (by decide) (kr_c8 kr_c0) d_K_foreign_59 (kr_k0 ?_) kr_kn
    refine r_aload_n (i := 0) (x := x0) 0 rfl d_K_foreign_62 ?_
    refine r_aload_n (i := 3) (x := x3) 1 rfl d_K_foreign_63 ?_
    refine r_null d_K_foreign_64 ?_
    have h2 := kr_ob h
    clear h
    obtain ⟨S3, eS3, h⟩ := h2
    refine r_newO_ (κ := 20) eS3 (by decide) w874 w782 w97 d_K_foreign_65 ?_
    refine r_dup (kr_rfcat _) d_K_foreign_68 ?_
    have h2 := kr_ob h
    clear h
    obtain ⟨S4, eS4, h⟩ := h2
    refine r_callIN (M1 := m_Shown_init1) (As := []) (s_Shown_init1 eS4) mok_Shown_init1 rfl rfl rfl w1396 w784 (by decide) (kr_c8 (kr_cR (kr_cR (kr_cR (kr_cR kr_c0))))) d_K_foreign_69 (kr_k0 ?_) kr_kn
    have h2 := kr_ob h
    clear h
    obtain ⟨⟨⟩, eu5, h⟩ := h2
    have h2 := kr_ob2 h
    clear h
    obtain ⟨v7, S6, eS6, h⟩ := h2
    refine r_callV (M1 := m_K_beginSession) (κ := 22) (As := [va_rf x3, va_rf none, va_rf (some (sN S1))]) eu5 (s_K_beginSession eS6) mok_K_beginSession rfl (by decide) rfl w869 w871 w22 (by decide) (kr_c8 kr_c0) d_K_foreign_72 (kr_k1 ?_) kr_kn
    cases h
    exact r_iret rfl d_K_foreign_75
  · cases h2
    exact r_callS (M1 := m_K_requireState) (As := [.int y0]) (s_K_requireState eS1) mok_K_requireState rfl w442 w443 (by decide) (kr_c8 kr_c0) d_K_foreign_59 kr_nk (kr_kx (r_out rfl))
set_option maxRecDepth 20000 in
set_option maxHeartbeats 4000000 in
theorem s_K_foreign_B38 {S : AS} {x0 : Option Nat} {x2 : Int32} {y0 : Int32} {r : ((Int32 ⊕ String) × AS)} (h : f_K_foreign_B38 S x0 x2 y0 = some r) : kr_AW m_K_foreign 8 38 [(0, va_rf x0), (2, .int x2)] [.int y0] S (kr_xI r) := by
  unfold f_K_foreign_B38 at h
  rcases kr_obx h with ⟨z9, S8, eS8, h2⟩ | ⟨E, S8, eS8, h2⟩
  · clear h
    have h := h2
    clear h2
    refine r_callS (M1 := m_K_requireState) (As := [.int y0]) (s_K_requireState eS8) mok_K_requireState rfl w442 w443 (by decide) (kr_c8 kr_c0) d_K_foreign_38 (kr_k0 ?_) kr_kn
    refine r_aload_n (i := 0) (x := x0) 0 rfl d_K_foreign_41 ?_
    refine r_iload_n (i := 2) (x := x2) 1 rfl d_K_foreign_42 ?_
    have h2 := kr_ob h
    clear h
    obtain ⟨⟨⟩, eu10, h⟩ := h2
    rcases kr_obx h with ⟨v12, S11, eS11, h2⟩ | ⟨E, S11, eS11, h2⟩
    · clear h
      have h := h2
      clear h2
      refine r_callV (M1 := m_K_findPerson) (κ := 22) (As := [.int x2]) eu10 (s_K_findPerson eS11) mok_K_findPerson rfl (by decide) rfl w559 w561 w9 (by decide) (kr_c8 kr_c0) d_K_foreign_43 (kr_k1 ?_) kr_kn
      refine r_astore_n (i := 3) (lv' := [(3, va_rf v12), (0, va_rf x0), (2, .int x2)]) (by decide) rfl d_K_foreign_46 ?_
      refine r_aload_n (i := 3) (x := v12) 0 rfl d_K_foreign_47 ?_
      have h2 := kr_ob h
      clear h
      obtain ⟨v13, ev13, h⟩ := h2
      refine r_getI ev13 fk167 rfl d_K_foreign_48 ?_
      refine r_if_ne (tgt := 58) d_K_foreign_51 rfl (fun c => ?_) (fun c => ?_)
      · replace h := kr_ip c h
        refine r_iconst (v := (1 : Int32)) (by decide) d_K_foreign_54 ?_
        refine r_goto (tgt := 59) d_K_foreign_55 rfl ?_
        exact kr_sub [1, 0] rfl (s_K_foreign_B59 h)
      · replace h := kr_in_ c h
        refine r_iconst (v := (0 : Int32)) (by decide) d_K_foreign_58 ?_
        exact kr_sub [1, 0] rfl (s_K_foreign_B59 h)
    · cases h2
      exact r_callV (M1 := m_K_findPerson) (κ := 22) (As := [.int x2]) eu10 (s_K_findPerson eS11) mok_K_findPerson rfl (by decide) rfl w559 w561 w9 (by decide) (kr_c8 kr_c0) d_K_foreign_43 kr_nk (kr_kx (r_out rfl))
  · cases h2
    exact r_callS (M1 := m_K_requireState) (As := [.int y0]) (s_K_requireState eS8) mok_K_requireState rfl w442 w443 (by decide) (kr_c8 kr_c0) d_K_foreign_38 kr_nk (kr_kx (r_out rfl))
set_option maxRecDepth 20000 in
set_option maxHeartbeats 4000000 in
theorem s_K_foreign_B37 {S : AS} {x0 : Option Nat} {x2 : Int32} {r : ((Int32 ⊕ String) × AS)} (h : f_K_foreign_B37 S x0 x2 = some r) : kr_AW m_K_foreign 8 37 [(0, va_rf x0), (2, .int x2)] [] S (kr_xI r) := by
  unfold f_K_foreign_B37 at h
  refine r_iconst (v := (0 : Int32)) (by decide) d_K_foreign_37 ?_
  exact kr_sub [0, 1] rfl (s_K_foreign_B38 h)
set_option maxRecDepth 20000 in
set_option maxHeartbeats 4000000 in
theorem s_K_foreign {S : AS} {a0 : Option Nat} {a1 : Int32} {r : ((Int32 ⊕ String) × AS)} (h : f_K_foreign S a0 a1 = some r) : kr_Con m_K_foreign 8 [va_rf a0, .int a1] S (kr_xI r) := by
  refine kr_con rfl rfl (by decide +kernel) (by simp [lg_sl, kr_rfcat, kr_icat, m_K_foreign, mL]) ?_
  rw [show lv_args 0 [va_rf a0, .int a1] = [(0, va_rf a0), (1, .int a1)] from by simp [lv_args, kr_rfcat, kr_icat]]
  unfold f_K_foreign at h
  refine r_iload_n (i := 1) (x := a1) 1 rfl d_K_foreign_0 ?_
  refine r_aload_n (i := 0) (x := a0) 0 rfl d_K_foreign_1 ?_
  have h2 := kr_ob h
  clear h
  obtain ⟨v14, ev14, h⟩ := h2
  refine r_getR ev14 fk38 rfl d_K_foreign_2 ?_
  have h2 := kr_ob h
  clear h
  obtain ⟨v15, ev15, h⟩ := h2
  refine r_alen ev15 d_K_foreign_5 ?_
  rcases kr_obx h with ⟨z17, S16, eS16, h2⟩ | ⟨E, S16, eS16, h2⟩
  · clear h
    have h := h2
    clear h2
    refine r_callS (M1 := m_K_requireIndex) (As := [.int a1, .int v15]) (s_K_requireIndex eS16) mok_K_requireIndex rfl w713 w714 (by decide) (kr_c8 kr_c0) d_K_foreign_6 (kr_k0 ?_) kr_kn
    refine r_aload_n (i := 0) (x := a0) 0 rfl d_K_foreign_9 ?_
    have h2 := kr_ob h
    clear h
    obtain ⟨v18, ev18, h⟩ := h2
    refine r_getR ev18 fk38 rfl d_K_foreign_10 ?_
    refine r_iload_n (i := 1) (x := a1) 1 rfl d_K_foreign_13 ?_
    have h2 := kr_ob h
    clear h
    obtain ⟨v19, ev19, h⟩ := h2
    refine r_iaload ev19 d_K_foreign_14 ?_
    refine r_istore_n (i := 2) (lv' := [(2, .int v19), (0, va_rf a0), (1, .int a1)]) (by decide) rfl d_K_foreign_15 ?_
    refine r_iload_n (i := 2) (x := v19) 0 rfl d_K_foreign_16 ?_
    refine r_iconst (v := (-1 : Int32)) (by decide) d_K_foreign_17 ?_
    refine r_icmp_eq (tgt := 37) d_K_foreign_18 rfl (fun c => ?_) (fun c => ?_)
    · replace h := kr_ip c h
      exact kr_sub [1, 0] rfl (s_K_foreign_B37 h)
    · replace h := kr_in_ c h
      refine r_aload_n (i := 0) (x := a0) 1 rfl d_K_foreign_21 ?_
      have h2 := kr_ob h
      clear h
      obtain ⟨v20, ev20, h⟩ := h2
      refine r_getR ev20 fk31 rfl d_K_foreign_22 ?_
      have h2 := kr_ob h
      clear h
      obtain ⟨⟨⟩, eu21, h⟩ := h2
      have h2 := kr_ob2 h
      clear h
      obtain ⟨v23, S22, eS22, h⟩ := h2
      refine r_callV (M1 := m_AL_size) (κ := 10) (As := []) eu21 (s_AL_size eS22) mok_AL_size rfl (by decide) rfl w348 w349 w350 (by decide) (kr_c8 kr_c0) d_K_foreign_25 (kr_k1 ?_) kr_kn
      refine r_bipush (v := (60 : Int32)) (by decide) d_K_foreign_28 ?_
      refine r_icmp_ge (tgt := 37) d_K_foreign_30 rfl (fun c => ?_) (fun c => ?_)
      · replace h := kr_ip c h
        exact kr_sub [1, 0] rfl (s_K_foreign_B37 h)
      · replace h := kr_in_ c h
        refine r_iconst (v := (1 : Int32)) (by decide) d_K_foreign_33 ?_
        refine r_goto (tgt := 38) d_K_foreign_34 rfl ?_
        exact kr_sub [1, 0] rfl (s_K_foreign_B38 h)
  · cases h2
    exact r_callS (M1 := m_K_requireIndex) (As := [.int a1, .int v15]) (s_K_requireIndex eS16) mok_K_requireIndex rfl w713 w714 (by decide) (kr_c8 kr_c0) d_K_foreign_6 kr_nk (kr_kx (r_out rfl))
/-! KeyringCourt.denyAttemptsOf(LKeyringCourt$Person;)V -/
def f_K_denyAttemptsOf_B45 (k2 : AS → Option Nat → Option Nat → Int32 → Option AS) (S : AS) (x0 : Option Nat) (x1 : Option Nat) (x2 : Int32) : Option AS :=
  (some (x2 + (1 : Int32))).bind fun i1 =>
  k2 S x0 x1 i1
def f_K_denyAttemptsOf_C2 (k2 : AS → Option Nat → Option Nat → Int32 → Option AS) (S : AS) (x0 : Option Nat) (x1 : Option Nat) (x2 : Int32) : Option AS :=
  (gR S 22 7 x0).bind fun v2 =>
  (kr_rv S 10 v2).bind fun u3 =>
  kr_b2 (f_AL_size S v2) fun v5 S4 =>
  if v5 ≤ x2 then
  some S4
  else
  (gR S4 22 7 x0).bind fun v6 =>
  (kr_rv S4 10 v6).bind fun u7 =>
  kr_b2 (f_AL_get S4 v6 x2) fun v9 S8 =>
  (kr_cc S8 11 v9).bind fun u10 =>
  (gR S8 11 0 v9).bind fun v11 =>
  (kr_ac S8 v11).bind fun u12 =>
  (kr_ac S8 x1).bind fun u13 =>
  if v11 = x1 then
  (gI S8 11 5 v9).bind fun v14 =>
  if v14 = 0 then
  (pI S8 11 5 v9 (2 : Int32)).bind fun S15 =>
  f_K_denyAttemptsOf_B45 k2 S15 x0 x1 x2
  else
  f_K_denyAttemptsOf_B45 k2 S8 x0 x1 x2
  else
  f_K_denyAttemptsOf_B45 k2 S8 x0 x1 x2
def f_K_denyAttemptsOf_L2 : Nat → AS → Option Nat → Option Nat → Int32 → Option AS
  | 0, S, x0, x1, x2 => none
  | n + 1, S, x0, x1, x2 => f_K_denyAttemptsOf_C2 (f_K_denyAttemptsOf_L2 n) S x0 x1 x2
def f_K_denyAttemptsOf (S : AS) (a0 : Option Nat) (a1 : Option Nat) : Option AS :=
  f_K_denyAttemptsOf_L2 kr_FU S a0 a1 (0 : Int32)
set_option maxRecDepth 20000 in
set_option maxHeartbeats 4000000 in
theorem s_K_denyAttemptsOf_B45 {k2 : AS → Option Nat → Option Nat → Int32 → Option AS} (hk2 : ∀ {S : AS} {x0 : Option Nat} {x1 : Option Nat} {x2 : Int32} {r : AS}, k2 S x0 x1 x2 = some r → kr_AW m_K_denyAttemptsOf 3 2 [(0, va_rf x0), (1, va_rf x1), (2, .int x2)] [] S (kr_eV r)) {S : AS} {x0 : Option Nat} {x1 : Option Nat} {x2 : Int32} {r : AS} (h : f_K_denyAttemptsOf_B45 k2 S x0 x1 x2 = some r) : kr_AW m_K_denyAttemptsOf 3 45 [(0, va_rf x0), (1, va_rf x1), (2, .int x2)] [] S (kr_eV r) := by
  unfold f_K_denyAttemptsOf_B45 at h
  have h2 := kr_ob h
  clear h
  obtain ⟨i1, ei1, h⟩ := h2
  refine r_iinc (v := i1) (lv' := [(2, .int i1), (0, va_rf x0), (1, va_rf x1)]) 2 rfl (kr_inc (by decide) ei1) (by decide) (by simp [kr_st, kr_rfcat, kr_icat]) d_K_denyAttemptsOf_45 ?_
  refine r_goto (tgt := 2) d_K_denyAttemptsOf_48 rfl ?_
  exact kr_sub [1, 2, 0] rfl (hk2 h)
set_option maxRecDepth 20000 in
set_option maxHeartbeats 4000000 in
theorem s_K_denyAttemptsOf_C2 {k2 : AS → Option Nat → Option Nat → Int32 → Option AS} (hk2 : ∀ {S : AS} {x0 : Option Nat} {x1 : Option Nat} {x2 : Int32} {r : AS}, k2 S x0 x1 x2 = some r → kr_AW m_K_denyAttemptsOf 3 2 [(0, va_rf x0), (1, va_rf x1), (2, .int x2)] [] S (kr_eV r)) {S : AS} {x0 : Option Nat} {x1 : Option Nat} {x2 : Int32} {r : AS} (h : f_K_denyAttemptsOf_C2 k2 S x0 x1 x2 = some r) : kr_AW m_K_denyAttemptsOf 3 2 [(0, va_rf x0), (1, va_rf x1), (2, .int x2)] [] S (kr_eV r) := by
  unfold f_K_denyAttemptsOf_C2 at h
  refine r_iload_n (i := 2) (x := x2) 2 rfl d_K_denyAttemptsOf_2 ?_
  refine r_aload_n (i := 0) (x := x0) 0 rfl d_K_denyAttemptsOf_3 ?_
  have h2 := kr_ob h
  clear h
  obtain ⟨v2, ev2, h⟩ := h2
  refine r_getR ev2 fk30 rfl d_K_denyAttemptsOf_4 ?_
  have h2 := kr_ob h
  clear h
  obtain ⟨⟨⟩, eu3, h⟩ := h2
  have h2 := kr_ob2 h
  clear h
  obtain ⟨v5, S4, eS4, h⟩ := h2
  refine r_callV (M1 := m_AL_size) (κ := 10) (As := []) eu3 (s_AL_size eS4) mok_AL_size rfl (by decide) rfl w348 w349 w350 (by decide) (kr_c8 (kr_cI kr_c0)) d_K_denyAttemptsOf_7 (kr_k1 ?_) kr_kn
  refine r_icmp_ge (tgt := 51) d_K_denyAttemptsOf_10 rfl (fun c => ?_) (fun c => ?_)
  · replace h := kr_ip c h
    cases h
    exact r_vret rfl d_K_denyAttemptsOf_51
  · replace h := kr_in_ c h
    refine r_aload_n (i := 0) (x := x0) 0 rfl d_K_denyAttemptsOf_13 ?_
    have h2 := kr_ob h
    clear h
    obtain ⟨v6, ev6, h⟩ := h2
    refine r_getR ev6 fk30 rfl d_K_denyAttemptsOf_14 ?_
    refine r_iload_n (i := 2) (x := x2) 2 rfl d_K_denyAttemptsOf_17 ?_
    have h2 := kr_ob h
    clear h
    obtain ⟨⟨⟩, eu7, h⟩ := h2
    have h2 := kr_ob2 h
    clear h
    obtain ⟨v9, S8, eS8, h⟩ := h2
    refine r_callV (M1 := m_AL_get) (κ := 10) (As := [.int x2]) eu7 (s_AL_get eS8) mok_AL_get rfl (by decide) rfl w489 w490 w491 (by decide) (kr_c8 kr_c0) d_K_denyAttemptsOf_18 (kr_k1 ?_) kr_kn
    have h2 := kr_ob h
    clear h
    obtain ⟨⟨⟩, eu10, h⟩ := h2
    refine r_cast eu10 (by decide) w775 d_K_denyAttemptsOf_21 ?_
    refine r_astore_n (i := 3) (lv' := [(3, va_rf v9), (0, va_rf x0), (1, va_rf x1), (2, .int x2)]) (by decide) rfl d_K_denyAttemptsOf_24 ?_
    refine r_aload_n (i := 3) (x := v9) 0 rfl d_K_denyAttemptsOf_25 ?_
    have h2 := kr_ob h
    clear h
    obtain ⟨v11, ev11, h⟩ := h2
    refine r_getR ev11 fk152 rfl d_K_denyAttemptsOf_26 ?_
    refine r_aload_n (i := 1) (x := x1) 2 rfl d_K_denyAttemptsOf_29 ?_
    have h2 := kr_ob h
    clear h
    obtain ⟨⟨⟩, eu12, h⟩ := h2
    have h2 := kr_ob h
    clear h
    obtain ⟨⟨⟩, eu13, h⟩ := h2
    refine r_acmp_ne (tgt := 45) eu12 eu13 d_K_denyAttemptsOf_30 rfl (fun c => ?_) (fun c => ?_)
    · replace h := kr_ip c h
      refine r_aload_n (i := 3) (x := v9) 0 rfl d_K_denyAttemptsOf_33 ?_
      have h2 := kr_ob h
      clear h
      obtain ⟨v14, ev14, h⟩ := h2
      refine r_getI ev14 fk165 rfl d_K_denyAttemptsOf_34 ?_
      refine r_if_ne (tgt := 45) d_K_denyAttemptsOf_37 rfl (fun c => ?_) (fun c => ?_)
      · replace h := kr_ip c h
        refine r_aload_n (i := 3) (x := v9) 0 rfl d_K_denyAttemptsOf_40 ?_
        refine r_iconst (v := (2 : Int32)) (by decide) d_K_denyAttemptsOf_41 ?_
        have h2 := kr_ob h
        clear h
        obtain ⟨S15, eS15, h⟩ := h2
        refine r_putI eS15 fk165 (Or.inl rfl) rfl d_K_denyAttemptsOf_42 ?_
        exact kr_sub [1, 2, 3] rfl (s_K_denyAttemptsOf_B45 hk2 h)
      · replace h := kr_in_ c h
        exact kr_sub [1, 2, 3] rfl (s_K_denyAttemptsOf_B45 hk2 h)
    · replace h := kr_in_ c h
      exact kr_sub [1, 2, 3] rfl (s_K_denyAttemptsOf_B45 hk2 h)
theorem s_K_denyAttemptsOf_L2 (n : Nat) : ∀ {S : AS} {x0 : Option Nat} {x1 : Option Nat} {x2 : Int32} {r : AS}, f_K_denyAttemptsOf_L2 n S x0 x1 x2 = some r → kr_AW m_K_denyAttemptsOf 3 2 [(0, va_rf x0), (1, va_rf x1), (2, .int x2)] [] S (kr_eV r) := by
  induction n with
  | zero => intro S x0 x1 x2 r h; cases h
  | succ n ih => intro S x0 x1 x2 r h; exact s_K_denyAttemptsOf_C2 (fun {_} {_} {_} {_} {_} h => ih h) h
set_option maxRecDepth 20000 in
set_option maxHeartbeats 4000000 in
theorem s_K_denyAttemptsOf {S : AS} {a0 : Option Nat} {a1 : Option Nat} {r : AS} (h : f_K_denyAttemptsOf S a0 a1 = some r) : kr_Con m_K_denyAttemptsOf 3 [va_rf a0, va_rf a1] S (kr_eV r) := by
  refine kr_con rfl rfl (by decide +kernel) (by simp [lg_sl, kr_rfcat, kr_icat, m_K_denyAttemptsOf, mL]) ?_
  rw [show lv_args 0 [va_rf a0, va_rf a1] = [(0, va_rf a0), (1, va_rf a1)] from by simp [lv_args, kr_rfcat, kr_icat]]
  unfold f_K_denyAttemptsOf at h
  refine r_iconst (v := (0 : Int32)) (by decide) d_K_denyAttemptsOf_0 ?_
  refine r_istore_n (i := 2) (lv' := [(2, .int (0 : Int32)), (0, va_rf a0), (1, va_rf a1)]) (by decide) (by show kr_st _ 2 _ = _; simp [kr_st, kr_rfcat, kr_icat]) d_K_denyAttemptsOf_1 ?_
  exact kr_sub [1, 2, 0] rfl (s_K_denyAttemptsOf_L2 kr_FU h)
/-! KeyringCourt.stopRecoveriesOf(LKeyringCourt$Person;)V -/
def f_K_stopRecoveriesOf_B38 (k2 : AS → Option Nat → Option Nat → Int32 → Option AS) (S : AS) (x0 : Option Nat) (x1 : Option Nat) (x2 : Int32) : Option AS :=
  (some (x2 + (1 : Int32))).bind fun i1 =>
  k2 S x0 x1 i1
def f_K_stopRecoveriesOf_C2 (k2 : AS → Option Nat → Option Nat → Int32 → Option AS) (S : AS) (x0 : Option Nat) (x1 : Option Nat) (x2 : Int32) : Option AS :=
  (gR S 22 16 x0).bind fun v2 =>
  (kr_rv S 10 v2).bind fun u3 =>
  kr_b2 (f_AL_size S v2) fun v5 S4 =>
  if v5 ≤ x2 then
  some S4
  else
  (gR S4 22 16 x0).bind fun v6 =>
  (kr_rv S4 10 v6).bind fun u7 =>
  kr_b2 (f_AL_get S4 v6 x2) fun v9 S8 =>
  (kr_cc S8 17 v9).bind fun u10 =>
  (gR S8 17 0 v9).bind fun v11 =>
  (kr_ac S8 v11).bind fun u12 =>
  (kr_ac S8 x1).bind fun u13 =>
  if v11 = x1 then
  (pZ S8 17 2 v9 (0 : Int32)).bind fun S14 =>
  f_K_stopRecoveriesOf_B38 k2 S14 x0 x1 x2
  else
  f_K_stopRecoveriesOf_B38 k2 S8 x0 x1 x2
def f_K_stopRecoveriesOf_L2 : Nat → AS → Option Nat → Option Nat → Int32 → Option AS
  | 0, S, x0, x1, x2 => none
  | n + 1, S, x0, x1, x2 => f_K_stopRecoveriesOf_C2 (f_K_stopRecoveriesOf_L2 n) S x0 x1 x2
def f_K_stopRecoveriesOf (S : AS) (a0 : Option Nat) (a1 : Option Nat) : Option AS :=
  f_K_stopRecoveriesOf_L2 kr_FU S a0 a1 (0 : Int32)
set_option maxRecDepth 20000 in
set_option maxHeartbeats 4000000 in
theorem s_K_stopRecoveriesOf_B38 {k2 : AS → Option Nat → Option Nat → Int32 → Option AS} (hk2 : ∀ {S : AS} {x0 : Option Nat} {x1 : Option Nat} {x2 : Int32} {r : AS}, k2 S x0 x1 x2 = some r → kr_AW m_K_stopRecoveriesOf 3 2 [(0, va_rf x0), (1, va_rf x1), (2, .int x2)] [] S (kr_eV r)) {S : AS} {x0 : Option Nat} {x1 : Option Nat} {x2 : Int32} {r : AS} (h : f_K_stopRecoveriesOf_B38 k2 S x0 x1 x2 = some r) : kr_AW m_K_stopRecoveriesOf 3 38 [(0, va_rf x0), (1, va_rf x1), (2, .int x2)] [] S (kr_eV r) := by
  unfold f_K_stopRecoveriesOf_B38 at h
  have h2 := kr_ob h
  clear h
  obtain ⟨i1, ei1, h⟩ := h2
  refine r_iinc (v := i1) (lv' := [(2, .int i1), (0, va_rf x0), (1, va_rf x1)]) 2 rfl (kr_inc (by decide) ei1) (by decide) (by simp [kr_st, kr_rfcat, kr_icat]) d_K_stopRecoveriesOf_38 ?_
  refine r_goto (tgt := 2) d_K_stopRecoveriesOf_41 rfl ?_
  exact kr_sub [1, 2, 0] rfl (hk2 h)
set_option maxRecDepth 20000 in
set_option maxHeartbeats 4000000 in
theorem s_K_stopRecoveriesOf_C2 {k2 : AS → Option Nat → Option Nat → Int32 → Option AS} (hk2 : ∀ {S : AS} {x0 : Option Nat} {x1 : Option Nat} {x2 : Int32} {r : AS}, k2 S x0 x1 x2 = some r → kr_AW m_K_stopRecoveriesOf 3 2 [(0, va_rf x0), (1, va_rf x1), (2, .int x2)] [] S (kr_eV r)) {S : AS} {x0 : Option Nat} {x1 : Option Nat} {x2 : Int32} {r : AS} (h : f_K_stopRecoveriesOf_C2 k2 S x0 x1 x2 = some r) : kr_AW m_K_stopRecoveriesOf 3 2 [(0, va_rf x0), (1, va_rf x1), (2, .int x2)] [] S (kr_eV r) := by
  unfold f_K_stopRecoveriesOf_C2 at h
  refine r_iload_n (i := 2) (x := x2) 2 rfl d_K_stopRecoveriesOf_2 ?_
  refine r_aload_n (i := 0) (x := x0) 0 rfl d_K_stopRecoveriesOf_3 ?_
  have h2 := kr_ob h
  clear h
  obtain ⟨v2, ev2, h⟩ := h2
  refine r_getR ev2 fk37 rfl d_K_stopRecoveriesOf_4 ?_
  have h2 := kr_ob h
  clear h
  obtain ⟨⟨⟩, eu3, h⟩ := h2
  have h2 := kr_ob2 h
  clear h
  obtain ⟨v5, S4, eS4, h⟩ := h2
  refine r_callV (M1 := m_AL_size) (κ := 10) (As := []) eu3 (s_AL_size eS4) mok_AL_size rfl (by decide) rfl w348 w349 w350 (by decide) (kr_c8 (kr_cI kr_c0)) d_K_stopRecoveriesOf_7 (kr_k1 ?_) kr_kn
  refine r_icmp_ge (tgt := 44) d_K_stopRecoveriesOf_10 rfl (fun c => ?_) (fun c => ?_)
  · replace h := kr_ip c h
    cases h
    exact r_vret rfl d_K_stopRecoveriesOf_44
  · replace h := kr_in_ c h
    refine r_aload_n (i := 0) (x := x0) 0 rfl d_K_stopRecoveriesOf_13 ?_
    have h2 := kr_ob h
    clear h
    obtain ⟨v6, ev6, h⟩ := h2
    refine r_getR ev6 fk37 rfl d_K_stopRecoveriesOf_14 ?_
    refine r_iload_n (i := 2) (x := x2) 2 rfl d_K_stopRecoveriesOf_17 ?_
    have h2 := kr_ob h
    clear h
    obtain ⟨⟨⟩, eu7, h⟩ := h2
    have h2 := kr_ob2 h
    clear h
    obtain ⟨v9, S8, eS8, h⟩ := h2
    refine r_callV (M1 := m_AL_get) (κ := 10) (As := [.int x2]) eu7 (s_AL_get eS8) mok_AL_get rfl (by decide) rfl w489 w490 w491 (by decide) (kr_c8 kr_c0) d_K_stopRecoveriesOf_18 (kr_k1 ?_) kr_kn
    have h2 := kr_ob h
    clear h
    obtain ⟨⟨⟩, eu10, h⟩ := h2
    refine r_cast eu10 (by decide) w1308 d_K_stopRecoveriesOf_21 ?_
    refine r_astore_n (i := 3) (lv' := [(3, va_rf v9), (0, va_rf x0), (1, va_rf x1), (2, .int x2)]) (by decide) rfl d_K_stopRecoveriesOf_24 ?_
    refine r_aload_n (i := 3) (x := v9) 0 rfl d_K_stopRecoveriesOf_25 ?_
    have h2 := kr_ob h
    clear h
    obtain ⟨v11, ev11, h⟩ := h2
    refine r_getR ev11 fk216 rfl d_K_stopRecoveriesOf_26 ?_
    refine r_aload_n (i := 1) (x := x1) 2 rfl d_K_stopRecoveriesOf_29 ?_
    have h2 := kr_ob h
    clear h
    obtain ⟨⟨⟩, eu12, h⟩ := h2
    have h2 := kr_ob h
    clear h
    obtain ⟨⟨⟩, eu13, h⟩ := h2
    refine r_acmp_ne (tgt := 38) eu12 eu13 d_K_stopRecoveriesOf_30 rfl (fun c => ?_) (fun c => ?_)
    · replace h := kr_ip c h
      refine r_aload_n (i := 3) (x := v9) 0 rfl d_K_stopRecoveriesOf_33 ?_
      refine r_iconst (v := (0 : Int32)) (by decide) d_K_stopRecoveriesOf_34 ?_
      have h2 := kr_ob h
      clear h
      obtain ⟨S14, eS14, h⟩ := h2
      refine r_putZ eS14 fk215 (Or.inl rfl) rfl d_K_stopRecoveriesOf_35 ?_
      exact kr_sub [1, 2, 3] rfl (s_K_stopRecoveriesOf_B38 hk2 h)
    · replace h := kr_in_ c h
      exact kr_sub [1, 2, 3] rfl (s_K_stopRecoveriesOf_B38 hk2 h)
theorem s_K_stopRecoveriesOf_L2 (n : Nat) : ∀ {S : AS} {x0 : Option Nat} {x1 : Option Nat} {x2 : Int32} {r : AS}, f_K_stopRecoveriesOf_L2 n S x0 x1 x2 = some r → kr_AW m_K_stopRecoveriesOf 3 2 [(0, va_rf x0), (1, va_rf x1), (2, .int x2)] [] S (kr_eV r) := by
  induction n with
  | zero => intro S x0 x1 x2 r h; cases h
  | succ n ih => intro S x0 x1 x2 r h; exact s_K_stopRecoveriesOf_C2 (fun {_} {_} {_} {_} {_} h => ih h) h
set_option maxRecDepth 20000 in
set_option maxHeartbeats 4000000 in
theorem s_K_stopRecoveriesOf {S : AS} {a0 : Option Nat} {a1 : Option Nat} {r : AS} (h : f_K_stopRecoveriesOf S a0 a1 = some r) : kr_Con m_K_stopRecoveriesOf 3 [va_rf a0, va_rf a1] S (kr_eV r) := by
  refine kr_con rfl rfl (by decide +kernel) (by simp [lg_sl, kr_rfcat, kr_icat, m_K_stopRecoveriesOf, mL]) ?_
  rw [show lv_args 0 [va_rf a0, va_rf a1] = [(0, va_rf a0), (1, va_rf a1)] from by simp [lv_args, kr_rfcat, kr_icat]]
  unfold f_K_stopRecoveriesOf at h
  refine r_iconst (v := (0 : Int32)) (by decide) d_K_stopRecoveriesOf_0 ?_
  refine r_istore_n (i := 2) (lv' := [(2, .int (0 : Int32)), (0, va_rf a0), (1, va_rf a1)]) (by decide) (by show kr_st _ 2 _ = _; simp [kr_st, kr_rfcat, kr_icat]) d_K_stopRecoveriesOf_1 ?_
  exact kr_sub [1, 2, 0] rfl (s_K_stopRecoveriesOf_L2 kr_FU h)
/-! KeyringCourt.leave(I)I -/
def f_K_leave_B19 (S : AS) (x0 : Option Nat) (x2 : Option Nat) (y0 : Option Nat) (y1 : Int32) : Option ((Int32 ⊕ String) × AS) :=
  (pZ S 16 11 y0 y1).bind fun S1 =>
  (gI S1 16 11 x2).bind fun v2 =>
  if v2 = 0 then
  some (.inl (-1 : Int32), S1)
  else
  (kr_rv S1 22 x0).bind fun u3 =>
  (f_K_denyAttemptsOf S1 x0 x2).bind fun S4 =>
  (kr_rv S4 22 x0).bind fun u5 =>
  (f_K_stopRecoveriesOf S4 x0 x2).bind fun S6 =>
  (kr_rv S6 22 x0).bind fun u7 =>
  kr_bx (f_K_endSessionsOf S6 x0 x2) fun v9 S8 =>
  some (.inl v9, S8)
def f_K_leave (S : AS) (a0 : Option Nat) (a1 : Int32) : Option ((Int32 ⊕ String) × AS) :=
  (kr_rv S 22 a0).bind fun u10 =>
  kr_bx (f_K_findPerson S a0 a1) fun v12 S11 =>
  (gI S11 16 11 v12).bind fun v13 =>
  if v13 = 0 then
  f_K_leave_B19 S11 a0 v12 v12 (1 : Int32)
  else
  f_K_leave_B19 S11 a0 v12 v12 (0 : Int32)
set_option maxRecDepth 20000 in
set_option maxHeartbeats 4000000 in
theorem s_K_leave_B19 {S : AS} {x0 : Option Nat} {x2 : Option Nat} {y0 : Option Nat} {y1 : Int32} {r : ((Int32 ⊕ String) × AS)} (h : f_K_leave_B19 S x0 x2 y0 y1 = some r) : kr_AW m_K_leave 12 19 [(0, va_rf x0), (2, va_rf x2)] [.int y1, va_rf y0] S (kr_xI r) := by
  unfold f_K_leave_B19 at h
  have h2 := kr_ob h
  clear h
  obtain ⟨S1, eS1, h⟩ := h2
  refine r_putZ eS1 fk167 (Or.inl rfl) rfl d_K_leave_19 ?_
  refine r_aload_n (i := 2) (x := x2) 1 rfl d_K_leave_22 ?_
  have h2 := kr_ob h
  clear h
  obtain ⟨v2, ev2, h⟩ := h2
  refine r_getI ev2 fk167 rfl d_K_leave_23 ?_
  refine r_if_ne (tgt := 31) d_K_leave_26 rfl (fun c => ?_) (fun c => ?_)
  · replace h := kr_ip c h
    refine r_iconst (v := (-1 : Int32)) (by decide) d_K_leave_29 ?_
    cases h
    exact r_iret rfl d_K_leave_30
  · replace h := kr_in_ c h
    refine r_aload_n (i := 0) (x := x0) 0 rfl d_K_leave_31 ?_
    refine r_aload_n (i := 2) (x := x2) 1 rfl d_K_leave_32 ?_
    have h2 := kr_ob h
    clear h
    obtain ⟨⟨⟩, eu3, h⟩ := h2
    have h2 := kr_ob h
    clear h
    obtain ⟨S4, eS4, h⟩ := h2
    refine r_callV (M1 := m_K_denyAttemptsOf) (κ := 22) (As := [va_rf x2]) eu3 (s_K_denyAttemptsOf eS4) mok_K_denyAttemptsOf rfl (by decide) rfl w1404 w1406 w40 (by decide) (kr_c8 kr_c0) d_K_leave_33 (kr_k0 ?_) kr_kn
    refine r_aload_n (i := 0) (x := x0) 0 rfl d_K_leave_36 ?_
    refine r_aload_n (i := 2) (x := x2) 1 rfl d_K_leave_37 ?_
    have h2 := kr_ob h
    clear h
    obtain ⟨⟨⟩, eu5, h⟩ := h2
    have h2 := kr_ob h
    clear h
    obtain ⟨S6, eS6, h⟩ := h2
    refine r_callV (M1 := m_K_stopRecoveriesOf) (κ := 22) (As := [va_rf x2]) eu5 (s_K_stopRecoveriesOf eS6) mok_K_stopRecoveriesOf rfl (by decide) rfl w1408 w1410 w41 (by decide) (kr_c8 kr_c0) d_K_leave_38 (kr_k0 ?_) kr_kn
    refine r_aload_n (i := 0) (x := x0) 0 rfl d_K_leave_41 ?_
    refine r_aload_n (i := 2) (x := x2) 1 rfl d_K_leave_42 ?_
    have h2 := kr_ob h
    clear h
    obtain ⟨⟨⟩, eu7, h⟩ := h2
    rcases kr_obx h with ⟨v9, S8, eS8, h2⟩ | ⟨E, S8, eS8, h2⟩
    · clear h
      have h := h2
      clear h2
      refine r_callV (M1 := m_K_endSessionsOf) (κ := 22) (As := [va_rf x2]) eu7 (s_K_endSessionsOf eS8) mok_K_endSessionsOf rfl (by decide) rfl w1374 w1376 w39 (by decide) (kr_c8 kr_c0) d_K_leave_43 (kr_k1 ?_) kr_kn
      cases h
      exact r_iret rfl d_K_leave_46
    · cases h2
      exact r_callV (M1 := m_K_endSessionsOf) (κ := 22) (As := [va_rf x2]) eu7 (s_K_endSessionsOf eS8) mok_K_endSessionsOf rfl (by decide) rfl w1374 w1376 w39 (by decide) (kr_c8 kr_c0) d_K_leave_43 kr_nk (kr_kx (r_out rfl))
set_option maxRecDepth 20000 in
set_option maxHeartbeats 4000000 in
theorem s_K_leave {S : AS} {a0 : Option Nat} {a1 : Int32} {r : ((Int32 ⊕ String) × AS)} (h : f_K_leave S a0 a1 = some r) : kr_Con m_K_leave 12 [va_rf a0, .int a1] S (kr_xI r) := by
  refine kr_con rfl rfl (by decide +kernel) (by simp [lg_sl, kr_rfcat, kr_icat, m_K_leave, mL]) ?_
  rw [show lv_args 0 [va_rf a0, .int a1] = [(0, va_rf a0), (1, .int a1)] from by simp [lv_args, kr_rfcat, kr_icat]]
  unfold f_K_leave at h
  refine r_aload_n (i := 0) (x := a0) 0 rfl d_K_leave_0 ?_
  refine r_iload_n (i := 1) (x := a1) 1 rfl d_K_leave_1 ?_
  have h2 := kr_ob h
  clear h
  obtain ⟨⟨⟩, eu10, h⟩ := h2
  rcases kr_obx h with ⟨v12, S11, eS11, h2⟩ | ⟨E, S11, eS11, h2⟩
  · clear h
    have h := h2
    clear h2
    refine r_callV (M1 := m_K_findPerson) (κ := 22) (As := [.int a1]) eu10 (s_K_findPerson eS11) mok_K_findPerson rfl (by decide) rfl w559 w561 w9 (by decide) (kr_c8 kr_c0) d_K_leave_2 (kr_k1 ?_) kr_kn
    refine r_astore_n (i := 2) (lv' := [(2, va_rf v12), (0, va_rf a0), (1, .int a1)]) (by decide) rfl d_K_leave_5 ?_
    refine r_aload_n (i := 2) (x := v12) 0 rfl d_K_leave_6 ?_
    refine r_aload_n (i := 2) (x := v12) 0 rfl d_K_leave_7 ?_
    have h2 := kr_ob h
    clear h
    obtain ⟨v13, ev13, h⟩ := h2
    refine r_getI ev13 fk167 rfl d_K_leave_8 ?_
    refine r_if_ne (tgt := 18) d_K_leave_11 rfl (fun c => ?_) (fun c => ?_)
    · replace h := kr_ip c h
      refine r_iconst (v := (1 : Int32)) (by decide) d_K_leave_14 ?_
      refine r_goto (tgt := 19) d_K_leave_15 rfl ?_
      exact kr_sub [1, 0] rfl (s_K_leave_B19 h)
    · replace h := kr_in_ c h
      refine r_iconst (v := (0 : Int32)) (by decide) d_K_leave_18 ?_
      exact kr_sub [1, 0] rfl (s_K_leave_B19 h)
  · cases h2
    exact r_callV (M1 := m_K_findPerson) (κ := 22) (As := [.int a1]) eu10 (s_K_findPerson eS11) mok_K_findPerson rfl (by decide) rfl w559 w561 w9 (by decide) (kr_c8 kr_c0) d_K_leave_2 kr_nk (kr_kx (r_out rfl))
/-! KeyringCourt.audits()I -/
def f_K_audits (S : AS) (a0 : Option Nat) : Option (Int32 × AS) :=
  (gR S 22 1 a0).bind fun v1 =>
  (gI S 12 2 v1).bind fun v2 =>
  some (v2, S)
set_option maxRecDepth 20000 in
set_option maxHeartbeats 4000000 in
theorem s_K_audits {S : AS} {a0 : Option Nat} {r : (Int32 × AS)} (h : f_K_audits S a0 = some r) : kr_Con m_K_audits 0 [va_rf a0] S (kr_eI r) := by
  refine kr_con rfl rfl (by decide +kernel) (by simp [lg_sl, kr_rfcat, kr_icat, m_K_audits, mL]) ?_
  rw [show lv_args 0 [va_rf a0] = [(0, va_rf a0)] from by simp [lv_args, kr_rfcat, kr_icat]]
  unfold f_K_audits at h
  refine r_aload_n (i := 0) (x := a0) 0 rfl d_K_audits_0 ?_
  have h2 := kr_ob h
  clear h
  obtain ⟨v1, ev1, h⟩ := h2
  refine r_getR ev1 fk25 rfl d_K_audits_1 ?_
  have h2 := kr_ob h
  clear h
  obtain ⟨v2, ev2, h⟩ := h2
  refine r_getI ev2 fk225 rfl d_K_audits_4 ?_
  cases h
  exact r_iret rfl d_K_audits_7
/-! KeyringCourt.audit(I)I -/
def f_K_audit (S : AS) (a0 : Option Nat) (a1 : Int32) : Option ((Int32 ⊕ String) × AS) :=
  (gR S 22 1 a0).bind fun v1 =>
  (gI S 12 2 v1).bind fun v2 =>
  kr_bx (f_K_requireIndex S a1 v2) fun z4 S3 =>
  (gR S3 22 1 a0).bind fun v5 =>
  (kr_rv S3 12 v5).bind fun u6 =>
  kr_b2 (f_Audit_entryAt S3 v5 a1) fun v8 S7 =>
  some (.inl v8, S7)
set_option maxRecDepth 20000 in
set_option maxHeartbeats 4000000 in
theorem s_K_audit {S : AS} {a0 : Option Nat} {a1 : Int32} {r : ((Int32 ⊕ String) × AS)} (h : f_K_audit S a0 a1 = some r) : kr_Con m_K_audit 8 [va_rf a0, .int a1] S (kr_xI r) := by
  refine kr_con rfl rfl (by decide +kernel) (by simp [lg_sl, kr_rfcat, kr_icat, m_K_audit, mL]) ?_
  rw [show lv_args 0 [va_rf a0, .int a1] = [(0, va_rf a0), (1, .int a1)] from by simp [lv_args, kr_rfcat, kr_icat]]
  unfold f_K_audit at h
  refine r_iload_n (i := 1) (x := a1) 1 rfl d_K_audit_0 ?_
  refine r_aload_n (i := 0) (x := a0) 0 rfl d_K_audit_1 ?_
  have h2 := kr_ob h
  clear h
  obtain ⟨v1, ev1, h⟩ := h2
  refine r_getR ev1 fk25 rfl d_K_audit_2 ?_
  have h2 := kr_ob h
  clear h
  obtain ⟨v2, ev2, h⟩ := h2
  refine r_getI ev2 fk225 rfl d_K_audit_5 ?_
  rcases kr_obx h with ⟨z4, S3, eS3, h2⟩ | ⟨E, S3, eS3, h2⟩
  · clear h
    have h := h2
    clear h2
    refine r_callS (M1 := m_K_requireIndex) (As := [.int a1, .int v2]) (s_K_requireIndex eS3) mok_K_requireIndex rfl w713 w714 (by decide) (kr_c8 kr_c0) d_K_audit_8 (kr_k0 ?_) kr_kn
    refine r_aload_n (i := 0) (x := a0) 0 rfl d_K_audit_11 ?_
    have h2 := kr_ob h
    clear h
    obtain ⟨v5, ev5, h⟩ := h2
    refine r_getR ev5 fk25 rfl d_K_audit_12 ?_
    refine r_iload_n (i := 1) (x := a1) 1 rfl d_K_audit_15 ?_
    have h2 := kr_ob h
    clear h
    obtain ⟨⟨⟩, eu6, h⟩ := h2
    have h2 := kr_ob2 h
    clear h
    obtain ⟨v8, S7, eS7, h⟩ := h2
    refine r_callV (M1 := m_Audit_entryAt) (κ := 12) (As := [.int a1]) eu6 (s_Audit_entryAt eS7) mok_Audit_entryAt rfl (by decide) rfl w1419 w1007 w1008 (by decide) (kr_c8 kr_c0) d_K_audit_16 (kr_k1 ?_) kr_kn
    cases h
    exact r_iret rfl d_K_audit_19
  · cases h2
    exact r_callS (M1 := m_K_requireIndex) (As := [.int a1, .int v2]) (s_K_requireIndex eS3) mok_K_requireIndex rfl w713 w714 (by decide) (kr_c8 kr_c0) d_K_audit_8 kr_nk (kr_kx (r_out rfl))
/-! KeyringCourt.sum()I -/
def f_K_sum (S : AS) (a0 : Option Nat) : Option (Int32 × AS) :=
  (gR S 22 1 a0).bind fun v1 =>
  (gI S 12 3 v1).bind fun v2 =>
  some (v2, S)
set_option maxRecDepth 20000 in
set_option maxHeartbeats 4000000 in
theorem s_K_sum {S : AS} {a0 : Option Nat} {r : (Int32 × AS)} (h : f_K_sum S a0 = some r) : kr_Con m_K_sum 0 [va_rf a0] S (kr_eI r) := by
  refine kr_con rfl rfl (by decide +kernel) (by simp [lg_sl, kr_rfcat, kr_icat, m_K_sum, mL]) ?_
  rw [show lv_args 0 [va_rf a0] = [(0, va_rf a0)] from by simp [lv_args, kr_rfcat, kr_icat]]
  unfold f_K_sum at h
  refine r_aload_n (i := 0) (x := a0) 0 rfl d_K_sum_0 ?_
  have h2 := kr_ob h
  clear h
  obtain ⟨v1, ev1, h⟩ := h2
  refine r_getR ev1 fk25 rfl d_K_sum_1 ?_
  have h2 := kr_ob h
  clear h
  obtain ⟨v2, ev2, h⟩ := h2
  refine r_getI ev2 fk226 rfl d_K_sum_4 ?_
  cases h
  exact r_iret rfl d_K_sum_7
/-! KeyringCourt.sumAnew(I)I -/
def f_K_sumAnew (S : AS) (a0 : Option Nat) (a1 : Int32) : Option ((Int32 ⊕ String) × AS) :=
  (gR S 22 1 a0).bind fun v1 =>
  (gI S 12 2 v1).bind fun v2 =>
  kr_bx (f_K_requireIndex S a1 (v2 + (1 : Int32))) fun z4 S3 =>
  (gR S3 22 1 a0).bind fun v5 =>
  (kr_rv S3 12 v5).bind fun u6 =>
  kr_b2 (f_Audit_totalOfFirst S3 v5 a1) fun v8 S7 =>
  some (.inl v8, S7)
set_option maxRecDepth 20000 in
set_option maxHeartbeats 4000000 in
theorem s_K_sumAnew {S : AS} {a0 : Option Nat} {a1 : Int32} {r : ((Int32 ⊕ String) × AS)} (h : f_K_sumAnew S a0 a1 = some r) : kr_Con m_K_sumAnew 8 [va_rf a0, .int a1] S (kr_xI r) := by
  refine kr_con rfl rfl (by decide +kernel) (by simp [lg_sl, kr_rfcat, kr_icat, m_K_sumAnew, mL]) ?_
  rw [show lv_args 0 [va_rf a0, .int a1] = [(0, va_rf a0), (1, .int a1)] from by simp [lv_args, kr_rfcat, kr_icat]]
  unfold f_K_sumAnew at h
  refine r_iload_n (i := 1) (x := a1) 1 rfl d_K_sumAnew_0 ?_
  refine r_aload_n (i := 0) (x := a0) 0 rfl d_K_sumAnew_1 ?_
  have h2 := kr_ob h
  clear h
  obtain ⟨v1, ev1, h⟩ := h2
  refine r_getR ev1 fk25 rfl d_K_sumAnew_2 ?_
  have h2 := kr_ob h
  clear h
  obtain ⟨v2, ev2, h⟩ := h2
  refine r_getI ev2 fk225 rfl d_K_sumAnew_5 ?_
  refine r_iconst (v := (1 : Int32)) (by decide) d_K_sumAnew_8 ?_
  refine r_iadd d_K_sumAnew_9 ?_
  rcases kr_obx h with ⟨z4, S3, eS3, h2⟩ | ⟨E, S3, eS3, h2⟩
  · clear h
    have h := h2
    clear h2
    refine r_callS (M1 := m_K_requireIndex) (As := [.int a1, .int (v2 + (1 : Int32))]) (s_K_requireIndex eS3) mok_K_requireIndex rfl w713 w714 (by decide) (kr_c8 kr_c0) d_K_sumAnew_10 (kr_k0 ?_) kr_kn
    refine r_aload_n (i := 0) (x := a0) 0 rfl d_K_sumAnew_13 ?_
    have h2 := kr_ob h
    clear h
    obtain ⟨v5, ev5, h⟩ := h2
    refine r_getR ev5 fk25 rfl d_K_sumAnew_14 ?_
    refine r_iload_n (i := 1) (x := a1) 1 rfl d_K_sumAnew_17 ?_
    have h2 := kr_ob h
    clear h
    obtain ⟨⟨⟩, eu6, h⟩ := h2
    have h2 := kr_ob2 h
    clear h
    obtain ⟨v8, S7, eS7, h⟩ := h2
    refine r_callV (M1 := m_Audit_totalOfFirst) (κ := 12) (As := [.int a1]) eu6 (s_Audit_totalOfFirst eS7) mok_Audit_totalOfFirst rfl (by decide) rfl w1427 w1428 w1429 (by decide) (kr_c8 kr_c0) d_K_sumAnew_18 (kr_k1 ?_) kr_kn
    cases h
    exact r_iret rfl d_K_sumAnew_21
  · cases h2
    exact r_callS (M1 := m_K_requireIndex) (As := [.int a1, .int (v2 + (1 : Int32))]) (s_K_requireIndex eS3) mok_K_requireIndex rfl w713 w714 (by decide) (kr_c8 kr_c0) d_K_sumAnew_10 kr_nk (kr_kx (r_out rfl))
