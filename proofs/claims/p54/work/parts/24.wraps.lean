/-! KeyringCourtLaw.cell([II)I -/
def f_W_cell (X : Nat → Int32) (L : Nat) (S : AS) (a1 : Int32) : Option (Int32 × AS) :=
  if (Int32.ofNat L) ≤ a1 then
  some (((((2654435761 : Int64) * ((a1 + (191 : Int32)).toInt64)).toUInt64 >>> ((3 : Int32).toInt64.toUInt64 &&& Int64.toUInt64 63)).toInt64).toInt32, S)
  else
  (kr_sx X L a1).bind fun v1 =>
  some (v1, S)
set_option maxRecDepth 20000 in
set_option maxHeartbeats 4000000 in
theorem s_W_cell {X : Nat → Int32} {L : Nat} {S : AS} {a1 : Int32} {r : (Int32 × AS)} (h : f_W_cell X L S a1 = some r) : kr_ConX X L (m_W_cell X L) 0 [va_rf (some 2), .int a1] S (kr_eI r) := by
  refine kr_conX rfl rfl (by show plainName "KeyringCourtLaw" = true; decide +kernel) (by show _ ≤ (2 : Nat); simp [lg_sl, kr_rfcat, kr_icat]) ?_
  rw [show lv_args 0 [va_rf (some 2), .int a1] = [(0, va_rf (some 2)), (1, .int a1)] from by simp [lv_args, kr_rfcat, kr_icat]]
  unfold f_W_cell at h
  refine r_iload_n (i := 1) (x := a1) 1 rfl d_W_cell_0 ?_
  refine r_aload_n (i := 0) (x := (some 2)) 0 rfl d_W_cell_1 ?_
  refine r_slen rfl d_W_cell_2 ?_
  refine r_icmp_ge (tgt := 12) d_W_cell_3 rfl (fun c => ?_) (fun c => ?_)
  · replace h := kr_ip c h
    refine r_ldc2 (v := (2654435761 : Int64)) w310 d_W_cell_12 ?_
    refine r_iload_n (i := 1) (x := a1) 1 rfl d_W_cell_15 ?_
    refine r_sipush (v := (191 : Int32)) (by decide) d_W_cell_16 ?_
    refine r_iadd d_W_cell_19 ?_
    refine r_i2l d_W_cell_20 ?_
    refine r_lmul d_W_cell_21 ?_
    refine r_iconst (v := (3 : Int32)) (by decide) d_W_cell_22 ?_
    refine r_lushr d_W_cell_23 ?_
    refine r_l2i d_W_cell_24 ?_
    cases h
    exact r_iret rfl d_W_cell_25
  · replace h := kr_in_ c h
    refine r_aload_n (i := 0) (x := (some 2)) 0 rfl d_W_cell_6 ?_
    refine r_iload_n (i := 1) (x := a1) 1 rfl d_W_cell_7 ?_
    have h2 := kr_ob h
    clear h
    obtain ⟨v1, ev1, h⟩ := h2
    refine r_sload rfl ev1 d_W_cell_8 ?_
    refine r_goto (tgt := 25) d_W_cell_9 rfl ?_
    cases h
    exact r_iret rfl d_W_cell_25
/-! KeyringCourtLaw.steps([IIIIIII)V -/
def f_W_steps (S : AS) (a0 : Option Nat) (a1 : Int32) (a2 : Int32) (a3 : Int32) (a4 : Int32) (a5 : Int32) (a6 : Int32) : Option AS :=
  (bI S a0 ((5 : Int32) * a1) a2).bind fun S1 =>
  (bI S1 a0 (((5 : Int32) * a1) + (1 : Int32)) a3).bind fun S2 =>
  (bI S2 a0 (((5 : Int32) * a1) + (2 : Int32)) a4).bind fun S3 =>
  (bI S3 a0 (((5 : Int32) * a1) + (3 : Int32)) a5).bind fun S4 =>
  (bI S4 a0 (((5 : Int32) * a1) + (4 : Int32)) a6).bind fun S5 =>
  some S5
set_option maxRecDepth 20000 in
set_option maxHeartbeats 4000000 in
theorem s_W_steps {S : AS} {a0 : Option Nat} {a1 : Int32} {a2 : Int32} {a3 : Int32} {a4 : Int32} {a5 : Int32} {a6 : Int32} {r : AS} (h : f_W_steps S a0 a1 a2 a3 a4 a5 a6 = some r) : kr_Con m_W_steps 0 [va_rf a0, .int a1, .int a2, .int a3, .int a4, .int a5, .int a6] S (kr_eV r) := by
  refine kr_con rfl rfl (by decide +kernel) (by simp [lg_sl, kr_rfcat, kr_icat, m_W_steps, mL]) ?_
  rw [show lv_args 0 [va_rf a0, .int a1, .int a2, .int a3, .int a4, .int a5, .int a6] = [(0, va_rf a0), (1, .int a1), (2, .int a2), (3, .int a3), (4, .int a4), (5, .int a5), (6, .int a6)] from by simp [lv_args, kr_rfcat, kr_icat]]
  unfold f_W_steps at h
  refine r_aload_n (i := 0) (x := a0) 0 rfl d_W_steps_0 ?_
  refine r_iconst (v := (5 : Int32)) (by decide) d_W_steps_1 ?_
  refine r_iload_n (i := 1) (x := a1) 1 rfl d_W_steps_2 ?_
  refine r_imul d_W_steps_3 ?_
  refine r_iload_n (i := 2) (x := a2) 2 rfl d_W_steps_4 ?_
  have h2 := kr_ob h
  clear h
  obtain ⟨S1, eS1, h⟩ := h2
  refine r_iastore eS1 d_W_steps_5 ?_
  refine r_aload_n (i := 0) (x := a0) 0 rfl d_W_steps_6 ?_
  refine r_iconst (v := (5 : Int32)) (by decide) d_W_steps_7 ?_
  refine r_iload_n (i := 1) (x := a1) 1 rfl d_W_steps_8 ?_
  refine r_imul d_W_steps_9 ?_
  refine r_iconst (v := (1 : Int32)) (by decide) d_W_steps_10 ?_
  refine r_iadd d_W_steps_11 ?_
  refine r_iload_n (i := 3) (x := a3) 3 rfl d_W_steps_12 ?_
  have h2 := kr_ob h
  clear h
  obtain ⟨S2, eS2, h⟩ := h2
  refine r_iastore eS2 d_W_steps_13 ?_
  refine r_aload_n (i := 0) (x := a0) 0 rfl d_W_steps_14 ?_
  refine r_iconst (v := (5 : Int32)) (by decide) d_W_steps_15 ?_
  refine r_iload_n (i := 1) (x := a1) 1 rfl d_W_steps_16 ?_
  refine r_imul d_W_steps_17 ?_
  refine r_iconst (v := (2 : Int32)) (by decide) d_W_steps_18 ?_
  refine r_iadd d_W_steps_19 ?_
  refine r_iload (i := 4) (x := a4) 4 rfl d_W_steps_20 ?_
  have h2 := kr_ob h
  clear h
  obtain ⟨S3, eS3, h⟩ := h2
  refine r_iastore eS3 d_W_steps_22 ?_
  refine r_aload_n (i := 0) (x := a0) 0 rfl d_W_steps_23 ?_
  refine r_iconst (v := (5 : Int32)) (by decide) d_W_steps_24 ?_
  refine r_iload_n (i := 1) (x := a1) 1 rfl d_W_steps_25 ?_
  refine r_imul d_W_steps_26 ?_
  refine r_iconst (v := (3 : Int32)) (by decide) d_W_steps_27 ?_
  refine r_iadd d_W_steps_28 ?_
  refine r_iload (i := 5) (x := a5) 5 rfl d_W_steps_29 ?_
  have h2 := kr_ob h
  clear h
  obtain ⟨S4, eS4, h⟩ := h2
  refine r_iastore eS4 d_W_steps_31 ?_
  refine r_aload_n (i := 0) (x := a0) 0 rfl d_W_steps_32 ?_
  refine r_iconst (v := (5 : Int32)) (by decide) d_W_steps_33 ?_
  refine r_iload_n (i := 1) (x := a1) 1 rfl d_W_steps_34 ?_
  refine r_imul d_W_steps_35 ?_
  refine r_iconst (v := (4 : Int32)) (by decide) d_W_steps_36 ?_
  refine r_iadd d_W_steps_37 ?_
  refine r_iload (i := 6) (x := a6) 6 rfl d_W_steps_38 ?_
  have h2 := kr_ob h
  clear h
  obtain ⟨S5, eS5, h⟩ := h2
  refine r_iastore eS5 d_W_steps_40 ?_
  cases h
  exact r_vret rfl d_W_steps_41
/-! KeyringCourtLaw.some(II)I -/
def f_W_some (S : AS) (a0 : Int32) (a1 : Int32) : Option (Int32 × AS) :=
  (some ((a0.toUInt32 >>> ((2 : Int32).toUInt32 &&& Int32.toUInt32 31)).toInt32)).bind fun i1 =>
  if a1 = 0 then none else
  some (i1 - i1 / a1 * a1, S)
set_option maxRecDepth 20000 in
set_option maxHeartbeats 4000000 in
theorem s_W_some {S : AS} {a0 : Int32} {a1 : Int32} {r : (Int32 × AS)} (h : f_W_some S a0 a1 = some r) : kr_Con m_W_some 0 [.int a0, .int a1] S (kr_eI r) := by
  refine kr_con rfl rfl (by decide +kernel) (by simp [lg_sl, kr_rfcat, kr_icat, m_W_some, mL]) ?_
  rw [show lv_args 0 [.int a0, .int a1] = [(0, .int a0), (1, .int a1)] from by simp [lv_args, kr_rfcat, kr_icat]]
  unfold f_W_some at h
  refine r_iload_n (i := 0) (x := a0) 0 rfl d_W_some_0 ?_
  refine r_iconst (v := (2 : Int32)) (by decide) d_W_some_1 ?_
  refine r_iushr d_W_some_2 ?_
  refine r_iload_n (i := 1) (x := a1) 1 rfl d_W_some_3 ?_
  have h2 := kr_ob h
  clear h
  obtain ⟨i1, ei1, h⟩ := h2
  refine kr_nmI2 ei1 ?_
  by_cases c2 : a1 = 0
  · replace h := kr_ip c2 h
    cases h
  replace h := kr_in_ c2 h
  refine r_irem c2 d_W_some_4 ?_
  cases h
  exact r_iret rfl d_W_some_5
/-! KeyringCourtLaw.none(LKeyringCourt;II)I -/
def f_W_none (S : AS) (a0 : Option Nat) (a1 : Int32) (a2 : Int32) : Option (Int32 × AS) :=
  if a1 = 0 then
  (kr_rv S 22 a0).bind fun u1 =>
  kr_bh (f_K_pass S a0 a2) (fun E S2 => if E = "java/lang/IllegalArgumentException" then
  some ((-1002 : Int32), S2)
  else if E = "java/lang/IllegalStateException" then
  some ((-1003 : Int32), S2)
  else none) fun v3 S2 =>
  some (v3, S2)
  else
  if a1 = (1 : Int32) then
  (kr_rv S 22 a0).bind fun u4 =>
  kr_bh (f_K_turn S a0) (fun E S5 => if E = "java/lang/IllegalArgumentException" then
  some ((-1002 : Int32), S5)
  else if E = "java/lang/IllegalStateException" then
  some ((-1003 : Int32), S5)
  else none) fun v6 S5 =>
  some (v6, S5)
  else
  if a1 = (2 : Int32) then
  (kr_rv S 22 a0).bind fun u7 =>
  kr_bh (f_K_emergency S a0) (fun E S8 => if E = "java/lang/IllegalArgumentException" then
  some ((-1002 : Int32), S8)
  else if E = "java/lang/IllegalStateException" then
  some ((-1003 : Int32), S8)
  else none) fun v9 S8 =>
  some (v9, S8)
  else
  if a1 = (3 : Int32) then
  (kr_rv S 22 a0).bind fun u10 =>
  kr_b2 (f_K_signing S a0) fun v12 S11 =>
  some (v12, S11)
  else
  if a1 = (4 : Int32) then
  (kr_rv S 22 a0).bind fun u13 =>
  kr_b2 (f_K_audits S a0) fun v15 S14 =>
  some (v15, S14)
  else
  if a1 = (5 : Int32) then
  (kr_rv S 22 a0).bind fun u16 =>
  kr_b2 (f_K_sum S a0) fun v18 S17 =>
  some (v18, S17)
  else
  if a1 = (6 : Int32) then
  (kr_rv S 22 a0).bind fun u19 =>
  kr_b2 (f_K_sessions S a0) fun v21 S20 =>
  some (v21, S20)
  else
  if a1 = (7 : Int32) then
  (kr_rv S 22 a0).bind fun u22 =>
  kr_b2 (f_K_clear S a0) fun v24 S23 =>
  some (v24, S23)
  else
  (kr_rv S 22 a0).bind fun u25 =>
  kr_bh (f_K_publish S a0) (fun E S26 => if E = "java/lang/IllegalArgumentException" then
  some ((-1002 : Int32), S26)
  else if E = "java/lang/IllegalStateException" then
  some ((-1003 : Int32), S26)
  else none) fun v27 S26 =>
  some (v27, S26)
def gg_W_none (S : AS) (w a0 : Int32) : AS := if w = (0 : Int32) then gmo S (f_M_pass S (some 57) a0) else if w = (1 : Int32) then gmo S (f_M_turn S (some 57)) else if w = (2 : Int32) then gmo S (f_M_emergency S (some 57)) else if w = (3 : Int32) then gmo S (f_M_signing S (some 57)) else if w = (4 : Int32) then gmo S (f_M_audits S (some 57)) else if w = (5 : Int32) then gmo S (f_M_sum S (some 57)) else if w = (6 : Int32) then gmo S (f_M_sessions S (some 57)) else if w = (7 : Int32) then gmo S (f_M_clear S (some 57)) else gmo S (f_M_publish S (some 57))
def f_W_noneg (S : AS) (a0 : Option Nat) (a1 a2 : Int32) : Option (Int32 × AS) := kr_b2 (f_W_none S a0 a1 a2) fun v S1 => some (v, gg_W_none S1 a1 a2)
set_option maxRecDepth 20000 in
set_option maxHeartbeats 4000000 in
theorem s_W_none {S : AS} {a0 : Option Nat} {a1 : Int32} {a2 : Int32} {r : (Int32 × AS)} (h : f_W_none S a0 a1 a2 = some r) : kr_AW m_W_none 13 0 [(0, va_rf a0), (1, .int a1), (2, .int a2)] [] S (kr_eI r) := by
  unfold f_W_none at h
  refine r_iload_n (i := 1) (x := a1) 1 rfl d_W_none_0 ?_
  refine r_if_ne (tgt := 12) d_W_none_1 rfl (fun c => ?_) (fun c => ?_)
  · replace h := kr_ip c h
    refine r_aload_n (i := 0) (x := a0) 0 rfl d_W_none_4 ?_
    refine r_iload_n (i := 2) (x := a2) 2 rfl d_W_none_5 ?_
    have h2 := kr_ob h
    clear h
    obtain ⟨⟨⟩, eu1, h⟩ := h2
    rcases kr_obh h with ⟨v3, S2, eS2, h2⟩ | ⟨E, S2, eS2, h2⟩
    · clear h
      have h := h2
      clear h2
      refine r_callV (M1 := m_K_pass) (κ := 22) (As := [.int a2]) eu1 (s_K_pass eS2) mok_K_pass rfl (by decide) rfl w319 w320 w321 (by decide) (kr_c8 kr_c0) d_W_none_6 (kr_k1 ?_) kr_kn
      refine r_goto (tgt := 102) d_W_none_9 rfl ?_
      cases h
      exact r_iret rfl d_W_none_102
    · by_cases c0 : E = "java/lang/IllegalArgumentException"
      · subst c0
        replace h2 := kr_ip rfl h2
        clear h
        have h := h2
        clear h2
        refine r_callV (M1 := m_K_pass) (κ := 22) (As := [.int a2]) eu1 (s_K_pass eS2) mok_K_pass rfl (by decide) rfl w319 w320 w321 (by decide) (kr_c8 kr_c0) d_W_none_6 kr_nk (kr_kx ?_)
        refine r_catch_n (hd := (0, 102, 103, 79)) [] [(0, 102, 108, 81)] ⟨rfl, (fun _ hz => nomatch hz), ⟨by decide, by decide⟩, by decide, w317, w331⟩ (i := 3) (lv' := [(0, va_rf a0), (1, .int a1), (2, .int a2)]) rfl (by decide) d_W_none_103 ?_
        refine r_sipush (v := (-1002 : Int32)) (by decide) d_W_none_104 ?_
        cases h
        exact r_iret rfl d_W_none_107
      replace h2 := kr_in_ c0 h2
      by_cases c1 : E = "java/lang/IllegalStateException"
      · subst c1
        replace h2 := kr_ip rfl h2
        clear h
        have h := h2
        clear h2
        refine r_callV (M1 := m_K_pass) (κ := 22) (As := [.int a2]) eu1 (s_K_pass eS2) mok_K_pass rfl (by decide) rfl w319 w320 w321 (by decide) (kr_c8 kr_c0) d_W_none_6 kr_nk (kr_kx ?_)
        refine r_catch_n (hd := (0, 102, 108, 81)) [(0, 102, 103, 79)] [] ⟨rfl, (kr_pre ⟨"java/lang/IllegalArgumentException", by decide, w317, by decide⟩ (fun _ hz => nomatch hz)), ⟨by decide, by decide⟩, by decide, w318, w397⟩ (i := 3) (lv' := [(0, va_rf a0), (1, .int a1), (2, .int a2)]) rfl (by decide) d_W_none_108 ?_
        refine r_sipush (v := (-1003 : Int32)) (by decide) d_W_none_109 ?_
        cases h
        exact r_iret rfl d_W_none_112
      replace h2 := kr_in_ c1 h2
      cases h2
  · replace h := kr_in_ c h
    refine r_iload_n (i := 1) (x := a1) 1 rfl d_W_none_12 ?_
    refine r_iconst (v := (1 : Int32)) (by decide) d_W_none_13 ?_
    refine r_icmp_ne (tgt := 24) d_W_none_14 rfl (fun c => ?_) (fun c => ?_)
    · replace h := kr_ip c h
      refine r_aload_n (i := 0) (x := a0) 0 rfl d_W_none_17 ?_
      have h2 := kr_ob h
      clear h
      obtain ⟨⟨⟩, eu4, h⟩ := h2
      rcases kr_obh h with ⟨v6, S5, eS5, h2⟩ | ⟨E, S5, eS5, h2⟩
      · clear h
        have h := h2
        clear h2
        refine r_callV (M1 := m_K_turn) (κ := 22) (As := []) eu4 (s_K_turn eS5) mok_K_turn rfl (by decide) rfl w505 w506 w507 (by decide) (kr_c8 kr_c0) d_W_none_18 (kr_k1 ?_) kr_kn
        refine r_goto (tgt := 102) d_W_none_21 rfl ?_
        cases h
        exact r_iret rfl d_W_none_102
      · by_cases c0 : E = "java/lang/IllegalArgumentException"
        · subst c0
          replace h2 := kr_ip rfl h2
          clear h
          have h := h2
          clear h2
          refine r_callV (M1 := m_K_turn) (κ := 22) (As := []) eu4 (s_K_turn eS5) mok_K_turn rfl (by decide) rfl w505 w506 w507 (by decide) (kr_c8 kr_c0) d_W_none_18 kr_nk (kr_kx ?_)
          refine r_catch_n (hd := (0, 102, 103, 79)) [] [(0, 102, 108, 81)] ⟨rfl, (fun _ hz => nomatch hz), ⟨by decide, by decide⟩, by decide, w317, w331⟩ (i := 3) (lv' := [(0, va_rf a0), (1, .int a1), (2, .int a2)]) rfl (by decide) d_W_none_103 ?_
          refine r_sipush (v := (-1002 : Int32)) (by decide) d_W_none_104 ?_
          cases h
          exact r_iret rfl d_W_none_107
        replace h2 := kr_in_ c0 h2
        by_cases c1 : E = "java/lang/IllegalStateException"
        · subst c1
          replace h2 := kr_ip rfl h2
          clear h
          have h := h2
          clear h2
          refine r_callV (M1 := m_K_turn) (κ := 22) (As := []) eu4 (s_K_turn eS5) mok_K_turn rfl (by decide) rfl w505 w506 w507 (by decide) (kr_c8 kr_c0) d_W_none_18 kr_nk (kr_kx ?_)
          refine r_catch_n (hd := (0, 102, 108, 81)) [(0, 102, 103, 79)] [] ⟨rfl, (kr_pre ⟨"java/lang/IllegalArgumentException", by decide, w317, by decide⟩ (fun _ hz => nomatch hz)), ⟨by decide, by decide⟩, by decide, w318, w397⟩ (i := 3) (lv' := [(0, va_rf a0), (1, .int a1), (2, .int a2)]) rfl (by decide) d_W_none_108 ?_
          refine r_sipush (v := (-1003 : Int32)) (by decide) d_W_none_109 ?_
          cases h
          exact r_iret rfl d_W_none_112
        replace h2 := kr_in_ c1 h2
        cases h2
    · replace h := kr_in_ c h
      refine r_iload_n (i := 1) (x := a1) 1 rfl d_W_none_24 ?_
      refine r_iconst (v := (2 : Int32)) (by decide) d_W_none_25 ?_
      refine r_icmp_ne (tgt := 36) d_W_none_26 rfl (fun c => ?_) (fun c => ?_)
      · replace h := kr_ip c h
        refine r_aload_n (i := 0) (x := a0) 0 rfl d_W_none_29 ?_
        have h2 := kr_ob h
        clear h
        obtain ⟨⟨⟩, eu7, h⟩ := h2
        rcases kr_obh h with ⟨v9, S8, eS8, h2⟩ | ⟨E, S8, eS8, h2⟩
        · clear h
          have h := h2
          clear h2
          refine r_callV (M1 := m_K_emergency) (κ := 22) (As := []) eu7 (s_K_emergency eS8) mok_K_emergency rfl (by decide) rfl w517 w518 w519 (by decide) (kr_c8 kr_c0) d_W_none_30 (kr_k1 ?_) kr_kn
          refine r_goto (tgt := 102) d_W_none_33 rfl ?_
          cases h
          exact r_iret rfl d_W_none_102
        · by_cases c0 : E = "java/lang/IllegalArgumentException"
          · subst c0
            replace h2 := kr_ip rfl h2
            clear h
            have h := h2
            clear h2
            refine r_callV (M1 := m_K_emergency) (κ := 22) (As := []) eu7 (s_K_emergency eS8) mok_K_emergency rfl (by decide) rfl w517 w518 w519 (by decide) (kr_c8 kr_c0) d_W_none_30 kr_nk (kr_kx ?_)
            refine r_catch_n (hd := (0, 102, 103, 79)) [] [(0, 102, 108, 81)] ⟨rfl, (fun _ hz => nomatch hz), ⟨by decide, by decide⟩, by decide, w317, w331⟩ (i := 3) (lv' := [(0, va_rf a0), (1, .int a1), (2, .int a2)]) rfl (by decide) d_W_none_103 ?_
            refine r_sipush (v := (-1002 : Int32)) (by decide) d_W_none_104 ?_
            cases h
            exact r_iret rfl d_W_none_107
          replace h2 := kr_in_ c0 h2
          by_cases c1 : E = "java/lang/IllegalStateException"
          · subst c1
            replace h2 := kr_ip rfl h2
            clear h
            have h := h2
            clear h2
            refine r_callV (M1 := m_K_emergency) (κ := 22) (As := []) eu7 (s_K_emergency eS8) mok_K_emergency rfl (by decide) rfl w517 w518 w519 (by decide) (kr_c8 kr_c0) d_W_none_30 kr_nk (kr_kx ?_)
            refine r_catch_n (hd := (0, 102, 108, 81)) [(0, 102, 103, 79)] [] ⟨rfl, (kr_pre ⟨"java/lang/IllegalArgumentException", by decide, w317, by decide⟩ (fun _ hz => nomatch hz)), ⟨by decide, by decide⟩, by decide, w318, w397⟩ (i := 3) (lv' := [(0, va_rf a0), (1, .int a1), (2, .int a2)]) rfl (by decide) d_W_none_108 ?_
            refine r_sipush (v := (-1003 : Int32)) (by decide) d_W_none_109 ?_
            cases h
            exact r_iret rfl d_W_none_112
          replace h2 := kr_in_ c1 h2
          cases h2
      · replace h := kr_in_ c h
        refine r_iload_n (i := 1) (x := a1) 1 rfl d_W_none_36 ?_
        refine r_iconst (v := (3 : Int32)) (by decide) d_W_none_37 ?_
        refine r_icmp_ne (tgt := 48) d_W_none_38 rfl (fun c => ?_) (fun c => ?_)
        · replace h := kr_ip c h
          refine r_aload_n (i := 0) (x := a0) 0 rfl d_W_none_41 ?_
          have h2 := kr_ob h
          clear h
          obtain ⟨⟨⟩, eu10, h⟩ := h2
          have h2 := kr_ob2 h
          clear h
          obtain ⟨v12, S11, eS11, h⟩ := h2
          refine r_callV (M1 := m_K_signing) (κ := 22) (As := []) eu10 (s_K_signing eS11) mok_K_signing rfl (by decide) rfl w525 w526 w527 (by decide) (kr_c8 kr_c0) d_W_none_42 (kr_k1 ?_) kr_kn
          refine r_goto (tgt := 102) d_W_none_45 rfl ?_
          cases h
          exact r_iret rfl d_W_none_102
        · replace h := kr_in_ c h
          refine r_iload_n (i := 1) (x := a1) 1 rfl d_W_none_48 ?_
          refine r_iconst (v := (4 : Int32)) (by decide) d_W_none_49 ?_
          refine r_icmp_ne (tgt := 60) d_W_none_50 rfl (fun c => ?_) (fun c => ?_)
          · replace h := kr_ip c h
            refine r_aload_n (i := 0) (x := a0) 0 rfl d_W_none_53 ?_
            have h2 := kr_ob h
            clear h
            obtain ⟨⟨⟩, eu13, h⟩ := h2
            have h2 := kr_ob2 h
            clear h
            obtain ⟨v15, S14, eS14, h⟩ := h2
            refine r_callV (M1 := m_K_audits) (κ := 22) (As := []) eu13 (s_K_audits eS14) mok_K_audits rfl (by decide) rfl w529 w530 w531 (by decide) (kr_c8 kr_c0) d_W_none_54 (kr_k1 ?_) kr_kn
            refine r_goto (tgt := 102) d_W_none_57 rfl ?_
            cases h
            exact r_iret rfl d_W_none_102
          · replace h := kr_in_ c h
            refine r_iload_n (i := 1) (x := a1) 1 rfl d_W_none_60 ?_
            refine r_iconst (v := (5 : Int32)) (by decide) d_W_none_61 ?_
            refine r_icmp_ne (tgt := 72) d_W_none_62 rfl (fun c => ?_) (fun c => ?_)
            · replace h := kr_ip c h
              refine r_aload_n (i := 0) (x := a0) 0 rfl d_W_none_65 ?_
              have h2 := kr_ob h
              clear h
              obtain ⟨⟨⟩, eu16, h⟩ := h2
              have h2 := kr_ob2 h
              clear h
              obtain ⟨v18, S17, eS17, h⟩ := h2
              refine r_callV (M1 := m_K_sum) (κ := 22) (As := []) eu16 (s_K_sum eS17) mok_K_sum rfl (by decide) rfl w533 w534 w535 (by decide) (kr_c8 kr_c0) d_W_none_66 (kr_k1 ?_) kr_kn
              refine r_goto (tgt := 102) d_W_none_69 rfl ?_
              cases h
              exact r_iret rfl d_W_none_102
            · replace h := kr_in_ c h
              refine r_iload_n (i := 1) (x := a1) 1 rfl d_W_none_72 ?_
              refine r_bipush (v := (6 : Int32)) (by decide) d_W_none_73 ?_
              refine r_icmp_ne (tgt := 85) d_W_none_75 rfl (fun c => ?_) (fun c => ?_)
              · replace h := kr_ip c h
                refine r_aload_n (i := 0) (x := a0) 0 rfl d_W_none_78 ?_
                have h2 := kr_ob h
                clear h
                obtain ⟨⟨⟩, eu19, h⟩ := h2
                have h2 := kr_ob2 h
                clear h
                obtain ⟨v21, S20, eS20, h⟩ := h2
                refine r_callV (M1 := m_K_sessions) (κ := 22) (As := []) eu19 (s_K_sessions eS20) mok_K_sessions rfl (by decide) rfl w537 w538 w539 (by decide) (kr_c8 kr_c0) d_W_none_79 (kr_k1 ?_) kr_kn
                refine r_goto (tgt := 102) d_W_none_82 rfl ?_
                cases h
                exact r_iret rfl d_W_none_102
              · replace h := kr_in_ c h
                refine r_iload_n (i := 1) (x := a1) 1 rfl d_W_none_85 ?_
                refine r_bipush (v := (7 : Int32)) (by decide) d_W_none_86 ?_
                refine r_icmp_ne (tgt := 98) d_W_none_88 rfl (fun c => ?_) (fun c => ?_)
                · replace h := kr_ip c h
                  refine r_aload_n (i := 0) (x := a0) 0 rfl d_W_none_91 ?_
                  have h2 := kr_ob h
                  clear h
                  obtain ⟨⟨⟩, eu22, h⟩ := h2
                  have h2 := kr_ob2 h
                  clear h
                  obtain ⟨v24, S23, eS23, h⟩ := h2
                  refine r_callV (M1 := m_K_clear) (κ := 22) (As := []) eu22 (s_K_clear eS23) mok_K_clear rfl (by decide) rfl w541 w542 w543 (by decide) (kr_c8 kr_c0) d_W_none_92 (kr_k1 ?_) kr_kn
                  refine r_goto (tgt := 102) d_W_none_95 rfl ?_
                  cases h
                  exact r_iret rfl d_W_none_102
                · replace h := kr_in_ c h
                  refine r_aload_n (i := 0) (x := a0) 0 rfl d_W_none_98 ?_
                  have h2 := kr_ob h
                  clear h
                  obtain ⟨⟨⟩, eu25, h⟩ := h2
                  rcases kr_obh h with ⟨v27, S26, eS26, h2⟩ | ⟨E, S26, eS26, h2⟩
                  · clear h
                    have h := h2
                    clear h2
                    refine r_callV (M1 := m_K_publish) (κ := 22) (As := []) eu25 (s_K_publish eS26) mok_K_publish rfl (by decide) rfl w545 w546 w547 (by decide) (kr_c8 kr_c0) d_W_none_99 (kr_k1 ?_) kr_kn
                    cases h
                    exact r_iret rfl d_W_none_102
                  · by_cases c0 : E = "java/lang/IllegalArgumentException"
                    · subst c0
                      replace h2 := kr_ip rfl h2
                      clear h
                      have h := h2
                      clear h2
                      refine r_callV (M1 := m_K_publish) (κ := 22) (As := []) eu25 (s_K_publish eS26) mok_K_publish rfl (by decide) rfl w545 w546 w547 (by decide) (kr_c8 kr_c0) d_W_none_99 kr_nk (kr_kx ?_)
                      refine r_catch_n (hd := (0, 102, 103, 79)) [] [(0, 102, 108, 81)] ⟨rfl, (fun _ hz => nomatch hz), ⟨by decide, by decide⟩, by decide, w317, w331⟩ (i := 3) (lv' := [(0, va_rf a0), (1, .int a1), (2, .int a2)]) rfl (by decide) d_W_none_103 ?_
                      refine r_sipush (v := (-1002 : Int32)) (by decide) d_W_none_104 ?_
                      cases h
                      exact r_iret rfl d_W_none_107
                    replace h2 := kr_in_ c0 h2
                    by_cases c1 : E = "java/lang/IllegalStateException"
                    · subst c1
                      replace h2 := kr_ip rfl h2
                      clear h
                      have h := h2
                      clear h2
                      refine r_callV (M1 := m_K_publish) (κ := 22) (As := []) eu25 (s_K_publish eS26) mok_K_publish rfl (by decide) rfl w545 w546 w547 (by decide) (kr_c8 kr_c0) d_W_none_99 kr_nk (kr_kx ?_)
                      refine r_catch_n (hd := (0, 102, 108, 81)) [(0, 102, 103, 79)] [] ⟨rfl, (kr_pre ⟨"java/lang/IllegalArgumentException", by decide, w317, by decide⟩ (fun _ hz => nomatch hz)), ⟨by decide, by decide⟩, by decide, w318, w397⟩ (i := 3) (lv' := [(0, va_rf a0), (1, .int a1), (2, .int a2)]) rfl (by decide) d_W_none_108 ?_
                      refine r_sipush (v := (-1003 : Int32)) (by decide) d_W_none_109 ?_
                      cases h
                      exact r_iret rfl d_W_none_112
                    replace h2 := kr_in_ c1 h2
                    cases h2
theorem gg_W_none_gs {S : AS} {w a0 : Int32} : gs S (gg_W_none S w a0) := gs_if gmo_gs (gs_if gmo_gs (gs_if gmo_gs (gs_if gmo_gs (gs_if gmo_gs (gs_if gmo_gs (gs_if gmo_gs (gs_if gmo_gs (gmo_gs))))))))
theorem s_W_noneg {S : AS} {a0 : Option Nat} {a1 a2 : Int32} {r : Int32 × AS} (h : f_W_noneg S a0 a1 a2 = some r) : kr_Con m_W_none 13 [va_rf a0, .int a1, .int a2] S (kr_eI r) := by
  unfold f_W_noneg at h
  obtain ⟨v, S1, e, h⟩ := kr_ob2 h
  cases h
  refine kr_conH rfl (by decide) (by decide +kernel) (by simp [lg_sl, kr_rfcat, kr_icat, m_W_none, mL]) ?_
  rw [show lv_args 0 [va_rf a0, .int a1, .int a2] = [(0, va_rf a0), (1, .int a1), (2, .int a2)] from by simp [lv_args, kr_rfcat, kr_icat]]
  exact kr_AWg (s_W_none e) gg_W_none_gs
/-! KeyringCourtLaw.three(LKeyringCourt;IIII)I -/
def f_W_three_B79 (S : AS) (x4 : Int32) (y0 : Option Nat) (y1 : Int32) (y2 : Int32) : Option (Int32 × AS) :=
  (kr_rv S 22 y0).bind fun u1 =>
  kr_bh (f_K_answer S y0 y1 y2 x4) (fun E S2 => if E = "java/lang/IndexOutOfBoundsException" then
  some ((-1001 : Int32), S2)
  else if E = "java/lang/IllegalArgumentException" then
  some ((-1002 : Int32), S2)
  else if E = "java/lang/IllegalStateException" then
  some ((-1003 : Int32), S2)
  else none) fun v3 S2 =>
  some (v3, S2)
def f_W_three_B101 (S : AS) (y0 : Option Nat) (y1 : Int32) (y2 : Int32) (y3 : Int32) : Option (Int32 × AS) :=
  (kr_rv S 22 y0).bind fun u4 =>
  kr_bh (f_K_points S y0 y1 y2 y3) (fun E S5 => if E = "java/lang/IndexOutOfBoundsException" then
  some ((-1001 : Int32), S5)
  else if E = "java/lang/IllegalArgumentException" then
  some ((-1002 : Int32), S5)
  else if E = "java/lang/IllegalStateException" then
  some ((-1003 : Int32), S5)
  else none) fun v6 S5 =>
  some (v6, S5)
def f_W_three (S : AS) (a0 : Option Nat) (a1 : Int32) (a2 : Int32) (a3 : Int32) (a4 : Int32) : Option (Int32 × AS) :=
  if a1 = 0 then
  (kr_rv S 22 a0).bind fun u7 =>
  kr_bh (f_K_begin S a0 a2 a3 a4) (fun E S8 => if E = "java/lang/IndexOutOfBoundsException" then
  some ((-1001 : Int32), S8)
  else if E = "java/lang/IllegalArgumentException" then
  some ((-1002 : Int32), S8)
  else if E = "java/lang/IllegalStateException" then
  some ((-1003 : Int32), S8)
  else none) fun v9 S8 =>
  some (v9, S8)
  else
  if a1 = (1 : Int32) then
  (kr_rv S 22 a0).bind fun u10 =>
  kr_bh (f_K_consent S a0 a2 a3 a4) (fun E S11 => if E = "java/lang/IndexOutOfBoundsException" then
  some ((-1001 : Int32), S11)
  else if E = "java/lang/IllegalArgumentException" then
  some ((-1002 : Int32), S11)
  else if E = "java/lang/IllegalStateException" then
  some ((-1003 : Int32), S11)
  else none) fun v12 S11 =>
  some (v12, S11)
  else
  if a1 = (2 : Int32) then
  (kr_rv S 22 a0).bind fun u13 =>
  kr_bh (f_K_exchange S a0 a2 a3 a4) (fun E S14 => if E = "java/lang/IndexOutOfBoundsException" then
  some ((-1001 : Int32), S14)
  else if E = "java/lang/IllegalArgumentException" then
  some ((-1002 : Int32), S14)
  else if E = "java/lang/IllegalStateException" then
  some ((-1003 : Int32), S14)
  else none) fun v15 S14 =>
  some (v15, S14)
  else
  if a1 = (3 : Int32) then
  (kr_rv S 22 a0).bind fun u16 =>
  kr_bh (f_K_check S a0 a2 a3 a4) (fun E S17 => if E = "java/lang/IndexOutOfBoundsException" then
  some ((-1001 : Int32), S17)
  else if E = "java/lang/IllegalArgumentException" then
  some ((-1002 : Int32), S17)
  else if E = "java/lang/IllegalStateException" then
  some ((-1003 : Int32), S17)
  else none) fun v18 S17 =>
  some (v18, S17)
  else
  if a1 = (4 : Int32) then
  if a3 ≤ 0 then
  f_W_three_B79 S a4 a0 a2 (0 : Int32)
  else
  f_W_three_B79 S a4 a0 a2 (1 : Int32)
  else
  if a1 = (6 : Int32) then
  f_W_three_B101 S a0 a2 a3 (1 : Int32)
  else
  f_W_three_B101 S a0 a2 a3 (0 : Int32)
def gg_W_three (S : AS) (w a0 a1 a2 : Int32) : AS := if w = (0 : Int32) then gmo S (f_M_begin S (some 57) a0 a1 a2) else if w = (1 : Int32) then gmo S (f_M_consent S (some 57) a0 a1 a2) else if w = (2 : Int32) then gmo S (f_M_exchange S (some 57) a0 a1 a2) else if w = (3 : Int32) then gmo S (f_M_check S (some 57) a0 a1 a2) else if w = (4 : Int32) then gmo S (f_M_answer S (some 57) a0 (if 0 < a1 then 1 else 0) a2) else gmo S (f_M_points S (some 57) a0 a1 (if w = 6 then 1 else 0))
def f_W_threeg (S : AS) (a0 : Option Nat) (a1 a2 a3 a4 : Int32) : Option (Int32 × AS) := kr_b2 (f_W_three S a0 a1 a2 a3 a4) fun v S1 => some (v, gg_W_three S1 a1 a2 a3 a4)
set_option maxRecDepth 20000 in
set_option maxHeartbeats 4000000 in
theorem s_W_three_B79 {S : AS} {x4 : Int32} {y0 : Option Nat} {y1 : Int32} {y2 : Int32} {r : (Int32 × AS)} (h : f_W_three_B79 S x4 y0 y1 y2 = some r) : kr_AW m_W_three 12 79 [(4, .int x4)] [.int y2, .int y1, va_rf y0] S (kr_eI r) := by
  unfold f_W_three_B79 at h
  refine r_iload (i := 4) (x := x4) 0 rfl d_W_three_79 ?_
  have h2 := kr_ob h
  clear h
  obtain ⟨⟨⟩, eu1, h⟩ := h2
  rcases kr_obh h with ⟨v3, S2, eS2, h2⟩ | ⟨E, S2, eS2, h2⟩
  · clear h
    have h := h2
    clear h2
    refine r_callV (M1 := m_K_answer) (κ := 22) (As := [.int y1, .int y2, .int x4]) eu1 (s_K_answer eS2) mok_K_answer rfl (by decide) rfl w883 w884 w885 (by decide) (kr_c8 kr_c0) d_W_three_81 (kr_k1 ?_) kr_kn
    refine r_goto (tgt := 104) d_W_three_84 rfl ?_
    cases h
    exact r_iret rfl d_W_three_104
  · by_cases c0 : E = "java/lang/IndexOutOfBoundsException"
    · subst c0
      replace h2 := kr_ip rfl h2
      clear h
      have h := h2
      clear h2
      refine r_callV (M1 := m_K_answer) (κ := 22) (As := [.int y1, .int y2, .int x4]) eu1 (s_K_answer eS2) mok_K_answer rfl (by decide) rfl w883 w884 w885 (by decide) (kr_c8 kr_c0) d_W_three_81 kr_nk (kr_kx ?_)
      refine r_catch (hd := (0, 104, 105, 138)) [] [(0, 104, 111, 79), (0, 104, 117, 81)] ⟨rfl, (fun _ hz => nomatch hz), ⟨by decide, by decide⟩, by decide, w648, w485⟩ (i := 5) (lv' := [(4, .int x4)]) rfl (by decide) d_W_three_105 ?_
      refine r_sipush (v := (-1001 : Int32)) (by decide) d_W_three_107 ?_
      cases h
      exact r_iret rfl d_W_three_110
    replace h2 := kr_in_ c0 h2
    by_cases c1 : E = "java/lang/IllegalArgumentException"
    · subst c1
      replace h2 := kr_ip rfl h2
      clear h
      have h := h2
      clear h2
      refine r_callV (M1 := m_K_answer) (κ := 22) (As := [.int y1, .int y2, .int x4]) eu1 (s_K_answer eS2) mok_K_answer rfl (by decide) rfl w883 w884 w885 (by decide) (kr_c8 kr_c0) d_W_three_81 kr_nk (kr_kx ?_)
      refine r_catch (hd := (0, 104, 111, 79)) [(0, 104, 105, 138)] [(0, 104, 117, 81)] ⟨rfl, (kr_pre ⟨"java/lang/IndexOutOfBoundsException", by decide, w648, by decide⟩ (fun _ hz => nomatch hz)), ⟨by decide, by decide⟩, by decide, w317, w331⟩ (i := 5) (lv' := [(4, .int x4)]) rfl (by decide) d_W_three_111 ?_
      refine r_sipush (v := (-1002 : Int32)) (by decide) d_W_three_113 ?_
      cases h
      exact r_iret rfl d_W_three_116
    replace h2 := kr_in_ c1 h2
    by_cases c2 : E = "java/lang/IllegalStateException"
    · subst c2
      replace h2 := kr_ip rfl h2
      clear h
      have h := h2
      clear h2
      refine r_callV (M1 := m_K_answer) (κ := 22) (As := [.int y1, .int y2, .int x4]) eu1 (s_K_answer eS2) mok_K_answer rfl (by decide) rfl w883 w884 w885 (by decide) (kr_c8 kr_c0) d_W_three_81 kr_nk (kr_kx ?_)
      refine r_catch (hd := (0, 104, 117, 81)) [(0, 104, 105, 138), (0, 104, 111, 79)] [] ⟨rfl, (kr_pre ⟨"java/lang/IndexOutOfBoundsException", by decide, w648, by decide⟩ (kr_pre ⟨"java/lang/IllegalArgumentException", by decide, w317, by decide⟩ (fun _ hz => nomatch hz))), ⟨by decide, by decide⟩, by decide, w318, w397⟩ (i := 5) (lv' := [(4, .int x4)]) rfl (by decide) d_W_three_117 ?_
      refine r_sipush (v := (-1003 : Int32)) (by decide) d_W_three_119 ?_
      cases h
      exact r_iret rfl d_W_three_122
    replace h2 := kr_in_ c2 h2
    cases h2
set_option maxRecDepth 20000 in
set_option maxHeartbeats 4000000 in
theorem s_W_three_B101 {S : AS} {y0 : Option Nat} {y1 : Int32} {y2 : Int32} {y3 : Int32} {r : (Int32 × AS)} (h : f_W_three_B101 S y0 y1 y2 y3 = some r) : kr_AW m_W_three 12 101 [] [.int y3, .int y2, .int y1, va_rf y0] S (kr_eI r) := by
  unfold f_W_three_B101 at h
  have h2 := kr_ob h
  clear h
  obtain ⟨⟨⟩, eu4, h⟩ := h2
  rcases kr_obh h with ⟨v6, S5, eS5, h2⟩ | ⟨E, S5, eS5, h2⟩
  · clear h
    have h := h2
    clear h2
    refine r_callV (M1 := m_K_points) (κ := 22) (As := [.int y1, .int y2, .int y3]) eu4 (s_K_points eS5) mok_K_points rfl (by decide) rfl w915 w916 w917 (by decide) (kr_c8 kr_c0) d_W_three_101 (kr_k1 ?_) kr_kn
    cases h
    exact r_iret rfl d_W_three_104
  · by_cases c0 : E = "java/lang/IndexOutOfBoundsException"
    · subst c0
      replace h2 := kr_ip rfl h2
      clear h
      have h := h2
      clear h2
      refine r_callV (M1 := m_K_points) (κ := 22) (As := [.int y1, .int y2, .int y3]) eu4 (s_K_points eS5) mok_K_points rfl (by decide) rfl w915 w916 w917 (by decide) (kr_c8 kr_c0) d_W_three_101 kr_nk (kr_kx ?_)
      refine r_catch (hd := (0, 104, 105, 138)) [] [(0, 104, 111, 79), (0, 104, 117, 81)] ⟨rfl, (fun _ hz => nomatch hz), ⟨by decide, by decide⟩, by decide, w648, w485⟩ (i := 5) (lv' := []) rfl (by decide) d_W_three_105 ?_
      refine r_sipush (v := (-1001 : Int32)) (by decide) d_W_three_107 ?_
      cases h
      exact r_iret rfl d_W_three_110
    replace h2 := kr_in_ c0 h2
    by_cases c1 : E = "java/lang/IllegalArgumentException"
    · subst c1
      replace h2 := kr_ip rfl h2
      clear h
      have h := h2
      clear h2
      refine r_callV (M1 := m_K_points) (κ := 22) (As := [.int y1, .int y2, .int y3]) eu4 (s_K_points eS5) mok_K_points rfl (by decide) rfl w915 w916 w917 (by decide) (kr_c8 kr_c0) d_W_three_101 kr_nk (kr_kx ?_)
      refine r_catch (hd := (0, 104, 111, 79)) [(0, 104, 105, 138)] [(0, 104, 117, 81)] ⟨rfl, (kr_pre ⟨"java/lang/IndexOutOfBoundsException", by decide, w648, by decide⟩ (fun _ hz => nomatch hz)), ⟨by decide, by decide⟩, by decide, w317, w331⟩ (i := 5) (lv' := []) rfl (by decide) d_W_three_111 ?_
      refine r_sipush (v := (-1002 : Int32)) (by decide) d_W_three_113 ?_
      cases h
      exact r_iret rfl d_W_three_116
    replace h2 := kr_in_ c1 h2
    by_cases c2 : E = "java/lang/IllegalStateException"
    · subst c2
      replace h2 := kr_ip rfl h2
      clear h
      have h := h2
      clear h2
      refine r_callV (M1 := m_K_points) (κ := 22) (As := [.int y1, .int y2, .int y3]) eu4 (s_K_points eS5) mok_K_points rfl (by decide) rfl w915 w916 w917 (by decide) (kr_c8 kr_c0) d_W_three_101 kr_nk (kr_kx ?_)
      refine r_catch (hd := (0, 104, 117, 81)) [(0, 104, 105, 138), (0, 104, 111, 79)] [] ⟨rfl, (kr_pre ⟨"java/lang/IndexOutOfBoundsException", by decide, w648, by decide⟩ (kr_pre ⟨"java/lang/IllegalArgumentException", by decide, w317, by decide⟩ (fun _ hz => nomatch hz))), ⟨by decide, by decide⟩, by decide, w318, w397⟩ (i := 5) (lv' := []) rfl (by decide) d_W_three_117 ?_
      refine r_sipush (v := (-1003 : Int32)) (by decide) d_W_three_119 ?_
      cases h
      exact r_iret rfl d_W_three_122
    replace h2 := kr_in_ c2 h2
    cases h2
set_option maxRecDepth 20000 in
set_option maxHeartbeats 4000000 in
theorem s_W_three {S : AS} {a0 : Option Nat} {a1 : Int32} {a2 : Int32} {a3 : Int32} {a4 : Int32} {r : (Int32 × AS)} (h : f_W_three S a0 a1 a2 a3 a4 = some r) : kr_AW m_W_three 12 0 [(0, va_rf a0), (1, .int a1), (2, .int a2), (3, .int a3), (4, .int a4)] [] S (kr_eI r) := by
  unfold f_W_three at h
  refine r_iload_n (i := 1) (x := a1) 1 rfl d_W_three_0 ?_
  refine r_if_ne (tgt := 15) d_W_three_1 rfl (fun c => ?_) (fun c => ?_)
  · replace h := kr_ip c h
    refine r_aload_n (i := 0) (x := a0) 0 rfl d_W_three_4 ?_
    refine r_iload_n (i := 2) (x := a2) 2 rfl d_W_three_5 ?_
    refine r_iload_n (i := 3) (x := a3) 3 rfl d_W_three_6 ?_
    refine r_iload (i := 4) (x := a4) 4 rfl d_W_three_7 ?_
    have h2 := kr_ob h
    clear h
    obtain ⟨⟨⟩, eu7, h⟩ := h2
    rcases kr_obh h with ⟨v9, S8, eS8, h2⟩ | ⟨E, S8, eS8, h2⟩
    · clear h
      have h := h2
      clear h2
      refine r_callV (M1 := m_K_begin) (κ := 22) (As := [.int a2, .int a3, .int a4]) eu7 (s_K_begin eS8) mok_K_begin rfl (by decide) rfl w649 w650 w651 (by decide) (kr_c8 kr_c0) d_W_three_9 (kr_k1 ?_) kr_kn
      refine r_goto (tgt := 104) d_W_three_12 rfl ?_
      cases h
      exact r_iret rfl d_W_three_104
    · by_cases c0 : E = "java/lang/IndexOutOfBoundsException"
      · subst c0
        replace h2 := kr_ip rfl h2
        clear h
        have h := h2
        clear h2
        refine r_callV (M1 := m_K_begin) (κ := 22) (As := [.int a2, .int a3, .int a4]) eu7 (s_K_begin eS8) mok_K_begin rfl (by decide) rfl w649 w650 w651 (by decide) (kr_c8 kr_c0) d_W_three_9 kr_nk (kr_kx ?_)
        refine r_catch (hd := (0, 104, 105, 138)) [] [(0, 104, 111, 79), (0, 104, 117, 81)] ⟨rfl, (fun _ hz => nomatch hz), ⟨by decide, by decide⟩, by decide, w648, w485⟩ (i := 5) (lv' := [(0, va_rf a0), (1, .int a1), (2, .int a2), (3, .int a3), (4, .int a4)]) rfl (by decide) d_W_three_105 ?_
        refine r_sipush (v := (-1001 : Int32)) (by decide) d_W_three_107 ?_
        cases h
        exact r_iret rfl d_W_three_110
      replace h2 := kr_in_ c0 h2
      by_cases c1 : E = "java/lang/IllegalArgumentException"
      · subst c1
        replace h2 := kr_ip rfl h2
        clear h
        have h := h2
        clear h2
        refine r_callV (M1 := m_K_begin) (κ := 22) (As := [.int a2, .int a3, .int a4]) eu7 (s_K_begin eS8) mok_K_begin rfl (by decide) rfl w649 w650 w651 (by decide) (kr_c8 kr_c0) d_W_three_9 kr_nk (kr_kx ?_)
        refine r_catch (hd := (0, 104, 111, 79)) [(0, 104, 105, 138)] [(0, 104, 117, 81)] ⟨rfl, (kr_pre ⟨"java/lang/IndexOutOfBoundsException", by decide, w648, by decide⟩ (fun _ hz => nomatch hz)), ⟨by decide, by decide⟩, by decide, w317, w331⟩ (i := 5) (lv' := [(0, va_rf a0), (1, .int a1), (2, .int a2), (3, .int a3), (4, .int a4)]) rfl (by decide) d_W_three_111 ?_
        refine r_sipush (v := (-1002 : Int32)) (by decide) d_W_three_113 ?_
        cases h
        exact r_iret rfl d_W_three_116
      replace h2 := kr_in_ c1 h2
      by_cases c2 : E = "java/lang/IllegalStateException"
      · subst c2
        replace h2 := kr_ip rfl h2
        clear h
        have h := h2
        clear h2
        refine r_callV (M1 := m_K_begin) (κ := 22) (As := [.int a2, .int a3, .int a4]) eu7 (s_K_begin eS8) mok_K_begin rfl (by decide) rfl w649 w650 w651 (by decide) (kr_c8 kr_c0) d_W_three_9 kr_nk (kr_kx ?_)
        refine r_catch (hd := (0, 104, 117, 81)) [(0, 104, 105, 138), (0, 104, 111, 79)] [] ⟨rfl, (kr_pre ⟨"java/lang/IndexOutOfBoundsException", by decide, w648, by decide⟩ (kr_pre ⟨"java/lang/IllegalArgumentException", by decide, w317, by decide⟩ (fun _ hz => nomatch hz))), ⟨by decide, by decide⟩, by decide, w318, w397⟩ (i := 5) (lv' := [(0, va_rf a0), (1, .int a1), (2, .int a2), (3, .int a3), (4, .int a4)]) rfl (by decide) d_W_three_117 ?_
        refine r_sipush (v := (-1003 : Int32)) (by decide) d_W_three_119 ?_
        cases h
        exact r_iret rfl d_W_three_122
      replace h2 := kr_in_ c2 h2
      cases h2
  · replace h := kr_in_ c h
    refine r_iload_n (i := 1) (x := a1) 1 rfl d_W_three_15 ?_
    refine r_iconst (v := (1 : Int32)) (by decide) d_W_three_16 ?_
    refine r_icmp_ne (tgt := 31) d_W_three_17 rfl (fun c => ?_) (fun c => ?_)
    · replace h := kr_ip c h
      refine r_aload_n (i := 0) (x := a0) 0 rfl d_W_three_20 ?_
      refine r_iload_n (i := 2) (x := a2) 2 rfl d_W_three_21 ?_
      refine r_iload_n (i := 3) (x := a3) 3 rfl d_W_three_22 ?_
      refine r_iload (i := 4) (x := a4) 4 rfl d_W_three_23 ?_
      have h2 := kr_ob h
      clear h
      obtain ⟨⟨⟩, eu10, h⟩ := h2
      rcases kr_obh h with ⟨v12, S11, eS11, h2⟩ | ⟨E, S11, eS11, h2⟩
      · clear h
        have h := h2
        clear h2
        refine r_callV (M1 := m_K_consent) (κ := 22) (As := [.int a2, .int a3, .int a4]) eu10 (s_K_consent eS11) mok_K_consent rfl (by decide) rfl w819 w820 w821 (by decide) (kr_c8 kr_c0) d_W_three_25 (kr_k1 ?_) kr_kn
        refine r_goto (tgt := 104) d_W_three_28 rfl ?_
        cases h
        exact r_iret rfl d_W_three_104
      · by_cases c0 : E = "java/lang/IndexOutOfBoundsException"
        · subst c0
          replace h2 := kr_ip rfl h2
          clear h
          have h := h2
          clear h2
          refine r_callV (M1 := m_K_consent) (κ := 22) (As := [.int a2, .int a3, .int a4]) eu10 (s_K_consent eS11) mok_K_consent rfl (by decide) rfl w819 w820 w821 (by decide) (kr_c8 kr_c0) d_W_three_25 kr_nk (kr_kx ?_)
          refine r_catch (hd := (0, 104, 105, 138)) [] [(0, 104, 111, 79), (0, 104, 117, 81)] ⟨rfl, (fun _ hz => nomatch hz), ⟨by decide, by decide⟩, by decide, w648, w485⟩ (i := 5) (lv' := [(0, va_rf a0), (1, .int a1), (2, .int a2), (3, .int a3), (4, .int a4)]) rfl (by decide) d_W_three_105 ?_
          refine r_sipush (v := (-1001 : Int32)) (by decide) d_W_three_107 ?_
          cases h
          exact r_iret rfl d_W_three_110
        replace h2 := kr_in_ c0 h2
        by_cases c1 : E = "java/lang/IllegalArgumentException"
        · subst c1
          replace h2 := kr_ip rfl h2
          clear h
          have h := h2
          clear h2
          refine r_callV (M1 := m_K_consent) (κ := 22) (As := [.int a2, .int a3, .int a4]) eu10 (s_K_consent eS11) mok_K_consent rfl (by decide) rfl w819 w820 w821 (by decide) (kr_c8 kr_c0) d_W_three_25 kr_nk (kr_kx ?_)
          refine r_catch (hd := (0, 104, 111, 79)) [(0, 104, 105, 138)] [(0, 104, 117, 81)] ⟨rfl, (kr_pre ⟨"java/lang/IndexOutOfBoundsException", by decide, w648, by decide⟩ (fun _ hz => nomatch hz)), ⟨by decide, by decide⟩, by decide, w317, w331⟩ (i := 5) (lv' := [(0, va_rf a0), (1, .int a1), (2, .int a2), (3, .int a3), (4, .int a4)]) rfl (by decide) d_W_three_111 ?_
          refine r_sipush (v := (-1002 : Int32)) (by decide) d_W_three_113 ?_
          cases h
          exact r_iret rfl d_W_three_116
        replace h2 := kr_in_ c1 h2
        by_cases c2 : E = "java/lang/IllegalStateException"
        · subst c2
          replace h2 := kr_ip rfl h2
          clear h
          have h := h2
          clear h2
          refine r_callV (M1 := m_K_consent) (κ := 22) (As := [.int a2, .int a3, .int a4]) eu10 (s_K_consent eS11) mok_K_consent rfl (by decide) rfl w819 w820 w821 (by decide) (kr_c8 kr_c0) d_W_three_25 kr_nk (kr_kx ?_)
          refine r_catch (hd := (0, 104, 117, 81)) [(0, 104, 105, 138), (0, 104, 111, 79)] [] ⟨rfl, (kr_pre ⟨"java/lang/IndexOutOfBoundsException", by decide, w648, by decide⟩ (kr_pre ⟨"java/lang/IllegalArgumentException", by decide, w317, by decide⟩ (fun _ hz => nomatch hz))), ⟨by decide, by decide⟩, by decide, w318, w397⟩ (i := 5) (lv' := [(0, va_rf a0), (1, .int a1), (2, .int a2), (3, .int a3), (4, .int a4)]) rfl (by decide) d_W_three_117 ?_
          refine r_sipush (v := (-1003 : Int32)) (by decide) d_W_three_119 ?_
          cases h
          exact r_iret rfl d_W_three_122
        replace h2 := kr_in_ c2 h2
        cases h2
    · replace h := kr_in_ c h
      refine r_iload_n (i := 1) (x := a1) 1 rfl d_W_three_31 ?_
      refine r_iconst (v := (2 : Int32)) (by decide) d_W_three_32 ?_
      refine r_icmp_ne (tgt := 47) d_W_three_33 rfl (fun c => ?_) (fun c => ?_)
      · replace h := kr_ip c h
        refine r_aload_n (i := 0) (x := a0) 0 rfl d_W_three_36 ?_
        refine r_iload_n (i := 2) (x := a2) 2 rfl d_W_three_37 ?_
        refine r_iload_n (i := 3) (x := a3) 3 rfl d_W_three_38 ?_
        refine r_iload (i := 4) (x := a4) 4 rfl d_W_three_39 ?_
        have h2 := kr_ob h
        clear h
        obtain ⟨⟨⟩, eu13, h⟩ := h2
        rcases kr_obh h with ⟨v15, S14, eS14, h2⟩ | ⟨E, S14, eS14, h2⟩
        · clear h
          have h := h2
          clear h2
          refine r_callV (M1 := m_K_exchange) (κ := 22) (As := [.int a2, .int a3, .int a4]) eu13 (s_K_exchange eS14) mok_K_exchange rfl (by decide) rfl w823 w824 w825 (by decide) (kr_c8 kr_c0) d_W_three_41 (kr_k1 ?_) kr_kn
          refine r_goto (tgt := 104) d_W_three_44 rfl ?_
          cases h
          exact r_iret rfl d_W_three_104
        · by_cases c0 : E = "java/lang/IndexOutOfBoundsException"
          · subst c0
            replace h2 := kr_ip rfl h2
            clear h
            have h := h2
            clear h2
            refine r_callV (M1 := m_K_exchange) (κ := 22) (As := [.int a2, .int a3, .int a4]) eu13 (s_K_exchange eS14) mok_K_exchange rfl (by decide) rfl w823 w824 w825 (by decide) (kr_c8 kr_c0) d_W_three_41 kr_nk (kr_kx ?_)
            refine r_catch (hd := (0, 104, 105, 138)) [] [(0, 104, 111, 79), (0, 104, 117, 81)] ⟨rfl, (fun _ hz => nomatch hz), ⟨by decide, by decide⟩, by decide, w648, w485⟩ (i := 5) (lv' := [(0, va_rf a0), (1, .int a1), (2, .int a2), (3, .int a3), (4, .int a4)]) rfl (by decide) d_W_three_105 ?_
            refine r_sipush (v := (-1001 : Int32)) (by decide) d_W_three_107 ?_
            cases h
            exact r_iret rfl d_W_three_110
          replace h2 := kr_in_ c0 h2
          by_cases c1 : E = "java/lang/IllegalArgumentException"
          · subst c1
            replace h2 := kr_ip rfl h2
            clear h
            have h := h2
            clear h2
            refine r_callV (M1 := m_K_exchange) (κ := 22) (As := [.int a2, .int a3, .int a4]) eu13 (s_K_exchange eS14) mok_K_exchange rfl (by decide) rfl w823 w824 w825 (by decide) (kr_c8 kr_c0) d_W_three_41 kr_nk (kr_kx ?_)
            refine r_catch (hd := (0, 104, 111, 79)) [(0, 104, 105, 138)] [(0, 104, 117, 81)] ⟨rfl, (kr_pre ⟨"java/lang/IndexOutOfBoundsException", by decide, w648, by decide⟩ (fun _ hz => nomatch hz)), ⟨by decide, by decide⟩, by decide, w317, w331⟩ (i := 5) (lv' := [(0, va_rf a0), (1, .int a1), (2, .int a2), (3, .int a3), (4, .int a4)]) rfl (by decide) d_W_three_111 ?_
            refine r_sipush (v := (-1002 : Int32)) (by decide) d_W_three_113 ?_
            cases h
            exact r_iret rfl d_W_three_116
          replace h2 := kr_in_ c1 h2
          by_cases c2 : E = "java/lang/IllegalStateException"
          · subst c2
            replace h2 := kr_ip rfl h2
            clear h
            have h := h2
            clear h2
            refine r_callV (M1 := m_K_exchange) (κ := 22) (As := [.int a2, .int a3, .int a4]) eu13 (s_K_exchange eS14) mok_K_exchange rfl (by decide) rfl w823 w824 w825 (by decide) (kr_c8 kr_c0) d_W_three_41 kr_nk (kr_kx ?_)
            refine r_catch (hd := (0, 104, 117, 81)) [(0, 104, 105, 138), (0, 104, 111, 79)] [] ⟨rfl, (kr_pre ⟨"java/lang/IndexOutOfBoundsException", by decide, w648, by decide⟩ (kr_pre ⟨"java/lang/IllegalArgumentException", by decide, w317, by decide⟩ (fun _ hz => nomatch hz))), ⟨by decide, by decide⟩, by decide, w318, w397⟩ (i := 5) (lv' := [(0, va_rf a0), (1, .int a1), (2, .int a2), (3, .int a3), (4, .int a4)]) rfl (by decide) d_W_three_117 ?_
            refine r_sipush (v := (-1003 : Int32)) (by decide) d_W_three_119 ?_
            cases h
            exact r_iret rfl d_W_three_122
          replace h2 := kr_in_ c2 h2
          cases h2
      · replace h := kr_in_ c h
        refine r_iload_n (i := 1) (x := a1) 1 rfl d_W_three_47 ?_
        refine r_iconst (v := (3 : Int32)) (by decide) d_W_three_48 ?_
        refine r_icmp_ne (tgt := 63) d_W_three_49 rfl (fun c => ?_) (fun c => ?_)
        · replace h := kr_ip c h
          refine r_aload_n (i := 0) (x := a0) 0 rfl d_W_three_52 ?_
          refine r_iload_n (i := 2) (x := a2) 2 rfl d_W_three_53 ?_
          refine r_iload_n (i := 3) (x := a3) 3 rfl d_W_three_54 ?_
          refine r_iload (i := 4) (x := a4) 4 rfl d_W_three_55 ?_
          have h2 := kr_ob h
          clear h
          obtain ⟨⟨⟩, eu16, h⟩ := h2
          rcases kr_obh h with ⟨v18, S17, eS17, h2⟩ | ⟨E, S17, eS17, h2⟩
          · clear h
            have h := h2
            clear h2
            refine r_callV (M1 := m_K_check) (κ := 22) (As := [.int a2, .int a3, .int a4]) eu16 (s_K_check eS17) mok_K_check rfl (by decide) rfl w875 w876 w877 (by decide) (kr_c8 kr_c0) d_W_three_57 (kr_k1 ?_) kr_kn
            refine r_goto (tgt := 104) d_W_three_60 rfl ?_
            cases h
            exact r_iret rfl d_W_three_104
          · by_cases c0 : E = "java/lang/IndexOutOfBoundsException"
            · subst c0
              replace h2 := kr_ip rfl h2
              clear h
              have h := h2
              clear h2
              refine r_callV (M1 := m_K_check) (κ := 22) (As := [.int a2, .int a3, .int a4]) eu16 (s_K_check eS17) mok_K_check rfl (by decide) rfl w875 w876 w877 (by decide) (kr_c8 kr_c0) d_W_three_57 kr_nk (kr_kx ?_)
              refine r_catch (hd := (0, 104, 105, 138)) [] [(0, 104, 111, 79), (0, 104, 117, 81)] ⟨rfl, (fun _ hz => nomatch hz), ⟨by decide, by decide⟩, by decide, w648, w485⟩ (i := 5) (lv' := [(0, va_rf a0), (1, .int a1), (2, .int a2), (3, .int a3), (4, .int a4)]) rfl (by decide) d_W_three_105 ?_
              refine r_sipush (v := (-1001 : Int32)) (by decide) d_W_three_107 ?_
              cases h
              exact r_iret rfl d_W_three_110
            replace h2 := kr_in_ c0 h2
            by_cases c1 : E = "java/lang/IllegalArgumentException"
            · subst c1
              replace h2 := kr_ip rfl h2
              clear h
              have h := h2
              clear h2
              refine r_callV (M1 := m_K_check) (κ := 22) (As := [.int a2, .int a3, .int a4]) eu16 (s_K_check eS17) mok_K_check rfl (by decide) rfl w875 w876 w877 (by decide) (kr_c8 kr_c0) d_W_three_57 kr_nk (kr_kx ?_)
              refine r_catch (hd := (0, 104, 111, 79)) [(0, 104, 105, 138)] [(0, 104, 117, 81)] ⟨rfl, (kr_pre ⟨"java/lang/IndexOutOfBoundsException", by decide, w648, by decide⟩ (fun _ hz => nomatch hz)), ⟨by decide, by decide⟩, by decide, w317, w331⟩ (i := 5) (lv' := [(0, va_rf a0), (1, .int a1), (2, .int a2), (3, .int a3), (4, .int a4)]) rfl (by decide) d_W_three_111 ?_
              refine r_sipush (v := (-1002 : Int32)) (by decide) d_W_three_113 ?_
              cases h
              exact r_iret rfl d_W_three_116
            replace h2 := kr_in_ c1 h2
            by_cases c2 : E = "java/lang/IllegalStateException"
            · subst c2
              replace h2 := kr_ip rfl h2
              clear h
              have h := h2
              clear h2
              refine r_callV (M1 := m_K_check) (κ := 22) (As := [.int a2, .int a3, .int a4]) eu16 (s_K_check eS17) mok_K_check rfl (by decide) rfl w875 w876 w877 (by decide) (kr_c8 kr_c0) d_W_three_57 kr_nk (kr_kx ?_)
              refine r_catch (hd := (0, 104, 117, 81)) [(0, 104, 105, 138), (0, 104, 111, 79)] [] ⟨rfl, (kr_pre ⟨"java/lang/IndexOutOfBoundsException", by decide, w648, by decide⟩ (kr_pre ⟨"java/lang/IllegalArgumentException", by decide, w317, by decide⟩ (fun _ hz => nomatch hz))), ⟨by decide, by decide⟩, by decide, w318, w397⟩ (i := 5) (lv' := [(0, va_rf a0), (1, .int a1), (2, .int a2), (3, .int a3), (4, .int a4)]) rfl (by decide) d_W_three_117 ?_
              refine r_sipush (v := (-1003 : Int32)) (by decide) d_W_three_119 ?_
              cases h
              exact r_iret rfl d_W_three_122
            replace h2 := kr_in_ c2 h2
            cases h2
        · replace h := kr_in_ c h
          refine r_iload_n (i := 1) (x := a1) 1 rfl d_W_three_63 ?_
          refine r_iconst (v := (4 : Int32)) (by decide) d_W_three_64 ?_
          refine r_icmp_ne (tgt := 87) d_W_three_65 rfl (fun c => ?_) (fun c => ?_)
          · replace h := kr_ip c h
            refine r_aload_n (i := 0) (x := a0) 0 rfl d_W_three_68 ?_
            refine r_iload_n (i := 2) (x := a2) 2 rfl d_W_three_69 ?_
            refine r_iload_n (i := 3) (x := a3) 3 rfl d_W_three_70 ?_
            refine r_if_le (tgt := 78) d_W_three_71 rfl (fun c => ?_) (fun c => ?_)
            · replace h := kr_ip c h
              refine r_iconst (v := (0 : Int32)) (by decide) d_W_three_78 ?_
              exact kr_sub [4] rfl (s_W_three_B79 h)
            · replace h := kr_in_ c h
              refine r_iconst (v := (1 : Int32)) (by decide) d_W_three_74 ?_
              refine r_goto (tgt := 79) d_W_three_75 rfl ?_
              exact kr_sub [4] rfl (s_W_three_B79 h)
          · replace h := kr_in_ c h
            refine r_aload_n (i := 0) (x := a0) 0 rfl d_W_three_87 ?_
            refine r_iload_n (i := 2) (x := a2) 2 rfl d_W_three_88 ?_
            refine r_iload_n (i := 3) (x := a3) 3 rfl d_W_three_89 ?_
            refine r_iload_n (i := 1) (x := a1) 1 rfl d_W_three_90 ?_
            refine r_bipush (v := (6 : Int32)) (by decide) d_W_three_91 ?_
            refine r_icmp_ne (tgt := 100) d_W_three_93 rfl (fun c => ?_) (fun c => ?_)
            · replace h := kr_ip c h
              refine r_iconst (v := (1 : Int32)) (by decide) d_W_three_96 ?_
              refine r_goto (tgt := 101) d_W_three_97 rfl ?_
              exact kr_sub [] rfl (s_W_three_B101 h)
            · replace h := kr_in_ c h
              refine r_iconst (v := (0 : Int32)) (by decide) d_W_three_100 ?_
              exact kr_sub [] rfl (s_W_three_B101 h)
theorem gg_W_three_gs {S : AS} {w a0 a1 a2 : Int32} : gs S (gg_W_three S w a0 a1 a2) := gs_if gmo_gs (gs_if gmo_gs (gs_if gmo_gs (gs_if gmo_gs (gs_if gmo_gs (gmo_gs)))))
theorem s_W_threeg {S : AS} {a0 : Option Nat} {a1 a2 a3 a4 : Int32} {r : Int32 × AS} (h : f_W_threeg S a0 a1 a2 a3 a4 = some r) : kr_Con m_W_three 12 [va_rf a0, .int a1, .int a2, .int a3, .int a4] S (kr_eI r) := by
  unfold f_W_threeg at h
  obtain ⟨v, S1, e, h⟩ := kr_ob2 h
  cases h
  refine kr_conH rfl (by decide) (by decide +kernel) (by simp [lg_sl, kr_rfcat, kr_icat, m_W_three, mL]) ?_
  rw [show lv_args 0 [va_rf a0, .int a1, .int a2, .int a3, .int a4] = [(0, va_rf a0), (1, .int a1), (2, .int a2), (3, .int a3), (4, .int a4)] from by simp [lv_args, kr_rfcat, kr_icat]]
  exact kr_AWg (s_W_three e) gg_W_three_gs
/-! KeyringCourtLaw.adds(LKeyringCourt;IIIII)I -/
def f_W_adds (S : AS) (a0 : Option Nat) (a1 : Int32) (a2 : Int32) (a3 : Int32) (a4 : Int32) (a5 : Int32) : Option (Int32 × AS) :=
  (kr_rv S 22 a0).bind fun u1 =>
  kr_bh (f_K_step S a0 a1 a2 a3 a4 a5) (fun E S2 => if E = "java/lang/IllegalArgumentException" then
  some ((-1002 : Int32), S2)
  else if E = "java/lang/IllegalStateException" then
  some ((-1003 : Int32), S2)
  else none) fun v3 S2 =>
  some (v3, S2)
def gg_W_adds (S : AS) (a0 a1 a2 a3 a4 : Int32) : AS := gmo S (f_M_step S (some 57) a0 a1 a2 a3 a4)
def f_W_addsg (S : AS) (a0 : Option Nat) (a1 a2 a3 a4 a5 : Int32) : Option (Int32 × AS) := kr_b2 (f_W_adds S a0 a1 a2 a3 a4 a5) fun v S1 => some (v, gg_W_adds S1 a1 a2 a3 a4 a5)
set_option maxRecDepth 20000 in
set_option maxHeartbeats 4000000 in
theorem s_W_adds {S : AS} {a0 : Option Nat} {a1 : Int32} {a2 : Int32} {a3 : Int32} {a4 : Int32} {a5 : Int32} {r : (Int32 × AS)} (h : f_W_adds S a0 a1 a2 a3 a4 a5 = some r) : kr_AW m_W_adds 9 0 [(0, va_rf a0), (1, .int a1), (2, .int a2), (3, .int a3), (4, .int a4), (5, .int a5)] [] S (kr_eI r) := by
  unfold f_W_adds at h
  refine r_aload_n (i := 0) (x := a0) 0 rfl d_W_adds_0 ?_
  refine r_iload_n (i := 1) (x := a1) 1 rfl d_W_adds_1 ?_
  refine r_iload_n (i := 2) (x := a2) 2 rfl d_W_adds_2 ?_
  refine r_iload_n (i := 3) (x := a3) 3 rfl d_W_adds_3 ?_
  refine r_iload (i := 4) (x := a4) 4 rfl d_W_adds_4 ?_
  refine r_iload (i := 5) (x := a5) 5 rfl d_W_adds_6 ?_
  have h2 := kr_ob h
  clear h
  obtain ⟨⟨⟩, eu1, h⟩ := h2
  rcases kr_obh h with ⟨v3, S2, eS2, h2⟩ | ⟨E, S2, eS2, h2⟩
  · clear h
    have h := h2
    clear h2
    refine r_callV (M1 := m_K_step) (κ := 22) (As := [.int a1, .int a2, .int a3, .int a4, .int a5]) eu1 (s_K_step eS2) mok_K_step rfl (by decide) rfl w922 w923 w924 (by decide) (kr_c8 kr_c0) d_W_adds_8 (kr_k1 ?_) kr_kn
    cases h
    exact r_iret rfl d_W_adds_11
  · by_cases c0 : E = "java/lang/IllegalArgumentException"
    · subst c0
      replace h2 := kr_ip rfl h2
      clear h
      have h := h2
      clear h2
      refine r_callV (M1 := m_K_step) (κ := 22) (As := [.int a1, .int a2, .int a3, .int a4, .int a5]) eu1 (s_K_step eS2) mok_K_step rfl (by decide) rfl w922 w923 w924 (by decide) (kr_c8 kr_c0) d_W_adds_8 kr_nk (kr_kx ?_)
      refine r_catch (hd := (0, 11, 12, 79)) [] [(0, 11, 18, 81)] ⟨rfl, (fun _ hz => nomatch hz), ⟨by decide, by decide⟩, by decide, w317, w331⟩ (i := 6) (lv' := [(0, va_rf a0), (1, .int a1), (2, .int a2), (3, .int a3), (4, .int a4), (5, .int a5)]) rfl (by decide) d_W_adds_12 ?_
      refine r_sipush (v := (-1002 : Int32)) (by decide) d_W_adds_14 ?_
      cases h
      exact r_iret rfl d_W_adds_17
    replace h2 := kr_in_ c0 h2
    by_cases c1 : E = "java/lang/IllegalStateException"
    · subst c1
      replace h2 := kr_ip rfl h2
      clear h
      have h := h2
      clear h2
      refine r_callV (M1 := m_K_step) (κ := 22) (As := [.int a1, .int a2, .int a3, .int a4, .int a5]) eu1 (s_K_step eS2) mok_K_step rfl (by decide) rfl w922 w923 w924 (by decide) (kr_c8 kr_c0) d_W_adds_8 kr_nk (kr_kx ?_)
      refine r_catch (hd := (0, 11, 18, 81)) [(0, 11, 12, 79)] [] ⟨rfl, (kr_pre ⟨"java/lang/IllegalArgumentException", by decide, w317, by decide⟩ (fun _ hz => nomatch hz)), ⟨by decide, by decide⟩, by decide, w318, w397⟩ (i := 6) (lv' := [(0, va_rf a0), (1, .int a1), (2, .int a2), (3, .int a3), (4, .int a4), (5, .int a5)]) rfl (by decide) d_W_adds_18 ?_
      refine r_sipush (v := (-1003 : Int32)) (by decide) d_W_adds_20 ?_
      cases h
      exact r_iret rfl d_W_adds_23
    replace h2 := kr_in_ c1 h2
    cases h2
theorem gg_W_adds_gs {S : AS} {a0 a1 a2 a3 a4 : Int32} : gs S (gg_W_adds S a0 a1 a2 a3 a4) := gmo_gs
theorem s_W_addsg {S : AS} {a0 : Option Nat} {a1 a2 a3 a4 a5 : Int32} {r : Int32 × AS} (h : f_W_addsg S a0 a1 a2 a3 a4 a5 = some r) : kr_Con m_W_adds 9 [va_rf a0, .int a1, .int a2, .int a3, .int a4, .int a5] S (kr_eI r) := by
  unfold f_W_addsg at h
  obtain ⟨v, S1, e, h⟩ := kr_ob2 h
  cases h
  refine kr_conH rfl (by decide) (by decide +kernel) (by simp [lg_sl, kr_rfcat, kr_icat, m_W_adds, mL]) ?_
  rw [show lv_args 0 [va_rf a0, .int a1, .int a2, .int a3, .int a4, .int a5] = [(0, va_rf a0), (1, .int a1), (2, .int a2), (3, .int a3), (4, .int a4), (5, .int a5)] from by simp [lv_args, kr_rfcat, kr_icat]]
  exact kr_AWg (s_W_adds e) gg_W_adds_gs
/-! KeyringCourtLaw.two(LKeyringCourt;III)I -/
def f_W_two (S : AS) (a0 : Option Nat) (a1 : Int32) (a2 : Int32) (a3 : Int32) : Option (Int32 × AS) :=
  if a1 = 0 then
  (kr_rv S 22 a0).bind fun u1 =>
  kr_bh (f_K_enroll S a0 a2 a3) (fun E S2 => if E = "java/lang/IndexOutOfBoundsException" then
  some ((-1001 : Int32), S2)
  else if E = "java/lang/IllegalArgumentException" then
  some ((-1002 : Int32), S2)
  else if E = "java/lang/IllegalStateException" then
  some ((-1003 : Int32), S2)
  else none) fun v3 S2 =>
  some (v3, S2)
  else
  if a1 = (1 : Int32) then
  (kr_rv S 22 a0).bind fun u4 =>
  kr_bh (f_K_factor S a0 a2 a3) (fun E S5 => if E = "java/lang/IndexOutOfBoundsException" then
  some ((-1001 : Int32), S5)
  else if E = "java/lang/IllegalArgumentException" then
  some ((-1002 : Int32), S5)
  else if E = "java/lang/IllegalStateException" then
  some ((-1003 : Int32), S5)
  else none) fun v6 S5 =>
  some (v6, S5)
  else
  if a1 = (2 : Int32) then
  (kr_rv S 22 a0).bind fun u7 =>
  kr_bh (f_K_act S a0 a2 a3) (fun E S8 => if E = "java/lang/IndexOutOfBoundsException" then
  some ((-1001 : Int32), S8)
  else if E = "java/lang/IllegalArgumentException" then
  some ((-1002 : Int32), S8)
  else if E = "java/lang/IllegalStateException" then
  some ((-1003 : Int32), S8)
  else none) fun v9 S8 =>
  some (v9, S8)
  else
  if a1 = (3 : Int32) then
  (kr_rv S 22 a0).bind fun u10 =>
  kr_bh (f_K_withdraw S a0 a2 a3) (fun E S11 => if E = "java/lang/IndexOutOfBoundsException" then
  some ((-1001 : Int32), S11)
  else if E = "java/lang/IllegalArgumentException" then
  some ((-1002 : Int32), S11)
  else if E = "java/lang/IllegalStateException" then
  some ((-1003 : Int32), S11)
  else none) fun v12 S11 =>
  some (v12, S11)
  else
  if a1 = (4 : Int32) then
  (kr_rv S 22 a0).bind fun u13 =>
  kr_bh (f_K_need S a0 a2 a3) (fun E S14 => if E = "java/lang/IndexOutOfBoundsException" then
  some ((-1001 : Int32), S14)
  else if E = "java/lang/IllegalArgumentException" then
  some ((-1002 : Int32), S14)
  else if E = "java/lang/IllegalStateException" then
  some ((-1003 : Int32), S14)
  else none) fun v15 S14 =>
  some (v15, S14)
  else
  if a1 = (5 : Int32) then
  (kr_rv S 22 a0).bind fun u16 =>
  kr_bh (f_K_refresh S a0 a2 a3) (fun E S17 => if E = "java/lang/IndexOutOfBoundsException" then
  some ((-1001 : Int32), S17)
  else if E = "java/lang/IllegalArgumentException" then
  some ((-1002 : Int32), S17)
  else if E = "java/lang/IllegalStateException" then
  some ((-1003 : Int32), S17)
  else none) fun v18 S17 =>
  some (v18, S17)
  else
  if a1 = (6 : Int32) then
  (kr_rv S 22 a0).bind fun u19 =>
  kr_bh (f_K_vouch S a0 a2 a3) (fun E S20 => if E = "java/lang/IndexOutOfBoundsException" then
  some ((-1001 : Int32), S20)
  else if E = "java/lang/IllegalArgumentException" then
  some ((-1002 : Int32), S20)
  else if E = "java/lang/IllegalStateException" then
  some ((-1003 : Int32), S20)
  else none) fun v21 S20 =>
  some (v21, S20)
  else
  if a1 = (7 : Int32) then
  (kr_rv S 22 a0).bind fun u22 =>
  kr_bh (f_K_stop S a0 a2 a3) (fun E S23 => if E = "java/lang/IndexOutOfBoundsException" then
  some ((-1001 : Int32), S23)
  else if E = "java/lang/IllegalArgumentException" then
  some ((-1002 : Int32), S23)
  else if E = "java/lang/IllegalStateException" then
  some ((-1003 : Int32), S23)
  else none) fun v24 S23 =>
  some (v24, S23)
  else
  (kr_rv S 22 a0).bind fun u25 =>
  kr_bh (f_K_link S a0 a2 a3) (fun E S26 => if E = "java/lang/IndexOutOfBoundsException" then
  some ((-1001 : Int32), S26)
  else if E = "java/lang/IllegalArgumentException" then
  some ((-1002 : Int32), S26)
  else if E = "java/lang/IllegalStateException" then
  some ((-1003 : Int32), S26)
  else none) fun v27 S26 =>
  some (v27, S26)
def gg_W_two (S : AS) (w a0 a1 : Int32) : AS := if w = (0 : Int32) then gmo S (f_M_enroll S (some 57) a0 a1) else if w = (1 : Int32) then gmo S (f_M_factor S (some 57) a0 a1) else if w = (2 : Int32) then gmo S (f_M_act S (some 57) a0 a1) else if w = (3 : Int32) then gmo S (f_M_withdraw S (some 57) a0 a1) else if w = (4 : Int32) then gmo S (f_M_need S (some 57) a0 a1) else if w = (5 : Int32) then gmo S (f_M_refresh S (some 57) a0 a1) else if w = (6 : Int32) then gmo S (f_M_vouch S (some 57) a0 a1) else if w = (7 : Int32) then gmo S (f_M_stop S (some 57) a0 a1) else gmo S (f_M_link S (some 57) a0 a1)
def f_W_twog (S : AS) (a0 : Option Nat) (a1 a2 a3 : Int32) : Option (Int32 × AS) := kr_b2 (f_W_two S a0 a1 a2 a3) fun v S1 => some (v, gg_W_two S1 a1 a2 a3)
set_option maxRecDepth 20000 in
set_option maxHeartbeats 4000000 in
theorem s_W_two {S : AS} {a0 : Option Nat} {a1 : Int32} {a2 : Int32} {a3 : Int32} {r : (Int32 × AS)} (h : f_W_two S a0 a1 a2 a3 = some r) : kr_AW m_W_two 11 0 [(0, va_rf a0), (1, .int a1), (2, .int a2), (3, .int a3)] [] S (kr_eI r) := by
  unfold f_W_two at h
  refine r_iload_n (i := 1) (x := a1) 1 rfl d_W_two_0 ?_
  refine r_if_ne (tgt := 13) d_W_two_1 rfl (fun c => ?_) (fun c => ?_)
  · replace h := kr_ip c h
    refine r_aload_n (i := 0) (x := a0) 0 rfl d_W_two_4 ?_
    refine r_iload_n (i := 2) (x := a2) 2 rfl d_W_two_5 ?_
    refine r_iload_n (i := 3) (x := a3) 3 rfl d_W_two_6 ?_
    have h2 := kr_ob h
    clear h
    obtain ⟨⟨⟩, eu1, h⟩ := h2
    rcases kr_obh h with ⟨v3, S2, eS2, h2⟩ | ⟨E, S2, eS2, h2⟩
    · clear h
      have h := h2
      clear h2
      refine r_callV (M1 := m_K_enroll) (κ := 22) (As := [.int a2, .int a3]) eu1 (s_K_enroll eS2) mok_K_enroll rfl (by decide) rfl w945 w946 w947 (by decide) (kr_c8 kr_c0) d_W_two_7 (kr_k1 ?_) kr_kn
      refine r_goto (tgt := 119) d_W_two_10 rfl ?_
      cases h
      exact r_iret rfl d_W_two_119
    · by_cases c0 : E = "java/lang/IndexOutOfBoundsException"
      · subst c0
        replace h2 := kr_ip rfl h2
        clear h
        have h := h2
        clear h2
        refine r_callV (M1 := m_K_enroll) (κ := 22) (As := [.int a2, .int a3]) eu1 (s_K_enroll eS2) mok_K_enroll rfl (by decide) rfl w945 w946 w947 (by decide) (kr_c8 kr_c0) d_W_two_7 kr_nk (kr_kx ?_)
        refine r_catch (hd := (0, 119, 120, 138)) [] [(0, 119, 126, 79), (0, 119, 132, 81)] ⟨rfl, (fun _ hz => nomatch hz), ⟨by decide, by decide⟩, by decide, w648, w485⟩ (i := 4) (lv' := [(0, va_rf a0), (1, .int a1), (2, .int a2), (3, .int a3)]) rfl (by decide) d_W_two_120 ?_
        refine r_sipush (v := (-1001 : Int32)) (by decide) d_W_two_122 ?_
        cases h
        exact r_iret rfl d_W_two_125
      replace h2 := kr_in_ c0 h2
      by_cases c1 : E = "java/lang/IllegalArgumentException"
      · subst c1
        replace h2 := kr_ip rfl h2
        clear h
        have h := h2
        clear h2
        refine r_callV (M1 := m_K_enroll) (κ := 22) (As := [.int a2, .int a3]) eu1 (s_K_enroll eS2) mok_K_enroll rfl (by decide) rfl w945 w946 w947 (by decide) (kr_c8 kr_c0) d_W_two_7 kr_nk (kr_kx ?_)
        refine r_catch (hd := (0, 119, 126, 79)) [(0, 119, 120, 138)] [(0, 119, 132, 81)] ⟨rfl, (kr_pre ⟨"java/lang/IndexOutOfBoundsException", by decide, w648, by decide⟩ (fun _ hz => nomatch hz)), ⟨by decide, by decide⟩, by decide, w317, w331⟩ (i := 4) (lv' := [(0, va_rf a0), (1, .int a1), (2, .int a2), (3, .int a3)]) rfl (by decide) d_W_two_126 ?_
        refine r_sipush (v := (-1002 : Int32)) (by decide) d_W_two_128 ?_
        cases h
        exact r_iret rfl d_W_two_131
      replace h2 := kr_in_ c1 h2
      by_cases c2 : E = "java/lang/IllegalStateException"
      · subst c2
        replace h2 := kr_ip rfl h2
        clear h
        have h := h2
        clear h2
        refine r_callV (M1 := m_K_enroll) (κ := 22) (As := [.int a2, .int a3]) eu1 (s_K_enroll eS2) mok_K_enroll rfl (by decide) rfl w945 w946 w947 (by decide) (kr_c8 kr_c0) d_W_two_7 kr_nk (kr_kx ?_)
        refine r_catch (hd := (0, 119, 132, 81)) [(0, 119, 120, 138), (0, 119, 126, 79)] [] ⟨rfl, (kr_pre ⟨"java/lang/IndexOutOfBoundsException", by decide, w648, by decide⟩ (kr_pre ⟨"java/lang/IllegalArgumentException", by decide, w317, by decide⟩ (fun _ hz => nomatch hz))), ⟨by decide, by decide⟩, by decide, w318, w397⟩ (i := 4) (lv' := [(0, va_rf a0), (1, .int a1), (2, .int a2), (3, .int a3)]) rfl (by decide) d_W_two_132 ?_
        refine r_sipush (v := (-1003 : Int32)) (by decide) d_W_two_134 ?_
        cases h
        exact r_iret rfl d_W_two_137
      replace h2 := kr_in_ c2 h2
      cases h2
  · replace h := kr_in_ c h
    refine r_iload_n (i := 1) (x := a1) 1 rfl d_W_two_13 ?_
    refine r_iconst (v := (1 : Int32)) (by decide) d_W_two_14 ?_
    refine r_icmp_ne (tgt := 27) d_W_two_15 rfl (fun c => ?_) (fun c => ?_)
    · replace h := kr_ip c h
      refine r_aload_n (i := 0) (x := a0) 0 rfl d_W_two_18 ?_
      refine r_iload_n (i := 2) (x := a2) 2 rfl d_W_two_19 ?_
      refine r_iload_n (i := 3) (x := a3) 3 rfl d_W_two_20 ?_
      have h2 := kr_ob h
      clear h
      obtain ⟨⟨⟩, eu4, h⟩ := h2
      rcases kr_obh h with ⟨v6, S5, eS5, h2⟩ | ⟨E, S5, eS5, h2⟩
      · clear h
        have h := h2
        clear h2
        refine r_callV (M1 := m_K_factor) (κ := 22) (As := [.int a2, .int a3]) eu4 (s_K_factor eS5) mok_K_factor rfl (by decide) rfl w954 w955 w956 (by decide) (kr_c8 kr_c0) d_W_two_21 (kr_k1 ?_) kr_kn
        refine r_goto (tgt := 119) d_W_two_24 rfl ?_
        cases h
        exact r_iret rfl d_W_two_119
      · by_cases c0 : E = "java/lang/IndexOutOfBoundsException"
        · subst c0
          replace h2 := kr_ip rfl h2
          clear h
          have h := h2
          clear h2
          refine r_callV (M1 := m_K_factor) (κ := 22) (As := [.int a2, .int a3]) eu4 (s_K_factor eS5) mok_K_factor rfl (by decide) rfl w954 w955 w956 (by decide) (kr_c8 kr_c0) d_W_two_21 kr_nk (kr_kx ?_)
          refine r_catch (hd := (0, 119, 120, 138)) [] [(0, 119, 126, 79), (0, 119, 132, 81)] ⟨rfl, (fun _ hz => nomatch hz), ⟨by decide, by decide⟩, by decide, w648, w485⟩ (i := 4) (lv' := [(0, va_rf a0), (1, .int a1), (2, .int a2), (3, .int a3)]) rfl (by decide) d_W_two_120 ?_
          refine r_sipush (v := (-1001 : Int32)) (by decide) d_W_two_122 ?_
          cases h
          exact r_iret rfl d_W_two_125
        replace h2 := kr_in_ c0 h2
        by_cases c1 : E = "java/lang/IllegalArgumentException"
        · subst c1
          replace h2 := kr_ip rfl h2
          clear h
          have h := h2
          clear h2
          refine r_callV (M1 := m_K_factor) (κ := 22) (As := [.int a2, .int a3]) eu4 (s_K_factor eS5) mok_K_factor rfl (by decide) rfl w954 w955 w956 (by decide) (kr_c8 kr_c0) d_W_two_21 kr_nk (kr_kx ?_)
          refine r_catch (hd := (0, 119, 126, 79)) [(0, 119, 120, 138)] [(0, 119, 132, 81)] ⟨rfl, (kr_pre ⟨"java/lang/IndexOutOfBoundsException", by decide, w648, by decide⟩ (fun _ hz => nomatch hz)), ⟨by decide, by decide⟩, by decide, w317, w331⟩ (i := 4) (lv' := [(0, va_rf a0), (1, .int a1), (2, .int a2), (3, .int a3)]) rfl (by decide) d_W_two_126 ?_
          refine r_sipush (v := (-1002 : Int32)) (by decide) d_W_two_128 ?_
          cases h
          exact r_iret rfl d_W_two_131
        replace h2 := kr_in_ c1 h2
        by_cases c2 : E = "java/lang/IllegalStateException"
        · subst c2
          replace h2 := kr_ip rfl h2
          clear h
          have h := h2
          clear h2
          refine r_callV (M1 := m_K_factor) (κ := 22) (As := [.int a2, .int a3]) eu4 (s_K_factor eS5) mok_K_factor rfl (by decide) rfl w954 w955 w956 (by decide) (kr_c8 kr_c0) d_W_two_21 kr_nk (kr_kx ?_)
          refine r_catch (hd := (0, 119, 132, 81)) [(0, 119, 120, 138), (0, 119, 126, 79)] [] ⟨rfl, (kr_pre ⟨"java/lang/IndexOutOfBoundsException", by decide, w648, by decide⟩ (kr_pre ⟨"java/lang/IllegalArgumentException", by decide, w317, by decide⟩ (fun _ hz => nomatch hz))), ⟨by decide, by decide⟩, by decide, w318, w397⟩ (i := 4) (lv' := [(0, va_rf a0), (1, .int a1), (2, .int a2), (3, .int a3)]) rfl (by decide) d_W_two_132 ?_
          refine r_sipush (v := (-1003 : Int32)) (by decide) d_W_two_134 ?_
          cases h
          exact r_iret rfl d_W_two_137
        replace h2 := kr_in_ c2 h2
        cases h2
    · replace h := kr_in_ c h
      refine r_iload_n (i := 1) (x := a1) 1 rfl d_W_two_27 ?_
      refine r_iconst (v := (2 : Int32)) (by decide) d_W_two_28 ?_
      refine r_icmp_ne (tgt := 41) d_W_two_29 rfl (fun c => ?_) (fun c => ?_)
      · replace h := kr_ip c h
        refine r_aload_n (i := 0) (x := a0) 0 rfl d_W_two_32 ?_
        refine r_iload_n (i := 2) (x := a2) 2 rfl d_W_two_33 ?_
        refine r_iload_n (i := 3) (x := a3) 3 rfl d_W_two_34 ?_
        have h2 := kr_ob h
        clear h
        obtain ⟨⟨⟩, eu7, h⟩ := h2
        rcases kr_obh h with ⟨v9, S8, eS8, h2⟩ | ⟨E, S8, eS8, h2⟩
        · clear h
          have h := h2
          clear h2
          refine r_callV (M1 := m_K_act) (κ := 22) (As := [.int a2, .int a3]) eu7 (s_K_act eS8) mok_K_act rfl (by decide) rfl w958 w959 w960 (by decide) (kr_c8 kr_c0) d_W_two_35 (kr_k1 ?_) kr_kn
          refine r_goto (tgt := 119) d_W_two_38 rfl ?_
          cases h
          exact r_iret rfl d_W_two_119
        · by_cases c0 : E = "java/lang/IndexOutOfBoundsException"
          · subst c0
            replace h2 := kr_ip rfl h2
            clear h
            have h := h2
            clear h2
            refine r_callV (M1 := m_K_act) (κ := 22) (As := [.int a2, .int a3]) eu7 (s_K_act eS8) mok_K_act rfl (by decide) rfl w958 w959 w960 (by decide) (kr_c8 kr_c0) d_W_two_35 kr_nk (kr_kx ?_)
            refine r_catch (hd := (0, 119, 120, 138)) [] [(0, 119, 126, 79), (0, 119, 132, 81)] ⟨rfl, (fun _ hz => nomatch hz), ⟨by decide, by decide⟩, by decide, w648, w485⟩ (i := 4) (lv' := [(0, va_rf a0), (1, .int a1), (2, .int a2), (3, .int a3)]) rfl (by decide) d_W_two_120 ?_
            refine r_sipush (v := (-1001 : Int32)) (by decide) d_W_two_122 ?_
            cases h
            exact r_iret rfl d_W_two_125
          replace h2 := kr_in_ c0 h2
          by_cases c1 : E = "java/lang/IllegalArgumentException"
          · subst c1
            replace h2 := kr_ip rfl h2
            clear h
            have h := h2
            clear h2
            refine r_callV (M1 := m_K_act) (κ := 22) (As := [.int a2, .int a3]) eu7 (s_K_act eS8) mok_K_act rfl (by decide) rfl w958 w959 w960 (by decide) (kr_c8 kr_c0) d_W_two_35 kr_nk (kr_kx ?_)
            refine r_catch (hd := (0, 119, 126, 79)) [(0, 119, 120, 138)] [(0, 119, 132, 81)] ⟨rfl, (kr_pre ⟨"java/lang/IndexOutOfBoundsException", by decide, w648, by decide⟩ (fun _ hz => nomatch hz)), ⟨by decide, by decide⟩, by decide, w317, w331⟩ (i := 4) (lv' := [(0, va_rf a0), (1, .int a1), (2, .int a2), (3, .int a3)]) rfl (by decide) d_W_two_126 ?_
            refine r_sipush (v := (-1002 : Int32)) (by decide) d_W_two_128 ?_
            cases h
            exact r_iret rfl d_W_two_131
          replace h2 := kr_in_ c1 h2
          by_cases c2 : E = "java/lang/IllegalStateException"
          · subst c2
            replace h2 := kr_ip rfl h2
            clear h
            have h := h2
            clear h2
            refine r_callV (M1 := m_K_act) (κ := 22) (As := [.int a2, .int a3]) eu7 (s_K_act eS8) mok_K_act rfl (by decide) rfl w958 w959 w960 (by decide) (kr_c8 kr_c0) d_W_two_35 kr_nk (kr_kx ?_)
            refine r_catch (hd := (0, 119, 132, 81)) [(0, 119, 120, 138), (0, 119, 126, 79)] [] ⟨rfl, (kr_pre ⟨"java/lang/IndexOutOfBoundsException", by decide, w648, by decide⟩ (kr_pre ⟨"java/lang/IllegalArgumentException", by decide, w317, by decide⟩ (fun _ hz => nomatch hz))), ⟨by decide, by decide⟩, by decide, w318, w397⟩ (i := 4) (lv' := [(0, va_rf a0), (1, .int a1), (2, .int a2), (3, .int a3)]) rfl (by decide) d_W_two_132 ?_
            refine r_sipush (v := (-1003 : Int32)) (by decide) d_W_two_134 ?_
            cases h
            exact r_iret rfl d_W_two_137
          replace h2 := kr_in_ c2 h2
          cases h2
      · replace h := kr_in_ c h
        refine r_iload_n (i := 1) (x := a1) 1 rfl d_W_two_41 ?_
        refine r_iconst (v := (3 : Int32)) (by decide) d_W_two_42 ?_
        refine r_icmp_ne (tgt := 55) d_W_two_43 rfl (fun c => ?_) (fun c => ?_)
        · replace h := kr_ip c h
          refine r_aload_n (i := 0) (x := a0) 0 rfl d_W_two_46 ?_
          refine r_iload_n (i := 2) (x := a2) 2 rfl d_W_two_47 ?_
          refine r_iload_n (i := 3) (x := a3) 3 rfl d_W_two_48 ?_
          have h2 := kr_ob h
          clear h
          obtain ⟨⟨⟩, eu10, h⟩ := h2
          rcases kr_obh h with ⟨v12, S11, eS11, h2⟩ | ⟨E, S11, eS11, h2⟩
          · clear h
            have h := h2
            clear h2
            refine r_callV (M1 := m_K_withdraw) (κ := 22) (As := [.int a2, .int a3]) eu10 (s_K_withdraw eS11) mok_K_withdraw rfl (by decide) rfl w966 w967 w968 (by decide) (kr_c8 kr_c0) d_W_two_49 (kr_k1 ?_) kr_kn
            refine r_goto (tgt := 119) d_W_two_52 rfl ?_
            cases h
            exact r_iret rfl d_W_two_119
          · by_cases c0 : E = "java/lang/IndexOutOfBoundsException"
            · subst c0
              replace h2 := kr_ip rfl h2
              clear h
              have h := h2
              clear h2
              refine r_callV (M1 := m_K_withdraw) (κ := 22) (As := [.int a2, .int a3]) eu10 (s_K_withdraw eS11) mok_K_withdraw rfl (by decide) rfl w966 w967 w968 (by decide) (kr_c8 kr_c0) d_W_two_49 kr_nk (kr_kx ?_)
              refine r_catch (hd := (0, 119, 120, 138)) [] [(0, 119, 126, 79), (0, 119, 132, 81)] ⟨rfl, (fun _ hz => nomatch hz), ⟨by decide, by decide⟩, by decide, w648, w485⟩ (i := 4) (lv' := [(0, va_rf a0), (1, .int a1), (2, .int a2), (3, .int a3)]) rfl (by decide) d_W_two_120 ?_
              refine r_sipush (v := (-1001 : Int32)) (by decide) d_W_two_122 ?_
              cases h
              exact r_iret rfl d_W_two_125
            replace h2 := kr_in_ c0 h2
            by_cases c1 : E = "java/lang/IllegalArgumentException"
            · subst c1
              replace h2 := kr_ip rfl h2
              clear h
              have h := h2
              clear h2
              refine r_callV (M1 := m_K_withdraw) (κ := 22) (As := [.int a2, .int a3]) eu10 (s_K_withdraw eS11) mok_K_withdraw rfl (by decide) rfl w966 w967 w968 (by decide) (kr_c8 kr_c0) d_W_two_49 kr_nk (kr_kx ?_)
              refine r_catch (hd := (0, 119, 126, 79)) [(0, 119, 120, 138)] [(0, 119, 132, 81)] ⟨rfl, (kr_pre ⟨"java/lang/IndexOutOfBoundsException", by decide, w648, by decide⟩ (fun _ hz => nomatch hz)), ⟨by decide, by decide⟩, by decide, w317, w331⟩ (i := 4) (lv' := [(0, va_rf a0), (1, .int a1), (2, .int a2), (3, .int a3)]) rfl (by decide) d_W_two_126 ?_
              refine r_sipush (v := (-1002 : Int32)) (by decide) d_W_two_128 ?_
              cases h
              exact r_iret rfl d_W_two_131
            replace h2 := kr_in_ c1 h2
            by_cases c2 : E = "java/lang/IllegalStateException"
            · subst c2
              replace h2 := kr_ip rfl h2
              clear h
              have h := h2
              clear h2
              refine r_callV (M1 := m_K_withdraw) (κ := 22) (As := [.int a2, .int a3]) eu10 (s_K_withdraw eS11) mok_K_withdraw rfl (by decide) rfl w966 w967 w968 (by decide) (kr_c8 kr_c0) d_W_two_49 kr_nk (kr_kx ?_)
              refine r_catch (hd := (0, 119, 132, 81)) [(0, 119, 120, 138), (0, 119, 126, 79)] [] ⟨rfl, (kr_pre ⟨"java/lang/IndexOutOfBoundsException", by decide, w648, by decide⟩ (kr_pre ⟨"java/lang/IllegalArgumentException", by decide, w317, by decide⟩ (fun _ hz => nomatch hz))), ⟨by decide, by decide⟩, by decide, w318, w397⟩ (i := 4) (lv' := [(0, va_rf a0), (1, .int a1), (2, .int a2), (3, .int a3)]) rfl (by decide) d_W_two_132 ?_
              refine r_sipush (v := (-1003 : Int32)) (by decide) d_W_two_134 ?_
              cases h
              exact r_iret rfl d_W_two_137
            replace h2 := kr_in_ c2 h2
            cases h2
        · replace h := kr_in_ c h
          refine r_iload_n (i := 1) (x := a1) 1 rfl d_W_two_55 ?_
          refine r_iconst (v := (4 : Int32)) (by decide) d_W_two_56 ?_
          refine r_icmp_ne (tgt := 69) d_W_two_57 rfl (fun c => ?_) (fun c => ?_)
          · replace h := kr_ip c h
            refine r_aload_n (i := 0) (x := a0) 0 rfl d_W_two_60 ?_
            refine r_iload_n (i := 2) (x := a2) 2 rfl d_W_two_61 ?_
            refine r_iload_n (i := 3) (x := a3) 3 rfl d_W_two_62 ?_
            have h2 := kr_ob h
            clear h
            obtain ⟨⟨⟩, eu13, h⟩ := h2
            rcases kr_obh h with ⟨v15, S14, eS14, h2⟩ | ⟨E, S14, eS14, h2⟩
            · clear h
              have h := h2
              clear h2
              refine r_callV (M1 := m_K_need) (κ := 22) (As := [.int a2, .int a3]) eu13 (s_K_need eS14) mok_K_need rfl (by decide) rfl w970 w971 w972 (by decide) (kr_c8 kr_c0) d_W_two_63 (kr_k1 ?_) kr_kn
              refine r_goto (tgt := 119) d_W_two_66 rfl ?_
              cases h
              exact r_iret rfl d_W_two_119
            · by_cases c0 : E = "java/lang/IndexOutOfBoundsException"
              · subst c0
                replace h2 := kr_ip rfl h2
                clear h
                have h := h2
                clear h2
                refine r_callV (M1 := m_K_need) (κ := 22) (As := [.int a2, .int a3]) eu13 (s_K_need eS14) mok_K_need rfl (by decide) rfl w970 w971 w972 (by decide) (kr_c8 kr_c0) d_W_two_63 kr_nk (kr_kx ?_)
                refine r_catch (hd := (0, 119, 120, 138)) [] [(0, 119, 126, 79), (0, 119, 132, 81)] ⟨rfl, (fun _ hz => nomatch hz), ⟨by decide, by decide⟩, by decide, w648, w485⟩ (i := 4) (lv' := [(0, va_rf a0), (1, .int a1), (2, .int a2), (3, .int a3)]) rfl (by decide) d_W_two_120 ?_
                refine r_sipush (v := (-1001 : Int32)) (by decide) d_W_two_122 ?_
                cases h
                exact r_iret rfl d_W_two_125
              replace h2 := kr_in_ c0 h2
              by_cases c1 : E = "java/lang/IllegalArgumentException"
              · subst c1
                replace h2 := kr_ip rfl h2
                clear h
                have h := h2
                clear h2
                refine r_callV (M1 := m_K_need) (κ := 22) (As := [.int a2, .int a3]) eu13 (s_K_need eS14) mok_K_need rfl (by decide) rfl w970 w971 w972 (by decide) (kr_c8 kr_c0) d_W_two_63 kr_nk (kr_kx ?_)
                refine r_catch (hd := (0, 119, 126, 79)) [(0, 119, 120, 138)] [(0, 119, 132, 81)] ⟨rfl, (kr_pre ⟨"java/lang/IndexOutOfBoundsException", by decide, w648, by decide⟩ (fun _ hz => nomatch hz)), ⟨by decide, by decide⟩, by decide, w317, w331⟩ (i := 4) (lv' := [(0, va_rf a0), (1, .int a1), (2, .int a2), (3, .int a3)]) rfl (by decide) d_W_two_126 ?_
                refine r_sipush (v := (-1002 : Int32)) (by decide) d_W_two_128 ?_
                cases h
                exact r_iret rfl d_W_two_131
              replace h2 := kr_in_ c1 h2
              by_cases c2 : E = "java/lang/IllegalStateException"
              · subst c2
                replace h2 := kr_ip rfl h2
                clear h
                have h := h2
                clear h2
                refine r_callV (M1 := m_K_need) (κ := 22) (As := [.int a2, .int a3]) eu13 (s_K_need eS14) mok_K_need rfl (by decide) rfl w970 w971 w972 (by decide) (kr_c8 kr_c0) d_W_two_63 kr_nk (kr_kx ?_)
                refine r_catch (hd := (0, 119, 132, 81)) [(0, 119, 120, 138), (0, 119, 126, 79)] [] ⟨rfl, (kr_pre ⟨"java/lang/IndexOutOfBoundsException", by decide, w648, by decide⟩ (kr_pre ⟨"java/lang/IllegalArgumentException", by decide, w317, by decide⟩ (fun _ hz => nomatch hz))), ⟨by decide, by decide⟩, by decide, w318, w397⟩ (i := 4) (lv' := [(0, va_rf a0), (1, .int a1), (2, .int a2), (3, .int a3)]) rfl (by decide) d_W_two_132 ?_
                refine r_sipush (v := (-1003 : Int32)) (by decide) d_W_two_134 ?_
                cases h
                exact r_iret rfl d_W_two_137
              replace h2 := kr_in_ c2 h2
              cases h2
          · replace h := kr_in_ c h
            refine r_iload_n (i := 1) (x := a1) 1 rfl d_W_two_69 ?_
            refine r_iconst (v := (5 : Int32)) (by decide) d_W_two_70 ?_
            refine r_icmp_ne (tgt := 83) d_W_two_71 rfl (fun c => ?_) (fun c => ?_)
            · replace h := kr_ip c h
              refine r_aload_n (i := 0) (x := a0) 0 rfl d_W_two_74 ?_
              refine r_iload_n (i := 2) (x := a2) 2 rfl d_W_two_75 ?_
              refine r_iload_n (i := 3) (x := a3) 3 rfl d_W_two_76 ?_
              have h2 := kr_ob h
              clear h
              obtain ⟨⟨⟩, eu16, h⟩ := h2
              rcases kr_obh h with ⟨v18, S17, eS17, h2⟩ | ⟨E, S17, eS17, h2⟩
              · clear h
                have h := h2
                clear h2
                refine r_callV (M1 := m_K_refresh) (κ := 22) (As := [.int a2, .int a3]) eu16 (s_K_refresh eS17) mok_K_refresh rfl (by decide) rfl w974 w975 w976 (by decide) (kr_c8 kr_c0) d_W_two_77 (kr_k1 ?_) kr_kn
                refine r_goto (tgt := 119) d_W_two_80 rfl ?_
                cases h
                exact r_iret rfl d_W_two_119
              · by_cases c0 : E = "java/lang/IndexOutOfBoundsException"
                · subst c0
                  replace h2 := kr_ip rfl h2
                  clear h
                  have h := h2
                  clear h2
                  refine r_callV (M1 := m_K_refresh) (κ := 22) (As := [.int a2, .int a3]) eu16 (s_K_refresh eS17) mok_K_refresh rfl (by decide) rfl w974 w975 w976 (by decide) (kr_c8 kr_c0) d_W_two_77 kr_nk (kr_kx ?_)
                  refine r_catch (hd := (0, 119, 120, 138)) [] [(0, 119, 126, 79), (0, 119, 132, 81)] ⟨rfl, (fun _ hz => nomatch hz), ⟨by decide, by decide⟩, by decide, w648, w485⟩ (i := 4) (lv' := [(0, va_rf a0), (1, .int a1), (2, .int a2), (3, .int a3)]) rfl (by decide) d_W_two_120 ?_
                  refine r_sipush (v := (-1001 : Int32)) (by decide) d_W_two_122 ?_
                  cases h
                  exact r_iret rfl d_W_two_125
                replace h2 := kr_in_ c0 h2
                by_cases c1 : E = "java/lang/IllegalArgumentException"
                · subst c1
                  replace h2 := kr_ip rfl h2
                  clear h
                  have h := h2
                  clear h2
                  refine r_callV (M1 := m_K_refresh) (κ := 22) (As := [.int a2, .int a3]) eu16 (s_K_refresh eS17) mok_K_refresh rfl (by decide) rfl w974 w975 w976 (by decide) (kr_c8 kr_c0) d_W_two_77 kr_nk (kr_kx ?_)
                  refine r_catch (hd := (0, 119, 126, 79)) [(0, 119, 120, 138)] [(0, 119, 132, 81)] ⟨rfl, (kr_pre ⟨"java/lang/IndexOutOfBoundsException", by decide, w648, by decide⟩ (fun _ hz => nomatch hz)), ⟨by decide, by decide⟩, by decide, w317, w331⟩ (i := 4) (lv' := [(0, va_rf a0), (1, .int a1), (2, .int a2), (3, .int a3)]) rfl (by decide) d_W_two_126 ?_
                  refine r_sipush (v := (-1002 : Int32)) (by decide) d_W_two_128 ?_
                  cases h
                  exact r_iret rfl d_W_two_131
                replace h2 := kr_in_ c1 h2
                by_cases c2 : E = "java/lang/IllegalStateException"
                · subst c2
                  replace h2 := kr_ip rfl h2
                  clear h
                  have h := h2
                  clear h2
                  refine r_callV (M1 := m_K_refresh) (κ := 22) (As := [.int a2, .int a3]) eu16 (s_K_refresh eS17) mok_K_refresh rfl (by decide) rfl w974 w975 w976 (by decide) (kr_c8 kr_c0) d_W_two_77 kr_nk (kr_kx ?_)
                  refine r_catch (hd := (0, 119, 132, 81)) [(0, 119, 120, 138), (0, 119, 126, 79)] [] ⟨rfl, (kr_pre ⟨"java/lang/IndexOutOfBoundsException", by decide, w648, by decide⟩ (kr_pre ⟨"java/lang/IllegalArgumentException", by decide, w317, by decide⟩ (fun _ hz => nomatch hz))), ⟨by decide, by decide⟩, by decide, w318, w397⟩ (i := 4) (lv' := [(0, va_rf a0), (1, .int a1), (2, .int a2), (3, .int a3)]) rfl (by decide) d_W_two_132 ?_
                  refine r_sipush (v := (-1003 : Int32)) (by decide) d_W_two_134 ?_
                  cases h
                  exact r_iret rfl d_W_two_137
                replace h2 := kr_in_ c2 h2
                cases h2
            · replace h := kr_in_ c h
              refine r_iload_n (i := 1) (x := a1) 1 rfl d_W_two_83 ?_
              refine r_bipush (v := (6 : Int32)) (by decide) d_W_two_84 ?_
              refine r_icmp_ne (tgt := 98) d_W_two_86 rfl (fun c => ?_) (fun c => ?_)
              · replace h := kr_ip c h
                refine r_aload_n (i := 0) (x := a0) 0 rfl d_W_two_89 ?_
                refine r_iload_n (i := 2) (x := a2) 2 rfl d_W_two_90 ?_
                refine r_iload_n (i := 3) (x := a3) 3 rfl d_W_two_91 ?_
                have h2 := kr_ob h
                clear h
                obtain ⟨⟨⟩, eu19, h⟩ := h2
                rcases kr_obh h with ⟨v21, S20, eS20, h2⟩ | ⟨E, S20, eS20, h2⟩
                · clear h
                  have h := h2
                  clear h2
                  refine r_callV (M1 := m_K_vouch) (κ := 22) (As := [.int a2, .int a3]) eu19 (s_K_vouch eS20) mok_K_vouch rfl (by decide) rfl w990 w991 w992 (by decide) (kr_c8 kr_c0) d_W_two_92 (kr_k1 ?_) kr_kn
                  refine r_goto (tgt := 119) d_W_two_95 rfl ?_
                  cases h
                  exact r_iret rfl d_W_two_119
                · by_cases c0 : E = "java/lang/IndexOutOfBoundsException"
                  · subst c0
                    replace h2 := kr_ip rfl h2
                    clear h
                    have h := h2
                    clear h2
                    refine r_callV (M1 := m_K_vouch) (κ := 22) (As := [.int a2, .int a3]) eu19 (s_K_vouch eS20) mok_K_vouch rfl (by decide) rfl w990 w991 w992 (by decide) (kr_c8 kr_c0) d_W_two_92 kr_nk (kr_kx ?_)
                    refine r_catch (hd := (0, 119, 120, 138)) [] [(0, 119, 126, 79), (0, 119, 132, 81)] ⟨rfl, (fun _ hz => nomatch hz), ⟨by decide, by decide⟩, by decide, w648, w485⟩ (i := 4) (lv' := [(0, va_rf a0), (1, .int a1), (2, .int a2), (3, .int a3)]) rfl (by decide) d_W_two_120 ?_
                    refine r_sipush (v := (-1001 : Int32)) (by decide) d_W_two_122 ?_
                    cases h
                    exact r_iret rfl d_W_two_125
                  replace h2 := kr_in_ c0 h2
                  by_cases c1 : E = "java/lang/IllegalArgumentException"
                  · subst c1
                    replace h2 := kr_ip rfl h2
                    clear h
                    have h := h2
                    clear h2
                    refine r_callV (M1 := m_K_vouch) (κ := 22) (As := [.int a2, .int a3]) eu19 (s_K_vouch eS20) mok_K_vouch rfl (by decide) rfl w990 w991 w992 (by decide) (kr_c8 kr_c0) d_W_two_92 kr_nk (kr_kx ?_)
                    refine r_catch (hd := (0, 119, 126, 79)) [(0, 119, 120, 138)] [(0, 119, 132, 81)] ⟨rfl, (kr_pre ⟨"java/lang/IndexOutOfBoundsException", by decide, w648, by decide⟩ (fun _ hz => nomatch hz)), ⟨by decide, by decide⟩, by decide, w317, w331⟩ (i := 4) (lv' := [(0, va_rf a0), (1, .int a1), (2, .int a2), (3, .int a3)]) rfl (by decide) d_W_two_126 ?_
                    refine r_sipush (v := (-1002 : Int32)) (by decide) d_W_two_128 ?_
                    cases h
                    exact r_iret rfl d_W_two_131
                  replace h2 := kr_in_ c1 h2
                  by_cases c2 : E = "java/lang/IllegalStateException"
                  · subst c2
                    replace h2 := kr_ip rfl h2
                    clear h
                    have h := h2
                    clear h2
                    refine r_callV (M1 := m_K_vouch) (κ := 22) (As := [.int a2, .int a3]) eu19 (s_K_vouch eS20) mok_K_vouch rfl (by decide) rfl w990 w991 w992 (by decide) (kr_c8 kr_c0) d_W_two_92 kr_nk (kr_kx ?_)
                    refine r_catch (hd := (0, 119, 132, 81)) [(0, 119, 120, 138), (0, 119, 126, 79)] [] ⟨rfl, (kr_pre ⟨"java/lang/IndexOutOfBoundsException", by decide, w648, by decide⟩ (kr_pre ⟨"java/lang/IllegalArgumentException", by decide, w317, by decide⟩ (fun _ hz => nomatch hz))), ⟨by decide, by decide⟩, by decide, w318, w397⟩ (i := 4) (lv' := [(0, va_rf a0), (1, .int a1), (2, .int a2), (3, .int a3)]) rfl (by decide) d_W_two_132 ?_
                    refine r_sipush (v := (-1003 : Int32)) (by decide) d_W_two_134 ?_
                    cases h
                    exact r_iret rfl d_W_two_137
                  replace h2 := kr_in_ c2 h2
                  cases h2
              · replace h := kr_in_ c h
                refine r_iload_n (i := 1) (x := a1) 1 rfl d_W_two_98 ?_
                refine r_bipush (v := (7 : Int32)) (by decide) d_W_two_99 ?_
                refine r_icmp_ne (tgt := 113) d_W_two_101 rfl (fun c => ?_) (fun c => ?_)
                · replace h := kr_ip c h
                  refine r_aload_n (i := 0) (x := a0) 0 rfl d_W_two_104 ?_
                  refine r_iload_n (i := 2) (x := a2) 2 rfl d_W_two_105 ?_
                  refine r_iload_n (i := 3) (x := a3) 3 rfl d_W_two_106 ?_
                  have h2 := kr_ob h
                  clear h
                  obtain ⟨⟨⟩, eu22, h⟩ := h2
                  rcases kr_obh h with ⟨v24, S23, eS23, h2⟩ | ⟨E, S23, eS23, h2⟩
                  · clear h
                    have h := h2
                    clear h2
                    refine r_callV (M1 := m_K_stop) (κ := 22) (As := [.int a2, .int a3]) eu22 (s_K_stop eS23) mok_K_stop rfl (by decide) rfl w999 w1000 w1001 (by decide) (kr_c8 kr_c0) d_W_two_107 (kr_k1 ?_) kr_kn
                    refine r_goto (tgt := 119) d_W_two_110 rfl ?_
                    cases h
                    exact r_iret rfl d_W_two_119
                  · by_cases c0 : E = "java/lang/IndexOutOfBoundsException"
                    · subst c0
                      replace h2 := kr_ip rfl h2
                      clear h
                      have h := h2
                      clear h2
                      refine r_callV (M1 := m_K_stop) (κ := 22) (As := [.int a2, .int a3]) eu22 (s_K_stop eS23) mok_K_stop rfl (by decide) rfl w999 w1000 w1001 (by decide) (kr_c8 kr_c0) d_W_two_107 kr_nk (kr_kx ?_)
                      refine r_catch (hd := (0, 119, 120, 138)) [] [(0, 119, 126, 79), (0, 119, 132, 81)] ⟨rfl, (fun _ hz => nomatch hz), ⟨by decide, by decide⟩, by decide, w648, w485⟩ (i := 4) (lv' := [(0, va_rf a0), (1, .int a1), (2, .int a2), (3, .int a3)]) rfl (by decide) d_W_two_120 ?_
                      refine r_sipush (v := (-1001 : Int32)) (by decide) d_W_two_122 ?_
                      cases h
                      exact r_iret rfl d_W_two_125
                    replace h2 := kr_in_ c0 h2
                    by_cases c1 : E = "java/lang/IllegalArgumentException"
                    · subst c1
                      replace h2 := kr_ip rfl h2
                      clear h
                      have h := h2
                      clear h2
                      refine r_callV (M1 := m_K_stop) (κ := 22) (As := [.int a2, .int a3]) eu22 (s_K_stop eS23) mok_K_stop rfl (by decide) rfl w999 w1000 w1001 (by decide) (kr_c8 kr_c0) d_W_two_107 kr_nk (kr_kx ?_)
                      refine r_catch (hd := (0, 119, 126, 79)) [(0, 119, 120, 138)] [(0, 119, 132, 81)] ⟨rfl, (kr_pre ⟨"java/lang/IndexOutOfBoundsException", by decide, w648, by decide⟩ (fun _ hz => nomatch hz)), ⟨by decide, by decide⟩, by decide, w317, w331⟩ (i := 4) (lv' := [(0, va_rf a0), (1, .int a1), (2, .int a2), (3, .int a3)]) rfl (by decide) d_W_two_126 ?_
                      refine r_sipush (v := (-1002 : Int32)) (by decide) d_W_two_128 ?_
                      cases h
                      exact r_iret rfl d_W_two_131
                    replace h2 := kr_in_ c1 h2
                    by_cases c2 : E = "java/lang/IllegalStateException"
                    · subst c2
                      replace h2 := kr_ip rfl h2
                      clear h
                      have h := h2
                      clear h2
                      refine r_callV (M1 := m_K_stop) (κ := 22) (As := [.int a2, .int a3]) eu22 (s_K_stop eS23) mok_K_stop rfl (by decide) rfl w999 w1000 w1001 (by decide) (kr_c8 kr_c0) d_W_two_107 kr_nk (kr_kx ?_)
                      refine r_catch (hd := (0, 119, 132, 81)) [(0, 119, 120, 138), (0, 119, 126, 79)] [] ⟨rfl, (kr_pre ⟨"java/lang/IndexOutOfBoundsException", by decide, w648, by decide⟩ (kr_pre ⟨"java/lang/IllegalArgumentException", by decide, w317, by decide⟩ (fun _ hz => nomatch hz))), ⟨by decide, by decide⟩, by decide, w318, w397⟩ (i := 4) (lv' := [(0, va_rf a0), (1, .int a1), (2, .int a2), (3, .int a3)]) rfl (by decide) d_W_two_132 ?_
                      refine r_sipush (v := (-1003 : Int32)) (by decide) d_W_two_134 ?_
                      cases h
                      exact r_iret rfl d_W_two_137
                    replace h2 := kr_in_ c2 h2
                    cases h2
                · replace h := kr_in_ c h
                  refine r_aload_n (i := 0) (x := a0) 0 rfl d_W_two_113 ?_
                  refine r_iload_n (i := 2) (x := a2) 2 rfl d_W_two_114 ?_
                  refine r_iload_n (i := 3) (x := a3) 3 rfl d_W_two_115 ?_
                  have h2 := kr_ob h
                  clear h
                  obtain ⟨⟨⟩, eu25, h⟩ := h2
                  rcases kr_obh h with ⟨v27, S26, eS26, h2⟩ | ⟨E, S26, eS26, h2⟩
                  · clear h
                    have h := h2
                    clear h2
                    refine r_callV (M1 := m_K_link) (κ := 22) (As := [.int a2, .int a3]) eu25 (s_K_link eS26) mok_K_link rfl (by decide) rfl w1013 w1014 w1015 (by decide) (kr_c8 kr_c0) d_W_two_116 (kr_k1 ?_) kr_kn
                    cases h
                    exact r_iret rfl d_W_two_119
                  · by_cases c0 : E = "java/lang/IndexOutOfBoundsException"
                    · subst c0
                      replace h2 := kr_ip rfl h2
                      clear h
                      have h := h2
                      clear h2
                      refine r_callV (M1 := m_K_link) (κ := 22) (As := [.int a2, .int a3]) eu25 (s_K_link eS26) mok_K_link rfl (by decide) rfl w1013 w1014 w1015 (by decide) (kr_c8 kr_c0) d_W_two_116 kr_nk (kr_kx ?_)
                      refine r_catch (hd := (0, 119, 120, 138)) [] [(0, 119, 126, 79), (0, 119, 132, 81)] ⟨rfl, (fun _ hz => nomatch hz), ⟨by decide, by decide⟩, by decide, w648, w485⟩ (i := 4) (lv' := [(0, va_rf a0), (1, .int a1), (2, .int a2), (3, .int a3)]) rfl (by decide) d_W_two_120 ?_
                      refine r_sipush (v := (-1001 : Int32)) (by decide) d_W_two_122 ?_
                      cases h
                      exact r_iret rfl d_W_two_125
                    replace h2 := kr_in_ c0 h2
                    by_cases c1 : E = "java/lang/IllegalArgumentException"
                    · subst c1
                      replace h2 := kr_ip rfl h2
                      clear h
                      have h := h2
                      clear h2
                      refine r_callV (M1 := m_K_link) (κ := 22) (As := [.int a2, .int a3]) eu25 (s_K_link eS26) mok_K_link rfl (by decide) rfl w1013 w1014 w1015 (by decide) (kr_c8 kr_c0) d_W_two_116 kr_nk (kr_kx ?_)
                      refine r_catch (hd := (0, 119, 126, 79)) [(0, 119, 120, 138)] [(0, 119, 132, 81)] ⟨rfl, (kr_pre ⟨"java/lang/IndexOutOfBoundsException", by decide, w648, by decide⟩ (fun _ hz => nomatch hz)), ⟨by decide, by decide⟩, by decide, w317, w331⟩ (i := 4) (lv' := [(0, va_rf a0), (1, .int a1), (2, .int a2), (3, .int a3)]) rfl (by decide) d_W_two_126 ?_
                      refine r_sipush (v := (-1002 : Int32)) (by decide) d_W_two_128 ?_
                      cases h
                      exact r_iret rfl d_W_two_131
                    replace h2 := kr_in_ c1 h2
                    by_cases c2 : E = "java/lang/IllegalStateException"
                    · subst c2
                      replace h2 := kr_ip rfl h2
                      clear h
                      have h := h2
                      clear h2
                      refine r_callV (M1 := m_K_link) (κ := 22) (As := [.int a2, .int a3]) eu25 (s_K_link eS26) mok_K_link rfl (by decide) rfl w1013 w1014 w1015 (by decide) (kr_c8 kr_c0) d_W_two_116 kr_nk (kr_kx ?_)
                      refine r_catch (hd := (0, 119, 132, 81)) [(0, 119, 120, 138), (0, 119, 126, 79)] [] ⟨rfl, (kr_pre ⟨"java/lang/IndexOutOfBoundsException", by decide, w648, by decide⟩ (kr_pre ⟨"java/lang/IllegalArgumentException", by decide, w317, by decide⟩ (fun _ hz => nomatch hz))), ⟨by decide, by decide⟩, by decide, w318, w397⟩ (i := 4) (lv' := [(0, va_rf a0), (1, .int a1), (2, .int a2), (3, .int a3)]) rfl (by decide) d_W_two_132 ?_
                      refine r_sipush (v := (-1003 : Int32)) (by decide) d_W_two_134 ?_
                      cases h
                      exact r_iret rfl d_W_two_137
                    replace h2 := kr_in_ c2 h2
                    cases h2
theorem gg_W_two_gs {S : AS} {w a0 a1 : Int32} : gs S (gg_W_two S w a0 a1) := gs_if gmo_gs (gs_if gmo_gs (gs_if gmo_gs (gs_if gmo_gs (gs_if gmo_gs (gs_if gmo_gs (gs_if gmo_gs (gs_if gmo_gs (gmo_gs))))))))
theorem s_W_twog {S : AS} {a0 : Option Nat} {a1 a2 a3 : Int32} {r : Int32 × AS} (h : f_W_twog S a0 a1 a2 a3 = some r) : kr_Con m_W_two 11 [va_rf a0, .int a1, .int a2, .int a3] S (kr_eI r) := by
  unfold f_W_twog at h
  obtain ⟨v, S1, e, h⟩ := kr_ob2 h
  cases h
  refine kr_conH rfl (by decide) (by decide +kernel) (by simp [lg_sl, kr_rfcat, kr_icat, m_W_two, mL]) ?_
  rw [show lv_args 0 [va_rf a0, .int a1, .int a2, .int a3] = [(0, va_rf a0), (1, .int a1), (2, .int a2), (3, .int a3)] from by simp [lv_args, kr_rfcat, kr_icat]]
  exact kr_AWg (s_W_two e) gg_W_two_gs
/-! KeyringCourtLaw.risk([I[I[II)I -/
def f_W_risk_B102 (k60 : AS → Option Nat → Option Nat → Int32 → Int32 → Int32 → Option (Int32 × AS)) (S : AS) (x0 : Option Nat) (x1 : Option Nat) (x4 : Int32) (x6 : Int32) (y0 : Int32) (y1 : Int32) : Option (Int32 × AS) :=
  (some (y0 + y1)).bind fun i1 =>
  (some (x6 + (1 : Int32))).bind fun i2 =>
  k60 S x0 x1 x4 i1 i2
def f_W_risk_B101 (k60 : AS → Option Nat → Option Nat → Int32 → Int32 → Int32 → Option (Int32 × AS)) (S : AS) (x0 : Option Nat) (x1 : Option Nat) (x4 : Int32) (x6 : Int32) (y0 : Int32) : Option (Int32 × AS) :=
  f_W_risk_B102 k60 S x0 x1 x4 x6 y0 (0 : Int32)
def f_W_risk_C60 (k60 : AS → Option Nat → Option Nat → Int32 → Int32 → Int32 → Option (Int32 × AS)) (S : AS) (x0 : Option Nat) (x1 : Option Nat) (x4 : Int32) (x5 : Int32) (x6 : Int32) : Option (Int32 × AS) :=
  if (10 : Int32) ≤ x6 then
  some (x5, S)
  else
  (aI S 40 x1 (x4 + x6)).bind fun v3 =>
  if v3 ≤ 0 then
  f_W_risk_B101 k60 S x0 x1 x4 x6 x5
  else
  (aI S 40 x1 (x4 + x6)).bind fun v4 =>
  (aI S 40 x0 (0 : Int32)).bind fun v5 =>
  if (v4 - (1 : Int32)) ≤ (v5 - (60 : Int32)) then
  f_W_risk_B101 k60 S x0 x1 x4 x6 x5
  else
  f_W_risk_B102 k60 S x0 x1 x4 x6 x5 (1 : Int32)
def f_W_risk_L60 : Nat → AS → Option Nat → Option Nat → Int32 → Int32 → Int32 → Option (Int32 × AS)
  | 0, S, x0, x1, x4, x5, x6 => none
  | n + 1, S, x0, x1, x4, x5, x6 => f_W_risk_C60 (f_W_risk_L60 n) S x0 x1 x4 x5 x6
def f_W_risk (S : AS) (a0 : Option Nat) (a1 : Option Nat) (a2 : Option Nat) (a3 : Int32) : Option (Int32 × AS) :=
  (aI S 40 a2 ((6 : Int32) * a3)).bind fun v6 =>
  (some ((12 : Int32) * v6)).bind fun i7 =>
  (aI S 40 a1 (i7 + (10 : Int32))).bind fun v8 =>
  (aI S 40 a2 (((6 : Int32) * a3) + (1 : Int32))).bind fun v9 =>
  (aI S 40 a1 (i7 + (11 : Int32))).bind fun v10 =>
  (aI S 40 a2 (((6 : Int32) * a3) + (2 : Int32))).bind fun v11 =>
  (some ((((2 : Int32) - ((2 : Int32) * ((v8 >>> (v9 &&& 31)) &&& (1 : Int32)))) + (1 : Int32)) - ((v10 >>> (v11 &&& 31)) &&& (1 : Int32)))).bind fun i12 =>
  f_W_risk_L60 kr_FU S a0 a1 i7 i12 (7 : Int32)
set_option maxRecDepth 20000 in
set_option maxHeartbeats 4000000 in
theorem s_W_risk_B102 {k60 : AS → Option Nat → Option Nat → Int32 → Int32 → Int32 → Option (Int32 × AS)} (hk60 : ∀ {S : AS} {x0 : Option Nat} {x1 : Option Nat} {x4 : Int32} {x5 : Int32} {x6 : Int32} {r : (Int32 × AS)}, k60 S x0 x1 x4 x5 x6 = some r → kr_AW m_W_risk 0 60 [(0, va_rf x0), (1, va_rf x1), (4, .int x4), (5, .int x5), (6, .int x6)] [] S (kr_eI r)) {S : AS} {x0 : Option Nat} {x1 : Option Nat} {x4 : Int32} {x6 : Int32} {y0 : Int32} {y1 : Int32} {r : (Int32 × AS)} (h : f_W_risk_B102 k60 S x0 x1 x4 x6 y0 y1 = some r) : kr_AW m_W_risk 0 102 [(0, va_rf x0), (1, va_rf x1), (4, .int x4), (6, .int x6)] [.int y1, .int y0] S (kr_eI r) := by
  unfold f_W_risk_B102 at h
  refine r_iadd d_W_risk_102 ?_
  have h2 := kr_ob h
  clear h
  obtain ⟨i1, ei1, h⟩ := h2
  refine kr_nmI ei1 ?_
  refine r_istore (i := 5) (lv' := [(5, .int i1), (0, va_rf x0), (1, va_rf x1), (4, .int x4), (6, .int x6)]) (by decide) rfl d_W_risk_103 ?_
  have h2 := kr_ob h
  clear h
  obtain ⟨i2, ei2, h⟩ := h2
  refine r_iinc (v := i2) (lv' := [(6, .int i2), (5, .int i1), (0, va_rf x0), (1, va_rf x1), (4, .int x4)]) 4 rfl (kr_inc (by decide) ei2) (by decide) rfl d_W_risk_105 ?_
  refine r_goto (tgt := 60) d_W_risk_108 rfl ?_
  exact kr_sub [2, 3, 4, 1, 0] rfl (hk60 h)
set_option maxRecDepth 20000 in
set_option maxHeartbeats 4000000 in
theorem s_W_risk_B101 {k60 : AS → Option Nat → Option Nat → Int32 → Int32 → Int32 → Option (Int32 × AS)} (hk60 : ∀ {S : AS} {x0 : Option Nat} {x1 : Option Nat} {x4 : Int32} {x5 : Int32} {x6 : Int32} {r : (Int32 × AS)}, k60 S x0 x1 x4 x5 x6 = some r → kr_AW m_W_risk 0 60 [(0, va_rf x0), (1, va_rf x1), (4, .int x4), (5, .int x5), (6, .int x6)] [] S (kr_eI r)) {S : AS} {x0 : Option Nat} {x1 : Option Nat} {x4 : Int32} {x6 : Int32} {y0 : Int32} {r : (Int32 × AS)} (h : f_W_risk_B101 k60 S x0 x1 x4 x6 y0 = some r) : kr_AW m_W_risk 0 101 [(0, va_rf x0), (1, va_rf x1), (4, .int x4), (6, .int x6)] [.int y0] S (kr_eI r) := by
  unfold f_W_risk_B101 at h
  refine r_iconst (v := (0 : Int32)) (by decide) d_W_risk_101 ?_
  exact kr_sub [0, 1, 2, 3] rfl (s_W_risk_B102 hk60 h)
set_option maxRecDepth 20000 in
set_option maxHeartbeats 4000000 in
theorem s_W_risk_C60 {k60 : AS → Option Nat → Option Nat → Int32 → Int32 → Int32 → Option (Int32 × AS)} (hk60 : ∀ {S : AS} {x0 : Option Nat} {x1 : Option Nat} {x4 : Int32} {x5 : Int32} {x6 : Int32} {r : (Int32 × AS)}, k60 S x0 x1 x4 x5 x6 = some r → kr_AW m_W_risk 0 60 [(0, va_rf x0), (1, va_rf x1), (4, .int x4), (5, .int x5), (6, .int x6)] [] S (kr_eI r)) {S : AS} {x0 : Option Nat} {x1 : Option Nat} {x4 : Int32} {x5 : Int32} {x6 : Int32} {r : (Int32 × AS)} (h : f_W_risk_C60 k60 S x0 x1 x4 x5 x6 = some r) : kr_AW m_W_risk 0 60 [(0, va_rf x0), (1, va_rf x1), (4, .int x4), (5, .int x5), (6, .int x6)] [] S (kr_eI r) := by
  unfold f_W_risk_C60 at h
  refine r_iload (i := 6) (x := x6) 4 rfl d_W_risk_60 ?_
  refine r_bipush (v := (10 : Int32)) (by decide) d_W_risk_62 ?_
  refine r_icmp_ge (tgt := 111) d_W_risk_64 rfl (fun c => ?_) (fun c => ?_)
  · replace h := kr_ip c h
    refine r_iload (i := 5) (x := x5) 3 rfl d_W_risk_111 ?_
    cases h
    exact r_iret rfl d_W_risk_113
  · replace h := kr_in_ c h
    refine r_iload (i := 5) (x := x5) 3 rfl d_W_risk_67 ?_
    refine r_aload_n (i := 1) (x := x1) 1 rfl d_W_risk_69 ?_
    refine r_iload (i := 4) (x := x4) 2 rfl d_W_risk_70 ?_
    refine r_iload (i := 6) (x := x6) 4 rfl d_W_risk_72 ?_
    refine r_iadd d_W_risk_74 ?_
    have h2 := kr_ob h
    clear h
    obtain ⟨v3, ev3, h⟩ := h2
    refine r_iaload ev3 d_W_risk_75 ?_
    refine r_if_le (tgt := 101) d_W_risk_76 rfl (fun c => ?_) (fun c => ?_)
    · replace h := kr_ip c h
      exact kr_sub [0, 1, 2, 4] rfl (s_W_risk_B101 hk60 h)
    · replace h := kr_in_ c h
      refine r_aload_n (i := 1) (x := x1) 1 rfl d_W_risk_79 ?_
      refine r_iload (i := 4) (x := x4) 2 rfl d_W_risk_80 ?_
      refine r_iload (i := 6) (x := x6) 4 rfl d_W_risk_82 ?_
      refine r_iadd d_W_risk_84 ?_
      have h2 := kr_ob h
      clear h
      obtain ⟨v4, ev4, h⟩ := h2
      refine r_iaload ev4 d_W_risk_85 ?_
      refine r_iconst (v := (1 : Int32)) (by decide) d_W_risk_86 ?_
      refine r_isub d_W_risk_87 ?_
      refine r_aload_n (i := 0) (x := x0) 0 rfl d_W_risk_88 ?_
      refine r_iconst (v := (0 : Int32)) (by decide) d_W_risk_89 ?_
      have h2 := kr_ob h
      clear h
      obtain ⟨v5, ev5, h⟩ := h2
      refine r_iaload ev5 d_W_risk_90 ?_
      refine r_bipush (v := (60 : Int32)) (by decide) d_W_risk_91 ?_
      refine r_isub d_W_risk_93 ?_
      refine r_icmp_le (tgt := 101) d_W_risk_94 rfl (fun c => ?_) (fun c => ?_)
      · replace h := kr_ip c h
        exact kr_sub [0, 1, 2, 4] rfl (s_W_risk_B101 hk60 h)
      · replace h := kr_in_ c h
        refine r_iconst (v := (1 : Int32)) (by decide) d_W_risk_97 ?_
        refine r_goto (tgt := 102) d_W_risk_98 rfl ?_
        exact kr_sub [0, 1, 2, 4] rfl (s_W_risk_B102 hk60 h)
theorem s_W_risk_L60 (n : Nat) : ∀ {S : AS} {x0 : Option Nat} {x1 : Option Nat} {x4 : Int32} {x5 : Int32} {x6 : Int32} {r : (Int32 × AS)}, f_W_risk_L60 n S x0 x1 x4 x5 x6 = some r → kr_AW m_W_risk 0 60 [(0, va_rf x0), (1, va_rf x1), (4, .int x4), (5, .int x5), (6, .int x6)] [] S (kr_eI r) := by
  induction n with
  | zero => intro S x0 x1 x4 x5 x6 r h; cases h
  | succ n ih => intro S x0 x1 x4 x5 x6 r h; exact s_W_risk_C60 (fun {_} {_} {_} {_} {_} {_} {_} h => ih h) h
set_option maxRecDepth 20000 in
set_option maxHeartbeats 4000000 in
theorem s_W_risk {S : AS} {a0 : Option Nat} {a1 : Option Nat} {a2 : Option Nat} {a3 : Int32} {r : (Int32 × AS)} (h : f_W_risk S a0 a1 a2 a3 = some r) : kr_Con m_W_risk 0 [va_rf a0, va_rf a1, va_rf a2, .int a3] S (kr_eI r) := by
  refine kr_con rfl rfl (by decide +kernel) (by simp [lg_sl, kr_rfcat, kr_icat, m_W_risk, mL]) ?_
  rw [show lv_args 0 [va_rf a0, va_rf a1, va_rf a2, .int a3] = [(0, va_rf a0), (1, va_rf a1), (2, va_rf a2), (3, .int a3)] from by simp [lv_args, kr_rfcat, kr_icat]]
  unfold f_W_risk at h
  refine r_bipush (v := (12 : Int32)) (by decide) d_W_risk_0 ?_
  refine r_aload_n (i := 2) (x := a2) 2 rfl d_W_risk_2 ?_
  refine r_bipush (v := (6 : Int32)) (by decide) d_W_risk_3 ?_
  refine r_iload_n (i := 3) (x := a3) 3 rfl d_W_risk_5 ?_
  refine r_imul d_W_risk_6 ?_
  have h2 := kr_ob h
  clear h
  obtain ⟨v6, ev6, h⟩ := h2
  refine r_iaload ev6 d_W_risk_7 ?_
  refine r_imul d_W_risk_8 ?_
  have h2 := kr_ob h
  clear h
  obtain ⟨i7, ei7, h⟩ := h2
  refine kr_nmI ei7 ?_
  refine r_istore (i := 4) (lv' := [(4, .int i7), (0, va_rf a0), (1, va_rf a1), (2, va_rf a2), (3, .int a3)]) (by decide) rfl d_W_risk_9 ?_
  refine r_iconst (v := (2 : Int32)) (by decide) d_W_risk_11 ?_
  refine r_iconst (v := (2 : Int32)) (by decide) d_W_risk_12 ?_
  refine r_aload_n (i := 1) (x := a1) 2 rfl d_W_risk_13 ?_
  refine r_iload (i := 4) (x := i7) 0 rfl d_W_risk_14 ?_
  refine r_bipush (v := (10 : Int32)) (by decide) d_W_risk_16 ?_
  refine r_iadd d_W_risk_18 ?_
  have h2 := kr_ob h
  clear h
  obtain ⟨v8, ev8, h⟩ := h2
  refine r_iaload ev8 d_W_risk_19 ?_
  refine r_aload_n (i := 2) (x := a2) 3 rfl d_W_risk_20 ?_
  refine r_bipush (v := (6 : Int32)) (by decide) d_W_risk_21 ?_
  refine r_iload_n (i := 3) (x := a3) 4 rfl d_W_risk_23 ?_
  refine r_imul d_W_risk_24 ?_
  refine r_iconst (v := (1 : Int32)) (by decide) d_W_risk_25 ?_
  refine r_iadd d_W_risk_26 ?_
  have h2 := kr_ob h
  clear h
  obtain ⟨v9, ev9, h⟩ := h2
  refine r_iaload ev9 d_W_risk_27 ?_
  refine r_ishr d_W_risk_28 ?_
  refine r_iconst (v := (1 : Int32)) (by decide) d_W_risk_29 ?_
  refine r_iand d_W_risk_30 ?_
  refine r_imul d_W_risk_31 ?_
  refine r_isub d_W_risk_32 ?_
  refine r_iconst (v := (1 : Int32)) (by decide) d_W_risk_33 ?_
  refine r_iadd d_W_risk_34 ?_
  refine r_aload_n (i := 1) (x := a1) 2 rfl d_W_risk_35 ?_
  refine r_iload (i := 4) (x := i7) 0 rfl d_W_risk_36 ?_
  refine r_bipush (v := (11 : Int32)) (by decide) d_W_risk_38 ?_
  refine r_iadd d_W_risk_40 ?_
  have h2 := kr_ob h
  clear h
  obtain ⟨v10, ev10, h⟩ := h2
  refine r_iaload ev10 d_W_risk_41 ?_
  refine r_aload_n (i := 2) (x := a2) 3 rfl d_W_risk_42 ?_
  refine r_bipush (v := (6 : Int32)) (by decide) d_W_risk_43 ?_
  refine r_iload_n (i := 3) (x := a3) 4 rfl d_W_risk_45 ?_
  refine r_imul d_W_risk_46 ?_
  refine r_iconst (v := (2 : Int32)) (by decide) d_W_risk_47 ?_
  refine r_iadd d_W_risk_48 ?_
  have h2 := kr_ob h
  clear h
  obtain ⟨v11, ev11, h⟩ := h2
  refine r_iaload ev11 d_W_risk_49 ?_
  refine r_ishr d_W_risk_50 ?_
  refine r_iconst (v := (1 : Int32)) (by decide) d_W_risk_51 ?_
  refine r_iand d_W_risk_52 ?_
  refine r_isub d_W_risk_53 ?_
  have h2 := kr_ob h
  clear h
  obtain ⟨i12, ei12, h⟩ := h2
  refine kr_nmI ei12 ?_
  refine r_istore (i := 5) (lv' := [(5, .int i12), (4, .int i7), (0, va_rf a0), (1, va_rf a1), (2, va_rf a2), (3, .int a3)]) (by decide) rfl d_W_risk_54 ?_
  refine r_bipush (v := (7 : Int32)) (by decide) d_W_risk_56 ?_
  refine r_istore (i := 6) (lv' := [(6, .int (7 : Int32)), (5, .int i12), (4, .int i7), (0, va_rf a0), (1, va_rf a1), (2, va_rf a2), (3, .int a3)]) (by decide) rfl d_W_risk_58 ?_
  exact kr_sub [3, 4, 2, 1, 0] rfl (s_W_risk_L60 kr_FU h)
/-! KeyringCourtLaw.level(III)I -/
def f_W_level_B18 (S : AS) (x2 : Int32) (y0 : Int32) (y1 : Int32) : Option (Int32 × AS) :=
  if x2 < 0 then
  some ((y0 + y1) + (0 : Int32), S)
  else
  some ((y0 + y1) + (3 : Int32), S)
def f_W_level_B9 (S : AS) (x1 : Int32) (x2 : Int32) (y0 : Int32) : Option (Int32 × AS) :=
  if x1 < 0 then
  f_W_level_B18 S x2 y0 (0 : Int32)
  else
  f_W_level_B18 S x2 y0 (2 : Int32)
def f_W_level (S : AS) (a0 : Int32) (a1 : Int32) (a2 : Int32) : Option (Int32 × AS) :=
  if a0 < 0 then
  f_W_level_B9 S a1 a2 (0 : Int32)
  else
  f_W_level_B9 S a1 a2 (1 : Int32)
set_option maxRecDepth 20000 in
set_option maxHeartbeats 4000000 in
theorem s_W_level_B18 {S : AS} {x2 : Int32} {y0 : Int32} {y1 : Int32} {r : (Int32 × AS)} (h : f_W_level_B18 S x2 y0 y1 = some r) : kr_AW m_W_level 0 18 [(2, .int x2)] [.int y1, .int y0] S (kr_eI r) := by
  unfold f_W_level_B18 at h
  refine r_iadd d_W_level_18 ?_
  refine r_iload_n (i := 2) (x := x2) 0 rfl d_W_level_19 ?_
  refine r_if_lt (tgt := 27) d_W_level_20 rfl (fun c => ?_) (fun c => ?_)
  · replace h := kr_ip c h
    refine r_iconst (v := (0 : Int32)) (by decide) d_W_level_27 ?_
    refine r_iadd d_W_level_28 ?_
    cases h
    exact r_iret rfl d_W_level_29
  · replace h := kr_in_ c h
    refine r_iconst (v := (3 : Int32)) (by decide) d_W_level_23 ?_
    refine r_goto (tgt := 28) d_W_level_24 rfl ?_
    refine r_iadd d_W_level_28 ?_
    cases h
    exact r_iret rfl d_W_level_29
set_option maxRecDepth 20000 in
set_option maxHeartbeats 4000000 in
theorem s_W_level_B9 {S : AS} {x1 : Int32} {x2 : Int32} {y0 : Int32} {r : (Int32 × AS)} (h : f_W_level_B9 S x1 x2 y0 = some r) : kr_AW m_W_level 0 9 [(1, .int x1), (2, .int x2)] [.int y0] S (kr_eI r) := by
  unfold f_W_level_B9 at h
  refine r_iload_n (i := 1) (x := x1) 0 rfl d_W_level_9 ?_
  refine r_if_lt (tgt := 17) d_W_level_10 rfl (fun c => ?_) (fun c => ?_)
  · replace h := kr_ip c h
    refine r_iconst (v := (0 : Int32)) (by decide) d_W_level_17 ?_
    exact kr_sub [1] rfl (s_W_level_B18 h)
  · replace h := kr_in_ c h
    refine r_iconst (v := (2 : Int32)) (by decide) d_W_level_13 ?_
    refine r_goto (tgt := 18) d_W_level_14 rfl ?_
    exact kr_sub [1] rfl (s_W_level_B18 h)
set_option maxRecDepth 20000 in
set_option maxHeartbeats 4000000 in
theorem s_W_level {S : AS} {a0 : Int32} {a1 : Int32} {a2 : Int32} {r : (Int32 × AS)} (h : f_W_level S a0 a1 a2 = some r) : kr_Con m_W_level 0 [.int a0, .int a1, .int a2] S (kr_eI r) := by
  refine kr_con rfl rfl (by decide +kernel) (by simp [lg_sl, kr_rfcat, kr_icat, m_W_level, mL]) ?_
  rw [show lv_args 0 [.int a0, .int a1, .int a2] = [(0, .int a0), (1, .int a1), (2, .int a2)] from by simp [lv_args, kr_rfcat, kr_icat]]
  unfold f_W_level at h
  refine r_iload_n (i := 0) (x := a0) 0 rfl d_W_level_0 ?_
  refine r_if_lt (tgt := 8) d_W_level_1 rfl (fun c => ?_) (fun c => ?_)
  · replace h := kr_ip c h
    refine r_iconst (v := (0 : Int32)) (by decide) d_W_level_8 ?_
    exact kr_sub [1, 2] rfl (s_W_level_B9 h)
  · replace h := kr_in_ c h
    refine r_iconst (v := (1 : Int32)) (by decide) d_W_level_4 ?_
    refine r_goto (tgt := 9) d_W_level_5 rfl ?_
    exact kr_sub [1, 2] rfl (s_W_level_B9 h)
/-! KeyringCourtLaw.writes([III)V -/
def f_W_writes (S : AS) (a0 : Option Nat) (a1 : Int32) (a2 : Int32) : Option AS :=
  (aI S 40 a0 (9 : Int32)).bind fun v1 =>
  (bI S a0 (9 : Int32) (v1 + (1 : Int32))).bind fun S2 =>
  (aI S2 40 a0 (10 : Int32)).bind fun v3 =>
  (aI S2 40 a0 (0 : Int32)).bind fun v4 =>
  (some (((((31 : Int32) * v3) + ((100 : Int32) * a1)) + a2) + v4)).bind fun i5 =>
  (bI S2 a0 (10 : Int32) (i5 - i5 / (65521 : Int32) * (65521 : Int32))).bind fun S6 =>
  some S6
set_option maxRecDepth 20000 in
set_option maxHeartbeats 4000000 in
theorem s_W_writes {S : AS} {a0 : Option Nat} {a1 : Int32} {a2 : Int32} {r : AS} (h : f_W_writes S a0 a1 a2 = some r) : kr_Con m_W_writes 0 [va_rf a0, .int a1, .int a2] S (kr_eV r) := by
  refine kr_con rfl rfl (by decide +kernel) (by simp [lg_sl, kr_rfcat, kr_icat, m_W_writes, mL]) ?_
  rw [show lv_args 0 [va_rf a0, .int a1, .int a2] = [(0, va_rf a0), (1, .int a1), (2, .int a2)] from by simp [lv_args, kr_rfcat, kr_icat]]
  unfold f_W_writes at h
  refine r_aload_n (i := 0) (x := a0) 0 rfl d_W_writes_0 ?_
  refine r_bipush (v := (9 : Int32)) (by decide) d_W_writes_1 ?_
  refine r_dup2 rfl (kr_rfcat _) d_W_writes_3 ?_
  have h2 := kr_ob h
  clear h
  obtain ⟨v1, ev1, h⟩ := h2
  refine r_iaload ev1 d_W_writes_4 ?_
  refine r_iconst (v := (1 : Int32)) (by decide) d_W_writes_5 ?_
  refine r_iadd d_W_writes_6 ?_
  have h2 := kr_ob h
  clear h
  obtain ⟨S2, eS2, h⟩ := h2
  refine r_iastore eS2 d_W_writes_7 ?_
  refine r_aload_n (i := 0) (x := a0) 0 rfl d_W_writes_8 ?_
  refine r_bipush (v := (10 : Int32)) (by decide) d_W_writes_9 ?_
  refine r_bipush (v := (31 : Int32)) (by decide) d_W_writes_11 ?_
  refine r_aload_n (i := 0) (x := a0) 0 rfl d_W_writes_13 ?_
  refine r_bipush (v := (10 : Int32)) (by decide) d_W_writes_14 ?_
  have h2 := kr_ob h
  clear h
  obtain ⟨v3, ev3, h⟩ := h2
  refine r_iaload ev3 d_W_writes_16 ?_
  refine r_imul d_W_writes_17 ?_
  refine r_bipush (v := (100 : Int32)) (by decide) d_W_writes_18 ?_
  refine r_iload_n (i := 1) (x := a1) 1 rfl d_W_writes_20 ?_
  refine r_imul d_W_writes_21 ?_
  refine r_iadd d_W_writes_22 ?_
  refine r_iload_n (i := 2) (x := a2) 2 rfl d_W_writes_23 ?_
  refine r_iadd d_W_writes_24 ?_
  refine r_aload_n (i := 0) (x := a0) 0 rfl d_W_writes_25 ?_
  refine r_iconst (v := (0 : Int32)) (by decide) d_W_writes_26 ?_
  have h2 := kr_ob h
  clear h
  obtain ⟨v4, ev4, h⟩ := h2
  refine r_iaload ev4 d_W_writes_27 ?_
  refine r_iadd d_W_writes_28 ?_
  refine r_ldc (v := (65521 : Int32)) w1032 d_W_writes_29 ?_
  have h2 := kr_ob h
  clear h
  obtain ⟨i5, ei5, h⟩ := h2
  refine kr_nmI2 ei5 ?_
  refine r_irem (by decide) d_W_writes_31 ?_
  have h2 := kr_ob h
  clear h
  obtain ⟨S6, eS6, h⟩ := h2
  refine r_iastore eS6 d_W_writes_32 ?_
  cases h
  exact r_vret rfl d_W_writes_33
/-! KeyringCourtLaw.opens([I[III)V -/
def f_W_opens (S : AS) (a0 : Option Nat) (a1 : Option Nat) (a2 : Int32) (a3 : Int32) : Option AS :=
  (aI S 40 a0 (1 : Int32)).bind fun v1 =>
  (bI S a1 ((4 : Int32) * v1) a2).bind fun S2 =>
  (aI S2 40 a0 (1 : Int32)).bind fun v3 =>
  (aI S2 40 a0 (0 : Int32)).bind fun v4 =>
  (bI S2 a1 (((4 : Int32) * v3) + (1 : Int32)) v4).bind fun S5 =>
  (aI S5 40 a0 (1 : Int32)).bind fun v6 =>
  (aI S5 40 a0 (0 : Int32)).bind fun v7 =>
  (bI S5 a1 (((4 : Int32) * v6) + (2 : Int32)) v7).bind fun S8 =>
  (aI S8 40 a0 (1 : Int32)).bind fun v9 =>
  (bI S8 a1 (((4 : Int32) * v9) + (3 : Int32)) (a3 + (1 : Int32))).bind fun S10 =>
  (aI S10 40 a0 (1 : Int32)).bind fun v11 =>
  (f_W_writes S10 a0 (0 : Int32) v11).bind fun S12 =>
  (aI S12 40 a0 (1 : Int32)).bind fun v13 =>
  (bI S12 a0 (1 : Int32) (v13 + (1 : Int32))).bind fun S14 =>
  some S14
set_option maxRecDepth 20000 in
set_option maxHeartbeats 4000000 in
theorem s_W_opens {S : AS} {a0 : Option Nat} {a1 : Option Nat} {a2 : Int32} {a3 : Int32} {r : AS} (h : f_W_opens S a0 a1 a2 a3 = some r) : kr_Con m_W_opens 1 [va_rf a0, va_rf a1, .int a2, .int a3] S (kr_eV r) := by
  refine kr_con rfl rfl (by decide +kernel) (by simp [lg_sl, kr_rfcat, kr_icat, m_W_opens, mL]) ?_
  rw [show lv_args 0 [va_rf a0, va_rf a1, .int a2, .int a3] = [(0, va_rf a0), (1, va_rf a1), (2, .int a2), (3, .int a3)] from by simp [lv_args, kr_rfcat, kr_icat]]
  unfold f_W_opens at h
  refine r_aload_n (i := 1) (x := a1) 1 rfl d_W_opens_0 ?_
  refine r_iconst (v := (4 : Int32)) (by decide) d_W_opens_1 ?_
  refine r_aload_n (i := 0) (x := a0) 0 rfl d_W_opens_2 ?_
  refine r_iconst (v := (1 : Int32)) (by decide) d_W_opens_3 ?_
  have h2 := kr_ob h
  clear h
  obtain ⟨v1, ev1, h⟩ := h2
  refine r_iaload ev1 d_W_opens_4 ?_
  refine r_imul d_W_opens_5 ?_
  refine r_iload_n (i := 2) (x := a2) 2 rfl d_W_opens_6 ?_
  have h2 := kr_ob h
  clear h
  obtain ⟨S2, eS2, h⟩ := h2
  refine r_iastore eS2 d_W_opens_7 ?_
  refine r_aload_n (i := 1) (x := a1) 1 rfl d_W_opens_8 ?_
  refine r_iconst (v := (4 : Int32)) (by decide) d_W_opens_9 ?_
  refine r_aload_n (i := 0) (x := a0) 0 rfl d_W_opens_10 ?_
  refine r_iconst (v := (1 : Int32)) (by decide) d_W_opens_11 ?_
  have h2 := kr_ob h
  clear h
  obtain ⟨v3, ev3, h⟩ := h2
  refine r_iaload ev3 d_W_opens_12 ?_
  refine r_imul d_W_opens_13 ?_
  refine r_iconst (v := (1 : Int32)) (by decide) d_W_opens_14 ?_
  refine r_iadd d_W_opens_15 ?_
  refine r_aload_n (i := 0) (x := a0) 0 rfl d_W_opens_16 ?_
  refine r_iconst (v := (0 : Int32)) (by decide) d_W_opens_17 ?_
  have h2 := kr_ob h
  clear h
  obtain ⟨v4, ev4, h⟩ := h2
  refine r_iaload ev4 d_W_opens_18 ?_
  have h2 := kr_ob h
  clear h
  obtain ⟨S5, eS5, h⟩ := h2
  refine r_iastore eS5 d_W_opens_19 ?_
  refine r_aload_n (i := 1) (x := a1) 1 rfl d_W_opens_20 ?_
  refine r_iconst (v := (4 : Int32)) (by decide) d_W_opens_21 ?_
  refine r_aload_n (i := 0) (x := a0) 0 rfl d_W_opens_22 ?_
  refine r_iconst (v := (1 : Int32)) (by decide) d_W_opens_23 ?_
  have h2 := kr_ob h
  clear h
  obtain ⟨v6, ev6, h⟩ := h2
  refine r_iaload ev6 d_W_opens_24 ?_
  refine r_imul d_W_opens_25 ?_
  refine r_iconst (v := (2 : Int32)) (by decide) d_W_opens_26 ?_
  refine r_iadd d_W_opens_27 ?_
  refine r_aload_n (i := 0) (x := a0) 0 rfl d_W_opens_28 ?_
  refine r_iconst (v := (0 : Int32)) (by decide) d_W_opens_29 ?_
  have h2 := kr_ob h
  clear h
  obtain ⟨v7, ev7, h⟩ := h2
  refine r_iaload ev7 d_W_opens_30 ?_
  have h2 := kr_ob h
  clear h
  obtain ⟨S8, eS8, h⟩ := h2
  refine r_iastore eS8 d_W_opens_31 ?_
  refine r_aload_n (i := 1) (x := a1) 1 rfl d_W_opens_32 ?_
  refine r_iconst (v := (4 : Int32)) (by decide) d_W_opens_33 ?_
  refine r_aload_n (i := 0) (x := a0) 0 rfl d_W_opens_34 ?_
  refine r_iconst (v := (1 : Int32)) (by decide) d_W_opens_35 ?_
  have h2 := kr_ob h
  clear h
  obtain ⟨v9, ev9, h⟩ := h2
  refine r_iaload ev9 d_W_opens_36 ?_
  refine r_imul d_W_opens_37 ?_
  refine r_iconst (v := (3 : Int32)) (by decide) d_W_opens_38 ?_
  refine r_iadd d_W_opens_39 ?_
  refine r_iload_n (i := 3) (x := a3) 3 rfl d_W_opens_40 ?_
  refine r_iconst (v := (1 : Int32)) (by decide) d_W_opens_41 ?_
  refine r_iadd d_W_opens_42 ?_
  have h2 := kr_ob h
  clear h
  obtain ⟨S10, eS10, h⟩ := h2
  refine r_iastore eS10 d_W_opens_43 ?_
  refine r_aload_n (i := 0) (x := a0) 0 rfl d_W_opens_44 ?_
  refine r_iconst (v := (0 : Int32)) (by decide) d_W_opens_45 ?_
  refine r_aload_n (i := 0) (x := a0) 0 rfl d_W_opens_46 ?_
  refine r_iconst (v := (1 : Int32)) (by decide) d_W_opens_47 ?_
  have h2 := kr_ob h
  clear h
  obtain ⟨v11, ev11, h⟩ := h2
  refine r_iaload ev11 d_W_opens_48 ?_
  have h2 := kr_ob h
  clear h
  obtain ⟨S12, eS12, h⟩ := h2
  refine r_callS (M1 := m_W_writes) (As := [va_rf a0, .int (0 : Int32), .int v11]) (s_W_writes eS12) mok_W_writes rfl w1029 w1030 (by decide) (kr_c8 kr_c0) d_W_opens_49 (kr_k0 ?_) kr_kn
  refine r_aload_n (i := 0) (x := a0) 0 rfl d_W_opens_52 ?_
  refine r_iconst (v := (1 : Int32)) (by decide) d_W_opens_53 ?_
  refine r_dup2 rfl (kr_rfcat _) d_W_opens_54 ?_
  have h2 := kr_ob h
  clear h
  obtain ⟨v13, ev13, h⟩ := h2
  refine r_iaload ev13 d_W_opens_55 ?_
  refine r_iconst (v := (1 : Int32)) (by decide) d_W_opens_56 ?_
  refine r_iadd d_W_opens_57 ?_
  have h2 := kr_ob h
  clear h
  obtain ⟨S14, eS14, h⟩ := h2
  refine r_iastore eS14 d_W_opens_58 ?_
  cases h
  exact r_vret rfl d_W_opens_59
/-! KeyringCourtLaw.goes([I[I[I[I[I[I[I[III)V -/
def f_W_goes_B204 (k11 : AS → Option Nat → Option Nat → Option Nat → Option Nat → Option Nat → Option Nat → Option Nat → Option Nat → Int32 → Int32 → Int32 → Option AS) (S : AS) (x0 : Option Nat) (x1 : Option Nat) (x2 : Option Nat) (x3 : Option Nat) (x4 : Option Nat) (x5 : Option Nat) (x6 : Option Nat) (x7 : Option Nat) (x8 : Int32) (x10 : Int32) (y0 : Option Nat) (y1 : Int32) (y2 : Int32) : Option AS :=
  (aI S 40 y0 (y1 + y2)).bind fun v1 =>
  k11 S x0 x1 x2 x3 x4 x5 x6 x7 x8 x10 v1
def f_W_goes_B187 (k11 : AS → Option Nat → Option Nat → Option Nat → Option Nat → Option Nat → Option Nat → Option Nat → Option Nat → Int32 → Int32 → Int32 → Option AS) (S : AS) (x0 : Option Nat) (x1 : Option Nat) (x2 : Option Nat) (x3 : Option Nat) (x4 : Option Nat) (x5 : Option Nat) (x6 : Option Nat) (x7 : Option Nat) (x8 : Int32) (x10 : Int32) (x11 : Int32) (y0 : Int32) : Option AS :=
  if y0 = 0 then
  f_W_goes_B204 k11 S x0 x1 x2 x3 x4 x5 x6 x7 x8 x10 x1 ((5 : Int32) * x11) (4 : Int32)
  else
  f_W_goes_B204 k11 S x0 x1 x2 x3 x4 x5 x6 x7 x8 x10 x1 ((5 : Int32) * x11) (3 : Int32)
def f_W_goes_C294 (k294 : AS → Option Nat → Option Nat → Option Nat → Option Nat → Option Nat → Option Nat → Int32 → Int32 → Int32 → Option AS) (S : AS) (x0 : Option Nat) (x2 : Option Nat) (x3 : Option Nat) (x5 : Option Nat) (x6 : Option Nat) (x7 : Option Nat) (x8 : Int32) (x10 : Int32) (x12 : Int32) : Option AS :=
  if (3 : Int32) ≤ x12 then
  (aI S 40 x3 x10).bind fun v2 =>
  (f_W_opens S x0 x6 v2 (-1 : Int32)).bind fun S3 =>
  (aI S3 40 x3 x10).bind fun v4 =>
  (some (((12 : Int32) * v4) + (10 : Int32))).bind fun i5 =>
  (aI S3 40 x2 i5).bind fun v6 =>
  (aI S3 40 x3 (x10 + (1 : Int32))).bind fun v7 =>
  (bI S3 x2 i5 (v6 ||| ((1 : Int32) <<< (v7 &&& 31)))).bind fun S8 =>
  (aI S8 40 x3 x10).bind fun v9 =>
  (some (((12 : Int32) * v9) + (11 : Int32))).bind fun i10 =>
  (aI S8 40 x2 i10).bind fun v11 =>
  (aI S8 40 x3 (x10 + (2 : Int32))).bind fun v12 =>
  (bI S8 x2 i10 (v11 ||| ((1 : Int32) <<< (v12 &&& 31)))).bind fun S13 =>
  some S13
  else
  (aI S 40 x0 (1 : Int32)).bind fun v14 =>
  (aI S 40 x5 (((3 : Int32) * x8) + x12)).bind fun v15 =>
  (bI S x7 (((3 : Int32) * v14) + x12) v15).bind fun S16 =>
  (some (x12 + (1 : Int32))).bind fun i17 =>
  k294 S16 x0 x2 x3 x5 x6 x7 x8 x10 i17
def f_W_goes_L294 : Nat → AS → Option Nat → Option Nat → Option Nat → Option Nat → Option Nat → Option Nat → Int32 → Int32 → Int32 → Option AS
  | 0, S, x0, x2, x3, x5, x6, x7, x8, x10, x12 => none
  | n + 1, S, x0, x2, x3, x5, x6, x7, x8, x10, x12 => f_W_goes_C294 (f_W_goes_L294 n) S x0 x2 x3 x5 x6 x7 x8 x10 x12
def f_W_goes_B266 (S : AS) (x0 : Option Nat) (x2 : Option Nat) (x3 : Option Nat) (x4 : Option Nat) (x5 : Option Nat) (x6 : Option Nat) (x7 : Option Nat) (x8 : Int32) (x10 : Int32) (y0 : Option Nat) (y1 : Int32) (y2 : Int32) : Option AS :=
  (bI S y0 y1 y2).bind fun S18 =>
  (aI S18 40 x3 (x10 + (4 : Int32))).bind fun v19 =>
  if v19 = (1 : Int32) then
  (aI S18 40 x0 (1 : Int32)).bind fun v20 =>
  (bI S18 x4 (((2 : Int32) * x8) + (1 : Int32)) (v20 + (1 : Int32))).bind fun S21 =>
  f_W_goes_L294 kr_FU S21 x0 x2 x3 x5 x6 x7 x8 x10 (0 : Int32)
  else
  some S18
def f_W_goes_B247 (S : AS) (x0 : Option Nat) (x2 : Option Nat) (x3 : Option Nat) (x4 : Option Nat) (x5 : Option Nat) (x6 : Option Nat) (x7 : Option Nat) (x8 : Int32) (x10 : Int32) (y0 : Option Nat) (y1 : Int32) : Option AS :=
  f_W_goes_B266 S x0 x2 x3 x4 x5 x6 x7 x8 x10 y0 y1 (2 : Int32)
def f_W_goes_B211 (S : AS) (x0 : Option Nat) (x1 : Option Nat) (x2 : Option Nat) (x3 : Option Nat) (x4 : Option Nat) (x5 : Option Nat) (x6 : Option Nat) (x7 : Option Nat) (x8 : Int32) (x10 : Int32) (x11 : Int32) : Option AS :=
  (bI S x3 (x10 + (3 : Int32)) x11).bind fun S22 =>
  (bI S22 x3 (x10 + (5 : Int32)) (0 : Int32)).bind fun S23 =>
  if x11 < 0 then
  f_W_goes_B247 S23 x0 x2 x3 x4 x5 x6 x7 x8 x10 x3 (x10 + (4 : Int32))
  else
  (aI S23 40 x1 ((5 : Int32) * x11)).bind fun v24 =>
  if v24 = (6 : Int32) then
  f_W_goes_B247 S23 x0 x2 x3 x4 x5 x6 x7 x8 x10 x3 (x10 + (4 : Int32))
  else
  (aI S23 40 x1 ((5 : Int32) * x11)).bind fun v25 =>
  if v25 = (5 : Int32) then
  f_W_goes_B266 S23 x0 x2 x3 x4 x5 x6 x7 x8 x10 x3 (x10 + (4 : Int32)) (1 : Int32)
  else
  f_W_goes_B266 S23 x0 x2 x3 x4 x5 x6 x7 x8 x10 x3 (x10 + (4 : Int32)) (0 : Int32)
def f_W_goes_C11 (k11 : AS → Option Nat → Option Nat → Option Nat → Option Nat → Option Nat → Option Nat → Option Nat → Option Nat → Int32 → Int32 → Int32 → Option AS) (S : AS) (x0 : Option Nat) (x1 : Option Nat) (x2 : Option Nat) (x3 : Option Nat) (x4 : Option Nat) (x5 : Option Nat) (x6 : Option Nat) (x7 : Option Nat) (x8 : Int32) (x10 : Int32) (x11 : Int32) : Option AS :=
  if x11 < 0 then
  f_W_goes_B211 S x0 x1 x2 x3 x4 x5 x6 x7 x8 x10 x11
  else
  (aI S 40 x1 ((5 : Int32) * x11)).bind fun v26 =>
  if v26 ≤ 0 then
  f_W_goes_B211 S x0 x1 x2 x3 x4 x5 x6 x7 x8 x10 x11
  else
  (aI S 40 x1 ((5 : Int32) * x11)).bind fun v27 =>
  if (5 : Int32) ≤ v27 then
  f_W_goes_B211 S x0 x1 x2 x3 x4 x5 x6 x7 x8 x10 x11
  else
  (aI S 40 x1 ((5 : Int32) * x11)).bind fun v28 =>
  (aI S 40 x1 (((5 : Int32) * x11) + (1 : Int32))).bind fun v29 =>
  if v28 = (1 : Int32) then
  (aI S 40 x3 x10).bind fun v30 =>
  (aI S 40 x2 (((12 : Int32) * v30) + (10 : Int32))).bind fun v31 =>
  (aI S 40 x3 (x10 + (1 : Int32))).bind fun v32 =>
  if ((v31 >>> (v32 &&& 31)) &&& (1 : Int32)) = (1 : Int32) then
  f_W_goes_B187 k11 S x0 x1 x2 x3 x4 x5 x6 x7 x8 x10 x11 (1 : Int32)
  else
  f_W_goes_B187 k11 S x0 x1 x2 x3 x4 x5 x6 x7 x8 x10 x11 (0 : Int32)
  else
  if v28 = (2 : Int32) then
  kr_b2 (f_W_risk S x0 x2 x3 x8) fun v34 S33 =>
  if v34 < v29 then
  f_W_goes_B187 k11 S33 x0 x1 x2 x3 x4 x5 x6 x7 x8 x10 x11 (0 : Int32)
  else
  f_W_goes_B187 k11 S33 x0 x1 x2 x3 x4 x5 x6 x7 x8 x10 x11 (1 : Int32)
  else
  if v28 = (3 : Int32) then
  (aI S 40 x3 x10).bind fun v35 =>
  (aI S 40 x2 (((12 : Int32) * v35) + v29)).bind fun v36 =>
  if v36 = (1 : Int32) then
  f_W_goes_B187 k11 S x0 x1 x2 x3 x4 x5 x6 x7 x8 x10 x11 (1 : Int32)
  else
  f_W_goes_B187 k11 S x0 x1 x2 x3 x4 x5 x6 x7 x8 x10 x11 (0 : Int32)
  else
  (aI S 40 x5 ((3 : Int32) * x8)).bind fun v37 =>
  (aI S 40 x5 (((3 : Int32) * x8) + (1 : Int32))).bind fun v38 =>
  (aI S 40 x5 (((3 : Int32) * x8) + (2 : Int32))).bind fun v39 =>
  kr_b2 (f_W_level S v37 v38 v39) fun v41 S40 =>
  if v41 < v29 then
  f_W_goes_B187 k11 S40 x0 x1 x2 x3 x4 x5 x6 x7 x8 x10 x11 (0 : Int32)
  else
  f_W_goes_B187 k11 S40 x0 x1 x2 x3 x4 x5 x6 x7 x8 x10 x11 (1 : Int32)
def f_W_goes_L11 : Nat → AS → Option Nat → Option Nat → Option Nat → Option Nat → Option Nat → Option Nat → Option Nat → Option Nat → Int32 → Int32 → Int32 → Option AS
  | 0, S, x0, x1, x2, x3, x4, x5, x6, x7, x8, x10, x11 => none
  | n + 1, S, x0, x1, x2, x3, x4, x5, x6, x7, x8, x10, x11 => f_W_goes_C11 (f_W_goes_L11 n) S x0 x1 x2 x3 x4 x5 x6 x7 x8 x10 x11
def f_W_goes (S : AS) (a0 : Option Nat) (a1 : Option Nat) (a2 : Option Nat) (a3 : Option Nat) (a4 : Option Nat) (a5 : Option Nat) (a6 : Option Nat) (a7 : Option Nat) (a8 : Int32) (a9 : Int32) : Option AS :=
  (some ((6 : Int32) * a8)).bind fun i42 =>
  f_W_goes_L11 kr_FU S a0 a1 a2 a3 a4 a5 a6 a7 a8 i42 a9
set_option maxRecDepth 20000 in
set_option maxHeartbeats 4000000 in
theorem s_W_goes_B204 {k11 : AS → Option Nat → Option Nat → Option Nat → Option Nat → Option Nat → Option Nat → Option Nat → Option Nat → Int32 → Int32 → Int32 → Option AS} (hk11 : ∀ {S : AS} {x0 : Option Nat} {x1 : Option Nat} {x2 : Option Nat} {x3 : Option Nat} {x4 : Option Nat} {x5 : Option Nat} {x6 : Option Nat} {x7 : Option Nat} {x8 : Int32} {x10 : Int32} {x11 : Int32} {r : AS}, k11 S x0 x1 x2 x3 x4 x5 x6 x7 x8 x10 x11 = some r → kr_AW m_W_goes 2 11 [(0, va_rf x0), (1, va_rf x1), (2, va_rf x2), (3, va_rf x3), (4, va_rf x4), (5, va_rf x5), (6, va_rf x6), (7, va_rf x7), (8, .int x8), (10, .int x10), (11, .int x11)] [] S (kr_eV r)) {S : AS} {x0 : Option Nat} {x1 : Option Nat} {x2 : Option Nat} {x3 : Option Nat} {x4 : Option Nat} {x5 : Option Nat} {x6 : Option Nat} {x7 : Option Nat} {x8 : Int32} {x10 : Int32} {y0 : Option Nat} {y1 : Int32} {y2 : Int32} {r : AS} (h : f_W_goes_B204 k11 S x0 x1 x2 x3 x4 x5 x6 x7 x8 x10 y0 y1 y2 = some r) : kr_AW m_W_goes 2 204 [(0, va_rf x0), (1, va_rf x1), (2, va_rf x2), (3, va_rf x3), (4, va_rf x4), (5, va_rf x5), (6, va_rf x6), (7, va_rf x7), (8, .int x8), (10, .int x10)] [.int y2, .int y1, va_rf y0] S (kr_eV r) := by
  unfold f_W_goes_B204 at h
  refine r_iadd d_W_goes_204 ?_
  have h2 := kr_ob h
  clear h
  obtain ⟨v1, ev1, h⟩ := h2
  refine r_iaload ev1 d_W_goes_205 ?_
  refine r_istore (i := 11) (lv' := [(11, .int v1), (0, va_rf x0), (1, va_rf x1), (2, va_rf x2), (3, va_rf x3), (4, va_rf x4), (5, va_rf x5), (6, va_rf x6), (7, va_rf x7), (8, .int x8), (10, .int x10)]) (by decide) rfl d_W_goes_206 ?_
  refine r_goto (tgt := 11) d_W_goes_208 rfl ?_
  exact kr_sub [1, 2, 3, 4, 5, 6, 7, 8, 9, 10, 0] rfl (hk11 h)
set_option maxRecDepth 20000 in
set_option maxHeartbeats 4000000 in
theorem s_W_goes_B187 {k11 : AS → Option Nat → Option Nat → Option Nat → Option Nat → Option Nat → Option Nat → Option Nat → Option Nat → Int32 → Int32 → Int32 → Option AS} (hk11 : ∀ {S : AS} {x0 : Option Nat} {x1 : Option Nat} {x2 : Option Nat} {x3 : Option Nat} {x4 : Option Nat} {x5 : Option Nat} {x6 : Option Nat} {x7 : Option Nat} {x8 : Int32} {x10 : Int32} {x11 : Int32} {r : AS}, k11 S x0 x1 x2 x3 x4 x5 x6 x7 x8 x10 x11 = some r → kr_AW m_W_goes 2 11 [(0, va_rf x0), (1, va_rf x1), (2, va_rf x2), (3, va_rf x3), (4, va_rf x4), (5, va_rf x5), (6, va_rf x6), (7, va_rf x7), (8, .int x8), (10, .int x10), (11, .int x11)] [] S (kr_eV r)) {S : AS} {x0 : Option Nat} {x1 : Option Nat} {x2 : Option Nat} {x3 : Option Nat} {x4 : Option Nat} {x5 : Option Nat} {x6 : Option Nat} {x7 : Option Nat} {x8 : Int32} {x10 : Int32} {x11 : Int32} {y0 : Int32} {r : AS} (h : f_W_goes_B187 k11 S x0 x1 x2 x3 x4 x5 x6 x7 x8 x10 x11 y0 = some r) : kr_AW m_W_goes 2 187 [(0, va_rf x0), (1, va_rf x1), (2, va_rf x2), (3, va_rf x3), (4, va_rf x4), (5, va_rf x5), (6, va_rf x6), (7, va_rf x7), (8, .int x8), (10, .int x10), (11, .int x11)] [.int y0] S (kr_eV r) := by
  unfold f_W_goes_B187 at h
  refine r_istore (i := 14) (lv' := [(14, .int y0), (0, va_rf x0), (1, va_rf x1), (2, va_rf x2), (3, va_rf x3), (4, va_rf x4), (5, va_rf x5), (6, va_rf x6), (7, va_rf x7), (8, .int x8), (10, .int x10), (11, .int x11)]) (by decide) rfl d_W_goes_187 ?_
  refine r_aload_n (i := 1) (x := x1) 2 rfl d_W_goes_189 ?_
  refine r_iconst (v := (5 : Int32)) (by decide) d_W_goes_190 ?_
  refine r_iload (i := 11) (x := x11) 11 rfl d_W_goes_191 ?_
  refine r_imul d_W_goes_193 ?_
  refine r_iload (i := 14) (x := y0) 0 rfl d_W_goes_194 ?_
  refine r_if_eq (tgt := 203) d_W_goes_196 rfl (fun c => ?_) (fun c => ?_)
  · replace h := kr_ip c h
    refine r_iconst (v := (4 : Int32)) (by decide) d_W_goes_203 ?_
    exact kr_sub [1, 2, 3, 4, 5, 6, 7, 8, 9, 10] rfl (s_W_goes_B204 hk11 h)
  · replace h := kr_in_ c h
    refine r_iconst (v := (3 : Int32)) (by decide) d_W_goes_199 ?_
    refine r_goto (tgt := 204) d_W_goes_200 rfl ?_
    exact kr_sub [1, 2, 3, 4, 5, 6, 7, 8, 9, 10] rfl (s_W_goes_B204 hk11 h)
set_option maxRecDepth 20000 in
set_option maxHeartbeats 4000000 in
theorem s_W_goes_C294 {k294 : AS → Option Nat → Option Nat → Option Nat → Option Nat → Option Nat → Option Nat → Int32 → Int32 → Int32 → Option AS} (hk294 : ∀ {S : AS} {x0 : Option Nat} {x2 : Option Nat} {x3 : Option Nat} {x5 : Option Nat} {x6 : Option Nat} {x7 : Option Nat} {x8 : Int32} {x10 : Int32} {x12 : Int32} {r : AS}, k294 S x0 x2 x3 x5 x6 x7 x8 x10 x12 = some r → kr_AW m_W_goes 2 294 [(0, va_rf x0), (2, va_rf x2), (3, va_rf x3), (5, va_rf x5), (6, va_rf x6), (7, va_rf x7), (8, .int x8), (10, .int x10), (12, .int x12)] [] S (kr_eV r)) {S : AS} {x0 : Option Nat} {x2 : Option Nat} {x3 : Option Nat} {x5 : Option Nat} {x6 : Option Nat} {x7 : Option Nat} {x8 : Int32} {x10 : Int32} {x12 : Int32} {r : AS} (h : f_W_goes_C294 k294 S x0 x2 x3 x5 x6 x7 x8 x10 x12 = some r) : kr_AW m_W_goes 2 294 [(0, va_rf x0), (2, va_rf x2), (3, va_rf x3), (5, va_rf x5), (6, va_rf x6), (7, va_rf x7), (8, .int x8), (10, .int x10), (12, .int x12)] [] S (kr_eV r) := by
  unfold f_W_goes_C294 at h
  refine r_iload (i := 12) (x := x12) 8 rfl d_W_goes_294 ?_
  refine r_iconst (v := (3 : Int32)) (by decide) d_W_goes_296 ?_
  refine r_icmp_ge (tgt := 327) d_W_goes_297 rfl (fun c => ?_) (fun c => ?_)
  · replace h := kr_ip c h
    refine r_aload_n (i := 0) (x := x0) 0 rfl d_W_goes_327 ?_
    refine r_aload (i := 6) (x := x6) 4 rfl d_W_goes_328 ?_
    refine r_aload_n (i := 3) (x := x3) 2 rfl d_W_goes_330 ?_
    refine r_iload (i := 10) (x := x10) 7 rfl d_W_goes_331 ?_
    have h2 := kr_ob h
    clear h
    obtain ⟨v2, ev2, h⟩ := h2
    refine r_iaload ev2 d_W_goes_333 ?_
    refine r_iconst (v := (-1 : Int32)) (by decide) d_W_goes_334 ?_
    have h2 := kr_ob h
    clear h
    obtain ⟨S3, eS3, h⟩ := h2
    refine r_callS (M1 := m_W_opens) (As := [va_rf x0, va_rf x6, .int v2, .int (-1 : Int32)]) (s_W_opens eS3) mok_W_opens rfl w1026 w1027 (by decide) (kr_c8 kr_c0) d_W_goes_335 (kr_k0 ?_) kr_kn
    refine r_aload_n (i := 2) (x := x2) 1 rfl d_W_goes_338 ?_
    refine r_bipush (v := (12 : Int32)) (by decide) d_W_goes_339 ?_
    refine r_aload_n (i := 3) (x := x3) 2 rfl d_W_goes_341 ?_
    refine r_iload (i := 10) (x := x10) 7 rfl d_W_goes_342 ?_
    have h2 := kr_ob h
    clear h
    obtain ⟨v4, ev4, h⟩ := h2
    refine r_iaload ev4 d_W_goes_344 ?_
    refine r_imul d_W_goes_345 ?_
    refine r_bipush (v := (10 : Int32)) (by decide) d_W_goes_346 ?_
    refine r_iadd d_W_goes_348 ?_
    have h2 := kr_ob h
    clear h
    obtain ⟨i5, ei5, h⟩ := h2
    refine kr_nmI ei5 ?_
    refine r_dup2 rfl (kr_rfcat _) d_W_goes_349 ?_
    have h2 := kr_ob h
    clear h
    obtain ⟨v6, ev6, h⟩ := h2
    refine r_iaload ev6 d_W_goes_350 ?_
    refine r_iconst (v := (1 : Int32)) (by decide) d_W_goes_351 ?_
    refine r_aload_n (i := 3) (x := x3) 2 rfl d_W_goes_352 ?_
    refine r_iload (i := 10) (x := x10) 7 rfl d_W_goes_353 ?_
    refine r_iconst (v := (1 : Int32)) (by decide) d_W_goes_355 ?_
    refine r_iadd d_W_goes_356 ?_
    have h2 := kr_ob h
    clear h
    obtain ⟨v7, ev7, h⟩ := h2
    refine r_iaload ev7 d_W_goes_357 ?_
    refine r_ishl d_W_goes_358 ?_
    refine r_ior d_W_goes_359 ?_
    have h2 := kr_ob h
    clear h
    obtain ⟨S8, eS8, h⟩ := h2
    refine r_iastore eS8 d_W_goes_360 ?_
    refine r_aload_n (i := 2) (x := x2) 1 rfl d_W_goes_361 ?_
    refine r_bipush (v := (12 : Int32)) (by decide) d_W_goes_362 ?_
    refine r_aload_n (i := 3) (x := x3) 2 rfl d_W_goes_364 ?_
    refine r_iload (i := 10) (x := x10) 7 rfl d_W_goes_365 ?_
    have h2 := kr_ob h
    clear h
    obtain ⟨v9, ev9, h⟩ := h2
    refine r_iaload ev9 d_W_goes_367 ?_
    refine r_imul d_W_goes_368 ?_
    refine r_bipush (v := (11 : Int32)) (by decide) d_W_goes_369 ?_
    refine r_iadd d_W_goes_371 ?_
    have h2 := kr_ob h
    clear h
    obtain ⟨i10, ei10, h⟩ := h2
    refine kr_nmI ei10 ?_
    refine r_dup2 rfl (kr_rfcat _) d_W_goes_372 ?_
    have h2 := kr_ob h
    clear h
    obtain ⟨v11, ev11, h⟩ := h2
    refine r_iaload ev11 d_W_goes_373 ?_
    refine r_iconst (v := (1 : Int32)) (by decide) d_W_goes_374 ?_
    refine r_aload_n (i := 3) (x := x3) 2 rfl d_W_goes_375 ?_
    refine r_iload (i := 10) (x := x10) 7 rfl d_W_goes_376 ?_
    refine r_iconst (v := (2 : Int32)) (by decide) d_W_goes_378 ?_
    refine r_iadd d_W_goes_379 ?_
    have h2 := kr_ob h
    clear h
    obtain ⟨v12, ev12, h⟩ := h2
    refine r_iaload ev12 d_W_goes_380 ?_
    refine r_ishl d_W_goes_381 ?_
    refine r_ior d_W_goes_382 ?_
    have h2 := kr_ob h
    clear h
    obtain ⟨S13, eS13, h⟩ := h2
    refine r_iastore eS13 d_W_goes_383 ?_
    cases h
    exact r_vret rfl d_W_goes_384
  · replace h := kr_in_ c h
    refine r_aload (i := 7) (x := x7) 5 rfl d_W_goes_300 ?_
    refine r_iconst (v := (3 : Int32)) (by decide) d_W_goes_302 ?_
    refine r_aload_n (i := 0) (x := x0) 0 rfl d_W_goes_303 ?_
    refine r_iconst (v := (1 : Int32)) (by decide) d_W_goes_304 ?_
    have h2 := kr_ob h
    clear h
    obtain ⟨v14, ev14, h⟩ := h2
    refine r_iaload ev14 d_W_goes_305 ?_
    refine r_imul d_W_goes_306 ?_
    refine r_iload (i := 12) (x := x12) 8 rfl d_W_goes_307 ?_
    refine r_iadd d_W_goes_309 ?_
    refine r_aload (i := 5) (x := x5) 3 rfl d_W_goes_310 ?_
    refine r_iconst (v := (3 : Int32)) (by decide) d_W_goes_312 ?_
    refine r_iload (i := 8) (x := x8) 6 rfl d_W_goes_313 ?_
    refine r_imul d_W_goes_315 ?_
    refine r_iload (i := 12) (x := x12) 8 rfl d_W_goes_316 ?_
    refine r_iadd d_W_goes_318 ?_
    have h2 := kr_ob h
    clear h
    obtain ⟨v15, ev15, h⟩ := h2
    refine r_iaload ev15 d_W_goes_319 ?_
    have h2 := kr_ob h
    clear h
    obtain ⟨S16, eS16, h⟩ := h2
    refine r_iastore eS16 d_W_goes_320 ?_
    have h2 := kr_ob h
    clear h
    obtain ⟨i17, ei17, h⟩ := h2
    refine r_iinc (v := i17) (lv' := [(12, .int i17), (0, va_rf x0), (2, va_rf x2), (3, va_rf x3), (5, va_rf x5), (6, va_rf x6), (7, va_rf x7), (8, .int x8), (10, .int x10)]) 8 rfl (kr_inc (by decide) ei17) (by decide) rfl d_W_goes_321 ?_
    refine r_goto (tgt := 294) d_W_goes_324 rfl ?_
    exact kr_sub [1, 2, 3, 4, 5, 6, 7, 8, 0] rfl (hk294 h)
theorem s_W_goes_L294 (n : Nat) : ∀ {S : AS} {x0 : Option Nat} {x2 : Option Nat} {x3 : Option Nat} {x5 : Option Nat} {x6 : Option Nat} {x7 : Option Nat} {x8 : Int32} {x10 : Int32} {x12 : Int32} {r : AS}, f_W_goes_L294 n S x0 x2 x3 x5 x6 x7 x8 x10 x12 = some r → kr_AW m_W_goes 2 294 [(0, va_rf x0), (2, va_rf x2), (3, va_rf x3), (5, va_rf x5), (6, va_rf x6), (7, va_rf x7), (8, .int x8), (10, .int x10), (12, .int x12)] [] S (kr_eV r) := by
  induction n with
  | zero => intro S x0 x2 x3 x5 x6 x7 x8 x10 x12 r h; cases h
  | succ n ih => intro S x0 x2 x3 x5 x6 x7 x8 x10 x12 r h; exact s_W_goes_C294 (fun {_} {_} {_} {_} {_} {_} {_} {_} {_} {_} {_} h => ih h) h
set_option maxRecDepth 20000 in
set_option maxHeartbeats 4000000 in
theorem s_W_goes_B266 {S : AS} {x0 : Option Nat} {x2 : Option Nat} {x3 : Option Nat} {x4 : Option Nat} {x5 : Option Nat} {x6 : Option Nat} {x7 : Option Nat} {x8 : Int32} {x10 : Int32} {y0 : Option Nat} {y1 : Int32} {y2 : Int32} {r : AS} (h : f_W_goes_B266 S x0 x2 x3 x4 x5 x6 x7 x8 x10 y0 y1 y2 = some r) : kr_AW m_W_goes 2 266 [(0, va_rf x0), (2, va_rf x2), (3, va_rf x3), (4, va_rf x4), (5, va_rf x5), (6, va_rf x6), (7, va_rf x7), (8, .int x8), (10, .int x10)] [.int y2, .int y1, va_rf y0] S (kr_eV r) := by
  unfold f_W_goes_B266 at h
  have h2 := kr_ob h
  clear h
  obtain ⟨S18, eS18, h⟩ := h2
  refine r_iastore eS18 d_W_goes_266 ?_
  refine r_aload_n (i := 3) (x := x3) 2 rfl d_W_goes_267 ?_
  refine r_iload (i := 10) (x := x10) 8 rfl d_W_goes_268 ?_
  refine r_iconst (v := (4 : Int32)) (by decide) d_W_goes_270 ?_
  refine r_iadd d_W_goes_271 ?_
  have h2 := kr_ob h
  clear h
  obtain ⟨v19, ev19, h⟩ := h2
  refine r_iaload ev19 d_W_goes_272 ?_
  refine r_iconst (v := (1 : Int32)) (by decide) d_W_goes_273 ?_
  refine r_icmp_ne (tgt := 384) d_W_goes_274 rfl (fun c => ?_) (fun c => ?_)
  · replace h := kr_ip c h
    refine r_aload (i := 4) (x := x4) 3 rfl d_W_goes_277 ?_
    refine r_iconst (v := (2 : Int32)) (by decide) d_W_goes_279 ?_
    refine r_iload (i := 8) (x := x8) 7 rfl d_W_goes_280 ?_
    refine r_imul d_W_goes_282 ?_
    refine r_iconst (v := (1 : Int32)) (by decide) d_W_goes_283 ?_
    refine r_iadd d_W_goes_284 ?_
    refine r_aload_n (i := 0) (x := x0) 0 rfl d_W_goes_285 ?_
    refine r_iconst (v := (1 : Int32)) (by decide) d_W_goes_286 ?_
    have h2 := kr_ob h
    clear h
    obtain ⟨v20, ev20, h⟩ := h2
    refine r_iaload ev20 d_W_goes_287 ?_
    refine r_iconst (v := (1 : Int32)) (by decide) d_W_goes_288 ?_
    refine r_iadd d_W_goes_289 ?_
    have h2 := kr_ob h
    clear h
    obtain ⟨S21, eS21, h⟩ := h2
    refine r_iastore eS21 d_W_goes_290 ?_
    refine r_iconst (v := (0 : Int32)) (by decide) d_W_goes_291 ?_
    refine r_istore (i := 12) (lv' := [(12, .int (0 : Int32)), (0, va_rf x0), (2, va_rf x2), (3, va_rf x3), (4, va_rf x4), (5, va_rf x5), (6, va_rf x6), (7, va_rf x7), (8, .int x8), (10, .int x10)]) (by decide) rfl d_W_goes_292 ?_
    exact kr_sub [1, 2, 3, 5, 6, 7, 8, 9, 0] rfl (s_W_goes_L294 kr_FU h)
  · replace h := kr_in_ c h
    cases h
    exact r_vret rfl d_W_goes_384
set_option maxRecDepth 20000 in
set_option maxHeartbeats 4000000 in
theorem s_W_goes_B247 {S : AS} {x0 : Option Nat} {x2 : Option Nat} {x3 : Option Nat} {x4 : Option Nat} {x5 : Option Nat} {x6 : Option Nat} {x7 : Option Nat} {x8 : Int32} {x10 : Int32} {y0 : Option Nat} {y1 : Int32} {r : AS} (h : f_W_goes_B247 S x0 x2 x3 x4 x5 x6 x7 x8 x10 y0 y1 = some r) : kr_AW m_W_goes 2 247 [(0, va_rf x0), (2, va_rf x2), (3, va_rf x3), (4, va_rf x4), (5, va_rf x5), (6, va_rf x6), (7, va_rf x7), (8, .int x8), (10, .int x10)] [.int y1, va_rf y0] S (kr_eV r) := by
  unfold f_W_goes_B247 at h
  refine r_iconst (v := (2 : Int32)) (by decide) d_W_goes_247 ?_
  refine r_goto (tgt := 266) d_W_goes_248 rfl ?_
  exact kr_sub [0, 1, 2, 3, 4, 5, 6, 7, 8] rfl (s_W_goes_B266 h)
set_option maxRecDepth 20000 in
set_option maxHeartbeats 4000000 in
theorem s_W_goes_B211 {S : AS} {x0 : Option Nat} {x1 : Option Nat} {x2 : Option Nat} {x3 : Option Nat} {x4 : Option Nat} {x5 : Option Nat} {x6 : Option Nat} {x7 : Option Nat} {x8 : Int32} {x10 : Int32} {x11 : Int32} {r : AS} (h : f_W_goes_B211 S x0 x1 x2 x3 x4 x5 x6 x7 x8 x10 x11 = some r) : kr_AW m_W_goes 2 211 [(0, va_rf x0), (1, va_rf x1), (2, va_rf x2), (3, va_rf x3), (4, va_rf x4), (5, va_rf x5), (6, va_rf x6), (7, va_rf x7), (8, .int x8), (10, .int x10), (11, .int x11)] [] S (kr_eV r) := by
  unfold f_W_goes_B211 at h
  refine r_aload_n (i := 3) (x := x3) 3 rfl d_W_goes_211 ?_
  refine r_iload (i := 10) (x := x10) 9 rfl d_W_goes_212 ?_
  refine r_iconst (v := (3 : Int32)) (by decide) d_W_goes_214 ?_
  refine r_iadd d_W_goes_215 ?_
  refine r_iload (i := 11) (x := x11) 10 rfl d_W_goes_216 ?_
  have h2 := kr_ob h
  clear h
  obtain ⟨S22, eS22, h⟩ := h2
  refine r_iastore eS22 d_W_goes_218 ?_
  refine r_aload_n (i := 3) (x := x3) 3 rfl d_W_goes_219 ?_
  refine r_iload (i := 10) (x := x10) 9 rfl d_W_goes_220 ?_
  refine r_iconst (v := (5 : Int32)) (by decide) d_W_goes_222 ?_
  refine r_iadd d_W_goes_223 ?_
  refine r_iconst (v := (0 : Int32)) (by decide) d_W_goes_224 ?_
  have h2 := kr_ob h
  clear h
  obtain ⟨S23, eS23, h⟩ := h2
  refine r_iastore eS23 d_W_goes_225 ?_
  refine r_aload_n (i := 3) (x := x3) 3 rfl d_W_goes_226 ?_
  refine r_iload (i := 10) (x := x10) 9 rfl d_W_goes_227 ?_
  refine r_iconst (v := (4 : Int32)) (by decide) d_W_goes_229 ?_
  refine r_iadd d_W_goes_230 ?_
  refine r_iload (i := 11) (x := x11) 10 rfl d_W_goes_231 ?_
  refine r_if_lt (tgt := 247) d_W_goes_233 rfl (fun c => ?_) (fun c => ?_)
  · replace h := kr_ip c h
    exact kr_sub [0, 2, 3, 4, 5, 6, 7, 8, 9] rfl (s_W_goes_B247 h)
  · replace h := kr_in_ c h
    refine r_aload_n (i := 1) (x := x1) 1 rfl d_W_goes_236 ?_
    refine r_iconst (v := (5 : Int32)) (by decide) d_W_goes_237 ?_
    refine r_iload (i := 11) (x := x11) 10 rfl d_W_goes_238 ?_
    refine r_imul d_W_goes_240 ?_
    have h2 := kr_ob h
    clear h
    obtain ⟨v24, ev24, h⟩ := h2
    refine r_iaload ev24 d_W_goes_241 ?_
    refine r_bipush (v := (6 : Int32)) (by decide) d_W_goes_242 ?_
    refine r_icmp_ne (tgt := 251) d_W_goes_244 rfl (fun c => ?_) (fun c => ?_)
    · replace h := kr_ip c h
      exact kr_sub [0, 2, 3, 4, 5, 6, 7, 8, 9] rfl (s_W_goes_B247 h)
    · replace h := kr_in_ c h
      refine r_aload_n (i := 1) (x := x1) 1 rfl d_W_goes_251 ?_
      refine r_iconst (v := (5 : Int32)) (by decide) d_W_goes_252 ?_
      refine r_iload (i := 11) (x := x11) 10 rfl d_W_goes_253 ?_
      refine r_imul d_W_goes_255 ?_
      have h2 := kr_ob h
      clear h
      obtain ⟨v25, ev25, h⟩ := h2
      refine r_iaload ev25 d_W_goes_256 ?_
      refine r_iconst (v := (5 : Int32)) (by decide) d_W_goes_257 ?_
      refine r_icmp_ne (tgt := 265) d_W_goes_258 rfl (fun c => ?_) (fun c => ?_)
      · replace h := kr_ip c h
        refine r_iconst (v := (1 : Int32)) (by decide) d_W_goes_261 ?_
        refine r_goto (tgt := 266) d_W_goes_262 rfl ?_
        exact kr_sub [0, 2, 3, 4, 5, 6, 7, 8, 9] rfl (s_W_goes_B266 h)
      · replace h := kr_in_ c h
        refine r_iconst (v := (0 : Int32)) (by decide) d_W_goes_265 ?_
        exact kr_sub [0, 2, 3, 4, 5, 6, 7, 8, 9] rfl (s_W_goes_B266 h)
set_option maxRecDepth 20000 in
set_option maxHeartbeats 4000000 in
theorem s_W_goes_C11 {k11 : AS → Option Nat → Option Nat → Option Nat → Option Nat → Option Nat → Option Nat → Option Nat → Option Nat → Int32 → Int32 → Int32 → Option AS} (hk11 : ∀ {S : AS} {x0 : Option Nat} {x1 : Option Nat} {x2 : Option Nat} {x3 : Option Nat} {x4 : Option Nat} {x5 : Option Nat} {x6 : Option Nat} {x7 : Option Nat} {x8 : Int32} {x10 : Int32} {x11 : Int32} {r : AS}, k11 S x0 x1 x2 x3 x4 x5 x6 x7 x8 x10 x11 = some r → kr_AW m_W_goes 2 11 [(0, va_rf x0), (1, va_rf x1), (2, va_rf x2), (3, va_rf x3), (4, va_rf x4), (5, va_rf x5), (6, va_rf x6), (7, va_rf x7), (8, .int x8), (10, .int x10), (11, .int x11)] [] S (kr_eV r)) {S : AS} {x0 : Option Nat} {x1 : Option Nat} {x2 : Option Nat} {x3 : Option Nat} {x4 : Option Nat} {x5 : Option Nat} {x6 : Option Nat} {x7 : Option Nat} {x8 : Int32} {x10 : Int32} {x11 : Int32} {r : AS} (h : f_W_goes_C11 k11 S x0 x1 x2 x3 x4 x5 x6 x7 x8 x10 x11 = some r) : kr_AW m_W_goes 2 11 [(0, va_rf x0), (1, va_rf x1), (2, va_rf x2), (3, va_rf x3), (4, va_rf x4), (5, va_rf x5), (6, va_rf x6), (7, va_rf x7), (8, .int x8), (10, .int x10), (11, .int x11)] [] S (kr_eV r) := by
  unfold f_W_goes_C11 at h
  refine r_iload (i := 11) (x := x11) 10 rfl d_W_goes_11 ?_
  refine r_if_lt (tgt := 211) d_W_goes_13 rfl (fun c => ?_) (fun c => ?_)
  · replace h := kr_ip c h
    exact kr_sub [0, 1, 2, 3, 4, 5, 6, 7, 8, 9, 10] rfl (s_W_goes_B211 h)
  · replace h := kr_in_ c h
    refine r_aload_n (i := 1) (x := x1) 1 rfl d_W_goes_16 ?_
    refine r_iconst (v := (5 : Int32)) (by decide) d_W_goes_17 ?_
    refine r_iload (i := 11) (x := x11) 10 rfl d_W_goes_18 ?_
    refine r_imul d_W_goes_20 ?_
    have h2 := kr_ob h
    clear h
    obtain ⟨v26, ev26, h⟩ := h2
    refine r_iaload ev26 d_W_goes_21 ?_
    refine r_if_le (tgt := 211) d_W_goes_22 rfl (fun c => ?_) (fun c => ?_)
    · replace h := kr_ip c h
      exact kr_sub [0, 1, 2, 3, 4, 5, 6, 7, 8, 9, 10] rfl (s_W_goes_B211 h)
    · replace h := kr_in_ c h
      refine r_aload_n (i := 1) (x := x1) 1 rfl d_W_goes_25 ?_
      refine r_iconst (v := (5 : Int32)) (by decide) d_W_goes_26 ?_
      refine r_iload (i := 11) (x := x11) 10 rfl d_W_goes_27 ?_
      refine r_imul d_W_goes_29 ?_
      have h2 := kr_ob h
      clear h
      obtain ⟨v27, ev27, h⟩ := h2
      refine r_iaload ev27 d_W_goes_30 ?_
      refine r_iconst (v := (5 : Int32)) (by decide) d_W_goes_31 ?_
      refine r_icmp_ge (tgt := 211) d_W_goes_32 rfl (fun c => ?_) (fun c => ?_)
      · replace h := kr_ip c h
        exact kr_sub [0, 1, 2, 3, 4, 5, 6, 7, 8, 9, 10] rfl (s_W_goes_B211 h)
      · replace h := kr_in_ c h
        refine r_aload_n (i := 1) (x := x1) 1 rfl d_W_goes_35 ?_
        refine r_iconst (v := (5 : Int32)) (by decide) d_W_goes_36 ?_
        refine r_iload (i := 11) (x := x11) 10 rfl d_W_goes_37 ?_
        refine r_imul d_W_goes_39 ?_
        have h2 := kr_ob h
        clear h
        obtain ⟨v28, ev28, h⟩ := h2
        refine r_iaload ev28 d_W_goes_40 ?_
        refine r_istore (i := 12) (lv' := [(12, .int v28), (0, va_rf x0), (1, va_rf x1), (2, va_rf x2), (3, va_rf x3), (4, va_rf x4), (5, va_rf x5), (6, va_rf x6), (7, va_rf x7), (8, .int x8), (10, .int x10), (11, .int x11)]) (by decide) rfl d_W_goes_41 ?_
        refine r_aload_n (i := 1) (x := x1) 2 rfl d_W_goes_43 ?_
        refine r_iconst (v := (5 : Int32)) (by decide) d_W_goes_44 ?_
        refine r_iload (i := 11) (x := x11) 11 rfl d_W_goes_45 ?_
        refine r_imul d_W_goes_47 ?_
        refine r_iconst (v := (1 : Int32)) (by decide) d_W_goes_48 ?_
        refine r_iadd d_W_goes_49 ?_
        have h2 := kr_ob h
        clear h
        obtain ⟨v29, ev29, h⟩ := h2
        refine r_iaload ev29 d_W_goes_50 ?_
        refine r_istore (i := 13) (lv' := [(13, .int v29), (12, .int v28), (0, va_rf x0), (1, va_rf x1), (2, va_rf x2), (3, va_rf x3), (4, va_rf x4), (5, va_rf x5), (6, va_rf x6), (7, va_rf x7), (8, .int x8), (10, .int x10), (11, .int x11)]) (by decide) rfl d_W_goes_51 ?_
        refine r_iload (i := 12) (x := v28) 1 rfl d_W_goes_53 ?_
        refine r_iconst (v := (1 : Int32)) (by decide) d_W_goes_55 ?_
        refine r_icmp_ne (tgt := 92) d_W_goes_56 rfl (fun c => ?_) (fun c => ?_)
        · replace h := kr_ip c h
          refine r_aload_n (i := 2) (x := x2) 4 rfl d_W_goes_59 ?_
          refine r_bipush (v := (12 : Int32)) (by decide) d_W_goes_60 ?_
          refine r_aload_n (i := 3) (x := x3) 5 rfl d_W_goes_62 ?_
          refine r_iload (i := 10) (x := x10) 11 rfl d_W_goes_63 ?_
          have h2 := kr_ob h
          clear h
          obtain ⟨v30, ev30, h⟩ := h2
          refine r_iaload ev30 d_W_goes_65 ?_
          refine r_imul d_W_goes_66 ?_
          refine r_bipush (v := (10 : Int32)) (by decide) d_W_goes_67 ?_
          refine r_iadd d_W_goes_69 ?_
          have h2 := kr_ob h
          clear h
          obtain ⟨v31, ev31, h⟩ := h2
          refine r_iaload ev31 d_W_goes_70 ?_
          refine r_aload_n (i := 3) (x := x3) 5 rfl d_W_goes_71 ?_
          refine r_iload (i := 10) (x := x10) 11 rfl d_W_goes_72 ?_
          refine r_iconst (v := (1 : Int32)) (by decide) d_W_goes_74 ?_
          refine r_iadd d_W_goes_75 ?_
          have h2 := kr_ob h
          clear h
          obtain ⟨v32, ev32, h⟩ := h2
          refine r_iaload ev32 d_W_goes_76 ?_
          refine r_ishr d_W_goes_77 ?_
          refine r_iconst (v := (1 : Int32)) (by decide) d_W_goes_78 ?_
          refine r_iand d_W_goes_79 ?_
          refine r_iconst (v := (1 : Int32)) (by decide) d_W_goes_80 ?_
          refine r_icmp_ne (tgt := 88) d_W_goes_81 rfl (fun c => ?_) (fun c => ?_)
          · replace h := kr_ip c h
            refine r_iconst (v := (1 : Int32)) (by decide) d_W_goes_84 ?_
            refine r_goto (tgt := 187) d_W_goes_85 rfl ?_
            exact kr_sub [2, 3, 4, 5, 6, 7, 8, 9, 10, 11, 12] rfl (s_W_goes_B187 hk11 h)
          · replace h := kr_in_ c h
            refine r_iconst (v := (0 : Int32)) (by decide) d_W_goes_88 ?_
            refine r_goto (tgt := 187) d_W_goes_89 rfl ?_
            exact kr_sub [2, 3, 4, 5, 6, 7, 8, 9, 10, 11, 12] rfl (s_W_goes_B187 hk11 h)
        · replace h := kr_in_ c h
          refine r_iload (i := 12) (x := v28) 1 rfl d_W_goes_92 ?_
          refine r_iconst (v := (2 : Int32)) (by decide) d_W_goes_94 ?_
          refine r_icmp_ne (tgt := 119) d_W_goes_95 rfl (fun c => ?_) (fun c => ?_)
          · replace h := kr_ip c h
            refine r_aload_n (i := 0) (x := x0) 2 rfl d_W_goes_98 ?_
            refine r_aload_n (i := 2) (x := x2) 4 rfl d_W_goes_99 ?_
            refine r_aload_n (i := 3) (x := x3) 5 rfl d_W_goes_100 ?_
            refine r_iload (i := 8) (x := x8) 10 rfl d_W_goes_101 ?_
            have h2 := kr_ob2 h
            clear h
            obtain ⟨v34, S33, eS33, h⟩ := h2
            refine r_callS (M1 := m_W_risk) (As := [va_rf x0, va_rf x2, va_rf x3, .int x8]) (s_W_risk eS33) mok_W_risk rfl w1020 w1021 (by decide) (kr_c8 kr_c0) d_W_goes_103 (kr_k1 ?_) kr_kn
            refine r_iload (i := 13) (x := v29) 0 rfl d_W_goes_106 ?_
            refine r_icmp_lt (tgt := 115) d_W_goes_108 rfl (fun c => ?_) (fun c => ?_)
            · replace h := kr_ip c h
              refine r_iconst (v := (0 : Int32)) (by decide) d_W_goes_115 ?_
              refine r_goto (tgt := 187) d_W_goes_116 rfl ?_
              exact kr_sub [2, 3, 4, 5, 6, 7, 8, 9, 10, 11, 12] rfl (s_W_goes_B187 hk11 h)
            · replace h := kr_in_ c h
              refine r_iconst (v := (1 : Int32)) (by decide) d_W_goes_111 ?_
              refine r_goto (tgt := 187) d_W_goes_112 rfl ?_
              exact kr_sub [2, 3, 4, 5, 6, 7, 8, 9, 10, 11, 12] rfl (s_W_goes_B187 hk11 h)
          · replace h := kr_in_ c h
            refine r_iload (i := 12) (x := v28) 1 rfl d_W_goes_119 ?_
            refine r_iconst (v := (3 : Int32)) (by decide) d_W_goes_121 ?_
            refine r_icmp_ne (tgt := 149) d_W_goes_122 rfl (fun c => ?_) (fun c => ?_)
            · replace h := kr_ip c h
              refine r_aload_n (i := 2) (x := x2) 4 rfl d_W_goes_125 ?_
              refine r_bipush (v := (12 : Int32)) (by decide) d_W_goes_126 ?_
              refine r_aload_n (i := 3) (x := x3) 5 rfl d_W_goes_128 ?_
              refine r_iload (i := 10) (x := x10) 11 rfl d_W_goes_129 ?_
              have h2 := kr_ob h
              clear h
              obtain ⟨v35, ev35, h⟩ := h2
              refine r_iaload ev35 d_W_goes_131 ?_
              refine r_imul d_W_goes_132 ?_
              refine r_iload (i := 13) (x := v29) 0 rfl d_W_goes_133 ?_
              refine r_iadd d_W_goes_135 ?_
              have h2 := kr_ob h
              clear h
              obtain ⟨v36, ev36, h⟩ := h2
              refine r_iaload ev36 d_W_goes_136 ?_
              refine r_iconst (v := (1 : Int32)) (by decide) d_W_goes_137 ?_
              refine r_icmp_ne (tgt := 145) d_W_goes_138 rfl (fun c => ?_) (fun c => ?_)
              · replace h := kr_ip c h
                refine r_iconst (v := (1 : Int32)) (by decide) d_W_goes_141 ?_
                refine r_goto (tgt := 187) d_W_goes_142 rfl ?_
                exact kr_sub [2, 3, 4, 5, 6, 7, 8, 9, 10, 11, 12] rfl (s_W_goes_B187 hk11 h)
              · replace h := kr_in_ c h
                refine r_iconst (v := (0 : Int32)) (by decide) d_W_goes_145 ?_
                refine r_goto (tgt := 187) d_W_goes_146 rfl ?_
                exact kr_sub [2, 3, 4, 5, 6, 7, 8, 9, 10, 11, 12] rfl (s_W_goes_B187 hk11 h)
            · replace h := kr_in_ c h
              refine r_aload (i := 5) (x := x5) 7 rfl d_W_goes_149 ?_
              refine r_iconst (v := (3 : Int32)) (by decide) d_W_goes_151 ?_
              refine r_iload (i := 8) (x := x8) 10 rfl d_W_goes_152 ?_
              refine r_imul d_W_goes_154 ?_
              have h2 := kr_ob h
              clear h
              obtain ⟨v37, ev37, h⟩ := h2
              refine r_iaload ev37 d_W_goes_155 ?_
              refine r_aload (i := 5) (x := x5) 7 rfl d_W_goes_156 ?_
              refine r_iconst (v := (3 : Int32)) (by decide) d_W_goes_158 ?_
              refine r_iload (i := 8) (x := x8) 10 rfl d_W_goes_159 ?_
              refine r_imul d_W_goes_161 ?_
              refine r_iconst (v := (1 : Int32)) (by decide) d_W_goes_162 ?_
              refine r_iadd d_W_goes_163 ?_
              have h2 := kr_ob h
              clear h
              obtain ⟨v38, ev38, h⟩ := h2
              refine r_iaload ev38 d_W_goes_164 ?_
              refine r_aload (i := 5) (x := x5) 7 rfl d_W_goes_165 ?_
              refine r_iconst (v := (3 : Int32)) (by decide) d_W_goes_167 ?_
              refine r_iload (i := 8) (x := x8) 10 rfl d_W_goes_168 ?_
              refine r_imul d_W_goes_170 ?_
              refine r_iconst (v := (2 : Int32)) (by decide) d_W_goes_171 ?_
              refine r_iadd d_W_goes_172 ?_
              have h2 := kr_ob h
              clear h
              obtain ⟨v39, ev39, h⟩ := h2
              refine r_iaload ev39 d_W_goes_173 ?_
              have h2 := kr_ob2 h
              clear h
              obtain ⟨v41, S40, eS40, h⟩ := h2
              refine r_callS (M1 := m_W_level) (As := [.int v37, .int v38, .int v39]) (s_W_level eS40) mok_W_level rfl w1023 w1024 (by decide) (kr_c8 kr_c0) d_W_goes_174 (kr_k1 ?_) kr_kn
              refine r_iload (i := 13) (x := v29) 0 rfl d_W_goes_177 ?_
              refine r_icmp_lt (tgt := 186) d_W_goes_179 rfl (fun c => ?_) (fun c => ?_)
              · replace h := kr_ip c h
                refine r_iconst (v := (0 : Int32)) (by decide) d_W_goes_186 ?_
                exact kr_sub [2, 3, 4, 5, 6, 7, 8, 9, 10, 11, 12] rfl (s_W_goes_B187 hk11 h)
              · replace h := kr_in_ c h
                refine r_iconst (v := (1 : Int32)) (by decide) d_W_goes_182 ?_
                refine r_goto (tgt := 187) d_W_goes_183 rfl ?_
                exact kr_sub [2, 3, 4, 5, 6, 7, 8, 9, 10, 11, 12] rfl (s_W_goes_B187 hk11 h)
theorem s_W_goes_L11 (n : Nat) : ∀ {S : AS} {x0 : Option Nat} {x1 : Option Nat} {x2 : Option Nat} {x3 : Option Nat} {x4 : Option Nat} {x5 : Option Nat} {x6 : Option Nat} {x7 : Option Nat} {x8 : Int32} {x10 : Int32} {x11 : Int32} {r : AS}, f_W_goes_L11 n S x0 x1 x2 x3 x4 x5 x6 x7 x8 x10 x11 = some r → kr_AW m_W_goes 2 11 [(0, va_rf x0), (1, va_rf x1), (2, va_rf x2), (3, va_rf x3), (4, va_rf x4), (5, va_rf x5), (6, va_rf x6), (7, va_rf x7), (8, .int x8), (10, .int x10), (11, .int x11)] [] S (kr_eV r) := by
  induction n with
  | zero => intro S x0 x1 x2 x3 x4 x5 x6 x7 x8 x10 x11 r h; cases h
  | succ n ih => intro S x0 x1 x2 x3 x4 x5 x6 x7 x8 x10 x11 r h; exact s_W_goes_C11 (fun {_} {_} {_} {_} {_} {_} {_} {_} {_} {_} {_} {_} {_} h => ih h) h
set_option maxRecDepth 20000 in
set_option maxHeartbeats 4000000 in
theorem s_W_goes {S : AS} {a0 : Option Nat} {a1 : Option Nat} {a2 : Option Nat} {a3 : Option Nat} {a4 : Option Nat} {a5 : Option Nat} {a6 : Option Nat} {a7 : Option Nat} {a8 : Int32} {a9 : Int32} {r : AS} (h : f_W_goes S a0 a1 a2 a3 a4 a5 a6 a7 a8 a9 = some r) : kr_Con m_W_goes 2 [va_rf a0, va_rf a1, va_rf a2, va_rf a3, va_rf a4, va_rf a5, va_rf a6, va_rf a7, .int a8, .int a9] S (kr_eV r) := by
  refine kr_con rfl rfl (by decide +kernel) (by simp [lg_sl, kr_rfcat, kr_icat, m_W_goes, mL]) ?_
  rw [show lv_args 0 [va_rf a0, va_rf a1, va_rf a2, va_rf a3, va_rf a4, va_rf a5, va_rf a6, va_rf a7, .int a8, .int a9] = [(0, va_rf a0), (1, va_rf a1), (2, va_rf a2), (3, va_rf a3), (4, va_rf a4), (5, va_rf a5), (6, va_rf a6), (7, va_rf a7), (8, .int a8), (9, .int a9)] from by simp [lv_args, kr_rfcat, kr_icat]]
  unfold f_W_goes at h
  refine r_bipush (v := (6 : Int32)) (by decide) d_W_goes_0 ?_
  refine r_iload (i := 8) (x := a8) 8 rfl d_W_goes_2 ?_
  refine r_imul d_W_goes_4 ?_
  have h2 := kr_ob h
  clear h
  obtain ⟨i42, ei42, h⟩ := h2
  refine kr_nmI ei42 ?_
  refine r_istore (i := 10) (lv' := [(10, .int i42), (0, va_rf a0), (1, va_rf a1), (2, va_rf a2), (3, va_rf a3), (4, va_rf a4), (5, va_rf a5), (6, va_rf a6), (7, va_rf a7), (8, .int a8), (9, .int a9)]) (by decide) rfl d_W_goes_5 ?_
  refine r_iload (i := 9) (x := a9) 10 rfl d_W_goes_7 ?_
  refine r_istore (i := 11) (lv' := [(11, .int a9), (10, .int i42), (0, va_rf a0), (1, va_rf a1), (2, va_rf a2), (3, va_rf a3), (4, va_rf a4), (5, va_rf a5), (6, va_rf a6), (7, va_rf a7), (8, .int a8), (9, .int a9)]) (by decide) rfl d_W_goes_9 ?_
  exact kr_sub [2, 3, 4, 5, 6, 7, 8, 9, 10, 1, 0] rfl (s_W_goes_L11 kr_FU h)
/-! KeyringCourtLaw.answers([I[IIIZI)Z -/
def f_W_answers_B165 (S : AS) (x0 : Option Nat) (x1 : Option Nat) (x2 : Int32) : Option (Int32 × AS) :=
  (aI S 40 x1 (((12 : Int32) * x2) + (8 : Int32))).bind fun v1 =>
  (bI S x1 (((12 : Int32) * x2) + (7 : Int32)) v1).bind fun S2 =>
  (aI S2 40 x1 (((12 : Int32) * x2) + (9 : Int32))).bind fun v3 =>
  (bI S2 x1 (((12 : Int32) * x2) + (8 : Int32)) v3).bind fun S4 =>
  (aI S4 40 x0 (0 : Int32)).bind fun v5 =>
  (bI S4 x1 (((12 : Int32) * x2) + (9 : Int32)) (v5 + (1 : Int32))).bind fun S6 =>
  some ((0 : Int32), S6)
def f_W_answers_B150 (S : AS) (x0 : Option Nat) (x1 : Option Nat) (x2 : Int32) (x3 : Int32) (x6 : Int32) : Option (Int32 × AS) :=
  (bI S x1 x6 (2 : Int32)).bind fun S7 =>
  (f_W_writes S7 x0 (4 : Int32) (((3 : Int32) * x2) + x3)).bind fun S8 =>
  f_W_answers_B165 S8 x0 x1 x2
def f_W_answers_B128 (S : AS) (x0 : Option Nat) (x1 : Option Nat) (x2 : Int32) (x3 : Int32) (x6 : Int32) (x7 : Int32) (x8 : Int32) (y0 : Option Nat) (y1 : Int32) (y2 : Int32) (y3 : Int32) : Option (Int32 × AS) :=
  (bI S y0 y1 (y2 + y3)).bind fun S9 =>
  if x7 = 0 then
  f_W_answers_B165 S9 x0 x1 x2
  else
  if x8 = 0 then
  (aI S9 40 x1 (x6 + (3 : Int32))).bind fun v10 =>
  if v10 = (5 : Int32) then
  f_W_answers_B150 S9 x0 x1 x2 x3 x6
  else
  f_W_answers_B165 S9 x0 x1 x2
  else
  f_W_answers_B150 S9 x0 x1 x2 x3 x6
def f_W_answers_B127 (S : AS) (x0 : Option Nat) (x1 : Option Nat) (x2 : Int32) (x3 : Int32) (x6 : Int32) (x7 : Int32) (x8 : Int32) (y0 : Option Nat) (y1 : Int32) (y2 : Int32) : Option (Int32 × AS) :=
  f_W_answers_B128 S x0 x1 x2 x3 x6 x7 x8 y0 y1 y2 (0 : Int32)
def f_W_answers_B106 (S : AS) (x0 : Option Nat) (x1 : Option Nat) (x2 : Int32) (x3 : Int32) (x4 : Int32) (x6 : Int32) (x7 : Int32) (x8 : Int32) : Option (Int32 × AS) :=
  (some (x6 + (3 : Int32))).bind fun i11 =>
  (aI S 40 x1 i11).bind fun v12 =>
  if x7 = 0 then
  f_W_answers_B127 S x0 x1 x2 x3 x6 x7 x8 x1 i11 v12
  else
  if x4 = 0 then
  f_W_answers_B128 S x0 x1 x2 x3 x6 x7 x8 x1 i11 v12 (1 : Int32)
  else
  f_W_answers_B127 S x0 x1 x2 x3 x6 x7 x8 x1 i11 v12
def f_W_answers_B52 (S : AS) (x0 : Option Nat) (x1 : Option Nat) (x2 : Int32) (x3 : Int32) (x4 : Int32) (x5 : Int32) (x6 : Int32) (x7 : Int32) (y0 : Int32) : Option (Int32 × AS) :=
  if x7 = 0 then
  f_W_answers_B106 S x0 x1 x2 x3 x4 x6 x7 y0
  else
  if x4 = 0 then
  f_W_answers_B106 S x0 x1 x2 x3 x4 x6 x7 y0
  else
  if y0 = 0 then
  (bI S x1 (x6 + (3 : Int32)) (0 : Int32)).bind fun S13 =>
  if x3 = (2 : Int32) then
  (bI S13 x1 (((12 : Int32) * x2) + (6 : Int32)) x5).bind fun S14 =>
  some ((1 : Int32), S14)
  else
  (aI S13 40 x1 (((12 : Int32) * x2) + (6 : Int32))).bind fun v15 =>
  (bI S13 x1 (((12 : Int32) * x2) + (6 : Int32)) v15).bind fun S16 =>
  some ((1 : Int32), S16)
  else
  f_W_answers_B106 S x0 x1 x2 x3 x4 x6 x7 y0
def f_W_answers_B51 (S : AS) (x0 : Option Nat) (x1 : Option Nat) (x2 : Int32) (x3 : Int32) (x4 : Int32) (x5 : Int32) (x6 : Int32) (x7 : Int32) : Option (Int32 × AS) :=
  f_W_answers_B52 S x0 x1 x2 x3 x4 x5 x6 x7 (0 : Int32)
def f_W_answers_B21 (S : AS) (x0 : Option Nat) (x1 : Option Nat) (x2 : Int32) (x3 : Int32) (x4 : Int32) (x5 : Int32) (x6 : Int32) (y0 : Int32) : Option (Int32 × AS) :=
  if x3 = (2 : Int32) then
  if x4 = 0 then
  f_W_answers_B51 S x0 x1 x2 x3 x4 x5 x6 y0
  else
  (aI S 40 x1 (((12 : Int32) * x2) + (6 : Int32))).bind fun v17 =>
  if v17 < x5 then
  f_W_answers_B51 S x0 x1 x2 x3 x4 x5 x6 y0
  else
  f_W_answers_B52 S x0 x1 x2 x3 x4 x5 x6 y0 (1 : Int32)
  else
  f_W_answers_B51 S x0 x1 x2 x3 x4 x5 x6 y0
def f_W_answers (S : AS) (a0 : Option Nat) (a1 : Option Nat) (a2 : Int32) (a3 : Int32) (a4 : Int32) (a5 : Int32) : Option (Int32 × AS) :=
  (some (((12 : Int32) * a2) + a3)).bind fun i18 =>
  (aI S 40 a1 i18).bind fun v19 =>
  if v19 = (1 : Int32) then
  f_W_answers_B21 S a0 a1 a2 a3 a4 a5 i18 (1 : Int32)
  else
  f_W_answers_B21 S a0 a1 a2 a3 a4 a5 i18 (0 : Int32)
set_option maxRecDepth 20000 in
set_option maxHeartbeats 4000000 in
theorem s_W_answers_B165 {S : AS} {x0 : Option Nat} {x1 : Option Nat} {x2 : Int32} {r : (Int32 × AS)} (h : f_W_answers_B165 S x0 x1 x2 = some r) : kr_AW m_W_answers 1 165 [(0, va_rf x0), (1, va_rf x1), (2, .int x2)] [] S (kr_eI r) := by
  unfold f_W_answers_B165 at h
  refine r_aload_n (i := 1) (x := x1) 1 rfl d_W_answers_165 ?_
  refine r_bipush (v := (12 : Int32)) (by decide) d_W_answers_166 ?_
  refine r_iload_n (i := 2) (x := x2) 2 rfl d_W_answers_168 ?_
  refine r_imul d_W_answers_169 ?_
  refine r_bipush (v := (7 : Int32)) (by decide) d_W_answers_170 ?_
  refine r_iadd d_W_answers_172 ?_
  refine r_aload_n (i := 1) (x := x1) 1 rfl d_W_answers_173 ?_
  refine r_bipush (v := (12 : Int32)) (by decide) d_W_answers_174 ?_
  refine r_iload_n (i := 2) (x := x2) 2 rfl d_W_answers_176 ?_
  refine r_imul d_W_answers_177 ?_
  refine r_bipush (v := (8 : Int32)) (by decide) d_W_answers_178 ?_
  refine r_iadd d_W_answers_180 ?_
  have h2 := kr_ob h
  clear h
  obtain ⟨v1, ev1, h⟩ := h2
  refine r_iaload ev1 d_W_answers_181 ?_
  have h2 := kr_ob h
  clear h
  obtain ⟨S2, eS2, h⟩ := h2
  refine r_iastore eS2 d_W_answers_182 ?_
  refine r_aload_n (i := 1) (x := x1) 1 rfl d_W_answers_183 ?_
  refine r_bipush (v := (12 : Int32)) (by decide) d_W_answers_184 ?_
  refine r_iload_n (i := 2) (x := x2) 2 rfl d_W_answers_186 ?_
  refine r_imul d_W_answers_187 ?_
  refine r_bipush (v := (8 : Int32)) (by decide) d_W_answers_188 ?_
  refine r_iadd d_W_answers_190 ?_
  refine r_aload_n (i := 1) (x := x1) 1 rfl d_W_answers_191 ?_
  refine r_bipush (v := (12 : Int32)) (by decide) d_W_answers_192 ?_
  refine r_iload_n (i := 2) (x := x2) 2 rfl d_W_answers_194 ?_
  refine r_imul d_W_answers_195 ?_
  refine r_bipush (v := (9 : Int32)) (by decide) d_W_answers_196 ?_
  refine r_iadd d_W_answers_198 ?_
  have h2 := kr_ob h
  clear h
  obtain ⟨v3, ev3, h⟩ := h2
  refine r_iaload ev3 d_W_answers_199 ?_
  have h2 := kr_ob h
  clear h
  obtain ⟨S4, eS4, h⟩ := h2
  refine r_iastore eS4 d_W_answers_200 ?_
  refine r_aload_n (i := 1) (x := x1) 1 rfl d_W_answers_201 ?_
  refine r_bipush (v := (12 : Int32)) (by decide) d_W_answers_202 ?_
  refine r_iload_n (i := 2) (x := x2) 2 rfl d_W_answers_204 ?_
  refine r_imul d_W_answers_205 ?_
  refine r_bipush (v := (9 : Int32)) (by decide) d_W_answers_206 ?_
  refine r_iadd d_W_answers_208 ?_
  refine r_aload_n (i := 0) (x := x0) 0 rfl d_W_answers_209 ?_
  refine r_iconst (v := (0 : Int32)) (by decide) d_W_answers_210 ?_
  have h2 := kr_ob h
  clear h
  obtain ⟨v5, ev5, h⟩ := h2
  refine r_iaload ev5 d_W_answers_211 ?_
  refine r_iconst (v := (1 : Int32)) (by decide) d_W_answers_212 ?_
  refine r_iadd d_W_answers_213 ?_
  have h2 := kr_ob h
  clear h
  obtain ⟨S6, eS6, h⟩ := h2
  refine r_iastore eS6 d_W_answers_214 ?_
  refine r_iconst (v := (0 : Int32)) (by decide) d_W_answers_215 ?_
  cases h
  exact r_zret rfl rfl d_W_answers_216
set_option maxRecDepth 20000 in
set_option maxHeartbeats 4000000 in
theorem s_W_answers_B150 {S : AS} {x0 : Option Nat} {x1 : Option Nat} {x2 : Int32} {x3 : Int32} {x6 : Int32} {r : (Int32 × AS)} (h : f_W_answers_B150 S x0 x1 x2 x3 x6 = some r) : kr_AW m_W_answers 1 150 [(0, va_rf x0), (1, va_rf x1), (2, .int x2), (3, .int x3), (6, .int x6)] [] S (kr_eI r) := by
  unfold f_W_answers_B150 at h
  refine r_aload_n (i := 1) (x := x1) 1 rfl d_W_answers_150 ?_
  refine r_iload (i := 6) (x := x6) 4 rfl d_W_answers_151 ?_
  refine r_iconst (v := (2 : Int32)) (by decide) d_W_answers_153 ?_
  have h2 := kr_ob h
  clear h
  obtain ⟨S7, eS7, h⟩ := h2
  refine r_iastore eS7 d_W_answers_154 ?_
  refine r_aload_n (i := 0) (x := x0) 0 rfl d_W_answers_155 ?_
  refine r_iconst (v := (4 : Int32)) (by decide) d_W_answers_156 ?_
  refine r_iconst (v := (3 : Int32)) (by decide) d_W_answers_157 ?_
  refine r_iload_n (i := 2) (x := x2) 2 rfl d_W_answers_158 ?_
  refine r_imul d_W_answers_159 ?_
  refine r_iload_n (i := 3) (x := x3) 3 rfl d_W_answers_160 ?_
  refine r_iadd d_W_answers_161 ?_
  have h2 := kr_ob h
  clear h
  obtain ⟨S8, eS8, h⟩ := h2
  refine r_callS (M1 := m_W_writes) (As := [va_rf x0, .int (4 : Int32), .int (((3 : Int32) * x2) + x3)]) (s_W_writes eS8) mok_W_writes rfl w1029 w1030 (by decide) (kr_c8 kr_c0) d_W_answers_162 (kr_k0 ?_) kr_kn
  exact kr_sub [0, 1, 2] rfl (s_W_answers_B165 h)
set_option maxRecDepth 20000 in
set_option maxHeartbeats 4000000 in
theorem s_W_answers_B128 {S : AS} {x0 : Option Nat} {x1 : Option Nat} {x2 : Int32} {x3 : Int32} {x6 : Int32} {x7 : Int32} {x8 : Int32} {y0 : Option Nat} {y1 : Int32} {y2 : Int32} {y3 : Int32} {r : (Int32 × AS)} (h : f_W_answers_B128 S x0 x1 x2 x3 x6 x7 x8 y0 y1 y2 y3 = some r) : kr_AW m_W_answers 1 128 [(0, va_rf x0), (1, va_rf x1), (2, .int x2), (3, .int x3), (6, .int x6), (7, .int x7), (8, .int x8)] [.int y3, .int y2, .int y1, va_rf y0] S (kr_eI r) := by
  unfold f_W_answers_B128 at h
  refine r_iadd d_W_answers_128 ?_
  have h2 := kr_ob h
  clear h
  obtain ⟨S9, eS9, h⟩ := h2
  refine r_iastore eS9 d_W_answers_129 ?_
  refine r_iload (i := 7) (x := x7) 5 rfl d_W_answers_130 ?_
  refine r_if_eq (tgt := 165) d_W_answers_132 rfl (fun c => ?_) (fun c => ?_)
  · replace h := kr_ip c h
    exact kr_sub [0, 1, 2] rfl (s_W_answers_B165 h)
  · replace h := kr_in_ c h
    refine r_iload (i := 8) (x := x8) 6 rfl d_W_answers_135 ?_
    refine r_if_ne (tgt := 150) d_W_answers_137 rfl (fun c => ?_) (fun c => ?_)
    · replace h := kr_ip c h
      refine r_aload_n (i := 1) (x := x1) 1 rfl d_W_answers_140 ?_
      refine r_iload (i := 6) (x := x6) 4 rfl d_W_answers_141 ?_
      refine r_iconst (v := (3 : Int32)) (by decide) d_W_answers_143 ?_
      refine r_iadd d_W_answers_144 ?_
      have h2 := kr_ob h
      clear h
      obtain ⟨v10, ev10, h⟩ := h2
      refine r_iaload ev10 d_W_answers_145 ?_
      refine r_iconst (v := (5 : Int32)) (by decide) d_W_answers_146 ?_
      refine r_icmp_ne (tgt := 165) d_W_answers_147 rfl (fun c => ?_) (fun c => ?_)
      · replace h := kr_ip c h
        exact kr_sub [0, 1, 2, 3, 4] rfl (s_W_answers_B150 h)
      · replace h := kr_in_ c h
        exact kr_sub [0, 1, 2] rfl (s_W_answers_B165 h)
    · replace h := kr_in_ c h
      exact kr_sub [0, 1, 2, 3, 4] rfl (s_W_answers_B150 h)
set_option maxRecDepth 20000 in
set_option maxHeartbeats 4000000 in
theorem s_W_answers_B127 {S : AS} {x0 : Option Nat} {x1 : Option Nat} {x2 : Int32} {x3 : Int32} {x6 : Int32} {x7 : Int32} {x8 : Int32} {y0 : Option Nat} {y1 : Int32} {y2 : Int32} {r : (Int32 × AS)} (h : f_W_answers_B127 S x0 x1 x2 x3 x6 x7 x8 y0 y1 y2 = some r) : kr_AW m_W_answers 1 127 [(0, va_rf x0), (1, va_rf x1), (2, .int x2), (3, .int x3), (6, .int x6), (7, .int x7), (8, .int x8)] [.int y2, .int y1, va_rf y0] S (kr_eI r) := by
  unfold f_W_answers_B127 at h
  refine r_iconst (v := (0 : Int32)) (by decide) d_W_answers_127 ?_
  exact kr_sub [0, 1, 2, 3, 4, 5, 6] rfl (s_W_answers_B128 h)
set_option maxRecDepth 20000 in
set_option maxHeartbeats 4000000 in
theorem s_W_answers_B106 {S : AS} {x0 : Option Nat} {x1 : Option Nat} {x2 : Int32} {x3 : Int32} {x4 : Int32} {x6 : Int32} {x7 : Int32} {x8 : Int32} {r : (Int32 × AS)} (h : f_W_answers_B106 S x0 x1 x2 x3 x4 x6 x7 x8 = some r) : kr_AW m_W_answers 1 106 [(0, va_rf x0), (1, va_rf x1), (2, .int x2), (3, .int x3), (4, .int x4), (6, .int x6), (7, .int x7), (8, .int x8)] [] S (kr_eI r) := by
  unfold f_W_answers_B106 at h
  refine r_aload_n (i := 1) (x := x1) 1 rfl d_W_answers_106 ?_
  refine r_iload (i := 6) (x := x6) 5 rfl d_W_answers_107 ?_
  refine r_iconst (v := (3 : Int32)) (by decide) d_W_answers_109 ?_
  refine r_iadd d_W_answers_110 ?_
  have h2 := kr_ob h
  clear h
  obtain ⟨i11, ei11, h⟩ := h2
  refine kr_nmI ei11 ?_
  refine r_dup2 rfl (kr_rfcat _) d_W_answers_111 ?_
  have h2 := kr_ob h
  clear h
  obtain ⟨v12, ev12, h⟩ := h2
  refine r_iaload ev12 d_W_answers_112 ?_
  refine r_iload (i := 7) (x := x7) 6 rfl d_W_answers_113 ?_
  refine r_if_eq (tgt := 127) d_W_answers_115 rfl (fun c => ?_) (fun c => ?_)
  · replace h := kr_ip c h
    exact kr_sub [0, 1, 2, 3, 5, 6, 7] rfl (s_W_answers_B127 h)
  · replace h := kr_in_ c h
    refine r_iload (i := 4) (x := x4) 4 rfl d_W_answers_118 ?_
    refine r_if_ne (tgt := 127) d_W_answers_120 rfl (fun c => ?_) (fun c => ?_)
    · replace h := kr_ip c h
      refine r_iconst (v := (1 : Int32)) (by decide) d_W_answers_123 ?_
      refine r_goto (tgt := 128) d_W_answers_124 rfl ?_
      exact kr_sub [0, 1, 2, 3, 5, 6, 7] rfl (s_W_answers_B128 h)
    · replace h := kr_in_ c h
      exact kr_sub [0, 1, 2, 3, 5, 6, 7] rfl (s_W_answers_B127 h)
set_option maxRecDepth 20000 in
set_option maxHeartbeats 4000000 in
theorem s_W_answers_B52 {S : AS} {x0 : Option Nat} {x1 : Option Nat} {x2 : Int32} {x3 : Int32} {x4 : Int32} {x5 : Int32} {x6 : Int32} {x7 : Int32} {y0 : Int32} {r : (Int32 × AS)} (h : f_W_answers_B52 S x0 x1 x2 x3 x4 x5 x6 x7 y0 = some r) : kr_AW m_W_answers 1 52 [(0, va_rf x0), (1, va_rf x1), (2, .int x2), (3, .int x3), (4, .int x4), (5, .int x5), (6, .int x6), (7, .int x7)] [.int y0] S (kr_eI r) := by
  unfold f_W_answers_B52 at h
  refine r_istore (i := 8) (lv' := [(8, .int y0), (0, va_rf x0), (1, va_rf x1), (2, .int x2), (3, .int x3), (4, .int x4), (5, .int x5), (6, .int x6), (7, .int x7)]) (by decide) rfl d_W_answers_52 ?_
  refine r_iload (i := 7) (x := x7) 8 rfl d_W_answers_54 ?_
  refine r_if_eq (tgt := 106) d_W_answers_56 rfl (fun c => ?_) (fun c => ?_)
  · replace h := kr_ip c h
    exact kr_sub [1, 2, 3, 4, 5, 7, 8, 0] rfl (s_W_answers_B106 h)
  · replace h := kr_in_ c h
    refine r_iload (i := 4) (x := x4) 5 rfl d_W_answers_59 ?_
    refine r_if_eq (tgt := 106) d_W_answers_61 rfl (fun c => ?_) (fun c => ?_)
    · replace h := kr_ip c h
      exact kr_sub [1, 2, 3, 4, 5, 7, 8, 0] rfl (s_W_answers_B106 h)
    · replace h := kr_in_ c h
      refine r_iload (i := 8) (x := y0) 0 rfl d_W_answers_64 ?_
      refine r_if_ne (tgt := 106) d_W_answers_66 rfl (fun c => ?_) (fun c => ?_)
      · replace h := kr_ip c h
        refine r_aload_n (i := 1) (x := x1) 2 rfl d_W_answers_69 ?_
        refine r_iload (i := 6) (x := x6) 7 rfl d_W_answers_70 ?_
        refine r_iconst (v := (3 : Int32)) (by decide) d_W_answers_72 ?_
        refine r_iadd d_W_answers_73 ?_
        refine r_iconst (v := (0 : Int32)) (by decide) d_W_answers_74 ?_
        have h2 := kr_ob h
        clear h
        obtain ⟨S13, eS13, h⟩ := h2
        refine r_iastore eS13 d_W_answers_75 ?_
        refine r_aload_n (i := 1) (x := x1) 2 rfl d_W_answers_76 ?_
        refine r_bipush (v := (12 : Int32)) (by decide) d_W_answers_77 ?_
        refine r_iload_n (i := 2) (x := x2) 3 rfl d_W_answers_79 ?_
        refine r_imul d_W_answers_80 ?_
        refine r_bipush (v := (6 : Int32)) (by decide) d_W_answers_81 ?_
        refine r_iadd d_W_answers_83 ?_
        refine r_iload_n (i := 3) (x := x3) 4 rfl d_W_answers_84 ?_
        refine r_iconst (v := (2 : Int32)) (by decide) d_W_answers_85 ?_
        refine r_icmp_ne (tgt := 94) d_W_answers_86 rfl (fun c => ?_) (fun c => ?_)
        · replace h := kr_ip c h
          refine r_iload (i := 5) (x := x5) 6 rfl d_W_answers_89 ?_
          refine r_goto (tgt := 103) d_W_answers_91 rfl ?_
          have h2 := kr_ob h
          clear h
          obtain ⟨S14, eS14, h⟩ := h2
          refine r_iastore eS14 d_W_answers_103 ?_
          refine r_iconst (v := (1 : Int32)) (by decide) d_W_answers_104 ?_
          cases h
          exact r_zret rfl rfl d_W_answers_105
        · replace h := kr_in_ c h
          refine r_aload_n (i := 1) (x := x1) 2 rfl d_W_answers_94 ?_
          refine r_bipush (v := (12 : Int32)) (by decide) d_W_answers_95 ?_
          refine r_iload_n (i := 2) (x := x2) 3 rfl d_W_answers_97 ?_
          refine r_imul d_W_answers_98 ?_
          refine r_bipush (v := (6 : Int32)) (by decide) d_W_answers_99 ?_
          refine r_iadd d_W_answers_101 ?_
          have h2 := kr_ob h
          clear h
          obtain ⟨v15, ev15, h⟩ := h2
          refine r_iaload ev15 d_W_answers_102 ?_
          have h2 := kr_ob h
          clear h
          obtain ⟨S16, eS16, h⟩ := h2
          refine r_iastore eS16 d_W_answers_103 ?_
          refine r_iconst (v := (1 : Int32)) (by decide) d_W_answers_104 ?_
          cases h
          exact r_zret rfl rfl d_W_answers_105
      · replace h := kr_in_ c h
        exact kr_sub [1, 2, 3, 4, 5, 7, 8, 0] rfl (s_W_answers_B106 h)
set_option maxRecDepth 20000 in
set_option maxHeartbeats 4000000 in
theorem s_W_answers_B51 {S : AS} {x0 : Option Nat} {x1 : Option Nat} {x2 : Int32} {x3 : Int32} {x4 : Int32} {x5 : Int32} {x6 : Int32} {x7 : Int32} {r : (Int32 × AS)} (h : f_W_answers_B51 S x0 x1 x2 x3 x4 x5 x6 x7 = some r) : kr_AW m_W_answers 1 51 [(0, va_rf x0), (1, va_rf x1), (2, .int x2), (3, .int x3), (4, .int x4), (5, .int x5), (6, .int x6), (7, .int x7)] [] S (kr_eI r) := by
  unfold f_W_answers_B51 at h
  refine r_iconst (v := (0 : Int32)) (by decide) d_W_answers_51 ?_
  exact kr_sub [0, 1, 2, 3, 4, 5, 6, 7] rfl (s_W_answers_B52 h)
set_option maxRecDepth 20000 in
set_option maxHeartbeats 4000000 in
theorem s_W_answers_B21 {S : AS} {x0 : Option Nat} {x1 : Option Nat} {x2 : Int32} {x3 : Int32} {x4 : Int32} {x5 : Int32} {x6 : Int32} {y0 : Int32} {r : (Int32 × AS)} (h : f_W_answers_B21 S x0 x1 x2 x3 x4 x5 x6 y0 = some r) : kr_AW m_W_answers 1 21 [(0, va_rf x0), (1, va_rf x1), (2, .int x2), (3, .int x3), (4, .int x4), (5, .int x5), (6, .int x6)] [.int y0] S (kr_eI r) := by
  unfold f_W_answers_B21 at h
  refine r_istore (i := 7) (lv' := [(7, .int y0), (0, va_rf x0), (1, va_rf x1), (2, .int x2), (3, .int x3), (4, .int x4), (5, .int x5), (6, .int x6)]) (by decide) rfl d_W_answers_21 ?_
  refine r_iload_n (i := 3) (x := x3) 4 rfl d_W_answers_23 ?_
  refine r_iconst (v := (2 : Int32)) (by decide) d_W_answers_24 ?_
  refine r_icmp_ne (tgt := 51) d_W_answers_25 rfl (fun c => ?_) (fun c => ?_)
  · replace h := kr_ip c h
    refine r_iload (i := 4) (x := x4) 5 rfl d_W_answers_28 ?_
    refine r_if_eq (tgt := 51) d_W_answers_30 rfl (fun c => ?_) (fun c => ?_)
    · replace h := kr_ip c h
      exact kr_sub [1, 2, 3, 4, 5, 6, 7, 0] rfl (s_W_answers_B51 h)
    · replace h := kr_in_ c h
      refine r_iload (i := 5) (x := x5) 6 rfl d_W_answers_33 ?_
      refine r_aload_n (i := 1) (x := x1) 2 rfl d_W_answers_35 ?_
      refine r_bipush (v := (12 : Int32)) (by decide) d_W_answers_36 ?_
      refine r_iload_n (i := 2) (x := x2) 3 rfl d_W_answers_38 ?_
      refine r_imul d_W_answers_39 ?_
      refine r_bipush (v := (6 : Int32)) (by decide) d_W_answers_40 ?_
      refine r_iadd d_W_answers_42 ?_
      have h2 := kr_ob h
      clear h
      obtain ⟨v17, ev17, h⟩ := h2
      refine r_iaload ev17 d_W_answers_43 ?_
      refine r_icmp_gt (tgt := 51) d_W_answers_44 rfl (fun c => ?_) (fun c => ?_)
      · replace h := kr_ip c h
        exact kr_sub [1, 2, 3, 4, 5, 6, 7, 0] rfl (s_W_answers_B51 h)
      · replace h := kr_in_ c h
        refine r_iconst (v := (1 : Int32)) (by decide) d_W_answers_47 ?_
        refine r_goto (tgt := 52) d_W_answers_48 rfl ?_
        exact kr_sub [1, 2, 3, 4, 5, 6, 7, 0] rfl (s_W_answers_B52 h)
  · replace h := kr_in_ c h
    exact kr_sub [1, 2, 3, 4, 5, 6, 7, 0] rfl (s_W_answers_B51 h)
set_option maxRecDepth 20000 in
set_option maxHeartbeats 4000000 in
theorem s_W_answers {S : AS} {a0 : Option Nat} {a1 : Option Nat} {a2 : Int32} {a3 : Int32} {a4 : Int32} {a5 : Int32} {r : (Int32 × AS)} (h : f_W_answers S a0 a1 a2 a3 a4 a5 = some r) : kr_Con m_W_answers 1 [va_rf a0, va_rf a1, .int a2, .int a3, .int a4, .int a5] S (kr_eI r) := by
  refine kr_con rfl rfl (by decide +kernel) (by simp [lg_sl, kr_rfcat, kr_icat, m_W_answers, mL]) ?_
  rw [show lv_args 0 [va_rf a0, va_rf a1, .int a2, .int a3, .int a4, .int a5] = [(0, va_rf a0), (1, va_rf a1), (2, .int a2), (3, .int a3), (4, .int a4), (5, .int a5)] from by simp [lv_args, kr_rfcat, kr_icat]]
  unfold f_W_answers at h
  refine r_bipush (v := (12 : Int32)) (by decide) d_W_answers_0 ?_
  refine r_iload_n (i := 2) (x := a2) 2 rfl d_W_answers_2 ?_
  refine r_imul d_W_answers_3 ?_
  refine r_iload_n (i := 3) (x := a3) 3 rfl d_W_answers_4 ?_
  refine r_iadd d_W_answers_5 ?_
  have h2 := kr_ob h
  clear h
  obtain ⟨i18, ei18, h⟩ := h2
  refine kr_nmI ei18 ?_
  refine r_istore (i := 6) (lv' := [(6, .int i18), (0, va_rf a0), (1, va_rf a1), (2, .int a2), (3, .int a3), (4, .int a4), (5, .int a5)]) (by decide) rfl d_W_answers_6 ?_
  refine r_aload_n (i := 1) (x := a1) 2 rfl d_W_answers_8 ?_
  refine r_iload (i := 6) (x := i18) 0 rfl d_W_answers_9 ?_
  have h2 := kr_ob h
  clear h
  obtain ⟨v19, ev19, h⟩ := h2
  refine r_iaload ev19 d_W_answers_11 ?_
  refine r_iconst (v := (1 : Int32)) (by decide) d_W_answers_12 ?_
  refine r_icmp_ne (tgt := 20) d_W_answers_13 rfl (fun c => ?_) (fun c => ?_)
  · replace h := kr_ip c h
    refine r_iconst (v := (1 : Int32)) (by decide) d_W_answers_16 ?_
    refine r_goto (tgt := 21) d_W_answers_17 rfl ?_
    exact kr_sub [1, 2, 3, 4, 5, 6, 0] rfl (s_W_answers_B21 h)
  · replace h := kr_in_ c h
    refine r_iconst (v := (0 : Int32)) (by decide) d_W_answers_20 ?_
    exact kr_sub [1, 2, 3, 4, 5, 6, 0] rfl (s_W_answers_B21 h)
/-! KeyringCourtLaw.attempts(LKeyringCourt;II[I[I[I[I[I[I[I[I)Z -/
def f_W_attempts_B132 (S : AS) (x0 : Option Nat) (x11 : Int32) (x12 : Int32) (x13 : Int32) (y0 : Option Nat) (y1 : Int32) (y2 : Int32) : Option (Int32 × AS) :=
  (bI S y0 y1 y2).bind fun S1 =>
  kr_b2 (f_W_twog S1 x0 (0 : Int32) x11 x12) fun v3 S2 =>
  if v3 = x13 then
  some ((1 : Int32), S2)
  else
  some ((0 : Int32), S2)
def f_W_attempts_B33 (S : AS) (x0 : Option Nat) (x5 : Option Nat) (x11 : Int32) (y0 : Int32) : Option (Int32 × AS) :=
  if y0 = (3 : Int32) then
  kr_b2 (f_W_twog S x0 (0 : Int32) x11 y0) fun v5 S4 =>
  if v5 = (-1002 : Int32) then
  some ((1 : Int32), S4)
  else
  some ((0 : Int32), S4)
  else
  (aI S 40 x5 (((12 : Int32) * x11) + y0)).bind fun v6 =>
  (bI S x5 (((12 : Int32) * x11) + y0) (1 : Int32)).bind fun S7 =>
  (bI S7 x5 ((((12 : Int32) * x11) + y0) + (3 : Int32)) (0 : Int32)).bind fun S8 =>
  if y0 = (2 : Int32) then
  f_W_attempts_B132 S8 x0 x11 y0 v6 x5 (((12 : Int32) * x11) + (6 : Int32)) (0 : Int32)
  else
  (aI S8 40 x5 (((12 : Int32) * x11) + (6 : Int32))).bind fun v9 =>
  f_W_attempts_B132 S8 x0 x11 y0 v6 x5 (((12 : Int32) * x11) + (6 : Int32)) v9
def f_W_attempts_C238 (k238 : AS → Option Nat → Option Nat → Option Nat → Option Nat → Option Nat → Option Nat → Option Nat → Option Nat → Option Nat → Int32 → Int32 → Int32 → Option (Int32 × AS)) (S : AS) (x0 : Option Nat) (x3 : Option Nat) (x4 : Option Nat) (x5 : Option Nat) (x6 : Option Nat) (x7 : Option Nat) (x8 : Option Nat) (x9 : Option Nat) (x10 : Option Nat) (x11 : Int32) (x12 : Int32) (x13 : Int32) : Option (Int32 × AS) :=
  if (3 : Int32) ≤ x13 then
  (aI S 40 x3 (11 : Int32)).bind fun v10 =>
  (bI S x3 (11 : Int32) (v10 + (1 : Int32))).bind fun S11 =>
  (f_W_goes S11 x3 x4 x5 x6 x7 x8 x9 x10 x12 (0 : Int32)).bind fun S12 =>
  (aI S12 40 x6 (((6 : Int32) * x12) + (1 : Int32))).bind fun v13 =>
  (aI S12 40 x6 (((6 : Int32) * x12) + (2 : Int32))).bind fun v14 =>
  kr_b2 (f_W_threeg S12 x0 (0 : Int32) x11 v13 v14) fun v16 S15 =>
  if v16 = x12 then
  some ((1 : Int32), S15)
  else
  some ((0 : Int32), S15)
  else
  (bI S x8 (((3 : Int32) * x12) + x13) (-1 : Int32)).bind fun S17 =>
  (some (x13 + (1 : Int32))).bind fun i18 =>
  k238 S17 x0 x3 x4 x5 x6 x7 x8 x9 x10 x11 x12 i18
def f_W_attempts_L238 : Nat → AS → Option Nat → Option Nat → Option Nat → Option Nat → Option Nat → Option Nat → Option Nat → Option Nat → Option Nat → Int32 → Int32 → Int32 → Option (Int32 × AS)
  | 0, S, x0, x3, x4, x5, x6, x7, x8, x9, x10, x11, x12, x13 => none
  | n + 1, S, x0, x3, x4, x5, x6, x7, x8, x9, x10, x11, x12, x13 => f_W_attempts_C238 (f_W_attempts_L238 n) S x0 x3 x4 x5 x6 x7 x8 x9 x10 x11 x12 x13
def f_W_attempts_B499 (S : AS) (y0 : Int32) (y1 : Int32) : Option (Int32 × AS) :=
  if y0 = y1 then
  some ((1 : Int32), S)
  else
  some ((0 : Int32), S)
def f_W_attempts_B462 (S : AS) (x3 : Option Nat) (x12 : Int32) (x14 : Int32) (y0 : Option Nat) (y1 : Int32) (y2 : Int32) (y3 : Int32) : Option (Int32 × AS) :=
  kr_b2 (f_W_threeg S y0 y1 y2 y3 x14) fun v20 S19 =>
  (aI S19 40 x3 (11 : Int32)).bind fun v21 =>
  if x12 = v21 then
  f_W_attempts_B499 S19 v20 (-1001 : Int32)
  else
  if x14 = (10000 : Int32) then
  f_W_attempts_B499 S19 v20 (-1002 : Int32)
  else
  f_W_attempts_B499 S19 v20 (-1003 : Int32)
def f_W_attempts_B448 (S : AS) (x0 : Option Nat) (x3 : Option Nat) (x12 : Int32) (x13 : Int32) (x14 : Int32) : Option (Int32 × AS) :=
  if x13 = 0 then
  f_W_attempts_B462 S x3 x12 x14 x0 (4 : Int32) x12 (0 : Int32)
  else
  f_W_attempts_B462 S x3 x12 x14 x0 (4 : Int32) x12 (1 : Int32)
def f_W_attempts_B748 (S : AS) (x6 : Option Nat) (x12 : Int32) (x14 : Int32) (y0 : Option Nat) (y1 : Int32) (y2 : Int32) (y3 : Int32) : Option (Int32 × AS) :=
  kr_b2 (f_W_threeg S y0 y1 y2 y3 x14) fun v23 S22 =>
  (aI S22 40 x6 (((6 : Int32) * x12) + (4 : Int32))).bind fun v24 =>
  if v23 = v24 then
  some ((1 : Int32), S22)
  else
  some ((0 : Int32), S22)
def f_W_attempts_B733 (S : AS) (x0 : Option Nat) (x6 : Option Nat) (x12 : Int32) (x13 : Int32) (x14 : Int32) (y0 : Option Nat) (y1 : Int32) (y2 : Int32) : Option (Int32 × AS) :=
  (bI S y0 y1 y2).bind fun S25 =>
  if x13 = 0 then
  f_W_attempts_B748 S25 x6 x12 x14 x0 (4 : Int32) x12 (0 : Int32)
  else
  f_W_attempts_B748 S25 x6 x12 x14 x0 (4 : Int32) x12 (1 : Int32)
def f_W_attempts_B723 (S : AS) (x0 : Option Nat) (x6 : Option Nat) (x12 : Int32) (x13 : Int32) (x14 : Int32) (y0 : Option Nat) (y1 : Int32) : Option (Int32 × AS) :=
  (aI S 40 x6 (((6 : Int32) * x12) + (4 : Int32))).bind fun v26 =>
  f_W_attempts_B733 S x0 x6 x12 x13 x14 y0 y1 v26
def f_W_attempts_B685 (S : AS) (x0 : Option Nat) (x6 : Option Nat) (x7 : Option Nat) (x12 : Int32) (x13 : Int32) (x14 : Int32) : Option (Int32 × AS) :=
  (aI S 40 x6 (((6 : Int32) * x12) + (4 : Int32))).bind fun v27 =>
  if v27 = 0 then
  (aI S 40 x7 ((2 : Int32) * x12)).bind fun v28 =>
  if v28 = (12 : Int32) then
  f_W_attempts_B733 S x0 x6 x12 x13 x14 x6 (((6 : Int32) * x12) + (4 : Int32)) (2 : Int32)
  else
  f_W_attempts_B723 S x0 x6 x12 x13 x14 x6 (((6 : Int32) * x12) + (4 : Int32))
  else
  f_W_attempts_B723 S x0 x6 x12 x13 x14 x6 (((6 : Int32) * x12) + (4 : Int32))
def f_W_attempts_B416 (S : AS) (x0 : Option Nat) (x3 : Option Nat) (x4 : Option Nat) (x5 : Option Nat) (x6 : Option Nat) (x7 : Option Nat) (x8 : Option Nat) (x9 : Option Nat) (x10 : Option Nat) (x12 : Int32) (x13 : Int32) (y0 : Int32) : Option (Int32 × AS) :=
  (aI S 40 x3 (11 : Int32)).bind fun v29 =>
  if x12 = v29 then
  f_W_attempts_B448 S x0 x3 x12 x13 y0
  else
  if y0 = (10000 : Int32) then
  f_W_attempts_B448 S x0 x3 x12 x13 y0
  else
  (aI S 40 x6 (((6 : Int32) * x12) + (4 : Int32))).bind fun v30 =>
  if v30 = 0 then
  (aI S 40 x3 (1 : Int32)).bind fun v31 =>
  if v31 ≤ (13 : Int32) then
  (aI S 40 x6 (((6 : Int32) * x12) + (3 : Int32))).bind fun v32 =>
  (aI S 40 x4 (((5 : Int32) * v32) + (1 : Int32))).bind fun v33 =>
  (some ((2 : Int32) * x12)).bind fun i34 =>
  (aI S 40 x7 i34).bind fun v35 =>
  (bI S x7 i34 (v35 + (1 : Int32))).bind fun S36 =>
  (aI S36 40 x6 ((6 : Int32) * x12)).bind fun v37 =>
  kr_b2 (f_W_answers S36 x3 x5 v37 v33 x13 y0) fun v39 S38 =>
  if v39 = 0 then
  (some (((6 : Int32) * x12) + (5 : Int32))).bind fun i40 =>
  (aI S38 40 x6 i40).bind fun v41 =>
  (bI S38 x6 i40 (v41 + (1 : Int32))).bind fun S42 =>
  (aI S42 40 x6 (((6 : Int32) * x12) + (5 : Int32))).bind fun v43 =>
  (aI S42 40 x4 (((5 : Int32) * v32) + (2 : Int32))).bind fun v44 =>
  if v43 = v44 then
  (aI S42 40 x4 (((5 : Int32) * v32) + (4 : Int32))).bind fun v45 =>
  (f_W_goes S42 x3 x4 x5 x6 x7 x8 x9 x10 x12 v45).bind fun S46 =>
  f_W_attempts_B685 S46 x0 x6 x7 x12 x13 y0
  else
  f_W_attempts_B685 S42 x0 x6 x7 x12 x13 y0
  else
  (aI S38 40 x3 (0 : Int32)).bind fun v47 =>
  (bI S38 x8 (((3 : Int32) * x12) + v33) v47).bind fun S48 =>
  (aI S48 40 x4 (((5 : Int32) * v32) + (3 : Int32))).bind fun v49 =>
  (f_W_goes S48 x3 x4 x5 x6 x7 x8 x9 x10 x12 v49).bind fun S50 =>
  f_W_attempts_B685 S50 x0 x6 x7 x12 x13 y0
  else
  some ((1 : Int32), S)
  else
  f_W_attempts_B448 S x0 x3 x12 x13 y0
def f_W_attempts_B388 (S : AS) (x0 : Option Nat) (x2 : Int32) (x3 : Option Nat) (x4 : Option Nat) (x5 : Option Nat) (x6 : Option Nat) (x7 : Option Nat) (x8 : Option Nat) (x9 : Option Nat) (x10 : Option Nat) (x12 : Int32) (y0 : Int32) : Option (Int32 × AS) :=
  kr_b2 (f_W_some S (x2 >>> ((7 : Int32) &&& 31)) (30 : Int32)) fun v52 S51 =>
  if v52 = 0 then
  f_W_attempts_B416 S51 x0 x3 x4 x5 x6 x7 x8 x9 x10 x12 y0 (10000 : Int32)
  else
  kr_b2 (f_W_some S51 (x2 >>> ((3 : Int32) &&& 31)) (7 : Int32)) fun v54 S53 =>
  f_W_attempts_B416 S53 x0 x3 x4 x5 x6 x7 x8 x9 x10 x12 y0 v54
def f_W_attempts_B370 (S : AS) (x0 : Option Nat) (x2 : Int32) (x3 : Option Nat) (x4 : Option Nat) (x5 : Option Nat) (x6 : Option Nat) (x7 : Option Nat) (x8 : Option Nat) (x9 : Option Nat) (x10 : Option Nat) (y0 : Int32) : Option (Int32 × AS) :=
  kr_b2 (f_W_some S (x2 >>> ((5 : Int32) &&& 31)) (5 : Int32)) fun v56 S55 =>
  if v56 ≤ (1 : Int32) then
  f_W_attempts_B388 S55 x0 x2 x3 x4 x5 x6 x7 x8 x9 x10 y0 (0 : Int32)
  else
  f_W_attempts_B388 S55 x0 x2 x3 x4 x5 x6 x7 x8 x9 x10 y0 (1 : Int32)
def f_W_attempts (S : AS) (a0 : Option Nat) (a1 : Int32) (a2 : Int32) (a3 : Option Nat) (a4 : Option Nat) (a5 : Option Nat) (a6 : Option Nat) (a7 : Option Nat) (a8 : Option Nat) (a9 : Option Nat) (a10 : Option Nat) : Option (Int32 × AS) :=
  kr_b2 (f_W_some S a2 (3 : Int32)) fun v58 S57 =>
  if a1 = 0 then
  kr_b2 (f_W_some S57 (a2 >>> ((3 : Int32) &&& 31)) (25 : Int32)) fun v60 S59 =>
  if v60 = 0 then
  f_W_attempts_B33 S59 a0 a5 v58 (3 : Int32)
  else
  kr_b2 (f_W_some S59 (a2 >>> ((4 : Int32) &&& 31)) (3 : Int32)) fun v62 S61 =>
  f_W_attempts_B33 S61 a0 a5 v58 v62
  else
  if a1 = (1 : Int32) then
  (aI S57 40 a3 (11 : Int32)).bind fun v63 =>
  if v63 = (10 : Int32) then
  some ((1 : Int32), S57)
  else
  (aI S57 40 a3 (1 : Int32)).bind fun v64 =>
  if v64 ≤ (12 : Int32) then
  (aI S57 40 a3 (11 : Int32)).bind fun v65 =>
  (bI S57 a6 ((6 : Int32) * v65) v58).bind fun S66 =>
  kr_b2 (f_W_some S66 (a2 >>> ((3 : Int32) &&& 31)) (3 : Int32)) fun v68 S67 =>
  (bI S67 a6 (((6 : Int32) * v65) + (1 : Int32)) v68).bind fun S69 =>
  kr_b2 (f_W_some S69 (a2 >>> ((5 : Int32) &&& 31)) (3 : Int32)) fun v71 S70 =>
  (bI S70 a6 (((6 : Int32) * v65) + (2 : Int32)) v71).bind fun S72 =>
  (bI S72 a7 ((2 : Int32) * v65) (0 : Int32)).bind fun S73 =>
  f_W_attempts_L238 kr_FU S73 a0 a3 a4 a5 a6 a7 a8 a9 a10 v58 v65 (0 : Int32)
  else
  some ((1 : Int32), S57)
  else
  kr_b2 (f_W_some S57 (a2 >>> ((2 : Int32) &&& 31)) (3 : Int32)) fun v75 S74 =>
  if v75 = 0 then
  (aI S74 40 a3 (11 : Int32)).bind fun v76 =>
  kr_b2 (f_W_some S74 (a2 >>> ((4 : Int32) &&& 31)) (v76 + (1 : Int32))) fun v78 S77 =>
  f_W_attempts_B370 S77 a0 a2 a3 a4 a5 a6 a7 a8 a9 a10 v78
  else
  (aI S74 40 a3 (11 : Int32)).bind fun v79 =>
  if v79 ≤ 0 then
  f_W_attempts_B370 S74 a0 a2 a3 a4 a5 a6 a7 a8 a9 a10 (0 : Int32)
  else
  (aI S74 40 a3 (11 : Int32)).bind fun v80 =>
  f_W_attempts_B370 S74 a0 a2 a3 a4 a5 a6 a7 a8 a9 a10 (v80 - (1 : Int32))
set_option maxRecDepth 20000 in
set_option maxHeartbeats 4000000 in
theorem s_W_attempts_B132 {S : AS} {x0 : Option Nat} {x11 : Int32} {x12 : Int32} {x13 : Int32} {y0 : Option Nat} {y1 : Int32} {y2 : Int32} {r : (Int32 × AS)} (h : f_W_attempts_B132 S x0 x11 x12 x13 y0 y1 y2 = some r) : kr_AW m_W_attempts 13 132 [(0, va_rf x0), (11, .int x11), (12, .int x12), (13, .int x13)] [.int y2, .int y1, va_rf y0] S (kr_eI r) := by
  unfold f_W_attempts_B132 at h
  have h2 := kr_ob h
  clear h
  obtain ⟨S1, eS1, h⟩ := h2
  refine r_iastore eS1 d_W_attempts_132 ?_
  refine r_aload_n (i := 0) (x := x0) 0 rfl d_W_attempts_133 ?_
  refine r_iconst (v := (0 : Int32)) (by decide) d_W_attempts_134 ?_
  refine r_iload (i := 11) (x := x11) 1 rfl d_W_attempts_135 ?_
  refine r_iload (i := 12) (x := x12) 2 rfl d_W_attempts_137 ?_
  have h2 := kr_ob2 h
  clear h
  obtain ⟨v3, S2, eS2, h⟩ := h2
  refine r_callSX (M1 := m_W_two) (As := [va_rf x0, .int (0 : Int32), .int x11, .int x12]) (s_W_twog eS2) mok_W_two (by decide) w942 w943 (by decide) (kr_c8 kr_c0) d_W_attempts_139 (kr_k1 ?_) kr_kn
  refine r_iload (i := 13) (x := x13) 3 rfl d_W_attempts_142 ?_
  refine r_icmp_ne (tgt := 151) d_W_attempts_144 rfl (fun c => ?_) (fun c => ?_)
  · replace h := kr_ip c h
    refine r_iconst (v := (1 : Int32)) (by decide) d_W_attempts_147 ?_
    refine r_goto (tgt := 152) d_W_attempts_148 rfl ?_
    cases h
    exact r_zret rfl rfl d_W_attempts_152
  · replace h := kr_in_ c h
    refine r_iconst (v := (0 : Int32)) (by decide) d_W_attempts_151 ?_
    cases h
    exact r_zret rfl rfl d_W_attempts_152
set_option maxRecDepth 20000 in
set_option maxHeartbeats 4000000 in
theorem s_W_attempts_B33 {S : AS} {x0 : Option Nat} {x5 : Option Nat} {x11 : Int32} {y0 : Int32} {r : (Int32 × AS)} (h : f_W_attempts_B33 S x0 x5 x11 y0 = some r) : kr_AW m_W_attempts 13 33 [(0, va_rf x0), (5, va_rf x5), (11, .int x11)] [.int y0] S (kr_eI r) := by
  unfold f_W_attempts_B33 at h
  refine r_istore (i := 12) (lv' := [(12, .int y0), (0, va_rf x0), (5, va_rf x5), (11, .int x11)]) (by decide) rfl d_W_attempts_33 ?_
  refine r_iload (i := 12) (x := y0) 0 rfl d_W_attempts_35 ?_
  refine r_iconst (v := (3 : Int32)) (by decide) d_W_attempts_37 ?_
  refine r_icmp_ne (tgt := 62) d_W_attempts_38 rfl (fun c => ?_) (fun c => ?_)
  · replace h := kr_ip c h
    refine r_aload_n (i := 0) (x := x0) 1 rfl d_W_attempts_41 ?_
    refine r_iconst (v := (0 : Int32)) (by decide) d_W_attempts_42 ?_
    refine r_iload (i := 11) (x := x11) 3 rfl d_W_attempts_43 ?_
    refine r_iload (i := 12) (x := y0) 0 rfl d_W_attempts_45 ?_
    have h2 := kr_ob2 h
    clear h
    obtain ⟨v5, S4, eS4, h⟩ := h2
    refine r_callSX (M1 := m_W_two) (As := [va_rf x0, .int (0 : Int32), .int x11, .int y0]) (s_W_twog eS4) mok_W_two (by decide) w942 w943 (by decide) (kr_c8 kr_c0) d_W_attempts_47 (kr_k1 ?_) kr_kn
    refine r_sipush (v := (-1002 : Int32)) (by decide) d_W_attempts_50 ?_
    refine r_icmp_ne (tgt := 60) d_W_attempts_53 rfl (fun c => ?_) (fun c => ?_)
    · replace h := kr_ip c h
      refine r_iconst (v := (1 : Int32)) (by decide) d_W_attempts_56 ?_
      refine r_goto (tgt := 61) d_W_attempts_57 rfl ?_
      cases h
      exact r_zret rfl rfl d_W_attempts_61
    · replace h := kr_in_ c h
      refine r_iconst (v := (0 : Int32)) (by decide) d_W_attempts_60 ?_
      cases h
      exact r_zret rfl rfl d_W_attempts_61
  · replace h := kr_in_ c h
    refine r_aload (i := 5) (x := x5) 2 rfl d_W_attempts_62 ?_
    refine r_bipush (v := (12 : Int32)) (by decide) d_W_attempts_64 ?_
    refine r_iload (i := 11) (x := x11) 3 rfl d_W_attempts_66 ?_
    refine r_imul d_W_attempts_68 ?_
    refine r_iload (i := 12) (x := y0) 0 rfl d_W_attempts_69 ?_
    refine r_iadd d_W_attempts_71 ?_
    have h2 := kr_ob h
    clear h
    obtain ⟨v6, ev6, h⟩ := h2
    refine r_iaload ev6 d_W_attempts_72 ?_
    refine r_istore (i := 13) (lv' := [(13, .int v6), (12, .int y0), (0, va_rf x0), (5, va_rf x5), (11, .int x11)]) (by decide) rfl d_W_attempts_73 ?_
    refine r_aload (i := 5) (x := x5) 3 rfl d_W_attempts_75 ?_
    refine r_bipush (v := (12 : Int32)) (by decide) d_W_attempts_77 ?_
    refine r_iload (i := 11) (x := x11) 4 rfl d_W_attempts_79 ?_
    refine r_imul d_W_attempts_81 ?_
    refine r_iload (i := 12) (x := y0) 1 rfl d_W_attempts_82 ?_
    refine r_iadd d_W_attempts_84 ?_
    refine r_iconst (v := (1 : Int32)) (by decide) d_W_attempts_85 ?_
    have h2 := kr_ob h
    clear h
    obtain ⟨S7, eS7, h⟩ := h2
    refine r_iastore eS7 d_W_attempts_86 ?_
    refine r_aload (i := 5) (x := x5) 3 rfl d_W_attempts_87 ?_
    refine r_bipush (v := (12 : Int32)) (by decide) d_W_attempts_89 ?_
    refine r_iload (i := 11) (x := x11) 4 rfl d_W_attempts_91 ?_
    refine r_imul d_W_attempts_93 ?_
    refine r_iload (i := 12) (x := y0) 1 rfl d_W_attempts_94 ?_
    refine r_iadd d_W_attempts_96 ?_
    refine r_iconst (v := (3 : Int32)) (by decide) d_W_attempts_97 ?_
    refine r_iadd d_W_attempts_98 ?_
    refine r_iconst (v := (0 : Int32)) (by decide) d_W_attempts_99 ?_
    have h2 := kr_ob h
    clear h
    obtain ⟨S8, eS8, h⟩ := h2
    refine r_iastore eS8 d_W_attempts_100 ?_
    refine r_aload (i := 5) (x := x5) 3 rfl d_W_attempts_101 ?_
    refine r_bipush (v := (12 : Int32)) (by decide) d_W_attempts_103 ?_
    refine r_iload (i := 11) (x := x11) 4 rfl d_W_attempts_105 ?_
    refine r_imul d_W_attempts_107 ?_
    refine r_bipush (v := (6 : Int32)) (by decide) d_W_attempts_108 ?_
    refine r_iadd d_W_attempts_110 ?_
    refine r_iload (i := 12) (x := y0) 1 rfl d_W_attempts_111 ?_
    refine r_iconst (v := (2 : Int32)) (by decide) d_W_attempts_113 ?_
    refine r_icmp_ne (tgt := 121) d_W_attempts_114 rfl (fun c => ?_) (fun c => ?_)
    · replace h := kr_ip c h
      refine r_iconst (v := (0 : Int32)) (by decide) d_W_attempts_117 ?_
      refine r_goto (tgt := 132) d_W_attempts_118 rfl ?_
      exact kr_sub [2, 4, 1, 0] rfl (s_W_attempts_B132 h)
    · replace h := kr_in_ c h
      refine r_aload (i := 5) (x := x5) 3 rfl d_W_attempts_121 ?_
      refine r_bipush (v := (12 : Int32)) (by decide) d_W_attempts_123 ?_
      refine r_iload (i := 11) (x := x11) 4 rfl d_W_attempts_125 ?_
      refine r_imul d_W_attempts_127 ?_
      refine r_bipush (v := (6 : Int32)) (by decide) d_W_attempts_128 ?_
      refine r_iadd d_W_attempts_130 ?_
      have h2 := kr_ob h
      clear h
      obtain ⟨v9, ev9, h⟩ := h2
      refine r_iaload ev9 d_W_attempts_131 ?_
      exact kr_sub [2, 4, 1, 0] rfl (s_W_attempts_B132 h)
set_option maxRecDepth 20000 in
set_option maxHeartbeats 4000000 in
theorem s_W_attempts_C238 {k238 : AS → Option Nat → Option Nat → Option Nat → Option Nat → Option Nat → Option Nat → Option Nat → Option Nat → Option Nat → Int32 → Int32 → Int32 → Option (Int32 × AS)} (hk238 : ∀ {S : AS} {x0 : Option Nat} {x3 : Option Nat} {x4 : Option Nat} {x5 : Option Nat} {x6 : Option Nat} {x7 : Option Nat} {x8 : Option Nat} {x9 : Option Nat} {x10 : Option Nat} {x11 : Int32} {x12 : Int32} {x13 : Int32} {r : (Int32 × AS)}, k238 S x0 x3 x4 x5 x6 x7 x8 x9 x10 x11 x12 x13 = some r → kr_AW m_W_attempts 13 238 [(0, va_rf x0), (3, va_rf x3), (4, va_rf x4), (5, va_rf x5), (6, va_rf x6), (7, va_rf x7), (8, va_rf x8), (9, va_rf x9), (10, va_rf x10), (11, .int x11), (12, .int x12), (13, .int x13)] [] S (kr_eI r)) {S : AS} {x0 : Option Nat} {x3 : Option Nat} {x4 : Option Nat} {x5 : Option Nat} {x6 : Option Nat} {x7 : Option Nat} {x8 : Option Nat} {x9 : Option Nat} {x10 : Option Nat} {x11 : Int32} {x12 : Int32} {x13 : Int32} {r : (Int32 × AS)} (h : f_W_attempts_C238 k238 S x0 x3 x4 x5 x6 x7 x8 x9 x10 x11 x12 x13 = some r) : kr_AW m_W_attempts 13 238 [(0, va_rf x0), (3, va_rf x3), (4, va_rf x4), (5, va_rf x5), (6, va_rf x6), (7, va_rf x7), (8, va_rf x8), (9, va_rf x9), (10, va_rf x10), (11, .int x11), (12, .int x12), (13, .int x13)] [] S (kr_eI r) := by
  unfold f_W_attempts_C238 at h
  refine r_iload (i := 13) (x := x13) 11 rfl d_W_attempts_238 ?_
  refine r_iconst (v := (3 : Int32)) (by decide) d_W_attempts_240 ?_
  refine r_icmp_ge (tgt := 261) d_W_attempts_241 rfl (fun c => ?_) (fun c => ?_)
  · replace h := kr_ip c h
    refine r_aload_n (i := 3) (x := x3) 1 rfl d_W_attempts_261 ?_
    refine r_bipush (v := (11 : Int32)) (by decide) d_W_attempts_262 ?_
    refine r_dup2 rfl (kr_rfcat _) d_W_attempts_264 ?_
    have h2 := kr_ob h
    clear h
    obtain ⟨v10, ev10, h⟩ := h2
    refine r_iaload ev10 d_W_attempts_265 ?_
    refine r_iconst (v := (1 : Int32)) (by decide) d_W_attempts_266 ?_
    refine r_iadd d_W_attempts_267 ?_
    have h2 := kr_ob h
    clear h
    obtain ⟨S11, eS11, h⟩ := h2
    refine r_iastore eS11 d_W_attempts_268 ?_
    refine r_aload_n (i := 3) (x := x3) 1 rfl d_W_attempts_269 ?_
    refine r_aload (i := 4) (x := x4) 2 rfl d_W_attempts_270 ?_
    refine r_aload (i := 5) (x := x5) 3 rfl d_W_attempts_272 ?_
    refine r_aload (i := 6) (x := x6) 4 rfl d_W_attempts_274 ?_
    refine r_aload (i := 7) (x := x7) 5 rfl d_W_attempts_276 ?_
    refine r_aload (i := 8) (x := x8) 6 rfl d_W_attempts_278 ?_
    refine r_aload (i := 9) (x := x9) 7 rfl d_W_attempts_280 ?_
    refine r_aload (i := 10) (x := x10) 8 rfl d_W_attempts_282 ?_
    refine r_iload (i := 12) (x := x12) 10 rfl d_W_attempts_284 ?_
    refine r_iconst (v := (0 : Int32)) (by decide) d_W_attempts_286 ?_
    have h2 := kr_ob h
    clear h
    obtain ⟨S12, eS12, h⟩ := h2
    refine r_callSL (M1 := m_W_goes) (As := [va_rf x3, va_rf x4, va_rf x5, va_rf x6, va_rf x7, va_rf x8, va_rf x9, va_rf x10, .int x12, .int (0 : Int32)]) (s_W_goes eS12) mok_W_goes rfl w1017 w1018 (by decide) (kr_c8 kr_c0) d_W_attempts_287 (kr_k0 ?_) kr_kn
    refine r_aload_n (i := 0) (x := x0) 0 rfl d_W_attempts_290 ?_
    refine r_iconst (v := (0 : Int32)) (by decide) d_W_attempts_291 ?_
    refine r_iload (i := 11) (x := x11) 9 rfl d_W_attempts_292 ?_
    refine r_aload (i := 6) (x := x6) 4 rfl d_W_attempts_294 ?_
    refine r_bipush (v := (6 : Int32)) (by decide) d_W_attempts_296 ?_
    refine r_iload (i := 12) (x := x12) 10 rfl d_W_attempts_298 ?_
    refine r_imul d_W_attempts_300 ?_
    refine r_iconst (v := (1 : Int32)) (by decide) d_W_attempts_301 ?_
    refine r_iadd d_W_attempts_302 ?_
    have h2 := kr_ob h
    clear h
    obtain ⟨v13, ev13, h⟩ := h2
    refine r_iaload ev13 d_W_attempts_303 ?_
    refine r_aload (i := 6) (x := x6) 4 rfl d_W_attempts_304 ?_
    refine r_bipush (v := (6 : Int32)) (by decide) d_W_attempts_306 ?_
    refine r_iload (i := 12) (x := x12) 10 rfl d_W_attempts_308 ?_
    refine r_imul d_W_attempts_310 ?_
    refine r_iconst (v := (2 : Int32)) (by decide) d_W_attempts_311 ?_
    refine r_iadd d_W_attempts_312 ?_
    have h2 := kr_ob h
    clear h
    obtain ⟨v14, ev14, h⟩ := h2
    refine r_iaload ev14 d_W_attempts_313 ?_
    have h2 := kr_ob2 h
    clear h
    obtain ⟨v16, S15, eS15, h⟩ := h2
    refine r_callSX (M1 := m_W_three) (As := [va_rf x0, .int (0 : Int32), .int x11, .int v13, .int v14]) (s_W_threeg eS15) mok_W_three (by decide) w645 w646 (by decide) (kr_c8 kr_c0) d_W_attempts_314 (kr_k1 ?_) kr_kn
    refine r_iload (i := 12) (x := x12) 10 rfl d_W_attempts_317 ?_
    refine r_icmp_ne (tgt := 326) d_W_attempts_319 rfl (fun c => ?_) (fun c => ?_)
    · replace h := kr_ip c h
      refine r_iconst (v := (1 : Int32)) (by decide) d_W_attempts_322 ?_
      refine r_goto (tgt := 327) d_W_attempts_323 rfl ?_
      cases h
      exact r_zret rfl rfl d_W_attempts_327
    · replace h := kr_in_ c h
      refine r_iconst (v := (0 : Int32)) (by decide) d_W_attempts_326 ?_
      cases h
      exact r_zret rfl rfl d_W_attempts_327
  · replace h := kr_in_ c h
    refine r_aload (i := 8) (x := x8) 6 rfl d_W_attempts_244 ?_
    refine r_iconst (v := (3 : Int32)) (by decide) d_W_attempts_246 ?_
    refine r_iload (i := 12) (x := x12) 10 rfl d_W_attempts_247 ?_
    refine r_imul d_W_attempts_249 ?_
    refine r_iload (i := 13) (x := x13) 11 rfl d_W_attempts_250 ?_
    refine r_iadd d_W_attempts_252 ?_
    refine r_iconst (v := (-1 : Int32)) (by decide) d_W_attempts_253 ?_
    have h2 := kr_ob h
    clear h
    obtain ⟨S17, eS17, h⟩ := h2
    refine r_iastore eS17 d_W_attempts_254 ?_
    have h2 := kr_ob h
    clear h
    obtain ⟨i18, ei18, h⟩ := h2
    refine r_iinc (v := i18) (lv' := [(13, .int i18), (0, va_rf x0), (3, va_rf x3), (4, va_rf x4), (5, va_rf x5), (6, va_rf x6), (7, va_rf x7), (8, va_rf x8), (9, va_rf x9), (10, va_rf x10), (11, .int x11), (12, .int x12)]) 11 rfl (kr_inc (by decide) ei18) (by decide) rfl d_W_attempts_255 ?_
    refine r_goto (tgt := 238) d_W_attempts_258 rfl ?_
    exact kr_sub [1, 2, 3, 4, 5, 6, 7, 8, 9, 10, 11, 0] rfl (hk238 h)
theorem s_W_attempts_L238 (n : Nat) : ∀ {S : AS} {x0 : Option Nat} {x3 : Option Nat} {x4 : Option Nat} {x5 : Option Nat} {x6 : Option Nat} {x7 : Option Nat} {x8 : Option Nat} {x9 : Option Nat} {x10 : Option Nat} {x11 : Int32} {x12 : Int32} {x13 : Int32} {r : (Int32 × AS)}, f_W_attempts_L238 n S x0 x3 x4 x5 x6 x7 x8 x9 x10 x11 x12 x13 = some r → kr_AW m_W_attempts 13 238 [(0, va_rf x0), (3, va_rf x3), (4, va_rf x4), (5, va_rf x5), (6, va_rf x6), (7, va_rf x7), (8, va_rf x8), (9, va_rf x9), (10, va_rf x10), (11, .int x11), (12, .int x12), (13, .int x13)] [] S (kr_eI r) := by
  induction n with
  | zero => intro S x0 x3 x4 x5 x6 x7 x8 x9 x10 x11 x12 x13 r h; cases h
  | succ n ih => intro S x0 x3 x4 x5 x6 x7 x8 x9 x10 x11 x12 x13 r h; exact s_W_attempts_C238 (fun {_} {_} {_} {_} {_} {_} {_} {_} {_} {_} {_} {_} {_} {_} h => ih h) h
set_option maxRecDepth 20000 in
set_option maxHeartbeats 4000000 in
theorem s_W_attempts_B499 {S : AS} {y0 : Int32} {y1 : Int32} {r : (Int32 × AS)} (h : f_W_attempts_B499 S y0 y1 = some r) : kr_AW m_W_attempts 13 499 [] [.int y1, .int y0] S (kr_eI r) := by
  unfold f_W_attempts_B499 at h
  refine r_icmp_ne (tgt := 506) d_W_attempts_499 rfl (fun c => ?_) (fun c => ?_)
  · replace h := kr_ip c h
    refine r_iconst (v := (1 : Int32)) (by decide) d_W_attempts_502 ?_
    refine r_goto (tgt := 507) d_W_attempts_503 rfl ?_
    cases h
    exact r_zret rfl rfl d_W_attempts_507
  · replace h := kr_in_ c h
    refine r_iconst (v := (0 : Int32)) (by decide) d_W_attempts_506 ?_
    cases h
    exact r_zret rfl rfl d_W_attempts_507
set_option maxRecDepth 20000 in
set_option maxHeartbeats 4000000 in
theorem s_W_attempts_B462 {S : AS} {x3 : Option Nat} {x12 : Int32} {x14 : Int32} {y0 : Option Nat} {y1 : Int32} {y2 : Int32} {y3 : Int32} {r : (Int32 × AS)} (h : f_W_attempts_B462 S x3 x12 x14 y0 y1 y2 y3 = some r) : kr_AW m_W_attempts 13 462 [(3, va_rf x3), (12, .int x12), (14, .int x14)] [.int y3, .int y2, .int y1, va_rf y0] S (kr_eI r) := by
  unfold f_W_attempts_B462 at h
  refine r_iload (i := 14) (x := x14) 2 rfl d_W_attempts_462 ?_
  have h2 := kr_ob2 h
  clear h
  obtain ⟨v20, S19, eS19, h⟩ := h2
  refine r_callSX (M1 := m_W_three) (As := [va_rf y0, .int y1, .int y2, .int y3, .int x14]) (s_W_threeg eS19) mok_W_three (by decide) w645 w646 (by decide) (kr_c8 kr_c0) d_W_attempts_464 (kr_k1 ?_) kr_kn
  refine r_iload (i := 12) (x := x12) 1 rfl d_W_attempts_467 ?_
  refine r_aload_n (i := 3) (x := x3) 0 rfl d_W_attempts_469 ?_
  refine r_bipush (v := (11 : Int32)) (by decide) d_W_attempts_470 ?_
  have h2 := kr_ob h
  clear h
  obtain ⟨v21, ev21, h⟩ := h2
  refine r_iaload ev21 d_W_attempts_472 ?_
  refine r_icmp_ne (tgt := 482) d_W_attempts_473 rfl (fun c => ?_) (fun c => ?_)
  · replace h := kr_ip c h
    refine r_sipush (v := (-1001 : Int32)) (by decide) d_W_attempts_476 ?_
    refine r_goto (tgt := 499) d_W_attempts_479 rfl ?_
    exact kr_sub [] rfl (s_W_attempts_B499 h)
  · replace h := kr_in_ c h
    refine r_iload (i := 14) (x := x14) 2 rfl d_W_attempts_482 ?_
    refine r_sipush (v := (10000 : Int32)) (by decide) d_W_attempts_484 ?_
    refine r_icmp_ne (tgt := 496) d_W_attempts_487 rfl (fun c => ?_) (fun c => ?_)
    · replace h := kr_ip c h
      refine r_sipush (v := (-1002 : Int32)) (by decide) d_W_attempts_490 ?_
      refine r_goto (tgt := 499) d_W_attempts_493 rfl ?_
      exact kr_sub [] rfl (s_W_attempts_B499 h)
    · replace h := kr_in_ c h
      refine r_sipush (v := (-1003 : Int32)) (by decide) d_W_attempts_496 ?_
      exact kr_sub [] rfl (s_W_attempts_B499 h)
set_option maxRecDepth 20000 in
set_option maxHeartbeats 4000000 in
theorem s_W_attempts_B448 {S : AS} {x0 : Option Nat} {x3 : Option Nat} {x12 : Int32} {x13 : Int32} {x14 : Int32} {r : (Int32 × AS)} (h : f_W_attempts_B448 S x0 x3 x12 x13 x14 = some r) : kr_AW m_W_attempts 13 448 [(0, va_rf x0), (3, va_rf x3), (12, .int x12), (13, .int x13), (14, .int x14)] [] S (kr_eI r) := by
  unfold f_W_attempts_B448 at h
  refine r_aload_n (i := 0) (x := x0) 0 rfl d_W_attempts_448 ?_
  refine r_iconst (v := (4 : Int32)) (by decide) d_W_attempts_449 ?_
  refine r_iload (i := 12) (x := x12) 2 rfl d_W_attempts_450 ?_
  refine r_iload (i := 13) (x := x13) 3 rfl d_W_attempts_452 ?_
  refine r_if_eq (tgt := 461) d_W_attempts_454 rfl (fun c => ?_) (fun c => ?_)
  · replace h := kr_ip c h
    refine r_iconst (v := (0 : Int32)) (by decide) d_W_attempts_461 ?_
    exact kr_sub [1, 2, 4] rfl (s_W_attempts_B462 h)
  · replace h := kr_in_ c h
    refine r_iconst (v := (1 : Int32)) (by decide) d_W_attempts_457 ?_
    refine r_goto (tgt := 462) d_W_attempts_458 rfl ?_
    exact kr_sub [1, 2, 4] rfl (s_W_attempts_B462 h)
set_option maxRecDepth 20000 in
set_option maxHeartbeats 4000000 in
theorem s_W_attempts_B748 {S : AS} {x6 : Option Nat} {x12 : Int32} {x14 : Int32} {y0 : Option Nat} {y1 : Int32} {y2 : Int32} {y3 : Int32} {r : (Int32 × AS)} (h : f_W_attempts_B748 S x6 x12 x14 y0 y1 y2 y3 = some r) : kr_AW m_W_attempts 13 748 [(6, va_rf x6), (12, .int x12), (14, .int x14)] [.int y3, .int y2, .int y1, va_rf y0] S (kr_eI r) := by
  unfold f_W_attempts_B748 at h
  refine r_iload (i := 14) (x := x14) 2 rfl d_W_attempts_748 ?_
  have h2 := kr_ob2 h
  clear h
  obtain ⟨v23, S22, eS22, h⟩ := h2
  refine r_callSX (M1 := m_W_three) (As := [va_rf y0, .int y1, .int y2, .int y3, .int x14]) (s_W_threeg eS22) mok_W_three (by decide) w645 w646 (by decide) (kr_c8 kr_c0) d_W_attempts_750 (kr_k1 ?_) kr_kn
  refine r_aload (i := 6) (x := x6) 0 rfl d_W_attempts_753 ?_
  refine r_bipush (v := (6 : Int32)) (by decide) d_W_attempts_755 ?_
  refine r_iload (i := 12) (x := x12) 1 rfl d_W_attempts_757 ?_
  refine r_imul d_W_attempts_759 ?_
  refine r_iconst (v := (4 : Int32)) (by decide) d_W_attempts_760 ?_
  refine r_iadd d_W_attempts_761 ?_
  have h2 := kr_ob h
  clear h
  obtain ⟨v24, ev24, h⟩ := h2
  refine r_iaload ev24 d_W_attempts_762 ?_
  refine r_icmp_ne (tgt := 770) d_W_attempts_763 rfl (fun c => ?_) (fun c => ?_)
  · replace h := kr_ip c h
    refine r_iconst (v := (1 : Int32)) (by decide) d_W_attempts_766 ?_
    refine r_goto (tgt := 771) d_W_attempts_767 rfl ?_
    cases h
    exact r_zret rfl rfl d_W_attempts_771
  · replace h := kr_in_ c h
    refine r_iconst (v := (0 : Int32)) (by decide) d_W_attempts_770 ?_
    cases h
    exact r_zret rfl rfl d_W_attempts_771
set_option maxRecDepth 20000 in
set_option maxHeartbeats 4000000 in
theorem s_W_attempts_B733 {S : AS} {x0 : Option Nat} {x6 : Option Nat} {x12 : Int32} {x13 : Int32} {x14 : Int32} {y0 : Option Nat} {y1 : Int32} {y2 : Int32} {r : (Int32 × AS)} (h : f_W_attempts_B733 S x0 x6 x12 x13 x14 y0 y1 y2 = some r) : kr_AW m_W_attempts 13 733 [(0, va_rf x0), (6, va_rf x6), (12, .int x12), (13, .int x13), (14, .int x14)] [.int y2, .int y1, va_rf y0] S (kr_eI r) := by
  unfold f_W_attempts_B733 at h
  have h2 := kr_ob h
  clear h
  obtain ⟨S25, eS25, h⟩ := h2
  refine r_iastore eS25 d_W_attempts_733 ?_
  refine r_aload_n (i := 0) (x := x0) 0 rfl d_W_attempts_734 ?_
  refine r_iconst (v := (4 : Int32)) (by decide) d_W_attempts_735 ?_
  refine r_iload (i := 12) (x := x12) 2 rfl d_W_attempts_736 ?_
  refine r_iload (i := 13) (x := x13) 3 rfl d_W_attempts_738 ?_
  refine r_if_eq (tgt := 747) d_W_attempts_740 rfl (fun c => ?_) (fun c => ?_)
  · replace h := kr_ip c h
    refine r_iconst (v := (0 : Int32)) (by decide) d_W_attempts_747 ?_
    exact kr_sub [1, 2, 4] rfl (s_W_attempts_B748 h)
  · replace h := kr_in_ c h
    refine r_iconst (v := (1 : Int32)) (by decide) d_W_attempts_743 ?_
    refine r_goto (tgt := 748) d_W_attempts_744 rfl ?_
    exact kr_sub [1, 2, 4] rfl (s_W_attempts_B748 h)
set_option maxRecDepth 20000 in
set_option maxHeartbeats 4000000 in
theorem s_W_attempts_B723 {S : AS} {x0 : Option Nat} {x6 : Option Nat} {x12 : Int32} {x13 : Int32} {x14 : Int32} {y0 : Option Nat} {y1 : Int32} {r : (Int32 × AS)} (h : f_W_attempts_B723 S x0 x6 x12 x13 x14 y0 y1 = some r) : kr_AW m_W_attempts 13 723 [(0, va_rf x0), (6, va_rf x6), (12, .int x12), (13, .int x13), (14, .int x14)] [.int y1, va_rf y0] S (kr_eI r) := by
  unfold f_W_attempts_B723 at h
  refine r_aload (i := 6) (x := x6) 1 rfl d_W_attempts_723 ?_
  refine r_bipush (v := (6 : Int32)) (by decide) d_W_attempts_725 ?_
  refine r_iload (i := 12) (x := x12) 2 rfl d_W_attempts_727 ?_
  refine r_imul d_W_attempts_729 ?_
  refine r_iconst (v := (4 : Int32)) (by decide) d_W_attempts_730 ?_
  refine r_iadd d_W_attempts_731 ?_
  have h2 := kr_ob h
  clear h
  obtain ⟨v26, ev26, h⟩ := h2
  refine r_iaload ev26 d_W_attempts_732 ?_
  exact kr_sub [0, 1, 2, 3, 4] rfl (s_W_attempts_B733 h)
set_option maxRecDepth 20000 in
set_option maxHeartbeats 4000000 in
theorem s_W_attempts_B685 {S : AS} {x0 : Option Nat} {x6 : Option Nat} {x7 : Option Nat} {x12 : Int32} {x13 : Int32} {x14 : Int32} {r : (Int32 × AS)} (h : f_W_attempts_B685 S x0 x6 x7 x12 x13 x14 = some r) : kr_AW m_W_attempts 13 685 [(0, va_rf x0), (6, va_rf x6), (7, va_rf x7), (12, .int x12), (13, .int x13), (14, .int x14)] [] S (kr_eI r) := by
  unfold f_W_attempts_B685 at h
  refine r_aload (i := 6) (x := x6) 1 rfl d_W_attempts_685 ?_
  refine r_bipush (v := (6 : Int32)) (by decide) d_W_attempts_687 ?_
  refine r_iload (i := 12) (x := x12) 3 rfl d_W_attempts_689 ?_
  refine r_imul d_W_attempts_691 ?_
  refine r_iconst (v := (4 : Int32)) (by decide) d_W_attempts_692 ?_
  refine r_iadd d_W_attempts_693 ?_
  refine r_aload (i := 6) (x := x6) 1 rfl d_W_attempts_694 ?_
  refine r_bipush (v := (6 : Int32)) (by decide) d_W_attempts_696 ?_
  refine r_iload (i := 12) (x := x12) 3 rfl d_W_attempts_698 ?_
  refine r_imul d_W_attempts_700 ?_
  refine r_iconst (v := (4 : Int32)) (by decide) d_W_attempts_701 ?_
  refine r_iadd d_W_attempts_702 ?_
  have h2 := kr_ob h
  clear h
  obtain ⟨v27, ev27, h⟩ := h2
  refine r_iaload ev27 d_W_attempts_703 ?_
  refine r_if_ne (tgt := 723) d_W_attempts_704 rfl (fun c => ?_) (fun c => ?_)
  · replace h := kr_ip c h
    refine r_aload (i := 7) (x := x7) 2 rfl d_W_attempts_707 ?_
    refine r_iconst (v := (2 : Int32)) (by decide) d_W_attempts_709 ?_
    refine r_iload (i := 12) (x := x12) 3 rfl d_W_attempts_710 ?_
    refine r_imul d_W_attempts_712 ?_
    have h2 := kr_ob h
    clear h
    obtain ⟨v28, ev28, h⟩ := h2
    refine r_iaload ev28 d_W_attempts_713 ?_
    refine r_bipush (v := (12 : Int32)) (by decide) d_W_attempts_714 ?_
    refine r_icmp_ne (tgt := 723) d_W_attempts_716 rfl (fun c => ?_) (fun c => ?_)
    · replace h := kr_ip c h
      refine r_iconst (v := (2 : Int32)) (by decide) d_W_attempts_719 ?_
      refine r_goto (tgt := 733) d_W_attempts_720 rfl ?_
      exact kr_sub [0, 1, 3, 4, 5] rfl (s_W_attempts_B733 h)
    · replace h := kr_in_ c h
      exact kr_sub [0, 1, 3, 4, 5] rfl (s_W_attempts_B723 h)
  · replace h := kr_in_ c h
    exact kr_sub [0, 1, 3, 4, 5] rfl (s_W_attempts_B723 h)
set_option maxRecDepth 20000 in
set_option maxHeartbeats 4000000 in
theorem s_W_attempts_B416 {S : AS} {x0 : Option Nat} {x3 : Option Nat} {x4 : Option Nat} {x5 : Option Nat} {x6 : Option Nat} {x7 : Option Nat} {x8 : Option Nat} {x9 : Option Nat} {x10 : Option Nat} {x12 : Int32} {x13 : Int32} {y0 : Int32} {r : (Int32 × AS)} (h : f_W_attempts_B416 S x0 x3 x4 x5 x6 x7 x8 x9 x10 x12 x13 y0 = some r) : kr_AW m_W_attempts 13 416 [(0, va_rf x0), (3, va_rf x3), (4, va_rf x4), (5, va_rf x5), (6, va_rf x6), (7, va_rf x7), (8, va_rf x8), (9, va_rf x9), (10, va_rf x10), (12, .int x12), (13, .int x13)] [.int y0] S (kr_eI r) := by
  unfold f_W_attempts_B416 at h
  refine r_istore (i := 14) (lv' := [(14, .int y0), (0, va_rf x0), (3, va_rf x3), (4, va_rf x4), (5, va_rf x5), (6, va_rf x6), (7, va_rf x7), (8, va_rf x8), (9, va_rf x9), (10, va_rf x10), (12, .int x12), (13, .int x13)]) (by decide) rfl d_W_attempts_416 ?_
  refine r_iload (i := 12) (x := x12) 10 rfl d_W_attempts_418 ?_
  refine r_aload_n (i := 3) (x := x3) 2 rfl d_W_attempts_420 ?_
  refine r_bipush (v := (11 : Int32)) (by decide) d_W_attempts_421 ?_
  have h2 := kr_ob h
  clear h
  obtain ⟨v29, ev29, h⟩ := h2
  refine r_iaload ev29 d_W_attempts_423 ?_
  refine r_icmp_eq (tgt := 448) d_W_attempts_424 rfl (fun c => ?_) (fun c => ?_)
  · replace h := kr_ip c h
    exact kr_sub [1, 2, 10, 11, 0] rfl (s_W_attempts_B448 h)
  · replace h := kr_in_ c h
    refine r_iload (i := 14) (x := y0) 0 rfl d_W_attempts_427 ?_
    refine r_sipush (v := (10000 : Int32)) (by decide) d_W_attempts_429 ?_
    refine r_icmp_eq (tgt := 448) d_W_attempts_432 rfl (fun c => ?_) (fun c => ?_)
    · replace h := kr_ip c h
      exact kr_sub [1, 2, 10, 11, 0] rfl (s_W_attempts_B448 h)
    · replace h := kr_in_ c h
      refine r_aload (i := 6) (x := x6) 5 rfl d_W_attempts_435 ?_
      refine r_bipush (v := (6 : Int32)) (by decide) d_W_attempts_437 ?_
      refine r_iload (i := 12) (x := x12) 10 rfl d_W_attempts_439 ?_
      refine r_imul d_W_attempts_441 ?_
      refine r_iconst (v := (4 : Int32)) (by decide) d_W_attempts_442 ?_
      refine r_iadd d_W_attempts_443 ?_
      have h2 := kr_ob h
      clear h
      obtain ⟨v30, ev30, h⟩ := h2
      refine r_iaload ev30 d_W_attempts_444 ?_
      refine r_if_eq (tgt := 508) d_W_attempts_445 rfl (fun c => ?_) (fun c => ?_)
      · replace h := kr_ip c h
        refine r_aload_n (i := 3) (x := x3) 2 rfl d_W_attempts_508 ?_
        refine r_iconst (v := (1 : Int32)) (by decide) d_W_attempts_509 ?_
        have h2 := kr_ob h
        clear h
        obtain ⟨v31, ev31, h⟩ := h2
        refine r_iaload ev31 d_W_attempts_510 ?_
        refine r_bipush (v := (13 : Int32)) (by decide) d_W_attempts_511 ?_
        refine r_icmp_le (tgt := 518) d_W_attempts_513 rfl (fun c => ?_) (fun c => ?_)
        · replace h := kr_ip c h
          refine r_aload (i := 6) (x := x6) 5 rfl d_W_attempts_518 ?_
          refine r_bipush (v := (6 : Int32)) (by decide) d_W_attempts_520 ?_
          refine r_iload (i := 12) (x := x12) 10 rfl d_W_attempts_522 ?_
          refine r_imul d_W_attempts_524 ?_
          refine r_iconst (v := (3 : Int32)) (by decide) d_W_attempts_525 ?_
          refine r_iadd d_W_attempts_526 ?_
          have h2 := kr_ob h
          clear h
          obtain ⟨v32, ev32, h⟩ := h2
          refine r_iaload ev32 d_W_attempts_527 ?_
          refine r_istore (i := 15) (lv' := [(15, .int v32), (14, .int y0), (0, va_rf x0), (3, va_rf x3), (4, va_rf x4), (5, va_rf x5), (6, va_rf x6), (7, va_rf x7), (8, va_rf x8), (9, va_rf x9), (10, va_rf x10), (12, .int x12), (13, .int x13)]) (by decide) rfl d_W_attempts_528 ?_
          refine r_aload (i := 4) (x := x4) 4 rfl d_W_attempts_530 ?_
          refine r_iconst (v := (5 : Int32)) (by decide) d_W_attempts_532 ?_
          refine r_iload (i := 15) (x := v32) 0 rfl d_W_attempts_533 ?_
          refine r_imul d_W_attempts_535 ?_
          refine r_iconst (v := (1 : Int32)) (by decide) d_W_attempts_536 ?_
          refine r_iadd d_W_attempts_537 ?_
          have h2 := kr_ob h
          clear h
          obtain ⟨v33, ev33, h⟩ := h2
          refine r_iaload ev33 d_W_attempts_538 ?_
          refine r_istore (i := 16) (lv' := [(16, .int v33), (15, .int v32), (14, .int y0), (0, va_rf x0), (3, va_rf x3), (4, va_rf x4), (5, va_rf x5), (6, va_rf x6), (7, va_rf x7), (8, va_rf x8), (9, va_rf x9), (10, va_rf x10), (12, .int x12), (13, .int x13)]) (by decide) rfl d_W_attempts_539 ?_
          refine r_aload (i := 7) (x := x7) 8 rfl d_W_attempts_541 ?_
          refine r_iconst (v := (2 : Int32)) (by decide) d_W_attempts_543 ?_
          refine r_iload (i := 12) (x := x12) 12 rfl d_W_attempts_544 ?_
          refine r_imul d_W_attempts_546 ?_
          have h2 := kr_ob h
          clear h
          obtain ⟨i34, ei34, h⟩ := h2
          refine kr_nmI ei34 ?_
          refine r_dup2 rfl (kr_rfcat _) d_W_attempts_547 ?_
          have h2 := kr_ob h
          clear h
          obtain ⟨v35, ev35, h⟩ := h2
          refine r_iaload ev35 d_W_attempts_548 ?_
          refine r_iconst (v := (1 : Int32)) (by decide) d_W_attempts_549 ?_
          refine r_iadd d_W_attempts_550 ?_
          have h2 := kr_ob h
          clear h
          obtain ⟨S36, eS36, h⟩ := h2
          refine r_iastore eS36 d_W_attempts_551 ?_
          refine r_aload_n (i := 3) (x := x3) 4 rfl d_W_attempts_552 ?_
          refine r_aload (i := 5) (x := x5) 6 rfl d_W_attempts_553 ?_
          refine r_aload (i := 6) (x := x6) 7 rfl d_W_attempts_555 ?_
          refine r_bipush (v := (6 : Int32)) (by decide) d_W_attempts_557 ?_
          refine r_iload (i := 12) (x := x12) 12 rfl d_W_attempts_559 ?_
          refine r_imul d_W_attempts_561 ?_
          have h2 := kr_ob h
          clear h
          obtain ⟨v37, ev37, h⟩ := h2
          refine r_iaload ev37 d_W_attempts_562 ?_
          refine r_iload (i := 16) (x := v33) 0 rfl d_W_attempts_563 ?_
          refine r_iload (i := 13) (x := x13) 13 rfl d_W_attempts_565 ?_
          refine r_iload (i := 14) (x := y0) 2 rfl d_W_attempts_567 ?_
          have h2 := kr_ob2 h
          clear h
          obtain ⟨v39, S38, eS38, h⟩ := h2
          refine r_callS (M1 := m_W_answers) (As := [va_rf x3, va_rf x5, .int v37, .int v33, .int x13, .int y0]) (s_W_answers eS38) mok_W_answers rfl w1033 w1034 (by decide) (kr_c8 kr_c0) d_W_attempts_569 (kr_k1 ?_) kr_kn
          refine r_if_eq (tgt := 620) d_W_attempts_572 rfl (fun c => ?_) (fun c => ?_)
          · replace h := kr_ip c h
            refine r_aload (i := 6) (x := x6) 7 rfl d_W_attempts_620 ?_
            refine r_bipush (v := (6 : Int32)) (by decide) d_W_attempts_622 ?_
            refine r_iload (i := 12) (x := x12) 12 rfl d_W_attempts_624 ?_
            refine r_imul d_W_attempts_626 ?_
            refine r_iconst (v := (5 : Int32)) (by decide) d_W_attempts_627 ?_
            refine r_iadd d_W_attempts_628 ?_
            have h2 := kr_ob h
            clear h
            obtain ⟨i40, ei40, h⟩ := h2
            refine kr_nmI ei40 ?_
            refine r_dup2 rfl (kr_rfcat _) d_W_attempts_629 ?_
            have h2 := kr_ob h
            clear h
            obtain ⟨v41, ev41, h⟩ := h2
            refine r_iaload ev41 d_W_attempts_630 ?_
            refine r_iconst (v := (1 : Int32)) (by decide) d_W_attempts_631 ?_
            refine r_iadd d_W_attempts_632 ?_
            have h2 := kr_ob h
            clear h
            obtain ⟨S42, eS42, h⟩ := h2
            refine r_iastore eS42 d_W_attempts_633 ?_
            refine r_aload (i := 6) (x := x6) 7 rfl d_W_attempts_634 ?_
            refine r_bipush (v := (6 : Int32)) (by decide) d_W_attempts_636 ?_
            refine r_iload (i := 12) (x := x12) 12 rfl d_W_attempts_638 ?_
            refine r_imul d_W_attempts_640 ?_
            refine r_iconst (v := (5 : Int32)) (by decide) d_W_attempts_641 ?_
            refine r_iadd d_W_attempts_642 ?_
            have h2 := kr_ob h
            clear h
            obtain ⟨v43, ev43, h⟩ := h2
            refine r_iaload ev43 d_W_attempts_643 ?_
            refine r_aload (i := 4) (x := x4) 5 rfl d_W_attempts_644 ?_
            refine r_iconst (v := (5 : Int32)) (by decide) d_W_attempts_646 ?_
            refine r_iload (i := 15) (x := v32) 1 rfl d_W_attempts_647 ?_
            refine r_imul d_W_attempts_649 ?_
            refine r_iconst (v := (2 : Int32)) (by decide) d_W_attempts_650 ?_
            refine r_iadd d_W_attempts_651 ?_
            have h2 := kr_ob h
            clear h
            obtain ⟨v44, ev44, h⟩ := h2
            refine r_iaload ev44 d_W_attempts_652 ?_
            refine r_icmp_ne (tgt := 685) d_W_attempts_653 rfl (fun c => ?_) (fun c => ?_)
            · replace h := kr_ip c h
              refine r_aload_n (i := 3) (x := x3) 4 rfl d_W_attempts_656 ?_
              refine r_aload (i := 4) (x := x4) 5 rfl d_W_attempts_657 ?_
              refine r_aload (i := 5) (x := x5) 6 rfl d_W_attempts_659 ?_
              refine r_aload (i := 6) (x := x6) 7 rfl d_W_attempts_661 ?_
              refine r_aload (i := 7) (x := x7) 8 rfl d_W_attempts_663 ?_
              refine r_aload (i := 8) (x := x8) 9 rfl d_W_attempts_665 ?_
              refine r_aload (i := 9) (x := x9) 10 rfl d_W_attempts_667 ?_
              refine r_aload (i := 10) (x := x10) 11 rfl d_W_attempts_669 ?_
              refine r_iload (i := 12) (x := x12) 12 rfl d_W_attempts_671 ?_
              refine r_aload (i := 4) (x := x4) 5 rfl d_W_attempts_673 ?_
              refine r_iconst (v := (5 : Int32)) (by decide) d_W_attempts_675 ?_
              refine r_iload (i := 15) (x := v32) 1 rfl d_W_attempts_676 ?_
              refine r_imul d_W_attempts_678 ?_
              refine r_iconst (v := (4 : Int32)) (by decide) d_W_attempts_679 ?_
              refine r_iadd d_W_attempts_680 ?_
              have h2 := kr_ob h
              clear h
              obtain ⟨v45, ev45, h⟩ := h2
              refine r_iaload ev45 d_W_attempts_681 ?_
              have h2 := kr_ob h
              clear h
              obtain ⟨S46, eS46, h⟩ := h2
              refine r_callSL (M1 := m_W_goes) (As := [va_rf x3, va_rf x4, va_rf x5, va_rf x6, va_rf x7, va_rf x8, va_rf x9, va_rf x10, .int x12, .int v45]) (s_W_goes eS46) mok_W_goes rfl w1017 w1018 (by decide) (kr_c8 kr_c0) d_W_attempts_682 (kr_k0 ?_) kr_kn
              exact kr_sub [3, 7, 8, 12, 13, 2] rfl (s_W_attempts_B685 h)
            · replace h := kr_in_ c h
              exact kr_sub [3, 7, 8, 12, 13, 2] rfl (s_W_attempts_B685 h)
          · replace h := kr_in_ c h
            refine r_aload (i := 8) (x := x8) 9 rfl d_W_attempts_575 ?_
            refine r_iconst (v := (3 : Int32)) (by decide) d_W_attempts_577 ?_
            refine r_iload (i := 12) (x := x12) 12 rfl d_W_attempts_578 ?_
            refine r_imul d_W_attempts_580 ?_
            refine r_iload (i := 16) (x := v33) 0 rfl d_W_attempts_581 ?_
            refine r_iadd d_W_attempts_583 ?_
            refine r_aload_n (i := 3) (x := x3) 4 rfl d_W_attempts_584 ?_
            refine r_iconst (v := (0 : Int32)) (by decide) d_W_attempts_585 ?_
            have h2 := kr_ob h
            clear h
            obtain ⟨v47, ev47, h⟩ := h2
            refine r_iaload ev47 d_W_attempts_586 ?_
            have h2 := kr_ob h
            clear h
            obtain ⟨S48, eS48, h⟩ := h2
            refine r_iastore eS48 d_W_attempts_587 ?_
            refine r_aload_n (i := 3) (x := x3) 4 rfl d_W_attempts_588 ?_
            refine r_aload (i := 4) (x := x4) 5 rfl d_W_attempts_589 ?_
            refine r_aload (i := 5) (x := x5) 6 rfl d_W_attempts_591 ?_
            refine r_aload (i := 6) (x := x6) 7 rfl d_W_attempts_593 ?_
            refine r_aload (i := 7) (x := x7) 8 rfl d_W_attempts_595 ?_
            refine r_aload (i := 8) (x := x8) 9 rfl d_W_attempts_597 ?_
            refine r_aload (i := 9) (x := x9) 10 rfl d_W_attempts_599 ?_
            refine r_aload (i := 10) (x := x10) 11 rfl d_W_attempts_601 ?_
            refine r_iload (i := 12) (x := x12) 12 rfl d_W_attempts_603 ?_
            refine r_aload (i := 4) (x := x4) 5 rfl d_W_attempts_605 ?_
            refine r_iconst (v := (5 : Int32)) (by decide) d_W_attempts_607 ?_
            refine r_iload (i := 15) (x := v32) 1 rfl d_W_attempts_608 ?_
            refine r_imul d_W_attempts_610 ?_
            refine r_iconst (v := (3 : Int32)) (by decide) d_W_attempts_611 ?_
            refine r_iadd d_W_attempts_612 ?_
            have h2 := kr_ob h
            clear h
            obtain ⟨v49, ev49, h⟩ := h2
            refine r_iaload ev49 d_W_attempts_613 ?_
            have h2 := kr_ob h
            clear h
            obtain ⟨S50, eS50, h⟩ := h2
            refine r_callSL (M1 := m_W_goes) (As := [va_rf x3, va_rf x4, va_rf x5, va_rf x6, va_rf x7, va_rf x8, va_rf x9, va_rf x10, .int x12, .int v49]) (s_W_goes eS50) mok_W_goes rfl w1017 w1018 (by decide) (kr_c8 kr_c0) d_W_attempts_614 (kr_k0 ?_) kr_kn
            refine r_goto (tgt := 685) d_W_attempts_617 rfl ?_
            exact kr_sub [3, 7, 8, 12, 13, 2] rfl (s_W_attempts_B685 h)
        · replace h := kr_in_ c h
          refine r_iconst (v := (1 : Int32)) (by decide) d_W_attempts_516 ?_
          cases h
          exact r_zret rfl rfl d_W_attempts_517
      · replace h := kr_in_ c h
        exact kr_sub [1, 2, 10, 11, 0] rfl (s_W_attempts_B448 h)
set_option maxRecDepth 20000 in
set_option maxHeartbeats 4000000 in
theorem s_W_attempts_B388 {S : AS} {x0 : Option Nat} {x2 : Int32} {x3 : Option Nat} {x4 : Option Nat} {x5 : Option Nat} {x6 : Option Nat} {x7 : Option Nat} {x8 : Option Nat} {x9 : Option Nat} {x10 : Option Nat} {x12 : Int32} {y0 : Int32} {r : (Int32 × AS)} (h : f_W_attempts_B388 S x0 x2 x3 x4 x5 x6 x7 x8 x9 x10 x12 y0 = some r) : kr_AW m_W_attempts 13 388 [(0, va_rf x0), (2, .int x2), (3, va_rf x3), (4, va_rf x4), (5, va_rf x5), (6, va_rf x6), (7, va_rf x7), (8, va_rf x8), (9, va_rf x9), (10, va_rf x10), (12, .int x12)] [.int y0] S (kr_eI r) := by
  unfold f_W_attempts_B388 at h
  refine r_istore (i := 13) (lv' := [(13, .int y0), (0, va_rf x0), (2, .int x2), (3, va_rf x3), (4, va_rf x4), (5, va_rf x5), (6, va_rf x6), (7, va_rf x7), (8, va_rf x8), (9, va_rf x9), (10, va_rf x10), (12, .int x12)]) (by decide) rfl d_W_attempts_388 ?_
  refine r_iload_n (i := 2) (x := x2) 2 rfl d_W_attempts_390 ?_
  refine r_bipush (v := (7 : Int32)) (by decide) d_W_attempts_391 ?_
  refine r_ishr d_W_attempts_393 ?_
  refine r_bipush (v := (30 : Int32)) (by decide) d_W_attempts_394 ?_
  have h2 := kr_ob2 h
  clear h
  obtain ⟨v52, S51, eS51, h⟩ := h2
  refine r_callS (M1 := m_W_some) (As := [.int (x2 >>> ((7 : Int32) &&& 31)), .int (30 : Int32)]) (s_W_some eS51) mok_W_some rfl w311 w312 (by decide) (kr_c8 kr_c0) d_W_attempts_396 (kr_k1 ?_) kr_kn
  refine r_if_ne (tgt := 408) d_W_attempts_399 rfl (fun c => ?_) (fun c => ?_)
  · replace h := kr_ip c h
    refine r_sipush (v := (10000 : Int32)) (by decide) d_W_attempts_402 ?_
    refine r_goto (tgt := 416) d_W_attempts_405 rfl ?_
    exact kr_sub [1, 3, 4, 5, 6, 7, 8, 9, 10, 11, 0] rfl (s_W_attempts_B416 h)
  · replace h := kr_in_ c h
    refine r_iload_n (i := 2) (x := x2) 2 rfl d_W_attempts_408 ?_
    refine r_iconst (v := (3 : Int32)) (by decide) d_W_attempts_409 ?_
    refine r_ishr d_W_attempts_410 ?_
    refine r_bipush (v := (7 : Int32)) (by decide) d_W_attempts_411 ?_
    have h2 := kr_ob2 h
    clear h
    obtain ⟨v54, S53, eS53, h⟩ := h2
    refine r_callS (M1 := m_W_some) (As := [.int (x2 >>> ((3 : Int32) &&& 31)), .int (7 : Int32)]) (s_W_some eS53) mok_W_some rfl w311 w312 (by decide) (kr_c8 kr_c0) d_W_attempts_413 (kr_k1 ?_) kr_kn
    exact kr_sub [1, 3, 4, 5, 6, 7, 8, 9, 10, 11, 0] rfl (s_W_attempts_B416 h)
set_option maxRecDepth 20000 in
set_option maxHeartbeats 4000000 in
theorem s_W_attempts_B370 {S : AS} {x0 : Option Nat} {x2 : Int32} {x3 : Option Nat} {x4 : Option Nat} {x5 : Option Nat} {x6 : Option Nat} {x7 : Option Nat} {x8 : Option Nat} {x9 : Option Nat} {x10 : Option Nat} {y0 : Int32} {r : (Int32 × AS)} (h : f_W_attempts_B370 S x0 x2 x3 x4 x5 x6 x7 x8 x9 x10 y0 = some r) : kr_AW m_W_attempts 13 370 [(0, va_rf x0), (2, .int x2), (3, va_rf x3), (4, va_rf x4), (5, va_rf x5), (6, va_rf x6), (7, va_rf x7), (8, va_rf x8), (9, va_rf x9), (10, va_rf x10)] [.int y0] S (kr_eI r) := by
  unfold f_W_attempts_B370 at h
  refine r_istore (i := 12) (lv' := [(12, .int y0), (0, va_rf x0), (2, .int x2), (3, va_rf x3), (4, va_rf x4), (5, va_rf x5), (6, va_rf x6), (7, va_rf x7), (8, va_rf x8), (9, va_rf x9), (10, va_rf x10)]) (by decide) rfl d_W_attempts_370 ?_
  refine r_iload_n (i := 2) (x := x2) 2 rfl d_W_attempts_372 ?_
  refine r_iconst (v := (5 : Int32)) (by decide) d_W_attempts_373 ?_
  refine r_ishr d_W_attempts_374 ?_
  refine r_iconst (v := (5 : Int32)) (by decide) d_W_attempts_375 ?_
  have h2 := kr_ob2 h
  clear h
  obtain ⟨v56, S55, eS55, h⟩ := h2
  refine r_callS (M1 := m_W_some) (As := [.int (x2 >>> ((5 : Int32) &&& 31)), .int (5 : Int32)]) (s_W_some eS55) mok_W_some rfl w311 w312 (by decide) (kr_c8 kr_c0) d_W_attempts_376 (kr_k1 ?_) kr_kn
  refine r_iconst (v := (1 : Int32)) (by decide) d_W_attempts_379 ?_
  refine r_icmp_le (tgt := 387) d_W_attempts_380 rfl (fun c => ?_) (fun c => ?_)
  · replace h := kr_ip c h
    refine r_iconst (v := (0 : Int32)) (by decide) d_W_attempts_387 ?_
    exact kr_sub [1, 2, 3, 4, 5, 6, 7, 8, 9, 10, 0] rfl (s_W_attempts_B388 h)
  · replace h := kr_in_ c h
    refine r_iconst (v := (1 : Int32)) (by decide) d_W_attempts_383 ?_
    refine r_goto (tgt := 388) d_W_attempts_384 rfl ?_
    exact kr_sub [1, 2, 3, 4, 5, 6, 7, 8, 9, 10, 0] rfl (s_W_attempts_B388 h)
set_option maxRecDepth 20000 in
set_option maxHeartbeats 4000000 in
theorem s_W_attempts {S : AS} {a0 : Option Nat} {a1 : Int32} {a2 : Int32} {a3 : Option Nat} {a4 : Option Nat} {a5 : Option Nat} {a6 : Option Nat} {a7 : Option Nat} {a8 : Option Nat} {a9 : Option Nat} {a10 : Option Nat} {r : (Int32 × AS)} (h : f_W_attempts S a0 a1 a2 a3 a4 a5 a6 a7 a8 a9 a10 = some r) : kr_Con m_W_attempts 13 [va_rf a0, .int a1, .int a2, va_rf a3, va_rf a4, va_rf a5, va_rf a6, va_rf a7, va_rf a8, va_rf a9, va_rf a10] S (kr_eI r) := by
  refine kr_con rfl rfl (by decide +kernel) (by simp [lg_sl, kr_rfcat, kr_icat, m_W_attempts, mL]) ?_
  rw [show lv_args 0 [va_rf a0, .int a1, .int a2, va_rf a3, va_rf a4, va_rf a5, va_rf a6, va_rf a7, va_rf a8, va_rf a9, va_rf a10] = [(0, va_rf a0), (1, .int a1), (2, .int a2), (3, va_rf a3), (4, va_rf a4), (5, va_rf a5), (6, va_rf a6), (7, va_rf a7), (8, va_rf a8), (9, va_rf a9), (10, va_rf a10)] from by simp [lv_args, kr_rfcat, kr_icat]]
  unfold f_W_attempts at h
  refine r_iload_n (i := 2) (x := a2) 2 rfl d_W_attempts_0 ?_
  refine r_iconst (v := (3 : Int32)) (by decide) d_W_attempts_1 ?_
  have h2 := kr_ob2 h
  clear h
  obtain ⟨v58, S57, eS57, h⟩ := h2
  refine r_callS (M1 := m_W_some) (As := [.int a2, .int (3 : Int32)]) (s_W_some eS57) mok_W_some rfl w311 w312 (by decide) (kr_c8 kr_c0) d_W_attempts_2 (kr_k1 ?_) kr_kn
  refine r_istore (i := 11) (lv' := [(11, .int v58), (0, va_rf a0), (1, .int a1), (2, .int a2), (3, va_rf a3), (4, va_rf a4), (5, va_rf a5), (6, va_rf a6), (7, va_rf a7), (8, va_rf a8), (9, va_rf a9), (10, va_rf a10)]) (by decide) (by show kr_st _ 11 _ = _; simp [kr_st, kr_rfcat, kr_icat]) d_W_attempts_5 ?_
  refine r_iload_n (i := 1) (x := a1) 2 rfl d_W_attempts_7 ?_
  refine r_if_ne (tgt := 153) d_W_attempts_8 rfl (fun c => ?_) (fun c => ?_)
  · replace h := kr_ip c h
    refine r_iload_n (i := 2) (x := a2) 3 rfl d_W_attempts_11 ?_
    refine r_iconst (v := (3 : Int32)) (by decide) d_W_attempts_12 ?_
    refine r_ishr d_W_attempts_13 ?_
    refine r_bipush (v := (25 : Int32)) (by decide) d_W_attempts_14 ?_
    have h2 := kr_ob2 h
    clear h
    obtain ⟨v60, S59, eS59, h⟩ := h2
    refine r_callS (M1 := m_W_some) (As := [.int (a2 >>> ((3 : Int32) &&& 31)), .int (25 : Int32)]) (s_W_some eS59) mok_W_some rfl w311 w312 (by decide) (kr_c8 kr_c0) d_W_attempts_16 (kr_k1 ?_) kr_kn
    refine r_if_ne (tgt := 26) d_W_attempts_19 rfl (fun c => ?_) (fun c => ?_)
    · replace h := kr_ip c h
      refine r_iconst (v := (3 : Int32)) (by decide) d_W_attempts_22 ?_
      refine r_goto (tgt := 33) d_W_attempts_23 rfl ?_
      exact kr_sub [1, 6, 0] rfl (s_W_attempts_B33 h)
    · replace h := kr_in_ c h
      refine r_iload_n (i := 2) (x := a2) 3 rfl d_W_attempts_26 ?_
      refine r_iconst (v := (4 : Int32)) (by decide) d_W_attempts_27 ?_
      refine r_ishr d_W_attempts_28 ?_
      refine r_iconst (v := (3 : Int32)) (by decide) d_W_attempts_29 ?_
      have h2 := kr_ob2 h
      clear h
      obtain ⟨v62, S61, eS61, h⟩ := h2
      refine r_callS (M1 := m_W_some) (As := [.int (a2 >>> ((4 : Int32) &&& 31)), .int (3 : Int32)]) (s_W_some eS61) mok_W_some rfl w311 w312 (by decide) (kr_c8 kr_c0) d_W_attempts_30 (kr_k1 ?_) kr_kn
      exact kr_sub [1, 6, 0] rfl (s_W_attempts_B33 h)
  · replace h := kr_in_ c h
    refine r_iload_n (i := 1) (x := a1) 2 rfl d_W_attempts_153 ?_
    refine r_iconst (v := (1 : Int32)) (by decide) d_W_attempts_154 ?_
    refine r_icmp_ne (tgt := 328) d_W_attempts_155 rfl (fun c => ?_) (fun c => ?_)
    · replace h := kr_ip c h
      refine r_aload_n (i := 3) (x := a3) 4 rfl d_W_attempts_158 ?_
      refine r_bipush (v := (11 : Int32)) (by decide) d_W_attempts_159 ?_
      have h2 := kr_ob h
      clear h
      obtain ⟨v63, ev63, h⟩ := h2
      refine r_iaload ev63 d_W_attempts_161 ?_
      refine r_bipush (v := (10 : Int32)) (by decide) d_W_attempts_162 ?_
      refine r_icmp_eq (tgt := 175) d_W_attempts_164 rfl (fun c => ?_) (fun c => ?_)
      · replace h := kr_ip c h
        refine r_iconst (v := (1 : Int32)) (by decide) d_W_attempts_175 ?_
        cases h
        exact r_zret rfl rfl d_W_attempts_176
      · replace h := kr_in_ c h
        refine r_aload_n (i := 3) (x := a3) 4 rfl d_W_attempts_167 ?_
        refine r_iconst (v := (1 : Int32)) (by decide) d_W_attempts_168 ?_
        have h2 := kr_ob h
        clear h
        obtain ⟨v64, ev64, h⟩ := h2
        refine r_iaload ev64 d_W_attempts_169 ?_
        refine r_bipush (v := (12 : Int32)) (by decide) d_W_attempts_170 ?_
        refine r_icmp_le (tgt := 177) d_W_attempts_172 rfl (fun c => ?_) (fun c => ?_)
        · replace h := kr_ip c h
          refine r_aload_n (i := 3) (x := a3) 4 rfl d_W_attempts_177 ?_
          refine r_bipush (v := (11 : Int32)) (by decide) d_W_attempts_178 ?_
          have h2 := kr_ob h
          clear h
          obtain ⟨v65, ev65, h⟩ := h2
          refine r_iaload ev65 d_W_attempts_180 ?_
          refine r_istore (i := 12) (lv' := [(12, .int v65), (11, .int v58), (0, va_rf a0), (1, .int a1), (2, .int a2), (3, va_rf a3), (4, va_rf a4), (5, va_rf a5), (6, va_rf a6), (7, va_rf a7), (8, va_rf a8), (9, va_rf a9), (10, va_rf a10)]) (by decide) rfl d_W_attempts_181 ?_
          refine r_aload (i := 6) (x := a6) 8 rfl d_W_attempts_183 ?_
          refine r_bipush (v := (6 : Int32)) (by decide) d_W_attempts_185 ?_
          refine r_iload (i := 12) (x := v65) 0 rfl d_W_attempts_187 ?_
          refine r_imul d_W_attempts_189 ?_
          refine r_iload (i := 11) (x := v58) 1 rfl d_W_attempts_190 ?_
          have h2 := kr_ob h
          clear h
          obtain ⟨S66, eS66, h⟩ := h2
          refine r_iastore eS66 d_W_attempts_192 ?_
          refine r_aload (i := 6) (x := a6) 8 rfl d_W_attempts_193 ?_
          refine r_bipush (v := (6 : Int32)) (by decide) d_W_attempts_195 ?_
          refine r_iload (i := 12) (x := v65) 0 rfl d_W_attempts_197 ?_
          refine r_imul d_W_attempts_199 ?_
          refine r_iconst (v := (1 : Int32)) (by decide) d_W_attempts_200 ?_
          refine r_iadd d_W_attempts_201 ?_
          refine r_iload_n (i := 2) (x := a2) 4 rfl d_W_attempts_202 ?_
          refine r_iconst (v := (3 : Int32)) (by decide) d_W_attempts_203 ?_
          refine r_ishr d_W_attempts_204 ?_
          refine r_iconst (v := (3 : Int32)) (by decide) d_W_attempts_205 ?_
          have h2 := kr_ob2 h
          clear h
          obtain ⟨v68, S67, eS67, h⟩ := h2
          refine r_callS (M1 := m_W_some) (As := [.int (a2 >>> ((3 : Int32) &&& 31)), .int (3 : Int32)]) (s_W_some eS67) mok_W_some rfl w311 w312 (by decide) (kr_c8 (kr_cI (kr_cR kr_c0))) d_W_attempts_206 (kr_k1 ?_) kr_kn
          have h2 := kr_ob h
          clear h
          obtain ⟨S69, eS69, h⟩ := h2
          refine r_iastore eS69 d_W_attempts_209 ?_
          refine r_aload (i := 6) (x := a6) 8 rfl d_W_attempts_210 ?_
          refine r_bipush (v := (6 : Int32)) (by decide) d_W_attempts_212 ?_
          refine r_iload (i := 12) (x := v65) 0 rfl d_W_attempts_214 ?_
          refine r_imul d_W_attempts_216 ?_
          refine r_iconst (v := (2 : Int32)) (by decide) d_W_attempts_217 ?_
          refine r_iadd d_W_attempts_218 ?_
          refine r_iload_n (i := 2) (x := a2) 4 rfl d_W_attempts_219 ?_
          refine r_iconst (v := (5 : Int32)) (by decide) d_W_attempts_220 ?_
          refine r_ishr d_W_attempts_221 ?_
          refine r_iconst (v := (3 : Int32)) (by decide) d_W_attempts_222 ?_
          have h2 := kr_ob2 h
          clear h
          obtain ⟨v71, S70, eS70, h⟩ := h2
          refine r_callS (M1 := m_W_some) (As := [.int (a2 >>> ((5 : Int32) &&& 31)), .int (3 : Int32)]) (s_W_some eS70) mok_W_some rfl w311 w312 (by decide) (kr_c8 (kr_cI (kr_cR kr_c0))) d_W_attempts_223 (kr_k1 ?_) kr_kn
          have h2 := kr_ob h
          clear h
          obtain ⟨S72, eS72, h⟩ := h2
          refine r_iastore eS72 d_W_attempts_226 ?_
          refine r_aload (i := 7) (x := a7) 9 rfl d_W_attempts_227 ?_
          refine r_iconst (v := (2 : Int32)) (by decide) d_W_attempts_229 ?_
          refine r_iload (i := 12) (x := v65) 0 rfl d_W_attempts_230 ?_
          refine r_imul d_W_attempts_232 ?_
          refine r_iconst (v := (0 : Int32)) (by decide) d_W_attempts_233 ?_
          have h2 := kr_ob h
          clear h
          obtain ⟨S73, eS73, h⟩ := h2
          refine r_iastore eS73 d_W_attempts_234 ?_
          refine r_iconst (v := (0 : Int32)) (by decide) d_W_attempts_235 ?_
          refine r_istore (i := 13) (lv' := [(13, .int (0 : Int32)), (12, .int v65), (11, .int v58), (0, va_rf a0), (1, .int a1), (2, .int a2), (3, va_rf a3), (4, va_rf a4), (5, va_rf a5), (6, va_rf a6), (7, va_rf a7), (8, va_rf a8), (9, va_rf a9), (10, va_rf a10)]) (by decide) rfl d_W_attempts_236 ?_
          exact kr_sub [3, 6, 7, 8, 9, 10, 11, 12, 13, 2, 1, 0] rfl (s_W_attempts_L238 kr_FU h)
        · replace h := kr_in_ c h
          refine r_iconst (v := (1 : Int32)) (by decide) d_W_attempts_175 ?_
          cases h
          exact r_zret rfl rfl d_W_attempts_176
    · replace h := kr_in_ c h
      refine r_iload_n (i := 2) (x := a2) 3 rfl d_W_attempts_328 ?_
      refine r_iconst (v := (2 : Int32)) (by decide) d_W_attempts_329 ?_
      refine r_ishr d_W_attempts_330 ?_
      refine r_iconst (v := (3 : Int32)) (by decide) d_W_attempts_331 ?_
      have h2 := kr_ob2 h
      clear h
      obtain ⟨v75, S74, eS74, h⟩ := h2
      refine r_callS (M1 := m_W_some) (As := [.int (a2 >>> ((2 : Int32) &&& 31)), .int (3 : Int32)]) (s_W_some eS74) mok_W_some rfl w311 w312 (by decide) (kr_c8 kr_c0) d_W_attempts_332 (kr_k1 ?_) kr_kn
      refine r_if_ne (tgt := 353) d_W_attempts_335 rfl (fun c => ?_) (fun c => ?_)
      · replace h := kr_ip c h
        refine r_iload_n (i := 2) (x := a2) 3 rfl d_W_attempts_338 ?_
        refine r_iconst (v := (4 : Int32)) (by decide) d_W_attempts_339 ?_
        refine r_ishr d_W_attempts_340 ?_
        refine r_aload_n (i := 3) (x := a3) 4 rfl d_W_attempts_341 ?_
        refine r_bipush (v := (11 : Int32)) (by decide) d_W_attempts_342 ?_
        have h2 := kr_ob h
        clear h
        obtain ⟨v76, ev76, h⟩ := h2
        refine r_iaload ev76 d_W_attempts_344 ?_
        refine r_iconst (v := (1 : Int32)) (by decide) d_W_attempts_345 ?_
        refine r_iadd d_W_attempts_346 ?_
        have h2 := kr_ob2 h
        clear h
        obtain ⟨v78, S77, eS77, h⟩ := h2
        refine r_callS (M1 := m_W_some) (As := [.int (a2 >>> ((4 : Int32) &&& 31)), .int (v76 + (1 : Int32))]) (s_W_some eS77) mok_W_some rfl w311 w312 (by decide) (kr_c8 kr_c0) d_W_attempts_347 (kr_k1 ?_) kr_kn
        refine r_goto (tgt := 370) d_W_attempts_350 rfl ?_
        exact kr_sub [1, 3, 4, 5, 6, 7, 8, 9, 10, 11] rfl (s_W_attempts_B370 h)
      · replace h := kr_in_ c h
        refine r_aload_n (i := 3) (x := a3) 4 rfl d_W_attempts_353 ?_
        refine r_bipush (v := (11 : Int32)) (by decide) d_W_attempts_354 ?_
        have h2 := kr_ob h
        clear h
        obtain ⟨v79, ev79, h⟩ := h2
        refine r_iaload ev79 d_W_attempts_356 ?_
        refine r_if_le (tgt := 369) d_W_attempts_357 rfl (fun c => ?_) (fun c => ?_)
        · replace h := kr_ip c h
          refine r_iconst (v := (0 : Int32)) (by decide) d_W_attempts_369 ?_
          exact kr_sub [1, 3, 4, 5, 6, 7, 8, 9, 10, 11] rfl (s_W_attempts_B370 h)
        · replace h := kr_in_ c h
          refine r_aload_n (i := 3) (x := a3) 4 rfl d_W_attempts_360 ?_
          refine r_bipush (v := (11 : Int32)) (by decide) d_W_attempts_361 ?_
          have h2 := kr_ob h
          clear h
          obtain ⟨v80, ev80, h⟩ := h2
          refine r_iaload ev80 d_W_attempts_363 ?_
          refine r_iconst (v := (1 : Int32)) (by decide) d_W_attempts_364 ?_
          refine r_isub d_W_attempts_365 ?_
          refine r_goto (tgt := 370) d_W_attempts_366 rfl ?_
          exact kr_sub [1, 3, 4, 5, 6, 7, 8, 9, 10, 11] rfl (s_W_attempts_B370 h)
/-! KeyringCourtLaw.endFamily([I[I[I[II)V -/
def f_W_endFamily_B95 (k31 : AS → Option Nat → Option Nat → Option Nat → Int32 → Int32 → Option AS) (S : AS) (x0 : Option Nat) (x2 : Option Nat) (x3 : Option Nat) (x4 : Int32) (x5 : Int32) (y0 : Option Nat) (y1 : Int32) (y2 : Int32) (y3 : Int32) : Option AS :=
  (bI S y0 y1 (y2 ||| y3)).bind fun S1 =>
  (some (x5 + (1 : Int32))).bind fun i2 =>
  k31 S1 x0 x2 x3 x4 i2
def f_W_endFamily_B94 (k31 : AS → Option Nat → Option Nat → Option Nat → Int32 → Int32 → Option AS) (S : AS) (x0 : Option Nat) (x2 : Option Nat) (x3 : Option Nat) (x4 : Int32) (x5 : Int32) (y0 : Option Nat) (y1 : Int32) (y2 : Int32) : Option AS :=
  f_W_endFamily_B95 k31 S x0 x2 x3 x4 x5 y0 y1 y2 (0 : Int32)
def f_W_endFamily_C31 (k31 : AS → Option Nat → Option Nat → Option Nat → Int32 → Int32 → Option AS) (S : AS) (x0 : Option Nat) (x2 : Option Nat) (x3 : Option Nat) (x4 : Int32) (x5 : Int32) : Option AS :=
  (aI S 40 x0 (4 : Int32)).bind fun v3 =>
  if v3 ≤ x5 then
  some S
  else
  (aI S 40 x2 ((3 : Int32) * x5)).bind fun v4 =>
  (some (v4 / (10 : Int32))).bind fun i5 =>
  (some (i5 - i5 / (10 : Int32) * (10 : Int32))).bind fun i6 =>
  (some (((4 : Int32) * i6) + (3 : Int32))).bind fun i7 =>
  (aI S 40 x3 i7).bind fun v8 =>
  (aI S 40 x2 (((3 : Int32) * x5) + (1 : Int32))).bind fun v9 =>
  if (v9 - v9 / (100 : Int32) * (100 : Int32)) = x4 then
  (aI S 40 x3 ((4 : Int32) * i6)).bind fun v10 =>
  if v10 = 0 then
  f_W_endFamily_B95 k31 S x0 x2 x3 x4 x5 x3 i7 v8 ((1 : Int32) <<< (x4 &&& 31))
  else
  f_W_endFamily_B94 k31 S x0 x2 x3 x4 x5 x3 i7 v8
  else
  f_W_endFamily_B94 k31 S x0 x2 x3 x4 x5 x3 i7 v8
def f_W_endFamily_L31 : Nat → AS → Option Nat → Option Nat → Option Nat → Int32 → Int32 → Option AS
  | 0, S, x0, x2, x3, x4, x5 => none
  | n + 1, S, x0, x2, x3, x4, x5 => f_W_endFamily_C31 (f_W_endFamily_L31 n) S x0 x2 x3 x4 x5
def f_W_endFamily (S : AS) (a0 : Option Nat) (a1 : Option Nat) (a2 : Option Nat) (a3 : Option Nat) (a4 : Int32) : Option AS :=
  (aI S 40 a1 (((5 : Int32) * a4) + (4 : Int32))).bind fun v11 =>
  if v11 = 0 then
  some S
  else
  (bI S a1 (((5 : Int32) * a4) + (4 : Int32)) (0 : Int32)).bind fun S12 =>
  (f_W_writes S12 a0 (3 : Int32) a4).bind fun S13 =>
  f_W_endFamily_L31 kr_FU S13 a0 a2 a3 a4 (0 : Int32)
set_option maxRecDepth 20000 in
set_option maxHeartbeats 4000000 in
theorem s_W_endFamily_B95 {k31 : AS → Option Nat → Option Nat → Option Nat → Int32 → Int32 → Option AS} (hk31 : ∀ {S : AS} {x0 : Option Nat} {x2 : Option Nat} {x3 : Option Nat} {x4 : Int32} {x5 : Int32} {r : AS}, k31 S x0 x2 x3 x4 x5 = some r → kr_AW m_W_endFamily 1 31 [(0, va_rf x0), (2, va_rf x2), (3, va_rf x3), (4, .int x4), (5, .int x5)] [] S (kr_eV r)) {S : AS} {x0 : Option Nat} {x2 : Option Nat} {x3 : Option Nat} {x4 : Int32} {x5 : Int32} {y0 : Option Nat} {y1 : Int32} {y2 : Int32} {y3 : Int32} {r : AS} (h : f_W_endFamily_B95 k31 S x0 x2 x3 x4 x5 y0 y1 y2 y3 = some r) : kr_AW m_W_endFamily 1 95 [(0, va_rf x0), (2, va_rf x2), (3, va_rf x3), (4, .int x4), (5, .int x5)] [.int y3, .int y2, .int y1, va_rf y0] S (kr_eV r) := by
  unfold f_W_endFamily_B95 at h
  refine r_ior d_W_endFamily_95 ?_
  have h2 := kr_ob h
  clear h
  obtain ⟨S1, eS1, h⟩ := h2
  refine r_iastore eS1 d_W_endFamily_96 ?_
  have h2 := kr_ob h
  clear h
  obtain ⟨i2, ei2, h⟩ := h2
  refine r_iinc (v := i2) (lv' := [(5, .int i2), (0, va_rf x0), (2, va_rf x2), (3, va_rf x3), (4, .int x4)]) 4 rfl (kr_inc (by decide) ei2) (by decide) rfl d_W_endFamily_97 ?_
  refine r_goto (tgt := 31) d_W_endFamily_100 rfl ?_
  exact kr_sub [1, 2, 3, 4, 0] rfl (hk31 h)
set_option maxRecDepth 20000 in
set_option maxHeartbeats 4000000 in
theorem s_W_endFamily_B94 {k31 : AS → Option Nat → Option Nat → Option Nat → Int32 → Int32 → Option AS} (hk31 : ∀ {S : AS} {x0 : Option Nat} {x2 : Option Nat} {x3 : Option Nat} {x4 : Int32} {x5 : Int32} {r : AS}, k31 S x0 x2 x3 x4 x5 = some r → kr_AW m_W_endFamily 1 31 [(0, va_rf x0), (2, va_rf x2), (3, va_rf x3), (4, .int x4), (5, .int x5)] [] S (kr_eV r)) {S : AS} {x0 : Option Nat} {x2 : Option Nat} {x3 : Option Nat} {x4 : Int32} {x5 : Int32} {y0 : Option Nat} {y1 : Int32} {y2 : Int32} {r : AS} (h : f_W_endFamily_B94 k31 S x0 x2 x3 x4 x5 y0 y1 y2 = some r) : kr_AW m_W_endFamily 1 94 [(0, va_rf x0), (2, va_rf x2), (3, va_rf x3), (4, .int x4), (5, .int x5)] [.int y2, .int y1, va_rf y0] S (kr_eV r) := by
  unfold f_W_endFamily_B94 at h
  refine r_iconst (v := (0 : Int32)) (by decide) d_W_endFamily_94 ?_
  exact kr_sub [0, 1, 2, 3, 4] rfl (s_W_endFamily_B95 hk31 h)
set_option maxRecDepth 20000 in
set_option maxHeartbeats 4000000 in
theorem s_W_endFamily_C31 {k31 : AS → Option Nat → Option Nat → Option Nat → Int32 → Int32 → Option AS} (hk31 : ∀ {S : AS} {x0 : Option Nat} {x2 : Option Nat} {x3 : Option Nat} {x4 : Int32} {x5 : Int32} {r : AS}, k31 S x0 x2 x3 x4 x5 = some r → kr_AW m_W_endFamily 1 31 [(0, va_rf x0), (2, va_rf x2), (3, va_rf x3), (4, .int x4), (5, .int x5)] [] S (kr_eV r)) {S : AS} {x0 : Option Nat} {x2 : Option Nat} {x3 : Option Nat} {x4 : Int32} {x5 : Int32} {r : AS} (h : f_W_endFamily_C31 k31 S x0 x2 x3 x4 x5 = some r) : kr_AW m_W_endFamily 1 31 [(0, va_rf x0), (2, va_rf x2), (3, va_rf x3), (4, .int x4), (5, .int x5)] [] S (kr_eV r) := by
  unfold f_W_endFamily_C31 at h
  refine r_iload (i := 5) (x := x5) 4 rfl d_W_endFamily_31 ?_
  refine r_aload_n (i := 0) (x := x0) 0 rfl d_W_endFamily_33 ?_
  refine r_iconst (v := (4 : Int32)) (by decide) d_W_endFamily_34 ?_
  have h2 := kr_ob h
  clear h
  obtain ⟨v3, ev3, h⟩ := h2
  refine r_iaload ev3 d_W_endFamily_35 ?_
  refine r_icmp_ge (tgt := 103) d_W_endFamily_36 rfl (fun c => ?_) (fun c => ?_)
  · replace h := kr_ip c h
    cases h
    exact r_vret rfl d_W_endFamily_103
  · replace h := kr_in_ c h
    refine r_aload_n (i := 2) (x := x2) 1 rfl d_W_endFamily_39 ?_
    refine r_iconst (v := (3 : Int32)) (by decide) d_W_endFamily_40 ?_
    refine r_iload (i := 5) (x := x5) 4 rfl d_W_endFamily_41 ?_
    refine r_imul d_W_endFamily_43 ?_
    have h2 := kr_ob h
    clear h
    obtain ⟨v4, ev4, h⟩ := h2
    refine r_iaload ev4 d_W_endFamily_44 ?_
    refine r_bipush (v := (10 : Int32)) (by decide) d_W_endFamily_45 ?_
    refine r_idiv (by decide) d_W_endFamily_47 ?_
    refine r_bipush (v := (10 : Int32)) (by decide) d_W_endFamily_48 ?_
    have h2 := kr_ob h
    clear h
    obtain ⟨i5, ei5, h⟩ := h2
    refine kr_nmI2 ei5 ?_
    refine r_irem (by decide) d_W_endFamily_50 ?_
    have h2 := kr_ob h
    clear h
    obtain ⟨i6, ei6, h⟩ := h2
    refine kr_nmI ei6 ?_
    refine r_istore (i := 6) (lv' := [(6, .int i6), (0, va_rf x0), (2, va_rf x2), (3, va_rf x3), (4, .int x4), (5, .int x5)]) (by decide) rfl d_W_endFamily_51 ?_
    refine r_aload_n (i := 3) (x := x3) 3 rfl d_W_endFamily_53 ?_
    refine r_iconst (v := (4 : Int32)) (by decide) d_W_endFamily_54 ?_
    refine r_iload (i := 6) (x := i6) 0 rfl d_W_endFamily_55 ?_
    refine r_imul d_W_endFamily_57 ?_
    refine r_iconst (v := (3 : Int32)) (by decide) d_W_endFamily_58 ?_
    refine r_iadd d_W_endFamily_59 ?_
    have h2 := kr_ob h
    clear h
    obtain ⟨i7, ei7, h⟩ := h2
    refine kr_nmI ei7 ?_
    refine r_dup2 rfl (kr_rfcat _) d_W_endFamily_60 ?_
    have h2 := kr_ob h
    clear h
    obtain ⟨v8, ev8, h⟩ := h2
    refine r_iaload ev8 d_W_endFamily_61 ?_
    refine r_aload_n (i := 2) (x := x2) 2 rfl d_W_endFamily_62 ?_
    refine r_iconst (v := (3 : Int32)) (by decide) d_W_endFamily_63 ?_
    refine r_iload (i := 5) (x := x5) 5 rfl d_W_endFamily_64 ?_
    refine r_imul d_W_endFamily_66 ?_
    refine r_iconst (v := (1 : Int32)) (by decide) d_W_endFamily_67 ?_
    refine r_iadd d_W_endFamily_68 ?_
    have h2 := kr_ob h
    clear h
    obtain ⟨v9, ev9, h⟩ := h2
    refine r_iaload ev9 d_W_endFamily_69 ?_
    refine r_bipush (v := (100 : Int32)) (by decide) d_W_endFamily_70 ?_
    refine r_irem (by decide) d_W_endFamily_72 ?_
    refine r_iload (i := 4) (x := x4) 4 rfl d_W_endFamily_73 ?_
    refine r_icmp_ne (tgt := 94) d_W_endFamily_75 rfl (fun c => ?_) (fun c => ?_)
    · replace h := kr_ip c h
      refine r_aload_n (i := 3) (x := x3) 3 rfl d_W_endFamily_78 ?_
      refine r_iconst (v := (4 : Int32)) (by decide) d_W_endFamily_79 ?_
      refine r_iload (i := 6) (x := i6) 0 rfl d_W_endFamily_80 ?_
      refine r_imul d_W_endFamily_82 ?_
      have h2 := kr_ob h
      clear h
      obtain ⟨v10, ev10, h⟩ := h2
      refine r_iaload ev10 d_W_endFamily_83 ?_
      refine r_if_ne (tgt := 94) d_W_endFamily_84 rfl (fun c => ?_) (fun c => ?_)
      · replace h := kr_ip c h
        refine r_iconst (v := (1 : Int32)) (by decide) d_W_endFamily_87 ?_
        refine r_iload (i := 4) (x := x4) 4 rfl d_W_endFamily_88 ?_
        refine r_ishl d_W_endFamily_90 ?_
        refine r_goto (tgt := 95) d_W_endFamily_91 rfl ?_
        exact kr_sub [1, 2, 3, 4, 5] rfl (s_W_endFamily_B95 hk31 h)
      · replace h := kr_in_ c h
        exact kr_sub [1, 2, 3, 4, 5] rfl (s_W_endFamily_B94 hk31 h)
    · replace h := kr_in_ c h
      exact kr_sub [1, 2, 3, 4, 5] rfl (s_W_endFamily_B94 hk31 h)
theorem s_W_endFamily_L31 (n : Nat) : ∀ {S : AS} {x0 : Option Nat} {x2 : Option Nat} {x3 : Option Nat} {x4 : Int32} {x5 : Int32} {r : AS}, f_W_endFamily_L31 n S x0 x2 x3 x4 x5 = some r → kr_AW m_W_endFamily 1 31 [(0, va_rf x0), (2, va_rf x2), (3, va_rf x3), (4, .int x4), (5, .int x5)] [] S (kr_eV r) := by
  induction n with
  | zero => intro S x0 x2 x3 x4 x5 r h; cases h
  | succ n ih => intro S x0 x2 x3 x4 x5 r h; exact s_W_endFamily_C31 (fun {_} {_} {_} {_} {_} {_} {_} h => ih h) h
set_option maxRecDepth 20000 in
set_option maxHeartbeats 4000000 in
theorem s_W_endFamily {S : AS} {a0 : Option Nat} {a1 : Option Nat} {a2 : Option Nat} {a3 : Option Nat} {a4 : Int32} {r : AS} (h : f_W_endFamily S a0 a1 a2 a3 a4 = some r) : kr_Con m_W_endFamily 1 [va_rf a0, va_rf a1, va_rf a2, va_rf a3, .int a4] S (kr_eV r) := by
  refine kr_con rfl rfl (by decide +kernel) (by simp [lg_sl, kr_rfcat, kr_icat, m_W_endFamily, mL]) ?_
  rw [show lv_args 0 [va_rf a0, va_rf a1, va_rf a2, va_rf a3, .int a4] = [(0, va_rf a0), (1, va_rf a1), (2, va_rf a2), (3, va_rf a3), (4, .int a4)] from by simp [lv_args, kr_rfcat, kr_icat]]
  unfold f_W_endFamily at h
  refine r_aload_n (i := 1) (x := a1) 1 rfl d_W_endFamily_0 ?_
  refine r_iconst (v := (5 : Int32)) (by decide) d_W_endFamily_1 ?_
  refine r_iload (i := 4) (x := a4) 4 rfl d_W_endFamily_2 ?_
  refine r_imul d_W_endFamily_4 ?_
  refine r_iconst (v := (4 : Int32)) (by decide) d_W_endFamily_5 ?_
  refine r_iadd d_W_endFamily_6 ?_
  have h2 := kr_ob h
  clear h
  obtain ⟨v11, ev11, h⟩ := h2
  refine r_iaload ev11 d_W_endFamily_7 ?_
  refine r_if_ne (tgt := 12) d_W_endFamily_8 rfl (fun c => ?_) (fun c => ?_)
  · replace h := kr_ip c h
    cases h
    exact r_vret rfl d_W_endFamily_11
  · replace h := kr_in_ c h
    refine r_aload_n (i := 1) (x := a1) 1 rfl d_W_endFamily_12 ?_
    refine r_iconst (v := (5 : Int32)) (by decide) d_W_endFamily_13 ?_
    refine r_iload (i := 4) (x := a4) 4 rfl d_W_endFamily_14 ?_
    refine r_imul d_W_endFamily_16 ?_
    refine r_iconst (v := (4 : Int32)) (by decide) d_W_endFamily_17 ?_
    refine r_iadd d_W_endFamily_18 ?_
    refine r_iconst (v := (0 : Int32)) (by decide) d_W_endFamily_19 ?_
    have h2 := kr_ob h
    clear h
    obtain ⟨S12, eS12, h⟩ := h2
    refine r_iastore eS12 d_W_endFamily_20 ?_
    refine r_aload_n (i := 0) (x := a0) 0 rfl d_W_endFamily_21 ?_
    refine r_iconst (v := (3 : Int32)) (by decide) d_W_endFamily_22 ?_
    refine r_iload (i := 4) (x := a4) 4 rfl d_W_endFamily_23 ?_
    have h2 := kr_ob h
    clear h
    obtain ⟨S13, eS13, h⟩ := h2
    refine r_callS (M1 := m_W_writes) (As := [va_rf a0, .int (3 : Int32), .int a4]) (s_W_writes eS13) mok_W_writes rfl w1029 w1030 (by decide) (kr_c8 kr_c0) d_W_endFamily_25 (kr_k0 ?_) kr_kn
    refine r_iconst (v := (0 : Int32)) (by decide) d_W_endFamily_28 ?_
    refine r_istore (i := 5) (lv' := [(5, .int (0 : Int32)), (0, va_rf a0), (1, va_rf a1), (2, va_rf a2), (3, va_rf a3), (4, .int a4)]) (by decide) rfl d_W_endFamily_29 ?_
    exact kr_sub [1, 3, 4, 5, 0] rfl (s_W_endFamily_L31 kr_FU h)
/-! KeyringCourtLaw.endFamilies([I[I[I[I[II)V -/
def f_W_endFamilies_B37 (k3 : AS → Option Nat → Option Nat → Option Nat → Option Nat → Option Nat → Int32 → Int32 → Option AS) (S : AS) (x0 : Option Nat) (x1 : Option Nat) (x2 : Option Nat) (x3 : Option Nat) (x4 : Option Nat) (x5 : Int32) (x6 : Int32) : Option AS :=
  (some (x6 + (1 : Int32))).bind fun i1 =>
  k3 S x0 x1 x2 x3 x4 x5 i1
def f_W_endFamilies_C3 (k3 : AS → Option Nat → Option Nat → Option Nat → Option Nat → Option Nat → Int32 → Int32 → Option AS) (S : AS) (x0 : Option Nat) (x1 : Option Nat) (x2 : Option Nat) (x3 : Option Nat) (x4 : Option Nat) (x5 : Int32) (x6 : Int32) : Option AS :=
  (aI S 40 x0 (3 : Int32)).bind fun v2 =>
  if v2 ≤ x6 then
  some S
  else
  (aI S 40 x2 ((5 : Int32) * x6)).bind fun v3 =>
  (aI S 40 x1 ((6 : Int32) * v3)).bind fun v4 =>
  if v4 = x5 then
  (f_W_endFamily S x0 x2 x3 x4 x6).bind fun S5 =>
  f_W_endFamilies_B37 k3 S5 x0 x1 x2 x3 x4 x5 x6
  else
  f_W_endFamilies_B37 k3 S x0 x1 x2 x3 x4 x5 x6
def f_W_endFamilies_L3 : Nat → AS → Option Nat → Option Nat → Option Nat → Option Nat → Option Nat → Int32 → Int32 → Option AS
  | 0, S, x0, x1, x2, x3, x4, x5, x6 => none
  | n + 1, S, x0, x1, x2, x3, x4, x5, x6 => f_W_endFamilies_C3 (f_W_endFamilies_L3 n) S x0 x1 x2 x3 x4 x5 x6
def f_W_endFamilies (S : AS) (a0 : Option Nat) (a1 : Option Nat) (a2 : Option Nat) (a3 : Option Nat) (a4 : Option Nat) (a5 : Int32) : Option AS :=
  f_W_endFamilies_L3 kr_FU S a0 a1 a2 a3 a4 a5 (0 : Int32)
set_option maxRecDepth 20000 in
set_option maxHeartbeats 4000000 in
theorem s_W_endFamilies_B37 {k3 : AS → Option Nat → Option Nat → Option Nat → Option Nat → Option Nat → Int32 → Int32 → Option AS} (hk3 : ∀ {S : AS} {x0 : Option Nat} {x1 : Option Nat} {x2 : Option Nat} {x3 : Option Nat} {x4 : Option Nat} {x5 : Int32} {x6 : Int32} {r : AS}, k3 S x0 x1 x2 x3 x4 x5 x6 = some r → kr_AW m_W_endFamilies 2 3 [(0, va_rf x0), (1, va_rf x1), (2, va_rf x2), (3, va_rf x3), (4, va_rf x4), (5, .int x5), (6, .int x6)] [] S (kr_eV r)) {S : AS} {x0 : Option Nat} {x1 : Option Nat} {x2 : Option Nat} {x3 : Option Nat} {x4 : Option Nat} {x5 : Int32} {x6 : Int32} {r : AS} (h : f_W_endFamilies_B37 k3 S x0 x1 x2 x3 x4 x5 x6 = some r) : kr_AW m_W_endFamilies 2 37 [(0, va_rf x0), (1, va_rf x1), (2, va_rf x2), (3, va_rf x3), (4, va_rf x4), (5, .int x5), (6, .int x6)] [] S (kr_eV r) := by
  unfold f_W_endFamilies_B37 at h
  have h2 := kr_ob h
  clear h
  obtain ⟨i1, ei1, h⟩ := h2
  refine r_iinc (v := i1) (lv' := [(6, .int i1), (0, va_rf x0), (1, va_rf x1), (2, va_rf x2), (3, va_rf x3), (4, va_rf x4), (5, .int x5)]) 6 rfl (kr_inc (by decide) ei1) (by decide) rfl d_W_endFamilies_37 ?_
  refine r_goto (tgt := 3) d_W_endFamilies_40 rfl ?_
  exact kr_sub [1, 2, 3, 4, 5, 6, 0] rfl (hk3 h)
set_option maxRecDepth 20000 in
set_option maxHeartbeats 4000000 in
theorem s_W_endFamilies_C3 {k3 : AS → Option Nat → Option Nat → Option Nat → Option Nat → Option Nat → Int32 → Int32 → Option AS} (hk3 : ∀ {S : AS} {x0 : Option Nat} {x1 : Option Nat} {x2 : Option Nat} {x3 : Option Nat} {x4 : Option Nat} {x5 : Int32} {x6 : Int32} {r : AS}, k3 S x0 x1 x2 x3 x4 x5 x6 = some r → kr_AW m_W_endFamilies 2 3 [(0, va_rf x0), (1, va_rf x1), (2, va_rf x2), (3, va_rf x3), (4, va_rf x4), (5, .int x5), (6, .int x6)] [] S (kr_eV r)) {S : AS} {x0 : Option Nat} {x1 : Option Nat} {x2 : Option Nat} {x3 : Option Nat} {x4 : Option Nat} {x5 : Int32} {x6 : Int32} {r : AS} (h : f_W_endFamilies_C3 k3 S x0 x1 x2 x3 x4 x5 x6 = some r) : kr_AW m_W_endFamilies 2 3 [(0, va_rf x0), (1, va_rf x1), (2, va_rf x2), (3, va_rf x3), (4, va_rf x4), (5, .int x5), (6, .int x6)] [] S (kr_eV r) := by
  unfold f_W_endFamilies_C3 at h
  refine r_iload (i := 6) (x := x6) 6 rfl d_W_endFamilies_3 ?_
  refine r_aload_n (i := 0) (x := x0) 0 rfl d_W_endFamilies_5 ?_
  refine r_iconst (v := (3 : Int32)) (by decide) d_W_endFamilies_6 ?_
  have h2 := kr_ob h
  clear h
  obtain ⟨v2, ev2, h⟩ := h2
  refine r_iaload ev2 d_W_endFamilies_7 ?_
  refine r_icmp_ge (tgt := 43) d_W_endFamilies_8 rfl (fun c => ?_) (fun c => ?_)
  · replace h := kr_ip c h
    cases h
    exact r_vret rfl d_W_endFamilies_43
  · replace h := kr_in_ c h
    refine r_aload_n (i := 1) (x := x1) 1 rfl d_W_endFamilies_11 ?_
    refine r_bipush (v := (6 : Int32)) (by decide) d_W_endFamilies_12 ?_
    refine r_aload_n (i := 2) (x := x2) 2 rfl d_W_endFamilies_14 ?_
    refine r_iconst (v := (5 : Int32)) (by decide) d_W_endFamilies_15 ?_
    refine r_iload (i := 6) (x := x6) 6 rfl d_W_endFamilies_16 ?_
    refine r_imul d_W_endFamilies_18 ?_
    have h2 := kr_ob h
    clear h
    obtain ⟨v3, ev3, h⟩ := h2
    refine r_iaload ev3 d_W_endFamilies_19 ?_
    refine r_imul d_W_endFamilies_20 ?_
    have h2 := kr_ob h
    clear h
    obtain ⟨v4, ev4, h⟩ := h2
    refine r_iaload ev4 d_W_endFamilies_21 ?_
    refine r_iload (i := 5) (x := x5) 5 rfl d_W_endFamilies_22 ?_
    refine r_icmp_ne (tgt := 37) d_W_endFamilies_24 rfl (fun c => ?_) (fun c => ?_)
    · replace h := kr_ip c h
      refine r_aload_n (i := 0) (x := x0) 0 rfl d_W_endFamilies_27 ?_
      refine r_aload_n (i := 2) (x := x2) 2 rfl d_W_endFamilies_28 ?_
      refine r_aload_n (i := 3) (x := x3) 3 rfl d_W_endFamilies_29 ?_
      refine r_aload (i := 4) (x := x4) 4 rfl d_W_endFamilies_30 ?_
      refine r_iload (i := 6) (x := x6) 6 rfl d_W_endFamilies_32 ?_
      have h2 := kr_ob h
      clear h
      obtain ⟨S5, eS5, h⟩ := h2
      refine r_callS (M1 := m_W_endFamily) (As := [va_rf x0, va_rf x2, va_rf x3, va_rf x4, .int x6]) (s_W_endFamily eS5) mok_W_endFamily rfl w1048 w1049 (by decide) (kr_c8 kr_c0) d_W_endFamilies_34 (kr_k0 ?_) kr_kn
      exact kr_sub [0, 1, 2, 3, 4, 5, 6] rfl (s_W_endFamilies_B37 hk3 h)
    · replace h := kr_in_ c h
      exact kr_sub [0, 1, 2, 3, 4, 5, 6] rfl (s_W_endFamilies_B37 hk3 h)
theorem s_W_endFamilies_L3 (n : Nat) : ∀ {S : AS} {x0 : Option Nat} {x1 : Option Nat} {x2 : Option Nat} {x3 : Option Nat} {x4 : Option Nat} {x5 : Int32} {x6 : Int32} {r : AS}, f_W_endFamilies_L3 n S x0 x1 x2 x3 x4 x5 x6 = some r → kr_AW m_W_endFamilies 2 3 [(0, va_rf x0), (1, va_rf x1), (2, va_rf x2), (3, va_rf x3), (4, va_rf x4), (5, .int x5), (6, .int x6)] [] S (kr_eV r) := by
  induction n with
  | zero => intro S x0 x1 x2 x3 x4 x5 x6 r h; cases h
  | succ n ih => intro S x0 x1 x2 x3 x4 x5 x6 r h; exact s_W_endFamilies_C3 (fun {_} {_} {_} {_} {_} {_} {_} {_} {_} h => ih h) h
set_option maxRecDepth 20000 in
set_option maxHeartbeats 4000000 in
theorem s_W_endFamilies {S : AS} {a0 : Option Nat} {a1 : Option Nat} {a2 : Option Nat} {a3 : Option Nat} {a4 : Option Nat} {a5 : Int32} {r : AS} (h : f_W_endFamilies S a0 a1 a2 a3 a4 a5 = some r) : kr_Con m_W_endFamilies 2 [va_rf a0, va_rf a1, va_rf a2, va_rf a3, va_rf a4, .int a5] S (kr_eV r) := by
  refine kr_con rfl rfl (by decide +kernel) (by simp [lg_sl, kr_rfcat, kr_icat, m_W_endFamilies, mL]) ?_
  rw [show lv_args 0 [va_rf a0, va_rf a1, va_rf a2, va_rf a3, va_rf a4, .int a5] = [(0, va_rf a0), (1, va_rf a1), (2, va_rf a2), (3, va_rf a3), (4, va_rf a4), (5, .int a5)] from by simp [lv_args, kr_rfcat, kr_icat]]
  unfold f_W_endFamilies at h
  refine r_iconst (v := (0 : Int32)) (by decide) d_W_endFamilies_0 ?_
  refine r_istore (i := 6) (lv' := [(6, .int (0 : Int32)), (0, va_rf a0), (1, va_rf a1), (2, va_rf a2), (3, va_rf a3), (4, va_rf a4), (5, .int a5)]) (by decide) rfl d_W_endFamilies_1 ?_
  exact kr_sub [1, 2, 3, 4, 5, 6, 0] rfl (s_W_endFamilies_L3 kr_FU h)
/-! KeyringCourtLaw.endSession([I[I[I[I[I[II)I -/
def f_W_endSession_B87 (k29 : AS → Option Nat → Option Nat → Option Nat → Option Nat → Option Nat → Option Nat → Int32 → Int32 → Int32 → Option (Int32 × AS)) (S : AS) (x0 : Option Nat) (x1 : Option Nat) (x2 : Option Nat) (x3 : Option Nat) (x4 : Option Nat) (x5 : Option Nat) (x6 : Int32) (x7 : Int32) (x8 : Int32) : Option (Int32 × AS) :=
  (some (x8 + (1 : Int32))).bind fun i1 =>
  k29 S x0 x1 x2 x3 x4 x5 x6 x7 i1
def f_W_endSession_C29 (k29 : AS → Option Nat → Option Nat → Option Nat → Option Nat → Option Nat → Option Nat → Int32 → Int32 → Int32 → Option (Int32 × AS)) (S : AS) (x0 : Option Nat) (x1 : Option Nat) (x2 : Option Nat) (x3 : Option Nat) (x4 : Option Nat) (x5 : Option Nat) (x6 : Int32) (x7 : Int32) (x8 : Int32) : Option (Int32 × AS) :=
  (aI S 40 x0 (1 : Int32)).bind fun v2 =>
  if v2 ≤ x8 then
  (f_W_endFamilies S x0 x2 x3 x4 x5 x6).bind fun S3 =>
  some (x7, S3)
  else
  (aI S 40 x1 (((4 : Int32) * x8) + (3 : Int32))).bind fun v4 =>
  if v4 = (x6 + (1 : Int32)) then
  (some (((4 : Int32) * x8) + (3 : Int32))).bind fun i5 =>
  (aI S 40 x1 i5).bind fun v6 =>
  (bI S x1 i5 (v6 + (100 : Int32))).bind fun S7 =>
  (f_W_writes S7 x0 (1 : Int32) x8).bind fun S8 =>
  (f_W_endFamilies S8 x0 x2 x3 x4 x5 x8).bind fun S9 =>
  (some (x7 + (1 : Int32))).bind fun i10 =>
  f_W_endSession_B87 k29 S9 x0 x1 x2 x3 x4 x5 x6 i10 x8
  else
  f_W_endSession_B87 k29 S x0 x1 x2 x3 x4 x5 x6 x7 x8
def f_W_endSession_L29 : Nat → AS → Option Nat → Option Nat → Option Nat → Option Nat → Option Nat → Option Nat → Int32 → Int32 → Int32 → Option (Int32 × AS)
  | 0, S, x0, x1, x2, x3, x4, x5, x6, x7, x8 => none
  | n + 1, S, x0, x1, x2, x3, x4, x5, x6, x7, x8 => f_W_endSession_C29 (f_W_endSession_L29 n) S x0 x1 x2 x3 x4 x5 x6 x7 x8
def f_W_endSession (S : AS) (a0 : Option Nat) (a1 : Option Nat) (a2 : Option Nat) (a3 : Option Nat) (a4 : Option Nat) (a5 : Option Nat) (a6 : Int32) : Option (Int32 × AS) :=
  (some (((4 : Int32) * a6) + (3 : Int32))).bind fun i11 =>
  (aI S 40 a1 i11).bind fun v12 =>
  (bI S a1 i11 (v12 + (100 : Int32))).bind fun S13 =>
  (f_W_writes S13 a0 (1 : Int32) a6).bind fun S14 =>
  (some (a6 + (1 : Int32))).bind fun i15 =>
  f_W_endSession_L29 kr_FU S14 a0 a1 a2 a3 a4 a5 a6 (1 : Int32) i15
set_option maxRecDepth 20000 in
set_option maxHeartbeats 4000000 in
theorem s_W_endSession_B87 {k29 : AS → Option Nat → Option Nat → Option Nat → Option Nat → Option Nat → Option Nat → Int32 → Int32 → Int32 → Option (Int32 × AS)} (hk29 : ∀ {S : AS} {x0 : Option Nat} {x1 : Option Nat} {x2 : Option Nat} {x3 : Option Nat} {x4 : Option Nat} {x5 : Option Nat} {x6 : Int32} {x7 : Int32} {x8 : Int32} {r : (Int32 × AS)}, k29 S x0 x1 x2 x3 x4 x5 x6 x7 x8 = some r → kr_AW m_W_endSession 3 29 [(0, va_rf x0), (1, va_rf x1), (2, va_rf x2), (3, va_rf x3), (4, va_rf x4), (5, va_rf x5), (6, .int x6), (7, .int x7), (8, .int x8)] [] S (kr_eI r)) {S : AS} {x0 : Option Nat} {x1 : Option Nat} {x2 : Option Nat} {x3 : Option Nat} {x4 : Option Nat} {x5 : Option Nat} {x6 : Int32} {x7 : Int32} {x8 : Int32} {r : (Int32 × AS)} (h : f_W_endSession_B87 k29 S x0 x1 x2 x3 x4 x5 x6 x7 x8 = some r) : kr_AW m_W_endSession 3 87 [(0, va_rf x0), (1, va_rf x1), (2, va_rf x2), (3, va_rf x3), (4, va_rf x4), (5, va_rf x5), (6, .int x6), (7, .int x7), (8, .int x8)] [] S (kr_eI r) := by
  unfold f_W_endSession_B87 at h
  have h2 := kr_ob h
  clear h
  obtain ⟨i1, ei1, h⟩ := h2
  refine r_iinc (v := i1) (lv' := [(8, .int i1), (0, va_rf x0), (1, va_rf x1), (2, va_rf x2), (3, va_rf x3), (4, va_rf x4), (5, va_rf x5), (6, .int x6), (7, .int x7)]) 8 rfl (kr_inc (by decide) ei1) (by decide) rfl d_W_endSession_87 ?_
  refine r_goto (tgt := 29) d_W_endSession_90 rfl ?_
  exact kr_sub [1, 2, 3, 4, 5, 6, 7, 8, 0] rfl (hk29 h)
set_option maxRecDepth 20000 in
set_option maxHeartbeats 4000000 in
theorem s_W_endSession_C29 {k29 : AS → Option Nat → Option Nat → Option Nat → Option Nat → Option Nat → Option Nat → Int32 → Int32 → Int32 → Option (Int32 × AS)} (hk29 : ∀ {S : AS} {x0 : Option Nat} {x1 : Option Nat} {x2 : Option Nat} {x3 : Option Nat} {x4 : Option Nat} {x5 : Option Nat} {x6 : Int32} {x7 : Int32} {x8 : Int32} {r : (Int32 × AS)}, k29 S x0 x1 x2 x3 x4 x5 x6 x7 x8 = some r → kr_AW m_W_endSession 3 29 [(0, va_rf x0), (1, va_rf x1), (2, va_rf x2), (3, va_rf x3), (4, va_rf x4), (5, va_rf x5), (6, .int x6), (7, .int x7), (8, .int x8)] [] S (kr_eI r)) {S : AS} {x0 : Option Nat} {x1 : Option Nat} {x2 : Option Nat} {x3 : Option Nat} {x4 : Option Nat} {x5 : Option Nat} {x6 : Int32} {x7 : Int32} {x8 : Int32} {r : (Int32 × AS)} (h : f_W_endSession_C29 k29 S x0 x1 x2 x3 x4 x5 x6 x7 x8 = some r) : kr_AW m_W_endSession 3 29 [(0, va_rf x0), (1, va_rf x1), (2, va_rf x2), (3, va_rf x3), (4, va_rf x4), (5, va_rf x5), (6, .int x6), (7, .int x7), (8, .int x8)] [] S (kr_eI r) := by
  unfold f_W_endSession_C29 at h
  refine r_iload (i := 8) (x := x8) 8 rfl d_W_endSession_29 ?_
  refine r_aload_n (i := 0) (x := x0) 0 rfl d_W_endSession_31 ?_
  refine r_iconst (v := (1 : Int32)) (by decide) d_W_endSession_32 ?_
  have h2 := kr_ob h
  clear h
  obtain ⟨v2, ev2, h⟩ := h2
  refine r_iaload ev2 d_W_endSession_33 ?_
  refine r_icmp_ge (tgt := 93) d_W_endSession_34 rfl (fun c => ?_) (fun c => ?_)
  · replace h := kr_ip c h
    refine r_aload_n (i := 0) (x := x0) 0 rfl d_W_endSession_93 ?_
    refine r_aload_n (i := 2) (x := x2) 2 rfl d_W_endSession_94 ?_
    refine r_aload_n (i := 3) (x := x3) 3 rfl d_W_endSession_95 ?_
    refine r_aload (i := 4) (x := x4) 4 rfl d_W_endSession_96 ?_
    refine r_aload (i := 5) (x := x5) 5 rfl d_W_endSession_98 ?_
    refine r_iload (i := 6) (x := x6) 6 rfl d_W_endSession_100 ?_
    have h2 := kr_ob h
    clear h
    obtain ⟨S3, eS3, h⟩ := h2
    refine r_callS (M1 := m_W_endFamilies) (As := [va_rf x0, va_rf x2, va_rf x3, va_rf x4, va_rf x5, .int x6]) (s_W_endFamilies eS3) mok_W_endFamilies rfl w1045 w1046 (by decide) (kr_c8 kr_c0) d_W_endSession_102 (kr_k0 ?_) kr_kn
    refine r_iload (i := 7) (x := x7) 7 rfl d_W_endSession_105 ?_
    cases h
    exact r_iret rfl d_W_endSession_107
  · replace h := kr_in_ c h
    refine r_aload_n (i := 1) (x := x1) 1 rfl d_W_endSession_37 ?_
    refine r_iconst (v := (4 : Int32)) (by decide) d_W_endSession_38 ?_
    refine r_iload (i := 8) (x := x8) 8 rfl d_W_endSession_39 ?_
    refine r_imul d_W_endSession_41 ?_
    refine r_iconst (v := (3 : Int32)) (by decide) d_W_endSession_42 ?_
    refine r_iadd d_W_endSession_43 ?_
    have h2 := kr_ob h
    clear h
    obtain ⟨v4, ev4, h⟩ := h2
    refine r_iaload ev4 d_W_endSession_44 ?_
    refine r_iload (i := 6) (x := x6) 6 rfl d_W_endSession_45 ?_
    refine r_iconst (v := (1 : Int32)) (by decide) d_W_endSession_47 ?_
    refine r_iadd d_W_endSession_48 ?_
    refine r_icmp_ne (tgt := 87) d_W_endSession_49 rfl (fun c => ?_) (fun c => ?_)
    · replace h := kr_ip c h
      refine r_aload_n (i := 1) (x := x1) 1 rfl d_W_endSession_52 ?_
      refine r_iconst (v := (4 : Int32)) (by decide) d_W_endSession_53 ?_
      refine r_iload (i := 8) (x := x8) 8 rfl d_W_endSession_54 ?_
      refine r_imul d_W_endSession_56 ?_
      refine r_iconst (v := (3 : Int32)) (by decide) d_W_endSession_57 ?_
      refine r_iadd d_W_endSession_58 ?_
      have h2 := kr_ob h
      clear h
      obtain ⟨i5, ei5, h⟩ := h2
      refine kr_nmI ei5 ?_
      refine r_dup2 rfl (kr_rfcat _) d_W_endSession_59 ?_
      have h2 := kr_ob h
      clear h
      obtain ⟨v6, ev6, h⟩ := h2
      refine r_iaload ev6 d_W_endSession_60 ?_
      refine r_bipush (v := (100 : Int32)) (by decide) d_W_endSession_61 ?_
      refine r_iadd d_W_endSession_63 ?_
      have h2 := kr_ob h
      clear h
      obtain ⟨S7, eS7, h⟩ := h2
      refine r_iastore eS7 d_W_endSession_64 ?_
      refine r_aload_n (i := 0) (x := x0) 0 rfl d_W_endSession_65 ?_
      refine r_iconst (v := (1 : Int32)) (by decide) d_W_endSession_66 ?_
      refine r_iload (i := 8) (x := x8) 8 rfl d_W_endSession_67 ?_
      have h2 := kr_ob h
      clear h
      obtain ⟨S8, eS8, h⟩ := h2
      refine r_callS (M1 := m_W_writes) (As := [va_rf x0, .int (1 : Int32), .int x8]) (s_W_writes eS8) mok_W_writes rfl w1029 w1030 (by decide) (kr_c8 kr_c0) d_W_endSession_69 (kr_k0 ?_) kr_kn
      refine r_aload_n (i := 0) (x := x0) 0 rfl d_W_endSession_72 ?_
      refine r_aload_n (i := 2) (x := x2) 2 rfl d_W_endSession_73 ?_
      refine r_aload_n (i := 3) (x := x3) 3 rfl d_W_endSession_74 ?_
      refine r_aload (i := 4) (x := x4) 4 rfl d_W_endSession_75 ?_
      refine r_aload (i := 5) (x := x5) 5 rfl d_W_endSession_77 ?_
      refine r_iload (i := 8) (x := x8) 8 rfl d_W_endSession_79 ?_
      have h2 := kr_ob h
      clear h
      obtain ⟨S9, eS9, h⟩ := h2
      refine r_callS (M1 := m_W_endFamilies) (As := [va_rf x0, va_rf x2, va_rf x3, va_rf x4, va_rf x5, .int x8]) (s_W_endFamilies eS9) mok_W_endFamilies rfl w1045 w1046 (by decide) (kr_c8 kr_c0) d_W_endSession_81 (kr_k0 ?_) kr_kn
      have h2 := kr_ob h
      clear h
      obtain ⟨i10, ei10, h⟩ := h2
      refine r_iinc (v := i10) (lv' := [(7, .int i10), (0, va_rf x0), (1, va_rf x1), (2, va_rf x2), (3, va_rf x3), (4, va_rf x4), (5, va_rf x5), (6, .int x6), (8, .int x8)]) 7 rfl (kr_inc (by decide) ei10) (by decide) rfl d_W_endSession_84 ?_
      exact kr_sub [1, 2, 3, 4, 5, 6, 7, 0, 8] rfl (s_W_endSession_B87 hk29 h)
    · replace h := kr_in_ c h
      exact kr_sub [0, 1, 2, 3, 4, 5, 6, 7, 8] rfl (s_W_endSession_B87 hk29 h)
theorem s_W_endSession_L29 (n : Nat) : ∀ {S : AS} {x0 : Option Nat} {x1 : Option Nat} {x2 : Option Nat} {x3 : Option Nat} {x4 : Option Nat} {x5 : Option Nat} {x6 : Int32} {x7 : Int32} {x8 : Int32} {r : (Int32 × AS)}, f_W_endSession_L29 n S x0 x1 x2 x3 x4 x5 x6 x7 x8 = some r → kr_AW m_W_endSession 3 29 [(0, va_rf x0), (1, va_rf x1), (2, va_rf x2), (3, va_rf x3), (4, va_rf x4), (5, va_rf x5), (6, .int x6), (7, .int x7), (8, .int x8)] [] S (kr_eI r) := by
  induction n with
  | zero => intro S x0 x1 x2 x3 x4 x5 x6 x7 x8 r h; cases h
  | succ n ih => intro S x0 x1 x2 x3 x4 x5 x6 x7 x8 r h; exact s_W_endSession_C29 (fun {_} {_} {_} {_} {_} {_} {_} {_} {_} {_} {_} h => ih h) h
set_option maxRecDepth 20000 in
set_option maxHeartbeats 4000000 in
theorem s_W_endSession {S : AS} {a0 : Option Nat} {a1 : Option Nat} {a2 : Option Nat} {a3 : Option Nat} {a4 : Option Nat} {a5 : Option Nat} {a6 : Int32} {r : (Int32 × AS)} (h : f_W_endSession S a0 a1 a2 a3 a4 a5 a6 = some r) : kr_Con m_W_endSession 3 [va_rf a0, va_rf a1, va_rf a2, va_rf a3, va_rf a4, va_rf a5, .int a6] S (kr_eI r) := by
  refine kr_con rfl rfl (by decide +kernel) (by simp [lg_sl, kr_rfcat, kr_icat, m_W_endSession, mL]) ?_
  rw [show lv_args 0 [va_rf a0, va_rf a1, va_rf a2, va_rf a3, va_rf a4, va_rf a5, .int a6] = [(0, va_rf a0), (1, va_rf a1), (2, va_rf a2), (3, va_rf a3), (4, va_rf a4), (5, va_rf a5), (6, .int a6)] from by simp [lv_args, kr_rfcat, kr_icat]]
  unfold f_W_endSession at h
  refine r_aload_n (i := 1) (x := a1) 1 rfl d_W_endSession_0 ?_
  refine r_iconst (v := (4 : Int32)) (by decide) d_W_endSession_1 ?_
  refine r_iload (i := 6) (x := a6) 6 rfl d_W_endSession_2 ?_
  refine r_imul d_W_endSession_4 ?_
  refine r_iconst (v := (3 : Int32)) (by decide) d_W_endSession_5 ?_
  refine r_iadd d_W_endSession_6 ?_
  have h2 := kr_ob h
  clear h
  obtain ⟨i11, ei11, h⟩ := h2
  refine kr_nmI ei11 ?_
  refine r_dup2 rfl (kr_rfcat _) d_W_endSession_7 ?_
  have h2 := kr_ob h
  clear h
  obtain ⟨v12, ev12, h⟩ := h2
  refine r_iaload ev12 d_W_endSession_8 ?_
  refine r_bipush (v := (100 : Int32)) (by decide) d_W_endSession_9 ?_
  refine r_iadd d_W_endSession_11 ?_
  have h2 := kr_ob h
  clear h
  obtain ⟨S13, eS13, h⟩ := h2
  refine r_iastore eS13 d_W_endSession_12 ?_
  refine r_aload_n (i := 0) (x := a0) 0 rfl d_W_endSession_13 ?_
  refine r_iconst (v := (1 : Int32)) (by decide) d_W_endSession_14 ?_
  refine r_iload (i := 6) (x := a6) 6 rfl d_W_endSession_15 ?_
  have h2 := kr_ob h
  clear h
  obtain ⟨S14, eS14, h⟩ := h2
  refine r_callS (M1 := m_W_writes) (As := [va_rf a0, .int (1 : Int32), .int a6]) (s_W_writes eS14) mok_W_writes rfl w1029 w1030 (by decide) (kr_c8 kr_c0) d_W_endSession_17 (kr_k0 ?_) kr_kn
  refine r_iconst (v := (1 : Int32)) (by decide) d_W_endSession_20 ?_
  refine r_istore (i := 7) (lv' := [(7, .int (1 : Int32)), (0, va_rf a0), (1, va_rf a1), (2, va_rf a2), (3, va_rf a3), (4, va_rf a4), (5, va_rf a5), (6, .int a6)]) (by decide) rfl d_W_endSession_21 ?_
  refine r_iload (i := 6) (x := a6) 7 rfl d_W_endSession_23 ?_
  refine r_iconst (v := (1 : Int32)) (by decide) d_W_endSession_25 ?_
  refine r_iadd d_W_endSession_26 ?_
  have h2 := kr_ob h
  clear h
  obtain ⟨i15, ei15, h⟩ := h2
  refine kr_nmI ei15 ?_
  refine r_istore (i := 8) (lv' := [(8, .int i15), (7, .int (1 : Int32)), (0, va_rf a0), (1, va_rf a1), (2, va_rf a2), (3, va_rf a3), (4, va_rf a4), (5, va_rf a5), (6, .int a6)]) (by decide) rfl d_W_endSession_27 ?_
  exact kr_sub [2, 3, 4, 5, 6, 7, 8, 1, 0] rfl (s_W_endSession_L29 kr_FU h)
/-! KeyringCourtLaw.passes([I[I[I[I[I[I[II)I -/
def f_W_passes_B156 (k6 : AS → Option Nat → Option Nat → Option Nat → Option Nat → Option Nat → Option Nat → Option Nat → Int32 → Int32 → Int32 → Option (Int32 × AS)) (k81 : AS → Option Nat → Option Nat → Option Nat → Option Nat → Option Nat → Option Nat → Option Nat → Int32 → Int32 → Int32 → Int32 → Option (Int32 × AS)) (S : AS) (x0 : Option Nat) (x1 : Option Nat) (x2 : Option Nat) (x3 : Option Nat) (x4 : Option Nat) (x5 : Option Nat) (x6 : Option Nat) (x7 : Int32) (x9 : Int32) (x10 : Int32) (y0 : Int32) (y1 : Int32) : Option (Int32 × AS) :=
  (some (y0 + y1)).bind fun i1 =>
  (some (x10 + (1 : Int32))).bind fun i2 =>
  k81 S x0 x1 x2 x3 x4 x5 x6 x7 i1 x9 i2
def f_W_passes_B139 (k6 : AS → Option Nat → Option Nat → Option Nat → Option Nat → Option Nat → Option Nat → Option Nat → Int32 → Int32 → Int32 → Option (Int32 × AS)) (k81 : AS → Option Nat → Option Nat → Option Nat → Option Nat → Option Nat → Option Nat → Option Nat → Int32 → Int32 → Int32 → Int32 → Option (Int32 × AS)) (S : AS) (x0 : Option Nat) (x1 : Option Nat) (x2 : Option Nat) (x3 : Option Nat) (x4 : Option Nat) (x5 : Option Nat) (x6 : Option Nat) (x7 : Int32) (x9 : Int32) (x10 : Int32) (y0 : Int32) : Option (Int32 × AS) :=
  kr_b2 (f_W_endSession S x0 x1 x2 x3 x4 x6 x10) fun v4 S3 =>
  f_W_passes_B156 k6 k81 S3 x0 x1 x2 x3 x4 x5 x6 x7 x9 x10 y0 v4
def f_W_passes_B155 (k6 : AS → Option Nat → Option Nat → Option Nat → Option Nat → Option Nat → Option Nat → Option Nat → Int32 → Int32 → Int32 → Option (Int32 × AS)) (k81 : AS → Option Nat → Option Nat → Option Nat → Option Nat → Option Nat → Option Nat → Option Nat → Int32 → Int32 → Int32 → Int32 → Option (Int32 × AS)) (S : AS) (x0 : Option Nat) (x1 : Option Nat) (x2 : Option Nat) (x3 : Option Nat) (x4 : Option Nat) (x5 : Option Nat) (x6 : Option Nat) (x7 : Int32) (x9 : Int32) (x10 : Int32) (y0 : Int32) : Option (Int32 × AS) :=
  f_W_passes_B156 k6 k81 S x0 x1 x2 x3 x4 x5 x6 x7 x9 x10 y0 (0 : Int32)
def f_W_passes_C81 (k6 : AS → Option Nat → Option Nat → Option Nat → Option Nat → Option Nat → Option Nat → Option Nat → Int32 → Int32 → Int32 → Option (Int32 × AS)) (k81 : AS → Option Nat → Option Nat → Option Nat → Option Nat → Option Nat → Option Nat → Option Nat → Int32 → Int32 → Int32 → Int32 → Option (Int32 × AS)) (S : AS) (x0 : Option Nat) (x1 : Option Nat) (x2 : Option Nat) (x3 : Option Nat) (x4 : Option Nat) (x5 : Option Nat) (x6 : Option Nat) (x7 : Int32) (x8 : Int32) (x9 : Int32) (x10 : Int32) : Option (Int32 × AS) :=
  (aI S 40 x0 (1 : Int32)).bind fun v5 =>
  if v5 ≤ x10 then
  (some (x9 + (1 : Int32))).bind fun i6 =>
  k6 S x0 x1 x2 x3 x4 x5 x6 x7 x8 i6
  else
  (aI S 40 x1 (((4 : Int32) * x10) + (3 : Int32))).bind fun v7 =>
  if (100 : Int32) ≤ v7 then
  f_W_passes_B155 k6 k81 S x0 x1 x2 x3 x4 x5 x6 x7 x9 x10 x8
  else
  (aI S 40 x0 (0 : Int32)).bind fun v8 =>
  (aI S 40 x1 (((4 : Int32) * x10) + (2 : Int32))).bind fun v9 =>
  if (v9 + (30 : Int32)) < v8 then
  f_W_passes_B139 k6 k81 S x0 x1 x2 x3 x4 x5 x6 x7 x9 x10 x8
  else
  (aI S 40 x0 (0 : Int32)).bind fun v10 =>
  (aI S 40 x1 (((4 : Int32) * x10) + (1 : Int32))).bind fun v11 =>
  if v10 ≤ (v11 + (480 : Int32)) then
  f_W_passes_B155 k6 k81 S x0 x1 x2 x3 x4 x5 x6 x7 x9 x10 x8
  else
  f_W_passes_B139 k6 k81 S x0 x1 x2 x3 x4 x5 x6 x7 x9 x10 x8
def f_W_passes_L81 (k6 : AS → Option Nat → Option Nat → Option Nat → Option Nat → Option Nat → Option Nat → Option Nat → Int32 → Int32 → Int32 → Option (Int32 × AS)) : Nat → AS → Option Nat → Option Nat → Option Nat → Option Nat → Option Nat → Option Nat → Option Nat → Int32 → Int32 → Int32 → Int32 → Option (Int32 × AS)
  | 0, S, x0, x1, x2, x3, x4, x5, x6, x7, x8, x9, x10 => none
  | n + 1, S, x0, x1, x2, x3, x4, x5, x6, x7, x8, x9, x10 => f_W_passes_C81 k6 (f_W_passes_L81 k6 n) S x0 x1 x2 x3 x4 x5 x6 x7 x8 x9 x10
def f_W_passes_B78 (k6 : AS → Option Nat → Option Nat → Option Nat → Option Nat → Option Nat → Option Nat → Option Nat → Int32 → Int32 → Int32 → Option (Int32 × AS)) (S : AS) (x0 : Option Nat) (x1 : Option Nat) (x2 : Option Nat) (x3 : Option Nat) (x4 : Option Nat) (x5 : Option Nat) (x6 : Option Nat) (x7 : Int32) (x8 : Int32) (x9 : Int32) : Option (Int32 × AS) :=
  f_W_passes_L81 k6 kr_FU S x0 x1 x2 x3 x4 x5 x6 x7 x8 x9 (0 : Int32)
def f_W_passes_C6 (k6 : AS → Option Nat → Option Nat → Option Nat → Option Nat → Option Nat → Option Nat → Option Nat → Int32 → Int32 → Int32 → Option (Int32 × AS)) (S : AS) (x0 : Option Nat) (x1 : Option Nat) (x2 : Option Nat) (x3 : Option Nat) (x4 : Option Nat) (x5 : Option Nat) (x6 : Option Nat) (x7 : Int32) (x8 : Int32) (x9 : Int32) : Option (Int32 × AS) :=
  if x7 ≤ x9 then
  some (x8, S)
  else
  (aI S 40 x0 (0 : Int32)).bind fun v12 =>
  (bI S x0 (0 : Int32) (v12 + (1 : Int32))).bind fun S13 =>
  (aI S13 40 x0 (7 : Int32)).bind fun v14 =>
  if v14 ≤ 0 then
  f_W_passes_B78 k6 S13 x0 x1 x2 x3 x4 x5 x6 x7 x8 x9
  else
  (aI S13 40 x0 (8 : Int32)).bind fun v15 =>
  (aI S13 40 x0 (0 : Int32)).bind fun v16 =>
  if v15 = v16 then
  (aI S13 40 x0 (6 : Int32)).bind fun v17 =>
  (aI S13 40 x0 (0 : Int32)).bind fun v18 =>
  (bI S13 x5 (((2 : Int32) * v17) + (1 : Int32)) (v18 + (20 : Int32))).bind fun S19 =>
  (aI S19 40 x0 (7 : Int32)).bind fun v20 =>
  (bI S19 x0 (6 : Int32) (v20 - (1 : Int32))).bind fun S21 =>
  (bI S21 x0 (7 : Int32) (0 : Int32)).bind fun S22 =>
  (aI S22 40 x0 (6 : Int32)).bind fun v23 =>
  (f_W_writes S22 x0 (5 : Int32) v23).bind fun S24 =>
  f_W_passes_B78 k6 S24 x0 x1 x2 x3 x4 x5 x6 x7 x8 x9
  else
  f_W_passes_B78 k6 S13 x0 x1 x2 x3 x4 x5 x6 x7 x8 x9
def f_W_passes_L6 : Nat → AS → Option Nat → Option Nat → Option Nat → Option Nat → Option Nat → Option Nat → Option Nat → Int32 → Int32 → Int32 → Option (Int32 × AS)
  | 0, S, x0, x1, x2, x3, x4, x5, x6, x7, x8, x9 => none
  | n + 1, S, x0, x1, x2, x3, x4, x5, x6, x7, x8, x9 => f_W_passes_C6 (f_W_passes_L6 n) S x0 x1 x2 x3 x4 x5 x6 x7 x8 x9
def f_W_passes (S : AS) (a0 : Option Nat) (a1 : Option Nat) (a2 : Option Nat) (a3 : Option Nat) (a4 : Option Nat) (a5 : Option Nat) (a6 : Option Nat) (a7 : Int32) : Option (Int32 × AS) :=
  f_W_passes_L6 kr_FU S a0 a1 a2 a3 a4 a5 a6 a7 (0 : Int32) (0 : Int32)
set_option maxRecDepth 20000 in
set_option maxHeartbeats 4000000 in
theorem s_W_passes_B156 {k6 : AS → Option Nat → Option Nat → Option Nat → Option Nat → Option Nat → Option Nat → Option Nat → Int32 → Int32 → Int32 → Option (Int32 × AS)} (hk6 : ∀ {S : AS} {x0 : Option Nat} {x1 : Option Nat} {x2 : Option Nat} {x3 : Option Nat} {x4 : Option Nat} {x5 : Option Nat} {x6 : Option Nat} {x7 : Int32} {x8 : Int32} {x9 : Int32} {r : (Int32 × AS)}, k6 S x0 x1 x2 x3 x4 x5 x6 x7 x8 x9 = some r → kr_AW m_W_passes 4 6 [(0, va_rf x0), (1, va_rf x1), (2, va_rf x2), (3, va_rf x3), (4, va_rf x4), (5, va_rf x5), (6, va_rf x6), (7, .int x7), (8, .int x8), (9, .int x9)] [] S (kr_eI r)) {k81 : AS → Option Nat → Option Nat → Option Nat → Option Nat → Option Nat → Option Nat → Option Nat → Int32 → Int32 → Int32 → Int32 → Option (Int32 × AS)} (hk81 : ∀ {S : AS} {x0 : Option Nat} {x1 : Option Nat} {x2 : Option Nat} {x3 : Option Nat} {x4 : Option Nat} {x5 : Option Nat} {x6 : Option Nat} {x7 : Int32} {x8 : Int32} {x9 : Int32} {x10 : Int32} {r : (Int32 × AS)}, k81 S x0 x1 x2 x3 x4 x5 x6 x7 x8 x9 x10 = some r → kr_AW m_W_passes 4 81 [(0, va_rf x0), (1, va_rf x1), (2, va_rf x2), (3, va_rf x3), (4, va_rf x4), (5, va_rf x5), (6, va_rf x6), (7, .int x7), (8, .int x8), (9, .int x9), (10, .int x10)] [] S (kr_eI r)) {S : AS} {x0 : Option Nat} {x1 : Option Nat} {x2 : Option Nat} {x3 : Option Nat} {x4 : Option Nat} {x5 : Option Nat} {x6 : Option Nat} {x7 : Int32} {x9 : Int32} {x10 : Int32} {y0 : Int32} {y1 : Int32} {r : (Int32 × AS)} (h : f_W_passes_B156 k6 k81 S x0 x1 x2 x3 x4 x5 x6 x7 x9 x10 y0 y1 = some r) : kr_AW m_W_passes 4 156 [(0, va_rf x0), (1, va_rf x1), (2, va_rf x2), (3, va_rf x3), (4, va_rf x4), (5, va_rf x5), (6, va_rf x6), (7, .int x7), (9, .int x9), (10, .int x10)] [.int y1, .int y0] S (kr_eI r) := by
  unfold f_W_passes_B156 at h
  refine r_iadd d_W_passes_156 ?_
  have h2 := kr_ob h
  clear h
  obtain ⟨i1, ei1, h⟩ := h2
  refine kr_nmI ei1 ?_
  refine r_istore (i := 8) (lv' := [(8, .int i1), (0, va_rf x0), (1, va_rf x1), (2, va_rf x2), (3, va_rf x3), (4, va_rf x4), (5, va_rf x5), (6, va_rf x6), (7, .int x7), (9, .int x9), (10, .int x10)]) (by decide) rfl d_W_passes_157 ?_
  have h2 := kr_ob h
  clear h
  obtain ⟨i2, ei2, h⟩ := h2
  refine r_iinc (v := i2) (lv' := [(10, .int i2), (8, .int i1), (0, va_rf x0), (1, va_rf x1), (2, va_rf x2), (3, va_rf x3), (4, va_rf x4), (5, va_rf x5), (6, va_rf x6), (7, .int x7), (9, .int x9)]) 10 rfl (kr_inc (by decide) ei2) (by decide) rfl d_W_passes_159 ?_
  refine r_goto (tgt := 81) d_W_passes_162 rfl ?_
  exact kr_sub [2, 3, 4, 5, 6, 7, 8, 9, 1, 10, 0] rfl (hk81 h)
set_option maxRecDepth 20000 in
set_option maxHeartbeats 4000000 in
theorem s_W_passes_B139 {k6 : AS → Option Nat → Option Nat → Option Nat → Option Nat → Option Nat → Option Nat → Option Nat → Int32 → Int32 → Int32 → Option (Int32 × AS)} (hk6 : ∀ {S : AS} {x0 : Option Nat} {x1 : Option Nat} {x2 : Option Nat} {x3 : Option Nat} {x4 : Option Nat} {x5 : Option Nat} {x6 : Option Nat} {x7 : Int32} {x8 : Int32} {x9 : Int32} {r : (Int32 × AS)}, k6 S x0 x1 x2 x3 x4 x5 x6 x7 x8 x9 = some r → kr_AW m_W_passes 4 6 [(0, va_rf x0), (1, va_rf x1), (2, va_rf x2), (3, va_rf x3), (4, va_rf x4), (5, va_rf x5), (6, va_rf x6), (7, .int x7), (8, .int x8), (9, .int x9)] [] S (kr_eI r)) {k81 : AS → Option Nat → Option Nat → Option Nat → Option Nat → Option Nat → Option Nat → Option Nat → Int32 → Int32 → Int32 → Int32 → Option (Int32 × AS)} (hk81 : ∀ {S : AS} {x0 : Option Nat} {x1 : Option Nat} {x2 : Option Nat} {x3 : Option Nat} {x4 : Option Nat} {x5 : Option Nat} {x6 : Option Nat} {x7 : Int32} {x8 : Int32} {x9 : Int32} {x10 : Int32} {r : (Int32 × AS)}, k81 S x0 x1 x2 x3 x4 x5 x6 x7 x8 x9 x10 = some r → kr_AW m_W_passes 4 81 [(0, va_rf x0), (1, va_rf x1), (2, va_rf x2), (3, va_rf x3), (4, va_rf x4), (5, va_rf x5), (6, va_rf x6), (7, .int x7), (8, .int x8), (9, .int x9), (10, .int x10)] [] S (kr_eI r)) {S : AS} {x0 : Option Nat} {x1 : Option Nat} {x2 : Option Nat} {x3 : Option Nat} {x4 : Option Nat} {x5 : Option Nat} {x6 : Option Nat} {x7 : Int32} {x9 : Int32} {x10 : Int32} {y0 : Int32} {r : (Int32 × AS)} (h : f_W_passes_B139 k6 k81 S x0 x1 x2 x3 x4 x5 x6 x7 x9 x10 y0 = some r) : kr_AW m_W_passes 4 139 [(0, va_rf x0), (1, va_rf x1), (2, va_rf x2), (3, va_rf x3), (4, va_rf x4), (5, va_rf x5), (6, va_rf x6), (7, .int x7), (9, .int x9), (10, .int x10)] [.int y0] S (kr_eI r) := by
  unfold f_W_passes_B139 at h
  refine r_aload_n (i := 0) (x := x0) 0 rfl d_W_passes_139 ?_
  refine r_aload_n (i := 1) (x := x1) 1 rfl d_W_passes_140 ?_
  refine r_aload_n (i := 2) (x := x2) 2 rfl d_W_passes_141 ?_
  refine r_aload_n (i := 3) (x := x3) 3 rfl d_W_passes_142 ?_
  refine r_aload (i := 4) (x := x4) 4 rfl d_W_passes_143 ?_
  refine r_aload (i := 6) (x := x6) 6 rfl d_W_passes_145 ?_
  refine r_iload (i := 10) (x := x10) 9 rfl d_W_passes_147 ?_
  have h2 := kr_ob2 h
  clear h
  obtain ⟨v4, S3, eS3, h⟩ := h2
  refine r_callS (M1 := m_W_endSession) (As := [va_rf x0, va_rf x1, va_rf x2, va_rf x3, va_rf x4, va_rf x6, .int x10]) (s_W_endSession eS3) mok_W_endSession rfl w1042 w1043 (by decide) (kr_c8 (kr_cI kr_c0)) d_W_passes_149 (kr_k1 ?_) kr_kn
  refine r_goto (tgt := 156) d_W_passes_152 rfl ?_
  exact kr_sub [0, 1, 2, 3, 4, 5, 6, 7, 8, 9] rfl (s_W_passes_B156 hk6 hk81 h)
set_option maxRecDepth 20000 in
set_option maxHeartbeats 4000000 in
theorem s_W_passes_B155 {k6 : AS → Option Nat → Option Nat → Option Nat → Option Nat → Option Nat → Option Nat → Option Nat → Int32 → Int32 → Int32 → Option (Int32 × AS)} (hk6 : ∀ {S : AS} {x0 : Option Nat} {x1 : Option Nat} {x2 : Option Nat} {x3 : Option Nat} {x4 : Option Nat} {x5 : Option Nat} {x6 : Option Nat} {x7 : Int32} {x8 : Int32} {x9 : Int32} {r : (Int32 × AS)}, k6 S x0 x1 x2 x3 x4 x5 x6 x7 x8 x9 = some r → kr_AW m_W_passes 4 6 [(0, va_rf x0), (1, va_rf x1), (2, va_rf x2), (3, va_rf x3), (4, va_rf x4), (5, va_rf x5), (6, va_rf x6), (7, .int x7), (8, .int x8), (9, .int x9)] [] S (kr_eI r)) {k81 : AS → Option Nat → Option Nat → Option Nat → Option Nat → Option Nat → Option Nat → Option Nat → Int32 → Int32 → Int32 → Int32 → Option (Int32 × AS)} (hk81 : ∀ {S : AS} {x0 : Option Nat} {x1 : Option Nat} {x2 : Option Nat} {x3 : Option Nat} {x4 : Option Nat} {x5 : Option Nat} {x6 : Option Nat} {x7 : Int32} {x8 : Int32} {x9 : Int32} {x10 : Int32} {r : (Int32 × AS)}, k81 S x0 x1 x2 x3 x4 x5 x6 x7 x8 x9 x10 = some r → kr_AW m_W_passes 4 81 [(0, va_rf x0), (1, va_rf x1), (2, va_rf x2), (3, va_rf x3), (4, va_rf x4), (5, va_rf x5), (6, va_rf x6), (7, .int x7), (8, .int x8), (9, .int x9), (10, .int x10)] [] S (kr_eI r)) {S : AS} {x0 : Option Nat} {x1 : Option Nat} {x2 : Option Nat} {x3 : Option Nat} {x4 : Option Nat} {x5 : Option Nat} {x6 : Option Nat} {x7 : Int32} {x9 : Int32} {x10 : Int32} {y0 : Int32} {r : (Int32 × AS)} (h : f_W_passes_B155 k6 k81 S x0 x1 x2 x3 x4 x5 x6 x7 x9 x10 y0 = some r) : kr_AW m_W_passes 4 155 [(0, va_rf x0), (1, va_rf x1), (2, va_rf x2), (3, va_rf x3), (4, va_rf x4), (5, va_rf x5), (6, va_rf x6), (7, .int x7), (9, .int x9), (10, .int x10)] [.int y0] S (kr_eI r) := by
  unfold f_W_passes_B155 at h
  refine r_iconst (v := (0 : Int32)) (by decide) d_W_passes_155 ?_
  exact kr_sub [0, 1, 2, 3, 4, 5, 6, 7, 8, 9] rfl (s_W_passes_B156 hk6 hk81 h)
set_option maxRecDepth 20000 in
set_option maxHeartbeats 4000000 in
theorem s_W_passes_C81 {k6 : AS → Option Nat → Option Nat → Option Nat → Option Nat → Option Nat → Option Nat → Option Nat → Int32 → Int32 → Int32 → Option (Int32 × AS)} (hk6 : ∀ {S : AS} {x0 : Option Nat} {x1 : Option Nat} {x2 : Option Nat} {x3 : Option Nat} {x4 : Option Nat} {x5 : Option Nat} {x6 : Option Nat} {x7 : Int32} {x8 : Int32} {x9 : Int32} {r : (Int32 × AS)}, k6 S x0 x1 x2 x3 x4 x5 x6 x7 x8 x9 = some r → kr_AW m_W_passes 4 6 [(0, va_rf x0), (1, va_rf x1), (2, va_rf x2), (3, va_rf x3), (4, va_rf x4), (5, va_rf x5), (6, va_rf x6), (7, .int x7), (8, .int x8), (9, .int x9)] [] S (kr_eI r)) {k81 : AS → Option Nat → Option Nat → Option Nat → Option Nat → Option Nat → Option Nat → Option Nat → Int32 → Int32 → Int32 → Int32 → Option (Int32 × AS)} (hk81 : ∀ {S : AS} {x0 : Option Nat} {x1 : Option Nat} {x2 : Option Nat} {x3 : Option Nat} {x4 : Option Nat} {x5 : Option Nat} {x6 : Option Nat} {x7 : Int32} {x8 : Int32} {x9 : Int32} {x10 : Int32} {r : (Int32 × AS)}, k81 S x0 x1 x2 x3 x4 x5 x6 x7 x8 x9 x10 = some r → kr_AW m_W_passes 4 81 [(0, va_rf x0), (1, va_rf x1), (2, va_rf x2), (3, va_rf x3), (4, va_rf x4), (5, va_rf x5), (6, va_rf x6), (7, .int x7), (8, .int x8), (9, .int x9), (10, .int x10)] [] S (kr_eI r)) {S : AS} {x0 : Option Nat} {x1 : Option Nat} {x2 : Option Nat} {x3 : Option Nat} {x4 : Option Nat} {x5 : Option Nat} {x6 : Option Nat} {x7 : Int32} {x8 : Int32} {x9 : Int32} {x10 : Int32} {r : (Int32 × AS)} (h : f_W_passes_C81 k6 k81 S x0 x1 x2 x3 x4 x5 x6 x7 x8 x9 x10 = some r) : kr_AW m_W_passes 4 81 [(0, va_rf x0), (1, va_rf x1), (2, va_rf x2), (3, va_rf x3), (4, va_rf x4), (5, va_rf x5), (6, va_rf x6), (7, .int x7), (8, .int x8), (9, .int x9), (10, .int x10)] [] S (kr_eI r) := by
  unfold f_W_passes_C81 at h
  refine r_iload (i := 10) (x := x10) 10 rfl d_W_passes_81 ?_
  refine r_aload_n (i := 0) (x := x0) 0 rfl d_W_passes_83 ?_
  refine r_iconst (v := (1 : Int32)) (by decide) d_W_passes_84 ?_
  have h2 := kr_ob h
  clear h
  obtain ⟨v5, ev5, h⟩ := h2
  refine r_iaload ev5 d_W_passes_85 ?_
  refine r_icmp_ge (tgt := 165) d_W_passes_86 rfl (fun c => ?_) (fun c => ?_)
  · replace h := kr_ip c h
    have h2 := kr_ob h
    clear h
    obtain ⟨i6, ei6, h⟩ := h2
    refine r_iinc (v := i6) (lv' := [(9, .int i6), (0, va_rf x0), (1, va_rf x1), (2, va_rf x2), (3, va_rf x3), (4, va_rf x4), (5, va_rf x5), (6, va_rf x6), (7, .int x7), (8, .int x8), (10, .int x10)]) 9 rfl (kr_inc (by decide) ei6) (by decide) rfl d_W_passes_165 ?_
    refine r_goto (tgt := 6) d_W_passes_168 rfl ?_
    exact kr_sub [1, 2, 3, 4, 5, 6, 7, 8, 9, 0] rfl (hk6 h)
  · replace h := kr_in_ c h
    refine r_iload (i := 8) (x := x8) 8 rfl d_W_passes_89 ?_
    refine r_aload_n (i := 1) (x := x1) 1 rfl d_W_passes_91 ?_
    refine r_iconst (v := (4 : Int32)) (by decide) d_W_passes_92 ?_
    refine r_iload (i := 10) (x := x10) 10 rfl d_W_passes_93 ?_
    refine r_imul d_W_passes_95 ?_
    refine r_iconst (v := (3 : Int32)) (by decide) d_W_passes_96 ?_
    refine r_iadd d_W_passes_97 ?_
    have h2 := kr_ob h
    clear h
    obtain ⟨v7, ev7, h⟩ := h2
    refine r_iaload ev7 d_W_passes_98 ?_
    refine r_bipush (v := (100 : Int32)) (by decide) d_W_passes_99 ?_
    refine r_icmp_ge (tgt := 155) d_W_passes_101 rfl (fun c => ?_) (fun c => ?_)
    · replace h := kr_ip c h
      exact kr_sub [0, 1, 2, 3, 4, 5, 6, 7, 9, 10] rfl (s_W_passes_B155 hk6 hk81 h)
    · replace h := kr_in_ c h
      refine r_aload_n (i := 0) (x := x0) 0 rfl d_W_passes_104 ?_
      refine r_iconst (v := (0 : Int32)) (by decide) d_W_passes_105 ?_
      have h2 := kr_ob h
      clear h
      obtain ⟨v8, ev8, h⟩ := h2
      refine r_iaload ev8 d_W_passes_106 ?_
      refine r_aload_n (i := 1) (x := x1) 1 rfl d_W_passes_107 ?_
      refine r_iconst (v := (4 : Int32)) (by decide) d_W_passes_108 ?_
      refine r_iload (i := 10) (x := x10) 10 rfl d_W_passes_109 ?_
      refine r_imul d_W_passes_111 ?_
      refine r_iconst (v := (2 : Int32)) (by decide) d_W_passes_112 ?_
      refine r_iadd d_W_passes_113 ?_
      have h2 := kr_ob h
      clear h
      obtain ⟨v9, ev9, h⟩ := h2
      refine r_iaload ev9 d_W_passes_114 ?_
      refine r_bipush (v := (30 : Int32)) (by decide) d_W_passes_115 ?_
      refine r_iadd d_W_passes_117 ?_
      refine r_icmp_gt (tgt := 139) d_W_passes_118 rfl (fun c => ?_) (fun c => ?_)
      · replace h := kr_ip c h
        exact kr_sub [0, 1, 2, 3, 4, 5, 6, 7, 9, 10] rfl (s_W_passes_B139 hk6 hk81 h)
      · replace h := kr_in_ c h
        refine r_aload_n (i := 0) (x := x0) 0 rfl d_W_passes_121 ?_
        refine r_iconst (v := (0 : Int32)) (by decide) d_W_passes_122 ?_
        have h2 := kr_ob h
        clear h
        obtain ⟨v10, ev10, h⟩ := h2
        refine r_iaload ev10 d_W_passes_123 ?_
        refine r_aload_n (i := 1) (x := x1) 1 rfl d_W_passes_124 ?_
        refine r_iconst (v := (4 : Int32)) (by decide) d_W_passes_125 ?_
        refine r_iload (i := 10) (x := x10) 10 rfl d_W_passes_126 ?_
        refine r_imul d_W_passes_128 ?_
        refine r_iconst (v := (1 : Int32)) (by decide) d_W_passes_129 ?_
        refine r_iadd d_W_passes_130 ?_
        have h2 := kr_ob h
        clear h
        obtain ⟨v11, ev11, h⟩ := h2
        refine r_iaload ev11 d_W_passes_131 ?_
        refine r_sipush (v := (480 : Int32)) (by decide) d_W_passes_132 ?_
        refine r_iadd d_W_passes_135 ?_
        refine r_icmp_le (tgt := 155) d_W_passes_136 rfl (fun c => ?_) (fun c => ?_)
        · replace h := kr_ip c h
          exact kr_sub [0, 1, 2, 3, 4, 5, 6, 7, 9, 10] rfl (s_W_passes_B155 hk6 hk81 h)
        · replace h := kr_in_ c h
          exact kr_sub [0, 1, 2, 3, 4, 5, 6, 7, 9, 10] rfl (s_W_passes_B139 hk6 hk81 h)
theorem s_W_passes_L81 {k6 : AS → Option Nat → Option Nat → Option Nat → Option Nat → Option Nat → Option Nat → Option Nat → Int32 → Int32 → Int32 → Option (Int32 × AS)} (hk6 : ∀ {S : AS} {x0 : Option Nat} {x1 : Option Nat} {x2 : Option Nat} {x3 : Option Nat} {x4 : Option Nat} {x5 : Option Nat} {x6 : Option Nat} {x7 : Int32} {x8 : Int32} {x9 : Int32} {r : (Int32 × AS)}, k6 S x0 x1 x2 x3 x4 x5 x6 x7 x8 x9 = some r → kr_AW m_W_passes 4 6 [(0, va_rf x0), (1, va_rf x1), (2, va_rf x2), (3, va_rf x3), (4, va_rf x4), (5, va_rf x5), (6, va_rf x6), (7, .int x7), (8, .int x8), (9, .int x9)] [] S (kr_eI r)) (n : Nat) : ∀ {S : AS} {x0 : Option Nat} {x1 : Option Nat} {x2 : Option Nat} {x3 : Option Nat} {x4 : Option Nat} {x5 : Option Nat} {x6 : Option Nat} {x7 : Int32} {x8 : Int32} {x9 : Int32} {x10 : Int32} {r : (Int32 × AS)}, f_W_passes_L81 k6 n S x0 x1 x2 x3 x4 x5 x6 x7 x8 x9 x10 = some r → kr_AW m_W_passes 4 81 [(0, va_rf x0), (1, va_rf x1), (2, va_rf x2), (3, va_rf x3), (4, va_rf x4), (5, va_rf x5), (6, va_rf x6), (7, .int x7), (8, .int x8), (9, .int x9), (10, .int x10)] [] S (kr_eI r) := by
  induction n with
  | zero => intro S x0 x1 x2 x3 x4 x5 x6 x7 x8 x9 x10 r h; cases h
  | succ n ih => intro S x0 x1 x2 x3 x4 x5 x6 x7 x8 x9 x10 r h; exact s_W_passes_C81 hk6 (fun {_} {_} {_} {_} {_} {_} {_} {_} {_} {_} {_} {_} {_} h => ih h) h
set_option maxRecDepth 20000 in
set_option maxHeartbeats 4000000 in
theorem s_W_passes_B78 {k6 : AS → Option Nat → Option Nat → Option Nat → Option Nat → Option Nat → Option Nat → Option Nat → Int32 → Int32 → Int32 → Option (Int32 × AS)} (hk6 : ∀ {S : AS} {x0 : Option Nat} {x1 : Option Nat} {x2 : Option Nat} {x3 : Option Nat} {x4 : Option Nat} {x5 : Option Nat} {x6 : Option Nat} {x7 : Int32} {x8 : Int32} {x9 : Int32} {r : (Int32 × AS)}, k6 S x0 x1 x2 x3 x4 x5 x6 x7 x8 x9 = some r → kr_AW m_W_passes 4 6 [(0, va_rf x0), (1, va_rf x1), (2, va_rf x2), (3, va_rf x3), (4, va_rf x4), (5, va_rf x5), (6, va_rf x6), (7, .int x7), (8, .int x8), (9, .int x9)] [] S (kr_eI r)) {S : AS} {x0 : Option Nat} {x1 : Option Nat} {x2 : Option Nat} {x3 : Option Nat} {x4 : Option Nat} {x5 : Option Nat} {x6 : Option Nat} {x7 : Int32} {x8 : Int32} {x9 : Int32} {r : (Int32 × AS)} (h : f_W_passes_B78 k6 S x0 x1 x2 x3 x4 x5 x6 x7 x8 x9 = some r) : kr_AW m_W_passes 4 78 [(0, va_rf x0), (1, va_rf x1), (2, va_rf x2), (3, va_rf x3), (4, va_rf x4), (5, va_rf x5), (6, va_rf x6), (7, .int x7), (8, .int x8), (9, .int x9)] [] S (kr_eI r) := by
  unfold f_W_passes_B78 at h
  refine r_iconst (v := (0 : Int32)) (by decide) d_W_passes_78 ?_
  refine r_istore (i := 10) (lv' := [(10, .int (0 : Int32)), (0, va_rf x0), (1, va_rf x1), (2, va_rf x2), (3, va_rf x3), (4, va_rf x4), (5, va_rf x5), (6, va_rf x6), (7, .int x7), (8, .int x8), (9, .int x9)]) (by decide) rfl d_W_passes_79 ?_
  exact kr_sub [1, 2, 3, 4, 5, 6, 7, 8, 9, 10, 0] rfl (s_W_passes_L81 hk6 kr_FU h)
set_option maxRecDepth 20000 in
set_option maxHeartbeats 4000000 in
theorem s_W_passes_C6 {k6 : AS → Option Nat → Option Nat → Option Nat → Option Nat → Option Nat → Option Nat → Option Nat → Int32 → Int32 → Int32 → Option (Int32 × AS)} (hk6 : ∀ {S : AS} {x0 : Option Nat} {x1 : Option Nat} {x2 : Option Nat} {x3 : Option Nat} {x4 : Option Nat} {x5 : Option Nat} {x6 : Option Nat} {x7 : Int32} {x8 : Int32} {x9 : Int32} {r : (Int32 × AS)}, k6 S x0 x1 x2 x3 x4 x5 x6 x7 x8 x9 = some r → kr_AW m_W_passes 4 6 [(0, va_rf x0), (1, va_rf x1), (2, va_rf x2), (3, va_rf x3), (4, va_rf x4), (5, va_rf x5), (6, va_rf x6), (7, .int x7), (8, .int x8), (9, .int x9)] [] S (kr_eI r)) {S : AS} {x0 : Option Nat} {x1 : Option Nat} {x2 : Option Nat} {x3 : Option Nat} {x4 : Option Nat} {x5 : Option Nat} {x6 : Option Nat} {x7 : Int32} {x8 : Int32} {x9 : Int32} {r : (Int32 × AS)} (h : f_W_passes_C6 k6 S x0 x1 x2 x3 x4 x5 x6 x7 x8 x9 = some r) : kr_AW m_W_passes 4 6 [(0, va_rf x0), (1, va_rf x1), (2, va_rf x2), (3, va_rf x3), (4, va_rf x4), (5, va_rf x5), (6, va_rf x6), (7, .int x7), (8, .int x8), (9, .int x9)] [] S (kr_eI r) := by
  unfold f_W_passes_C6 at h
  refine r_iload (i := 9) (x := x9) 9 rfl d_W_passes_6 ?_
  refine r_iload (i := 7) (x := x7) 7 rfl d_W_passes_8 ?_
  refine r_icmp_ge (tgt := 171) d_W_passes_10 rfl (fun c => ?_) (fun c => ?_)
  · replace h := kr_ip c h
    refine r_iload (i := 8) (x := x8) 8 rfl d_W_passes_171 ?_
    cases h
    exact r_iret rfl d_W_passes_173
  · replace h := kr_in_ c h
    refine r_aload_n (i := 0) (x := x0) 0 rfl d_W_passes_13 ?_
    refine r_iconst (v := (0 : Int32)) (by decide) d_W_passes_14 ?_
    refine r_dup2 rfl (kr_rfcat _) d_W_passes_15 ?_
    have h2 := kr_ob h
    clear h
    obtain ⟨v12, ev12, h⟩ := h2
    refine r_iaload ev12 d_W_passes_16 ?_
    refine r_iconst (v := (1 : Int32)) (by decide) d_W_passes_17 ?_
    refine r_iadd d_W_passes_18 ?_
    have h2 := kr_ob h
    clear h
    obtain ⟨S13, eS13, h⟩ := h2
    refine r_iastore eS13 d_W_passes_19 ?_
    refine r_aload_n (i := 0) (x := x0) 0 rfl d_W_passes_20 ?_
    refine r_bipush (v := (7 : Int32)) (by decide) d_W_passes_21 ?_
    have h2 := kr_ob h
    clear h
    obtain ⟨v14, ev14, h⟩ := h2
    refine r_iaload ev14 d_W_passes_23 ?_
    refine r_if_le (tgt := 78) d_W_passes_24 rfl (fun c => ?_) (fun c => ?_)
    · replace h := kr_ip c h
      exact kr_sub [0, 1, 2, 3, 4, 5, 6, 7, 8, 9] rfl (s_W_passes_B78 hk6 h)
    · replace h := kr_in_ c h
      refine r_aload_n (i := 0) (x := x0) 0 rfl d_W_passes_27 ?_
      refine r_bipush (v := (8 : Int32)) (by decide) d_W_passes_28 ?_
      have h2 := kr_ob h
      clear h
      obtain ⟨v15, ev15, h⟩ := h2
      refine r_iaload ev15 d_W_passes_30 ?_
      refine r_aload_n (i := 0) (x := x0) 0 rfl d_W_passes_31 ?_
      refine r_iconst (v := (0 : Int32)) (by decide) d_W_passes_32 ?_
      have h2 := kr_ob h
      clear h
      obtain ⟨v16, ev16, h⟩ := h2
      refine r_iaload ev16 d_W_passes_33 ?_
      refine r_icmp_ne (tgt := 78) d_W_passes_34 rfl (fun c => ?_) (fun c => ?_)
      · replace h := kr_ip c h
        refine r_aload (i := 5) (x := x5) 5 rfl d_W_passes_37 ?_
        refine r_iconst (v := (2 : Int32)) (by decide) d_W_passes_39 ?_
        refine r_aload_n (i := 0) (x := x0) 0 rfl d_W_passes_40 ?_
        refine r_bipush (v := (6 : Int32)) (by decide) d_W_passes_41 ?_
        have h2 := kr_ob h
        clear h
        obtain ⟨v17, ev17, h⟩ := h2
        refine r_iaload ev17 d_W_passes_43 ?_
        refine r_imul d_W_passes_44 ?_
        refine r_iconst (v := (1 : Int32)) (by decide) d_W_passes_45 ?_
        refine r_iadd d_W_passes_46 ?_
        refine r_aload_n (i := 0) (x := x0) 0 rfl d_W_passes_47 ?_
        refine r_iconst (v := (0 : Int32)) (by decide) d_W_passes_48 ?_
        have h2 := kr_ob h
        clear h
        obtain ⟨v18, ev18, h⟩ := h2
        refine r_iaload ev18 d_W_passes_49 ?_
        refine r_bipush (v := (20 : Int32)) (by decide) d_W_passes_50 ?_
        refine r_iadd d_W_passes_52 ?_
        have h2 := kr_ob h
        clear h
        obtain ⟨S19, eS19, h⟩ := h2
        refine r_iastore eS19 d_W_passes_53 ?_
        refine r_aload_n (i := 0) (x := x0) 0 rfl d_W_passes_54 ?_
        refine r_bipush (v := (6 : Int32)) (by decide) d_W_passes_55 ?_
        refine r_aload_n (i := 0) (x := x0) 0 rfl d_W_passes_57 ?_
        refine r_bipush (v := (7 : Int32)) (by decide) d_W_passes_58 ?_
        have h2 := kr_ob h
        clear h
        obtain ⟨v20, ev20, h⟩ := h2
        refine r_iaload ev20 d_W_passes_60 ?_
        refine r_iconst (v := (1 : Int32)) (by decide) d_W_passes_61 ?_
        refine r_isub d_W_passes_62 ?_
        have h2 := kr_ob h
        clear h
        obtain ⟨S21, eS21, h⟩ := h2
        refine r_iastore eS21 d_W_passes_63 ?_
        refine r_aload_n (i := 0) (x := x0) 0 rfl d_W_passes_64 ?_
        refine r_bipush (v := (7 : Int32)) (by decide) d_W_passes_65 ?_
        refine r_iconst (v := (0 : Int32)) (by decide) d_W_passes_67 ?_
        have h2 := kr_ob h
        clear h
        obtain ⟨S22, eS22, h⟩ := h2
        refine r_iastore eS22 d_W_passes_68 ?_
        refine r_aload_n (i := 0) (x := x0) 0 rfl d_W_passes_69 ?_
        refine r_iconst (v := (5 : Int32)) (by decide) d_W_passes_70 ?_
        refine r_aload_n (i := 0) (x := x0) 0 rfl d_W_passes_71 ?_
        refine r_bipush (v := (6 : Int32)) (by decide) d_W_passes_72 ?_
        have h2 := kr_ob h
        clear h
        obtain ⟨v23, ev23, h⟩ := h2
        refine r_iaload ev23 d_W_passes_74 ?_
        have h2 := kr_ob h
        clear h
        obtain ⟨S24, eS24, h⟩ := h2
        refine r_callS (M1 := m_W_writes) (As := [va_rf x0, .int (5 : Int32), .int v23]) (s_W_writes eS24) mok_W_writes rfl w1029 w1030 (by decide) (kr_c8 kr_c0) d_W_passes_75 (kr_k0 ?_) kr_kn
        exact kr_sub [0, 1, 2, 3, 4, 5, 6, 7, 8, 9] rfl (s_W_passes_B78 hk6 h)
      · replace h := kr_in_ c h
        exact kr_sub [0, 1, 2, 3, 4, 5, 6, 7, 8, 9] rfl (s_W_passes_B78 hk6 h)
theorem s_W_passes_L6 (n : Nat) : ∀ {S : AS} {x0 : Option Nat} {x1 : Option Nat} {x2 : Option Nat} {x3 : Option Nat} {x4 : Option Nat} {x5 : Option Nat} {x6 : Option Nat} {x7 : Int32} {x8 : Int32} {x9 : Int32} {r : (Int32 × AS)}, f_W_passes_L6 n S x0 x1 x2 x3 x4 x5 x6 x7 x8 x9 = some r → kr_AW m_W_passes 4 6 [(0, va_rf x0), (1, va_rf x1), (2, va_rf x2), (3, va_rf x3), (4, va_rf x4), (5, va_rf x5), (6, va_rf x6), (7, .int x7), (8, .int x8), (9, .int x9)] [] S (kr_eI r) := by
  induction n with
  | zero => intro S x0 x1 x2 x3 x4 x5 x6 x7 x8 x9 r h; cases h
  | succ n ih => intro S x0 x1 x2 x3 x4 x5 x6 x7 x8 x9 r h; exact s_W_passes_C6 (fun {_} {_} {_} {_} {_} {_} {_} {_} {_} {_} {_} {_} h => ih h) h
set_option maxRecDepth 20000 in
set_option maxHeartbeats 4000000 in
theorem s_W_passes {S : AS} {a0 : Option Nat} {a1 : Option Nat} {a2 : Option Nat} {a3 : Option Nat} {a4 : Option Nat} {a5 : Option Nat} {a6 : Option Nat} {a7 : Int32} {r : (Int32 × AS)} (h : f_W_passes S a0 a1 a2 a3 a4 a5 a6 a7 = some r) : kr_Con m_W_passes 4 [va_rf a0, va_rf a1, va_rf a2, va_rf a3, va_rf a4, va_rf a5, va_rf a6, .int a7] S (kr_eI r) := by
  refine kr_con rfl rfl (by decide +kernel) (by simp [lg_sl, kr_rfcat, kr_icat, m_W_passes, mL]) ?_
  rw [show lv_args 0 [va_rf a0, va_rf a1, va_rf a2, va_rf a3, va_rf a4, va_rf a5, va_rf a6, .int a7] = [(0, va_rf a0), (1, va_rf a1), (2, va_rf a2), (3, va_rf a3), (4, va_rf a4), (5, va_rf a5), (6, va_rf a6), (7, .int a7)] from by simp [lv_args, kr_rfcat, kr_icat]]
  unfold f_W_passes at h
  refine r_iconst (v := (0 : Int32)) (by decide) d_W_passes_0 ?_
  refine r_istore (i := 8) (lv' := [(8, .int (0 : Int32)), (0, va_rf a0), (1, va_rf a1), (2, va_rf a2), (3, va_rf a3), (4, va_rf a4), (5, va_rf a5), (6, va_rf a6), (7, .int a7)]) (by decide) rfl d_W_passes_1 ?_
  refine r_iconst (v := (0 : Int32)) (by decide) d_W_passes_3 ?_
  refine r_istore (i := 9) (lv' := [(9, .int (0 : Int32)), (8, .int (0 : Int32)), (0, va_rf a0), (1, va_rf a1), (2, va_rf a2), (3, va_rf a3), (4, va_rf a4), (5, va_rf a5), (6, va_rf a6), (7, .int a7)]) (by decide) rfl d_W_passes_4 ?_
  exact kr_sub [2, 3, 4, 5, 6, 7, 8, 9, 1, 0] rfl (s_W_passes_L6 kr_FU h)
/-! KeyringCourtLaw.one(LKeyringCourt;II)I -/
def f_W_one (S : AS) (a0 : Option Nat) (a1 : Int32) (a2 : Int32) : Option (Int32 × AS) :=
  if a1 = 0 then
  (kr_rv S 22 a0).bind fun u1 =>
  kr_bh (f_K_state S a0 a2) (fun E S2 => if E = "java/lang/IndexOutOfBoundsException" then
  some ((-1001 : Int32), S2)
  else if E = "java/lang/IllegalStateException" then
  some ((-1003 : Int32), S2)
  else none) fun v3 S2 =>
  some (v3, S2)
  else
  if a1 = (1 : Int32) then
  (kr_rv S 22 a0).bind fun u4 =>
  kr_bh (f_K_asked S a0 a2) (fun E S5 => if E = "java/lang/IndexOutOfBoundsException" then
  some ((-1001 : Int32), S5)
  else if E = "java/lang/IllegalStateException" then
  some ((-1003 : Int32), S5)
  else none) fun v6 S5 =>
  some (v6, S5)
  else
  if a1 = (2 : Int32) then
  (kr_rv S 22 a0).bind fun u7 =>
  kr_bh (f_K_sessionOf S a0 a2) (fun E S8 => if E = "java/lang/IndexOutOfBoundsException" then
  some ((-1001 : Int32), S8)
  else if E = "java/lang/IllegalStateException" then
  some ((-1003 : Int32), S8)
  else none) fun v9 S8 =>
  some (v9, S8)
  else
  if a1 = (3 : Int32) then
  (kr_rv S 22 a0).bind fun u10 =>
  kr_bh (f_K_risk S a0 a2) (fun E S11 => if E = "java/lang/IndexOutOfBoundsException" then
  some ((-1001 : Int32), S11)
  else if E = "java/lang/IllegalStateException" then
  some ((-1003 : Int32), S11)
  else none) fun v12 S11 =>
  some (v12, S11)
  else
  if a1 = (4 : Int32) then
  (kr_rv S 22 a0).bind fun u13 =>
  kr_bh (f_K_trialRisk S a0 a2) (fun E S14 => if E = "java/lang/IndexOutOfBoundsException" then
  some ((-1001 : Int32), S14)
  else if E = "java/lang/IllegalStateException" then
  some ((-1003 : Int32), S14)
  else none) fun v15 S14 =>
  some (v15, S14)
  else
  if a1 = (5 : Int32) then
  (kr_rv S 22 a0).bind fun u16 =>
  kr_bh (f_K_level S a0 a2) (fun E S17 => if E = "java/lang/IndexOutOfBoundsException" then
  some ((-1001 : Int32), S17)
  else if E = "java/lang/IllegalStateException" then
  some ((-1003 : Int32), S17)
  else none) fun v18 S17 =>
  some (v18, S17)
  else
  if a1 = (6 : Int32) then
  (kr_rv S 22 a0).bind fun u19 =>
  kr_bh (f_K_signOut S a0 a2) (fun E S20 => if E = "java/lang/IndexOutOfBoundsException" then
  some ((-1001 : Int32), S20)
  else if E = "java/lang/IllegalStateException" then
  some ((-1003 : Int32), S20)
  else none) fun v21 S20 =>
  some (v21, S20)
  else
  if a1 = (7 : Int32) then
  (kr_rv S 22 a0).bind fun u22 =>
  kr_bh (f_K_redeem S a0 a2) (fun E S23 => if E = "java/lang/IndexOutOfBoundsException" then
  some ((-1001 : Int32), S23)
  else if E = "java/lang/IllegalStateException" then
  some ((-1003 : Int32), S23)
  else none) fun v24 S23 =>
  some (v24, S23)
  else
  if a1 = (8 : Int32) then
  (kr_rv S 22 a0).bind fun u25 =>
  kr_bh (f_K_tokenOf S a0 a2) (fun E S26 => if E = "java/lang/IndexOutOfBoundsException" then
  some ((-1001 : Int32), S26)
  else if E = "java/lang/IllegalStateException" then
  some ((-1003 : Int32), S26)
  else none) fun v27 S26 =>
  some (v27, S26)
  else
  if a1 = (9 : Int32) then
  (kr_rv S 22 a0).bind fun u28 =>
  kr_bh (f_K_token S a0 a2) (fun E S29 => if E = "java/lang/IndexOutOfBoundsException" then
  some ((-1001 : Int32), S29)
  else if E = "java/lang/IllegalStateException" then
  some ((-1003 : Int32), S29)
  else none) fun v30 S29 =>
  some (v30, S29)
  else
  if a1 = (10 : Int32) then
  (kr_rv S 22 a0).bind fun u31 =>
  kr_bh (f_K_line S a0 a2) (fun E S32 => if E = "java/lang/IndexOutOfBoundsException" then
  some ((-1001 : Int32), S32)
  else if E = "java/lang/IllegalStateException" then
  some ((-1003 : Int32), S32)
  else none) fun v33 S32 =>
  some (v33, S32)
  else
  if a1 = (11 : Int32) then
  (kr_rv S 22 a0).bind fun u34 =>
  kr_bh (f_K_lag S a0 a2) (fun E S35 => if E = "java/lang/IndexOutOfBoundsException" then
  some ((-1001 : Int32), S35)
  else if E = "java/lang/IllegalStateException" then
  some ((-1003 : Int32), S35)
  else none) fun v36 S35 =>
  some (v36, S35)
  else
  if a1 = (12 : Int32) then
  (kr_rv S 22 a0).bind fun u37 =>
  kr_bh (f_K_recover S a0 a2) (fun E S38 => if E = "java/lang/IndexOutOfBoundsException" then
  some ((-1001 : Int32), S38)
  else if E = "java/lang/IllegalStateException" then
  some ((-1003 : Int32), S38)
  else none) fun v39 S38 =>
  some (v39, S38)
  else
  if a1 = (13 : Int32) then
  (kr_rv S 22 a0).bind fun u40 =>
  kr_bh (f_K_finish S a0 a2) (fun E S41 => if E = "java/lang/IndexOutOfBoundsException" then
  some ((-1001 : Int32), S41)
  else if E = "java/lang/IllegalStateException" then
  some ((-1003 : Int32), S41)
  else none) fun v42 S41 =>
  some (v42, S41)
  else
  if a1 = (14 : Int32) then
  (kr_rv S 22 a0).bind fun u43 =>
  kr_bh (f_K_foreign S a0 a2) (fun E S44 => if E = "java/lang/IndexOutOfBoundsException" then
  some ((-1001 : Int32), S44)
  else if E = "java/lang/IllegalStateException" then
  some ((-1003 : Int32), S44)
  else none) fun v45 S44 =>
  some (v45, S44)
  else
  if a1 = (15 : Int32) then
  (kr_rv S 22 a0).bind fun u46 =>
  kr_bh (f_K_leave S a0 a2) (fun E S47 => if E = "java/lang/IndexOutOfBoundsException" then
  some ((-1001 : Int32), S47)
  else if E = "java/lang/IllegalStateException" then
  some ((-1003 : Int32), S47)
  else none) fun v48 S47 =>
  some (v48, S47)
  else
  if a1 = (16 : Int32) then
  (kr_rv S 22 a0).bind fun u49 =>
  kr_bh (f_K_audit S a0 a2) (fun E S50 => if E = "java/lang/IndexOutOfBoundsException" then
  some ((-1001 : Int32), S50)
  else if E = "java/lang/IllegalStateException" then
  some ((-1003 : Int32), S50)
  else none) fun v51 S50 =>
  some (v51, S50)
  else
  if a1 = (17 : Int32) then
  (kr_rv S 22 a0).bind fun u52 =>
  kr_bh (f_K_sumAnew S a0 a2) (fun E S53 => if E = "java/lang/IndexOutOfBoundsException" then
  some ((-1001 : Int32), S53)
  else if E = "java/lang/IllegalStateException" then
  some ((-1003 : Int32), S53)
  else none) fun v54 S53 =>
  some (v54, S53)
  else
  (kr_rv S 22 a0).bind fun u55 =>
  kr_bh (f_K_weakest S a0 a2) (fun E S56 => if E = "java/lang/IndexOutOfBoundsException" then
  some ((-1001 : Int32), S56)
  else if E = "java/lang/IllegalStateException" then
  some ((-1003 : Int32), S56)
  else none) fun v57 S56 =>
  some (v57, S56)
def gg_W_one (S : AS) (w a0 : Int32) : AS := if w = (0 : Int32) then gmo S (f_M_state S (some 57) a0) else if w = (1 : Int32) then gmo S (f_M_asked S (some 57) a0) else if w = (2 : Int32) then gmo S (f_M_sessionOf S (some 57) a0) else if w = (3 : Int32) then gmo S (f_M_risk S (some 57) a0) else if w = (4 : Int32) then gmo S (f_M_trialRisk S (some 57) a0) else if w = (5 : Int32) then gmo S (f_M_level S (some 57) a0) else if w = (6 : Int32) then gmo S (f_M_signOut S (some 57) a0) else if w = (7 : Int32) then gmo S (f_M_redeem S (some 57) a0) else if w = (8 : Int32) then gmo S (f_M_tokenOf S (some 57) a0) else if w = (9 : Int32) then gmo S (f_M_token S (some 57) a0) else if w = (10 : Int32) then gmo S (f_M_line S (some 57) a0) else if w = (11 : Int32) then gmo S (f_M_lag S (some 57) a0) else if w = (12 : Int32) then gmo S (f_M_recover S (some 57) a0) else if w = (13 : Int32) then gmo S (f_M_finish S (some 57) a0) else if w = (14 : Int32) then gmo S (f_M_foreign S (some 57) a0) else if w = (15 : Int32) then gmo S (f_M_leave S (some 57) a0) else if w = (16 : Int32) then gmo S (f_M_audit S (some 57) a0) else if w = (17 : Int32) then gmo S (f_M_sumAnew S (some 57) a0) else gmo S (f_M_weakest S (some 57) a0)
def f_W_oneg (S : AS) (a0 : Option Nat) (a1 a2 : Int32) : Option (Int32 × AS) := kr_b2 (f_W_one S a0 a1 a2) fun v S1 => some (v, gg_W_one S1 a1 a2)
set_option maxRecDepth 20000 in
set_option maxHeartbeats 4000000 in
theorem s_W_one {S : AS} {a0 : Option Nat} {a1 : Int32} {a2 : Int32} {r : (Int32 × AS)} (h : f_W_one S a0 a1 a2 = some r) : kr_AW m_W_one 13 0 [(0, va_rf a0), (1, .int a1), (2, .int a2)] [] S (kr_eI r) := by
  unfold f_W_one at h
  refine r_iload_n (i := 1) (x := a1) 1 rfl d_W_one_0 ?_
  refine r_if_ne (tgt := 12) d_W_one_1 rfl (fun c => ?_) (fun c => ?_)
  · replace h := kr_ip c h
    refine r_aload_n (i := 0) (x := a0) 0 rfl d_W_one_4 ?_
    refine r_iload_n (i := 2) (x := a2) 2 rfl d_W_one_5 ?_
    have h2 := kr_ob h
    clear h
    obtain ⟨⟨⟩, eu1, h⟩ := h2
    rcases kr_obh h with ⟨v3, S2, eS2, h2⟩ | ⟨E, S2, eS2, h2⟩
    · clear h
      have h := h2
      clear h2
      refine r_callV (M1 := m_K_state) (κ := 22) (As := [.int a2]) eu1 (s_K_state eS2) mok_K_state rfl (by decide) rfl w1054 w1055 w1056 (by decide) (kr_c8 kr_c0) d_W_one_6 (kr_k1 ?_) kr_kn
      refine r_goto (tgt := 250) d_W_one_9 rfl ?_
      cases h
      exact r_iret rfl d_W_one_250
    · by_cases c0 : E = "java/lang/IndexOutOfBoundsException"
      · subst c0
        replace h2 := kr_ip rfl h2
        clear h
        have h := h2
        clear h2
        refine r_callV (M1 := m_K_state) (κ := 22) (As := [.int a2]) eu1 (s_K_state eS2) mok_K_state rfl (by decide) rfl w1054 w1055 w1056 (by decide) (kr_c8 kr_c0) d_W_one_6 kr_nk (kr_kx ?_)
        refine r_catch_n (hd := (0, 250, 251, 138)) [] [(0, 250, 256, 81)] ⟨rfl, (fun _ hz => nomatch hz), ⟨by decide, by decide⟩, by decide, w648, w485⟩ (i := 3) (lv' := [(0, va_rf a0), (1, .int a1), (2, .int a2)]) rfl (by decide) d_W_one_251 ?_
        refine r_sipush (v := (-1001 : Int32)) (by decide) d_W_one_252 ?_
        cases h
        exact r_iret rfl d_W_one_255
      replace h2 := kr_in_ c0 h2
      by_cases c1 : E = "java/lang/IllegalStateException"
      · subst c1
        replace h2 := kr_ip rfl h2
        clear h
        have h := h2
        clear h2
        refine r_callV (M1 := m_K_state) (κ := 22) (As := [.int a2]) eu1 (s_K_state eS2) mok_K_state rfl (by decide) rfl w1054 w1055 w1056 (by decide) (kr_c8 kr_c0) d_W_one_6 kr_nk (kr_kx ?_)
        refine r_catch_n (hd := (0, 250, 256, 81)) [(0, 250, 251, 138)] [] ⟨rfl, (kr_pre ⟨"java/lang/IndexOutOfBoundsException", by decide, w648, by decide⟩ (fun _ hz => nomatch hz)), ⟨by decide, by decide⟩, by decide, w318, w397⟩ (i := 3) (lv' := [(0, va_rf a0), (1, .int a1), (2, .int a2)]) rfl (by decide) d_W_one_256 ?_
        refine r_sipush (v := (-1003 : Int32)) (by decide) d_W_one_257 ?_
        cases h
        exact r_iret rfl d_W_one_260
      replace h2 := kr_in_ c1 h2
      cases h2
  · replace h := kr_in_ c h
    refine r_iload_n (i := 1) (x := a1) 1 rfl d_W_one_12 ?_
    refine r_iconst (v := (1 : Int32)) (by decide) d_W_one_13 ?_
    refine r_icmp_ne (tgt := 25) d_W_one_14 rfl (fun c => ?_) (fun c => ?_)
    · replace h := kr_ip c h
      refine r_aload_n (i := 0) (x := a0) 0 rfl d_W_one_17 ?_
      refine r_iload_n (i := 2) (x := a2) 2 rfl d_W_one_18 ?_
      have h2 := kr_ob h
      clear h
      obtain ⟨⟨⟩, eu4, h⟩ := h2
      rcases kr_obh h with ⟨v6, S5, eS5, h2⟩ | ⟨E, S5, eS5, h2⟩
      · clear h
        have h := h2
        clear h2
        refine r_callV (M1 := m_K_asked) (κ := 22) (As := [.int a2]) eu4 (s_K_asked eS5) mok_K_asked rfl (by decide) rfl w1058 w1059 w1060 (by decide) (kr_c8 kr_c0) d_W_one_19 (kr_k1 ?_) kr_kn
        refine r_goto (tgt := 250) d_W_one_22 rfl ?_
        cases h
        exact r_iret rfl d_W_one_250
      · by_cases c0 : E = "java/lang/IndexOutOfBoundsException"
        · subst c0
          replace h2 := kr_ip rfl h2
          clear h
          have h := h2
          clear h2
          refine r_callV (M1 := m_K_asked) (κ := 22) (As := [.int a2]) eu4 (s_K_asked eS5) mok_K_asked rfl (by decide) rfl w1058 w1059 w1060 (by decide) (kr_c8 kr_c0) d_W_one_19 kr_nk (kr_kx ?_)
          refine r_catch_n (hd := (0, 250, 251, 138)) [] [(0, 250, 256, 81)] ⟨rfl, (fun _ hz => nomatch hz), ⟨by decide, by decide⟩, by decide, w648, w485⟩ (i := 3) (lv' := [(0, va_rf a0), (1, .int a1), (2, .int a2)]) rfl (by decide) d_W_one_251 ?_
          refine r_sipush (v := (-1001 : Int32)) (by decide) d_W_one_252 ?_
          cases h
          exact r_iret rfl d_W_one_255
        replace h2 := kr_in_ c0 h2
        by_cases c1 : E = "java/lang/IllegalStateException"
        · subst c1
          replace h2 := kr_ip rfl h2
          clear h
          have h := h2
          clear h2
          refine r_callV (M1 := m_K_asked) (κ := 22) (As := [.int a2]) eu4 (s_K_asked eS5) mok_K_asked rfl (by decide) rfl w1058 w1059 w1060 (by decide) (kr_c8 kr_c0) d_W_one_19 kr_nk (kr_kx ?_)
          refine r_catch_n (hd := (0, 250, 256, 81)) [(0, 250, 251, 138)] [] ⟨rfl, (kr_pre ⟨"java/lang/IndexOutOfBoundsException", by decide, w648, by decide⟩ (fun _ hz => nomatch hz)), ⟨by decide, by decide⟩, by decide, w318, w397⟩ (i := 3) (lv' := [(0, va_rf a0), (1, .int a1), (2, .int a2)]) rfl (by decide) d_W_one_256 ?_
          refine r_sipush (v := (-1003 : Int32)) (by decide) d_W_one_257 ?_
          cases h
          exact r_iret rfl d_W_one_260
        replace h2 := kr_in_ c1 h2
        cases h2
    · replace h := kr_in_ c h
      refine r_iload_n (i := 1) (x := a1) 1 rfl d_W_one_25 ?_
      refine r_iconst (v := (2 : Int32)) (by decide) d_W_one_26 ?_
      refine r_icmp_ne (tgt := 38) d_W_one_27 rfl (fun c => ?_) (fun c => ?_)
      · replace h := kr_ip c h
        refine r_aload_n (i := 0) (x := a0) 0 rfl d_W_one_30 ?_
        refine r_iload_n (i := 2) (x := a2) 2 rfl d_W_one_31 ?_
        have h2 := kr_ob h
        clear h
        obtain ⟨⟨⟩, eu7, h⟩ := h2
        rcases kr_obh h with ⟨v9, S8, eS8, h2⟩ | ⟨E, S8, eS8, h2⟩
        · clear h
          have h := h2
          clear h2
          refine r_callV (M1 := m_K_sessionOf) (κ := 22) (As := [.int a2]) eu7 (s_K_sessionOf eS8) mok_K_sessionOf rfl (by decide) rfl w1062 w1063 w1064 (by decide) (kr_c8 kr_c0) d_W_one_32 (kr_k1 ?_) kr_kn
          refine r_goto (tgt := 250) d_W_one_35 rfl ?_
          cases h
          exact r_iret rfl d_W_one_250
        · by_cases c0 : E = "java/lang/IndexOutOfBoundsException"
          · subst c0
            replace h2 := kr_ip rfl h2
            clear h
            have h := h2
            clear h2
            refine r_callV (M1 := m_K_sessionOf) (κ := 22) (As := [.int a2]) eu7 (s_K_sessionOf eS8) mok_K_sessionOf rfl (by decide) rfl w1062 w1063 w1064 (by decide) (kr_c8 kr_c0) d_W_one_32 kr_nk (kr_kx ?_)
            refine r_catch_n (hd := (0, 250, 251, 138)) [] [(0, 250, 256, 81)] ⟨rfl, (fun _ hz => nomatch hz), ⟨by decide, by decide⟩, by decide, w648, w485⟩ (i := 3) (lv' := [(0, va_rf a0), (1, .int a1), (2, .int a2)]) rfl (by decide) d_W_one_251 ?_
            refine r_sipush (v := (-1001 : Int32)) (by decide) d_W_one_252 ?_
            cases h
            exact r_iret rfl d_W_one_255
          replace h2 := kr_in_ c0 h2
          by_cases c1 : E = "java/lang/IllegalStateException"
          · subst c1
            replace h2 := kr_ip rfl h2
            clear h
            have h := h2
            clear h2
            refine r_callV (M1 := m_K_sessionOf) (κ := 22) (As := [.int a2]) eu7 (s_K_sessionOf eS8) mok_K_sessionOf rfl (by decide) rfl w1062 w1063 w1064 (by decide) (kr_c8 kr_c0) d_W_one_32 kr_nk (kr_kx ?_)
            refine r_catch_n (hd := (0, 250, 256, 81)) [(0, 250, 251, 138)] [] ⟨rfl, (kr_pre ⟨"java/lang/IndexOutOfBoundsException", by decide, w648, by decide⟩ (fun _ hz => nomatch hz)), ⟨by decide, by decide⟩, by decide, w318, w397⟩ (i := 3) (lv' := [(0, va_rf a0), (1, .int a1), (2, .int a2)]) rfl (by decide) d_W_one_256 ?_
            refine r_sipush (v := (-1003 : Int32)) (by decide) d_W_one_257 ?_
            cases h
            exact r_iret rfl d_W_one_260
          replace h2 := kr_in_ c1 h2
          cases h2
      · replace h := kr_in_ c h
        refine r_iload_n (i := 1) (x := a1) 1 rfl d_W_one_38 ?_
        refine r_iconst (v := (3 : Int32)) (by decide) d_W_one_39 ?_
        refine r_icmp_ne (tgt := 51) d_W_one_40 rfl (fun c => ?_) (fun c => ?_)
        · replace h := kr_ip c h
          refine r_aload_n (i := 0) (x := a0) 0 rfl d_W_one_43 ?_
          refine r_iload_n (i := 2) (x := a2) 2 rfl d_W_one_44 ?_
          have h2 := kr_ob h
          clear h
          obtain ⟨⟨⟩, eu10, h⟩ := h2
          rcases kr_obh h with ⟨v12, S11, eS11, h2⟩ | ⟨E, S11, eS11, h2⟩
          · clear h
            have h := h2
            clear h2
            refine r_callV (M1 := m_K_risk) (κ := 22) (As := [.int a2]) eu10 (s_K_risk eS11) mok_K_risk rfl (by decide) rfl w1066 w1067 w1068 (by decide) (kr_c8 kr_c0) d_W_one_45 (kr_k1 ?_) kr_kn
            refine r_goto (tgt := 250) d_W_one_48 rfl ?_
            cases h
            exact r_iret rfl d_W_one_250
          · by_cases c0 : E = "java/lang/IndexOutOfBoundsException"
            · subst c0
              replace h2 := kr_ip rfl h2
              clear h
              have h := h2
              clear h2
              refine r_callV (M1 := m_K_risk) (κ := 22) (As := [.int a2]) eu10 (s_K_risk eS11) mok_K_risk rfl (by decide) rfl w1066 w1067 w1068 (by decide) (kr_c8 kr_c0) d_W_one_45 kr_nk (kr_kx ?_)
              refine r_catch_n (hd := (0, 250, 251, 138)) [] [(0, 250, 256, 81)] ⟨rfl, (fun _ hz => nomatch hz), ⟨by decide, by decide⟩, by decide, w648, w485⟩ (i := 3) (lv' := [(0, va_rf a0), (1, .int a1), (2, .int a2)]) rfl (by decide) d_W_one_251 ?_
              refine r_sipush (v := (-1001 : Int32)) (by decide) d_W_one_252 ?_
              cases h
              exact r_iret rfl d_W_one_255
            replace h2 := kr_in_ c0 h2
            by_cases c1 : E = "java/lang/IllegalStateException"
            · subst c1
              replace h2 := kr_ip rfl h2
              clear h
              have h := h2
              clear h2
              refine r_callV (M1 := m_K_risk) (κ := 22) (As := [.int a2]) eu10 (s_K_risk eS11) mok_K_risk rfl (by decide) rfl w1066 w1067 w1068 (by decide) (kr_c8 kr_c0) d_W_one_45 kr_nk (kr_kx ?_)
              refine r_catch_n (hd := (0, 250, 256, 81)) [(0, 250, 251, 138)] [] ⟨rfl, (kr_pre ⟨"java/lang/IndexOutOfBoundsException", by decide, w648, by decide⟩ (fun _ hz => nomatch hz)), ⟨by decide, by decide⟩, by decide, w318, w397⟩ (i := 3) (lv' := [(0, va_rf a0), (1, .int a1), (2, .int a2)]) rfl (by decide) d_W_one_256 ?_
              refine r_sipush (v := (-1003 : Int32)) (by decide) d_W_one_257 ?_
              cases h
              exact r_iret rfl d_W_one_260
            replace h2 := kr_in_ c1 h2
            cases h2
        · replace h := kr_in_ c h
          refine r_iload_n (i := 1) (x := a1) 1 rfl d_W_one_51 ?_
          refine r_iconst (v := (4 : Int32)) (by decide) d_W_one_52 ?_
          refine r_icmp_ne (tgt := 64) d_W_one_53 rfl (fun c => ?_) (fun c => ?_)
          · replace h := kr_ip c h
            refine r_aload_n (i := 0) (x := a0) 0 rfl d_W_one_56 ?_
            refine r_iload_n (i := 2) (x := a2) 2 rfl d_W_one_57 ?_
            have h2 := kr_ob h
            clear h
            obtain ⟨⟨⟩, eu13, h⟩ := h2
            rcases kr_obh h with ⟨v15, S14, eS14, h2⟩ | ⟨E, S14, eS14, h2⟩
            · clear h
              have h := h2
              clear h2
              refine r_callV (M1 := m_K_trialRisk) (κ := 22) (As := [.int a2]) eu13 (s_K_trialRisk eS14) mok_K_trialRisk rfl (by decide) rfl w1070 w1071 w1072 (by decide) (kr_c8 kr_c0) d_W_one_58 (kr_k1 ?_) kr_kn
              refine r_goto (tgt := 250) d_W_one_61 rfl ?_
              cases h
              exact r_iret rfl d_W_one_250
            · by_cases c0 : E = "java/lang/IndexOutOfBoundsException"
              · subst c0
                replace h2 := kr_ip rfl h2
                clear h
                have h := h2
                clear h2
                refine r_callV (M1 := m_K_trialRisk) (κ := 22) (As := [.int a2]) eu13 (s_K_trialRisk eS14) mok_K_trialRisk rfl (by decide) rfl w1070 w1071 w1072 (by decide) (kr_c8 kr_c0) d_W_one_58 kr_nk (kr_kx ?_)
                refine r_catch_n (hd := (0, 250, 251, 138)) [] [(0, 250, 256, 81)] ⟨rfl, (fun _ hz => nomatch hz), ⟨by decide, by decide⟩, by decide, w648, w485⟩ (i := 3) (lv' := [(0, va_rf a0), (1, .int a1), (2, .int a2)]) rfl (by decide) d_W_one_251 ?_
                refine r_sipush (v := (-1001 : Int32)) (by decide) d_W_one_252 ?_
                cases h
                exact r_iret rfl d_W_one_255
              replace h2 := kr_in_ c0 h2
              by_cases c1 : E = "java/lang/IllegalStateException"
              · subst c1
                replace h2 := kr_ip rfl h2
                clear h
                have h := h2
                clear h2
                refine r_callV (M1 := m_K_trialRisk) (κ := 22) (As := [.int a2]) eu13 (s_K_trialRisk eS14) mok_K_trialRisk rfl (by decide) rfl w1070 w1071 w1072 (by decide) (kr_c8 kr_c0) d_W_one_58 kr_nk (kr_kx ?_)
                refine r_catch_n (hd := (0, 250, 256, 81)) [(0, 250, 251, 138)] [] ⟨rfl, (kr_pre ⟨"java/lang/IndexOutOfBoundsException", by decide, w648, by decide⟩ (fun _ hz => nomatch hz)), ⟨by decide, by decide⟩, by decide, w318, w397⟩ (i := 3) (lv' := [(0, va_rf a0), (1, .int a1), (2, .int a2)]) rfl (by decide) d_W_one_256 ?_
                refine r_sipush (v := (-1003 : Int32)) (by decide) d_W_one_257 ?_
                cases h
                exact r_iret rfl d_W_one_260
              replace h2 := kr_in_ c1 h2
              cases h2
          · replace h := kr_in_ c h
            refine r_iload_n (i := 1) (x := a1) 1 rfl d_W_one_64 ?_
            refine r_iconst (v := (5 : Int32)) (by decide) d_W_one_65 ?_
            refine r_icmp_ne (tgt := 77) d_W_one_66 rfl (fun c => ?_) (fun c => ?_)
            · replace h := kr_ip c h
              refine r_aload_n (i := 0) (x := a0) 0 rfl d_W_one_69 ?_
              refine r_iload_n (i := 2) (x := a2) 2 rfl d_W_one_70 ?_
              have h2 := kr_ob h
              clear h
              obtain ⟨⟨⟩, eu16, h⟩ := h2
              rcases kr_obh h with ⟨v18, S17, eS17, h2⟩ | ⟨E, S17, eS17, h2⟩
              · clear h
                have h := h2
                clear h2
                refine r_callV (M1 := m_K_level) (κ := 22) (As := [.int a2]) eu16 (s_K_level eS17) mok_K_level rfl (by decide) rfl w1074 w1075 w1076 (by decide) (kr_c8 kr_c0) d_W_one_71 (kr_k1 ?_) kr_kn
                refine r_goto (tgt := 250) d_W_one_74 rfl ?_
                cases h
                exact r_iret rfl d_W_one_250
              · by_cases c0 : E = "java/lang/IndexOutOfBoundsException"
                · subst c0
                  replace h2 := kr_ip rfl h2
                  clear h
                  have h := h2
                  clear h2
                  refine r_callV (M1 := m_K_level) (κ := 22) (As := [.int a2]) eu16 (s_K_level eS17) mok_K_level rfl (by decide) rfl w1074 w1075 w1076 (by decide) (kr_c8 kr_c0) d_W_one_71 kr_nk (kr_kx ?_)
                  refine r_catch_n (hd := (0, 250, 251, 138)) [] [(0, 250, 256, 81)] ⟨rfl, (fun _ hz => nomatch hz), ⟨by decide, by decide⟩, by decide, w648, w485⟩ (i := 3) (lv' := [(0, va_rf a0), (1, .int a1), (2, .int a2)]) rfl (by decide) d_W_one_251 ?_
                  refine r_sipush (v := (-1001 : Int32)) (by decide) d_W_one_252 ?_
                  cases h
                  exact r_iret rfl d_W_one_255
                replace h2 := kr_in_ c0 h2
                by_cases c1 : E = "java/lang/IllegalStateException"
                · subst c1
                  replace h2 := kr_ip rfl h2
                  clear h
                  have h := h2
                  clear h2
                  refine r_callV (M1 := m_K_level) (κ := 22) (As := [.int a2]) eu16 (s_K_level eS17) mok_K_level rfl (by decide) rfl w1074 w1075 w1076 (by decide) (kr_c8 kr_c0) d_W_one_71 kr_nk (kr_kx ?_)
                  refine r_catch_n (hd := (0, 250, 256, 81)) [(0, 250, 251, 138)] [] ⟨rfl, (kr_pre ⟨"java/lang/IndexOutOfBoundsException", by decide, w648, by decide⟩ (fun _ hz => nomatch hz)), ⟨by decide, by decide⟩, by decide, w318, w397⟩ (i := 3) (lv' := [(0, va_rf a0), (1, .int a1), (2, .int a2)]) rfl (by decide) d_W_one_256 ?_
                  refine r_sipush (v := (-1003 : Int32)) (by decide) d_W_one_257 ?_
                  cases h
                  exact r_iret rfl d_W_one_260
                replace h2 := kr_in_ c1 h2
                cases h2
            · replace h := kr_in_ c h
              refine r_iload_n (i := 1) (x := a1) 1 rfl d_W_one_77 ?_
              refine r_bipush (v := (6 : Int32)) (by decide) d_W_one_78 ?_
              refine r_icmp_ne (tgt := 91) d_W_one_80 rfl (fun c => ?_) (fun c => ?_)
              · replace h := kr_ip c h
                refine r_aload_n (i := 0) (x := a0) 0 rfl d_W_one_83 ?_
                refine r_iload_n (i := 2) (x := a2) 2 rfl d_W_one_84 ?_
                have h2 := kr_ob h
                clear h
                obtain ⟨⟨⟩, eu19, h⟩ := h2
                rcases kr_obh h with ⟨v21, S20, eS20, h2⟩ | ⟨E, S20, eS20, h2⟩
                · clear h
                  have h := h2
                  clear h2
                  refine r_callV (M1 := m_K_signOut) (κ := 22) (As := [.int a2]) eu19 (s_K_signOut eS20) mok_K_signOut rfl (by decide) rfl w1078 w1079 w1080 (by decide) (kr_c8 kr_c0) d_W_one_85 (kr_k1 ?_) kr_kn
                  refine r_goto (tgt := 250) d_W_one_88 rfl ?_
                  cases h
                  exact r_iret rfl d_W_one_250
                · by_cases c0 : E = "java/lang/IndexOutOfBoundsException"
                  · subst c0
                    replace h2 := kr_ip rfl h2
                    clear h
                    have h := h2
                    clear h2
                    refine r_callV (M1 := m_K_signOut) (κ := 22) (As := [.int a2]) eu19 (s_K_signOut eS20) mok_K_signOut rfl (by decide) rfl w1078 w1079 w1080 (by decide) (kr_c8 kr_c0) d_W_one_85 kr_nk (kr_kx ?_)
                    refine r_catch_n (hd := (0, 250, 251, 138)) [] [(0, 250, 256, 81)] ⟨rfl, (fun _ hz => nomatch hz), ⟨by decide, by decide⟩, by decide, w648, w485⟩ (i := 3) (lv' := [(0, va_rf a0), (1, .int a1), (2, .int a2)]) rfl (by decide) d_W_one_251 ?_
                    refine r_sipush (v := (-1001 : Int32)) (by decide) d_W_one_252 ?_
                    cases h
                    exact r_iret rfl d_W_one_255
                  replace h2 := kr_in_ c0 h2
                  by_cases c1 : E = "java/lang/IllegalStateException"
                  · subst c1
                    replace h2 := kr_ip rfl h2
                    clear h
                    have h := h2
                    clear h2
                    refine r_callV (M1 := m_K_signOut) (κ := 22) (As := [.int a2]) eu19 (s_K_signOut eS20) mok_K_signOut rfl (by decide) rfl w1078 w1079 w1080 (by decide) (kr_c8 kr_c0) d_W_one_85 kr_nk (kr_kx ?_)
                    refine r_catch_n (hd := (0, 250, 256, 81)) [(0, 250, 251, 138)] [] ⟨rfl, (kr_pre ⟨"java/lang/IndexOutOfBoundsException", by decide, w648, by decide⟩ (fun _ hz => nomatch hz)), ⟨by decide, by decide⟩, by decide, w318, w397⟩ (i := 3) (lv' := [(0, va_rf a0), (1, .int a1), (2, .int a2)]) rfl (by decide) d_W_one_256 ?_
                    refine r_sipush (v := (-1003 : Int32)) (by decide) d_W_one_257 ?_
                    cases h
                    exact r_iret rfl d_W_one_260
                  replace h2 := kr_in_ c1 h2
                  cases h2
              · replace h := kr_in_ c h
                refine r_iload_n (i := 1) (x := a1) 1 rfl d_W_one_91 ?_
                refine r_bipush (v := (7 : Int32)) (by decide) d_W_one_92 ?_
                refine r_icmp_ne (tgt := 105) d_W_one_94 rfl (fun c => ?_) (fun c => ?_)
                · replace h := kr_ip c h
                  refine r_aload_n (i := 0) (x := a0) 0 rfl d_W_one_97 ?_
                  refine r_iload_n (i := 2) (x := a2) 2 rfl d_W_one_98 ?_
                  have h2 := kr_ob h
                  clear h
                  obtain ⟨⟨⟩, eu22, h⟩ := h2
                  rcases kr_obh h with ⟨v24, S23, eS23, h2⟩ | ⟨E, S23, eS23, h2⟩
                  · clear h
                    have h := h2
                    clear h2
                    refine r_callV (M1 := m_K_redeem) (κ := 22) (As := [.int a2]) eu22 (s_K_redeem eS23) mok_K_redeem rfl (by decide) rfl w1082 w1083 w1084 (by decide) (kr_c8 kr_c0) d_W_one_99 (kr_k1 ?_) kr_kn
                    refine r_goto (tgt := 250) d_W_one_102 rfl ?_
                    cases h
                    exact r_iret rfl d_W_one_250
                  · by_cases c0 : E = "java/lang/IndexOutOfBoundsException"
                    · subst c0
                      replace h2 := kr_ip rfl h2
                      clear h
                      have h := h2
                      clear h2
                      refine r_callV (M1 := m_K_redeem) (κ := 22) (As := [.int a2]) eu22 (s_K_redeem eS23) mok_K_redeem rfl (by decide) rfl w1082 w1083 w1084 (by decide) (kr_c8 kr_c0) d_W_one_99 kr_nk (kr_kx ?_)
                      refine r_catch_n (hd := (0, 250, 251, 138)) [] [(0, 250, 256, 81)] ⟨rfl, (fun _ hz => nomatch hz), ⟨by decide, by decide⟩, by decide, w648, w485⟩ (i := 3) (lv' := [(0, va_rf a0), (1, .int a1), (2, .int a2)]) rfl (by decide) d_W_one_251 ?_
                      refine r_sipush (v := (-1001 : Int32)) (by decide) d_W_one_252 ?_
                      cases h
                      exact r_iret rfl d_W_one_255
                    replace h2 := kr_in_ c0 h2
                    by_cases c1 : E = "java/lang/IllegalStateException"
                    · subst c1
                      replace h2 := kr_ip rfl h2
                      clear h
                      have h := h2
                      clear h2
                      refine r_callV (M1 := m_K_redeem) (κ := 22) (As := [.int a2]) eu22 (s_K_redeem eS23) mok_K_redeem rfl (by decide) rfl w1082 w1083 w1084 (by decide) (kr_c8 kr_c0) d_W_one_99 kr_nk (kr_kx ?_)
                      refine r_catch_n (hd := (0, 250, 256, 81)) [(0, 250, 251, 138)] [] ⟨rfl, (kr_pre ⟨"java/lang/IndexOutOfBoundsException", by decide, w648, by decide⟩ (fun _ hz => nomatch hz)), ⟨by decide, by decide⟩, by decide, w318, w397⟩ (i := 3) (lv' := [(0, va_rf a0), (1, .int a1), (2, .int a2)]) rfl (by decide) d_W_one_256 ?_
                      refine r_sipush (v := (-1003 : Int32)) (by decide) d_W_one_257 ?_
                      cases h
                      exact r_iret rfl d_W_one_260
                    replace h2 := kr_in_ c1 h2
                    cases h2
                · replace h := kr_in_ c h
                  refine r_iload_n (i := 1) (x := a1) 1 rfl d_W_one_105 ?_
                  refine r_bipush (v := (8 : Int32)) (by decide) d_W_one_106 ?_
                  refine r_icmp_ne (tgt := 119) d_W_one_108 rfl (fun c => ?_) (fun c => ?_)
                  · replace h := kr_ip c h
                    refine r_aload_n (i := 0) (x := a0) 0 rfl d_W_one_111 ?_
                    refine r_iload_n (i := 2) (x := a2) 2 rfl d_W_one_112 ?_
                    have h2 := kr_ob h
                    clear h
                    obtain ⟨⟨⟩, eu25, h⟩ := h2
                    rcases kr_obh h with ⟨v27, S26, eS26, h2⟩ | ⟨E, S26, eS26, h2⟩
                    · clear h
                      have h := h2
                      clear h2
                      refine r_callV (M1 := m_K_tokenOf) (κ := 22) (As := [.int a2]) eu25 (s_K_tokenOf eS26) mok_K_tokenOf rfl (by decide) rfl w1090 w1091 w1092 (by decide) (kr_c8 kr_c0) d_W_one_113 (kr_k1 ?_) kr_kn
                      refine r_goto (tgt := 250) d_W_one_116 rfl ?_
                      cases h
                      exact r_iret rfl d_W_one_250
                    · by_cases c0 : E = "java/lang/IndexOutOfBoundsException"
                      · subst c0
                        replace h2 := kr_ip rfl h2
                        clear h
                        have h := h2
                        clear h2
                        refine r_callV (M1 := m_K_tokenOf) (κ := 22) (As := [.int a2]) eu25 (s_K_tokenOf eS26) mok_K_tokenOf rfl (by decide) rfl w1090 w1091 w1092 (by decide) (kr_c8 kr_c0) d_W_one_113 kr_nk (kr_kx ?_)
                        refine r_catch_n (hd := (0, 250, 251, 138)) [] [(0, 250, 256, 81)] ⟨rfl, (fun _ hz => nomatch hz), ⟨by decide, by decide⟩, by decide, w648, w485⟩ (i := 3) (lv' := [(0, va_rf a0), (1, .int a1), (2, .int a2)]) rfl (by decide) d_W_one_251 ?_
                        refine r_sipush (v := (-1001 : Int32)) (by decide) d_W_one_252 ?_
                        cases h
                        exact r_iret rfl d_W_one_255
                      replace h2 := kr_in_ c0 h2
                      by_cases c1 : E = "java/lang/IllegalStateException"
                      · subst c1
                        replace h2 := kr_ip rfl h2
                        clear h
                        have h := h2
                        clear h2
                        refine r_callV (M1 := m_K_tokenOf) (κ := 22) (As := [.int a2]) eu25 (s_K_tokenOf eS26) mok_K_tokenOf rfl (by decide) rfl w1090 w1091 w1092 (by decide) (kr_c8 kr_c0) d_W_one_113 kr_nk (kr_kx ?_)
                        refine r_catch_n (hd := (0, 250, 256, 81)) [(0, 250, 251, 138)] [] ⟨rfl, (kr_pre ⟨"java/lang/IndexOutOfBoundsException", by decide, w648, by decide⟩ (fun _ hz => nomatch hz)), ⟨by decide, by decide⟩, by decide, w318, w397⟩ (i := 3) (lv' := [(0, va_rf a0), (1, .int a1), (2, .int a2)]) rfl (by decide) d_W_one_256 ?_
                        refine r_sipush (v := (-1003 : Int32)) (by decide) d_W_one_257 ?_
                        cases h
                        exact r_iret rfl d_W_one_260
                      replace h2 := kr_in_ c1 h2
                      cases h2
                  · replace h := kr_in_ c h
                    refine r_iload_n (i := 1) (x := a1) 1 rfl d_W_one_119 ?_
                    refine r_bipush (v := (9 : Int32)) (by decide) d_W_one_120 ?_
                    refine r_icmp_ne (tgt := 133) d_W_one_122 rfl (fun c => ?_) (fun c => ?_)
                    · replace h := kr_ip c h
                      refine r_aload_n (i := 0) (x := a0) 0 rfl d_W_one_125 ?_
                      refine r_iload_n (i := 2) (x := a2) 2 rfl d_W_one_126 ?_
                      have h2 := kr_ob h
                      clear h
                      obtain ⟨⟨⟩, eu28, h⟩ := h2
                      rcases kr_obh h with ⟨v30, S29, eS29, h2⟩ | ⟨E, S29, eS29, h2⟩
                      · clear h
                        have h := h2
                        clear h2
                        refine r_callV (M1 := m_K_token) (κ := 22) (As := [.int a2]) eu28 (s_K_token eS29) mok_K_token rfl (by decide) rfl w1094 w1095 w1096 (by decide) (kr_c8 kr_c0) d_W_one_127 (kr_k1 ?_) kr_kn
                        refine r_goto (tgt := 250) d_W_one_130 rfl ?_
                        cases h
                        exact r_iret rfl d_W_one_250
                      · by_cases c0 : E = "java/lang/IndexOutOfBoundsException"
                        · subst c0
                          replace h2 := kr_ip rfl h2
                          clear h
                          have h := h2
                          clear h2
                          refine r_callV (M1 := m_K_token) (κ := 22) (As := [.int a2]) eu28 (s_K_token eS29) mok_K_token rfl (by decide) rfl w1094 w1095 w1096 (by decide) (kr_c8 kr_c0) d_W_one_127 kr_nk (kr_kx ?_)
                          refine r_catch_n (hd := (0, 250, 251, 138)) [] [(0, 250, 256, 81)] ⟨rfl, (fun _ hz => nomatch hz), ⟨by decide, by decide⟩, by decide, w648, w485⟩ (i := 3) (lv' := [(0, va_rf a0), (1, .int a1), (2, .int a2)]) rfl (by decide) d_W_one_251 ?_
                          refine r_sipush (v := (-1001 : Int32)) (by decide) d_W_one_252 ?_
                          cases h
                          exact r_iret rfl d_W_one_255
                        replace h2 := kr_in_ c0 h2
                        by_cases c1 : E = "java/lang/IllegalStateException"
                        · subst c1
                          replace h2 := kr_ip rfl h2
                          clear h
                          have h := h2
                          clear h2
                          refine r_callV (M1 := m_K_token) (κ := 22) (As := [.int a2]) eu28 (s_K_token eS29) mok_K_token rfl (by decide) rfl w1094 w1095 w1096 (by decide) (kr_c8 kr_c0) d_W_one_127 kr_nk (kr_kx ?_)
                          refine r_catch_n (hd := (0, 250, 256, 81)) [(0, 250, 251, 138)] [] ⟨rfl, (kr_pre ⟨"java/lang/IndexOutOfBoundsException", by decide, w648, by decide⟩ (fun _ hz => nomatch hz)), ⟨by decide, by decide⟩, by decide, w318, w397⟩ (i := 3) (lv' := [(0, va_rf a0), (1, .int a1), (2, .int a2)]) rfl (by decide) d_W_one_256 ?_
                          refine r_sipush (v := (-1003 : Int32)) (by decide) d_W_one_257 ?_
                          cases h
                          exact r_iret rfl d_W_one_260
                        replace h2 := kr_in_ c1 h2
                        cases h2
                    · replace h := kr_in_ c h
                      refine r_iload_n (i := 1) (x := a1) 1 rfl d_W_one_133 ?_
                      refine r_bipush (v := (10 : Int32)) (by decide) d_W_one_134 ?_
                      refine r_icmp_ne (tgt := 147) d_W_one_136 rfl (fun c => ?_) (fun c => ?_)
                      · replace h := kr_ip c h
                        refine r_aload_n (i := 0) (x := a0) 0 rfl d_W_one_139 ?_
                        refine r_iload_n (i := 2) (x := a2) 2 rfl d_W_one_140 ?_
                        have h2 := kr_ob h
                        clear h
                        obtain ⟨⟨⟩, eu31, h⟩ := h2
                        rcases kr_obh h with ⟨v33, S32, eS32, h2⟩ | ⟨E, S32, eS32, h2⟩
                        · clear h
                          have h := h2
                          clear h2
                          refine r_callV (M1 := m_K_line) (κ := 22) (As := [.int a2]) eu31 (s_K_line eS32) mok_K_line rfl (by decide) rfl w1098 w1099 w1100 (by decide) (kr_c8 kr_c0) d_W_one_141 (kr_k1 ?_) kr_kn
                          refine r_goto (tgt := 250) d_W_one_144 rfl ?_
                          cases h
                          exact r_iret rfl d_W_one_250
                        · by_cases c0 : E = "java/lang/IndexOutOfBoundsException"
                          · subst c0
                            replace h2 := kr_ip rfl h2
                            clear h
                            have h := h2
                            clear h2
                            refine r_callV (M1 := m_K_line) (κ := 22) (As := [.int a2]) eu31 (s_K_line eS32) mok_K_line rfl (by decide) rfl w1098 w1099 w1100 (by decide) (kr_c8 kr_c0) d_W_one_141 kr_nk (kr_kx ?_)
                            refine r_catch_n (hd := (0, 250, 251, 138)) [] [(0, 250, 256, 81)] ⟨rfl, (fun _ hz => nomatch hz), ⟨by decide, by decide⟩, by decide, w648, w485⟩ (i := 3) (lv' := [(0, va_rf a0), (1, .int a1), (2, .int a2)]) rfl (by decide) d_W_one_251 ?_
                            refine r_sipush (v := (-1001 : Int32)) (by decide) d_W_one_252 ?_
                            cases h
                            exact r_iret rfl d_W_one_255
                          replace h2 := kr_in_ c0 h2
                          by_cases c1 : E = "java/lang/IllegalStateException"
                          · subst c1
                            replace h2 := kr_ip rfl h2
                            clear h
                            have h := h2
                            clear h2
                            refine r_callV (M1 := m_K_line) (κ := 22) (As := [.int a2]) eu31 (s_K_line eS32) mok_K_line rfl (by decide) rfl w1098 w1099 w1100 (by decide) (kr_c8 kr_c0) d_W_one_141 kr_nk (kr_kx ?_)
                            refine r_catch_n (hd := (0, 250, 256, 81)) [(0, 250, 251, 138)] [] ⟨rfl, (kr_pre ⟨"java/lang/IndexOutOfBoundsException", by decide, w648, by decide⟩ (fun _ hz => nomatch hz)), ⟨by decide, by decide⟩, by decide, w318, w397⟩ (i := 3) (lv' := [(0, va_rf a0), (1, .int a1), (2, .int a2)]) rfl (by decide) d_W_one_256 ?_
                            refine r_sipush (v := (-1003 : Int32)) (by decide) d_W_one_257 ?_
                            cases h
                            exact r_iret rfl d_W_one_260
                          replace h2 := kr_in_ c1 h2
                          cases h2
                      · replace h := kr_in_ c h
                        refine r_iload_n (i := 1) (x := a1) 1 rfl d_W_one_147 ?_
                        refine r_bipush (v := (11 : Int32)) (by decide) d_W_one_148 ?_
                        refine r_icmp_ne (tgt := 161) d_W_one_150 rfl (fun c => ?_) (fun c => ?_)
                        · replace h := kr_ip c h
                          refine r_aload_n (i := 0) (x := a0) 0 rfl d_W_one_153 ?_
                          refine r_iload_n (i := 2) (x := a2) 2 rfl d_W_one_154 ?_
                          have h2 := kr_ob h
                          clear h
                          obtain ⟨⟨⟩, eu34, h⟩ := h2
                          rcases kr_obh h with ⟨v36, S35, eS35, h2⟩ | ⟨E, S35, eS35, h2⟩
                          · clear h
                            have h := h2
                            clear h2
                            refine r_callV (M1 := m_K_lag) (κ := 22) (As := [.int a2]) eu34 (s_K_lag eS35) mok_K_lag rfl (by decide) rfl w1106 w1107 w1108 (by decide) (kr_c8 kr_c0) d_W_one_155 (kr_k1 ?_) kr_kn
                            refine r_goto (tgt := 250) d_W_one_158 rfl ?_
                            cases h
                            exact r_iret rfl d_W_one_250
                          · by_cases c0 : E = "java/lang/IndexOutOfBoundsException"
                            · subst c0
                              replace h2 := kr_ip rfl h2
                              clear h
                              have h := h2
                              clear h2
                              refine r_callV (M1 := m_K_lag) (κ := 22) (As := [.int a2]) eu34 (s_K_lag eS35) mok_K_lag rfl (by decide) rfl w1106 w1107 w1108 (by decide) (kr_c8 kr_c0) d_W_one_155 kr_nk (kr_kx ?_)
                              refine r_catch_n (hd := (0, 250, 251, 138)) [] [(0, 250, 256, 81)] ⟨rfl, (fun _ hz => nomatch hz), ⟨by decide, by decide⟩, by decide, w648, w485⟩ (i := 3) (lv' := [(0, va_rf a0), (1, .int a1), (2, .int a2)]) rfl (by decide) d_W_one_251 ?_
                              refine r_sipush (v := (-1001 : Int32)) (by decide) d_W_one_252 ?_
                              cases h
                              exact r_iret rfl d_W_one_255
                            replace h2 := kr_in_ c0 h2
                            by_cases c1 : E = "java/lang/IllegalStateException"
                            · subst c1
                              replace h2 := kr_ip rfl h2
                              clear h
                              have h := h2
                              clear h2
                              refine r_callV (M1 := m_K_lag) (κ := 22) (As := [.int a2]) eu34 (s_K_lag eS35) mok_K_lag rfl (by decide) rfl w1106 w1107 w1108 (by decide) (kr_c8 kr_c0) d_W_one_155 kr_nk (kr_kx ?_)
                              refine r_catch_n (hd := (0, 250, 256, 81)) [(0, 250, 251, 138)] [] ⟨rfl, (kr_pre ⟨"java/lang/IndexOutOfBoundsException", by decide, w648, by decide⟩ (fun _ hz => nomatch hz)), ⟨by decide, by decide⟩, by decide, w318, w397⟩ (i := 3) (lv' := [(0, va_rf a0), (1, .int a1), (2, .int a2)]) rfl (by decide) d_W_one_256 ?_
                              refine r_sipush (v := (-1003 : Int32)) (by decide) d_W_one_257 ?_
                              cases h
                              exact r_iret rfl d_W_one_260
                            replace h2 := kr_in_ c1 h2
                            cases h2
                        · replace h := kr_in_ c h
                          refine r_iload_n (i := 1) (x := a1) 1 rfl d_W_one_161 ?_
                          refine r_bipush (v := (12 : Int32)) (by decide) d_W_one_162 ?_
                          refine r_icmp_ne (tgt := 175) d_W_one_164 rfl (fun c => ?_) (fun c => ?_)
                          · replace h := kr_ip c h
                            refine r_aload_n (i := 0) (x := a0) 0 rfl d_W_one_167 ?_
                            refine r_iload_n (i := 2) (x := a2) 2 rfl d_W_one_168 ?_
                            have h2 := kr_ob h
                            clear h
                            obtain ⟨⟨⟩, eu37, h⟩ := h2
                            rcases kr_obh h with ⟨v39, S38, eS38, h2⟩ | ⟨E, S38, eS38, h2⟩
                            · clear h
                              have h := h2
                              clear h2
                              refine r_callV (M1 := m_K_recover) (κ := 22) (As := [.int a2]) eu37 (s_K_recover eS38) mok_K_recover rfl (by decide) rfl w1111 w1112 w1113 (by decide) (kr_c8 kr_c0) d_W_one_169 (kr_k1 ?_) kr_kn
                              refine r_goto (tgt := 250) d_W_one_172 rfl ?_
                              cases h
                              exact r_iret rfl d_W_one_250
                            · by_cases c0 : E = "java/lang/IndexOutOfBoundsException"
                              · subst c0
                                replace h2 := kr_ip rfl h2
                                clear h
                                have h := h2
                                clear h2
                                refine r_callV (M1 := m_K_recover) (κ := 22) (As := [.int a2]) eu37 (s_K_recover eS38) mok_K_recover rfl (by decide) rfl w1111 w1112 w1113 (by decide) (kr_c8 kr_c0) d_W_one_169 kr_nk (kr_kx ?_)
                                refine r_catch_n (hd := (0, 250, 251, 138)) [] [(0, 250, 256, 81)] ⟨rfl, (fun _ hz => nomatch hz), ⟨by decide, by decide⟩, by decide, w648, w485⟩ (i := 3) (lv' := [(0, va_rf a0), (1, .int a1), (2, .int a2)]) rfl (by decide) d_W_one_251 ?_
                                refine r_sipush (v := (-1001 : Int32)) (by decide) d_W_one_252 ?_
                                cases h
                                exact r_iret rfl d_W_one_255
                              replace h2 := kr_in_ c0 h2
                              by_cases c1 : E = "java/lang/IllegalStateException"
                              · subst c1
                                replace h2 := kr_ip rfl h2
                                clear h
                                have h := h2
                                clear h2
                                refine r_callV (M1 := m_K_recover) (κ := 22) (As := [.int a2]) eu37 (s_K_recover eS38) mok_K_recover rfl (by decide) rfl w1111 w1112 w1113 (by decide) (kr_c8 kr_c0) d_W_one_169 kr_nk (kr_kx ?_)
                                refine r_catch_n (hd := (0, 250, 256, 81)) [(0, 250, 251, 138)] [] ⟨rfl, (kr_pre ⟨"java/lang/IndexOutOfBoundsException", by decide, w648, by decide⟩ (fun _ hz => nomatch hz)), ⟨by decide, by decide⟩, by decide, w318, w397⟩ (i := 3) (lv' := [(0, va_rf a0), (1, .int a1), (2, .int a2)]) rfl (by decide) d_W_one_256 ?_
                                refine r_sipush (v := (-1003 : Int32)) (by decide) d_W_one_257 ?_
                                cases h
                                exact r_iret rfl d_W_one_260
                              replace h2 := kr_in_ c1 h2
                              cases h2
                          · replace h := kr_in_ c h
                            refine r_iload_n (i := 1) (x := a1) 1 rfl d_W_one_175 ?_
                            refine r_bipush (v := (13 : Int32)) (by decide) d_W_one_176 ?_
                            refine r_icmp_ne (tgt := 189) d_W_one_178 rfl (fun c => ?_) (fun c => ?_)
                            · replace h := kr_ip c h
                              refine r_aload_n (i := 0) (x := a0) 0 rfl d_W_one_181 ?_
                              refine r_iload_n (i := 2) (x := a2) 2 rfl d_W_one_182 ?_
                              have h2 := kr_ob h
                              clear h
                              obtain ⟨⟨⟩, eu40, h⟩ := h2
                              rcases kr_obh h with ⟨v42, S41, eS41, h2⟩ | ⟨E, S41, eS41, h2⟩
                              · clear h
                                have h := h2
                                clear h2
                                refine r_callV (M1 := m_K_finish) (κ := 22) (As := [.int a2]) eu40 (s_K_finish eS41) mok_K_finish rfl (by decide) rfl w1144 w1145 w1146 (by decide) (kr_c8 kr_c0) d_W_one_183 (kr_k1 ?_) kr_kn
                                refine r_goto (tgt := 250) d_W_one_186 rfl ?_
                                cases h
                                exact r_iret rfl d_W_one_250
                              · by_cases c0 : E = "java/lang/IndexOutOfBoundsException"
                                · subst c0
                                  replace h2 := kr_ip rfl h2
                                  clear h
                                  have h := h2
                                  clear h2
                                  refine r_callV (M1 := m_K_finish) (κ := 22) (As := [.int a2]) eu40 (s_K_finish eS41) mok_K_finish rfl (by decide) rfl w1144 w1145 w1146 (by decide) (kr_c8 kr_c0) d_W_one_183 kr_nk (kr_kx ?_)
                                  refine r_catch_n (hd := (0, 250, 251, 138)) [] [(0, 250, 256, 81)] ⟨rfl, (fun _ hz => nomatch hz), ⟨by decide, by decide⟩, by decide, w648, w485⟩ (i := 3) (lv' := [(0, va_rf a0), (1, .int a1), (2, .int a2)]) rfl (by decide) d_W_one_251 ?_
                                  refine r_sipush (v := (-1001 : Int32)) (by decide) d_W_one_252 ?_
                                  cases h
                                  exact r_iret rfl d_W_one_255
                                replace h2 := kr_in_ c0 h2
                                by_cases c1 : E = "java/lang/IllegalStateException"
                                · subst c1
                                  replace h2 := kr_ip rfl h2
                                  clear h
                                  have h := h2
                                  clear h2
                                  refine r_callV (M1 := m_K_finish) (κ := 22) (As := [.int a2]) eu40 (s_K_finish eS41) mok_K_finish rfl (by decide) rfl w1144 w1145 w1146 (by decide) (kr_c8 kr_c0) d_W_one_183 kr_nk (kr_kx ?_)
                                  refine r_catch_n (hd := (0, 250, 256, 81)) [(0, 250, 251, 138)] [] ⟨rfl, (kr_pre ⟨"java/lang/IndexOutOfBoundsException", by decide, w648, by decide⟩ (fun _ hz => nomatch hz)), ⟨by decide, by decide⟩, by decide, w318, w397⟩ (i := 3) (lv' := [(0, va_rf a0), (1, .int a1), (2, .int a2)]) rfl (by decide) d_W_one_256 ?_
                                  refine r_sipush (v := (-1003 : Int32)) (by decide) d_W_one_257 ?_
                                  cases h
                                  exact r_iret rfl d_W_one_260
                                replace h2 := kr_in_ c1 h2
                                cases h2
                            · replace h := kr_in_ c h
                              refine r_iload_n (i := 1) (x := a1) 1 rfl d_W_one_189 ?_
                              refine r_bipush (v := (14 : Int32)) (by decide) d_W_one_190 ?_
                              refine r_icmp_ne (tgt := 203) d_W_one_192 rfl (fun c => ?_) (fun c => ?_)
                              · replace h := kr_ip c h
                                refine r_aload_n (i := 0) (x := a0) 0 rfl d_W_one_195 ?_
                                refine r_iload_n (i := 2) (x := a2) 2 rfl d_W_one_196 ?_
                                have h2 := kr_ob h
                                clear h
                                obtain ⟨⟨⟩, eu43, h⟩ := h2
                                rcases kr_obh h with ⟨v45, S44, eS44, h2⟩ | ⟨E, S44, eS44, h2⟩
                                · clear h
                                  have h := h2
                                  clear h2
                                  refine r_callV (M1 := m_K_foreign) (κ := 22) (As := [.int a2]) eu43 (s_K_foreign eS44) mok_K_foreign rfl (by decide) rfl w1161 w1162 w1163 (by decide) (kr_c8 kr_c0) d_W_one_197 (kr_k1 ?_) kr_kn
                                  refine r_goto (tgt := 250) d_W_one_200 rfl ?_
                                  cases h
                                  exact r_iret rfl d_W_one_250
                                · by_cases c0 : E = "java/lang/IndexOutOfBoundsException"
                                  · subst c0
                                    replace h2 := kr_ip rfl h2
                                    clear h
                                    have h := h2
                                    clear h2
                                    refine r_callV (M1 := m_K_foreign) (κ := 22) (As := [.int a2]) eu43 (s_K_foreign eS44) mok_K_foreign rfl (by decide) rfl w1161 w1162 w1163 (by decide) (kr_c8 kr_c0) d_W_one_197 kr_nk (kr_kx ?_)
                                    refine r_catch_n (hd := (0, 250, 251, 138)) [] [(0, 250, 256, 81)] ⟨rfl, (fun _ hz => nomatch hz), ⟨by decide, by decide⟩, by decide, w648, w485⟩ (i := 3) (lv' := [(0, va_rf a0), (1, .int a1), (2, .int a2)]) rfl (by decide) d_W_one_251 ?_
                                    refine r_sipush (v := (-1001 : Int32)) (by decide) d_W_one_252 ?_
                                    cases h
                                    exact r_iret rfl d_W_one_255
                                  replace h2 := kr_in_ c0 h2
                                  by_cases c1 : E = "java/lang/IllegalStateException"
                                  · subst c1
                                    replace h2 := kr_ip rfl h2
                                    clear h
                                    have h := h2
                                    clear h2
                                    refine r_callV (M1 := m_K_foreign) (κ := 22) (As := [.int a2]) eu43 (s_K_foreign eS44) mok_K_foreign rfl (by decide) rfl w1161 w1162 w1163 (by decide) (kr_c8 kr_c0) d_W_one_197 kr_nk (kr_kx ?_)
                                    refine r_catch_n (hd := (0, 250, 256, 81)) [(0, 250, 251, 138)] [] ⟨rfl, (kr_pre ⟨"java/lang/IndexOutOfBoundsException", by decide, w648, by decide⟩ (fun _ hz => nomatch hz)), ⟨by decide, by decide⟩, by decide, w318, w397⟩ (i := 3) (lv' := [(0, va_rf a0), (1, .int a1), (2, .int a2)]) rfl (by decide) d_W_one_256 ?_
                                    refine r_sipush (v := (-1003 : Int32)) (by decide) d_W_one_257 ?_
                                    cases h
                                    exact r_iret rfl d_W_one_260
                                  replace h2 := kr_in_ c1 h2
                                  cases h2
                              · replace h := kr_in_ c h
                                refine r_iload_n (i := 1) (x := a1) 1 rfl d_W_one_203 ?_
                                refine r_bipush (v := (15 : Int32)) (by decide) d_W_one_204 ?_
                                refine r_icmp_ne (tgt := 217) d_W_one_206 rfl (fun c => ?_) (fun c => ?_)
                                · replace h := kr_ip c h
                                  refine r_aload_n (i := 0) (x := a0) 0 rfl d_W_one_209 ?_
                                  refine r_iload_n (i := 2) (x := a2) 2 rfl d_W_one_210 ?_
                                  have h2 := kr_ob h
                                  clear h
                                  obtain ⟨⟨⟩, eu46, h⟩ := h2
                                  rcases kr_obh h with ⟨v48, S47, eS47, h2⟩ | ⟨E, S47, eS47, h2⟩
                                  · clear h
                                    have h := h2
                                    clear h2
                                    refine r_callV (M1 := m_K_leave) (κ := 22) (As := [.int a2]) eu46 (s_K_leave eS47) mok_K_leave rfl (by decide) rfl w1166 w1167 w1168 (by decide) (kr_c8 kr_c0) d_W_one_211 (kr_k1 ?_) kr_kn
                                    refine r_goto (tgt := 250) d_W_one_214 rfl ?_
                                    cases h
                                    exact r_iret rfl d_W_one_250
                                  · by_cases c0 : E = "java/lang/IndexOutOfBoundsException"
                                    · subst c0
                                      replace h2 := kr_ip rfl h2
                                      clear h
                                      have h := h2
                                      clear h2
                                      refine r_callV (M1 := m_K_leave) (κ := 22) (As := [.int a2]) eu46 (s_K_leave eS47) mok_K_leave rfl (by decide) rfl w1166 w1167 w1168 (by decide) (kr_c8 kr_c0) d_W_one_211 kr_nk (kr_kx ?_)
                                      refine r_catch_n (hd := (0, 250, 251, 138)) [] [(0, 250, 256, 81)] ⟨rfl, (fun _ hz => nomatch hz), ⟨by decide, by decide⟩, by decide, w648, w485⟩ (i := 3) (lv' := [(0, va_rf a0), (1, .int a1), (2, .int a2)]) rfl (by decide) d_W_one_251 ?_
                                      refine r_sipush (v := (-1001 : Int32)) (by decide) d_W_one_252 ?_
                                      cases h
                                      exact r_iret rfl d_W_one_255
                                    replace h2 := kr_in_ c0 h2
                                    by_cases c1 : E = "java/lang/IllegalStateException"
                                    · subst c1
                                      replace h2 := kr_ip rfl h2
                                      clear h
                                      have h := h2
                                      clear h2
                                      refine r_callV (M1 := m_K_leave) (κ := 22) (As := [.int a2]) eu46 (s_K_leave eS47) mok_K_leave rfl (by decide) rfl w1166 w1167 w1168 (by decide) (kr_c8 kr_c0) d_W_one_211 kr_nk (kr_kx ?_)
                                      refine r_catch_n (hd := (0, 250, 256, 81)) [(0, 250, 251, 138)] [] ⟨rfl, (kr_pre ⟨"java/lang/IndexOutOfBoundsException", by decide, w648, by decide⟩ (fun _ hz => nomatch hz)), ⟨by decide, by decide⟩, by decide, w318, w397⟩ (i := 3) (lv' := [(0, va_rf a0), (1, .int a1), (2, .int a2)]) rfl (by decide) d_W_one_256 ?_
                                      refine r_sipush (v := (-1003 : Int32)) (by decide) d_W_one_257 ?_
                                      cases h
                                      exact r_iret rfl d_W_one_260
                                    replace h2 := kr_in_ c1 h2
                                    cases h2
                                · replace h := kr_in_ c h
                                  refine r_iload_n (i := 1) (x := a1) 1 rfl d_W_one_217 ?_
                                  refine r_bipush (v := (16 : Int32)) (by decide) d_W_one_218 ?_
                                  refine r_icmp_ne (tgt := 231) d_W_one_220 rfl (fun c => ?_) (fun c => ?_)
                                  · replace h := kr_ip c h
                                    refine r_aload_n (i := 0) (x := a0) 0 rfl d_W_one_223 ?_
                                    refine r_iload_n (i := 2) (x := a2) 2 rfl d_W_one_224 ?_
                                    have h2 := kr_ob h
                                    clear h
                                    obtain ⟨⟨⟩, eu49, h⟩ := h2
                                    rcases kr_obh h with ⟨v51, S50, eS50, h2⟩ | ⟨E, S50, eS50, h2⟩
                                    · clear h
                                      have h := h2
                                      clear h2
                                      refine r_callV (M1 := m_K_audit) (κ := 22) (As := [.int a2]) eu49 (s_K_audit eS50) mok_K_audit rfl (by decide) rfl w1178 w1179 w1180 (by decide) (kr_c8 kr_c0) d_W_one_225 (kr_k1 ?_) kr_kn
                                      refine r_goto (tgt := 250) d_W_one_228 rfl ?_
                                      cases h
                                      exact r_iret rfl d_W_one_250
                                    · by_cases c0 : E = "java/lang/IndexOutOfBoundsException"
                                      · subst c0
                                        replace h2 := kr_ip rfl h2
                                        clear h
                                        have h := h2
                                        clear h2
                                        refine r_callV (M1 := m_K_audit) (κ := 22) (As := [.int a2]) eu49 (s_K_audit eS50) mok_K_audit rfl (by decide) rfl w1178 w1179 w1180 (by decide) (kr_c8 kr_c0) d_W_one_225 kr_nk (kr_kx ?_)
                                        refine r_catch_n (hd := (0, 250, 251, 138)) [] [(0, 250, 256, 81)] ⟨rfl, (fun _ hz => nomatch hz), ⟨by decide, by decide⟩, by decide, w648, w485⟩ (i := 3) (lv' := [(0, va_rf a0), (1, .int a1), (2, .int a2)]) rfl (by decide) d_W_one_251 ?_
                                        refine r_sipush (v := (-1001 : Int32)) (by decide) d_W_one_252 ?_
                                        cases h
                                        exact r_iret rfl d_W_one_255
                                      replace h2 := kr_in_ c0 h2
                                      by_cases c1 : E = "java/lang/IllegalStateException"
                                      · subst c1
                                        replace h2 := kr_ip rfl h2
                                        clear h
                                        have h := h2
                                        clear h2
                                        refine r_callV (M1 := m_K_audit) (κ := 22) (As := [.int a2]) eu49 (s_K_audit eS50) mok_K_audit rfl (by decide) rfl w1178 w1179 w1180 (by decide) (kr_c8 kr_c0) d_W_one_225 kr_nk (kr_kx ?_)
                                        refine r_catch_n (hd := (0, 250, 256, 81)) [(0, 250, 251, 138)] [] ⟨rfl, (kr_pre ⟨"java/lang/IndexOutOfBoundsException", by decide, w648, by decide⟩ (fun _ hz => nomatch hz)), ⟨by decide, by decide⟩, by decide, w318, w397⟩ (i := 3) (lv' := [(0, va_rf a0), (1, .int a1), (2, .int a2)]) rfl (by decide) d_W_one_256 ?_
                                        refine r_sipush (v := (-1003 : Int32)) (by decide) d_W_one_257 ?_
                                        cases h
                                        exact r_iret rfl d_W_one_260
                                      replace h2 := kr_in_ c1 h2
                                      cases h2
                                  · replace h := kr_in_ c h
                                    refine r_iload_n (i := 1) (x := a1) 1 rfl d_W_one_231 ?_
                                    refine r_bipush (v := (17 : Int32)) (by decide) d_W_one_232 ?_
                                    refine r_icmp_ne (tgt := 245) d_W_one_234 rfl (fun c => ?_) (fun c => ?_)
                                    · replace h := kr_ip c h
                                      refine r_aload_n (i := 0) (x := a0) 0 rfl d_W_one_237 ?_
                                      refine r_iload_n (i := 2) (x := a2) 2 rfl d_W_one_238 ?_
                                      have h2 := kr_ob h
                                      clear h
                                      obtain ⟨⟨⟩, eu52, h⟩ := h2
                                      rcases kr_obh h with ⟨v54, S53, eS53, h2⟩ | ⟨E, S53, eS53, h2⟩
                                      · clear h
                                        have h := h2
                                        clear h2
                                        refine r_callV (M1 := m_K_sumAnew) (κ := 22) (As := [.int a2]) eu52 (s_K_sumAnew eS53) mok_K_sumAnew rfl (by decide) rfl w1186 w1187 w1188 (by decide) (kr_c8 kr_c0) d_W_one_239 (kr_k1 ?_) kr_kn
                                        refine r_goto (tgt := 250) d_W_one_242 rfl ?_
                                        cases h
                                        exact r_iret rfl d_W_one_250
                                      · by_cases c0 : E = "java/lang/IndexOutOfBoundsException"
                                        · subst c0
                                          replace h2 := kr_ip rfl h2
                                          clear h
                                          have h := h2
                                          clear h2
                                          refine r_callV (M1 := m_K_sumAnew) (κ := 22) (As := [.int a2]) eu52 (s_K_sumAnew eS53) mok_K_sumAnew rfl (by decide) rfl w1186 w1187 w1188 (by decide) (kr_c8 kr_c0) d_W_one_239 kr_nk (kr_kx ?_)
                                          refine r_catch_n (hd := (0, 250, 251, 138)) [] [(0, 250, 256, 81)] ⟨rfl, (fun _ hz => nomatch hz), ⟨by decide, by decide⟩, by decide, w648, w485⟩ (i := 3) (lv' := [(0, va_rf a0), (1, .int a1), (2, .int a2)]) rfl (by decide) d_W_one_251 ?_
                                          refine r_sipush (v := (-1001 : Int32)) (by decide) d_W_one_252 ?_
                                          cases h
                                          exact r_iret rfl d_W_one_255
                                        replace h2 := kr_in_ c0 h2
                                        by_cases c1 : E = "java/lang/IllegalStateException"
                                        · subst c1
                                          replace h2 := kr_ip rfl h2
                                          clear h
                                          have h := h2
                                          clear h2
                                          refine r_callV (M1 := m_K_sumAnew) (κ := 22) (As := [.int a2]) eu52 (s_K_sumAnew eS53) mok_K_sumAnew rfl (by decide) rfl w1186 w1187 w1188 (by decide) (kr_c8 kr_c0) d_W_one_239 kr_nk (kr_kx ?_)
                                          refine r_catch_n (hd := (0, 250, 256, 81)) [(0, 250, 251, 138)] [] ⟨rfl, (kr_pre ⟨"java/lang/IndexOutOfBoundsException", by decide, w648, by decide⟩ (fun _ hz => nomatch hz)), ⟨by decide, by decide⟩, by decide, w318, w397⟩ (i := 3) (lv' := [(0, va_rf a0), (1, .int a1), (2, .int a2)]) rfl (by decide) d_W_one_256 ?_
                                          refine r_sipush (v := (-1003 : Int32)) (by decide) d_W_one_257 ?_
                                          cases h
                                          exact r_iret rfl d_W_one_260
                                        replace h2 := kr_in_ c1 h2
                                        cases h2
                                    · replace h := kr_in_ c h
                                      refine r_aload_n (i := 0) (x := a0) 0 rfl d_W_one_245 ?_
                                      refine r_iload_n (i := 2) (x := a2) 2 rfl d_W_one_246 ?_
                                      have h2 := kr_ob h
                                      clear h
                                      obtain ⟨⟨⟩, eu55, h⟩ := h2
                                      rcases kr_obh h with ⟨v57, S56, eS56, h2⟩ | ⟨E, S56, eS56, h2⟩
                                      · clear h
                                        have h := h2
                                        clear h2
                                        refine r_callV (M1 := m_K_weakest) (κ := 22) (As := [.int a2]) eu55 (s_K_weakest eS56) mok_K_weakest rfl (by decide) rfl w1194 w1195 w1196 (by decide) (kr_c8 kr_c0) d_W_one_247 (kr_k1 ?_) kr_kn
                                        cases h
                                        exact r_iret rfl d_W_one_250
                                      · by_cases c0 : E = "java/lang/IndexOutOfBoundsException"
                                        · subst c0
                                          replace h2 := kr_ip rfl h2
                                          clear h
                                          have h := h2
                                          clear h2
                                          refine r_callV (M1 := m_K_weakest) (κ := 22) (As := [.int a2]) eu55 (s_K_weakest eS56) mok_K_weakest rfl (by decide) rfl w1194 w1195 w1196 (by decide) (kr_c8 kr_c0) d_W_one_247 kr_nk (kr_kx ?_)
                                          refine r_catch_n (hd := (0, 250, 251, 138)) [] [(0, 250, 256, 81)] ⟨rfl, (fun _ hz => nomatch hz), ⟨by decide, by decide⟩, by decide, w648, w485⟩ (i := 3) (lv' := [(0, va_rf a0), (1, .int a1), (2, .int a2)]) rfl (by decide) d_W_one_251 ?_
                                          refine r_sipush (v := (-1001 : Int32)) (by decide) d_W_one_252 ?_
                                          cases h
                                          exact r_iret rfl d_W_one_255
                                        replace h2 := kr_in_ c0 h2
                                        by_cases c1 : E = "java/lang/IllegalStateException"
                                        · subst c1
                                          replace h2 := kr_ip rfl h2
                                          clear h
                                          have h := h2
                                          clear h2
                                          refine r_callV (M1 := m_K_weakest) (κ := 22) (As := [.int a2]) eu55 (s_K_weakest eS56) mok_K_weakest rfl (by decide) rfl w1194 w1195 w1196 (by decide) (kr_c8 kr_c0) d_W_one_247 kr_nk (kr_kx ?_)
                                          refine r_catch_n (hd := (0, 250, 256, 81)) [(0, 250, 251, 138)] [] ⟨rfl, (kr_pre ⟨"java/lang/IndexOutOfBoundsException", by decide, w648, by decide⟩ (fun _ hz => nomatch hz)), ⟨by decide, by decide⟩, by decide, w318, w397⟩ (i := 3) (lv' := [(0, va_rf a0), (1, .int a1), (2, .int a2)]) rfl (by decide) d_W_one_256 ?_
                                          refine r_sipush (v := (-1003 : Int32)) (by decide) d_W_one_257 ?_
                                          cases h
                                          exact r_iret rfl d_W_one_260
                                        replace h2 := kr_in_ c1 h2
                                        cases h2
theorem gg_W_one_gs {S : AS} {w a0 : Int32} : gs S (gg_W_one S w a0) := gs_if gmo_gs (gs_if gmo_gs (gs_if gmo_gs (gs_if gmo_gs (gs_if gmo_gs (gs_if gmo_gs (gs_if gmo_gs (gs_if gmo_gs (gs_if gmo_gs (gs_if gmo_gs (gs_if gmo_gs (gs_if gmo_gs (gs_if gmo_gs (gs_if gmo_gs (gs_if gmo_gs (gs_if gmo_gs (gs_if gmo_gs (gs_if gmo_gs (gmo_gs))))))))))))))))))
theorem s_W_oneg {S : AS} {a0 : Option Nat} {a1 a2 : Int32} {r : Int32 × AS} (h : f_W_oneg S a0 a1 a2 = some r) : kr_Con m_W_one 13 [va_rf a0, .int a1, .int a2] S (kr_eI r) := by
  unfold f_W_oneg at h
  obtain ⟨v, S1, e, h⟩ := kr_ob2 h
  cases h
  refine kr_conH rfl (by decide) (by decide +kernel) (by simp [lg_sl, kr_rfcat, kr_icat, m_W_one, mL]) ?_
  rw [show lv_args 0 [va_rf a0, .int a1, .int a2] = [(0, va_rf a0), (1, .int a1), (2, .int a2)] from by simp [lv_args, kr_rfcat, kr_icat]]
  exact kr_AWg (s_W_one e) gg_W_one_gs
/-! KeyringCourtLaw.four(LKeyringCourt;IIIII)I -/
def f_W_four_B30 (S : AS) (x5 : Int32) (y0 : Option Nat) (y1 : Int32) (y2 : Int32) (y3 : Int32) : Option (Int32 × AS) :=
  (kr_rv S 22 y0).bind fun u1 =>
  kr_bh (f_K_stepUp S y0 y1 y2 y3 x5) (fun E S2 => if E = "java/lang/IndexOutOfBoundsException" then
  some ((-1001 : Int32), S2)
  else if E = "java/lang/IllegalArgumentException" then
  some ((-1002 : Int32), S2)
  else if E = "java/lang/IllegalStateException" then
  some ((-1003 : Int32), S2)
  else none) fun v3 S2 =>
  some (v3, S2)
def f_W_four (S : AS) (a0 : Option Nat) (a1 : Int32) (a2 : Int32) (a3 : Int32) (a4 : Int32) (a5 : Int32) : Option (Int32 × AS) :=
  if a1 = 0 then
  (kr_rv S 22 a0).bind fun u4 =>
  kr_bh (f_K_authorize S a0 a2 a3 a4 a5) (fun E S5 => if E = "java/lang/IndexOutOfBoundsException" then
  some ((-1001 : Int32), S5)
  else if E = "java/lang/IllegalArgumentException" then
  some ((-1002 : Int32), S5)
  else if E = "java/lang/IllegalStateException" then
  some ((-1003 : Int32), S5)
  else none) fun v6 S5 =>
  some (v6, S5)
  else
  if a4 ≤ 0 then
  f_W_four_B30 S a5 a0 a2 a3 (0 : Int32)
  else
  f_W_four_B30 S a5 a0 a2 a3 (1 : Int32)
def gg_W_four (S : AS) (w a0 a1 a2 a3 : Int32) : AS := if w = (0 : Int32) then gmo S (f_M_authorize S (some 57) a0 a1 a2 a3) else gmo S (f_M_stepUp S (some 57) a0 a1 (if 0 < a2 then 1 else 0) a3)
def f_W_fourg (S : AS) (a0 : Option Nat) (a1 a2 a3 a4 a5 : Int32) : Option (Int32 × AS) := kr_b2 (f_W_four S a0 a1 a2 a3 a4 a5) fun v S1 => some (v, gg_W_four S1 a1 a2 a3 a4 a5)
set_option maxRecDepth 20000 in
set_option maxHeartbeats 4000000 in
theorem s_W_four_B30 {S : AS} {x5 : Int32} {y0 : Option Nat} {y1 : Int32} {y2 : Int32} {y3 : Int32} {r : (Int32 × AS)} (h : f_W_four_B30 S x5 y0 y1 y2 y3 = some r) : kr_AW m_W_four 10 30 [(5, .int x5)] [.int y3, .int y2, .int y1, va_rf y0] S (kr_eI r) := by
  unfold f_W_four_B30 at h
  refine r_iload (i := 5) (x := x5) 0 rfl d_W_four_30 ?_
  have h2 := kr_ob h
  clear h
  obtain ⟨⟨⟩, eu1, h⟩ := h2
  rcases kr_obh h with ⟨v3, S2, eS2, h2⟩ | ⟨E, S2, eS2, h2⟩
  · clear h
    have h := h2
    clear h2
    refine r_callV (M1 := m_K_stepUp) (κ := 22) (As := [.int y1, .int y2, .int y3, .int x5]) eu1 (s_K_stepUp eS2) mok_K_stepUp rfl (by decide) rfl w1292 w1293 w1294 (by decide) (kr_c8 kr_c0) d_W_four_32 (kr_k1 ?_) kr_kn
    cases h
    exact r_iret rfl d_W_four_35
  · by_cases c0 : E = "java/lang/IndexOutOfBoundsException"
    · subst c0
      replace h2 := kr_ip rfl h2
      clear h
      have h := h2
      clear h2
      refine r_callV (M1 := m_K_stepUp) (κ := 22) (As := [.int y1, .int y2, .int y3, .int x5]) eu1 (s_K_stepUp eS2) mok_K_stepUp rfl (by decide) rfl w1292 w1293 w1294 (by decide) (kr_c8 kr_c0) d_W_four_32 kr_nk (kr_kx ?_)
      refine r_catch (hd := (0, 35, 36, 138)) [] [(0, 35, 42, 79), (0, 35, 48, 81)] ⟨rfl, (fun _ hz => nomatch hz), ⟨by decide, by decide⟩, by decide, w648, w485⟩ (i := 6) (lv' := [(5, .int x5)]) rfl (by decide) d_W_four_36 ?_
      refine r_sipush (v := (-1001 : Int32)) (by decide) d_W_four_38 ?_
      cases h
      exact r_iret rfl d_W_four_41
    replace h2 := kr_in_ c0 h2
    by_cases c1 : E = "java/lang/IllegalArgumentException"
    · subst c1
      replace h2 := kr_ip rfl h2
      clear h
      have h := h2
      clear h2
      refine r_callV (M1 := m_K_stepUp) (κ := 22) (As := [.int y1, .int y2, .int y3, .int x5]) eu1 (s_K_stepUp eS2) mok_K_stepUp rfl (by decide) rfl w1292 w1293 w1294 (by decide) (kr_c8 kr_c0) d_W_four_32 kr_nk (kr_kx ?_)
      refine r_catch (hd := (0, 35, 42, 79)) [(0, 35, 36, 138)] [(0, 35, 48, 81)] ⟨rfl, (kr_pre ⟨"java/lang/IndexOutOfBoundsException", by decide, w648, by decide⟩ (fun _ hz => nomatch hz)), ⟨by decide, by decide⟩, by decide, w317, w331⟩ (i := 6) (lv' := [(5, .int x5)]) rfl (by decide) d_W_four_42 ?_
      refine r_sipush (v := (-1002 : Int32)) (by decide) d_W_four_44 ?_
      cases h
      exact r_iret rfl d_W_four_47
    replace h2 := kr_in_ c1 h2
    by_cases c2 : E = "java/lang/IllegalStateException"
    · subst c2
      replace h2 := kr_ip rfl h2
      clear h
      have h := h2
      clear h2
      refine r_callV (M1 := m_K_stepUp) (κ := 22) (As := [.int y1, .int y2, .int y3, .int x5]) eu1 (s_K_stepUp eS2) mok_K_stepUp rfl (by decide) rfl w1292 w1293 w1294 (by decide) (kr_c8 kr_c0) d_W_four_32 kr_nk (kr_kx ?_)
      refine r_catch (hd := (0, 35, 48, 81)) [(0, 35, 36, 138), (0, 35, 42, 79)] [] ⟨rfl, (kr_pre ⟨"java/lang/IndexOutOfBoundsException", by decide, w648, by decide⟩ (kr_pre ⟨"java/lang/IllegalArgumentException", by decide, w317, by decide⟩ (fun _ hz => nomatch hz))), ⟨by decide, by decide⟩, by decide, w318, w397⟩ (i := 6) (lv' := [(5, .int x5)]) rfl (by decide) d_W_four_48 ?_
      refine r_sipush (v := (-1003 : Int32)) (by decide) d_W_four_50 ?_
      cases h
      exact r_iret rfl d_W_four_53
    replace h2 := kr_in_ c2 h2
    cases h2
set_option maxRecDepth 20000 in
set_option maxHeartbeats 4000000 in
theorem s_W_four {S : AS} {a0 : Option Nat} {a1 : Int32} {a2 : Int32} {a3 : Int32} {a4 : Int32} {a5 : Int32} {r : (Int32 × AS)} (h : f_W_four S a0 a1 a2 a3 a4 a5 = some r) : kr_AW m_W_four 10 0 [(0, va_rf a0), (1, .int a1), (2, .int a2), (3, .int a3), (4, .int a4), (5, .int a5)] [] S (kr_eI r) := by
  unfold f_W_four at h
  refine r_iload_n (i := 1) (x := a1) 1 rfl d_W_four_0 ?_
  refine r_if_ne (tgt := 17) d_W_four_1 rfl (fun c => ?_) (fun c => ?_)
  · replace h := kr_ip c h
    refine r_aload_n (i := 0) (x := a0) 0 rfl d_W_four_4 ?_
    refine r_iload_n (i := 2) (x := a2) 2 rfl d_W_four_5 ?_
    refine r_iload_n (i := 3) (x := a3) 3 rfl d_W_four_6 ?_
    refine r_iload (i := 4) (x := a4) 4 rfl d_W_four_7 ?_
    refine r_iload (i := 5) (x := a5) 5 rfl d_W_four_9 ?_
    have h2 := kr_ob h
    clear h
    obtain ⟨⟨⟩, eu4, h⟩ := h2
    rcases kr_obh h with ⟨v6, S5, eS5, h2⟩ | ⟨E, S5, eS5, h2⟩
    · clear h
      have h := h2
      clear h2
      refine r_callV (M1 := m_K_authorize) (κ := 22) (As := [.int a2, .int a3, .int a4, .int a5]) eu4 (s_K_authorize eS5) mok_K_authorize rfl (by decide) rfl w1233 w1234 w1235 (by decide) (kr_c8 kr_c0) d_W_four_11 (kr_k1 ?_) kr_kn
      refine r_goto (tgt := 35) d_W_four_14 rfl ?_
      cases h
      exact r_iret rfl d_W_four_35
    · by_cases c0 : E = "java/lang/IndexOutOfBoundsException"
      · subst c0
        replace h2 := kr_ip rfl h2
        clear h
        have h := h2
        clear h2
        refine r_callV (M1 := m_K_authorize) (κ := 22) (As := [.int a2, .int a3, .int a4, .int a5]) eu4 (s_K_authorize eS5) mok_K_authorize rfl (by decide) rfl w1233 w1234 w1235 (by decide) (kr_c8 kr_c0) d_W_four_11 kr_nk (kr_kx ?_)
        refine r_catch (hd := (0, 35, 36, 138)) [] [(0, 35, 42, 79), (0, 35, 48, 81)] ⟨rfl, (fun _ hz => nomatch hz), ⟨by decide, by decide⟩, by decide, w648, w485⟩ (i := 6) (lv' := [(0, va_rf a0), (1, .int a1), (2, .int a2), (3, .int a3), (4, .int a4), (5, .int a5)]) rfl (by decide) d_W_four_36 ?_
        refine r_sipush (v := (-1001 : Int32)) (by decide) d_W_four_38 ?_
        cases h
        exact r_iret rfl d_W_four_41
      replace h2 := kr_in_ c0 h2
      by_cases c1 : E = "java/lang/IllegalArgumentException"
      · subst c1
        replace h2 := kr_ip rfl h2
        clear h
        have h := h2
        clear h2
        refine r_callV (M1 := m_K_authorize) (κ := 22) (As := [.int a2, .int a3, .int a4, .int a5]) eu4 (s_K_authorize eS5) mok_K_authorize rfl (by decide) rfl w1233 w1234 w1235 (by decide) (kr_c8 kr_c0) d_W_four_11 kr_nk (kr_kx ?_)
        refine r_catch (hd := (0, 35, 42, 79)) [(0, 35, 36, 138)] [(0, 35, 48, 81)] ⟨rfl, (kr_pre ⟨"java/lang/IndexOutOfBoundsException", by decide, w648, by decide⟩ (fun _ hz => nomatch hz)), ⟨by decide, by decide⟩, by decide, w317, w331⟩ (i := 6) (lv' := [(0, va_rf a0), (1, .int a1), (2, .int a2), (3, .int a3), (4, .int a4), (5, .int a5)]) rfl (by decide) d_W_four_42 ?_
        refine r_sipush (v := (-1002 : Int32)) (by decide) d_W_four_44 ?_
        cases h
        exact r_iret rfl d_W_four_47
      replace h2 := kr_in_ c1 h2
      by_cases c2 : E = "java/lang/IllegalStateException"
      · subst c2
        replace h2 := kr_ip rfl h2
        clear h
        have h := h2
        clear h2
        refine r_callV (M1 := m_K_authorize) (κ := 22) (As := [.int a2, .int a3, .int a4, .int a5]) eu4 (s_K_authorize eS5) mok_K_authorize rfl (by decide) rfl w1233 w1234 w1235 (by decide) (kr_c8 kr_c0) d_W_four_11 kr_nk (kr_kx ?_)
        refine r_catch (hd := (0, 35, 48, 81)) [(0, 35, 36, 138), (0, 35, 42, 79)] [] ⟨rfl, (kr_pre ⟨"java/lang/IndexOutOfBoundsException", by decide, w648, by decide⟩ (kr_pre ⟨"java/lang/IllegalArgumentException", by decide, w317, by decide⟩ (fun _ hz => nomatch hz))), ⟨by decide, by decide⟩, by decide, w318, w397⟩ (i := 6) (lv' := [(0, va_rf a0), (1, .int a1), (2, .int a2), (3, .int a3), (4, .int a4), (5, .int a5)]) rfl (by decide) d_W_four_48 ?_
        refine r_sipush (v := (-1003 : Int32)) (by decide) d_W_four_50 ?_
        cases h
        exact r_iret rfl d_W_four_53
      replace h2 := kr_in_ c2 h2
      cases h2
  · replace h := kr_in_ c h
    refine r_aload_n (i := 0) (x := a0) 0 rfl d_W_four_17 ?_
    refine r_iload_n (i := 2) (x := a2) 2 rfl d_W_four_18 ?_
    refine r_iload_n (i := 3) (x := a3) 3 rfl d_W_four_19 ?_
    refine r_iload (i := 4) (x := a4) 4 rfl d_W_four_20 ?_
    refine r_if_le (tgt := 29) d_W_four_22 rfl (fun c => ?_) (fun c => ?_)
    · replace h := kr_ip c h
      refine r_iconst (v := (0 : Int32)) (by decide) d_W_four_29 ?_
      exact kr_sub [5] rfl (s_W_four_B30 h)
    · replace h := kr_in_ c h
      refine r_iconst (v := (1 : Int32)) (by decide) d_W_four_25 ?_
      refine r_goto (tgt := 30) d_W_four_26 rfl ?_
      exact kr_sub [5] rfl (s_W_four_B30 h)
theorem gg_W_four_gs {S : AS} {w a0 a1 a2 a3 : Int32} : gs S (gg_W_four S w a0 a1 a2 a3) := gs_if gmo_gs (gmo_gs)
theorem s_W_fourg {S : AS} {a0 : Option Nat} {a1 a2 a3 a4 a5 : Int32} {r : Int32 × AS} (h : f_W_fourg S a0 a1 a2 a3 a4 a5 = some r) : kr_Con m_W_four 10 [va_rf a0, .int a1, .int a2, .int a3, .int a4, .int a5] S (kr_eI r) := by
  unfold f_W_fourg at h
  obtain ⟨v, S1, e, h⟩ := kr_ob2 h
  cases h
  refine kr_conH rfl (by decide) (by decide +kernel) (by simp [lg_sl, kr_rfcat, kr_icat, m_W_four, mL]) ?_
  rw [show lv_args 0 [va_rf a0, .int a1, .int a2, .int a3, .int a4, .int a5] = [(0, va_rf a0), (1, .int a1), (2, .int a2), (3, .int a3), (4, .int a4), (5, .int a5)] from by simp [lv_args, kr_rfcat, kr_icat]]
  exact kr_AWg (s_W_four e) gg_W_four_gs
/-! KeyringCourtLaw.shown([I[III)I -/
def f_W_shown (S : AS) (a0 : Option Nat) (a1 : Option Nat) (a2 : Int32) (a3 : Int32) : Option (Int32 × AS) :=
  (aI S 40 a1 (((3 : Int32) * a2) + a3)).bind fun v1 =>
  if v1 < 0 then
  some ((-1 : Int32), S)
  else
  (aI S 40 a0 (0 : Int32)).bind fun v2 =>
  (aI S 40 a1 (((3 : Int32) * a2) + a3)).bind fun v3 =>
  if (121 : Int32) ≤ (v2 - v3) then
  some ((-1 : Int32), S)
  else
  some ((1 : Int32), S)
set_option maxRecDepth 20000 in
set_option maxHeartbeats 4000000 in
theorem s_W_shown {S : AS} {a0 : Option Nat} {a1 : Option Nat} {a2 : Int32} {a3 : Int32} {r : (Int32 × AS)} (h : f_W_shown S a0 a1 a2 a3 = some r) : kr_Con m_W_shown 0 [va_rf a0, va_rf a1, .int a2, .int a3] S (kr_eI r) := by
  refine kr_con rfl rfl (by decide +kernel) (by simp [lg_sl, kr_rfcat, kr_icat, m_W_shown, mL]) ?_
  rw [show lv_args 0 [va_rf a0, va_rf a1, .int a2, .int a3] = [(0, va_rf a0), (1, va_rf a1), (2, .int a2), (3, .int a3)] from by simp [lv_args, kr_rfcat, kr_icat]]
  unfold f_W_shown at h
  refine r_aload_n (i := 1) (x := a1) 1 rfl d_W_shown_0 ?_
  refine r_iconst (v := (3 : Int32)) (by decide) d_W_shown_1 ?_
  refine r_iload_n (i := 2) (x := a2) 2 rfl d_W_shown_2 ?_
  refine r_imul d_W_shown_3 ?_
  refine r_iload_n (i := 3) (x := a3) 3 rfl d_W_shown_4 ?_
  refine r_iadd d_W_shown_5 ?_
  have h2 := kr_ob h
  clear h
  obtain ⟨v1, ev1, h⟩ := h2
  refine r_iaload ev1 d_W_shown_6 ?_
  refine r_if_lt (tgt := 30) d_W_shown_7 rfl (fun c => ?_) (fun c => ?_)
  · replace h := kr_ip c h
    refine r_iconst (v := (-1 : Int32)) (by decide) d_W_shown_30 ?_
    cases h
    exact r_iret rfl d_W_shown_31
  · replace h := kr_in_ c h
    refine r_aload_n (i := 0) (x := a0) 0 rfl d_W_shown_10 ?_
    refine r_iconst (v := (0 : Int32)) (by decide) d_W_shown_11 ?_
    have h2 := kr_ob h
    clear h
    obtain ⟨v2, ev2, h⟩ := h2
    refine r_iaload ev2 d_W_shown_12 ?_
    refine r_aload_n (i := 1) (x := a1) 1 rfl d_W_shown_13 ?_
    refine r_iconst (v := (3 : Int32)) (by decide) d_W_shown_14 ?_
    refine r_iload_n (i := 2) (x := a2) 2 rfl d_W_shown_15 ?_
    refine r_imul d_W_shown_16 ?_
    refine r_iload_n (i := 3) (x := a3) 3 rfl d_W_shown_17 ?_
    refine r_iadd d_W_shown_18 ?_
    have h2 := kr_ob h
    clear h
    obtain ⟨v3, ev3, h⟩ := h2
    refine r_iaload ev3 d_W_shown_19 ?_
    refine r_isub d_W_shown_20 ?_
    refine r_bipush (v := (121 : Int32)) (by decide) d_W_shown_21 ?_
    refine r_icmp_ge (tgt := 30) d_W_shown_23 rfl (fun c => ?_) (fun c => ?_)
    · replace h := kr_ip c h
      refine r_iconst (v := (-1 : Int32)) (by decide) d_W_shown_30 ?_
      cases h
      exact r_iret rfl d_W_shown_31
    · replace h := kr_in_ c h
      refine r_iconst (v := (1 : Int32)) (by decide) d_W_shown_26 ?_
      refine r_goto (tgt := 31) d_W_shown_27 rfl ?_
      cases h
      exact r_iret rfl d_W_shown_31
/-! KeyringCourtLaw.levelOf([I[II)I -/
def f_W_levelOf (S : AS) (a0 : Option Nat) (a1 : Option Nat) (a2 : Int32) : Option (Int32 × AS) :=
  kr_b2 (f_W_shown S a0 a1 a2 (0 : Int32)) fun v2 S1 =>
  kr_b2 (f_W_shown S1 a0 a1 a2 (1 : Int32)) fun v4 S3 =>
  kr_b2 (f_W_shown S3 a0 a1 a2 (2 : Int32)) fun v6 S5 =>
  kr_b2 (f_W_level S5 v2 v4 v6) fun v8 S7 =>
  some (v8, S7)
set_option maxRecDepth 20000 in
set_option maxHeartbeats 4000000 in
theorem s_W_levelOf {S : AS} {a0 : Option Nat} {a1 : Option Nat} {a2 : Int32} {r : (Int32 × AS)} (h : f_W_levelOf S a0 a1 a2 = some r) : kr_Con m_W_levelOf 1 [va_rf a0, va_rf a1, .int a2] S (kr_eI r) := by
  refine kr_con rfl rfl (by decide +kernel) (by simp [lg_sl, kr_rfcat, kr_icat, m_W_levelOf, mL]) ?_
  rw [show lv_args 0 [va_rf a0, va_rf a1, .int a2] = [(0, va_rf a0), (1, va_rf a1), (2, .int a2)] from by simp [lv_args, kr_rfcat, kr_icat]]
  unfold f_W_levelOf at h
  refine r_aload_n (i := 0) (x := a0) 0 rfl d_W_levelOf_0 ?_
  refine r_aload_n (i := 1) (x := a1) 1 rfl d_W_levelOf_1 ?_
  refine r_iload_n (i := 2) (x := a2) 2 rfl d_W_levelOf_2 ?_
  refine r_iconst (v := (0 : Int32)) (by decide) d_W_levelOf_3 ?_
  have h2 := kr_ob2 h
  clear h
  obtain ⟨v2, S1, eS1, h⟩ := h2
  refine r_callS (M1 := m_W_shown) (As := [va_rf a0, va_rf a1, .int a2, .int (0 : Int32)]) (s_W_shown eS1) mok_W_shown rfl w1299 w1300 (by decide) (kr_c8 kr_c0) d_W_levelOf_4 (kr_k1 ?_) kr_kn
  refine r_aload_n (i := 0) (x := a0) 0 rfl d_W_levelOf_7 ?_
  refine r_aload_n (i := 1) (x := a1) 1 rfl d_W_levelOf_8 ?_
  refine r_iload_n (i := 2) (x := a2) 2 rfl d_W_levelOf_9 ?_
  refine r_iconst (v := (1 : Int32)) (by decide) d_W_levelOf_10 ?_
  have h2 := kr_ob2 h
  clear h
  obtain ⟨v4, S3, eS3, h⟩ := h2
  refine r_callS (M1 := m_W_shown) (As := [va_rf a0, va_rf a1, .int a2, .int (1 : Int32)]) (s_W_shown eS3) mok_W_shown rfl w1299 w1300 (by decide) (kr_c8 (kr_cI kr_c0)) d_W_levelOf_11 (kr_k1 ?_) kr_kn
  refine r_aload_n (i := 0) (x := a0) 0 rfl d_W_levelOf_14 ?_
  refine r_aload_n (i := 1) (x := a1) 1 rfl d_W_levelOf_15 ?_
  refine r_iload_n (i := 2) (x := a2) 2 rfl d_W_levelOf_16 ?_
  refine r_iconst (v := (2 : Int32)) (by decide) d_W_levelOf_17 ?_
  have h2 := kr_ob2 h
  clear h
  obtain ⟨v6, S5, eS5, h⟩ := h2
  refine r_callS (M1 := m_W_shown) (As := [va_rf a0, va_rf a1, .int a2, .int (2 : Int32)]) (s_W_shown eS5) mok_W_shown rfl w1299 w1300 (by decide) (kr_c8 (kr_cI (kr_cI kr_c0))) d_W_levelOf_18 (kr_k1 ?_) kr_kn
  have h2 := kr_ob2 h
  clear h
  obtain ⟨v8, S7, eS7, h⟩ := h2
  refine r_callS (M1 := m_W_level) (As := [.int v2, .int v4, .int v6]) (s_W_level eS7) mok_W_level rfl w1023 w1024 (by decide) (kr_c8 kr_c0) d_W_levelOf_21 (kr_k1 ?_) kr_kn
  cases h
  exact r_iret rfl d_W_levelOf_24
/-! KeyringCourtLaw.is(LKeyringCourt;II)I -/
def f_W_is_B71 (S : AS) : Option (Int32 × AS) :=
  some ((1 : Int32), S)
def f_W_is (S : AS) (a0 : Option Nat) (a1 : Int32) (a2 : Int32) : Option (Int32 × AS) :=
  if a1 = 0 then
  (kr_rv S 22 a0).bind fun u1 =>
  kr_bh (f_K_isLive S a0 a2) (fun E S2 => if E = "java/lang/IndexOutOfBoundsException" then
  some ((-1001 : Int32), S2)
  else none) fun v3 S2 =>
  if v3 = 0 then
  some ((0 : Int32), S2)
  else
  f_W_is_B71 S2
  else
  if a1 = (1 : Int32) then
  (kr_rv S 22 a0).bind fun u4 =>
  kr_bh (f_K_isLiveByAudit S a0 a2) (fun E S5 => if E = "java/lang/IndexOutOfBoundsException" then
  some ((-1001 : Int32), S5)
  else none) fun v6 S5 =>
  if v6 = 0 then
  some ((0 : Int32), S5)
  else
  f_W_is_B71 S5
  else
  if a1 = (2 : Int32) then
  (kr_rv S 22 a0).bind fun u7 =>
  kr_bh (f_K_isGood S a0 a2) (fun E S8 => if E = "java/lang/IndexOutOfBoundsException" then
  some ((-1001 : Int32), S8)
  else none) fun v9 S8 =>
  if v9 = 0 then
  some ((0 : Int32), S8)
  else
  f_W_is_B71 S8
  else
  if a1 = (3 : Int32) then
  (kr_rv S 22 a0).bind fun u10 =>
  kr_bh (f_K_isPublished S a0 a2) (fun E S11 => if E = "java/lang/IndexOutOfBoundsException" then
  some ((-1001 : Int32), S11)
  else none) fun v12 S11 =>
  if v12 = 0 then
  some ((0 : Int32), S11)
  else
  f_W_is_B71 S11
  else
  (kr_rv S 22 a0).bind fun u13 =>
  kr_bh (f_K_helper S a0 a2) (fun E S14 => if E = "java/lang/IndexOutOfBoundsException" then
  some ((-1001 : Int32), S14)
  else none) fun v15 S14 =>
  if v15 = 0 then
  some ((0 : Int32), S14)
  else
  f_W_is_B71 S14
def gg_W_is (S : AS) (w a0 : Int32) : AS := if w = (0 : Int32) then gmo S (f_M_isLive S (some 57) a0) else if w = (1 : Int32) then gmo S (f_M_isLiveByAudit S (some 57) a0) else if w = (2 : Int32) then gmo S (f_M_isGood S (some 57) a0) else if w = (3 : Int32) then gmo S (f_M_isPublished S (some 57) a0) else gmo S (f_M_helper S (some 57) a0)
def f_W_isg (S : AS) (a0 : Option Nat) (a1 a2 : Int32) : Option (Int32 × AS) := kr_b2 (f_W_is S a0 a1 a2) fun v S1 => some (v, gg_W_is S1 a1 a2)
set_option maxRecDepth 20000 in
set_option maxHeartbeats 4000000 in
theorem s_W_is_B71 {S : AS} {r : (Int32 × AS)} (h : f_W_is_B71 S = some r) : kr_AW m_W_is 10 71 [] [] S (kr_eI r) := by
  unfold f_W_is_B71 at h
  refine r_iconst (v := (1 : Int32)) (by decide) d_W_is_71 ?_
  refine r_goto (tgt := 76) d_W_is_72 rfl ?_
  cases h
  exact r_iret rfl d_W_is_76
set_option maxRecDepth 20000 in
set_option maxHeartbeats 4000000 in
theorem s_W_is {S : AS} {a0 : Option Nat} {a1 : Int32} {a2 : Int32} {r : (Int32 × AS)} (h : f_W_is S a0 a1 a2 = some r) : kr_AW m_W_is 10 0 [(0, va_rf a0), (1, .int a1), (2, .int a2)] [] S (kr_eI r) := by
  unfold f_W_is at h
  refine r_iload_n (i := 1) (x := a1) 1 rfl d_W_is_0 ?_
  refine r_if_ne (tgt := 15) d_W_is_1 rfl (fun c => ?_) (fun c => ?_)
  · replace h := kr_ip c h
    refine r_aload_n (i := 0) (x := a0) 0 rfl d_W_is_4 ?_
    refine r_iload_n (i := 2) (x := a2) 2 rfl d_W_is_5 ?_
    have h2 := kr_ob h
    clear h
    obtain ⟨⟨⟩, eu1, h⟩ := h2
    rcases kr_obh h with ⟨v3, S2, eS2, h2⟩ | ⟨E, S2, eS2, h2⟩
    · clear h
      have h := h2
      clear h2
      refine r_callV (M1 := m_K_isLive) (κ := 22) (As := [.int a2]) eu1 (s_K_isLive eS2) mok_K_isLive rfl (by decide) rfl w1305 w1306 w1307 (by decide) (kr_c8 kr_c0) d_W_is_6 (kr_k1 ?_) kr_kn
      refine r_if_eq (tgt := 75) d_W_is_9 rfl (fun c => ?_) (fun c => ?_)
      · replace h := kr_ip c h
        refine r_iconst (v := (0 : Int32)) (by decide) d_W_is_75 ?_
        cases h
        exact r_iret rfl d_W_is_76
      · replace h := kr_in_ c h
        refine r_goto (tgt := 71) d_W_is_12 rfl ?_
        exact kr_sub [] rfl (s_W_is_B71 h)
    · by_cases c0 : E = "java/lang/IndexOutOfBoundsException"
      · subst c0
        replace h2 := kr_ip rfl h2
        clear h
        have h := h2
        clear h2
        refine r_callV (M1 := m_K_isLive) (κ := 22) (As := [.int a2]) eu1 (s_K_isLive eS2) mok_K_isLive rfl (by decide) rfl w1305 w1306 w1307 (by decide) (kr_c8 kr_c0) d_W_is_6 kr_nk (kr_kx ?_)
        refine r_catch_n (hd := (0, 76, 77, 138)) [] [] ⟨rfl, (fun _ hz => nomatch hz), ⟨by decide, by decide⟩, by decide, w648, w485⟩ (i := 3) (lv' := [(0, va_rf a0), (1, .int a1), (2, .int a2)]) rfl (by decide) d_W_is_77 ?_
        refine r_sipush (v := (-1001 : Int32)) (by decide) d_W_is_78 ?_
        cases h
        exact r_iret rfl d_W_is_81
      replace h2 := kr_in_ c0 h2
      cases h2
  · replace h := kr_in_ c h
    refine r_iload_n (i := 1) (x := a1) 1 rfl d_W_is_15 ?_
    refine r_iconst (v := (1 : Int32)) (by decide) d_W_is_16 ?_
    refine r_icmp_ne (tgt := 31) d_W_is_17 rfl (fun c => ?_) (fun c => ?_)
    · replace h := kr_ip c h
      refine r_aload_n (i := 0) (x := a0) 0 rfl d_W_is_20 ?_
      refine r_iload_n (i := 2) (x := a2) 2 rfl d_W_is_21 ?_
      have h2 := kr_ob h
      clear h
      obtain ⟨⟨⟩, eu4, h⟩ := h2
      rcases kr_obh h with ⟨v6, S5, eS5, h2⟩ | ⟨E, S5, eS5, h2⟩
      · clear h
        have h := h2
        clear h2
        refine r_callV (M1 := m_K_isLiveByAudit) (κ := 22) (As := [.int a2]) eu4 (s_K_isLiveByAudit eS5) mok_K_isLiveByAudit rfl (by decide) rfl w1309 w1310 w1311 (by decide) (kr_c8 kr_c0) d_W_is_22 (kr_k1 ?_) kr_kn
        refine r_if_eq (tgt := 75) d_W_is_25 rfl (fun c => ?_) (fun c => ?_)
        · replace h := kr_ip c h
          refine r_iconst (v := (0 : Int32)) (by decide) d_W_is_75 ?_
          cases h
          exact r_iret rfl d_W_is_76
        · replace h := kr_in_ c h
          refine r_goto (tgt := 71) d_W_is_28 rfl ?_
          exact kr_sub [] rfl (s_W_is_B71 h)
      · by_cases c0 : E = "java/lang/IndexOutOfBoundsException"
        · subst c0
          replace h2 := kr_ip rfl h2
          clear h
          have h := h2
          clear h2
          refine r_callV (M1 := m_K_isLiveByAudit) (κ := 22) (As := [.int a2]) eu4 (s_K_isLiveByAudit eS5) mok_K_isLiveByAudit rfl (by decide) rfl w1309 w1310 w1311 (by decide) (kr_c8 kr_c0) d_W_is_22 kr_nk (kr_kx ?_)
          refine r_catch_n (hd := (0, 76, 77, 138)) [] [] ⟨rfl, (fun _ hz => nomatch hz), ⟨by decide, by decide⟩, by decide, w648, w485⟩ (i := 3) (lv' := [(0, va_rf a0), (1, .int a1), (2, .int a2)]) rfl (by decide) d_W_is_77 ?_
          refine r_sipush (v := (-1001 : Int32)) (by decide) d_W_is_78 ?_
          cases h
          exact r_iret rfl d_W_is_81
        replace h2 := kr_in_ c0 h2
        cases h2
    · replace h := kr_in_ c h
      refine r_iload_n (i := 1) (x := a1) 1 rfl d_W_is_31 ?_
      refine r_iconst (v := (2 : Int32)) (by decide) d_W_is_32 ?_
      refine r_icmp_ne (tgt := 47) d_W_is_33 rfl (fun c => ?_) (fun c => ?_)
      · replace h := kr_ip c h
        refine r_aload_n (i := 0) (x := a0) 0 rfl d_W_is_36 ?_
        refine r_iload_n (i := 2) (x := a2) 2 rfl d_W_is_37 ?_
        have h2 := kr_ob h
        clear h
        obtain ⟨⟨⟩, eu7, h⟩ := h2
        rcases kr_obh h with ⟨v9, S8, eS8, h2⟩ | ⟨E, S8, eS8, h2⟩
        · clear h
          have h := h2
          clear h2
          refine r_callV (M1 := m_K_isGood) (κ := 22) (As := [.int a2]) eu7 (s_K_isGood eS8) mok_K_isGood rfl (by decide) rfl w1318 w1319 w1320 (by decide) (kr_c8 kr_c0) d_W_is_38 (kr_k1 ?_) kr_kn
          refine r_if_eq (tgt := 75) d_W_is_41 rfl (fun c => ?_) (fun c => ?_)
          · replace h := kr_ip c h
            refine r_iconst (v := (0 : Int32)) (by decide) d_W_is_75 ?_
            cases h
            exact r_iret rfl d_W_is_76
          · replace h := kr_in_ c h
            refine r_goto (tgt := 71) d_W_is_44 rfl ?_
            exact kr_sub [] rfl (s_W_is_B71 h)
        · by_cases c0 : E = "java/lang/IndexOutOfBoundsException"
          · subst c0
            replace h2 := kr_ip rfl h2
            clear h
            have h := h2
            clear h2
            refine r_callV (M1 := m_K_isGood) (κ := 22) (As := [.int a2]) eu7 (s_K_isGood eS8) mok_K_isGood rfl (by decide) rfl w1318 w1319 w1320 (by decide) (kr_c8 kr_c0) d_W_is_38 kr_nk (kr_kx ?_)
            refine r_catch_n (hd := (0, 76, 77, 138)) [] [] ⟨rfl, (fun _ hz => nomatch hz), ⟨by decide, by decide⟩, by decide, w648, w485⟩ (i := 3) (lv' := [(0, va_rf a0), (1, .int a1), (2, .int a2)]) rfl (by decide) d_W_is_77 ?_
            refine r_sipush (v := (-1001 : Int32)) (by decide) d_W_is_78 ?_
            cases h
            exact r_iret rfl d_W_is_81
          replace h2 := kr_in_ c0 h2
          cases h2
      · replace h := kr_in_ c h
        refine r_iload_n (i := 1) (x := a1) 1 rfl d_W_is_47 ?_
        refine r_iconst (v := (3 : Int32)) (by decide) d_W_is_48 ?_
        refine r_icmp_ne (tgt := 63) d_W_is_49 rfl (fun c => ?_) (fun c => ?_)
        · replace h := kr_ip c h
          refine r_aload_n (i := 0) (x := a0) 0 rfl d_W_is_52 ?_
          refine r_iload_n (i := 2) (x := a2) 2 rfl d_W_is_53 ?_
          have h2 := kr_ob h
          clear h
          obtain ⟨⟨⟩, eu10, h⟩ := h2
          rcases kr_obh h with ⟨v12, S11, eS11, h2⟩ | ⟨E, S11, eS11, h2⟩
          · clear h
            have h := h2
            clear h2
            refine r_callV (M1 := m_K_isPublished) (κ := 22) (As := [.int a2]) eu10 (s_K_isPublished eS11) mok_K_isPublished rfl (by decide) rfl w1322 w1323 w1324 (by decide) (kr_c8 kr_c0) d_W_is_54 (kr_k1 ?_) kr_kn
            refine r_if_eq (tgt := 75) d_W_is_57 rfl (fun c => ?_) (fun c => ?_)
            · replace h := kr_ip c h
              refine r_iconst (v := (0 : Int32)) (by decide) d_W_is_75 ?_
              cases h
              exact r_iret rfl d_W_is_76
            · replace h := kr_in_ c h
              refine r_goto (tgt := 71) d_W_is_60 rfl ?_
              exact kr_sub [] rfl (s_W_is_B71 h)
          · by_cases c0 : E = "java/lang/IndexOutOfBoundsException"
            · subst c0
              replace h2 := kr_ip rfl h2
              clear h
              have h := h2
              clear h2
              refine r_callV (M1 := m_K_isPublished) (κ := 22) (As := [.int a2]) eu10 (s_K_isPublished eS11) mok_K_isPublished rfl (by decide) rfl w1322 w1323 w1324 (by decide) (kr_c8 kr_c0) d_W_is_54 kr_nk (kr_kx ?_)
              refine r_catch_n (hd := (0, 76, 77, 138)) [] [] ⟨rfl, (fun _ hz => nomatch hz), ⟨by decide, by decide⟩, by decide, w648, w485⟩ (i := 3) (lv' := [(0, va_rf a0), (1, .int a1), (2, .int a2)]) rfl (by decide) d_W_is_77 ?_
              refine r_sipush (v := (-1001 : Int32)) (by decide) d_W_is_78 ?_
              cases h
              exact r_iret rfl d_W_is_81
            replace h2 := kr_in_ c0 h2
            cases h2
        · replace h := kr_in_ c h
          refine r_aload_n (i := 0) (x := a0) 0 rfl d_W_is_63 ?_
          refine r_iload_n (i := 2) (x := a2) 2 rfl d_W_is_64 ?_
          have h2 := kr_ob h
          clear h
          obtain ⟨⟨⟩, eu13, h⟩ := h2
          rcases kr_obh h with ⟨v15, S14, eS14, h2⟩ | ⟨E, S14, eS14, h2⟩
          · clear h
            have h := h2
            clear h2
            refine r_callV (M1 := m_K_helper) (κ := 22) (As := [.int a2]) eu13 (s_K_helper eS14) mok_K_helper rfl (by decide) rfl w1326 w1327 w1328 (by decide) (kr_c8 kr_c0) d_W_is_65 (kr_k1 ?_) kr_kn
            refine r_if_eq (tgt := 75) d_W_is_68 rfl (fun c => ?_) (fun c => ?_)
            · replace h := kr_ip c h
              refine r_iconst (v := (0 : Int32)) (by decide) d_W_is_75 ?_
              cases h
              exact r_iret rfl d_W_is_76
            · replace h := kr_in_ c h
              exact kr_sub [] rfl (s_W_is_B71 h)
          · by_cases c0 : E = "java/lang/IndexOutOfBoundsException"
            · subst c0
              replace h2 := kr_ip rfl h2
              clear h
              have h := h2
              clear h2
              refine r_callV (M1 := m_K_helper) (κ := 22) (As := [.int a2]) eu13 (s_K_helper eS14) mok_K_helper rfl (by decide) rfl w1326 w1327 w1328 (by decide) (kr_c8 kr_c0) d_W_is_65 kr_nk (kr_kx ?_)
              refine r_catch_n (hd := (0, 76, 77, 138)) [] [] ⟨rfl, (fun _ hz => nomatch hz), ⟨by decide, by decide⟩, by decide, w648, w485⟩ (i := 3) (lv' := [(0, va_rf a0), (1, .int a1), (2, .int a2)]) rfl (by decide) d_W_is_77 ?_
              refine r_sipush (v := (-1001 : Int32)) (by decide) d_W_is_78 ?_
              cases h
              exact r_iret rfl d_W_is_81
            replace h2 := kr_in_ c0 h2
            cases h2
theorem gg_W_is_gs {S : AS} {w a0 : Int32} : gs S (gg_W_is S w a0) := gs_if gmo_gs (gs_if gmo_gs (gs_if gmo_gs (gs_if gmo_gs (gmo_gs))))
theorem s_W_isg {S : AS} {a0 : Option Nat} {a1 a2 : Int32} {r : Int32 × AS} (h : f_W_isg S a0 a1 a2 = some r) : kr_Con m_W_is 10 [va_rf a0, .int a1, .int a2] S (kr_eI r) := by
  unfold f_W_isg at h
  obtain ⟨v, S1, e, h⟩ := kr_ob2 h
  cases h
  refine kr_conH rfl (by decide) (by decide +kernel) (by simp [lg_sl, kr_rfcat, kr_icat, m_W_is, mL]) ?_
  rw [show lv_args 0 [va_rf a0, .int a1, .int a2] = [(0, va_rf a0), (1, .int a1), (2, .int a2)] from by simp [lv_args, kr_rfcat, kr_icat]]
  exact kr_AWg (s_W_is e) gg_W_is_gs
/-! KeyringCourtLaw.sessions(LKeyringCourt;II[I[I[I[I[I[I[I[I[I)Z -/
def f_W_sessions_B78 (S : AS) (x0 : Option Nat) (x12 : Int32) (y0 : Int32) : Option (Int32 × AS) :=
  kr_b2 (f_W_noneg S x0 (0 : Int32) x12) fun v2 S1 =>
  if v2 = y0 then
  some ((1 : Int32), S1)
  else
  some ((0 : Int32), S1)
def f_W_sessions_B47 (S : AS) (x0 : Option Nat) (x3 : Option Nat) (x5 : Option Nat) (x7 : Option Nat) (x8 : Option Nat) (x9 : Option Nat) (x10 : Option Nat) (x11 : Option Nat) (x12 : Int32) (y0 : Int32) : Option (Int32 × AS) :=
  if y0 = 0 then
  f_W_sessions_B78 S x0 x12 (-1002 : Int32)
  else
  kr_b2 (f_W_passes S x3 x5 x7 x8 x9 x10 x11 x12) fun v4 S3 =>
  f_W_sessions_B78 S3 x0 x12 v4
def f_W_sessions_B35 (S : AS) (x0 : Option Nat) (x3 : Option Nat) (x5 : Option Nat) (x7 : Option Nat) (x8 : Option Nat) (x9 : Option Nat) (x10 : Option Nat) (x11 : Option Nat) (y0 : Int32) : Option (Int32 × AS) :=
  if y0 ≤ 0 then
  f_W_sessions_B47 S x0 x3 x5 x7 x8 x9 x10 x11 y0 (0 : Int32)
  else
  f_W_sessions_B47 S x0 x3 x5 x7 x8 x9 x10 x11 y0 (1 : Int32)
def f_W_sessions_B233 (S : AS) (y0 : Int32) (y1 : Int32) : Option (Int32 × AS) :=
  if y0 = y1 then
  some ((1 : Int32), S)
  else
  some ((0 : Int32), S)
def f_W_sessions_B425 (S : AS) (y0 : Int32) (y1 : Int32) : Option (Int32 × AS) :=
  if y0 = y1 then
  some ((1 : Int32), S)
  else
  some ((0 : Int32), S)
def f_W_sessions_B390 (S : AS) (x3 : Option Nat) (x6 : Option Nat) (x12 : Int32) (x13 : Int32) (x15 : Int32) (x18 : Int32) (y0 : Option Nat) (y1 : Int32) (y2 : Int32) (y3 : Int32) (y4 : Int32) : Option (Int32 × AS) :=
  kr_b2 (f_W_fourg S y0 y1 y2 y3 y4 x18) fun v6 S5 =>
  if x13 = 0 then
  f_W_sessions_B425 S5 v6 (-1001 : Int32)
  else
  if x15 = 0 then
  f_W_sessions_B425 S5 v6 (-1003 : Int32)
  else
  kr_b2 (f_W_levelOf S5 x3 x6 x12) fun v8 S7 =>
  f_W_sessions_B425 S7 v6 v8
def f_W_sessions_B374 (S : AS) (x0 : Option Nat) (x3 : Option Nat) (x6 : Option Nat) (x12 : Int32) (x13 : Int32) (x15 : Int32) (x16 : Int32) (x17 : Int32) (x18 : Int32) : Option (Int32 × AS) :=
  if x17 = 0 then
  f_W_sessions_B390 S x3 x6 x12 x13 x15 x18 x0 (1 : Int32) x12 x16 (0 : Int32)
  else
  f_W_sessions_B390 S x3 x6 x12 x13 x15 x18 x0 (1 : Int32) x12 x16 (1 : Int32)
def f_W_sessions_B373 (S : AS) (x0 : Option Nat) (x3 : Option Nat) (x6 : Option Nat) (x12 : Int32) (x13 : Int32) (x15 : Int32) (x16 : Int32) (x17 : Int32) (x18 : Int32) (y0 : Option Nat) (y1 : Int32) (y2 : Int32) : Option (Int32 × AS) :=
  (bI S y0 y1 y2).bind fun S9 =>
  f_W_sessions_B374 S9 x0 x3 x6 x12 x13 x15 x16 x17 x18
def f_W_sessions_B296 (S : AS) (x0 : Option Nat) (x2 : Int32) (x3 : Option Nat) (x4 : Option Nat) (x5 : Option Nat) (x6 : Option Nat) (x12 : Int32) (x13 : Int32) (x15 : Int32) (x16 : Int32) (y0 : Int32) : Option (Int32 × AS) :=
  kr_b2 (f_W_some S (x2 >>> ((7 : Int32) &&& 31)) (9 : Int32)) fun v11 S10 =>
  if x15 = 0 then
  f_W_sessions_B374 S10 x0 x3 x6 x12 x13 x15 x16 y0 v11
  else
  (aI S10 40 x3 (0 : Int32)).bind fun v12 =>
  (bI S10 x5 (((4 : Int32) * x12) + (2 : Int32)) v12).bind fun S13 =>
  (aI S13 40 x5 ((4 : Int32) * x12)).bind fun v14 =>
  kr_b2 (f_W_answers S13 x3 x4 v14 x16 y0 v11) fun v16 S15 =>
  if v16 = 0 then
  (aI S15 40 x6 (((3 : Int32) * x12) + x16)).bind fun v17 =>
  f_W_sessions_B373 S15 x0 x3 x6 x12 x13 x15 x16 y0 v11 x6 (((3 : Int32) * x12) + x16) v17
  else
  (aI S15 40 x3 (0 : Int32)).bind fun v18 =>
  f_W_sessions_B373 S15 x0 x3 x6 x12 x13 x15 x16 y0 v11 x6 (((3 : Int32) * x12) + x16) v18
def f_W_sessions_B641 (S : AS) (y0 : Int32) (y1 : Int32) : Option (Int32 × AS) :=
  if y0 = y1 then
  some ((1 : Int32), S)
  else
  some ((0 : Int32), S)
def f_W_sessions_B605 (S : AS) (x0 : Option Nat) (x3 : Option Nat) (x12 : Int32) (x13 : Int32) (x16 : Int32) (x17 : Int32) : Option (Int32 × AS) :=
  kr_b2 (f_W_twog S x0 (2 : Int32) x12 x16) fun v20 S19 =>
  if x13 = 0 then
  f_W_sessions_B641 S19 v20 (-1001 : Int32)
  else
  if x17 = 0 then
  f_W_sessions_B641 S19 v20 (-1003 : Int32)
  else
  (aI S19 40 x3 (1 : Int32)).bind fun v21 =>
  f_W_sessions_B641 S19 v20 (v21 - (1 : Int32))
def f_W_sessions_C562 (k562 : AS → Option Nat → Option Nat → Option Nat → Option Nat → Int32 → Int32 → Int32 → Int32 → Int32 → Option (Int32 × AS)) (S : AS) (x0 : Option Nat) (x3 : Option Nat) (x5 : Option Nat) (x6 : Option Nat) (x12 : Int32) (x13 : Int32) (x16 : Int32) (x17 : Int32) (x18 : Int32) : Option (Int32 × AS) :=
  if (3 : Int32) ≤ x18 then
  (f_W_opens S x3 x5 x16 x12).bind fun S22 =>
  f_W_sessions_B605 S22 x0 x3 x12 x13 x16 x17
  else
  (aI S 40 x3 (1 : Int32)).bind fun v23 =>
  (aI S 40 x6 (((3 : Int32) * x12) + x18)).bind fun v24 =>
  (bI S x6 (((3 : Int32) * v23) + x18) v24).bind fun S25 =>
  (some (x18 + (1 : Int32))).bind fun i26 =>
  k562 S25 x0 x3 x5 x6 x12 x13 x16 x17 i26
def f_W_sessions_L562 : Nat → AS → Option Nat → Option Nat → Option Nat → Option Nat → Int32 → Int32 → Int32 → Int32 → Int32 → Option (Int32 × AS)
  | 0, S, x0, x3, x5, x6, x12, x13, x16, x17, x18 => none
  | n + 1, S, x0, x3, x5, x6, x12, x13, x16, x17, x18 => f_W_sessions_C562 (f_W_sessions_L562 n) S x0 x3 x5 x6 x12 x13 x16 x17 x18
def f_W_sessions_B554 (S : AS) (x0 : Option Nat) (x3 : Option Nat) (x5 : Option Nat) (x6 : Option Nat) (x12 : Int32) (x13 : Int32) (x16 : Int32) (x17 : Int32) : Option (Int32 × AS) :=
  if x17 = 0 then
  f_W_sessions_B605 S x0 x3 x12 x13 x16 x17
  else
  f_W_sessions_L562 kr_FU S x0 x3 x5 x6 x12 x13 x16 x17 (0 : Int32)
def f_W_sessions_B537 (S : AS) (x0 : Option Nat) (x3 : Option Nat) (x5 : Option Nat) (x6 : Option Nat) (x12 : Int32) (x13 : Int32) (x16 : Int32) (y0 : Int32) : Option (Int32 × AS) :=
  if y0 = 0 then
  f_W_sessions_B554 S x0 x3 x5 x6 x12 x13 x16 y0
  else
  (aI S 40 x3 (1 : Int32)).bind fun v27 =>
  if v27 ≤ (13 : Int32) then
  f_W_sessions_B554 S x0 x3 x5 x6 x12 x13 x16 y0
  else
  some ((1 : Int32), S)
def f_W_sessions_B536 (S : AS) (x0 : Option Nat) (x3 : Option Nat) (x5 : Option Nat) (x6 : Option Nat) (x12 : Int32) (x13 : Int32) (x16 : Int32) : Option (Int32 × AS) :=
  f_W_sessions_B537 S x0 x3 x5 x6 x12 x13 x16 (0 : Int32)
def f_W_sessions_B264 (S : AS) (x0 : Option Nat) (x1 : Int32) (x2 : Int32) (x3 : Option Nat) (x4 : Option Nat) (x5 : Option Nat) (x6 : Option Nat) (x12 : Int32) (x13 : Int32) (y0 : Int32) : Option (Int32 × AS) :=
  if x1 = (2 : Int32) then
  kr_b2 (f_W_some S (x2 >>> ((5 : Int32) &&& 31)) (3 : Int32)) fun v29 S28 =>
  kr_b2 (f_W_some S28 (x2 >>> ((6 : Int32) &&& 31)) (4 : Int32)) fun v31 S30 =>
  if v31 ≤ 0 then
  f_W_sessions_B296 S30 x0 x2 x3 x4 x5 x6 x12 x13 y0 v29 (0 : Int32)
  else
  f_W_sessions_B296 S30 x0 x2 x3 x4 x5 x6 x12 x13 y0 v29 (1 : Int32)
  else
  kr_b2 (f_W_some S (x2 >>> ((6 : Int32) &&& 31)) (3 : Int32)) fun v33 S32 =>
  if x1 = (3 : Int32) then
  (aI S32 40 x3 (13 : Int32)).bind fun v34 =>
  (bI S32 x3 (13 : Int32) (v34 ^^^ ((1 : Int32) <<< (v33 &&& 31)))).bind fun S35 =>
  kr_b2 (f_W_isg S35 x0 (4 : Int32) v33) fun v37 S36 =>
  (aI S36 40 x3 (13 : Int32)).bind fun v38 =>
  if v37 = ((v38 >>> (v33 &&& 31)) &&& (1 : Int32)) then
  some ((1 : Int32), S36)
  else
  some ((0 : Int32), S36)
  else
  if y0 = 0 then
  f_W_sessions_B536 S32 x0 x3 x5 x6 x12 x13 v33
  else
  kr_b2 (f_W_levelOf S32 x3 x6 x12) fun v40 S39 =>
  if v40 ≤ (2 : Int32) then
  f_W_sessions_B536 S39 x0 x3 x5 x6 x12 x13 v33
  else
  (aI S39 40 x3 (13 : Int32)).bind fun v41 =>
  (aI S39 40 x5 ((4 : Int32) * x12)).bind fun v42 =>
  if ((v41 >>> (v42 &&& 31)) &&& (1 : Int32)) = (1 : Int32) then
  (aI S39 40 x5 ((4 : Int32) * x12)).bind fun v43 =>
  if v33 = v43 then
  f_W_sessions_B536 S39 x0 x3 x5 x6 x12 x13 v33
  else
  f_W_sessions_B537 S39 x0 x3 x5 x6 x12 x13 v33 (1 : Int32)
  else
  f_W_sessions_B536 S39 x0 x3 x5 x6 x12 x13 v33
def f_W_sessions_B263 (S : AS) (x0 : Option Nat) (x1 : Int32) (x2 : Int32) (x3 : Option Nat) (x4 : Option Nat) (x5 : Option Nat) (x6 : Option Nat) (x12 : Int32) (x13 : Int32) : Option (Int32 × AS) :=
  f_W_sessions_B264 S x0 x1 x2 x3 x4 x5 x6 x12 x13 (0 : Int32)
def f_W_sessions_B180 (S : AS) (x0 : Option Nat) (x1 : Int32) (x2 : Int32) (x3 : Option Nat) (x4 : Option Nat) (x5 : Option Nat) (x6 : Option Nat) (x7 : Option Nat) (x8 : Option Nat) (x9 : Option Nat) (x11 : Option Nat) (x12 : Int32) (x13 : Int32) (y0 : Int32) : Option (Int32 × AS) :=
  if x1 = (1 : Int32) then
  kr_b2 (f_W_oneg S x0 (6 : Int32) x12) fun v45 S44 =>
  if x13 = 0 then
  f_W_sessions_B233 S44 v45 (-1001 : Int32)
  else
  if y0 = 0 then
  f_W_sessions_B233 S44 v45 (-1003 : Int32)
  else
  kr_b2 (f_W_endSession S44 x3 x5 x7 x8 x9 x11 x12) fun v47 S46 =>
  f_W_sessions_B233 S46 v45 v47
  else
  if y0 = 0 then
  f_W_sessions_B263 S x0 x1 x2 x3 x4 x5 x6 x12 x13
  else
  (aI S 40 x5 (((4 : Int32) * x12) + (3 : Int32))).bind fun v48 =>
  if v48 = 0 then
  f_W_sessions_B264 S x0 x1 x2 x3 x4 x5 x6 x12 x13 (1 : Int32)
  else
  f_W_sessions_B263 S x0 x1 x2 x3 x4 x5 x6 x12 x13
def f_W_sessions_B179 (S : AS) (x0 : Option Nat) (x1 : Int32) (x2 : Int32) (x3 : Option Nat) (x4 : Option Nat) (x5 : Option Nat) (x6 : Option Nat) (x7 : Option Nat) (x8 : Option Nat) (x9 : Option Nat) (x11 : Option Nat) (x12 : Int32) (x13 : Int32) : Option (Int32 × AS) :=
  f_W_sessions_B180 S x0 x1 x2 x3 x4 x5 x6 x7 x8 x9 x11 x12 x13 (0 : Int32)
def f_W_sessions_B154 (S : AS) (x0 : Option Nat) (x1 : Int32) (x2 : Int32) (x3 : Option Nat) (x4 : Option Nat) (x5 : Option Nat) (x6 : Option Nat) (x7 : Option Nat) (x8 : Option Nat) (x9 : Option Nat) (x11 : Option Nat) (x12 : Int32) (y0 : Int32) : Option (Int32 × AS) :=
  if y0 = 0 then
  f_W_sessions_B179 S x0 x1 x2 x3 x4 x5 x6 x7 x8 x9 x11 x12 y0
  else
  (aI S 40 x5 (((4 : Int32) * x12) + (3 : Int32))).bind fun v49 =>
  if (100 : Int32) ≤ v49 then
  f_W_sessions_B179 S x0 x1 x2 x3 x4 x5 x6 x7 x8 x9 x11 x12 y0
  else
  f_W_sessions_B180 S x0 x1 x2 x3 x4 x5 x6 x7 x8 x9 x11 x12 y0 (1 : Int32)
def f_W_sessions_B139 (S : AS) (x0 : Option Nat) (x1 : Int32) (x2 : Int32) (x3 : Option Nat) (x4 : Option Nat) (x5 : Option Nat) (x6 : Option Nat) (x7 : Option Nat) (x8 : Option Nat) (x9 : Option Nat) (x11 : Option Nat) (y0 : Int32) : Option (Int32 × AS) :=
  (aI S 40 x3 (1 : Int32)).bind fun v50 =>
  if v50 ≤ y0 then
  f_W_sessions_B154 S x0 x1 x2 x3 x4 x5 x6 x7 x8 x9 x11 y0 (0 : Int32)
  else
  f_W_sessions_B154 S x0 x1 x2 x3 x4 x5 x6 x7 x8 x9 x11 y0 (1 : Int32)
def f_W_sessions (S : AS) (a0 : Option Nat) (a1 : Int32) (a2 : Int32) (a3 : Option Nat) (a4 : Option Nat) (a5 : Option Nat) (a6 : Option Nat) (a7 : Option Nat) (a8 : Option Nat) (a9 : Option Nat) (a10 : Option Nat) (a11 : Option Nat) : Option (Int32 × AS) :=
  if a1 = 0 then
  kr_b2 (f_W_some S a2 (6 : Int32)) fun v52 S51 =>
  if v52 = 0 then
  kr_b2 (f_W_some S51 (a2 >>> ((3 : Int32) &&& 31)) (120 : Int32)) fun v54 S53 =>
  f_W_sessions_B35 S53 a0 a3 a5 a7 a8 a9 a10 a11 ((20 : Int32) + v54)
  else
  kr_b2 (f_W_some S51 (a2 >>> ((5 : Int32) &&& 31)) (7 : Int32)) fun v56 S55 =>
  f_W_sessions_B35 S55 a0 a3 a5 a7 a8 a9 a10 a11 v56
  else
  kr_b2 (f_W_some S a2 (5 : Int32)) fun v58 S57 =>
  if v58 = 0 then
  (aI S57 40 a3 (1 : Int32)).bind fun v59 =>
  kr_b2 (f_W_some S57 (a2 >>> ((3 : Int32) &&& 31)) (v59 + (1 : Int32))) fun v61 S60 =>
  f_W_sessions_B139 S60 a0 a1 a2 a3 a4 a5 a6 a7 a8 a9 a11 v61
  else
  (aI S57 40 a3 (1 : Int32)).bind fun v62 =>
  if v62 ≤ 0 then
  f_W_sessions_B139 S57 a0 a1 a2 a3 a4 a5 a6 a7 a8 a9 a11 (0 : Int32)
  else
  (aI S57 40 a3 (1 : Int32)).bind fun v63 =>
  kr_b2 (f_W_some S57 (a2 >>> ((3 : Int32) &&& 31)) v63) fun v65 S64 =>
  f_W_sessions_B139 S64 a0 a1 a2 a3 a4 a5 a6 a7 a8 a9 a11 v65
set_option maxRecDepth 20000 in
set_option maxHeartbeats 4000000 in
theorem s_W_sessions_B78 {S : AS} {x0 : Option Nat} {x12 : Int32} {y0 : Int32} {r : (Int32 × AS)} (h : f_W_sessions_B78 S x0 x12 y0 = some r) : kr_AW m_W_sessions 14 78 [(0, va_rf x0), (12, .int x12)] [.int y0] S (kr_eI r) := by
  unfold f_W_sessions_B78 at h
  refine r_istore (i := 14) (lv' := [(14, .int y0), (0, va_rf x0), (12, .int x12)]) (by decide) rfl d_W_sessions_78 ?_
  refine r_aload_n (i := 0) (x := x0) 1 rfl d_W_sessions_80 ?_
  refine r_iconst (v := (0 : Int32)) (by decide) d_W_sessions_81 ?_
  refine r_iload (i := 12) (x := x12) 2 rfl d_W_sessions_82 ?_
  have h2 := kr_ob2 h
  clear h
  obtain ⟨v2, S1, eS1, h⟩ := h2
  refine r_callSX (M1 := m_W_none) (As := [va_rf x0, .int (0 : Int32), .int x12]) (s_W_noneg eS1) mok_W_none (by decide) w314 w315 (by decide) (kr_c8 kr_c0) d_W_sessions_84 (kr_k1 ?_) kr_kn
  refine r_iload (i := 14) (x := y0) 0 rfl d_W_sessions_87 ?_
  refine r_icmp_ne (tgt := 96) d_W_sessions_89 rfl (fun c => ?_) (fun c => ?_)
  · replace h := kr_ip c h
    refine r_iconst (v := (1 : Int32)) (by decide) d_W_sessions_92 ?_
    refine r_goto (tgt := 97) d_W_sessions_93 rfl ?_
    cases h
    exact r_zret rfl rfl d_W_sessions_97
  · replace h := kr_in_ c h
    refine r_iconst (v := (0 : Int32)) (by decide) d_W_sessions_96 ?_
    cases h
    exact r_zret rfl rfl d_W_sessions_97
set_option maxRecDepth 20000 in
set_option maxHeartbeats 4000000 in
theorem s_W_sessions_B47 {S : AS} {x0 : Option Nat} {x3 : Option Nat} {x5 : Option Nat} {x7 : Option Nat} {x8 : Option Nat} {x9 : Option Nat} {x10 : Option Nat} {x11 : Option Nat} {x12 : Int32} {y0 : Int32} {r : (Int32 × AS)} (h : f_W_sessions_B47 S x0 x3 x5 x7 x8 x9 x10 x11 x12 y0 = some r) : kr_AW m_W_sessions 14 47 [(0, va_rf x0), (3, va_rf x3), (5, va_rf x5), (7, va_rf x7), (8, va_rf x8), (9, va_rf x9), (10, va_rf x10), (11, va_rf x11), (12, .int x12)] [.int y0] S (kr_eI r) := by
  unfold f_W_sessions_B47 at h
  refine r_istore (i := 13) (lv' := [(13, .int y0), (0, va_rf x0), (3, va_rf x3), (5, va_rf x5), (7, va_rf x7), (8, va_rf x8), (9, va_rf x9), (10, va_rf x10), (11, va_rf x11), (12, .int x12)]) (by decide) rfl d_W_sessions_47 ?_
  refine r_iload (i := 13) (x := y0) 0 rfl d_W_sessions_49 ?_
  refine r_if_eq (tgt := 75) d_W_sessions_51 rfl (fun c => ?_) (fun c => ?_)
  · replace h := kr_ip c h
    refine r_sipush (v := (-1002 : Int32)) (by decide) d_W_sessions_75 ?_
    exact kr_sub [1, 9] rfl (s_W_sessions_B78 h)
  · replace h := kr_in_ c h
    refine r_aload_n (i := 3) (x := x3) 2 rfl d_W_sessions_54 ?_
    refine r_aload (i := 5) (x := x5) 3 rfl d_W_sessions_55 ?_
    refine r_aload (i := 7) (x := x7) 4 rfl d_W_sessions_57 ?_
    refine r_aload (i := 8) (x := x8) 5 rfl d_W_sessions_59 ?_
    refine r_aload (i := 9) (x := x9) 6 rfl d_W_sessions_61 ?_
    refine r_aload (i := 10) (x := x10) 7 rfl d_W_sessions_63 ?_
    refine r_aload (i := 11) (x := x11) 8 rfl d_W_sessions_65 ?_
    refine r_iload (i := 12) (x := x12) 9 rfl d_W_sessions_67 ?_
    have h2 := kr_ob2 h
    clear h
    obtain ⟨v4, S3, eS3, h⟩ := h2
    refine r_callS (M1 := m_W_passes) (As := [va_rf x3, va_rf x5, va_rf x7, va_rf x8, va_rf x9, va_rf x10, va_rf x11, .int x12]) (s_W_passes eS3) mok_W_passes rfl w1039 w1040 (by decide) (kr_c8 kr_c0) d_W_sessions_69 (kr_k1 ?_) kr_kn
    refine r_goto (tgt := 78) d_W_sessions_72 rfl ?_
    exact kr_sub [1, 9] rfl (s_W_sessions_B78 h)
set_option maxRecDepth 20000 in
set_option maxHeartbeats 4000000 in
theorem s_W_sessions_B35 {S : AS} {x0 : Option Nat} {x3 : Option Nat} {x5 : Option Nat} {x7 : Option Nat} {x8 : Option Nat} {x9 : Option Nat} {x10 : Option Nat} {x11 : Option Nat} {y0 : Int32} {r : (Int32 × AS)} (h : f_W_sessions_B35 S x0 x3 x5 x7 x8 x9 x10 x11 y0 = some r) : kr_AW m_W_sessions 14 35 [(0, va_rf x0), (3, va_rf x3), (5, va_rf x5), (7, va_rf x7), (8, va_rf x8), (9, va_rf x9), (10, va_rf x10), (11, va_rf x11)] [.int y0] S (kr_eI r) := by
  unfold f_W_sessions_B35 at h
  refine r_istore (i := 12) (lv' := [(12, .int y0), (0, va_rf x0), (3, va_rf x3), (5, va_rf x5), (7, va_rf x7), (8, va_rf x8), (9, va_rf x9), (10, va_rf x10), (11, va_rf x11)]) (by decide) (by show kr_st _ 12 _ = _; simp [kr_st, kr_rfcat, kr_icat]) d_W_sessions_35 ?_
  refine r_iload (i := 12) (x := y0) 0 rfl d_W_sessions_37 ?_
  refine r_if_le (tgt := 46) d_W_sessions_39 rfl (fun c => ?_) (fun c => ?_)
  · replace h := kr_ip c h
    refine r_iconst (v := (0 : Int32)) (by decide) d_W_sessions_46 ?_
    exact kr_sub [1, 2, 3, 4, 5, 6, 7, 8, 0] rfl (s_W_sessions_B47 h)
  · replace h := kr_in_ c h
    refine r_iconst (v := (1 : Int32)) (by decide) d_W_sessions_42 ?_
    refine r_goto (tgt := 47) d_W_sessions_43 rfl ?_
    exact kr_sub [1, 2, 3, 4, 5, 6, 7, 8, 0] rfl (s_W_sessions_B47 h)
set_option maxRecDepth 20000 in
set_option maxHeartbeats 4000000 in
theorem s_W_sessions_B233 {S : AS} {y0 : Int32} {y1 : Int32} {r : (Int32 × AS)} (h : f_W_sessions_B233 S y0 y1 = some r) : kr_AW m_W_sessions 14 233 [] [.int y1, .int y0] S (kr_eI r) := by
  unfold f_W_sessions_B233 at h
  refine r_icmp_ne (tgt := 240) d_W_sessions_233 rfl (fun c => ?_) (fun c => ?_)
  · replace h := kr_ip c h
    refine r_iconst (v := (1 : Int32)) (by decide) d_W_sessions_236 ?_
    refine r_goto (tgt := 241) d_W_sessions_237 rfl ?_
    cases h
    exact r_zret rfl rfl d_W_sessions_241
  · replace h := kr_in_ c h
    refine r_iconst (v := (0 : Int32)) (by decide) d_W_sessions_240 ?_
    cases h
    exact r_zret rfl rfl d_W_sessions_241
set_option maxRecDepth 20000 in
set_option maxHeartbeats 4000000 in
theorem s_W_sessions_B425 {S : AS} {y0 : Int32} {y1 : Int32} {r : (Int32 × AS)} (h : f_W_sessions_B425 S y0 y1 = some r) : kr_AW m_W_sessions 14 425 [] [.int y1, .int y0] S (kr_eI r) := by
  unfold f_W_sessions_B425 at h
  refine r_icmp_ne (tgt := 432) d_W_sessions_425 rfl (fun c => ?_) (fun c => ?_)
  · replace h := kr_ip c h
    refine r_iconst (v := (1 : Int32)) (by decide) d_W_sessions_428 ?_
    refine r_goto (tgt := 433) d_W_sessions_429 rfl ?_
    cases h
    exact r_zret rfl rfl d_W_sessions_433
  · replace h := kr_in_ c h
    refine r_iconst (v := (0 : Int32)) (by decide) d_W_sessions_432 ?_
    cases h
    exact r_zret rfl rfl d_W_sessions_433
set_option maxRecDepth 20000 in
set_option maxHeartbeats 4000000 in
theorem s_W_sessions_B390 {S : AS} {x3 : Option Nat} {x6 : Option Nat} {x12 : Int32} {x13 : Int32} {x15 : Int32} {x18 : Int32} {y0 : Option Nat} {y1 : Int32} {y2 : Int32} {y3 : Int32} {y4 : Int32} {r : (Int32 × AS)} (h : f_W_sessions_B390 S x3 x6 x12 x13 x15 x18 y0 y1 y2 y3 y4 = some r) : kr_AW m_W_sessions 14 390 [(3, va_rf x3), (6, va_rf x6), (12, .int x12), (13, .int x13), (15, .int x15), (18, .int x18)] [.int y4, .int y3, .int y2, .int y1, va_rf y0] S (kr_eI r) := by
  unfold f_W_sessions_B390 at h
  refine r_iload (i := 18) (x := x18) 5 rfl d_W_sessions_390 ?_
  have h2 := kr_ob2 h
  clear h
  obtain ⟨v6, S5, eS5, h⟩ := h2
  refine r_callSX (M1 := m_W_four) (As := [va_rf y0, .int y1, .int y2, .int y3, .int y4, .int x18]) (s_W_fourg eS5) mok_W_four (by decide) w1230 w1231 (by decide) (kr_c8 kr_c0) d_W_sessions_392 (kr_k1 ?_) kr_kn
  refine r_iload (i := 13) (x := x13) 3 rfl d_W_sessions_395 ?_
  refine r_if_ne (tgt := 406) d_W_sessions_397 rfl (fun c => ?_) (fun c => ?_)
  · replace h := kr_ip c h
    refine r_sipush (v := (-1001 : Int32)) (by decide) d_W_sessions_400 ?_
    refine r_goto (tgt := 425) d_W_sessions_403 rfl ?_
    exact kr_sub [] rfl (s_W_sessions_B425 h)
  · replace h := kr_in_ c h
    refine r_iload (i := 15) (x := x15) 4 rfl d_W_sessions_406 ?_
    refine r_if_eq (tgt := 422) d_W_sessions_408 rfl (fun c => ?_) (fun c => ?_)
    · replace h := kr_ip c h
      refine r_sipush (v := (-1003 : Int32)) (by decide) d_W_sessions_422 ?_
      exact kr_sub [] rfl (s_W_sessions_B425 h)
    · replace h := kr_in_ c h
      refine r_aload_n (i := 3) (x := x3) 0 rfl d_W_sessions_411 ?_
      refine r_aload (i := 6) (x := x6) 1 rfl d_W_sessions_412 ?_
      refine r_iload (i := 12) (x := x12) 2 rfl d_W_sessions_414 ?_
      have h2 := kr_ob2 h
      clear h
      obtain ⟨v8, S7, eS7, h⟩ := h2
      refine r_callS (M1 := m_W_levelOf) (As := [va_rf x3, va_rf x6, .int x12]) (s_W_levelOf eS7) mok_W_levelOf rfl w1296 w1297 (by decide) (kr_c8 (kr_cI kr_c0)) d_W_sessions_416 (kr_k1 ?_) kr_kn
      refine r_goto (tgt := 425) d_W_sessions_419 rfl ?_
      exact kr_sub [] rfl (s_W_sessions_B425 h)
set_option maxRecDepth 20000 in
set_option maxHeartbeats 4000000 in
theorem s_W_sessions_B374 {S : AS} {x0 : Option Nat} {x3 : Option Nat} {x6 : Option Nat} {x12 : Int32} {x13 : Int32} {x15 : Int32} {x16 : Int32} {x17 : Int32} {x18 : Int32} {r : (Int32 × AS)} (h : f_W_sessions_B374 S x0 x3 x6 x12 x13 x15 x16 x17 x18 = some r) : kr_AW m_W_sessions 14 374 [(0, va_rf x0), (3, va_rf x3), (6, va_rf x6), (12, .int x12), (13, .int x13), (15, .int x15), (16, .int x16), (17, .int x17), (18, .int x18)] [] S (kr_eI r) := by
  unfold f_W_sessions_B374 at h
  refine r_aload_n (i := 0) (x := x0) 0 rfl d_W_sessions_374 ?_
  refine r_iconst (v := (1 : Int32)) (by decide) d_W_sessions_375 ?_
  refine r_iload (i := 12) (x := x12) 3 rfl d_W_sessions_376 ?_
  refine r_iload (i := 16) (x := x16) 6 rfl d_W_sessions_378 ?_
  refine r_iload (i := 17) (x := x17) 7 rfl d_W_sessions_380 ?_
  refine r_if_eq (tgt := 389) d_W_sessions_382 rfl (fun c => ?_) (fun c => ?_)
  · replace h := kr_ip c h
    refine r_iconst (v := (0 : Int32)) (by decide) d_W_sessions_389 ?_
    exact kr_sub [1, 2, 3, 4, 5, 8] rfl (s_W_sessions_B390 h)
  · replace h := kr_in_ c h
    refine r_iconst (v := (1 : Int32)) (by decide) d_W_sessions_385 ?_
    refine r_goto (tgt := 390) d_W_sessions_386 rfl ?_
    exact kr_sub [1, 2, 3, 4, 5, 8] rfl (s_W_sessions_B390 h)
set_option maxRecDepth 20000 in
set_option maxHeartbeats 4000000 in
theorem s_W_sessions_B373 {S : AS} {x0 : Option Nat} {x3 : Option Nat} {x6 : Option Nat} {x12 : Int32} {x13 : Int32} {x15 : Int32} {x16 : Int32} {x17 : Int32} {x18 : Int32} {y0 : Option Nat} {y1 : Int32} {y2 : Int32} {r : (Int32 × AS)} (h : f_W_sessions_B373 S x0 x3 x6 x12 x13 x15 x16 x17 x18 y0 y1 y2 = some r) : kr_AW m_W_sessions 14 373 [(0, va_rf x0), (3, va_rf x3), (6, va_rf x6), (12, .int x12), (13, .int x13), (15, .int x15), (16, .int x16), (17, .int x17), (18, .int x18)] [.int y2, .int y1, va_rf y0] S (kr_eI r) := by
  unfold f_W_sessions_B373 at h
  have h2 := kr_ob h
  clear h
  obtain ⟨S9, eS9, h⟩ := h2
  refine r_iastore eS9 d_W_sessions_373 ?_
  exact kr_sub [0, 1, 2, 3, 4, 5, 6, 7, 8] rfl (s_W_sessions_B374 h)
set_option maxRecDepth 20000 in
set_option maxHeartbeats 4000000 in
theorem s_W_sessions_B296 {S : AS} {x0 : Option Nat} {x2 : Int32} {x3 : Option Nat} {x4 : Option Nat} {x5 : Option Nat} {x6 : Option Nat} {x12 : Int32} {x13 : Int32} {x15 : Int32} {x16 : Int32} {y0 : Int32} {r : (Int32 × AS)} (h : f_W_sessions_B296 S x0 x2 x3 x4 x5 x6 x12 x13 x15 x16 y0 = some r) : kr_AW m_W_sessions 14 296 [(0, va_rf x0), (2, .int x2), (3, va_rf x3), (4, va_rf x4), (5, va_rf x5), (6, va_rf x6), (12, .int x12), (13, .int x13), (15, .int x15), (16, .int x16)] [.int y0] S (kr_eI r) := by
  unfold f_W_sessions_B296 at h
  refine r_istore (i := 17) (lv' := [(17, .int y0), (0, va_rf x0), (2, .int x2), (3, va_rf x3), (4, va_rf x4), (5, va_rf x5), (6, va_rf x6), (12, .int x12), (13, .int x13), (15, .int x15), (16, .int x16)]) (by decide) rfl d_W_sessions_296 ?_
  refine r_iload_n (i := 2) (x := x2) 2 rfl d_W_sessions_298 ?_
  refine r_bipush (v := (7 : Int32)) (by decide) d_W_sessions_299 ?_
  refine r_ishr d_W_sessions_301 ?_
  refine r_bipush (v := (9 : Int32)) (by decide) d_W_sessions_302 ?_
  have h2 := kr_ob2 h
  clear h
  obtain ⟨v11, S10, eS10, h⟩ := h2
  refine r_callS (M1 := m_W_some) (As := [.int (x2 >>> ((7 : Int32) &&& 31)), .int (9 : Int32)]) (s_W_some eS10) mok_W_some rfl w311 w312 (by decide) (kr_c8 kr_c0) d_W_sessions_304 (kr_k1 ?_) kr_kn
  refine r_istore (i := 18) (lv' := [(18, .int v11), (17, .int y0), (0, va_rf x0), (2, .int x2), (3, va_rf x3), (4, va_rf x4), (5, va_rf x5), (6, va_rf x6), (12, .int x12), (13, .int x13), (15, .int x15), (16, .int x16)]) (by decide) rfl d_W_sessions_307 ?_
  refine r_iload (i := 15) (x := x15) 10 rfl d_W_sessions_309 ?_
  refine r_if_eq (tgt := 374) d_W_sessions_311 rfl (fun c => ?_) (fun c => ?_)
  · replace h := kr_ip c h
    exact kr_sub [2, 4, 7, 8, 9, 10, 11, 1, 0] rfl (s_W_sessions_B374 h)
  · replace h := kr_in_ c h
    refine r_aload (i := 5) (x := x5) 6 rfl d_W_sessions_314 ?_
    refine r_iconst (v := (4 : Int32)) (by decide) d_W_sessions_316 ?_
    refine r_iload (i := 12) (x := x12) 8 rfl d_W_sessions_317 ?_
    refine r_imul d_W_sessions_319 ?_
    refine r_iconst (v := (2 : Int32)) (by decide) d_W_sessions_320 ?_
    refine r_iadd d_W_sessions_321 ?_
    refine r_aload_n (i := 3) (x := x3) 4 rfl d_W_sessions_322 ?_
    refine r_iconst (v := (0 : Int32)) (by decide) d_W_sessions_323 ?_
    have h2 := kr_ob h
    clear h
    obtain ⟨v12, ev12, h⟩ := h2
    refine r_iaload ev12 d_W_sessions_324 ?_
    have h2 := kr_ob h
    clear h
    obtain ⟨S13, eS13, h⟩ := h2
    refine r_iastore eS13 d_W_sessions_325 ?_
    refine r_aload (i := 6) (x := x6) 7 rfl d_W_sessions_326 ?_
    refine r_iconst (v := (3 : Int32)) (by decide) d_W_sessions_328 ?_
    refine r_iload (i := 12) (x := x12) 8 rfl d_W_sessions_329 ?_
    refine r_imul d_W_sessions_331 ?_
    refine r_iload (i := 16) (x := x16) 11 rfl d_W_sessions_332 ?_
    refine r_iadd d_W_sessions_334 ?_
    refine r_aload_n (i := 3) (x := x3) 4 rfl d_W_sessions_335 ?_
    refine r_aload (i := 4) (x := x4) 5 rfl d_W_sessions_336 ?_
    refine r_aload (i := 5) (x := x5) 6 rfl d_W_sessions_338 ?_
    refine r_iconst (v := (4 : Int32)) (by decide) d_W_sessions_340 ?_
    refine r_iload (i := 12) (x := x12) 8 rfl d_W_sessions_341 ?_
    refine r_imul d_W_sessions_343 ?_
    have h2 := kr_ob h
    clear h
    obtain ⟨v14, ev14, h⟩ := h2
    refine r_iaload ev14 d_W_sessions_344 ?_
    refine r_iload (i := 16) (x := x16) 11 rfl d_W_sessions_345 ?_
    refine r_iload (i := 17) (x := y0) 1 rfl d_W_sessions_347 ?_
    refine r_iload (i := 18) (x := v11) 0 rfl d_W_sessions_349 ?_
    have h2 := kr_ob2 h
    clear h
    obtain ⟨v16, S15, eS15, h⟩ := h2
    refine r_callS (M1 := m_W_answers) (As := [va_rf x3, va_rf x4, .int v14, .int x16, .int y0, .int v11]) (s_W_answers eS15) mok_W_answers rfl w1033 w1034 (by decide) (kr_c8 (kr_cI (kr_cR kr_c0))) d_W_sessions_351 (kr_k1 ?_) kr_kn
    refine r_if_eq (tgt := 363) d_W_sessions_354 rfl (fun c => ?_) (fun c => ?_)
    · replace h := kr_ip c h
      refine r_aload (i := 6) (x := x6) 7 rfl d_W_sessions_363 ?_
      refine r_iconst (v := (3 : Int32)) (by decide) d_W_sessions_365 ?_
      refine r_iload (i := 12) (x := x12) 8 rfl d_W_sessions_366 ?_
      refine r_imul d_W_sessions_368 ?_
      refine r_iload (i := 16) (x := x16) 11 rfl d_W_sessions_369 ?_
      refine r_iadd d_W_sessions_371 ?_
      have h2 := kr_ob h
      clear h
      obtain ⟨v17, ev17, h⟩ := h2
      refine r_iaload ev17 d_W_sessions_372 ?_
      exact kr_sub [2, 4, 7, 8, 9, 10, 11, 1, 0] rfl (s_W_sessions_B373 h)
    · replace h := kr_in_ c h
      refine r_aload_n (i := 3) (x := x3) 4 rfl d_W_sessions_357 ?_
      refine r_iconst (v := (0 : Int32)) (by decide) d_W_sessions_358 ?_
      have h2 := kr_ob h
      clear h
      obtain ⟨v18, ev18, h⟩ := h2
      refine r_iaload ev18 d_W_sessions_359 ?_
      refine r_goto (tgt := 373) d_W_sessions_360 rfl ?_
      exact kr_sub [2, 4, 7, 8, 9, 10, 11, 1, 0] rfl (s_W_sessions_B373 h)
set_option maxRecDepth 20000 in
set_option maxHeartbeats 4000000 in
theorem s_W_sessions_B641 {S : AS} {y0 : Int32} {y1 : Int32} {r : (Int32 × AS)} (h : f_W_sessions_B641 S y0 y1 = some r) : kr_AW m_W_sessions 14 641 [] [.int y1, .int y0] S (kr_eI r) := by
  unfold f_W_sessions_B641 at h
  refine r_icmp_ne (tgt := 648) d_W_sessions_641 rfl (fun c => ?_) (fun c => ?_)
  · replace h := kr_ip c h
    refine r_iconst (v := (1 : Int32)) (by decide) d_W_sessions_644 ?_
    refine r_goto (tgt := 649) d_W_sessions_645 rfl ?_
    cases h
    exact r_zret rfl rfl d_W_sessions_649
  · replace h := kr_in_ c h
    refine r_iconst (v := (0 : Int32)) (by decide) d_W_sessions_648 ?_
    cases h
    exact r_zret rfl rfl d_W_sessions_649
set_option maxRecDepth 20000 in
set_option maxHeartbeats 4000000 in
theorem s_W_sessions_B605 {S : AS} {x0 : Option Nat} {x3 : Option Nat} {x12 : Int32} {x13 : Int32} {x16 : Int32} {x17 : Int32} {r : (Int32 × AS)} (h : f_W_sessions_B605 S x0 x3 x12 x13 x16 x17 = some r) : kr_AW m_W_sessions 14 605 [(0, va_rf x0), (3, va_rf x3), (12, .int x12), (13, .int x13), (16, .int x16), (17, .int x17)] [] S (kr_eI r) := by
  unfold f_W_sessions_B605 at h
  refine r_aload_n (i := 0) (x := x0) 0 rfl d_W_sessions_605 ?_
  refine r_iconst (v := (2 : Int32)) (by decide) d_W_sessions_606 ?_
  refine r_iload (i := 12) (x := x12) 2 rfl d_W_sessions_607 ?_
  refine r_iload (i := 16) (x := x16) 4 rfl d_W_sessions_609 ?_
  have h2 := kr_ob2 h
  clear h
  obtain ⟨v20, S19, eS19, h⟩ := h2
  refine r_callSX (M1 := m_W_two) (As := [va_rf x0, .int (2 : Int32), .int x12, .int x16]) (s_W_twog eS19) mok_W_two (by decide) w942 w943 (by decide) (kr_c8 kr_c0) d_W_sessions_611 (kr_k1 ?_) kr_kn
  refine r_iload (i := 13) (x := x13) 3 rfl d_W_sessions_614 ?_
  refine r_if_ne (tgt := 625) d_W_sessions_616 rfl (fun c => ?_) (fun c => ?_)
  · replace h := kr_ip c h
    refine r_sipush (v := (-1001 : Int32)) (by decide) d_W_sessions_619 ?_
    refine r_goto (tgt := 641) d_W_sessions_622 rfl ?_
    exact kr_sub [] rfl (s_W_sessions_B641 h)
  · replace h := kr_in_ c h
    refine r_iload (i := 17) (x := x17) 5 rfl d_W_sessions_625 ?_
    refine r_if_eq (tgt := 638) d_W_sessions_627 rfl (fun c => ?_) (fun c => ?_)
    · replace h := kr_ip c h
      refine r_sipush (v := (-1003 : Int32)) (by decide) d_W_sessions_638 ?_
      exact kr_sub [] rfl (s_W_sessions_B641 h)
    · replace h := kr_in_ c h
      refine r_aload_n (i := 3) (x := x3) 1 rfl d_W_sessions_630 ?_
      refine r_iconst (v := (1 : Int32)) (by decide) d_W_sessions_631 ?_
      have h2 := kr_ob h
      clear h
      obtain ⟨v21, ev21, h⟩ := h2
      refine r_iaload ev21 d_W_sessions_632 ?_
      refine r_iconst (v := (1 : Int32)) (by decide) d_W_sessions_633 ?_
      refine r_isub d_W_sessions_634 ?_
      refine r_goto (tgt := 641) d_W_sessions_635 rfl ?_
      exact kr_sub [] rfl (s_W_sessions_B641 h)
set_option maxRecDepth 20000 in
set_option maxHeartbeats 4000000 in
theorem s_W_sessions_C562 {k562 : AS → Option Nat → Option Nat → Option Nat → Option Nat → Int32 → Int32 → Int32 → Int32 → Int32 → Option (Int32 × AS)} (hk562 : ∀ {S : AS} {x0 : Option Nat} {x3 : Option Nat} {x5 : Option Nat} {x6 : Option Nat} {x12 : Int32} {x13 : Int32} {x16 : Int32} {x17 : Int32} {x18 : Int32} {r : (Int32 × AS)}, k562 S x0 x3 x5 x6 x12 x13 x16 x17 x18 = some r → kr_AW m_W_sessions 14 562 [(0, va_rf x0), (3, va_rf x3), (5, va_rf x5), (6, va_rf x6), (12, .int x12), (13, .int x13), (16, .int x16), (17, .int x17), (18, .int x18)] [] S (kr_eI r)) {S : AS} {x0 : Option Nat} {x3 : Option Nat} {x5 : Option Nat} {x6 : Option Nat} {x12 : Int32} {x13 : Int32} {x16 : Int32} {x17 : Int32} {x18 : Int32} {r : (Int32 × AS)} (h : f_W_sessions_C562 k562 S x0 x3 x5 x6 x12 x13 x16 x17 x18 = some r) : kr_AW m_W_sessions 14 562 [(0, va_rf x0), (3, va_rf x3), (5, va_rf x5), (6, va_rf x6), (12, .int x12), (13, .int x13), (16, .int x16), (17, .int x17), (18, .int x18)] [] S (kr_eI r) := by
  unfold f_W_sessions_C562 at h
  refine r_iload (i := 18) (x := x18) 8 rfl d_W_sessions_562 ?_
  refine r_iconst (v := (3 : Int32)) (by decide) d_W_sessions_564 ?_
  refine r_icmp_ge (tgt := 595) d_W_sessions_565 rfl (fun c => ?_) (fun c => ?_)
  · replace h := kr_ip c h
    refine r_aload_n (i := 3) (x := x3) 1 rfl d_W_sessions_595 ?_
    refine r_aload (i := 5) (x := x5) 2 rfl d_W_sessions_596 ?_
    refine r_iload (i := 16) (x := x16) 6 rfl d_W_sessions_598 ?_
    refine r_iload (i := 12) (x := x12) 4 rfl d_W_sessions_600 ?_
    have h2 := kr_ob h
    clear h
    obtain ⟨S22, eS22, h⟩ := h2
    refine r_callS (M1 := m_W_opens) (As := [va_rf x3, va_rf x5, .int x16, .int x12]) (s_W_opens eS22) mok_W_opens rfl w1026 w1027 (by decide) (kr_c8 kr_c0) d_W_sessions_602 (kr_k0 ?_) kr_kn
    exact kr_sub [0, 1, 4, 5, 6, 7] rfl (s_W_sessions_B605 h)
  · replace h := kr_in_ c h
    refine r_aload (i := 6) (x := x6) 3 rfl d_W_sessions_568 ?_
    refine r_iconst (v := (3 : Int32)) (by decide) d_W_sessions_570 ?_
    refine r_aload_n (i := 3) (x := x3) 1 rfl d_W_sessions_571 ?_
    refine r_iconst (v := (1 : Int32)) (by decide) d_W_sessions_572 ?_
    have h2 := kr_ob h
    clear h
    obtain ⟨v23, ev23, h⟩ := h2
    refine r_iaload ev23 d_W_sessions_573 ?_
    refine r_imul d_W_sessions_574 ?_
    refine r_iload (i := 18) (x := x18) 8 rfl d_W_sessions_575 ?_
    refine r_iadd d_W_sessions_577 ?_
    refine r_aload (i := 6) (x := x6) 3 rfl d_W_sessions_578 ?_
    refine r_iconst (v := (3 : Int32)) (by decide) d_W_sessions_580 ?_
    refine r_iload (i := 12) (x := x12) 4 rfl d_W_sessions_581 ?_
    refine r_imul d_W_sessions_583 ?_
    refine r_iload (i := 18) (x := x18) 8 rfl d_W_sessions_584 ?_
    refine r_iadd d_W_sessions_586 ?_
    have h2 := kr_ob h
    clear h
    obtain ⟨v24, ev24, h⟩ := h2
    refine r_iaload ev24 d_W_sessions_587 ?_
    have h2 := kr_ob h
    clear h
    obtain ⟨S25, eS25, h⟩ := h2
    refine r_iastore eS25 d_W_sessions_588 ?_
    have h2 := kr_ob h
    clear h
    obtain ⟨i26, ei26, h⟩ := h2
    refine r_iinc (v := i26) (lv' := [(18, .int i26), (0, va_rf x0), (3, va_rf x3), (5, va_rf x5), (6, va_rf x6), (12, .int x12), (13, .int x13), (16, .int x16), (17, .int x17)]) 8 rfl (kr_inc (by decide) ei26) (by decide) rfl d_W_sessions_589 ?_
    refine r_goto (tgt := 562) d_W_sessions_592 rfl ?_
    exact kr_sub [1, 2, 3, 4, 5, 6, 7, 8, 0] rfl (hk562 h)
theorem s_W_sessions_L562 (n : Nat) : ∀ {S : AS} {x0 : Option Nat} {x3 : Option Nat} {x5 : Option Nat} {x6 : Option Nat} {x12 : Int32} {x13 : Int32} {x16 : Int32} {x17 : Int32} {x18 : Int32} {r : (Int32 × AS)}, f_W_sessions_L562 n S x0 x3 x5 x6 x12 x13 x16 x17 x18 = some r → kr_AW m_W_sessions 14 562 [(0, va_rf x0), (3, va_rf x3), (5, va_rf x5), (6, va_rf x6), (12, .int x12), (13, .int x13), (16, .int x16), (17, .int x17), (18, .int x18)] [] S (kr_eI r) := by
  induction n with
  | zero => intro S x0 x3 x5 x6 x12 x13 x16 x17 x18 r h; cases h
  | succ n ih => intro S x0 x3 x5 x6 x12 x13 x16 x17 x18 r h; exact s_W_sessions_C562 (fun {_} {_} {_} {_} {_} {_} {_} {_} {_} {_} {_} h => ih h) h
set_option maxRecDepth 20000 in
set_option maxHeartbeats 4000000 in
theorem s_W_sessions_B554 {S : AS} {x0 : Option Nat} {x3 : Option Nat} {x5 : Option Nat} {x6 : Option Nat} {x12 : Int32} {x13 : Int32} {x16 : Int32} {x17 : Int32} {r : (Int32 × AS)} (h : f_W_sessions_B554 S x0 x3 x5 x6 x12 x13 x16 x17 = some r) : kr_AW m_W_sessions 14 554 [(0, va_rf x0), (3, va_rf x3), (5, va_rf x5), (6, va_rf x6), (12, .int x12), (13, .int x13), (16, .int x16), (17, .int x17)] [] S (kr_eI r) := by
  unfold f_W_sessions_B554 at h
  refine r_iload (i := 17) (x := x17) 7 rfl d_W_sessions_554 ?_
  refine r_if_eq (tgt := 605) d_W_sessions_556 rfl (fun c => ?_) (fun c => ?_)
  · replace h := kr_ip c h
    exact kr_sub [0, 1, 4, 5, 6, 7] rfl (s_W_sessions_B605 h)
  · replace h := kr_in_ c h
    refine r_iconst (v := (0 : Int32)) (by decide) d_W_sessions_559 ?_
    refine r_istore (i := 18) (lv' := [(18, .int (0 : Int32)), (0, va_rf x0), (3, va_rf x3), (5, va_rf x5), (6, va_rf x6), (12, .int x12), (13, .int x13), (16, .int x16), (17, .int x17)]) (by decide) rfl d_W_sessions_560 ?_
    exact kr_sub [1, 2, 3, 4, 5, 6, 7, 8, 0] rfl (s_W_sessions_L562 kr_FU h)
set_option maxRecDepth 20000 in
set_option maxHeartbeats 4000000 in
theorem s_W_sessions_B537 {S : AS} {x0 : Option Nat} {x3 : Option Nat} {x5 : Option Nat} {x6 : Option Nat} {x12 : Int32} {x13 : Int32} {x16 : Int32} {y0 : Int32} {r : (Int32 × AS)} (h : f_W_sessions_B537 S x0 x3 x5 x6 x12 x13 x16 y0 = some r) : kr_AW m_W_sessions 14 537 [(0, va_rf x0), (3, va_rf x3), (5, va_rf x5), (6, va_rf x6), (12, .int x12), (13, .int x13), (16, .int x16)] [.int y0] S (kr_eI r) := by
  unfold f_W_sessions_B537 at h
  refine r_istore (i := 17) (lv' := [(17, .int y0), (0, va_rf x0), (3, va_rf x3), (5, va_rf x5), (6, va_rf x6), (12, .int x12), (13, .int x13), (16, .int x16)]) (by decide) rfl d_W_sessions_537 ?_
  refine r_iload (i := 17) (x := y0) 0 rfl d_W_sessions_539 ?_
  refine r_if_eq (tgt := 554) d_W_sessions_541 rfl (fun c => ?_) (fun c => ?_)
  · replace h := kr_ip c h
    exact kr_sub [1, 2, 3, 4, 5, 6, 7, 0] rfl (s_W_sessions_B554 h)
  · replace h := kr_in_ c h
    refine r_aload_n (i := 3) (x := x3) 2 rfl d_W_sessions_544 ?_
    refine r_iconst (v := (1 : Int32)) (by decide) d_W_sessions_545 ?_
    have h2 := kr_ob h
    clear h
    obtain ⟨v27, ev27, h⟩ := h2
    refine r_iaload ev27 d_W_sessions_546 ?_
    refine r_bipush (v := (13 : Int32)) (by decide) d_W_sessions_547 ?_
    refine r_icmp_le (tgt := 554) d_W_sessions_549 rfl (fun c => ?_) (fun c => ?_)
    · replace h := kr_ip c h
      exact kr_sub [1, 2, 3, 4, 5, 6, 7, 0] rfl (s_W_sessions_B554 h)
    · replace h := kr_in_ c h
      refine r_iconst (v := (1 : Int32)) (by decide) d_W_sessions_552 ?_
      cases h
      exact r_zret rfl rfl d_W_sessions_553
set_option maxRecDepth 20000 in
set_option maxHeartbeats 4000000 in
theorem s_W_sessions_B536 {S : AS} {x0 : Option Nat} {x3 : Option Nat} {x5 : Option Nat} {x6 : Option Nat} {x12 : Int32} {x13 : Int32} {x16 : Int32} {r : (Int32 × AS)} (h : f_W_sessions_B536 S x0 x3 x5 x6 x12 x13 x16 = some r) : kr_AW m_W_sessions 14 536 [(0, va_rf x0), (3, va_rf x3), (5, va_rf x5), (6, va_rf x6), (12, .int x12), (13, .int x13), (16, .int x16)] [] S (kr_eI r) := by
  unfold f_W_sessions_B536 at h
  refine r_iconst (v := (0 : Int32)) (by decide) d_W_sessions_536 ?_
  exact kr_sub [0, 1, 2, 3, 4, 5, 6] rfl (s_W_sessions_B537 h)
set_option maxRecDepth 20000 in
set_option maxHeartbeats 4000000 in
theorem s_W_sessions_B264 {S : AS} {x0 : Option Nat} {x1 : Int32} {x2 : Int32} {x3 : Option Nat} {x4 : Option Nat} {x5 : Option Nat} {x6 : Option Nat} {x12 : Int32} {x13 : Int32} {y0 : Int32} {r : (Int32 × AS)} (h : f_W_sessions_B264 S x0 x1 x2 x3 x4 x5 x6 x12 x13 y0 = some r) : kr_AW m_W_sessions 14 264 [(0, va_rf x0), (1, .int x1), (2, .int x2), (3, va_rf x3), (4, va_rf x4), (5, va_rf x5), (6, va_rf x6), (12, .int x12), (13, .int x13)] [.int y0] S (kr_eI r) := by
  unfold f_W_sessions_B264 at h
  refine r_istore (i := 15) (lv' := [(15, .int y0), (0, va_rf x0), (1, .int x1), (2, .int x2), (3, va_rf x3), (4, va_rf x4), (5, va_rf x5), (6, va_rf x6), (12, .int x12), (13, .int x13)]) (by decide) rfl d_W_sessions_264 ?_
  refine r_iload_n (i := 1) (x := x1) 2 rfl d_W_sessions_266 ?_
  refine r_iconst (v := (2 : Int32)) (by decide) d_W_sessions_267 ?_
  refine r_icmp_ne (tgt := 434) d_W_sessions_268 rfl (fun c => ?_) (fun c => ?_)
  · replace h := kr_ip c h
    refine r_iload_n (i := 2) (x := x2) 3 rfl d_W_sessions_271 ?_
    refine r_iconst (v := (5 : Int32)) (by decide) d_W_sessions_272 ?_
    refine r_ishr d_W_sessions_273 ?_
    refine r_iconst (v := (3 : Int32)) (by decide) d_W_sessions_274 ?_
    have h2 := kr_ob2 h
    clear h
    obtain ⟨v29, S28, eS28, h⟩ := h2
    refine r_callS (M1 := m_W_some) (As := [.int (x2 >>> ((5 : Int32) &&& 31)), .int (3 : Int32)]) (s_W_some eS28) mok_W_some rfl w311 w312 (by decide) (kr_c8 kr_c0) d_W_sessions_275 (kr_k1 ?_) kr_kn
    refine r_istore (i := 16) (lv' := [(16, .int v29), (15, .int y0), (0, va_rf x0), (1, .int x1), (2, .int x2), (3, va_rf x3), (4, va_rf x4), (5, va_rf x5), (6, va_rf x6), (12, .int x12), (13, .int x13)]) (by decide) rfl d_W_sessions_278 ?_
    refine r_iload_n (i := 2) (x := x2) 4 rfl d_W_sessions_280 ?_
    refine r_bipush (v := (6 : Int32)) (by decide) d_W_sessions_281 ?_
    refine r_ishr d_W_sessions_283 ?_
    refine r_iconst (v := (4 : Int32)) (by decide) d_W_sessions_284 ?_
    have h2 := kr_ob2 h
    clear h
    obtain ⟨v31, S30, eS30, h⟩ := h2
    refine r_callS (M1 := m_W_some) (As := [.int (x2 >>> ((6 : Int32) &&& 31)), .int (4 : Int32)]) (s_W_some eS30) mok_W_some rfl w311 w312 (by decide) (kr_c8 kr_c0) d_W_sessions_285 (kr_k1 ?_) kr_kn
    refine r_if_le (tgt := 295) d_W_sessions_288 rfl (fun c => ?_) (fun c => ?_)
    · replace h := kr_ip c h
      refine r_iconst (v := (0 : Int32)) (by decide) d_W_sessions_295 ?_
      exact kr_sub [2, 4, 5, 6, 7, 8, 9, 10, 1, 0] rfl (s_W_sessions_B296 h)
    · replace h := kr_in_ c h
      refine r_iconst (v := (1 : Int32)) (by decide) d_W_sessions_291 ?_
      refine r_goto (tgt := 296) d_W_sessions_292 rfl ?_
      exact kr_sub [2, 4, 5, 6, 7, 8, 9, 10, 1, 0] rfl (s_W_sessions_B296 h)
  · replace h := kr_in_ c h
    refine r_iload_n (i := 2) (x := x2) 3 rfl d_W_sessions_434 ?_
    refine r_bipush (v := (6 : Int32)) (by decide) d_W_sessions_435 ?_
    refine r_ishr d_W_sessions_437 ?_
    refine r_iconst (v := (3 : Int32)) (by decide) d_W_sessions_438 ?_
    have h2 := kr_ob2 h
    clear h
    obtain ⟨v33, S32, eS32, h⟩ := h2
    refine r_callS (M1 := m_W_some) (As := [.int (x2 >>> ((6 : Int32) &&& 31)), .int (3 : Int32)]) (s_W_some eS32) mok_W_some rfl w311 w312 (by decide) (kr_c8 kr_c0) d_W_sessions_439 (kr_k1 ?_) kr_kn
    refine r_istore (i := 16) (lv' := [(16, .int v33), (15, .int y0), (0, va_rf x0), (1, .int x1), (2, .int x2), (3, va_rf x3), (4, va_rf x4), (5, va_rf x5), (6, va_rf x6), (12, .int x12), (13, .int x13)]) (by decide) rfl d_W_sessions_442 ?_
    refine r_iload_n (i := 1) (x := x1) 3 rfl d_W_sessions_444 ?_
    refine r_iconst (v := (3 : Int32)) (by decide) d_W_sessions_445 ?_
    refine r_icmp_ne (tgt := 485) d_W_sessions_446 rfl (fun c => ?_) (fun c => ?_)
    · replace h := kr_ip c h
      refine r_aload_n (i := 3) (x := x3) 5 rfl d_W_sessions_449 ?_
      refine r_bipush (v := (13 : Int32)) (by decide) d_W_sessions_450 ?_
      refine r_dup2 rfl (kr_rfcat _) d_W_sessions_452 ?_
      have h2 := kr_ob h
      clear h
      obtain ⟨v34, ev34, h⟩ := h2
      refine r_iaload ev34 d_W_sessions_453 ?_
      refine r_iconst (v := (1 : Int32)) (by decide) d_W_sessions_454 ?_
      refine r_iload (i := 16) (x := v33) 0 rfl d_W_sessions_455 ?_
      refine r_ishl d_W_sessions_457 ?_
      refine r_ixor d_W_sessions_458 ?_
      have h2 := kr_ob h
      clear h
      obtain ⟨S35, eS35, h⟩ := h2
      refine r_iastore eS35 d_W_sessions_459 ?_
      refine r_aload_n (i := 0) (x := x0) 2 rfl d_W_sessions_460 ?_
      refine r_iconst (v := (4 : Int32)) (by decide) d_W_sessions_461 ?_
      refine r_iload (i := 16) (x := v33) 0 rfl d_W_sessions_462 ?_
      have h2 := kr_ob2 h
      clear h
      obtain ⟨v37, S36, eS36, h⟩ := h2
      refine r_callSX (M1 := m_W_is) (As := [va_rf x0, .int (4 : Int32), .int v33]) (s_W_isg eS36) mok_W_is (by decide) w1302 w1303 (by decide) (kr_c8 kr_c0) d_W_sessions_464 (kr_k1 ?_) kr_kn
      refine r_aload_n (i := 3) (x := x3) 5 rfl d_W_sessions_467 ?_
      refine r_bipush (v := (13 : Int32)) (by decide) d_W_sessions_468 ?_
      have h2 := kr_ob h
      clear h
      obtain ⟨v38, ev38, h⟩ := h2
      refine r_iaload ev38 d_W_sessions_470 ?_
      refine r_iload (i := 16) (x := v33) 0 rfl d_W_sessions_471 ?_
      refine r_ishr d_W_sessions_473 ?_
      refine r_iconst (v := (1 : Int32)) (by decide) d_W_sessions_474 ?_
      refine r_iand d_W_sessions_475 ?_
      refine r_icmp_ne (tgt := 483) d_W_sessions_476 rfl (fun c => ?_) (fun c => ?_)
      · replace h := kr_ip c h
        refine r_iconst (v := (1 : Int32)) (by decide) d_W_sessions_479 ?_
        refine r_goto (tgt := 484) d_W_sessions_480 rfl ?_
        cases h
        exact r_zret rfl rfl d_W_sessions_484
      · replace h := kr_in_ c h
        refine r_iconst (v := (0 : Int32)) (by decide) d_W_sessions_483 ?_
        cases h
        exact r_zret rfl rfl d_W_sessions_484
    · replace h := kr_in_ c h
      refine r_iload (i := 15) (x := y0) 1 rfl d_W_sessions_485 ?_
      refine r_if_eq (tgt := 536) d_W_sessions_487 rfl (fun c => ?_) (fun c => ?_)
      · replace h := kr_ip c h
        exact kr_sub [2, 5, 7, 8, 9, 10, 0] rfl (s_W_sessions_B536 h)
      · replace h := kr_in_ c h
        refine r_aload_n (i := 3) (x := x3) 5 rfl d_W_sessions_490 ?_
        refine r_aload (i := 6) (x := x6) 8 rfl d_W_sessions_491 ?_
        refine r_iload (i := 12) (x := x12) 9 rfl d_W_sessions_493 ?_
        have h2 := kr_ob2 h
        clear h
        obtain ⟨v40, S39, eS39, h⟩ := h2
        refine r_callS (M1 := m_W_levelOf) (As := [va_rf x3, va_rf x6, .int x12]) (s_W_levelOf eS39) mok_W_levelOf rfl w1296 w1297 (by decide) (kr_c8 kr_c0) d_W_sessions_495 (kr_k1 ?_) kr_kn
        refine r_iconst (v := (2 : Int32)) (by decide) d_W_sessions_498 ?_
        refine r_icmp_le (tgt := 536) d_W_sessions_499 rfl (fun c => ?_) (fun c => ?_)
        · replace h := kr_ip c h
          exact kr_sub [2, 5, 7, 8, 9, 10, 0] rfl (s_W_sessions_B536 h)
        · replace h := kr_in_ c h
          refine r_aload_n (i := 3) (x := x3) 5 rfl d_W_sessions_502 ?_
          refine r_bipush (v := (13 : Int32)) (by decide) d_W_sessions_503 ?_
          have h2 := kr_ob h
          clear h
          obtain ⟨v41, ev41, h⟩ := h2
          refine r_iaload ev41 d_W_sessions_505 ?_
          refine r_aload (i := 5) (x := x5) 7 rfl d_W_sessions_506 ?_
          refine r_iconst (v := (4 : Int32)) (by decide) d_W_sessions_508 ?_
          refine r_iload (i := 12) (x := x12) 9 rfl d_W_sessions_509 ?_
          refine r_imul d_W_sessions_511 ?_
          have h2 := kr_ob h
          clear h
          obtain ⟨v42, ev42, h⟩ := h2
          refine r_iaload ev42 d_W_sessions_512 ?_
          refine r_ishr d_W_sessions_513 ?_
          refine r_iconst (v := (1 : Int32)) (by decide) d_W_sessions_514 ?_
          refine r_iand d_W_sessions_515 ?_
          refine r_iconst (v := (1 : Int32)) (by decide) d_W_sessions_516 ?_
          refine r_icmp_ne (tgt := 536) d_W_sessions_517 rfl (fun c => ?_) (fun c => ?_)
          · replace h := kr_ip c h
            refine r_iload (i := 16) (x := v33) 0 rfl d_W_sessions_520 ?_
            refine r_aload (i := 5) (x := x5) 7 rfl d_W_sessions_522 ?_
            refine r_iconst (v := (4 : Int32)) (by decide) d_W_sessions_524 ?_
            refine r_iload (i := 12) (x := x12) 9 rfl d_W_sessions_525 ?_
            refine r_imul d_W_sessions_527 ?_
            have h2 := kr_ob h
            clear h
            obtain ⟨v43, ev43, h⟩ := h2
            refine r_iaload ev43 d_W_sessions_528 ?_
            refine r_icmp_eq (tgt := 536) d_W_sessions_529 rfl (fun c => ?_) (fun c => ?_)
            · replace h := kr_ip c h
              exact kr_sub [2, 5, 7, 8, 9, 10, 0] rfl (s_W_sessions_B536 h)
            · replace h := kr_in_ c h
              refine r_iconst (v := (1 : Int32)) (by decide) d_W_sessions_532 ?_
              refine r_goto (tgt := 537) d_W_sessions_533 rfl ?_
              exact kr_sub [2, 5, 7, 8, 9, 10, 0] rfl (s_W_sessions_B537 h)
          · replace h := kr_in_ c h
            exact kr_sub [2, 5, 7, 8, 9, 10, 0] rfl (s_W_sessions_B536 h)
set_option maxRecDepth 20000 in
set_option maxHeartbeats 4000000 in
theorem s_W_sessions_B263 {S : AS} {x0 : Option Nat} {x1 : Int32} {x2 : Int32} {x3 : Option Nat} {x4 : Option Nat} {x5 : Option Nat} {x6 : Option Nat} {x12 : Int32} {x13 : Int32} {r : (Int32 × AS)} (h : f_W_sessions_B263 S x0 x1 x2 x3 x4 x5 x6 x12 x13 = some r) : kr_AW m_W_sessions 14 263 [(0, va_rf x0), (1, .int x1), (2, .int x2), (3, va_rf x3), (4, va_rf x4), (5, va_rf x5), (6, va_rf x6), (12, .int x12), (13, .int x13)] [] S (kr_eI r) := by
  unfold f_W_sessions_B263 at h
  refine r_iconst (v := (0 : Int32)) (by decide) d_W_sessions_263 ?_
  exact kr_sub [0, 1, 2, 3, 4, 5, 6, 7, 8] rfl (s_W_sessions_B264 h)
set_option maxRecDepth 20000 in
set_option maxHeartbeats 4000000 in
theorem s_W_sessions_B180 {S : AS} {x0 : Option Nat} {x1 : Int32} {x2 : Int32} {x3 : Option Nat} {x4 : Option Nat} {x5 : Option Nat} {x6 : Option Nat} {x7 : Option Nat} {x8 : Option Nat} {x9 : Option Nat} {x11 : Option Nat} {x12 : Int32} {x13 : Int32} {y0 : Int32} {r : (Int32 × AS)} (h : f_W_sessions_B180 S x0 x1 x2 x3 x4 x5 x6 x7 x8 x9 x11 x12 x13 y0 = some r) : kr_AW m_W_sessions 14 180 [(0, va_rf x0), (1, .int x1), (2, .int x2), (3, va_rf x3), (4, va_rf x4), (5, va_rf x5), (6, va_rf x6), (7, va_rf x7), (8, va_rf x8), (9, va_rf x9), (11, va_rf x11), (12, .int x12), (13, .int x13)] [.int y0] S (kr_eI r) := by
  unfold f_W_sessions_B180 at h
  refine r_istore (i := 14) (lv' := [(14, .int y0), (0, va_rf x0), (1, .int x1), (2, .int x2), (3, va_rf x3), (4, va_rf x4), (5, va_rf x5), (6, va_rf x6), (7, va_rf x7), (8, va_rf x8), (9, va_rf x9), (11, va_rf x11), (12, .int x12), (13, .int x13)]) (by decide) rfl d_W_sessions_180 ?_
  refine r_iload_n (i := 1) (x := x1) 2 rfl d_W_sessions_182 ?_
  refine r_iconst (v := (1 : Int32)) (by decide) d_W_sessions_183 ?_
  refine r_icmp_ne (tgt := 242) d_W_sessions_184 rfl (fun c => ?_) (fun c => ?_)
  · replace h := kr_ip c h
    refine r_aload_n (i := 0) (x := x0) 1 rfl d_W_sessions_187 ?_
    refine r_bipush (v := (6 : Int32)) (by decide) d_W_sessions_188 ?_
    refine r_iload (i := 12) (x := x12) 12 rfl d_W_sessions_190 ?_
    have h2 := kr_ob2 h
    clear h
    obtain ⟨v45, S44, eS44, h⟩ := h2
    refine r_callSX (M1 := m_W_one) (As := [va_rf x0, .int (6 : Int32), .int x12]) (s_W_oneg eS44) mok_W_one (by decide) w1051 w1052 (by decide) (kr_c8 kr_c0) d_W_sessions_192 (kr_k1 ?_) kr_kn
    refine r_iload (i := 13) (x := x13) 13 rfl d_W_sessions_195 ?_
    refine r_if_ne (tgt := 206) d_W_sessions_197 rfl (fun c => ?_) (fun c => ?_)
    · replace h := kr_ip c h
      refine r_sipush (v := (-1001 : Int32)) (by decide) d_W_sessions_200 ?_
      refine r_goto (tgt := 233) d_W_sessions_203 rfl ?_
      exact kr_sub [] rfl (s_W_sessions_B233 h)
    · replace h := kr_in_ c h
      refine r_iload (i := 14) (x := y0) 0 rfl d_W_sessions_206 ?_
      refine r_if_ne (tgt := 217) d_W_sessions_208 rfl (fun c => ?_) (fun c => ?_)
      · replace h := kr_ip c h
        refine r_sipush (v := (-1003 : Int32)) (by decide) d_W_sessions_211 ?_
        refine r_goto (tgt := 233) d_W_sessions_214 rfl ?_
        exact kr_sub [] rfl (s_W_sessions_B233 h)
      · replace h := kr_in_ c h
        refine r_aload_n (i := 3) (x := x3) 4 rfl d_W_sessions_217 ?_
        refine r_aload (i := 5) (x := x5) 6 rfl d_W_sessions_218 ?_
        refine r_aload (i := 7) (x := x7) 8 rfl d_W_sessions_220 ?_
        refine r_aload (i := 8) (x := x8) 9 rfl d_W_sessions_222 ?_
        refine r_aload (i := 9) (x := x9) 10 rfl d_W_sessions_224 ?_
        refine r_aload (i := 11) (x := x11) 11 rfl d_W_sessions_226 ?_
        refine r_iload (i := 12) (x := x12) 12 rfl d_W_sessions_228 ?_
        have h2 := kr_ob2 h
        clear h
        obtain ⟨v47, S46, eS46, h⟩ := h2
        refine r_callS (M1 := m_W_endSession) (As := [va_rf x3, va_rf x5, va_rf x7, va_rf x8, va_rf x9, va_rf x11, .int x12]) (s_W_endSession eS46) mok_W_endSession rfl w1042 w1043 (by decide) (kr_c8 (kr_cI kr_c0)) d_W_sessions_230 (kr_k1 ?_) kr_kn
        exact kr_sub [] rfl (s_W_sessions_B233 h)
  · replace h := kr_in_ c h
    refine r_iload (i := 14) (x := y0) 0 rfl d_W_sessions_242 ?_
    refine r_if_eq (tgt := 263) d_W_sessions_244 rfl (fun c => ?_) (fun c => ?_)
    · replace h := kr_ip c h
      exact kr_sub [1, 2, 3, 4, 5, 6, 7, 12, 13] rfl (s_W_sessions_B263 h)
    · replace h := kr_in_ c h
      refine r_aload (i := 5) (x := x5) 6 rfl d_W_sessions_247 ?_
      refine r_iconst (v := (4 : Int32)) (by decide) d_W_sessions_249 ?_
      refine r_iload (i := 12) (x := x12) 12 rfl d_W_sessions_250 ?_
      refine r_imul d_W_sessions_252 ?_
      refine r_iconst (v := (3 : Int32)) (by decide) d_W_sessions_253 ?_
      refine r_iadd d_W_sessions_254 ?_
      have h2 := kr_ob h
      clear h
      obtain ⟨v48, ev48, h⟩ := h2
      refine r_iaload ev48 d_W_sessions_255 ?_
      refine r_if_ne (tgt := 263) d_W_sessions_256 rfl (fun c => ?_) (fun c => ?_)
      · replace h := kr_ip c h
        refine r_iconst (v := (1 : Int32)) (by decide) d_W_sessions_259 ?_
        refine r_goto (tgt := 264) d_W_sessions_260 rfl ?_
        exact kr_sub [1, 2, 3, 4, 5, 6, 7, 12, 13] rfl (s_W_sessions_B264 h)
      · replace h := kr_in_ c h
        exact kr_sub [1, 2, 3, 4, 5, 6, 7, 12, 13] rfl (s_W_sessions_B263 h)
set_option maxRecDepth 20000 in
set_option maxHeartbeats 4000000 in
theorem s_W_sessions_B179 {S : AS} {x0 : Option Nat} {x1 : Int32} {x2 : Int32} {x3 : Option Nat} {x4 : Option Nat} {x5 : Option Nat} {x6 : Option Nat} {x7 : Option Nat} {x8 : Option Nat} {x9 : Option Nat} {x11 : Option Nat} {x12 : Int32} {x13 : Int32} {r : (Int32 × AS)} (h : f_W_sessions_B179 S x0 x1 x2 x3 x4 x5 x6 x7 x8 x9 x11 x12 x13 = some r) : kr_AW m_W_sessions 14 179 [(0, va_rf x0), (1, .int x1), (2, .int x2), (3, va_rf x3), (4, va_rf x4), (5, va_rf x5), (6, va_rf x6), (7, va_rf x7), (8, va_rf x8), (9, va_rf x9), (11, va_rf x11), (12, .int x12), (13, .int x13)] [] S (kr_eI r) := by
  unfold f_W_sessions_B179 at h
  refine r_iconst (v := (0 : Int32)) (by decide) d_W_sessions_179 ?_
  exact kr_sub [0, 1, 2, 3, 4, 5, 6, 7, 8, 9, 10, 11, 12] rfl (s_W_sessions_B180 h)
set_option maxRecDepth 20000 in
set_option maxHeartbeats 4000000 in
theorem s_W_sessions_B154 {S : AS} {x0 : Option Nat} {x1 : Int32} {x2 : Int32} {x3 : Option Nat} {x4 : Option Nat} {x5 : Option Nat} {x6 : Option Nat} {x7 : Option Nat} {x8 : Option Nat} {x9 : Option Nat} {x11 : Option Nat} {x12 : Int32} {y0 : Int32} {r : (Int32 × AS)} (h : f_W_sessions_B154 S x0 x1 x2 x3 x4 x5 x6 x7 x8 x9 x11 x12 y0 = some r) : kr_AW m_W_sessions 14 154 [(0, va_rf x0), (1, .int x1), (2, .int x2), (3, va_rf x3), (4, va_rf x4), (5, va_rf x5), (6, va_rf x6), (7, va_rf x7), (8, va_rf x8), (9, va_rf x9), (11, va_rf x11), (12, .int x12)] [.int y0] S (kr_eI r) := by
  unfold f_W_sessions_B154 at h
  refine r_istore (i := 13) (lv' := [(13, .int y0), (0, va_rf x0), (1, .int x1), (2, .int x2), (3, va_rf x3), (4, va_rf x4), (5, va_rf x5), (6, va_rf x6), (7, va_rf x7), (8, va_rf x8), (9, va_rf x9), (11, va_rf x11), (12, .int x12)]) (by decide) rfl d_W_sessions_154 ?_
  refine r_iload (i := 13) (x := y0) 0 rfl d_W_sessions_156 ?_
  refine r_if_eq (tgt := 179) d_W_sessions_158 rfl (fun c => ?_) (fun c => ?_)
  · replace h := kr_ip c h
    exact kr_sub [1, 2, 3, 4, 5, 6, 7, 8, 9, 10, 11, 12, 0] rfl (s_W_sessions_B179 h)
  · replace h := kr_in_ c h
    refine r_aload (i := 5) (x := x5) 6 rfl d_W_sessions_161 ?_
    refine r_iconst (v := (4 : Int32)) (by decide) d_W_sessions_163 ?_
    refine r_iload (i := 12) (x := x12) 12 rfl d_W_sessions_164 ?_
    refine r_imul d_W_sessions_166 ?_
    refine r_iconst (v := (3 : Int32)) (by decide) d_W_sessions_167 ?_
    refine r_iadd d_W_sessions_168 ?_
    have h2 := kr_ob h
    clear h
    obtain ⟨v49, ev49, h⟩ := h2
    refine r_iaload ev49 d_W_sessions_169 ?_
    refine r_bipush (v := (100 : Int32)) (by decide) d_W_sessions_170 ?_
    refine r_icmp_ge (tgt := 179) d_W_sessions_172 rfl (fun c => ?_) (fun c => ?_)
    · replace h := kr_ip c h
      exact kr_sub [1, 2, 3, 4, 5, 6, 7, 8, 9, 10, 11, 12, 0] rfl (s_W_sessions_B179 h)
    · replace h := kr_in_ c h
      refine r_iconst (v := (1 : Int32)) (by decide) d_W_sessions_175 ?_
      refine r_goto (tgt := 180) d_W_sessions_176 rfl ?_
      exact kr_sub [1, 2, 3, 4, 5, 6, 7, 8, 9, 10, 11, 12, 0] rfl (s_W_sessions_B180 h)
set_option maxRecDepth 20000 in
set_option maxHeartbeats 4000000 in
theorem s_W_sessions_B139 {S : AS} {x0 : Option Nat} {x1 : Int32} {x2 : Int32} {x3 : Option Nat} {x4 : Option Nat} {x5 : Option Nat} {x6 : Option Nat} {x7 : Option Nat} {x8 : Option Nat} {x9 : Option Nat} {x11 : Option Nat} {y0 : Int32} {r : (Int32 × AS)} (h : f_W_sessions_B139 S x0 x1 x2 x3 x4 x5 x6 x7 x8 x9 x11 y0 = some r) : kr_AW m_W_sessions 14 139 [(0, va_rf x0), (1, .int x1), (2, .int x2), (3, va_rf x3), (4, va_rf x4), (5, va_rf x5), (6, va_rf x6), (7, va_rf x7), (8, va_rf x8), (9, va_rf x9), (11, va_rf x11)] [.int y0] S (kr_eI r) := by
  unfold f_W_sessions_B139 at h
  refine r_istore (i := 12) (lv' := [(12, .int y0), (0, va_rf x0), (1, .int x1), (2, .int x2), (3, va_rf x3), (4, va_rf x4), (5, va_rf x5), (6, va_rf x6), (7, va_rf x7), (8, va_rf x8), (9, va_rf x9), (11, va_rf x11)]) (by decide) (by show kr_st _ 12 _ = _; simp [kr_st, kr_rfcat, kr_icat]) d_W_sessions_139 ?_
  refine r_iload (i := 12) (x := y0) 0 rfl d_W_sessions_141 ?_
  refine r_aload_n (i := 3) (x := x3) 4 rfl d_W_sessions_143 ?_
  refine r_iconst (v := (1 : Int32)) (by decide) d_W_sessions_144 ?_
  have h2 := kr_ob h
  clear h
  obtain ⟨v50, ev50, h⟩ := h2
  refine r_iaload ev50 d_W_sessions_145 ?_
  refine r_icmp_ge (tgt := 153) d_W_sessions_146 rfl (fun c => ?_) (fun c => ?_)
  · replace h := kr_ip c h
    refine r_iconst (v := (0 : Int32)) (by decide) d_W_sessions_153 ?_
    exact kr_sub [1, 2, 3, 4, 5, 6, 7, 8, 9, 10, 11, 0] rfl (s_W_sessions_B154 h)
  · replace h := kr_in_ c h
    refine r_iconst (v := (1 : Int32)) (by decide) d_W_sessions_149 ?_
    refine r_goto (tgt := 154) d_W_sessions_150 rfl ?_
    exact kr_sub [1, 2, 3, 4, 5, 6, 7, 8, 9, 10, 11, 0] rfl (s_W_sessions_B154 h)
set_option maxRecDepth 20000 in
set_option maxHeartbeats 4000000 in
theorem s_W_sessions {S : AS} {a0 : Option Nat} {a1 : Int32} {a2 : Int32} {a3 : Option Nat} {a4 : Option Nat} {a5 : Option Nat} {a6 : Option Nat} {a7 : Option Nat} {a8 : Option Nat} {a9 : Option Nat} {a10 : Option Nat} {a11 : Option Nat} {r : (Int32 × AS)} (h : f_W_sessions S a0 a1 a2 a3 a4 a5 a6 a7 a8 a9 a10 a11 = some r) : kr_Con m_W_sessions 14 [va_rf a0, .int a1, .int a2, va_rf a3, va_rf a4, va_rf a5, va_rf a6, va_rf a7, va_rf a8, va_rf a9, va_rf a10, va_rf a11] S (kr_eI r) := by
  refine kr_con rfl rfl (by decide +kernel) (by simp [lg_sl, kr_rfcat, kr_icat, m_W_sessions, mL]) ?_
  rw [show lv_args 0 [va_rf a0, .int a1, .int a2, va_rf a3, va_rf a4, va_rf a5, va_rf a6, va_rf a7, va_rf a8, va_rf a9, va_rf a10, va_rf a11] = [(0, va_rf a0), (1, .int a1), (2, .int a2), (3, va_rf a3), (4, va_rf a4), (5, va_rf a5), (6, va_rf a6), (7, va_rf a7), (8, va_rf a8), (9, va_rf a9), (10, va_rf a10), (11, va_rf a11)] from by simp [lv_args, kr_rfcat, kr_icat]]
  unfold f_W_sessions at h
  refine r_iload_n (i := 1) (x := a1) 1 rfl d_W_sessions_0 ?_
  refine r_if_ne (tgt := 98) d_W_sessions_1 rfl (fun c => ?_) (fun c => ?_)
  · replace h := kr_ip c h
    refine r_iload_n (i := 2) (x := a2) 2 rfl d_W_sessions_4 ?_
    refine r_bipush (v := (6 : Int32)) (by decide) d_W_sessions_5 ?_
    have h2 := kr_ob2 h
    clear h
    obtain ⟨v52, S51, eS51, h⟩ := h2
    refine r_callS (M1 := m_W_some) (As := [.int a2, .int (6 : Int32)]) (s_W_some eS51) mok_W_some rfl w311 w312 (by decide) (kr_c8 kr_c0) d_W_sessions_7 (kr_k1 ?_) kr_kn
    refine r_if_ne (tgt := 27) d_W_sessions_10 rfl (fun c => ?_) (fun c => ?_)
    · replace h := kr_ip c h
      refine r_bipush (v := (20 : Int32)) (by decide) d_W_sessions_13 ?_
      refine r_iload_n (i := 2) (x := a2) 2 rfl d_W_sessions_15 ?_
      refine r_iconst (v := (3 : Int32)) (by decide) d_W_sessions_16 ?_
      refine r_ishr d_W_sessions_17 ?_
      refine r_bipush (v := (120 : Int32)) (by decide) d_W_sessions_18 ?_
      have h2 := kr_ob2 h
      clear h
      obtain ⟨v54, S53, eS53, h⟩ := h2
      refine r_callS (M1 := m_W_some) (As := [.int (a2 >>> ((3 : Int32) &&& 31)), .int (120 : Int32)]) (s_W_some eS53) mok_W_some rfl w311 w312 (by decide) (kr_c8 (kr_cI kr_c0)) d_W_sessions_20 (kr_k1 ?_) kr_kn
      refine r_iadd d_W_sessions_23 ?_
      refine r_goto (tgt := 35) d_W_sessions_24 rfl ?_
      exact kr_sub [0, 3, 5, 7, 8, 9, 10, 11] rfl (s_W_sessions_B35 h)
    · replace h := kr_in_ c h
      refine r_iload_n (i := 2) (x := a2) 2 rfl d_W_sessions_27 ?_
      refine r_iconst (v := (5 : Int32)) (by decide) d_W_sessions_28 ?_
      refine r_ishr d_W_sessions_29 ?_
      refine r_bipush (v := (7 : Int32)) (by decide) d_W_sessions_30 ?_
      have h2 := kr_ob2 h
      clear h
      obtain ⟨v56, S55, eS55, h⟩ := h2
      refine r_callS (M1 := m_W_some) (As := [.int (a2 >>> ((5 : Int32) &&& 31)), .int (7 : Int32)]) (s_W_some eS55) mok_W_some rfl w311 w312 (by decide) (kr_c8 kr_c0) d_W_sessions_32 (kr_k1 ?_) kr_kn
      exact kr_sub [0, 3, 5, 7, 8, 9, 10, 11] rfl (s_W_sessions_B35 h)
  · replace h := kr_in_ c h
    refine r_iload_n (i := 2) (x := a2) 2 rfl d_W_sessions_98 ?_
    refine r_iconst (v := (5 : Int32)) (by decide) d_W_sessions_99 ?_
    have h2 := kr_ob2 h
    clear h
    obtain ⟨v58, S57, eS57, h⟩ := h2
    refine r_callS (M1 := m_W_some) (As := [.int a2, .int (5 : Int32)]) (s_W_some eS57) mok_W_some rfl w311 w312 (by decide) (kr_c8 kr_c0) d_W_sessions_100 (kr_k1 ?_) kr_kn
    refine r_if_ne (tgt := 120) d_W_sessions_103 rfl (fun c => ?_) (fun c => ?_)
    · replace h := kr_ip c h
      refine r_iload_n (i := 2) (x := a2) 2 rfl d_W_sessions_106 ?_
      refine r_iconst (v := (3 : Int32)) (by decide) d_W_sessions_107 ?_
      refine r_ishr d_W_sessions_108 ?_
      refine r_aload_n (i := 3) (x := a3) 3 rfl d_W_sessions_109 ?_
      refine r_iconst (v := (1 : Int32)) (by decide) d_W_sessions_110 ?_
      have h2 := kr_ob h
      clear h
      obtain ⟨v59, ev59, h⟩ := h2
      refine r_iaload ev59 d_W_sessions_111 ?_
      refine r_iconst (v := (1 : Int32)) (by decide) d_W_sessions_112 ?_
      refine r_iadd d_W_sessions_113 ?_
      have h2 := kr_ob2 h
      clear h
      obtain ⟨v61, S60, eS60, h⟩ := h2
      refine r_callS (M1 := m_W_some) (As := [.int (a2 >>> ((3 : Int32) &&& 31)), .int (v59 + (1 : Int32))]) (s_W_some eS60) mok_W_some rfl w311 w312 (by decide) (kr_c8 kr_c0) d_W_sessions_114 (kr_k1 ?_) kr_kn
      refine r_goto (tgt := 139) d_W_sessions_117 rfl ?_
      exact kr_sub [0, 1, 2, 3, 4, 5, 6, 7, 8, 9, 11] rfl (s_W_sessions_B139 h)
    · replace h := kr_in_ c h
      refine r_aload_n (i := 3) (x := a3) 3 rfl d_W_sessions_120 ?_
      refine r_iconst (v := (1 : Int32)) (by decide) d_W_sessions_121 ?_
      have h2 := kr_ob h
      clear h
      obtain ⟨v62, ev62, h⟩ := h2
      refine r_iaload ev62 d_W_sessions_122 ?_
      refine r_if_le (tgt := 138) d_W_sessions_123 rfl (fun c => ?_) (fun c => ?_)
      · replace h := kr_ip c h
        refine r_iconst (v := (0 : Int32)) (by decide) d_W_sessions_138 ?_
        exact kr_sub [0, 1, 2, 3, 4, 5, 6, 7, 8, 9, 11] rfl (s_W_sessions_B139 h)
      · replace h := kr_in_ c h
        refine r_iload_n (i := 2) (x := a2) 2 rfl d_W_sessions_126 ?_
        refine r_iconst (v := (3 : Int32)) (by decide) d_W_sessions_127 ?_
        refine r_ishr d_W_sessions_128 ?_
        refine r_aload_n (i := 3) (x := a3) 3 rfl d_W_sessions_129 ?_
        refine r_iconst (v := (1 : Int32)) (by decide) d_W_sessions_130 ?_
        have h2 := kr_ob h
        clear h
        obtain ⟨v63, ev63, h⟩ := h2
        refine r_iaload ev63 d_W_sessions_131 ?_
        have h2 := kr_ob2 h
        clear h
        obtain ⟨v65, S64, eS64, h⟩ := h2
        refine r_callS (M1 := m_W_some) (As := [.int (a2 >>> ((3 : Int32) &&& 31)), .int v63]) (s_W_some eS64) mok_W_some rfl w311 w312 (by decide) (kr_c8 kr_c0) d_W_sessions_132 (kr_k1 ?_) kr_kn
        refine r_goto (tgt := 139) d_W_sessions_135 rfl ?_
        exact kr_sub [0, 1, 2, 3, 4, 5, 6, 7, 8, 9, 11] rfl (s_W_sessions_B139 h)
/-! KeyringCourtLaw.what([II)I -/
def f_W_what (S : AS) (a0 : Option Nat) (a1 : Int32) : Option (Int32 × AS) :=
  (aI S 40 a0 (((6 : Int32) * a1) + (1 : Int32))).bind fun v1 =>
  (aI S 40 a0 (((6 : Int32) * a1) + (2 : Int32))).bind fun v2 =>
  (aI S 40 a0 (((6 : Int32) * a1) + (3 : Int32))).bind fun v3 =>
  some ((v1 + ((10 : Int32) * v2)) + ((1000 : Int32) * v3), S)
set_option maxRecDepth 20000 in
set_option maxHeartbeats 4000000 in
theorem s_W_what {S : AS} {a0 : Option Nat} {a1 : Int32} {r : (Int32 × AS)} (h : f_W_what S a0 a1 = some r) : kr_Con m_W_what 0 [va_rf a0, .int a1] S (kr_eI r) := by
  refine kr_con rfl rfl (by decide +kernel) (by simp [lg_sl, kr_rfcat, kr_icat, m_W_what, mL]) ?_
  rw [show lv_args 0 [va_rf a0, .int a1] = [(0, va_rf a0), (1, .int a1)] from by simp [lv_args, kr_rfcat, kr_icat]]
  unfold f_W_what at h
  refine r_aload_n (i := 0) (x := a0) 0 rfl d_W_what_0 ?_
  refine r_bipush (v := (6 : Int32)) (by decide) d_W_what_1 ?_
  refine r_iload_n (i := 1) (x := a1) 1 rfl d_W_what_3 ?_
  refine r_imul d_W_what_4 ?_
  refine r_iconst (v := (1 : Int32)) (by decide) d_W_what_5 ?_
  refine r_iadd d_W_what_6 ?_
  have h2 := kr_ob h
  clear h
  obtain ⟨v1, ev1, h⟩ := h2
  refine r_iaload ev1 d_W_what_7 ?_
  refine r_bipush (v := (10 : Int32)) (by decide) d_W_what_8 ?_
  refine r_aload_n (i := 0) (x := a0) 0 rfl d_W_what_10 ?_
  refine r_bipush (v := (6 : Int32)) (by decide) d_W_what_11 ?_
  refine r_iload_n (i := 1) (x := a1) 1 rfl d_W_what_13 ?_
  refine r_imul d_W_what_14 ?_
  refine r_iconst (v := (2 : Int32)) (by decide) d_W_what_15 ?_
  refine r_iadd d_W_what_16 ?_
  have h2 := kr_ob h
  clear h
  obtain ⟨v2, ev2, h⟩ := h2
  refine r_iaload ev2 d_W_what_17 ?_
  refine r_imul d_W_what_18 ?_
  refine r_iadd d_W_what_19 ?_
  refine r_sipush (v := (1000 : Int32)) (by decide) d_W_what_20 ?_
  refine r_aload_n (i := 0) (x := a0) 0 rfl d_W_what_23 ?_
  refine r_bipush (v := (6 : Int32)) (by decide) d_W_what_24 ?_
  refine r_iload_n (i := 1) (x := a1) 1 rfl d_W_what_26 ?_
  refine r_imul d_W_what_27 ?_
  refine r_iconst (v := (3 : Int32)) (by decide) d_W_what_28 ?_
  refine r_iadd d_W_what_29 ?_
  have h2 := kr_ob h
  clear h
  obtain ⟨v3, ev3, h⟩ := h2
  refine r_iaload ev3 d_W_what_30 ?_
  refine r_imul d_W_what_31 ?_
  refine r_iadd d_W_what_32 ?_
  cases h
  exact r_iret rfl d_W_what_33
/-! KeyringCourtLaw.makes([I[I[IIII)I -/
def f_W_makes (S : AS) (a0 : Option Nat) (a1 : Option Nat) (a2 : Option Nat) (a3 : Int32) (a4 : Int32) (a5 : Int32) : Option (Int32 × AS) :=
  (aI S 40 a0 (4 : Int32)).bind fun v1 =>
  (bI S a2 ((3 : Int32) * v1) a4).bind fun S2 =>
  (aI S2 40 a0 (4 : Int32)).bind fun v3 =>
  (aI S2 40 a0 (6 : Int32)).bind fun v4 =>
  (bI S2 a2 (((3 : Int32) * v3) + (1 : Int32)) (a3 + ((100 : Int32) * v4))).bind fun S5 =>
  (aI S5 40 a0 (4 : Int32)).bind fun v6 =>
  (bI S5 a2 (((3 : Int32) * v6) + (2 : Int32)) a5).bind fun S7 =>
  (aI S7 40 a0 (4 : Int32)).bind fun v8 =>
  (bI S7 a1 (((5 : Int32) * a3) + (3 : Int32)) v8).bind fun S9 =>
  (aI S9 40 a0 (4 : Int32)).bind fun v10 =>
  (bI S9 a0 (4 : Int32) (v10 + (1 : Int32))).bind fun S11 =>
  (aI S11 40 a0 (4 : Int32)).bind fun v12 =>
  some (v12 - (1 : Int32), S11)
set_option maxRecDepth 20000 in
set_option maxHeartbeats 4000000 in
theorem s_W_makes {S : AS} {a0 : Option Nat} {a1 : Option Nat} {a2 : Option Nat} {a3 : Int32} {a4 : Int32} {a5 : Int32} {r : (Int32 × AS)} (h : f_W_makes S a0 a1 a2 a3 a4 a5 = some r) : kr_Con m_W_makes 0 [va_rf a0, va_rf a1, va_rf a2, .int a3, .int a4, .int a5] S (kr_eI r) := by
  refine kr_con rfl rfl (by decide +kernel) (by simp [lg_sl, kr_rfcat, kr_icat, m_W_makes, mL]) ?_
  rw [show lv_args 0 [va_rf a0, va_rf a1, va_rf a2, .int a3, .int a4, .int a5] = [(0, va_rf a0), (1, va_rf a1), (2, va_rf a2), (3, .int a3), (4, .int a4), (5, .int a5)] from by simp [lv_args, kr_rfcat, kr_icat]]
  unfold f_W_makes at h
  refine r_aload_n (i := 2) (x := a2) 2 rfl d_W_makes_0 ?_
  refine r_iconst (v := (3 : Int32)) (by decide) d_W_makes_1 ?_
  refine r_aload_n (i := 0) (x := a0) 0 rfl d_W_makes_2 ?_
  refine r_iconst (v := (4 : Int32)) (by decide) d_W_makes_3 ?_
  have h2 := kr_ob h
  clear h
  obtain ⟨v1, ev1, h⟩ := h2
  refine r_iaload ev1 d_W_makes_4 ?_
  refine r_imul d_W_makes_5 ?_
  refine r_iload (i := 4) (x := a4) 4 rfl d_W_makes_6 ?_
  have h2 := kr_ob h
  clear h
  obtain ⟨S2, eS2, h⟩ := h2
  refine r_iastore eS2 d_W_makes_8 ?_
  refine r_aload_n (i := 2) (x := a2) 2 rfl d_W_makes_9 ?_
  refine r_iconst (v := (3 : Int32)) (by decide) d_W_makes_10 ?_
  refine r_aload_n (i := 0) (x := a0) 0 rfl d_W_makes_11 ?_
  refine r_iconst (v := (4 : Int32)) (by decide) d_W_makes_12 ?_
  have h2 := kr_ob h
  clear h
  obtain ⟨v3, ev3, h⟩ := h2
  refine r_iaload ev3 d_W_makes_13 ?_
  refine r_imul d_W_makes_14 ?_
  refine r_iconst (v := (1 : Int32)) (by decide) d_W_makes_15 ?_
  refine r_iadd d_W_makes_16 ?_
  refine r_iload_n (i := 3) (x := a3) 3 rfl d_W_makes_17 ?_
  refine r_bipush (v := (100 : Int32)) (by decide) d_W_makes_18 ?_
  refine r_aload_n (i := 0) (x := a0) 0 rfl d_W_makes_20 ?_
  refine r_bipush (v := (6 : Int32)) (by decide) d_W_makes_21 ?_
  have h2 := kr_ob h
  clear h
  obtain ⟨v4, ev4, h⟩ := h2
  refine r_iaload ev4 d_W_makes_23 ?_
  refine r_imul d_W_makes_24 ?_
  refine r_iadd d_W_makes_25 ?_
  have h2 := kr_ob h
  clear h
  obtain ⟨S5, eS5, h⟩ := h2
  refine r_iastore eS5 d_W_makes_26 ?_
  refine r_aload_n (i := 2) (x := a2) 2 rfl d_W_makes_27 ?_
  refine r_iconst (v := (3 : Int32)) (by decide) d_W_makes_28 ?_
  refine r_aload_n (i := 0) (x := a0) 0 rfl d_W_makes_29 ?_
  refine r_iconst (v := (4 : Int32)) (by decide) d_W_makes_30 ?_
  have h2 := kr_ob h
  clear h
  obtain ⟨v6, ev6, h⟩ := h2
  refine r_iaload ev6 d_W_makes_31 ?_
  refine r_imul d_W_makes_32 ?_
  refine r_iconst (v := (2 : Int32)) (by decide) d_W_makes_33 ?_
  refine r_iadd d_W_makes_34 ?_
  refine r_iload (i := 5) (x := a5) 5 rfl d_W_makes_35 ?_
  have h2 := kr_ob h
  clear h
  obtain ⟨S7, eS7, h⟩ := h2
  refine r_iastore eS7 d_W_makes_37 ?_
  refine r_aload_n (i := 1) (x := a1) 1 rfl d_W_makes_38 ?_
  refine r_iconst (v := (5 : Int32)) (by decide) d_W_makes_39 ?_
  refine r_iload_n (i := 3) (x := a3) 3 rfl d_W_makes_40 ?_
  refine r_imul d_W_makes_41 ?_
  refine r_iconst (v := (3 : Int32)) (by decide) d_W_makes_42 ?_
  refine r_iadd d_W_makes_43 ?_
  refine r_aload_n (i := 0) (x := a0) 0 rfl d_W_makes_44 ?_
  refine r_iconst (v := (4 : Int32)) (by decide) d_W_makes_45 ?_
  have h2 := kr_ob h
  clear h
  obtain ⟨v8, ev8, h⟩ := h2
  refine r_iaload ev8 d_W_makes_46 ?_
  have h2 := kr_ob h
  clear h
  obtain ⟨S9, eS9, h⟩ := h2
  refine r_iastore eS9 d_W_makes_47 ?_
  refine r_aload_n (i := 0) (x := a0) 0 rfl d_W_makes_48 ?_
  refine r_iconst (v := (4 : Int32)) (by decide) d_W_makes_49 ?_
  refine r_dup2 rfl (kr_rfcat _) d_W_makes_50 ?_
  have h2 := kr_ob h
  clear h
  obtain ⟨v10, ev10, h⟩ := h2
  refine r_iaload ev10 d_W_makes_51 ?_
  refine r_iconst (v := (1 : Int32)) (by decide) d_W_makes_52 ?_
  refine r_iadd d_W_makes_53 ?_
  have h2 := kr_ob h
  clear h
  obtain ⟨S11, eS11, h⟩ := h2
  refine r_iastore eS11 d_W_makes_54 ?_
  refine r_aload_n (i := 0) (x := a0) 0 rfl d_W_makes_55 ?_
  refine r_iconst (v := (4 : Int32)) (by decide) d_W_makes_56 ?_
  have h2 := kr_ob h
  clear h
  obtain ⟨v12, ev12, h⟩ := h2
  refine r_iaload ev12 d_W_makes_57 ?_
  refine r_iconst (v := (1 : Int32)) (by decide) d_W_makes_58 ?_
  refine r_isub d_W_makes_59 ?_
  cases h
  exact r_iret rfl d_W_makes_60
/-! KeyringCourtLaw.grants(LKeyringCourt;II[I[I[I[I[I[I[I[I)Z -/
def f_W_grants_B81 (S : AS) (x11 : Int32) (y0 : Int32) (y1 : Option Nat) (y2 : Int32) (y3 : Int32) : Option (Int32 × AS) :=
  (aI S 40 y1 ((y2 * y3) + x11)).bind fun v1 =>
  if y0 = v1 then
  some ((1 : Int32), S)
  else
  some ((0 : Int32), S)
def f_W_grants_B46 (S : AS) (x0 : Option Nat) (x10 : Option Nat) (x11 : Int32) (x12 : Int32) (x13 : Int32) (y0 : Option Nat) (y1 : Int32) (y2 : Int32) : Option (Int32 × AS) :=
  (some ((y1 * y2) + x11)).bind fun i2 =>
  (aI S 40 y0 i2).bind fun v3 =>
  (bI S y0 i2 (v3 ||| x12)).bind fun S4 =>
  kr_b2 (f_W_threeg S4 x0 (1 : Int32) x13 x11 x12) fun v6 S5 =>
  if 0 ≤ x13 then
  f_W_grants_B81 S5 x11 v6 x10 (4 : Int32) x13
  else
  f_W_grants_B81 S5 x11 v6 x10 (4 : Int32) (3 : Int32)
def f_W_grants_B202 (k124 : AS → Option Nat → Option Nat → Option Nat → Option Nat → Option Nat → Option Nat → Option Nat → Int32 → Int32 → Int32 → Int32 → Option (Int32 × AS)) (S : AS) (x0 : Option Nat) (x3 : Option Nat) (x4 : Option Nat) (x6 : Option Nat) (x7 : Option Nat) (x8 : Option Nat) (x9 : Option Nat) (x11 : Int32) (x13 : Int32) (x14 : Int32) (x15 : Int32) : Option (Int32 × AS) :=
  (some (x15 + (1 : Int32))).bind fun i7 =>
  k124 S x0 x3 x4 x6 x7 x8 x9 x11 x13 x14 i7
def f_W_grants_C124 (k124 : AS → Option Nat → Option Nat → Option Nat → Option Nat → Option Nat → Option Nat → Option Nat → Int32 → Int32 → Int32 → Int32 → Option (Int32 × AS)) (S : AS) (x0 : Option Nat) (x3 : Option Nat) (x4 : Option Nat) (x6 : Option Nat) (x7 : Option Nat) (x8 : Option Nat) (x9 : Option Nat) (x11 : Int32) (x13 : Int32) (x14 : Int32) (x15 : Int32) : Option (Int32 × AS) :=
  (aI S 40 x3 (3 : Int32)).bind fun v8 =>
  if v8 ≤ x15 then
  kr_b2 (f_W_twog S x0 (3 : Int32) x13 x11) fun v10 S9 =>
  if v10 = x14 then
  some ((1 : Int32), S9)
  else
  some ((0 : Int32), S9)
  else
  (aI S 40 x7 ((5 : Int32) * x15)).bind fun v11 =>
  (aI S 40 x7 (((5 : Int32) * x15) + (4 : Int32))).bind fun v12 =>
  if v12 = (1 : Int32) then
  (aI S 40 x6 ((6 : Int32) * v11)).bind fun v13 =>
  (aI S 40 x4 ((4 : Int32) * v13)).bind fun v14 =>
  if v14 = x13 then
  (aI S 40 x6 (((6 : Int32) * v11) + (1 : Int32))).bind fun v15 =>
  if v15 = x11 then
  (f_W_endFamily S x3 x7 x8 x9 x15).bind fun S16 =>
  (some (x14 + (1 : Int32))).bind fun i17 =>
  f_W_grants_B202 k124 S16 x0 x3 x4 x6 x7 x8 x9 x11 x13 i17 x15
  else
  f_W_grants_B202 k124 S x0 x3 x4 x6 x7 x8 x9 x11 x13 x14 x15
  else
  f_W_grants_B202 k124 S x0 x3 x4 x6 x7 x8 x9 x11 x13 x14 x15
  else
  f_W_grants_B202 k124 S x0 x3 x4 x6 x7 x8 x9 x11 x13 x14 x15
def f_W_grants_L124 : Nat → AS → Option Nat → Option Nat → Option Nat → Option Nat → Option Nat → Option Nat → Option Nat → Int32 → Int32 → Int32 → Int32 → Option (Int32 × AS)
  | 0, S, x0, x3, x4, x6, x7, x8, x9, x11, x13, x14, x15 => none
  | n + 1, S, x0, x3, x4, x6, x7, x8, x9, x11, x13, x14, x15 => f_W_grants_C124 (f_W_grants_L124 n) S x0 x3 x4 x6 x7 x8 x9 x11 x13 x14 x15
def f_W_grants_B314 (S : AS) (y0 : Int32) (y1 : Int32) : Option (Int32 × AS) :=
  if y0 = y1 then
  some ((1 : Int32), S)
  else
  some ((0 : Int32), S)
def f_W_grants_B289 (S : AS) (x0 : Option Nat) (x11 : Int32) (x13 : Int32) (x14 : Int32) (y0 : Option Nat) (y1 : Int32) (y2 : Int32) : Option (Int32 × AS) :=
  (bI S y0 y1 y2).bind fun S18 =>
  kr_b2 (f_W_twog S18 x0 (4 : Int32) x11 x14) fun v20 S19 =>
  if (7 : Int32) ≤ x14 then
  f_W_grants_B314 S19 v20 (-1002 : Int32)
  else
  f_W_grants_B314 S19 v20 x13
def f_W_grants_B266 (S : AS) (x0 : Option Nat) (x10 : Option Nat) (x11 : Int32) (x13 : Int32) (y0 : Int32) : Option (Int32 × AS) :=
  if (7 : Int32) ≤ y0 then
  f_W_grants_B289 S x0 x11 x13 y0 x10 ((16 : Int32) + x11) x13
  else
  f_W_grants_B289 S x0 x11 x13 y0 x10 ((16 : Int32) + x11) y0
def f_W_grants_B654 (S : AS) (x0 : Option Nat) (x11 : Int32) (x12 : Int32) (x13 : Int32) (x14 : Int32) (x17 : Int32) : Option (Int32 × AS) :=
  kr_b2 (f_W_fourg S x0 (0 : Int32) x13 x11 x14 x12) fun v22 S21 =>
  if v22 = x17 then
  some ((1 : Int32), S21)
  else
  some ((0 : Int32), S21)
def f_W_grants_B561 (S : AS) (x0 : Option Nat) (x3 : Option Nat) (x6 : Option Nat) (x11 : Int32) (x12 : Int32) (x13 : Int32) (x14 : Int32) (x16 : Int32) (x17 : Int32) : Option (Int32 × AS) :=
  if x16 = 0 then
  f_W_grants_B654 S x0 x11 x12 x13 x14 x17
  else
  if x17 < 0 then
  f_W_grants_B654 S x0 x11 x12 x13 x14 x17
  else
  (aI S 40 x3 (2 : Int32)).bind fun v23 =>
  (bI S x6 ((6 : Int32) * v23) x13).bind fun S24 =>
  (aI S24 40 x3 (2 : Int32)).bind fun v25 =>
  (bI S24 x6 (((6 : Int32) * v25) + (1 : Int32)) x11).bind fun S26 =>
  (aI S26 40 x3 (2 : Int32)).bind fun v27 =>
  (bI S26 x6 (((6 : Int32) * v27) + (2 : Int32)) x14).bind fun S28 =>
  (aI S28 40 x3 (2 : Int32)).bind fun v29 =>
  (bI S28 x6 (((6 : Int32) * v29) + (3 : Int32)) x12).bind fun S30 =>
  (aI S30 40 x3 (2 : Int32)).bind fun v31 =>
  (aI S30 40 x3 (0 : Int32)).bind fun v32 =>
  (bI S30 x6 (((6 : Int32) * v31) + (4 : Int32)) v32).bind fun S33 =>
  (aI S33 40 x3 (2 : Int32)).bind fun v34 =>
  (bI S33 x6 (((6 : Int32) * v34) + (5 : Int32)) (0 : Int32)).bind fun S35 =>
  (aI S35 40 x3 (2 : Int32)).bind fun v36 =>
  (bI S35 x3 (2 : Int32) (v36 + (1 : Int32))).bind fun S37 =>
  f_W_grants_B654 S37 x0 x11 x12 x13 x14 x17
def f_W_grants_B559 (S : AS) (x0 : Option Nat) (x3 : Option Nat) (x6 : Option Nat) (x11 : Int32) (x12 : Int32) (x13 : Int32) (x14 : Int32) (x16 : Int32) (y0 : Int32) : Option (Int32 × AS) :=
  f_W_grants_B561 S x0 x3 x6 x11 x12 x13 x14 x16 y0
def f_W_grants_B476 (S : AS) (x0 : Option Nat) (x3 : Option Nat) (x4 : Option Nat) (x5 : Option Nat) (x6 : Option Nat) (x10 : Option Nat) (x11 : Int32) (x12 : Int32) (x13 : Int32) (x14 : Int32) (x16 : Int32) (y0 : Int32) : Option (Int32 × AS) :=
  if x16 = 0 then
  f_W_grants_B561 S x0 x3 x6 x11 x12 x13 x14 x16 y0
  else
  (aI S 40 x3 (0 : Int32)).bind fun v38 =>
  (bI S x4 (((4 : Int32) * x13) + (2 : Int32)) v38).bind fun S39 =>
  (aI S39 40 x4 ((4 : Int32) * x13)).bind fun v40 =>
  (aI S39 40 x10 (((4 : Int32) * v40) + x11)).bind fun v41 =>
  (aI S39 40 x10 ((12 : Int32) + x11)).bind fun v42 =>
  if (x12 &&& ((v41 ||| v42) ^^^ (-1 : Int32))) ≤ 0 then
  kr_b2 (f_W_levelOf S39 x3 x5 x13) fun v44 S43 =>
  (aI S43 40 x10 ((16 : Int32) + x14)).bind fun v45 =>
  if v45 ≤ v44 then
  (aI S43 40 x3 (2 : Int32)).bind fun v46 =>
  f_W_grants_B559 S43 x0 x3 x6 x11 x12 x13 x14 x16 v46
  else
  f_W_grants_B559 S43 x0 x3 x6 x11 x12 x13 x14 x16 (-2 : Int32)
  else
  f_W_grants_B559 S39 x0 x3 x6 x11 x12 x13 x14 x16 (-3 : Int32)
def f_W_grants_B442 (S : AS) (x0 : Option Nat) (x3 : Option Nat) (x4 : Option Nat) (x5 : Option Nat) (x6 : Option Nat) (x10 : Option Nat) (x11 : Int32) (x12 : Int32) (x13 : Int32) (x14 : Int32) (x15 : Int32) (x16 : Int32) : Option (Int32 × AS) :=
  if x15 = 0 then
  f_W_grants_B476 S x0 x3 x4 x5 x6 x10 x11 x12 x13 x14 x16 (-1001 : Int32)
  else
  if x12 = 0 then
  f_W_grants_B476 S x0 x3 x4 x5 x6 x10 x11 x12 x13 x14 x16 (-1002 : Int32)
  else
  if x16 = 0 then
  f_W_grants_B476 S x0 x3 x4 x5 x6 x10 x11 x12 x13 x14 x16 (-1003 : Int32)
  else
  f_W_grants_B476 S x0 x3 x4 x5 x6 x10 x11 x12 x13 x14 x16 (0 : Int32)
def f_W_grants_B425 (S : AS) (x0 : Option Nat) (x3 : Option Nat) (x4 : Option Nat) (x5 : Option Nat) (x6 : Option Nat) (x10 : Option Nat) (x11 : Int32) (x12 : Int32) (x13 : Int32) (x14 : Int32) (x15 : Int32) (y0 : Int32) : Option (Int32 × AS) :=
  if y0 = 0 then
  f_W_grants_B442 S x0 x3 x4 x5 x6 x10 x11 x12 x13 x14 x15 y0
  else
  (aI S 40 x3 (2 : Int32)).bind fun v47 =>
  if v47 = (10 : Int32) then
  some ((1 : Int32), S)
  else
  f_W_grants_B442 S x0 x3 x4 x5 x6 x10 x11 x12 x13 x14 x15 y0
def f_W_grants_B424 (S : AS) (x0 : Option Nat) (x3 : Option Nat) (x4 : Option Nat) (x5 : Option Nat) (x6 : Option Nat) (x10 : Option Nat) (x11 : Int32) (x12 : Int32) (x13 : Int32) (x14 : Int32) (x15 : Int32) : Option (Int32 × AS) :=
  f_W_grants_B425 S x0 x3 x4 x5 x6 x10 x11 x12 x13 x14 x15 (0 : Int32)
def f_W_grants_B394 (S : AS) (x0 : Option Nat) (x3 : Option Nat) (x4 : Option Nat) (x5 : Option Nat) (x6 : Option Nat) (x10 : Option Nat) (x11 : Int32) (x12 : Int32) (x13 : Int32) (x14 : Int32) (y0 : Int32) : Option (Int32 × AS) :=
  if y0 = 0 then
  f_W_grants_B424 S x0 x3 x4 x5 x6 x10 x11 x12 x13 x14 y0
  else
  if x12 ≤ 0 then
  f_W_grants_B424 S x0 x3 x4 x5 x6 x10 x11 x12 x13 x14 y0
  else
  (aI S 40 x4 (((4 : Int32) * x13) + (3 : Int32))).bind fun v48 =>
  if (100 : Int32) ≤ v48 then
  f_W_grants_B424 S x0 x3 x4 x5 x6 x10 x11 x12 x13 x14 y0
  else
  f_W_grants_B425 S x0 x3 x4 x5 x6 x10 x11 x12 x13 x14 y0 (1 : Int32)
def f_W_grants_B369 (S : AS) (x0 : Option Nat) (x2 : Int32) (x3 : Option Nat) (x4 : Option Nat) (x5 : Option Nat) (x6 : Option Nat) (x10 : Option Nat) (x11 : Int32) (x12 : Int32) (y0 : Int32) : Option (Int32 × AS) :=
  kr_b2 (f_W_some S (x2 >>> ((6 : Int32) &&& 31)) (4 : Int32)) fun v50 S49 =>
  (aI S49 40 x3 (1 : Int32)).bind fun v51 =>
  if v51 ≤ y0 then
  f_W_grants_B394 S49 x0 x3 x4 x5 x6 x10 x11 x12 y0 v50 (0 : Int32)
  else
  f_W_grants_B394 S49 x0 x3 x4 x5 x6 x10 x11 x12 y0 v50 (1 : Int32)
def f_W_grants_B995 (S : AS) (y0 : Int32) (y1 : Int32) : Option (Int32 × AS) :=
  if y0 = y1 then
  some ((1 : Int32), S)
  else
  some ((0 : Int32), S)
def f_W_grants_B962 (S : AS) (x0 : Option Nat) (x3 : Option Nat) (x13 : Int32) (x14 : Int32) (x15 : Int32) : Option (Int32 × AS) :=
  kr_b2 (f_W_oneg S x0 (7 : Int32) x13) fun v53 S52 =>
  if x14 = 0 then
  f_W_grants_B995 S52 v53 (-1001 : Int32)
  else
  if x15 = 0 then
  f_W_grants_B995 S52 v53 (-1 : Int32)
  else
  (aI S52 40 x3 (3 : Int32)).bind fun v54 =>
  f_W_grants_B995 S52 v53 (v54 - (1 : Int32))
def f_W_grants_B814 (S : AS) (x0 : Option Nat) (x3 : Option Nat) (x6 : Option Nat) (x7 : Option Nat) (x8 : Option Nat) (x9 : Option Nat) (x13 : Int32) (x14 : Int32) (x15 : Int32) : Option (Int32 × AS) :=
  if x15 = 0 then
  if x14 = 0 then
  f_W_grants_B962 S x0 x3 x13 x14 x15
  else
  (aI S 40 x6 (((6 : Int32) * x13) + (5 : Int32))).bind fun v55 =>
  if v55 ≤ 0 then
  f_W_grants_B962 S x0 x3 x13 x14 x15
  else
  (aI S 40 x6 (((6 : Int32) * x13) + (5 : Int32))).bind fun v56 =>
  (f_W_endFamily S x3 x7 x8 x9 (v56 - (1 : Int32))).bind fun S57 =>
  f_W_grants_B962 S57 x0 x3 x13 x14 x15
  else
  (aI S 40 x3 (3 : Int32)).bind fun v58 =>
  (bI S x7 ((5 : Int32) * v58) x13).bind fun S59 =>
  (aI S59 40 x3 (3 : Int32)).bind fun v60 =>
  (bI S59 x7 (((5 : Int32) * v60) + (1 : Int32)) (0 : Int32)).bind fun S61 =>
  (aI S61 40 x3 (3 : Int32)).bind fun v62 =>
  (aI S61 40 x3 (0 : Int32)).bind fun v63 =>
  (bI S61 x7 (((5 : Int32) * v62) + (2 : Int32)) v63).bind fun S64 =>
  (aI S64 40 x3 (3 : Int32)).bind fun v65 =>
  (bI S64 x7 (((5 : Int32) * v65) + (4 : Int32)) (1 : Int32)).bind fun S66 =>
  (aI S66 40 x3 (3 : Int32)).bind fun v67 =>
  (bI S66 x6 (((6 : Int32) * x13) + (5 : Int32)) (v67 + (1 : Int32))).bind fun S68 =>
  (aI S68 40 x3 (3 : Int32)).bind fun v69 =>
  (f_W_writes S68 x3 (2 : Int32) v69).bind fun S70 =>
  (aI S70 40 x3 (3 : Int32)).bind fun v71 =>
  kr_b2 (f_W_what S70 x6 x13) fun v73 S72 =>
  (aI S72 40 x3 (0 : Int32)).bind fun v74 =>
  kr_b2 (f_W_makes S72 x3 x7 x8 v71 v73 (v74 + (10 : Int32))) fun v76 S75 =>
  (aI S75 40 x3 (3 : Int32)).bind fun v77 =>
  (bI S75 x3 (3 : Int32) (v77 + (1 : Int32))).bind fun S78 =>
  f_W_grants_B962 S78 x0 x3 x13 x14 x15
def f_W_grants_B797 (S : AS) (x0 : Option Nat) (x3 : Option Nat) (x6 : Option Nat) (x7 : Option Nat) (x8 : Option Nat) (x9 : Option Nat) (x13 : Int32) (x14 : Int32) (y0 : Int32) : Option (Int32 × AS) :=
  if y0 = 0 then
  f_W_grants_B814 S x0 x3 x6 x7 x8 x9 x13 x14 y0
  else
  (aI S 40 x3 (4 : Int32)).bind fun v79 =>
  if v79 = (20 : Int32) then
  some ((1 : Int32), S)
  else
  f_W_grants_B814 S x0 x3 x6 x7 x8 x9 x13 x14 y0
def f_W_grants_B796 (S : AS) (x0 : Option Nat) (x3 : Option Nat) (x6 : Option Nat) (x7 : Option Nat) (x8 : Option Nat) (x9 : Option Nat) (x13 : Int32) (x14 : Int32) : Option (Int32 × AS) :=
  f_W_grants_B797 S x0 x3 x6 x7 x8 x9 x13 x14 (0 : Int32)
def f_W_grants_B734 (S : AS) (x0 : Option Nat) (x3 : Option Nat) (x4 : Option Nat) (x6 : Option Nat) (x7 : Option Nat) (x8 : Option Nat) (x9 : Option Nat) (x13 : Int32) (y0 : Int32) : Option (Int32 × AS) :=
  if y0 = 0 then
  f_W_grants_B796 S x0 x3 x6 x7 x8 x9 x13 y0
  else
  (aI S 40 x6 (((6 : Int32) * x13) + (5 : Int32))).bind fun v80 =>
  if v80 = 0 then
  (aI S 40 x6 (((6 : Int32) * x13) + (4 : Int32))).bind fun v81 =>
  (aI S 40 x3 (0 : Int32)).bind fun v82 =>
  if (v81 + (5 : Int32)) < v82 then
  f_W_grants_B796 S x0 x3 x6 x7 x8 x9 x13 y0
  else
  (aI S 40 x6 ((6 : Int32) * x13)).bind fun v83 =>
  (aI S 40 x4 (((4 : Int32) * v83) + (3 : Int32))).bind fun v84 =>
  if (100 : Int32) ≤ v84 then
  f_W_grants_B796 S x0 x3 x6 x7 x8 x9 x13 y0
  else
  f_W_grants_B797 S x0 x3 x6 x7 x8 x9 x13 y0 (1 : Int32)
  else
  f_W_grants_B796 S x0 x3 x6 x7 x8 x9 x13 y0
def f_W_grants_B719 (S : AS) (x0 : Option Nat) (x3 : Option Nat) (x4 : Option Nat) (x6 : Option Nat) (x7 : Option Nat) (x8 : Option Nat) (x9 : Option Nat) (y0 : Int32) : Option (Int32 × AS) :=
  (aI S 40 x3 (2 : Int32)).bind fun v85 =>
  if v85 ≤ y0 then
  f_W_grants_B734 S x0 x3 x4 x6 x7 x8 x9 y0 (0 : Int32)
  else
  f_W_grants_B734 S x0 x3 x4 x6 x7 x8 x9 y0 (1 : Int32)
def f_W_grants (S : AS) (a0 : Option Nat) (a1 : Int32) (a2 : Int32) (a3 : Option Nat) (a4 : Option Nat) (a5 : Option Nat) (a6 : Option Nat) (a7 : Option Nat) (a8 : Option Nat) (a9 : Option Nat) (a10 : Option Nat) : Option (Int32 × AS) :=
  kr_b2 (f_W_some S (a2 >>> ((3 : Int32) &&& 31)) (4 : Int32)) fun v87 S86 =>
  kr_b2 (f_W_some S86 (a2 >>> ((5 : Int32) &&& 31)) (16 : Int32)) fun v89 S88 =>
  if a1 = 0 then
  kr_b2 (f_W_some S88 a2 (4 : Int32)) fun v91 S90 =>
  (some (v91 - (1 : Int32))).bind fun i92 =>
  if 0 ≤ i92 then
  f_W_grants_B46 S90 a0 a10 v87 v89 i92 a10 (4 : Int32) i92
  else
  f_W_grants_B46 S90 a0 a10 v87 v89 i92 a10 (4 : Int32) (3 : Int32)
  else
  if a1 = (1 : Int32) then
  kr_b2 (f_W_some S88 a2 (3 : Int32)) fun v94 S93 =>
  (bI S93 a10 (((4 : Int32) * v94) + v87) (0 : Int32)).bind fun S95 =>
  f_W_grants_L124 kr_FU S95 a0 a3 a4 a6 a7 a8 a9 v87 v94 (0 : Int32) (0 : Int32)
  else
  if a1 = (2 : Int32) then
  (aI S88 40 a10 ((16 : Int32) + v87)).bind fun v96 =>
  kr_b2 (f_W_some S88 (a2 >>> ((4 : Int32) &&& 31)) (20 : Int32)) fun v98 S97 =>
  if v98 = 0 then
  f_W_grants_B266 S97 a0 a10 v87 v96 (7 : Int32)
  else
  kr_b2 (f_W_some S97 (a2 >>> ((4 : Int32) &&& 31)) (4 : Int32)) fun v100 S99 =>
  f_W_grants_B266 S99 a0 a10 v87 v96 v100
  else
  if a1 = (3 : Int32) then
  kr_b2 (f_W_some S88 a2 (5 : Int32)) fun v102 S101 =>
  if v102 = 0 then
  (aI S101 40 a3 (1 : Int32)).bind fun v103 =>
  kr_b2 (f_W_some S101 (a2 >>> ((2 : Int32) &&& 31)) (v103 + (1 : Int32))) fun v105 S104 =>
  f_W_grants_B369 S104 a0 a2 a3 a4 a5 a6 a10 v87 v89 v105
  else
  (aI S101 40 a3 (1 : Int32)).bind fun v106 =>
  if v106 ≤ 0 then
  f_W_grants_B369 S101 a0 a2 a3 a4 a5 a6 a10 v87 v89 (0 : Int32)
  else
  (aI S101 40 a3 (1 : Int32)).bind fun v107 =>
  kr_b2 (f_W_some S101 (a2 >>> ((2 : Int32) &&& 31)) v107) fun v109 S108 =>
  f_W_grants_B369 S108 a0 a2 a3 a4 a5 a6 a10 v87 v89 v109
  else
  kr_b2 (f_W_some S88 a2 (4 : Int32)) fun v111 S110 =>
  if v111 = 0 then
  (aI S110 40 a3 (2 : Int32)).bind fun v112 =>
  kr_b2 (f_W_some S110 (a2 >>> ((3 : Int32) &&& 31)) (v112 + (1 : Int32))) fun v114 S113 =>
  f_W_grants_B719 S113 a0 a3 a4 a6 a7 a8 a9 v114
  else
  (aI S110 40 a3 (2 : Int32)).bind fun v115 =>
  if v115 ≤ 0 then
  f_W_grants_B719 S110 a0 a3 a4 a6 a7 a8 a9 (0 : Int32)
  else
  (aI S110 40 a3 (2 : Int32)).bind fun v116 =>
  kr_b2 (f_W_some S110 (a2 >>> ((3 : Int32) &&& 31)) v116) fun v118 S117 =>
  f_W_grants_B719 S117 a0 a3 a4 a6 a7 a8 a9 v118
set_option maxRecDepth 20000 in
set_option maxHeartbeats 4000000 in
theorem s_W_grants_B81 {S : AS} {x11 : Int32} {y0 : Int32} {y1 : Option Nat} {y2 : Int32} {y3 : Int32} {r : (Int32 × AS)} (h : f_W_grants_B81 S x11 y0 y1 y2 y3 = some r) : kr_AW m_W_grants 14 81 [(11, .int x11)] [.int y3, .int y2, va_rf y1, .int y0] S (kr_eI r) := by
  unfold f_W_grants_B81 at h
  refine r_imul d_W_grants_81 ?_
  refine r_iload (i := 11) (x := x11) 0 rfl d_W_grants_82 ?_
  refine r_iadd d_W_grants_84 ?_
  have h2 := kr_ob h
  clear h
  obtain ⟨v1, ev1, h⟩ := h2
  refine r_iaload ev1 d_W_grants_85 ?_
  refine r_icmp_ne (tgt := 93) d_W_grants_86 rfl (fun c => ?_) (fun c => ?_)
  · replace h := kr_ip c h
    refine r_iconst (v := (1 : Int32)) (by decide) d_W_grants_89 ?_
    refine r_goto (tgt := 94) d_W_grants_90 rfl ?_
    cases h
    exact r_zret rfl rfl d_W_grants_94
  · replace h := kr_in_ c h
    refine r_iconst (v := (0 : Int32)) (by decide) d_W_grants_93 ?_
    cases h
    exact r_zret rfl rfl d_W_grants_94
set_option maxRecDepth 20000 in
set_option maxHeartbeats 4000000 in
theorem s_W_grants_B46 {S : AS} {x0 : Option Nat} {x10 : Option Nat} {x11 : Int32} {x12 : Int32} {x13 : Int32} {y0 : Option Nat} {y1 : Int32} {y2 : Int32} {r : (Int32 × AS)} (h : f_W_grants_B46 S x0 x10 x11 x12 x13 y0 y1 y2 = some r) : kr_AW m_W_grants 14 46 [(0, va_rf x0), (10, va_rf x10), (11, .int x11), (12, .int x12), (13, .int x13)] [.int y2, .int y1, va_rf y0] S (kr_eI r) := by
  unfold f_W_grants_B46 at h
  refine r_imul d_W_grants_46 ?_
  refine r_iload (i := 11) (x := x11) 2 rfl d_W_grants_47 ?_
  refine r_iadd d_W_grants_49 ?_
  have h2 := kr_ob h
  clear h
  obtain ⟨i2, ei2, h⟩ := h2
  refine kr_nmI ei2 ?_
  refine r_dup2 rfl (kr_rfcat _) d_W_grants_50 ?_
  have h2 := kr_ob h
  clear h
  obtain ⟨v3, ev3, h⟩ := h2
  refine r_iaload ev3 d_W_grants_51 ?_
  refine r_iload (i := 12) (x := x12) 3 rfl d_W_grants_52 ?_
  refine r_ior d_W_grants_54 ?_
  have h2 := kr_ob h
  clear h
  obtain ⟨S4, eS4, h⟩ := h2
  refine r_iastore eS4 d_W_grants_55 ?_
  refine r_aload_n (i := 0) (x := x0) 0 rfl d_W_grants_56 ?_
  refine r_iconst (v := (1 : Int32)) (by decide) d_W_grants_57 ?_
  refine r_iload (i := 13) (x := x13) 4 rfl d_W_grants_58 ?_
  refine r_iload (i := 11) (x := x11) 2 rfl d_W_grants_60 ?_
  refine r_iload (i := 12) (x := x12) 3 rfl d_W_grants_62 ?_
  have h2 := kr_ob2 h
  clear h
  obtain ⟨v6, S5, eS5, h⟩ := h2
  refine r_callSX (M1 := m_W_three) (As := [va_rf x0, .int (1 : Int32), .int x13, .int x11, .int x12]) (s_W_threeg eS5) mok_W_three (by decide) w645 w646 (by decide) (kr_c8 kr_c0) d_W_grants_64 (kr_k1 ?_) kr_kn
  refine r_aload (i := 10) (x := x10) 1 rfl d_W_grants_67 ?_
  refine r_iconst (v := (4 : Int32)) (by decide) d_W_grants_69 ?_
  refine r_iload (i := 13) (x := x13) 4 rfl d_W_grants_70 ?_
  refine r_if_ge (tgt := 79) d_W_grants_72 rfl (fun c => ?_) (fun c => ?_)
  · replace h := kr_ip c h
    refine r_iload (i := 13) (x := x13) 4 rfl d_W_grants_79 ?_
    exact kr_sub [2] rfl (s_W_grants_B81 h)
  · replace h := kr_in_ c h
    refine r_iconst (v := (3 : Int32)) (by decide) d_W_grants_75 ?_
    refine r_goto (tgt := 81) d_W_grants_76 rfl ?_
    exact kr_sub [2] rfl (s_W_grants_B81 h)
set_option maxRecDepth 20000 in
set_option maxHeartbeats 4000000 in
theorem s_W_grants_B202 {k124 : AS → Option Nat → Option Nat → Option Nat → Option Nat → Option Nat → Option Nat → Option Nat → Int32 → Int32 → Int32 → Int32 → Option (Int32 × AS)} (hk124 : ∀ {S : AS} {x0 : Option Nat} {x3 : Option Nat} {x4 : Option Nat} {x6 : Option Nat} {x7 : Option Nat} {x8 : Option Nat} {x9 : Option Nat} {x11 : Int32} {x13 : Int32} {x14 : Int32} {x15 : Int32} {r : (Int32 × AS)}, k124 S x0 x3 x4 x6 x7 x8 x9 x11 x13 x14 x15 = some r → kr_AW m_W_grants 14 124 [(0, va_rf x0), (3, va_rf x3), (4, va_rf x4), (6, va_rf x6), (7, va_rf x7), (8, va_rf x8), (9, va_rf x9), (11, .int x11), (13, .int x13), (14, .int x14), (15, .int x15)] [] S (kr_eI r)) {S : AS} {x0 : Option Nat} {x3 : Option Nat} {x4 : Option Nat} {x6 : Option Nat} {x7 : Option Nat} {x8 : Option Nat} {x9 : Option Nat} {x11 : Int32} {x13 : Int32} {x14 : Int32} {x15 : Int32} {r : (Int32 × AS)} (h : f_W_grants_B202 k124 S x0 x3 x4 x6 x7 x8 x9 x11 x13 x14 x15 = some r) : kr_AW m_W_grants 14 202 [(0, va_rf x0), (3, va_rf x3), (4, va_rf x4), (6, va_rf x6), (7, va_rf x7), (8, va_rf x8), (9, va_rf x9), (11, .int x11), (13, .int x13), (14, .int x14), (15, .int x15)] [] S (kr_eI r) := by
  unfold f_W_grants_B202 at h
  have h2 := kr_ob h
  clear h
  obtain ⟨i7, ei7, h⟩ := h2
  refine r_iinc (v := i7) (lv' := [(15, .int i7), (0, va_rf x0), (3, va_rf x3), (4, va_rf x4), (6, va_rf x6), (7, va_rf x7), (8, va_rf x8), (9, va_rf x9), (11, .int x11), (13, .int x13), (14, .int x14)]) 10 rfl (kr_inc (by decide) ei7) (by decide) rfl d_W_grants_202 ?_
  refine r_goto (tgt := 124) d_W_grants_205 rfl ?_
  exact kr_sub [1, 2, 3, 4, 5, 6, 7, 8, 9, 10, 0] rfl (hk124 h)
set_option maxRecDepth 20000 in
set_option maxHeartbeats 4000000 in
theorem s_W_grants_C124 {k124 : AS → Option Nat → Option Nat → Option Nat → Option Nat → Option Nat → Option Nat → Option Nat → Int32 → Int32 → Int32 → Int32 → Option (Int32 × AS)} (hk124 : ∀ {S : AS} {x0 : Option Nat} {x3 : Option Nat} {x4 : Option Nat} {x6 : Option Nat} {x7 : Option Nat} {x8 : Option Nat} {x9 : Option Nat} {x11 : Int32} {x13 : Int32} {x14 : Int32} {x15 : Int32} {r : (Int32 × AS)}, k124 S x0 x3 x4 x6 x7 x8 x9 x11 x13 x14 x15 = some r → kr_AW m_W_grants 14 124 [(0, va_rf x0), (3, va_rf x3), (4, va_rf x4), (6, va_rf x6), (7, va_rf x7), (8, va_rf x8), (9, va_rf x9), (11, .int x11), (13, .int x13), (14, .int x14), (15, .int x15)] [] S (kr_eI r)) {S : AS} {x0 : Option Nat} {x3 : Option Nat} {x4 : Option Nat} {x6 : Option Nat} {x7 : Option Nat} {x8 : Option Nat} {x9 : Option Nat} {x11 : Int32} {x13 : Int32} {x14 : Int32} {x15 : Int32} {r : (Int32 × AS)} (h : f_W_grants_C124 k124 S x0 x3 x4 x6 x7 x8 x9 x11 x13 x14 x15 = some r) : kr_AW m_W_grants 14 124 [(0, va_rf x0), (3, va_rf x3), (4, va_rf x4), (6, va_rf x6), (7, va_rf x7), (8, va_rf x8), (9, va_rf x9), (11, .int x11), (13, .int x13), (14, .int x14), (15, .int x15)] [] S (kr_eI r) := by
  unfold f_W_grants_C124 at h
  refine r_iload (i := 15) (x := x15) 10 rfl d_W_grants_124 ?_
  refine r_aload_n (i := 3) (x := x3) 1 rfl d_W_grants_126 ?_
  refine r_iconst (v := (3 : Int32)) (by decide) d_W_grants_127 ?_
  have h2 := kr_ob h
  clear h
  obtain ⟨v8, ev8, h⟩ := h2
  refine r_iaload ev8 d_W_grants_128 ?_
  refine r_icmp_ge (tgt := 208) d_W_grants_129 rfl (fun c => ?_) (fun c => ?_)
  · replace h := kr_ip c h
    refine r_aload_n (i := 0) (x := x0) 0 rfl d_W_grants_208 ?_
    refine r_iconst (v := (3 : Int32)) (by decide) d_W_grants_209 ?_
    refine r_iload (i := 13) (x := x13) 8 rfl d_W_grants_210 ?_
    refine r_iload (i := 11) (x := x11) 7 rfl d_W_grants_212 ?_
    have h2 := kr_ob2 h
    clear h
    obtain ⟨v10, S9, eS9, h⟩ := h2
    refine r_callSX (M1 := m_W_two) (As := [va_rf x0, .int (3 : Int32), .int x13, .int x11]) (s_W_twog eS9) mok_W_two (by decide) w942 w943 (by decide) (kr_c8 kr_c0) d_W_grants_214 (kr_k1 ?_) kr_kn
    refine r_iload (i := 14) (x := x14) 9 rfl d_W_grants_217 ?_
    refine r_icmp_ne (tgt := 226) d_W_grants_219 rfl (fun c => ?_) (fun c => ?_)
    · replace h := kr_ip c h
      refine r_iconst (v := (1 : Int32)) (by decide) d_W_grants_222 ?_
      refine r_goto (tgt := 227) d_W_grants_223 rfl ?_
      cases h
      exact r_zret rfl rfl d_W_grants_227
    · replace h := kr_in_ c h
      refine r_iconst (v := (0 : Int32)) (by decide) d_W_grants_226 ?_
      cases h
      exact r_zret rfl rfl d_W_grants_227
  · replace h := kr_in_ c h
    refine r_aload (i := 7) (x := x7) 4 rfl d_W_grants_132 ?_
    refine r_iconst (v := (5 : Int32)) (by decide) d_W_grants_134 ?_
    refine r_iload (i := 15) (x := x15) 10 rfl d_W_grants_135 ?_
    refine r_imul d_W_grants_137 ?_
    have h2 := kr_ob h
    clear h
    obtain ⟨v11, ev11, h⟩ := h2
    refine r_iaload ev11 d_W_grants_138 ?_
    refine r_istore (i := 16) (lv' := [(16, .int v11), (0, va_rf x0), (3, va_rf x3), (4, va_rf x4), (6, va_rf x6), (7, va_rf x7), (8, va_rf x8), (9, va_rf x9), (11, .int x11), (13, .int x13), (14, .int x14), (15, .int x15)]) (by decide) rfl d_W_grants_139 ?_
    refine r_aload (i := 7) (x := x7) 5 rfl d_W_grants_141 ?_
    refine r_iconst (v := (5 : Int32)) (by decide) d_W_grants_143 ?_
    refine r_iload (i := 15) (x := x15) 11 rfl d_W_grants_144 ?_
    refine r_imul d_W_grants_146 ?_
    refine r_iconst (v := (4 : Int32)) (by decide) d_W_grants_147 ?_
    refine r_iadd d_W_grants_148 ?_
    have h2 := kr_ob h
    clear h
    obtain ⟨v12, ev12, h⟩ := h2
    refine r_iaload ev12 d_W_grants_149 ?_
    refine r_iconst (v := (1 : Int32)) (by decide) d_W_grants_150 ?_
    refine r_icmp_ne (tgt := 202) d_W_grants_151 rfl (fun c => ?_) (fun c => ?_)
    · replace h := kr_ip c h
      refine r_aload (i := 4) (x := x4) 3 rfl d_W_grants_154 ?_
      refine r_iconst (v := (4 : Int32)) (by decide) d_W_grants_156 ?_
      refine r_aload (i := 6) (x := x6) 4 rfl d_W_grants_157 ?_
      refine r_bipush (v := (6 : Int32)) (by decide) d_W_grants_159 ?_
      refine r_iload (i := 16) (x := v11) 0 rfl d_W_grants_161 ?_
      refine r_imul d_W_grants_163 ?_
      have h2 := kr_ob h
      clear h
      obtain ⟨v13, ev13, h⟩ := h2
      refine r_iaload ev13 d_W_grants_164 ?_
      refine r_imul d_W_grants_165 ?_
      have h2 := kr_ob h
      clear h
      obtain ⟨v14, ev14, h⟩ := h2
      refine r_iaload ev14 d_W_grants_166 ?_
      refine r_iload (i := 13) (x := x13) 9 rfl d_W_grants_167 ?_
      refine r_icmp_ne (tgt := 202) d_W_grants_169 rfl (fun c => ?_) (fun c => ?_)
      · replace h := kr_ip c h
        refine r_aload (i := 6) (x := x6) 4 rfl d_W_grants_172 ?_
        refine r_bipush (v := (6 : Int32)) (by decide) d_W_grants_174 ?_
        refine r_iload (i := 16) (x := v11) 0 rfl d_W_grants_176 ?_
        refine r_imul d_W_grants_178 ?_
        refine r_iconst (v := (1 : Int32)) (by decide) d_W_grants_179 ?_
        refine r_iadd d_W_grants_180 ?_
        have h2 := kr_ob h
        clear h
        obtain ⟨v15, ev15, h⟩ := h2
        refine r_iaload ev15 d_W_grants_181 ?_
        refine r_iload (i := 11) (x := x11) 8 rfl d_W_grants_182 ?_
        refine r_icmp_ne (tgt := 202) d_W_grants_184 rfl (fun c => ?_) (fun c => ?_)
        · replace h := kr_ip c h
          refine r_aload_n (i := 3) (x := x3) 2 rfl d_W_grants_187 ?_
          refine r_aload (i := 7) (x := x7) 5 rfl d_W_grants_188 ?_
          refine r_aload (i := 8) (x := x8) 6 rfl d_W_grants_190 ?_
          refine r_aload (i := 9) (x := x9) 7 rfl d_W_grants_192 ?_
          refine r_iload (i := 15) (x := x15) 11 rfl d_W_grants_194 ?_
          have h2 := kr_ob h
          clear h
          obtain ⟨S16, eS16, h⟩ := h2
          refine r_callS (M1 := m_W_endFamily) (As := [va_rf x3, va_rf x7, va_rf x8, va_rf x9, .int x15]) (s_W_endFamily eS16) mok_W_endFamily rfl w1048 w1049 (by decide) (kr_c8 kr_c0) d_W_grants_196 (kr_k0 ?_) kr_kn
          have h2 := kr_ob h
          clear h
          obtain ⟨i17, ei17, h⟩ := h2
          refine r_iinc (v := i17) (lv' := [(14, .int i17), (16, .int v11), (0, va_rf x0), (3, va_rf x3), (4, va_rf x4), (6, va_rf x6), (7, va_rf x7), (8, va_rf x8), (9, va_rf x9), (11, .int x11), (13, .int x13), (15, .int x15)]) 10 rfl (kr_inc (by decide) ei17) (by decide) rfl d_W_grants_199 ?_
          exact kr_sub [2, 3, 4, 5, 6, 7, 8, 9, 10, 0, 11] rfl (s_W_grants_B202 hk124 h)
        · replace h := kr_in_ c h
          exact kr_sub [1, 2, 3, 4, 5, 6, 7, 8, 9, 10, 11] rfl (s_W_grants_B202 hk124 h)
      · replace h := kr_in_ c h
        exact kr_sub [1, 2, 3, 4, 5, 6, 7, 8, 9, 10, 11] rfl (s_W_grants_B202 hk124 h)
    · replace h := kr_in_ c h
      exact kr_sub [1, 2, 3, 4, 5, 6, 7, 8, 9, 10, 11] rfl (s_W_grants_B202 hk124 h)
theorem s_W_grants_L124 (n : Nat) : ∀ {S : AS} {x0 : Option Nat} {x3 : Option Nat} {x4 : Option Nat} {x6 : Option Nat} {x7 : Option Nat} {x8 : Option Nat} {x9 : Option Nat} {x11 : Int32} {x13 : Int32} {x14 : Int32} {x15 : Int32} {r : (Int32 × AS)}, f_W_grants_L124 n S x0 x3 x4 x6 x7 x8 x9 x11 x13 x14 x15 = some r → kr_AW m_W_grants 14 124 [(0, va_rf x0), (3, va_rf x3), (4, va_rf x4), (6, va_rf x6), (7, va_rf x7), (8, va_rf x8), (9, va_rf x9), (11, .int x11), (13, .int x13), (14, .int x14), (15, .int x15)] [] S (kr_eI r) := by
  induction n with
  | zero => intro S x0 x3 x4 x6 x7 x8 x9 x11 x13 x14 x15 r h; cases h
  | succ n ih => intro S x0 x3 x4 x6 x7 x8 x9 x11 x13 x14 x15 r h; exact s_W_grants_C124 (fun {_} {_} {_} {_} {_} {_} {_} {_} {_} {_} {_} {_} {_} h => ih h) h
set_option maxRecDepth 20000 in
set_option maxHeartbeats 4000000 in
theorem s_W_grants_B314 {S : AS} {y0 : Int32} {y1 : Int32} {r : (Int32 × AS)} (h : f_W_grants_B314 S y0 y1 = some r) : kr_AW m_W_grants 14 314 [] [.int y1, .int y0] S (kr_eI r) := by
  unfold f_W_grants_B314 at h
  refine r_icmp_ne (tgt := 321) d_W_grants_314 rfl (fun c => ?_) (fun c => ?_)
  · replace h := kr_ip c h
    refine r_iconst (v := (1 : Int32)) (by decide) d_W_grants_317 ?_
    refine r_goto (tgt := 322) d_W_grants_318 rfl ?_
    cases h
    exact r_zret rfl rfl d_W_grants_322
  · replace h := kr_in_ c h
    refine r_iconst (v := (0 : Int32)) (by decide) d_W_grants_321 ?_
    cases h
    exact r_zret rfl rfl d_W_grants_322
set_option maxRecDepth 20000 in
set_option maxHeartbeats 4000000 in
theorem s_W_grants_B289 {S : AS} {x0 : Option Nat} {x11 : Int32} {x13 : Int32} {x14 : Int32} {y0 : Option Nat} {y1 : Int32} {y2 : Int32} {r : (Int32 × AS)} (h : f_W_grants_B289 S x0 x11 x13 x14 y0 y1 y2 = some r) : kr_AW m_W_grants 14 289 [(0, va_rf x0), (11, .int x11), (13, .int x13), (14, .int x14)] [.int y2, .int y1, va_rf y0] S (kr_eI r) := by
  unfold f_W_grants_B289 at h
  have h2 := kr_ob h
  clear h
  obtain ⟨S18, eS18, h⟩ := h2
  refine r_iastore eS18 d_W_grants_289 ?_
  refine r_aload_n (i := 0) (x := x0) 0 rfl d_W_grants_290 ?_
  refine r_iconst (v := (4 : Int32)) (by decide) d_W_grants_291 ?_
  refine r_iload (i := 11) (x := x11) 1 rfl d_W_grants_292 ?_
  refine r_iload (i := 14) (x := x14) 3 rfl d_W_grants_294 ?_
  have h2 := kr_ob2 h
  clear h
  obtain ⟨v20, S19, eS19, h⟩ := h2
  refine r_callSX (M1 := m_W_two) (As := [va_rf x0, .int (4 : Int32), .int x11, .int x14]) (s_W_twog eS19) mok_W_two (by decide) w942 w943 (by decide) (kr_c8 kr_c0) d_W_grants_296 (kr_k1 ?_) kr_kn
  refine r_iload (i := 14) (x := x14) 3 rfl d_W_grants_299 ?_
  refine r_bipush (v := (7 : Int32)) (by decide) d_W_grants_301 ?_
  refine r_icmp_ge (tgt := 311) d_W_grants_303 rfl (fun c => ?_) (fun c => ?_)
  · replace h := kr_ip c h
    refine r_sipush (v := (-1002 : Int32)) (by decide) d_W_grants_311 ?_
    exact kr_sub [] rfl (s_W_grants_B314 h)
  · replace h := kr_in_ c h
    refine r_iload (i := 13) (x := x13) 2 rfl d_W_grants_306 ?_
    refine r_goto (tgt := 314) d_W_grants_308 rfl ?_
    exact kr_sub [] rfl (s_W_grants_B314 h)
set_option maxRecDepth 20000 in
set_option maxHeartbeats 4000000 in
theorem s_W_grants_B266 {S : AS} {x0 : Option Nat} {x10 : Option Nat} {x11 : Int32} {x13 : Int32} {y0 : Int32} {r : (Int32 × AS)} (h : f_W_grants_B266 S x0 x10 x11 x13 y0 = some r) : kr_AW m_W_grants 14 266 [(0, va_rf x0), (10, va_rf x10), (11, .int x11), (13, .int x13)] [.int y0] S (kr_eI r) := by
  unfold f_W_grants_B266 at h
  refine r_istore (i := 14) (lv' := [(14, .int y0), (0, va_rf x0), (10, va_rf x10), (11, .int x11), (13, .int x13)]) (by decide) rfl d_W_grants_266 ?_
  refine r_aload (i := 10) (x := x10) 2 rfl d_W_grants_268 ?_
  refine r_bipush (v := (16 : Int32)) (by decide) d_W_grants_270 ?_
  refine r_iload (i := 11) (x := x11) 3 rfl d_W_grants_272 ?_
  refine r_iadd d_W_grants_274 ?_
  refine r_iload (i := 14) (x := y0) 0 rfl d_W_grants_275 ?_
  refine r_bipush (v := (7 : Int32)) (by decide) d_W_grants_277 ?_
  refine r_icmp_ge (tgt := 287) d_W_grants_279 rfl (fun c => ?_) (fun c => ?_)
  · replace h := kr_ip c h
    refine r_iload (i := 13) (x := x13) 4 rfl d_W_grants_287 ?_
    exact kr_sub [1, 3, 4, 0] rfl (s_W_grants_B289 h)
  · replace h := kr_in_ c h
    refine r_iload (i := 14) (x := y0) 0 rfl d_W_grants_282 ?_
    refine r_goto (tgt := 289) d_W_grants_284 rfl ?_
    exact kr_sub [1, 3, 4, 0] rfl (s_W_grants_B289 h)
set_option maxRecDepth 20000 in
set_option maxHeartbeats 4000000 in
theorem s_W_grants_B654 {S : AS} {x0 : Option Nat} {x11 : Int32} {x12 : Int32} {x13 : Int32} {x14 : Int32} {x17 : Int32} {r : (Int32 × AS)} (h : f_W_grants_B654 S x0 x11 x12 x13 x14 x17 = some r) : kr_AW m_W_grants 14 654 [(0, va_rf x0), (11, .int x11), (12, .int x12), (13, .int x13), (14, .int x14), (17, .int x17)] [] S (kr_eI r) := by
  unfold f_W_grants_B654 at h
  refine r_aload_n (i := 0) (x := x0) 0 rfl d_W_grants_654 ?_
  refine r_iconst (v := (0 : Int32)) (by decide) d_W_grants_655 ?_
  refine r_iload (i := 13) (x := x13) 3 rfl d_W_grants_656 ?_
  refine r_iload (i := 11) (x := x11) 1 rfl d_W_grants_658 ?_
  refine r_iload (i := 14) (x := x14) 4 rfl d_W_grants_660 ?_
  refine r_iload (i := 12) (x := x12) 2 rfl d_W_grants_662 ?_
  have h2 := kr_ob2 h
  clear h
  obtain ⟨v22, S21, eS21, h⟩ := h2
  refine r_callSX (M1 := m_W_four) (As := [va_rf x0, .int (0 : Int32), .int x13, .int x11, .int x14, .int x12]) (s_W_fourg eS21) mok_W_four (by decide) w1230 w1231 (by decide) (kr_c8 kr_c0) d_W_grants_664 (kr_k1 ?_) kr_kn
  refine r_iload (i := 17) (x := x17) 5 rfl d_W_grants_667 ?_
  refine r_icmp_ne (tgt := 676) d_W_grants_669 rfl (fun c => ?_) (fun c => ?_)
  · replace h := kr_ip c h
    refine r_iconst (v := (1 : Int32)) (by decide) d_W_grants_672 ?_
    refine r_goto (tgt := 677) d_W_grants_673 rfl ?_
    cases h
    exact r_zret rfl rfl d_W_grants_677
  · replace h := kr_in_ c h
    refine r_iconst (v := (0 : Int32)) (by decide) d_W_grants_676 ?_
    cases h
    exact r_zret rfl rfl d_W_grants_677
set_option maxRecDepth 20000 in
set_option maxHeartbeats 4000000 in
theorem s_W_grants_B561 {S : AS} {x0 : Option Nat} {x3 : Option Nat} {x6 : Option Nat} {x11 : Int32} {x12 : Int32} {x13 : Int32} {x14 : Int32} {x16 : Int32} {x17 : Int32} {r : (Int32 × AS)} (h : f_W_grants_B561 S x0 x3 x6 x11 x12 x13 x14 x16 x17 = some r) : kr_AW m_W_grants 14 561 [(0, va_rf x0), (3, va_rf x3), (6, va_rf x6), (11, .int x11), (12, .int x12), (13, .int x13), (14, .int x14), (16, .int x16), (17, .int x17)] [] S (kr_eI r) := by
  unfold f_W_grants_B561 at h
  refine r_iload (i := 16) (x := x16) 7 rfl d_W_grants_561 ?_
  refine r_if_eq (tgt := 654) d_W_grants_563 rfl (fun c => ?_) (fun c => ?_)
  · replace h := kr_ip c h
    exact kr_sub [0, 3, 4, 5, 6, 8] rfl (s_W_grants_B654 h)
  · replace h := kr_in_ c h
    refine r_iload (i := 17) (x := x17) 8 rfl d_W_grants_566 ?_
    refine r_if_lt (tgt := 654) d_W_grants_568 rfl (fun c => ?_) (fun c => ?_)
    · replace h := kr_ip c h
      exact kr_sub [0, 3, 4, 5, 6, 8] rfl (s_W_grants_B654 h)
    · replace h := kr_in_ c h
      refine r_aload (i := 6) (x := x6) 2 rfl d_W_grants_571 ?_
      refine r_bipush (v := (6 : Int32)) (by decide) d_W_grants_573 ?_
      refine r_aload_n (i := 3) (x := x3) 1 rfl d_W_grants_575 ?_
      refine r_iconst (v := (2 : Int32)) (by decide) d_W_grants_576 ?_
      have h2 := kr_ob h
      clear h
      obtain ⟨v23, ev23, h⟩ := h2
      refine r_iaload ev23 d_W_grants_577 ?_
      refine r_imul d_W_grants_578 ?_
      refine r_iload (i := 13) (x := x13) 5 rfl d_W_grants_579 ?_
      have h2 := kr_ob h
      clear h
      obtain ⟨S24, eS24, h⟩ := h2
      refine r_iastore eS24 d_W_grants_581 ?_
      refine r_aload (i := 6) (x := x6) 2 rfl d_W_grants_582 ?_
      refine r_bipush (v := (6 : Int32)) (by decide) d_W_grants_584 ?_
      refine r_aload_n (i := 3) (x := x3) 1 rfl d_W_grants_586 ?_
      refine r_iconst (v := (2 : Int32)) (by decide) d_W_grants_587 ?_
      have h2 := kr_ob h
      clear h
      obtain ⟨v25, ev25, h⟩ := h2
      refine r_iaload ev25 d_W_grants_588 ?_
      refine r_imul d_W_grants_589 ?_
      refine r_iconst (v := (1 : Int32)) (by decide) d_W_grants_590 ?_
      refine r_iadd d_W_grants_591 ?_
      refine r_iload (i := 11) (x := x11) 3 rfl d_W_grants_592 ?_
      have h2 := kr_ob h
      clear h
      obtain ⟨S26, eS26, h⟩ := h2
      refine r_iastore eS26 d_W_grants_594 ?_
      refine r_aload (i := 6) (x := x6) 2 rfl d_W_grants_595 ?_
      refine r_bipush (v := (6 : Int32)) (by decide) d_W_grants_597 ?_
      refine r_aload_n (i := 3) (x := x3) 1 rfl d_W_grants_599 ?_
      refine r_iconst (v := (2 : Int32)) (by decide) d_W_grants_600 ?_
      have h2 := kr_ob h
      clear h
      obtain ⟨v27, ev27, h⟩ := h2
      refine r_iaload ev27 d_W_grants_601 ?_
      refine r_imul d_W_grants_602 ?_
      refine r_iconst (v := (2 : Int32)) (by decide) d_W_grants_603 ?_
      refine r_iadd d_W_grants_604 ?_
      refine r_iload (i := 14) (x := x14) 6 rfl d_W_grants_605 ?_
      have h2 := kr_ob h
      clear h
      obtain ⟨S28, eS28, h⟩ := h2
      refine r_iastore eS28 d_W_grants_607 ?_
      refine r_aload (i := 6) (x := x6) 2 rfl d_W_grants_608 ?_
      refine r_bipush (v := (6 : Int32)) (by decide) d_W_grants_610 ?_
      refine r_aload_n (i := 3) (x := x3) 1 rfl d_W_grants_612 ?_
      refine r_iconst (v := (2 : Int32)) (by decide) d_W_grants_613 ?_
      have h2 := kr_ob h
      clear h
      obtain ⟨v29, ev29, h⟩ := h2
      refine r_iaload ev29 d_W_grants_614 ?_
      refine r_imul d_W_grants_615 ?_
      refine r_iconst (v := (3 : Int32)) (by decide) d_W_grants_616 ?_
      refine r_iadd d_W_grants_617 ?_
      refine r_iload (i := 12) (x := x12) 4 rfl d_W_grants_618 ?_
      have h2 := kr_ob h
      clear h
      obtain ⟨S30, eS30, h⟩ := h2
      refine r_iastore eS30 d_W_grants_620 ?_
      refine r_aload (i := 6) (x := x6) 2 rfl d_W_grants_621 ?_
      refine r_bipush (v := (6 : Int32)) (by decide) d_W_grants_623 ?_
      refine r_aload_n (i := 3) (x := x3) 1 rfl d_W_grants_625 ?_
      refine r_iconst (v := (2 : Int32)) (by decide) d_W_grants_626 ?_
      have h2 := kr_ob h
      clear h
      obtain ⟨v31, ev31, h⟩ := h2
      refine r_iaload ev31 d_W_grants_627 ?_
      refine r_imul d_W_grants_628 ?_
      refine r_iconst (v := (4 : Int32)) (by decide) d_W_grants_629 ?_
      refine r_iadd d_W_grants_630 ?_
      refine r_aload_n (i := 3) (x := x3) 1 rfl d_W_grants_631 ?_
      refine r_iconst (v := (0 : Int32)) (by decide) d_W_grants_632 ?_
      have h2 := kr_ob h
      clear h
      obtain ⟨v32, ev32, h⟩ := h2
      refine r_iaload ev32 d_W_grants_633 ?_
      have h2 := kr_ob h
      clear h
      obtain ⟨S33, eS33, h⟩ := h2
      refine r_iastore eS33 d_W_grants_634 ?_
      refine r_aload (i := 6) (x := x6) 2 rfl d_W_grants_635 ?_
      refine r_bipush (v := (6 : Int32)) (by decide) d_W_grants_637 ?_
      refine r_aload_n (i := 3) (x := x3) 1 rfl d_W_grants_639 ?_
      refine r_iconst (v := (2 : Int32)) (by decide) d_W_grants_640 ?_
      have h2 := kr_ob h
      clear h
      obtain ⟨v34, ev34, h⟩ := h2
      refine r_iaload ev34 d_W_grants_641 ?_
      refine r_imul d_W_grants_642 ?_
      refine r_iconst (v := (5 : Int32)) (by decide) d_W_grants_643 ?_
      refine r_iadd d_W_grants_644 ?_
      refine r_iconst (v := (0 : Int32)) (by decide) d_W_grants_645 ?_
      have h2 := kr_ob h
      clear h
      obtain ⟨S35, eS35, h⟩ := h2
      refine r_iastore eS35 d_W_grants_646 ?_
      refine r_aload_n (i := 3) (x := x3) 1 rfl d_W_grants_647 ?_
      refine r_iconst (v := (2 : Int32)) (by decide) d_W_grants_648 ?_
      refine r_dup2 rfl (kr_rfcat _) d_W_grants_649 ?_
      have h2 := kr_ob h
      clear h
      obtain ⟨v36, ev36, h⟩ := h2
      refine r_iaload ev36 d_W_grants_650 ?_
      refine r_iconst (v := (1 : Int32)) (by decide) d_W_grants_651 ?_
      refine r_iadd d_W_grants_652 ?_
      have h2 := kr_ob h
      clear h
      obtain ⟨S37, eS37, h⟩ := h2
      refine r_iastore eS37 d_W_grants_653 ?_
      exact kr_sub [0, 3, 4, 5, 6, 8] rfl (s_W_grants_B654 h)
set_option maxRecDepth 20000 in
set_option maxHeartbeats 4000000 in
theorem s_W_grants_B559 {S : AS} {x0 : Option Nat} {x3 : Option Nat} {x6 : Option Nat} {x11 : Int32} {x12 : Int32} {x13 : Int32} {x14 : Int32} {x16 : Int32} {y0 : Int32} {r : (Int32 × AS)} (h : f_W_grants_B559 S x0 x3 x6 x11 x12 x13 x14 x16 y0 = some r) : kr_AW m_W_grants 14 559 [(0, va_rf x0), (3, va_rf x3), (6, va_rf x6), (11, .int x11), (12, .int x12), (13, .int x13), (14, .int x14), (16, .int x16)] [.int y0] S (kr_eI r) := by
  unfold f_W_grants_B559 at h
  refine r_istore (i := 17) (lv' := [(17, .int y0), (0, va_rf x0), (3, va_rf x3), (6, va_rf x6), (11, .int x11), (12, .int x12), (13, .int x13), (14, .int x14), (16, .int x16)]) (by decide) rfl d_W_grants_559 ?_
  exact kr_sub [1, 2, 3, 4, 5, 6, 7, 8, 0] rfl (s_W_grants_B561 h)
set_option maxRecDepth 20000 in
set_option maxHeartbeats 4000000 in
theorem s_W_grants_B476 {S : AS} {x0 : Option Nat} {x3 : Option Nat} {x4 : Option Nat} {x5 : Option Nat} {x6 : Option Nat} {x10 : Option Nat} {x11 : Int32} {x12 : Int32} {x13 : Int32} {x14 : Int32} {x16 : Int32} {y0 : Int32} {r : (Int32 × AS)} (h : f_W_grants_B476 S x0 x3 x4 x5 x6 x10 x11 x12 x13 x14 x16 y0 = some r) : kr_AW m_W_grants 14 476 [(0, va_rf x0), (3, va_rf x3), (4, va_rf x4), (5, va_rf x5), (6, va_rf x6), (10, va_rf x10), (11, .int x11), (12, .int x12), (13, .int x13), (14, .int x14), (16, .int x16)] [.int y0] S (kr_eI r) := by
  unfold f_W_grants_B476 at h
  refine r_istore (i := 17) (lv' := [(17, .int y0), (0, va_rf x0), (3, va_rf x3), (4, va_rf x4), (5, va_rf x5), (6, va_rf x6), (10, va_rf x10), (11, .int x11), (12, .int x12), (13, .int x13), (14, .int x14), (16, .int x16)]) (by decide) rfl d_W_grants_476 ?_
  refine r_iload (i := 16) (x := x16) 11 rfl d_W_grants_478 ?_
  refine r_if_eq (tgt := 561) d_W_grants_480 rfl (fun c => ?_) (fun c => ?_)
  · replace h := kr_ip c h
    exact kr_sub [1, 2, 5, 7, 8, 9, 10, 11, 0] rfl (s_W_grants_B561 h)
  · replace h := kr_in_ c h
    refine r_aload (i := 4) (x := x4) 3 rfl d_W_grants_483 ?_
    refine r_iconst (v := (4 : Int32)) (by decide) d_W_grants_485 ?_
    refine r_iload (i := 13) (x := x13) 9 rfl d_W_grants_486 ?_
    refine r_imul d_W_grants_488 ?_
    refine r_iconst (v := (2 : Int32)) (by decide) d_W_grants_489 ?_
    refine r_iadd d_W_grants_490 ?_
    refine r_aload_n (i := 3) (x := x3) 2 rfl d_W_grants_491 ?_
    refine r_iconst (v := (0 : Int32)) (by decide) d_W_grants_492 ?_
    have h2 := kr_ob h
    clear h
    obtain ⟨v38, ev38, h⟩ := h2
    refine r_iaload ev38 d_W_grants_493 ?_
    have h2 := kr_ob h
    clear h
    obtain ⟨S39, eS39, h⟩ := h2
    refine r_iastore eS39 d_W_grants_494 ?_
    refine r_iload (i := 12) (x := x12) 8 rfl d_W_grants_495 ?_
    refine r_aload (i := 10) (x := x10) 6 rfl d_W_grants_497 ?_
    refine r_iconst (v := (4 : Int32)) (by decide) d_W_grants_499 ?_
    refine r_aload (i := 4) (x := x4) 3 rfl d_W_grants_500 ?_
    refine r_iconst (v := (4 : Int32)) (by decide) d_W_grants_502 ?_
    refine r_iload (i := 13) (x := x13) 9 rfl d_W_grants_503 ?_
    refine r_imul d_W_grants_505 ?_
    have h2 := kr_ob h
    clear h
    obtain ⟨v40, ev40, h⟩ := h2
    refine r_iaload ev40 d_W_grants_506 ?_
    refine r_imul d_W_grants_507 ?_
    refine r_iload (i := 11) (x := x11) 7 rfl d_W_grants_508 ?_
    refine r_iadd d_W_grants_510 ?_
    have h2 := kr_ob h
    clear h
    obtain ⟨v41, ev41, h⟩ := h2
    refine r_iaload ev41 d_W_grants_511 ?_
    refine r_aload (i := 10) (x := x10) 6 rfl d_W_grants_512 ?_
    refine r_bipush (v := (12 : Int32)) (by decide) d_W_grants_514 ?_
    refine r_iload (i := 11) (x := x11) 7 rfl d_W_grants_516 ?_
    refine r_iadd d_W_grants_518 ?_
    have h2 := kr_ob h
    clear h
    obtain ⟨v42, ev42, h⟩ := h2
    refine r_iaload ev42 d_W_grants_519 ?_
    refine r_ior d_W_grants_520 ?_
    refine r_iconst (v := (-1 : Int32)) (by decide) d_W_grants_521 ?_
    refine r_ixor d_W_grants_522 ?_
    refine r_iand d_W_grants_523 ?_
    refine r_if_le (tgt := 532) d_W_grants_524 rfl (fun c => ?_) (fun c => ?_)
    · replace h := kr_ip c h
      refine r_aload_n (i := 3) (x := x3) 2 rfl d_W_grants_532 ?_
      refine r_aload (i := 5) (x := x5) 4 rfl d_W_grants_533 ?_
      refine r_iload (i := 13) (x := x13) 9 rfl d_W_grants_535 ?_
      have h2 := kr_ob2 h
      clear h
      obtain ⟨v44, S43, eS43, h⟩ := h2
      refine r_callS (M1 := m_W_levelOf) (As := [va_rf x3, va_rf x5, .int x13]) (s_W_levelOf eS43) mok_W_levelOf rfl w1296 w1297 (by decide) (kr_c8 kr_c0) d_W_grants_537 (kr_k1 ?_) kr_kn
      refine r_aload (i := 10) (x := x10) 6 rfl d_W_grants_540 ?_
      refine r_bipush (v := (16 : Int32)) (by decide) d_W_grants_542 ?_
      refine r_iload (i := 14) (x := x14) 10 rfl d_W_grants_544 ?_
      refine r_iadd d_W_grants_546 ?_
      have h2 := kr_ob h
      clear h
      obtain ⟨v45, ev45, h⟩ := h2
      refine r_iaload ev45 d_W_grants_547 ?_
      refine r_icmp_ge (tgt := 556) d_W_grants_548 rfl (fun c => ?_) (fun c => ?_)
      · replace h := kr_ip c h
        refine r_aload_n (i := 3) (x := x3) 2 rfl d_W_grants_556 ?_
        refine r_iconst (v := (2 : Int32)) (by decide) d_W_grants_557 ?_
        have h2 := kr_ob h
        clear h
        obtain ⟨v46, ev46, h⟩ := h2
        refine r_iaload ev46 d_W_grants_558 ?_
        exact kr_sub [1, 2, 5, 7, 8, 9, 10, 11] rfl (s_W_grants_B559 h)
      · replace h := kr_in_ c h
        refine r_bipush (v := (-2 : Int32)) (by decide) d_W_grants_551 ?_
        refine r_goto (tgt := 559) d_W_grants_553 rfl ?_
        exact kr_sub [1, 2, 5, 7, 8, 9, 10, 11] rfl (s_W_grants_B559 h)
    · replace h := kr_in_ c h
      refine r_bipush (v := (-3 : Int32)) (by decide) d_W_grants_527 ?_
      refine r_goto (tgt := 559) d_W_grants_529 rfl ?_
      exact kr_sub [1, 2, 5, 7, 8, 9, 10, 11] rfl (s_W_grants_B559 h)
set_option maxRecDepth 20000 in
set_option maxHeartbeats 4000000 in
theorem s_W_grants_B442 {S : AS} {x0 : Option Nat} {x3 : Option Nat} {x4 : Option Nat} {x5 : Option Nat} {x6 : Option Nat} {x10 : Option Nat} {x11 : Int32} {x12 : Int32} {x13 : Int32} {x14 : Int32} {x15 : Int32} {x16 : Int32} {r : (Int32 × AS)} (h : f_W_grants_B442 S x0 x3 x4 x5 x6 x10 x11 x12 x13 x14 x15 x16 = some r) : kr_AW m_W_grants 14 442 [(0, va_rf x0), (3, va_rf x3), (4, va_rf x4), (5, va_rf x5), (6, va_rf x6), (10, va_rf x10), (11, .int x11), (12, .int x12), (13, .int x13), (14, .int x14), (15, .int x15), (16, .int x16)] [] S (kr_eI r) := by
  unfold f_W_grants_B442 at h
  refine r_iload (i := 15) (x := x15) 10 rfl d_W_grants_442 ?_
  refine r_if_ne (tgt := 453) d_W_grants_444 rfl (fun c => ?_) (fun c => ?_)
  · replace h := kr_ip c h
    refine r_sipush (v := (-1001 : Int32)) (by decide) d_W_grants_447 ?_
    refine r_goto (tgt := 476) d_W_grants_450 rfl ?_
    exact kr_sub [0, 1, 2, 3, 4, 5, 6, 7, 8, 9, 11] rfl (s_W_grants_B476 h)
  · replace h := kr_in_ c h
    refine r_iload (i := 12) (x := x12) 7 rfl d_W_grants_453 ?_
    refine r_if_ne (tgt := 464) d_W_grants_455 rfl (fun c => ?_) (fun c => ?_)
    · replace h := kr_ip c h
      refine r_sipush (v := (-1002 : Int32)) (by decide) d_W_grants_458 ?_
      refine r_goto (tgt := 476) d_W_grants_461 rfl ?_
      exact kr_sub [0, 1, 2, 3, 4, 5, 6, 7, 8, 9, 11] rfl (s_W_grants_B476 h)
    · replace h := kr_in_ c h
      refine r_iload (i := 16) (x := x16) 11 rfl d_W_grants_464 ?_
      refine r_if_ne (tgt := 475) d_W_grants_466 rfl (fun c => ?_) (fun c => ?_)
      · replace h := kr_ip c h
        refine r_sipush (v := (-1003 : Int32)) (by decide) d_W_grants_469 ?_
        refine r_goto (tgt := 476) d_W_grants_472 rfl ?_
        exact kr_sub [0, 1, 2, 3, 4, 5, 6, 7, 8, 9, 11] rfl (s_W_grants_B476 h)
      · replace h := kr_in_ c h
        refine r_iconst (v := (0 : Int32)) (by decide) d_W_grants_475 ?_
        exact kr_sub [0, 1, 2, 3, 4, 5, 6, 7, 8, 9, 11] rfl (s_W_grants_B476 h)
set_option maxRecDepth 20000 in
set_option maxHeartbeats 4000000 in
theorem s_W_grants_B425 {S : AS} {x0 : Option Nat} {x3 : Option Nat} {x4 : Option Nat} {x5 : Option Nat} {x6 : Option Nat} {x10 : Option Nat} {x11 : Int32} {x12 : Int32} {x13 : Int32} {x14 : Int32} {x15 : Int32} {y0 : Int32} {r : (Int32 × AS)} (h : f_W_grants_B425 S x0 x3 x4 x5 x6 x10 x11 x12 x13 x14 x15 y0 = some r) : kr_AW m_W_grants 14 425 [(0, va_rf x0), (3, va_rf x3), (4, va_rf x4), (5, va_rf x5), (6, va_rf x6), (10, va_rf x10), (11, .int x11), (12, .int x12), (13, .int x13), (14, .int x14), (15, .int x15)] [.int y0] S (kr_eI r) := by
  unfold f_W_grants_B425 at h
  refine r_istore (i := 16) (lv' := [(16, .int y0), (0, va_rf x0), (3, va_rf x3), (4, va_rf x4), (5, va_rf x5), (6, va_rf x6), (10, va_rf x10), (11, .int x11), (12, .int x12), (13, .int x13), (14, .int x14), (15, .int x15)]) (by decide) rfl d_W_grants_425 ?_
  refine r_iload (i := 16) (x := y0) 0 rfl d_W_grants_427 ?_
  refine r_if_eq (tgt := 442) d_W_grants_429 rfl (fun c => ?_) (fun c => ?_)
  · replace h := kr_ip c h
    exact kr_sub [1, 2, 3, 4, 5, 6, 7, 8, 9, 10, 11, 0] rfl (s_W_grants_B442 h)
  · replace h := kr_in_ c h
    refine r_aload_n (i := 3) (x := x3) 2 rfl d_W_grants_432 ?_
    refine r_iconst (v := (2 : Int32)) (by decide) d_W_grants_433 ?_
    have h2 := kr_ob h
    clear h
    obtain ⟨v47, ev47, h⟩ := h2
    refine r_iaload ev47 d_W_grants_434 ?_
    refine r_bipush (v := (10 : Int32)) (by decide) d_W_grants_435 ?_
    refine r_icmp_ne (tgt := 442) d_W_grants_437 rfl (fun c => ?_) (fun c => ?_)
    · replace h := kr_ip c h
      refine r_iconst (v := (1 : Int32)) (by decide) d_W_grants_440 ?_
      cases h
      exact r_zret rfl rfl d_W_grants_441
    · replace h := kr_in_ c h
      exact kr_sub [1, 2, 3, 4, 5, 6, 7, 8, 9, 10, 11, 0] rfl (s_W_grants_B442 h)
set_option maxRecDepth 20000 in
set_option maxHeartbeats 4000000 in
theorem s_W_grants_B424 {S : AS} {x0 : Option Nat} {x3 : Option Nat} {x4 : Option Nat} {x5 : Option Nat} {x6 : Option Nat} {x10 : Option Nat} {x11 : Int32} {x12 : Int32} {x13 : Int32} {x14 : Int32} {x15 : Int32} {r : (Int32 × AS)} (h : f_W_grants_B424 S x0 x3 x4 x5 x6 x10 x11 x12 x13 x14 x15 = some r) : kr_AW m_W_grants 14 424 [(0, va_rf x0), (3, va_rf x3), (4, va_rf x4), (5, va_rf x5), (6, va_rf x6), (10, va_rf x10), (11, .int x11), (12, .int x12), (13, .int x13), (14, .int x14), (15, .int x15)] [] S (kr_eI r) := by
  unfold f_W_grants_B424 at h
  refine r_iconst (v := (0 : Int32)) (by decide) d_W_grants_424 ?_
  exact kr_sub [0, 1, 2, 3, 4, 5, 6, 7, 8, 9, 10] rfl (s_W_grants_B425 h)
set_option maxRecDepth 20000 in
set_option maxHeartbeats 4000000 in
theorem s_W_grants_B394 {S : AS} {x0 : Option Nat} {x3 : Option Nat} {x4 : Option Nat} {x5 : Option Nat} {x6 : Option Nat} {x10 : Option Nat} {x11 : Int32} {x12 : Int32} {x13 : Int32} {x14 : Int32} {y0 : Int32} {r : (Int32 × AS)} (h : f_W_grants_B394 S x0 x3 x4 x5 x6 x10 x11 x12 x13 x14 y0 = some r) : kr_AW m_W_grants 14 394 [(0, va_rf x0), (3, va_rf x3), (4, va_rf x4), (5, va_rf x5), (6, va_rf x6), (10, va_rf x10), (11, .int x11), (12, .int x12), (13, .int x13), (14, .int x14)] [.int y0] S (kr_eI r) := by
  unfold f_W_grants_B394 at h
  refine r_istore (i := 15) (lv' := [(15, .int y0), (0, va_rf x0), (3, va_rf x3), (4, va_rf x4), (5, va_rf x5), (6, va_rf x6), (10, va_rf x10), (11, .int x11), (12, .int x12), (13, .int x13), (14, .int x14)]) (by decide) rfl d_W_grants_394 ?_
  refine r_iload (i := 15) (x := y0) 0 rfl d_W_grants_396 ?_
  refine r_if_eq (tgt := 424) d_W_grants_398 rfl (fun c => ?_) (fun c => ?_)
  · replace h := kr_ip c h
    exact kr_sub [1, 2, 3, 4, 5, 6, 7, 8, 9, 10, 0] rfl (s_W_grants_B424 h)
  · replace h := kr_in_ c h
    refine r_iload (i := 12) (x := x12) 8 rfl d_W_grants_401 ?_
    refine r_if_le (tgt := 424) d_W_grants_403 rfl (fun c => ?_) (fun c => ?_)
    · replace h := kr_ip c h
      exact kr_sub [1, 2, 3, 4, 5, 6, 7, 8, 9, 10, 0] rfl (s_W_grants_B424 h)
    · replace h := kr_in_ c h
      refine r_aload (i := 4) (x := x4) 3 rfl d_W_grants_406 ?_
      refine r_iconst (v := (4 : Int32)) (by decide) d_W_grants_408 ?_
      refine r_iload (i := 13) (x := x13) 9 rfl d_W_grants_409 ?_
      refine r_imul d_W_grants_411 ?_
      refine r_iconst (v := (3 : Int32)) (by decide) d_W_grants_412 ?_
      refine r_iadd d_W_grants_413 ?_
      have h2 := kr_ob h
      clear h
      obtain ⟨v48, ev48, h⟩ := h2
      refine r_iaload ev48 d_W_grants_414 ?_
      refine r_bipush (v := (100 : Int32)) (by decide) d_W_grants_415 ?_
      refine r_icmp_ge (tgt := 424) d_W_grants_417 rfl (fun c => ?_) (fun c => ?_)
      · replace h := kr_ip c h
        exact kr_sub [1, 2, 3, 4, 5, 6, 7, 8, 9, 10, 0] rfl (s_W_grants_B424 h)
      · replace h := kr_in_ c h
        refine r_iconst (v := (1 : Int32)) (by decide) d_W_grants_420 ?_
        refine r_goto (tgt := 425) d_W_grants_421 rfl ?_
        exact kr_sub [1, 2, 3, 4, 5, 6, 7, 8, 9, 10, 0] rfl (s_W_grants_B425 h)
set_option maxRecDepth 20000 in
set_option maxHeartbeats 4000000 in
theorem s_W_grants_B369 {S : AS} {x0 : Option Nat} {x2 : Int32} {x3 : Option Nat} {x4 : Option Nat} {x5 : Option Nat} {x6 : Option Nat} {x10 : Option Nat} {x11 : Int32} {x12 : Int32} {y0 : Int32} {r : (Int32 × AS)} (h : f_W_grants_B369 S x0 x2 x3 x4 x5 x6 x10 x11 x12 y0 = some r) : kr_AW m_W_grants 14 369 [(0, va_rf x0), (2, .int x2), (3, va_rf x3), (4, va_rf x4), (5, va_rf x5), (6, va_rf x6), (10, va_rf x10), (11, .int x11), (12, .int x12)] [.int y0] S (kr_eI r) := by
  unfold f_W_grants_B369 at h
  refine r_istore (i := 13) (lv' := [(13, .int y0), (0, va_rf x0), (2, .int x2), (3, va_rf x3), (4, va_rf x4), (5, va_rf x5), (6, va_rf x6), (10, va_rf x10), (11, .int x11), (12, .int x12)]) (by decide) rfl d_W_grants_369 ?_
  refine r_iload_n (i := 2) (x := x2) 2 rfl d_W_grants_371 ?_
  refine r_bipush (v := (6 : Int32)) (by decide) d_W_grants_372 ?_
  refine r_ishr d_W_grants_374 ?_
  refine r_iconst (v := (4 : Int32)) (by decide) d_W_grants_375 ?_
  have h2 := kr_ob2 h
  clear h
  obtain ⟨v50, S49, eS49, h⟩ := h2
  refine r_callS (M1 := m_W_some) (As := [.int (x2 >>> ((6 : Int32) &&& 31)), .int (4 : Int32)]) (s_W_some eS49) mok_W_some rfl w311 w312 (by decide) (kr_c8 kr_c0) d_W_grants_376 (kr_k1 ?_) kr_kn
  refine r_istore (i := 14) (lv' := [(14, .int v50), (13, .int y0), (0, va_rf x0), (2, .int x2), (3, va_rf x3), (4, va_rf x4), (5, va_rf x5), (6, va_rf x6), (10, va_rf x10), (11, .int x11), (12, .int x12)]) (by decide) rfl d_W_grants_379 ?_
  refine r_iload (i := 13) (x := y0) 1 rfl d_W_grants_381 ?_
  refine r_aload_n (i := 3) (x := x3) 4 rfl d_W_grants_383 ?_
  refine r_iconst (v := (1 : Int32)) (by decide) d_W_grants_384 ?_
  have h2 := kr_ob h
  clear h
  obtain ⟨v51, ev51, h⟩ := h2
  refine r_iaload ev51 d_W_grants_385 ?_
  refine r_icmp_ge (tgt := 393) d_W_grants_386 rfl (fun c => ?_) (fun c => ?_)
  · replace h := kr_ip c h
    refine r_iconst (v := (0 : Int32)) (by decide) d_W_grants_393 ?_
    exact kr_sub [2, 4, 5, 6, 7, 8, 9, 10, 1, 0] rfl (s_W_grants_B394 h)
  · replace h := kr_in_ c h
    refine r_iconst (v := (1 : Int32)) (by decide) d_W_grants_389 ?_
    refine r_goto (tgt := 394) d_W_grants_390 rfl ?_
    exact kr_sub [2, 4, 5, 6, 7, 8, 9, 10, 1, 0] rfl (s_W_grants_B394 h)
set_option maxRecDepth 20000 in
set_option maxHeartbeats 4000000 in
theorem s_W_grants_B995 {S : AS} {y0 : Int32} {y1 : Int32} {r : (Int32 × AS)} (h : f_W_grants_B995 S y0 y1 = some r) : kr_AW m_W_grants 14 995 [] [.int y1, .int y0] S (kr_eI r) := by
  unfold f_W_grants_B995 at h
  refine r_icmp_ne (tgt := 1002) d_W_grants_995 rfl (fun c => ?_) (fun c => ?_)
  · replace h := kr_ip c h
    refine r_iconst (v := (1 : Int32)) (by decide) d_W_grants_998 ?_
    refine r_goto (tgt := 1003) d_W_grants_999 rfl ?_
    cases h
    exact r_zret rfl rfl d_W_grants_1003
  · replace h := kr_in_ c h
    refine r_iconst (v := (0 : Int32)) (by decide) d_W_grants_1002 ?_
    cases h
    exact r_zret rfl rfl d_W_grants_1003
set_option maxRecDepth 20000 in
set_option maxHeartbeats 4000000 in
theorem s_W_grants_B962 {S : AS} {x0 : Option Nat} {x3 : Option Nat} {x13 : Int32} {x14 : Int32} {x15 : Int32} {r : (Int32 × AS)} (h : f_W_grants_B962 S x0 x3 x13 x14 x15 = some r) : kr_AW m_W_grants 14 962 [(0, va_rf x0), (3, va_rf x3), (13, .int x13), (14, .int x14), (15, .int x15)] [] S (kr_eI r) := by
  unfold f_W_grants_B962 at h
  refine r_aload_n (i := 0) (x := x0) 0 rfl d_W_grants_962 ?_
  refine r_bipush (v := (7 : Int32)) (by decide) d_W_grants_963 ?_
  refine r_iload (i := 13) (x := x13) 2 rfl d_W_grants_965 ?_
  have h2 := kr_ob2 h
  clear h
  obtain ⟨v53, S52, eS52, h⟩ := h2
  refine r_callSX (M1 := m_W_one) (As := [va_rf x0, .int (7 : Int32), .int x13]) (s_W_oneg eS52) mok_W_one (by decide) w1051 w1052 (by decide) (kr_c8 kr_c0) d_W_grants_967 (kr_k1 ?_) kr_kn
  refine r_iload (i := 14) (x := x14) 3 rfl d_W_grants_970 ?_
  refine r_if_ne (tgt := 981) d_W_grants_972 rfl (fun c => ?_) (fun c => ?_)
  · replace h := kr_ip c h
    refine r_sipush (v := (-1001 : Int32)) (by decide) d_W_grants_975 ?_
    refine r_goto (tgt := 995) d_W_grants_978 rfl ?_
    exact kr_sub [] rfl (s_W_grants_B995 h)
  · replace h := kr_in_ c h
    refine r_iload (i := 15) (x := x15) 4 rfl d_W_grants_981 ?_
    refine r_if_eq (tgt := 994) d_W_grants_983 rfl (fun c => ?_) (fun c => ?_)
    · replace h := kr_ip c h
      refine r_iconst (v := (-1 : Int32)) (by decide) d_W_grants_994 ?_
      exact kr_sub [] rfl (s_W_grants_B995 h)
    · replace h := kr_in_ c h
      refine r_aload_n (i := 3) (x := x3) 1 rfl d_W_grants_986 ?_
      refine r_iconst (v := (3 : Int32)) (by decide) d_W_grants_987 ?_
      have h2 := kr_ob h
      clear h
      obtain ⟨v54, ev54, h⟩ := h2
      refine r_iaload ev54 d_W_grants_988 ?_
      refine r_iconst (v := (1 : Int32)) (by decide) d_W_grants_989 ?_
      refine r_isub d_W_grants_990 ?_
      refine r_goto (tgt := 995) d_W_grants_991 rfl ?_
      exact kr_sub [] rfl (s_W_grants_B995 h)
set_option maxRecDepth 20000 in
set_option maxHeartbeats 4000000 in
theorem s_W_grants_B814 {S : AS} {x0 : Option Nat} {x3 : Option Nat} {x6 : Option Nat} {x7 : Option Nat} {x8 : Option Nat} {x9 : Option Nat} {x13 : Int32} {x14 : Int32} {x15 : Int32} {r : (Int32 × AS)} (h : f_W_grants_B814 S x0 x3 x6 x7 x8 x9 x13 x14 x15 = some r) : kr_AW m_W_grants 14 814 [(0, va_rf x0), (3, va_rf x3), (6, va_rf x6), (7, va_rf x7), (8, va_rf x8), (9, va_rf x9), (13, .int x13), (14, .int x14), (15, .int x15)] [] S (kr_eI r) := by
  unfold f_W_grants_B814 at h
  refine r_iload (i := 15) (x := x15) 8 rfl d_W_grants_814 ?_
  refine r_if_eq (tgt := 922) d_W_grants_816 rfl (fun c => ?_) (fun c => ?_)
  · replace h := kr_ip c h
    refine r_iload (i := 14) (x := x14) 7 rfl d_W_grants_922 ?_
    refine r_if_eq (tgt := 962) d_W_grants_924 rfl (fun c => ?_) (fun c => ?_)
    · replace h := kr_ip c h
      exact kr_sub [0, 1, 6, 7, 8] rfl (s_W_grants_B962 h)
    · replace h := kr_in_ c h
      refine r_aload (i := 6) (x := x6) 2 rfl d_W_grants_927 ?_
      refine r_bipush (v := (6 : Int32)) (by decide) d_W_grants_929 ?_
      refine r_iload (i := 13) (x := x13) 6 rfl d_W_grants_931 ?_
      refine r_imul d_W_grants_933 ?_
      refine r_iconst (v := (5 : Int32)) (by decide) d_W_grants_934 ?_
      refine r_iadd d_W_grants_935 ?_
      have h2 := kr_ob h
      clear h
      obtain ⟨v55, ev55, h⟩ := h2
      refine r_iaload ev55 d_W_grants_936 ?_
      refine r_if_le (tgt := 962) d_W_grants_937 rfl (fun c => ?_) (fun c => ?_)
      · replace h := kr_ip c h
        exact kr_sub [0, 1, 6, 7, 8] rfl (s_W_grants_B962 h)
      · replace h := kr_in_ c h
        refine r_aload_n (i := 3) (x := x3) 1 rfl d_W_grants_940 ?_
        refine r_aload (i := 7) (x := x7) 3 rfl d_W_grants_941 ?_
        refine r_aload (i := 8) (x := x8) 4 rfl d_W_grants_943 ?_
        refine r_aload (i := 9) (x := x9) 5 rfl d_W_grants_945 ?_
        refine r_aload (i := 6) (x := x6) 2 rfl d_W_grants_947 ?_
        refine r_bipush (v := (6 : Int32)) (by decide) d_W_grants_949 ?_
        refine r_iload (i := 13) (x := x13) 6 rfl d_W_grants_951 ?_
        refine r_imul d_W_grants_953 ?_
        refine r_iconst (v := (5 : Int32)) (by decide) d_W_grants_954 ?_
        refine r_iadd d_W_grants_955 ?_
        have h2 := kr_ob h
        clear h
        obtain ⟨v56, ev56, h⟩ := h2
        refine r_iaload ev56 d_W_grants_956 ?_
        refine r_iconst (v := (1 : Int32)) (by decide) d_W_grants_957 ?_
        refine r_isub d_W_grants_958 ?_
        have h2 := kr_ob h
        clear h
        obtain ⟨S57, eS57, h⟩ := h2
        refine r_callS (M1 := m_W_endFamily) (As := [va_rf x3, va_rf x7, va_rf x8, va_rf x9, .int (v56 - (1 : Int32))]) (s_W_endFamily eS57) mok_W_endFamily rfl w1048 w1049 (by decide) (kr_c8 kr_c0) d_W_grants_959 (kr_k0 ?_) kr_kn
        exact kr_sub [0, 1, 6, 7, 8] rfl (s_W_grants_B962 h)
  · replace h := kr_in_ c h
    refine r_aload (i := 7) (x := x7) 3 rfl d_W_grants_819 ?_
    refine r_iconst (v := (5 : Int32)) (by decide) d_W_grants_821 ?_
    refine r_aload_n (i := 3) (x := x3) 1 rfl d_W_grants_822 ?_
    refine r_iconst (v := (3 : Int32)) (by decide) d_W_grants_823 ?_
    have h2 := kr_ob h
    clear h
    obtain ⟨v58, ev58, h⟩ := h2
    refine r_iaload ev58 d_W_grants_824 ?_
    refine r_imul d_W_grants_825 ?_
    refine r_iload (i := 13) (x := x13) 6 rfl d_W_grants_826 ?_
    have h2 := kr_ob h
    clear h
    obtain ⟨S59, eS59, h⟩ := h2
    refine r_iastore eS59 d_W_grants_828 ?_
    refine r_aload (i := 7) (x := x7) 3 rfl d_W_grants_829 ?_
    refine r_iconst (v := (5 : Int32)) (by decide) d_W_grants_831 ?_
    refine r_aload_n (i := 3) (x := x3) 1 rfl d_W_grants_832 ?_
    refine r_iconst (v := (3 : Int32)) (by decide) d_W_grants_833 ?_
    have h2 := kr_ob h
    clear h
    obtain ⟨v60, ev60, h⟩ := h2
    refine r_iaload ev60 d_W_grants_834 ?_
    refine r_imul d_W_grants_835 ?_
    refine r_iconst (v := (1 : Int32)) (by decide) d_W_grants_836 ?_
    refine r_iadd d_W_grants_837 ?_
    refine r_iconst (v := (0 : Int32)) (by decide) d_W_grants_838 ?_
    have h2 := kr_ob h
    clear h
    obtain ⟨S61, eS61, h⟩ := h2
    refine r_iastore eS61 d_W_grants_839 ?_
    refine r_aload (i := 7) (x := x7) 3 rfl d_W_grants_840 ?_
    refine r_iconst (v := (5 : Int32)) (by decide) d_W_grants_842 ?_
    refine r_aload_n (i := 3) (x := x3) 1 rfl d_W_grants_843 ?_
    refine r_iconst (v := (3 : Int32)) (by decide) d_W_grants_844 ?_
    have h2 := kr_ob h
    clear h
    obtain ⟨v62, ev62, h⟩ := h2
    refine r_iaload ev62 d_W_grants_845 ?_
    refine r_imul d_W_grants_846 ?_
    refine r_iconst (v := (2 : Int32)) (by decide) d_W_grants_847 ?_
    refine r_iadd d_W_grants_848 ?_
    refine r_aload_n (i := 3) (x := x3) 1 rfl d_W_grants_849 ?_
    refine r_iconst (v := (0 : Int32)) (by decide) d_W_grants_850 ?_
    have h2 := kr_ob h
    clear h
    obtain ⟨v63, ev63, h⟩ := h2
    refine r_iaload ev63 d_W_grants_851 ?_
    have h2 := kr_ob h
    clear h
    obtain ⟨S64, eS64, h⟩ := h2
    refine r_iastore eS64 d_W_grants_852 ?_
    refine r_aload (i := 7) (x := x7) 3 rfl d_W_grants_853 ?_
    refine r_iconst (v := (5 : Int32)) (by decide) d_W_grants_855 ?_
    refine r_aload_n (i := 3) (x := x3) 1 rfl d_W_grants_856 ?_
    refine r_iconst (v := (3 : Int32)) (by decide) d_W_grants_857 ?_
    have h2 := kr_ob h
    clear h
    obtain ⟨v65, ev65, h⟩ := h2
    refine r_iaload ev65 d_W_grants_858 ?_
    refine r_imul d_W_grants_859 ?_
    refine r_iconst (v := (4 : Int32)) (by decide) d_W_grants_860 ?_
    refine r_iadd d_W_grants_861 ?_
    refine r_iconst (v := (1 : Int32)) (by decide) d_W_grants_862 ?_
    have h2 := kr_ob h
    clear h
    obtain ⟨S66, eS66, h⟩ := h2
    refine r_iastore eS66 d_W_grants_863 ?_
    refine r_aload (i := 6) (x := x6) 2 rfl d_W_grants_864 ?_
    refine r_bipush (v := (6 : Int32)) (by decide) d_W_grants_866 ?_
    refine r_iload (i := 13) (x := x13) 6 rfl d_W_grants_868 ?_
    refine r_imul d_W_grants_870 ?_
    refine r_iconst (v := (5 : Int32)) (by decide) d_W_grants_871 ?_
    refine r_iadd d_W_grants_872 ?_
    refine r_aload_n (i := 3) (x := x3) 1 rfl d_W_grants_873 ?_
    refine r_iconst (v := (3 : Int32)) (by decide) d_W_grants_874 ?_
    have h2 := kr_ob h
    clear h
    obtain ⟨v67, ev67, h⟩ := h2
    refine r_iaload ev67 d_W_grants_875 ?_
    refine r_iconst (v := (1 : Int32)) (by decide) d_W_grants_876 ?_
    refine r_iadd d_W_grants_877 ?_
    have h2 := kr_ob h
    clear h
    obtain ⟨S68, eS68, h⟩ := h2
    refine r_iastore eS68 d_W_grants_878 ?_
    refine r_aload_n (i := 3) (x := x3) 1 rfl d_W_grants_879 ?_
    refine r_iconst (v := (2 : Int32)) (by decide) d_W_grants_880 ?_
    refine r_aload_n (i := 3) (x := x3) 1 rfl d_W_grants_881 ?_
    refine r_iconst (v := (3 : Int32)) (by decide) d_W_grants_882 ?_
    have h2 := kr_ob h
    clear h
    obtain ⟨v69, ev69, h⟩ := h2
    refine r_iaload ev69 d_W_grants_883 ?_
    have h2 := kr_ob h
    clear h
    obtain ⟨S70, eS70, h⟩ := h2
    refine r_callS (M1 := m_W_writes) (As := [va_rf x3, .int (2 : Int32), .int v69]) (s_W_writes eS70) mok_W_writes rfl w1029 w1030 (by decide) (kr_c8 kr_c0) d_W_grants_884 (kr_k0 ?_) kr_kn
    refine r_aload_n (i := 3) (x := x3) 1 rfl d_W_grants_887 ?_
    refine r_aload (i := 7) (x := x7) 3 rfl d_W_grants_888 ?_
    refine r_aload (i := 8) (x := x8) 4 rfl d_W_grants_890 ?_
    refine r_aload_n (i := 3) (x := x3) 1 rfl d_W_grants_892 ?_
    refine r_iconst (v := (3 : Int32)) (by decide) d_W_grants_893 ?_
    have h2 := kr_ob h
    clear h
    obtain ⟨v71, ev71, h⟩ := h2
    refine r_iaload ev71 d_W_grants_894 ?_
    refine r_aload (i := 6) (x := x6) 2 rfl d_W_grants_895 ?_
    refine r_iload (i := 13) (x := x13) 6 rfl d_W_grants_897 ?_
    have h2 := kr_ob2 h
    clear h
    obtain ⟨v73, S72, eS72, h⟩ := h2
    refine r_callS (M1 := m_W_what) (As := [va_rf x6, .int x13]) (s_W_what eS72) mok_W_what rfl w1333 w1334 (by decide) (kr_c8 (kr_cI (kr_cR (kr_cR (kr_cR kr_c0))))) d_W_grants_899 (kr_k1 ?_) kr_kn
    refine r_aload_n (i := 3) (x := x3) 1 rfl d_W_grants_902 ?_
    refine r_iconst (v := (0 : Int32)) (by decide) d_W_grants_903 ?_
    have h2 := kr_ob h
    clear h
    obtain ⟨v74, ev74, h⟩ := h2
    refine r_iaload ev74 d_W_grants_904 ?_
    refine r_bipush (v := (10 : Int32)) (by decide) d_W_grants_905 ?_
    refine r_iadd d_W_grants_907 ?_
    have h2 := kr_ob2 h
    clear h
    obtain ⟨v76, S75, eS75, h⟩ := h2
    refine r_callS (M1 := m_W_makes) (As := [va_rf x3, va_rf x7, va_rf x8, .int v71, .int v73, .int (v74 + (10 : Int32))]) (s_W_makes eS75) mok_W_makes rfl w1336 w1337 (by decide) (kr_c8 kr_c0) d_W_grants_908 (kr_k1 ?_) kr_kn
    refine r_pop rfl d_W_grants_911 ?_
    refine r_aload_n (i := 3) (x := x3) 1 rfl d_W_grants_912 ?_
    refine r_iconst (v := (3 : Int32)) (by decide) d_W_grants_913 ?_
    refine r_dup2 rfl (kr_rfcat _) d_W_grants_914 ?_
    have h2 := kr_ob h
    clear h
    obtain ⟨v77, ev77, h⟩ := h2
    refine r_iaload ev77 d_W_grants_915 ?_
    refine r_iconst (v := (1 : Int32)) (by decide) d_W_grants_916 ?_
    refine r_iadd d_W_grants_917 ?_
    have h2 := kr_ob h
    clear h
    obtain ⟨S78, eS78, h⟩ := h2
    refine r_iastore eS78 d_W_grants_918 ?_
    refine r_goto (tgt := 962) d_W_grants_919 rfl ?_
    exact kr_sub [0, 1, 6, 7, 8] rfl (s_W_grants_B962 h)
set_option maxRecDepth 20000 in
set_option maxHeartbeats 4000000 in
theorem s_W_grants_B797 {S : AS} {x0 : Option Nat} {x3 : Option Nat} {x6 : Option Nat} {x7 : Option Nat} {x8 : Option Nat} {x9 : Option Nat} {x13 : Int32} {x14 : Int32} {y0 : Int32} {r : (Int32 × AS)} (h : f_W_grants_B797 S x0 x3 x6 x7 x8 x9 x13 x14 y0 = some r) : kr_AW m_W_grants 14 797 [(0, va_rf x0), (3, va_rf x3), (6, va_rf x6), (7, va_rf x7), (8, va_rf x8), (9, va_rf x9), (13, .int x13), (14, .int x14)] [.int y0] S (kr_eI r) := by
  unfold f_W_grants_B797 at h
  refine r_istore (i := 15) (lv' := [(15, .int y0), (0, va_rf x0), (3, va_rf x3), (6, va_rf x6), (7, va_rf x7), (8, va_rf x8), (9, va_rf x9), (13, .int x13), (14, .int x14)]) (by decide) rfl d_W_grants_797 ?_
  refine r_iload (i := 15) (x := y0) 0 rfl d_W_grants_799 ?_
  refine r_if_eq (tgt := 814) d_W_grants_801 rfl (fun c => ?_) (fun c => ?_)
  · replace h := kr_ip c h
    exact kr_sub [1, 2, 3, 4, 5, 6, 7, 8, 0] rfl (s_W_grants_B814 h)
  · replace h := kr_in_ c h
    refine r_aload_n (i := 3) (x := x3) 2 rfl d_W_grants_804 ?_
    refine r_iconst (v := (4 : Int32)) (by decide) d_W_grants_805 ?_
    have h2 := kr_ob h
    clear h
    obtain ⟨v79, ev79, h⟩ := h2
    refine r_iaload ev79 d_W_grants_806 ?_
    refine r_bipush (v := (20 : Int32)) (by decide) d_W_grants_807 ?_
    refine r_icmp_ne (tgt := 814) d_W_grants_809 rfl (fun c => ?_) (fun c => ?_)
    · replace h := kr_ip c h
      refine r_iconst (v := (1 : Int32)) (by decide) d_W_grants_812 ?_
      cases h
      exact r_zret rfl rfl d_W_grants_813
    · replace h := kr_in_ c h
      exact kr_sub [1, 2, 3, 4, 5, 6, 7, 8, 0] rfl (s_W_grants_B814 h)
set_option maxRecDepth 20000 in
set_option maxHeartbeats 4000000 in
theorem s_W_grants_B796 {S : AS} {x0 : Option Nat} {x3 : Option Nat} {x6 : Option Nat} {x7 : Option Nat} {x8 : Option Nat} {x9 : Option Nat} {x13 : Int32} {x14 : Int32} {r : (Int32 × AS)} (h : f_W_grants_B796 S x0 x3 x6 x7 x8 x9 x13 x14 = some r) : kr_AW m_W_grants 14 796 [(0, va_rf x0), (3, va_rf x3), (6, va_rf x6), (7, va_rf x7), (8, va_rf x8), (9, va_rf x9), (13, .int x13), (14, .int x14)] [] S (kr_eI r) := by
  unfold f_W_grants_B796 at h
  refine r_iconst (v := (0 : Int32)) (by decide) d_W_grants_796 ?_
  exact kr_sub [0, 1, 2, 3, 4, 5, 6, 7] rfl (s_W_grants_B797 h)
set_option maxRecDepth 20000 in
set_option maxHeartbeats 4000000 in
theorem s_W_grants_B734 {S : AS} {x0 : Option Nat} {x3 : Option Nat} {x4 : Option Nat} {x6 : Option Nat} {x7 : Option Nat} {x8 : Option Nat} {x9 : Option Nat} {x13 : Int32} {y0 : Int32} {r : (Int32 × AS)} (h : f_W_grants_B734 S x0 x3 x4 x6 x7 x8 x9 x13 y0 = some r) : kr_AW m_W_grants 14 734 [(0, va_rf x0), (3, va_rf x3), (4, va_rf x4), (6, va_rf x6), (7, va_rf x7), (8, va_rf x8), (9, va_rf x9), (13, .int x13)] [.int y0] S (kr_eI r) := by
  unfold f_W_grants_B734 at h
  refine r_istore (i := 14) (lv' := [(14, .int y0), (0, va_rf x0), (3, va_rf x3), (4, va_rf x4), (6, va_rf x6), (7, va_rf x7), (8, va_rf x8), (9, va_rf x9), (13, .int x13)]) (by decide) rfl d_W_grants_734 ?_
  refine r_iload (i := 14) (x := y0) 0 rfl d_W_grants_736 ?_
  refine r_if_eq (tgt := 796) d_W_grants_738 rfl (fun c => ?_) (fun c => ?_)
  · replace h := kr_ip c h
    exact kr_sub [1, 2, 4, 5, 6, 7, 8, 0] rfl (s_W_grants_B796 h)
  · replace h := kr_in_ c h
    refine r_aload (i := 6) (x := x6) 4 rfl d_W_grants_741 ?_
    refine r_bipush (v := (6 : Int32)) (by decide) d_W_grants_743 ?_
    refine r_iload (i := 13) (x := x13) 8 rfl d_W_grants_745 ?_
    refine r_imul d_W_grants_747 ?_
    refine r_iconst (v := (5 : Int32)) (by decide) d_W_grants_748 ?_
    refine r_iadd d_W_grants_749 ?_
    have h2 := kr_ob h
    clear h
    obtain ⟨v80, ev80, h⟩ := h2
    refine r_iaload ev80 d_W_grants_750 ?_
    refine r_if_ne (tgt := 796) d_W_grants_751 rfl (fun c => ?_) (fun c => ?_)
    · replace h := kr_ip c h
      refine r_aload (i := 6) (x := x6) 4 rfl d_W_grants_754 ?_
      refine r_bipush (v := (6 : Int32)) (by decide) d_W_grants_756 ?_
      refine r_iload (i := 13) (x := x13) 8 rfl d_W_grants_758 ?_
      refine r_imul d_W_grants_760 ?_
      refine r_iconst (v := (4 : Int32)) (by decide) d_W_grants_761 ?_
      refine r_iadd d_W_grants_762 ?_
      have h2 := kr_ob h
      clear h
      obtain ⟨v81, ev81, h⟩ := h2
      refine r_iaload ev81 d_W_grants_763 ?_
      refine r_iconst (v := (5 : Int32)) (by decide) d_W_grants_764 ?_
      refine r_iadd d_W_grants_765 ?_
      refine r_aload_n (i := 3) (x := x3) 2 rfl d_W_grants_766 ?_
      refine r_iconst (v := (0 : Int32)) (by decide) d_W_grants_767 ?_
      have h2 := kr_ob h
      clear h
      obtain ⟨v82, ev82, h⟩ := h2
      refine r_iaload ev82 d_W_grants_768 ?_
      refine r_icmp_lt (tgt := 796) d_W_grants_769 rfl (fun c => ?_) (fun c => ?_)
      · replace h := kr_ip c h
        exact kr_sub [1, 2, 4, 5, 6, 7, 8, 0] rfl (s_W_grants_B796 h)
      · replace h := kr_in_ c h
        refine r_aload (i := 4) (x := x4) 3 rfl d_W_grants_772 ?_
        refine r_iconst (v := (4 : Int32)) (by decide) d_W_grants_774 ?_
        refine r_aload (i := 6) (x := x6) 4 rfl d_W_grants_775 ?_
        refine r_bipush (v := (6 : Int32)) (by decide) d_W_grants_777 ?_
        refine r_iload (i := 13) (x := x13) 8 rfl d_W_grants_779 ?_
        refine r_imul d_W_grants_781 ?_
        have h2 := kr_ob h
        clear h
        obtain ⟨v83, ev83, h⟩ := h2
        refine r_iaload ev83 d_W_grants_782 ?_
        refine r_imul d_W_grants_783 ?_
        refine r_iconst (v := (3 : Int32)) (by decide) d_W_grants_784 ?_
        refine r_iadd d_W_grants_785 ?_
        have h2 := kr_ob h
        clear h
        obtain ⟨v84, ev84, h⟩ := h2
        refine r_iaload ev84 d_W_grants_786 ?_
        refine r_bipush (v := (100 : Int32)) (by decide) d_W_grants_787 ?_
        refine r_icmp_ge (tgt := 796) d_W_grants_789 rfl (fun c => ?_) (fun c => ?_)
        · replace h := kr_ip c h
          exact kr_sub [1, 2, 4, 5, 6, 7, 8, 0] rfl (s_W_grants_B796 h)
        · replace h := kr_in_ c h
          refine r_iconst (v := (1 : Int32)) (by decide) d_W_grants_792 ?_
          refine r_goto (tgt := 797) d_W_grants_793 rfl ?_
          exact kr_sub [1, 2, 4, 5, 6, 7, 8, 0] rfl (s_W_grants_B797 h)
    · replace h := kr_in_ c h
      exact kr_sub [1, 2, 4, 5, 6, 7, 8, 0] rfl (s_W_grants_B796 h)
set_option maxRecDepth 20000 in
set_option maxHeartbeats 4000000 in
theorem s_W_grants_B719 {S : AS} {x0 : Option Nat} {x3 : Option Nat} {x4 : Option Nat} {x6 : Option Nat} {x7 : Option Nat} {x8 : Option Nat} {x9 : Option Nat} {y0 : Int32} {r : (Int32 × AS)} (h : f_W_grants_B719 S x0 x3 x4 x6 x7 x8 x9 y0 = some r) : kr_AW m_W_grants 14 719 [(0, va_rf x0), (3, va_rf x3), (4, va_rf x4), (6, va_rf x6), (7, va_rf x7), (8, va_rf x8), (9, va_rf x9)] [.int y0] S (kr_eI r) := by
  unfold f_W_grants_B719 at h
  refine r_istore (i := 13) (lv' := [(13, .int y0), (0, va_rf x0), (3, va_rf x3), (4, va_rf x4), (6, va_rf x6), (7, va_rf x7), (8, va_rf x8), (9, va_rf x9)]) (by decide) rfl d_W_grants_719 ?_
  refine r_iload (i := 13) (x := y0) 0 rfl d_W_grants_721 ?_
  refine r_aload_n (i := 3) (x := x3) 2 rfl d_W_grants_723 ?_
  refine r_iconst (v := (2 : Int32)) (by decide) d_W_grants_724 ?_
  have h2 := kr_ob h
  clear h
  obtain ⟨v85, ev85, h⟩ := h2
  refine r_iaload ev85 d_W_grants_725 ?_
  refine r_icmp_ge (tgt := 733) d_W_grants_726 rfl (fun c => ?_) (fun c => ?_)
  · replace h := kr_ip c h
    refine r_iconst (v := (0 : Int32)) (by decide) d_W_grants_733 ?_
    exact kr_sub [1, 2, 3, 4, 5, 6, 7, 0] rfl (s_W_grants_B734 h)
  · replace h := kr_in_ c h
    refine r_iconst (v := (1 : Int32)) (by decide) d_W_grants_729 ?_
    refine r_goto (tgt := 734) d_W_grants_730 rfl ?_
    exact kr_sub [1, 2, 3, 4, 5, 6, 7, 0] rfl (s_W_grants_B734 h)
set_option maxRecDepth 20000 in
set_option maxHeartbeats 4000000 in
theorem s_W_grants {S : AS} {a0 : Option Nat} {a1 : Int32} {a2 : Int32} {a3 : Option Nat} {a4 : Option Nat} {a5 : Option Nat} {a6 : Option Nat} {a7 : Option Nat} {a8 : Option Nat} {a9 : Option Nat} {a10 : Option Nat} {r : (Int32 × AS)} (h : f_W_grants S a0 a1 a2 a3 a4 a5 a6 a7 a8 a9 a10 = some r) : kr_Con m_W_grants 14 [va_rf a0, .int a1, .int a2, va_rf a3, va_rf a4, va_rf a5, va_rf a6, va_rf a7, va_rf a8, va_rf a9, va_rf a10] S (kr_eI r) := by
  refine kr_con rfl rfl (by decide +kernel) (by simp [lg_sl, kr_rfcat, kr_icat, m_W_grants, mL]) ?_
  rw [show lv_args 0 [va_rf a0, .int a1, .int a2, va_rf a3, va_rf a4, va_rf a5, va_rf a6, va_rf a7, va_rf a8, va_rf a9, va_rf a10] = [(0, va_rf a0), (1, .int a1), (2, .int a2), (3, va_rf a3), (4, va_rf a4), (5, va_rf a5), (6, va_rf a6), (7, va_rf a7), (8, va_rf a8), (9, va_rf a9), (10, va_rf a10)] from by simp [lv_args, kr_rfcat, kr_icat]]
  unfold f_W_grants at h
  refine r_iload_n (i := 2) (x := a2) 2 rfl d_W_grants_0 ?_
  refine r_iconst (v := (3 : Int32)) (by decide) d_W_grants_1 ?_
  refine r_ishr d_W_grants_2 ?_
  refine r_iconst (v := (4 : Int32)) (by decide) d_W_grants_3 ?_
  have h2 := kr_ob2 h
  clear h
  obtain ⟨v87, S86, eS86, h⟩ := h2
  refine r_callS (M1 := m_W_some) (As := [.int (a2 >>> ((3 : Int32) &&& 31)), .int (4 : Int32)]) (s_W_some eS86) mok_W_some rfl w311 w312 (by decide) (kr_c8 kr_c0) d_W_grants_4 (kr_k1 ?_) kr_kn
  refine r_istore (i := 11) (lv' := [(11, .int v87), (0, va_rf a0), (1, .int a1), (2, .int a2), (3, va_rf a3), (4, va_rf a4), (5, va_rf a5), (6, va_rf a6), (7, va_rf a7), (8, va_rf a8), (9, va_rf a9), (10, va_rf a10)]) (by decide) (by show kr_st _ 11 _ = _; simp [kr_st, kr_rfcat, kr_icat]) d_W_grants_7 ?_
  refine r_iload_n (i := 2) (x := a2) 3 rfl d_W_grants_9 ?_
  refine r_iconst (v := (5 : Int32)) (by decide) d_W_grants_10 ?_
  refine r_ishr d_W_grants_11 ?_
  refine r_bipush (v := (16 : Int32)) (by decide) d_W_grants_12 ?_
  have h2 := kr_ob2 h
  clear h
  obtain ⟨v89, S88, eS88, h⟩ := h2
  refine r_callS (M1 := m_W_some) (As := [.int (a2 >>> ((5 : Int32) &&& 31)), .int (16 : Int32)]) (s_W_some eS88) mok_W_some rfl w311 w312 (by decide) (kr_c8 kr_c0) d_W_grants_14 (kr_k1 ?_) kr_kn
  refine r_istore (i := 12) (lv' := [(12, .int v89), (11, .int v87), (0, va_rf a0), (1, .int a1), (2, .int a2), (3, va_rf a3), (4, va_rf a4), (5, va_rf a5), (6, va_rf a6), (7, va_rf a7), (8, va_rf a8), (9, va_rf a9), (10, va_rf a10)]) (by decide) rfl d_W_grants_17 ?_
  refine r_iload_n (i := 1) (x := a1) 3 rfl d_W_grants_19 ?_
  refine r_if_ne (tgt := 95) d_W_grants_20 rfl (fun c => ?_) (fun c => ?_)
  · replace h := kr_ip c h
    refine r_iload_n (i := 2) (x := a2) 4 rfl d_W_grants_23 ?_
    refine r_iconst (v := (4 : Int32)) (by decide) d_W_grants_24 ?_
    have h2 := kr_ob2 h
    clear h
    obtain ⟨v91, S90, eS90, h⟩ := h2
    refine r_callS (M1 := m_W_some) (As := [.int a2, .int (4 : Int32)]) (s_W_some eS90) mok_W_some rfl w311 w312 (by decide) (kr_c8 kr_c0) d_W_grants_25 (kr_k1 ?_) kr_kn
    refine r_iconst (v := (1 : Int32)) (by decide) d_W_grants_28 ?_
    refine r_isub d_W_grants_29 ?_
    have h2 := kr_ob h
    clear h
    obtain ⟨i92, ei92, h⟩ := h2
    refine kr_nmI ei92 ?_
    refine r_istore (i := 13) (lv' := [(13, .int i92), (12, .int v89), (11, .int v87), (0, va_rf a0), (1, .int a1), (2, .int a2), (3, va_rf a3), (4, va_rf a4), (5, va_rf a5), (6, va_rf a6), (7, va_rf a7), (8, va_rf a8), (9, va_rf a9), (10, va_rf a10)]) (by decide) rfl d_W_grants_30 ?_
    refine r_aload (i := 10) (x := a10) 13 rfl d_W_grants_32 ?_
    refine r_iconst (v := (4 : Int32)) (by decide) d_W_grants_34 ?_
    refine r_iload (i := 13) (x := i92) 0 rfl d_W_grants_35 ?_
    refine r_if_ge (tgt := 44) d_W_grants_37 rfl (fun c => ?_) (fun c => ?_)
    · replace h := kr_ip c h
      refine r_iload (i := 13) (x := i92) 0 rfl d_W_grants_44 ?_
      exact kr_sub [3, 13, 2, 1, 0] rfl (s_W_grants_B46 h)
    · replace h := kr_in_ c h
      refine r_iconst (v := (3 : Int32)) (by decide) d_W_grants_40 ?_
      refine r_goto (tgt := 46) d_W_grants_41 rfl ?_
      exact kr_sub [3, 13, 2, 1, 0] rfl (s_W_grants_B46 h)
  · replace h := kr_in_ c h
    refine r_iload_n (i := 1) (x := a1) 3 rfl d_W_grants_95 ?_
    refine r_iconst (v := (1 : Int32)) (by decide) d_W_grants_96 ?_
    refine r_icmp_ne (tgt := 228) d_W_grants_97 rfl (fun c => ?_) (fun c => ?_)
    · replace h := kr_ip c h
      refine r_iload_n (i := 2) (x := a2) 4 rfl d_W_grants_100 ?_
      refine r_iconst (v := (3 : Int32)) (by decide) d_W_grants_101 ?_
      have h2 := kr_ob2 h
      clear h
      obtain ⟨v94, S93, eS93, h⟩ := h2
      refine r_callS (M1 := m_W_some) (As := [.int a2, .int (3 : Int32)]) (s_W_some eS93) mok_W_some rfl w311 w312 (by decide) (kr_c8 kr_c0) d_W_grants_102 (kr_k1 ?_) kr_kn
      refine r_istore (i := 13) (lv' := [(13, .int v94), (12, .int v89), (11, .int v87), (0, va_rf a0), (1, .int a1), (2, .int a2), (3, va_rf a3), (4, va_rf a4), (5, va_rf a5), (6, va_rf a6), (7, va_rf a7), (8, va_rf a8), (9, va_rf a9), (10, va_rf a10)]) (by decide) rfl d_W_grants_105 ?_
      refine r_iconst (v := (0 : Int32)) (by decide) d_W_grants_107 ?_
      refine r_istore (i := 14) (lv' := [(14, .int (0 : Int32)), (13, .int v94), (12, .int v89), (11, .int v87), (0, va_rf a0), (1, .int a1), (2, .int a2), (3, va_rf a3), (4, va_rf a4), (5, va_rf a5), (6, va_rf a6), (7, va_rf a7), (8, va_rf a8), (9, va_rf a9), (10, va_rf a10)]) (by decide) rfl d_W_grants_108 ?_
      refine r_aload (i := 10) (x := a10) 14 rfl d_W_grants_110 ?_
      refine r_iconst (v := (4 : Int32)) (by decide) d_W_grants_112 ?_
      refine r_iload (i := 13) (x := v94) 1 rfl d_W_grants_113 ?_
      refine r_imul d_W_grants_115 ?_
      refine r_iload (i := 11) (x := v87) 3 rfl d_W_grants_116 ?_
      refine r_iadd d_W_grants_118 ?_
      refine r_iconst (v := (0 : Int32)) (by decide) d_W_grants_119 ?_
      have h2 := kr_ob h
      clear h
      obtain ⟨S95, eS95, h⟩ := h2
      refine r_iastore eS95 d_W_grants_120 ?_
      refine r_iconst (v := (0 : Int32)) (by decide) d_W_grants_121 ?_
      refine r_istore (i := 15) (lv' := [(15, .int (0 : Int32)), (14, .int (0 : Int32)), (13, .int v94), (12, .int v89), (11, .int v87), (0, va_rf a0), (1, .int a1), (2, .int a2), (3, va_rf a3), (4, va_rf a4), (5, va_rf a5), (6, va_rf a6), (7, va_rf a7), (8, va_rf a8), (9, va_rf a9), (10, va_rf a10)]) (by decide) rfl d_W_grants_122 ?_
      exact kr_sub [5, 8, 9, 11, 12, 13, 14, 4, 2, 1, 0] rfl (s_W_grants_L124 kr_FU h)
    · replace h := kr_in_ c h
      refine r_iload_n (i := 1) (x := a1) 3 rfl d_W_grants_228 ?_
      refine r_iconst (v := (2 : Int32)) (by decide) d_W_grants_229 ?_
      refine r_icmp_ne (tgt := 323) d_W_grants_230 rfl (fun c => ?_) (fun c => ?_)
      · replace h := kr_ip c h
        refine r_aload (i := 10) (x := a10) 12 rfl d_W_grants_233 ?_
        refine r_bipush (v := (16 : Int32)) (by decide) d_W_grants_235 ?_
        refine r_iload (i := 11) (x := v87) 1 rfl d_W_grants_237 ?_
        refine r_iadd d_W_grants_239 ?_
        have h2 := kr_ob h
        clear h
        obtain ⟨v96, ev96, h⟩ := h2
        refine r_iaload ev96 d_W_grants_240 ?_
        refine r_istore (i := 13) (lv' := [(13, .int v96), (12, .int v89), (11, .int v87), (0, va_rf a0), (1, .int a1), (2, .int a2), (3, va_rf a3), (4, va_rf a4), (5, va_rf a5), (6, va_rf a6), (7, va_rf a7), (8, va_rf a8), (9, va_rf a9), (10, va_rf a10)]) (by decide) rfl d_W_grants_241 ?_
        refine r_iload_n (i := 2) (x := a2) 5 rfl d_W_grants_243 ?_
        refine r_iconst (v := (4 : Int32)) (by decide) d_W_grants_244 ?_
        refine r_ishr d_W_grants_245 ?_
        refine r_bipush (v := (20 : Int32)) (by decide) d_W_grants_246 ?_
        have h2 := kr_ob2 h
        clear h
        obtain ⟨v98, S97, eS97, h⟩ := h2
        refine r_callS (M1 := m_W_some) (As := [.int (a2 >>> ((4 : Int32) &&& 31)), .int (20 : Int32)]) (s_W_some eS97) mok_W_some rfl w311 w312 (by decide) (kr_c8 kr_c0) d_W_grants_248 (kr_k1 ?_) kr_kn
        refine r_if_ne (tgt := 259) d_W_grants_251 rfl (fun c => ?_) (fun c => ?_)
        · replace h := kr_ip c h
          refine r_bipush (v := (7 : Int32)) (by decide) d_W_grants_254 ?_
          refine r_goto (tgt := 266) d_W_grants_256 rfl ?_
          exact kr_sub [3, 13, 2, 0] rfl (s_W_grants_B266 h)
        · replace h := kr_in_ c h
          refine r_iload_n (i := 2) (x := a2) 5 rfl d_W_grants_259 ?_
          refine r_iconst (v := (4 : Int32)) (by decide) d_W_grants_260 ?_
          refine r_ishr d_W_grants_261 ?_
          refine r_iconst (v := (4 : Int32)) (by decide) d_W_grants_262 ?_
          have h2 := kr_ob2 h
          clear h
          obtain ⟨v100, S99, eS99, h⟩ := h2
          refine r_callS (M1 := m_W_some) (As := [.int (a2 >>> ((4 : Int32) &&& 31)), .int (4 : Int32)]) (s_W_some eS99) mok_W_some rfl w311 w312 (by decide) (kr_c8 kr_c0) d_W_grants_263 (kr_k1 ?_) kr_kn
          exact kr_sub [3, 13, 2, 0] rfl (s_W_grants_B266 h)
      · replace h := kr_in_ c h
        refine r_iload_n (i := 1) (x := a1) 3 rfl d_W_grants_323 ?_
        refine r_iconst (v := (3 : Int32)) (by decide) d_W_grants_324 ?_
        refine r_icmp_ne (tgt := 678) d_W_grants_325 rfl (fun c => ?_) (fun c => ?_)
        · replace h := kr_ip c h
          refine r_iload_n (i := 2) (x := a2) 4 rfl d_W_grants_328 ?_
          refine r_iconst (v := (5 : Int32)) (by decide) d_W_grants_329 ?_
          have h2 := kr_ob2 h
          clear h
          obtain ⟨v102, S101, eS101, h⟩ := h2
          refine r_callS (M1 := m_W_some) (As := [.int a2, .int (5 : Int32)]) (s_W_some eS101) mok_W_some rfl w311 w312 (by decide) (kr_c8 kr_c0) d_W_grants_330 (kr_k1 ?_) kr_kn
          refine r_if_ne (tgt := 350) d_W_grants_333 rfl (fun c => ?_) (fun c => ?_)
          · replace h := kr_ip c h
            refine r_iload_n (i := 2) (x := a2) 4 rfl d_W_grants_336 ?_
            refine r_iconst (v := (2 : Int32)) (by decide) d_W_grants_337 ?_
            refine r_ishr d_W_grants_338 ?_
            refine r_aload_n (i := 3) (x := a3) 5 rfl d_W_grants_339 ?_
            refine r_iconst (v := (1 : Int32)) (by decide) d_W_grants_340 ?_
            have h2 := kr_ob h
            clear h
            obtain ⟨v103, ev103, h⟩ := h2
            refine r_iaload ev103 d_W_grants_341 ?_
            refine r_iconst (v := (1 : Int32)) (by decide) d_W_grants_342 ?_
            refine r_iadd d_W_grants_343 ?_
            have h2 := kr_ob2 h
            clear h
            obtain ⟨v105, S104, eS104, h⟩ := h2
            refine r_callS (M1 := m_W_some) (As := [.int (a2 >>> ((2 : Int32) &&& 31)), .int (v103 + (1 : Int32))]) (s_W_some eS104) mok_W_some rfl w311 w312 (by decide) (kr_c8 kr_c0) d_W_grants_344 (kr_k1 ?_) kr_kn
            refine r_goto (tgt := 369) d_W_grants_347 rfl ?_
            exact kr_sub [2, 4, 5, 6, 7, 8, 12, 1, 0] rfl (s_W_grants_B369 h)
          · replace h := kr_in_ c h
            refine r_aload_n (i := 3) (x := a3) 5 rfl d_W_grants_350 ?_
            refine r_iconst (v := (1 : Int32)) (by decide) d_W_grants_351 ?_
            have h2 := kr_ob h
            clear h
            obtain ⟨v106, ev106, h⟩ := h2
            refine r_iaload ev106 d_W_grants_352 ?_
            refine r_if_le (tgt := 368) d_W_grants_353 rfl (fun c => ?_) (fun c => ?_)
            · replace h := kr_ip c h
              refine r_iconst (v := (0 : Int32)) (by decide) d_W_grants_368 ?_
              exact kr_sub [2, 4, 5, 6, 7, 8, 12, 1, 0] rfl (s_W_grants_B369 h)
            · replace h := kr_in_ c h
              refine r_iload_n (i := 2) (x := a2) 4 rfl d_W_grants_356 ?_
              refine r_iconst (v := (2 : Int32)) (by decide) d_W_grants_357 ?_
              refine r_ishr d_W_grants_358 ?_
              refine r_aload_n (i := 3) (x := a3) 5 rfl d_W_grants_359 ?_
              refine r_iconst (v := (1 : Int32)) (by decide) d_W_grants_360 ?_
              have h2 := kr_ob h
              clear h
              obtain ⟨v107, ev107, h⟩ := h2
              refine r_iaload ev107 d_W_grants_361 ?_
              have h2 := kr_ob2 h
              clear h
              obtain ⟨v109, S108, eS108, h⟩ := h2
              refine r_callS (M1 := m_W_some) (As := [.int (a2 >>> ((2 : Int32) &&& 31)), .int v107]) (s_W_some eS108) mok_W_some rfl w311 w312 (by decide) (kr_c8 kr_c0) d_W_grants_362 (kr_k1 ?_) kr_kn
              refine r_goto (tgt := 369) d_W_grants_365 rfl ?_
              exact kr_sub [2, 4, 5, 6, 7, 8, 12, 1, 0] rfl (s_W_grants_B369 h)
        · replace h := kr_in_ c h
          refine r_iload_n (i := 2) (x := a2) 4 rfl d_W_grants_678 ?_
          refine r_iconst (v := (4 : Int32)) (by decide) d_W_grants_679 ?_
          have h2 := kr_ob2 h
          clear h
          obtain ⟨v111, S110, eS110, h⟩ := h2
          refine r_callS (M1 := m_W_some) (As := [.int a2, .int (4 : Int32)]) (s_W_some eS110) mok_W_some rfl w311 w312 (by decide) (kr_c8 kr_c0) d_W_grants_680 (kr_k1 ?_) kr_kn
          refine r_if_ne (tgt := 700) d_W_grants_683 rfl (fun c => ?_) (fun c => ?_)
          · replace h := kr_ip c h
            refine r_iload_n (i := 2) (x := a2) 4 rfl d_W_grants_686 ?_
            refine r_iconst (v := (3 : Int32)) (by decide) d_W_grants_687 ?_
            refine r_ishr d_W_grants_688 ?_
            refine r_aload_n (i := 3) (x := a3) 5 rfl d_W_grants_689 ?_
            refine r_iconst (v := (2 : Int32)) (by decide) d_W_grants_690 ?_
            have h2 := kr_ob h
            clear h
            obtain ⟨v112, ev112, h⟩ := h2
            refine r_iaload ev112 d_W_grants_691 ?_
            refine r_iconst (v := (1 : Int32)) (by decide) d_W_grants_692 ?_
            refine r_iadd d_W_grants_693 ?_
            have h2 := kr_ob2 h
            clear h
            obtain ⟨v114, S113, eS113, h⟩ := h2
            refine r_callS (M1 := m_W_some) (As := [.int (a2 >>> ((3 : Int32) &&& 31)), .int (v112 + (1 : Int32))]) (s_W_some eS113) mok_W_some rfl w311 w312 (by decide) (kr_c8 kr_c0) d_W_grants_694 (kr_k1 ?_) kr_kn
            refine r_goto (tgt := 719) d_W_grants_697 rfl ?_
            exact kr_sub [2, 5, 6, 8, 9, 10, 11] rfl (s_W_grants_B719 h)
          · replace h := kr_in_ c h
            refine r_aload_n (i := 3) (x := a3) 5 rfl d_W_grants_700 ?_
            refine r_iconst (v := (2 : Int32)) (by decide) d_W_grants_701 ?_
            have h2 := kr_ob h
            clear h
            obtain ⟨v115, ev115, h⟩ := h2
            refine r_iaload ev115 d_W_grants_702 ?_
            refine r_if_le (tgt := 718) d_W_grants_703 rfl (fun c => ?_) (fun c => ?_)
            · replace h := kr_ip c h
              refine r_iconst (v := (0 : Int32)) (by decide) d_W_grants_718 ?_
              exact kr_sub [2, 5, 6, 8, 9, 10, 11] rfl (s_W_grants_B719 h)
            · replace h := kr_in_ c h
              refine r_iload_n (i := 2) (x := a2) 4 rfl d_W_grants_706 ?_
              refine r_iconst (v := (3 : Int32)) (by decide) d_W_grants_707 ?_
              refine r_ishr d_W_grants_708 ?_
              refine r_aload_n (i := 3) (x := a3) 5 rfl d_W_grants_709 ?_
              refine r_iconst (v := (2 : Int32)) (by decide) d_W_grants_710 ?_
              have h2 := kr_ob h
              clear h
              obtain ⟨v116, ev116, h⟩ := h2
              refine r_iaload ev116 d_W_grants_711 ?_
              have h2 := kr_ob2 h
              clear h
              obtain ⟨v118, S117, eS117, h⟩ := h2
              refine r_callS (M1 := m_W_some) (As := [.int (a2 >>> ((3 : Int32) &&& 31)), .int v116]) (s_W_some eS117) mok_W_some rfl w311 w312 (by decide) (kr_c8 kr_c0) d_W_grants_712 (kr_k1 ?_) kr_kn
              refine r_goto (tgt := 719) d_W_grants_715 rfl ?_
              exact kr_sub [2, 5, 6, 8, 9, 10, 11] rfl (s_W_grants_B719 h)
/-! KeyringCourtLaw.isOut([I[II)Z -/
def f_W_isOut_B39 (S : AS) : Option (Int32 × AS) :=
  some ((1 : Int32), S)
def f_W_isOut (S : AS) (a0 : Option Nat) (a1 : Option Nat) (a2 : Int32) : Option (Int32 × AS) :=
  (aI S 40 a0 (5 : Int32)).bind fun v1 =>
  if v1 ≤ a2 then
  f_W_isOut_B39 S
  else
  (aI S 40 a1 ((2 : Int32) * a2)).bind fun v2 =>
  if v2 = (1 : Int32) then
  f_W_isOut_B39 S
  else
  (aI S 40 a1 (((2 : Int32) * a2) + (1 : Int32))).bind fun v3 =>
  if v3 ≤ 0 then
  some ((0 : Int32), S)
  else
  (aI S 40 a0 (0 : Int32)).bind fun v4 =>
  (aI S 40 a1 (((2 : Int32) * a2) + (1 : Int32))).bind fun v5 =>
  if v4 < v5 then
  some ((0 : Int32), S)
  else
  f_W_isOut_B39 S
set_option maxRecDepth 20000 in
set_option maxHeartbeats 4000000 in
theorem s_W_isOut_B39 {S : AS} {r : (Int32 × AS)} (h : f_W_isOut_B39 S = some r) : kr_AW m_W_isOut 0 39 [] [] S (kr_eI r) := by
  unfold f_W_isOut_B39 at h
  refine r_iconst (v := (1 : Int32)) (by decide) d_W_isOut_39 ?_
  refine r_goto (tgt := 44) d_W_isOut_40 rfl ?_
  cases h
  exact r_zret rfl rfl d_W_isOut_44
set_option maxRecDepth 20000 in
set_option maxHeartbeats 4000000 in
theorem s_W_isOut {S : AS} {a0 : Option Nat} {a1 : Option Nat} {a2 : Int32} {r : (Int32 × AS)} (h : f_W_isOut S a0 a1 a2 = some r) : kr_Con m_W_isOut 0 [va_rf a0, va_rf a1, .int a2] S (kr_eI r) := by
  refine kr_con rfl rfl (by decide +kernel) (by simp [lg_sl, kr_rfcat, kr_icat, m_W_isOut, mL]) ?_
  rw [show lv_args 0 [va_rf a0, va_rf a1, .int a2] = [(0, va_rf a0), (1, va_rf a1), (2, .int a2)] from by simp [lv_args, kr_rfcat, kr_icat]]
  unfold f_W_isOut at h
  refine r_iload_n (i := 2) (x := a2) 2 rfl d_W_isOut_0 ?_
  refine r_aload_n (i := 0) (x := a0) 0 rfl d_W_isOut_1 ?_
  refine r_iconst (v := (5 : Int32)) (by decide) d_W_isOut_2 ?_
  have h2 := kr_ob h
  clear h
  obtain ⟨v1, ev1, h⟩ := h2
  refine r_iaload ev1 d_W_isOut_3 ?_
  refine r_icmp_ge (tgt := 39) d_W_isOut_4 rfl (fun c => ?_) (fun c => ?_)
  · replace h := kr_ip c h
    exact kr_sub [] rfl (s_W_isOut_B39 h)
  · replace h := kr_in_ c h
    refine r_aload_n (i := 1) (x := a1) 1 rfl d_W_isOut_7 ?_
    refine r_iconst (v := (2 : Int32)) (by decide) d_W_isOut_8 ?_
    refine r_iload_n (i := 2) (x := a2) 2 rfl d_W_isOut_9 ?_
    refine r_imul d_W_isOut_10 ?_
    have h2 := kr_ob h
    clear h
    obtain ⟨v2, ev2, h⟩ := h2
    refine r_iaload ev2 d_W_isOut_11 ?_
    refine r_iconst (v := (1 : Int32)) (by decide) d_W_isOut_12 ?_
    refine r_icmp_eq (tgt := 39) d_W_isOut_13 rfl (fun c => ?_) (fun c => ?_)
    · replace h := kr_ip c h
      exact kr_sub [] rfl (s_W_isOut_B39 h)
    · replace h := kr_in_ c h
      refine r_aload_n (i := 1) (x := a1) 1 rfl d_W_isOut_16 ?_
      refine r_iconst (v := (2 : Int32)) (by decide) d_W_isOut_17 ?_
      refine r_iload_n (i := 2) (x := a2) 2 rfl d_W_isOut_18 ?_
      refine r_imul d_W_isOut_19 ?_
      refine r_iconst (v := (1 : Int32)) (by decide) d_W_isOut_20 ?_
      refine r_iadd d_W_isOut_21 ?_
      have h2 := kr_ob h
      clear h
      obtain ⟨v3, ev3, h⟩ := h2
      refine r_iaload ev3 d_W_isOut_22 ?_
      refine r_if_le (tgt := 43) d_W_isOut_23 rfl (fun c => ?_) (fun c => ?_)
      · replace h := kr_ip c h
        refine r_iconst (v := (0 : Int32)) (by decide) d_W_isOut_43 ?_
        cases h
        exact r_zret rfl rfl d_W_isOut_44
      · replace h := kr_in_ c h
        refine r_aload_n (i := 0) (x := a0) 0 rfl d_W_isOut_26 ?_
        refine r_iconst (v := (0 : Int32)) (by decide) d_W_isOut_27 ?_
        have h2 := kr_ob h
        clear h
        obtain ⟨v4, ev4, h⟩ := h2
        refine r_iaload ev4 d_W_isOut_28 ?_
        refine r_aload_n (i := 1) (x := a1) 1 rfl d_W_isOut_29 ?_
        refine r_iconst (v := (2 : Int32)) (by decide) d_W_isOut_30 ?_
        refine r_iload_n (i := 2) (x := a2) 2 rfl d_W_isOut_31 ?_
        refine r_imul d_W_isOut_32 ?_
        refine r_iconst (v := (1 : Int32)) (by decide) d_W_isOut_33 ?_
        refine r_iadd d_W_isOut_34 ?_
        have h2 := kr_ob h
        clear h
        obtain ⟨v5, ev5, h⟩ := h2
        refine r_iaload ev5 d_W_isOut_35 ?_
        refine r_icmp_lt (tgt := 43) d_W_isOut_36 rfl (fun c => ?_) (fun c => ?_)
        · replace h := kr_ip c h
          refine r_iconst (v := (0 : Int32)) (by decide) d_W_isOut_43 ?_
          cases h
          exact r_zret rfl rfl d_W_isOut_44
        · replace h := kr_in_ c h
          exact kr_sub [] rfl (s_W_isOut_B39 h)
/-! KeyringCourtLaw.checked([I[I[I[IIII)I -/
def f_W_checked_B124 (k96 : AS → Option Nat → Option Nat → Option Nat → Option Nat → Int32 → Int32 → Int32 → Int32 → Int32 → Int32 → Option (Int32 × AS)) (S : AS) (x0 : Option Nat) (x1 : Option Nat) (x2 : Option Nat) (x3 : Option Nat) (x4 : Int32) (x5 : Int32) (x6 : Int32) (x7 : Int32) (x9 : Int32) (y0 : Int32) (y1 : Int32) : Option (Int32 × AS) :=
  (some (y0 ||| y1)).bind fun i1 =>
  (some (x9 + (1 : Int32))).bind fun i2 =>
  k96 S x0 x1 x2 x3 x4 x5 x6 x7 i1 i2
def f_W_checked_B154 (S : AS) (x1 : Option Nat) (x3 : Option Nat) (x4 : Int32) (x5 : Int32) (x6 : Int32) (x7 : Int32) : Option (Int32 × AS) :=
  (aI S 40 x3 (((4 : Int32) * x4) + (1 : Int32))).bind fun v3 =>
  if ((v3 >>> (x7 &&& 31)) &&& (1 : Int32)) = 0 then
  some ((3 : Int32), S)
  else
  (aI S 40 x3 (((4 : Int32) * x4) + (3 : Int32))).bind fun v4 =>
  (aI S 40 x1 (((3 : Int32) * x5) + (1 : Int32))).bind fun v5 =>
  if ((v4 >>> ((v5 - v5 / (100 : Int32) * (100 : Int32)) &&& 31)) &&& (1 : Int32)) = (1 : Int32) then
  some ((4 : Int32), S)
  else
  (aI S 40 x1 ((3 : Int32) * x5)).bind fun v6 =>
  if (((v6 / (1000 : Int32)) >>> (x6 &&& 31)) &&& (1 : Int32)) = 0 then
  some ((5 : Int32), S)
  else
  some ((0 : Int32), S)
def f_W_checked_C96 (k96 : AS → Option Nat → Option Nat → Option Nat → Option Nat → Int32 → Int32 → Int32 → Int32 → Int32 → Int32 → Option (Int32 × AS)) (S : AS) (x0 : Option Nat) (x1 : Option Nat) (x2 : Option Nat) (x3 : Option Nat) (x4 : Int32) (x5 : Int32) (x6 : Int32) (x7 : Int32) (x8 : Int32) (x9 : Int32) : Option (Int32 × AS) :=
  (aI S 40 x0 (5 : Int32)).bind fun v7 =>
  if v7 ≤ x9 then
  (bI S x3 (((4 : Int32) * x4) + (1 : Int32)) x8).bind fun S8 =>
  (aI S8 40 x0 (0 : Int32)).bind fun v9 =>
  (bI S8 x3 (((4 : Int32) * x4) + (2 : Int32)) v9).bind fun S10 =>
  f_W_checked_B154 S10 x1 x3 x4 x5 x6 x7
  else
  kr_b2 (f_W_isOut S x0 x2 x9) fun v12 S11 =>
  if v12 = 0 then
  f_W_checked_B124 k96 S11 x0 x1 x2 x3 x4 x5 x6 x7 x9 x8 ((1 : Int32) <<< (x9 &&& 31))
  else
  f_W_checked_B124 k96 S11 x0 x1 x2 x3 x4 x5 x6 x7 x9 x8 (0 : Int32)
def f_W_checked_L96 : Nat → AS → Option Nat → Option Nat → Option Nat → Option Nat → Int32 → Int32 → Int32 → Int32 → Int32 → Int32 → Option (Int32 × AS)
  | 0, S, x0, x1, x2, x3, x4, x5, x6, x7, x8, x9 => none
  | n + 1, S, x0, x1, x2, x3, x4, x5, x6, x7, x8, x9 => f_W_checked_C96 (f_W_checked_L96 n) S x0 x1 x2 x3 x4 x5 x6 x7 x8 x9
def f_W_checked_B90 (S : AS) (x0 : Option Nat) (x1 : Option Nat) (x2 : Option Nat) (x3 : Option Nat) (x4 : Int32) (x5 : Int32) (x6 : Int32) (x7 : Int32) : Option (Int32 × AS) :=
  f_W_checked_L96 kr_FU S x0 x1 x2 x3 x4 x5 x6 x7 (0 : Int32) (0 : Int32)
def f_W_checked (S : AS) (a0 : Option Nat) (a1 : Option Nat) (a2 : Option Nat) (a3 : Option Nat) (a4 : Int32) (a5 : Int32) (a6 : Int32) : Option (Int32 × AS) :=
  (aI S 40 a1 (((3 : Int32) * a5) + (1 : Int32))).bind fun v13 =>
  (some (v13 / (100 : Int32))).bind fun i14 =>
  (aI S 40 a1 ((3 : Int32) * a5)).bind fun v15 =>
  (some (v15 / (10 : Int32))).bind fun i16 =>
  if (i16 - i16 / (10 : Int32) * (10 : Int32)) = a4 then
  (aI S 40 a1 (((3 : Int32) * a5) + (2 : Int32))).bind fun v17 =>
  (aI S 40 a0 (0 : Int32)).bind fun v18 =>
  if v18 ≤ v17 then
  (aI S 40 a3 ((4 : Int32) * a4)).bind fun v19 =>
  if v19 = 0 then
  (aI S 40 a3 (((4 : Int32) * a4) + (2 : Int32))).bind fun v20 =>
  (aI S 40 a0 (0 : Int32)).bind fun v21 =>
  if (v20 + (15 : Int32)) < v21 then
  f_W_checked_B90 S a0 a1 a2 a3 a4 a5 a6 i14
  else
  (aI S 40 a3 (((4 : Int32) * a4) + (1 : Int32))).bind fun v22 =>
  if ((v22 >>> (i14 &&& 31)) &&& (1 : Int32)) = 0 then
  f_W_checked_B90 S a0 a1 a2 a3 a4 a5 a6 i14
  else
  f_W_checked_B154 S a1 a3 a4 a5 a6 i14
  else
  f_W_checked_B154 S a1 a3 a4 a5 a6 i14
  else
  some ((2 : Int32), S)
  else
  some ((1 : Int32), S)
set_option maxRecDepth 20000 in
set_option maxHeartbeats 4000000 in
theorem s_W_checked_B124 {k96 : AS → Option Nat → Option Nat → Option Nat → Option Nat → Int32 → Int32 → Int32 → Int32 → Int32 → Int32 → Option (Int32 × AS)} (hk96 : ∀ {S : AS} {x0 : Option Nat} {x1 : Option Nat} {x2 : Option Nat} {x3 : Option Nat} {x4 : Int32} {x5 : Int32} {x6 : Int32} {x7 : Int32} {x8 : Int32} {x9 : Int32} {r : (Int32 × AS)}, k96 S x0 x1 x2 x3 x4 x5 x6 x7 x8 x9 = some r → kr_AW m_W_checked 1 96 [(0, va_rf x0), (1, va_rf x1), (2, va_rf x2), (3, va_rf x3), (4, .int x4), (5, .int x5), (6, .int x6), (7, .int x7), (8, .int x8), (9, .int x9)] [] S (kr_eI r)) {S : AS} {x0 : Option Nat} {x1 : Option Nat} {x2 : Option Nat} {x3 : Option Nat} {x4 : Int32} {x5 : Int32} {x6 : Int32} {x7 : Int32} {x9 : Int32} {y0 : Int32} {y1 : Int32} {r : (Int32 × AS)} (h : f_W_checked_B124 k96 S x0 x1 x2 x3 x4 x5 x6 x7 x9 y0 y1 = some r) : kr_AW m_W_checked 1 124 [(0, va_rf x0), (1, va_rf x1), (2, va_rf x2), (3, va_rf x3), (4, .int x4), (5, .int x5), (6, .int x6), (7, .int x7), (9, .int x9)] [.int y1, .int y0] S (kr_eI r) := by
  unfold f_W_checked_B124 at h
  refine r_ior d_W_checked_124 ?_
  have h2 := kr_ob h
  clear h
  obtain ⟨i1, ei1, h⟩ := h2
  refine kr_nmI ei1 ?_
  refine r_istore (i := 8) (lv' := [(8, .int i1), (0, va_rf x0), (1, va_rf x1), (2, va_rf x2), (3, va_rf x3), (4, .int x4), (5, .int x5), (6, .int x6), (7, .int x7), (9, .int x9)]) (by decide) rfl d_W_checked_125 ?_
  have h2 := kr_ob h
  clear h
  obtain ⟨i2, ei2, h⟩ := h2
  refine r_iinc (v := i2) (lv' := [(9, .int i2), (8, .int i1), (0, va_rf x0), (1, va_rf x1), (2, va_rf x2), (3, va_rf x3), (4, .int x4), (5, .int x5), (6, .int x6), (7, .int x7)]) 9 rfl (kr_inc (by decide) ei2) (by decide) rfl d_W_checked_127 ?_
  refine r_goto (tgt := 96) d_W_checked_130 rfl ?_
  exact kr_sub [2, 3, 4, 5, 6, 7, 8, 9, 1, 0] rfl (hk96 h)
set_option maxRecDepth 20000 in
set_option maxHeartbeats 4000000 in
theorem s_W_checked_B154 {S : AS} {x1 : Option Nat} {x3 : Option Nat} {x4 : Int32} {x5 : Int32} {x6 : Int32} {x7 : Int32} {r : (Int32 × AS)} (h : f_W_checked_B154 S x1 x3 x4 x5 x6 x7 = some r) : kr_AW m_W_checked 1 154 [(1, va_rf x1), (3, va_rf x3), (4, .int x4), (5, .int x5), (6, .int x6), (7, .int x7)] [] S (kr_eI r) := by
  unfold f_W_checked_B154 at h
  refine r_aload_n (i := 3) (x := x3) 1 rfl d_W_checked_154 ?_
  refine r_iconst (v := (4 : Int32)) (by decide) d_W_checked_155 ?_
  refine r_iload (i := 4) (x := x4) 2 rfl d_W_checked_156 ?_
  refine r_imul d_W_checked_158 ?_
  refine r_iconst (v := (1 : Int32)) (by decide) d_W_checked_159 ?_
  refine r_iadd d_W_checked_160 ?_
  have h2 := kr_ob h
  clear h
  obtain ⟨v3, ev3, h⟩ := h2
  refine r_iaload ev3 d_W_checked_161 ?_
  refine r_iload (i := 7) (x := x7) 5 rfl d_W_checked_162 ?_
  refine r_ishr d_W_checked_164 ?_
  refine r_iconst (v := (1 : Int32)) (by decide) d_W_checked_165 ?_
  refine r_iand d_W_checked_166 ?_
  refine r_if_ne (tgt := 174) d_W_checked_167 rfl (fun c => ?_) (fun c => ?_)
  · replace h := kr_ip c h
    refine r_iconst (v := (3 : Int32)) (by decide) d_W_checked_170 ?_
    refine r_goto (tgt := 227) d_W_checked_171 rfl ?_
    cases h
    exact r_iret rfl d_W_checked_227
  · replace h := kr_in_ c h
    refine r_aload_n (i := 3) (x := x3) 1 rfl d_W_checked_174 ?_
    refine r_iconst (v := (4 : Int32)) (by decide) d_W_checked_175 ?_
    refine r_iload (i := 4) (x := x4) 2 rfl d_W_checked_176 ?_
    refine r_imul d_W_checked_178 ?_
    refine r_iconst (v := (3 : Int32)) (by decide) d_W_checked_179 ?_
    refine r_iadd d_W_checked_180 ?_
    have h2 := kr_ob h
    clear h
    obtain ⟨v4, ev4, h⟩ := h2
    refine r_iaload ev4 d_W_checked_181 ?_
    refine r_aload_n (i := 1) (x := x1) 0 rfl d_W_checked_182 ?_
    refine r_iconst (v := (3 : Int32)) (by decide) d_W_checked_183 ?_
    refine r_iload (i := 5) (x := x5) 3 rfl d_W_checked_184 ?_
    refine r_imul d_W_checked_186 ?_
    refine r_iconst (v := (1 : Int32)) (by decide) d_W_checked_187 ?_
    refine r_iadd d_W_checked_188 ?_
    have h2 := kr_ob h
    clear h
    obtain ⟨v5, ev5, h⟩ := h2
    refine r_iaload ev5 d_W_checked_189 ?_
    refine r_bipush (v := (100 : Int32)) (by decide) d_W_checked_190 ?_
    refine r_irem (by decide) d_W_checked_192 ?_
    refine r_ishr d_W_checked_193 ?_
    refine r_iconst (v := (1 : Int32)) (by decide) d_W_checked_194 ?_
    refine r_iand d_W_checked_195 ?_
    refine r_iconst (v := (1 : Int32)) (by decide) d_W_checked_196 ?_
    refine r_icmp_ne (tgt := 204) d_W_checked_197 rfl (fun c => ?_) (fun c => ?_)
    · replace h := kr_ip c h
      refine r_iconst (v := (4 : Int32)) (by decide) d_W_checked_200 ?_
      refine r_goto (tgt := 227) d_W_checked_201 rfl ?_
      cases h
      exact r_iret rfl d_W_checked_227
    · replace h := kr_in_ c h
      refine r_aload_n (i := 1) (x := x1) 0 rfl d_W_checked_204 ?_
      refine r_iconst (v := (3 : Int32)) (by decide) d_W_checked_205 ?_
      refine r_iload (i := 5) (x := x5) 3 rfl d_W_checked_206 ?_
      refine r_imul d_W_checked_208 ?_
      have h2 := kr_ob h
      clear h
      obtain ⟨v6, ev6, h⟩ := h2
      refine r_iaload ev6 d_W_checked_209 ?_
      refine r_sipush (v := (1000 : Int32)) (by decide) d_W_checked_210 ?_
      refine r_idiv (by decide) d_W_checked_213 ?_
      refine r_iload (i := 6) (x := x6) 4 rfl d_W_checked_214 ?_
      refine r_ishr d_W_checked_216 ?_
      refine r_iconst (v := (1 : Int32)) (by decide) d_W_checked_217 ?_
      refine r_iand d_W_checked_218 ?_
      refine r_if_ne (tgt := 226) d_W_checked_219 rfl (fun c => ?_) (fun c => ?_)
      · replace h := kr_ip c h
        refine r_iconst (v := (5 : Int32)) (by decide) d_W_checked_222 ?_
        refine r_goto (tgt := 227) d_W_checked_223 rfl ?_
        cases h
        exact r_iret rfl d_W_checked_227
      · replace h := kr_in_ c h
        refine r_iconst (v := (0 : Int32)) (by decide) d_W_checked_226 ?_
        cases h
        exact r_iret rfl d_W_checked_227
set_option maxRecDepth 20000 in
set_option maxHeartbeats 4000000 in
theorem s_W_checked_C96 {k96 : AS → Option Nat → Option Nat → Option Nat → Option Nat → Int32 → Int32 → Int32 → Int32 → Int32 → Int32 → Option (Int32 × AS)} (hk96 : ∀ {S : AS} {x0 : Option Nat} {x1 : Option Nat} {x2 : Option Nat} {x3 : Option Nat} {x4 : Int32} {x5 : Int32} {x6 : Int32} {x7 : Int32} {x8 : Int32} {x9 : Int32} {r : (Int32 × AS)}, k96 S x0 x1 x2 x3 x4 x5 x6 x7 x8 x9 = some r → kr_AW m_W_checked 1 96 [(0, va_rf x0), (1, va_rf x1), (2, va_rf x2), (3, va_rf x3), (4, .int x4), (5, .int x5), (6, .int x6), (7, .int x7), (8, .int x8), (9, .int x9)] [] S (kr_eI r)) {S : AS} {x0 : Option Nat} {x1 : Option Nat} {x2 : Option Nat} {x3 : Option Nat} {x4 : Int32} {x5 : Int32} {x6 : Int32} {x7 : Int32} {x8 : Int32} {x9 : Int32} {r : (Int32 × AS)} (h : f_W_checked_C96 k96 S x0 x1 x2 x3 x4 x5 x6 x7 x8 x9 = some r) : kr_AW m_W_checked 1 96 [(0, va_rf x0), (1, va_rf x1), (2, va_rf x2), (3, va_rf x3), (4, .int x4), (5, .int x5), (6, .int x6), (7, .int x7), (8, .int x8), (9, .int x9)] [] S (kr_eI r) := by
  unfold f_W_checked_C96 at h
  refine r_iload (i := 9) (x := x9) 9 rfl d_W_checked_96 ?_
  refine r_aload_n (i := 0) (x := x0) 0 rfl d_W_checked_98 ?_
  refine r_iconst (v := (5 : Int32)) (by decide) d_W_checked_99 ?_
  have h2 := kr_ob h
  clear h
  obtain ⟨v7, ev7, h⟩ := h2
  refine r_iaload ev7 d_W_checked_100 ?_
  refine r_icmp_ge (tgt := 133) d_W_checked_101 rfl (fun c => ?_) (fun c => ?_)
  · replace h := kr_ip c h
    refine r_aload_n (i := 3) (x := x3) 3 rfl d_W_checked_133 ?_
    refine r_iconst (v := (4 : Int32)) (by decide) d_W_checked_134 ?_
    refine r_iload (i := 4) (x := x4) 4 rfl d_W_checked_135 ?_
    refine r_imul d_W_checked_137 ?_
    refine r_iconst (v := (1 : Int32)) (by decide) d_W_checked_138 ?_
    refine r_iadd d_W_checked_139 ?_
    refine r_iload (i := 8) (x := x8) 8 rfl d_W_checked_140 ?_
    have h2 := kr_ob h
    clear h
    obtain ⟨S8, eS8, h⟩ := h2
    refine r_iastore eS8 d_W_checked_142 ?_
    refine r_aload_n (i := 3) (x := x3) 3 rfl d_W_checked_143 ?_
    refine r_iconst (v := (4 : Int32)) (by decide) d_W_checked_144 ?_
    refine r_iload (i := 4) (x := x4) 4 rfl d_W_checked_145 ?_
    refine r_imul d_W_checked_147 ?_
    refine r_iconst (v := (2 : Int32)) (by decide) d_W_checked_148 ?_
    refine r_iadd d_W_checked_149 ?_
    refine r_aload_n (i := 0) (x := x0) 0 rfl d_W_checked_150 ?_
    refine r_iconst (v := (0 : Int32)) (by decide) d_W_checked_151 ?_
    have h2 := kr_ob h
    clear h
    obtain ⟨v9, ev9, h⟩ := h2
    refine r_iaload ev9 d_W_checked_152 ?_
    have h2 := kr_ob h
    clear h
    obtain ⟨S10, eS10, h⟩ := h2
    refine r_iastore eS10 d_W_checked_153 ?_
    exact kr_sub [1, 3, 4, 5, 6, 7] rfl (s_W_checked_B154 h)
  · replace h := kr_in_ c h
    refine r_iload (i := 8) (x := x8) 8 rfl d_W_checked_104 ?_
    refine r_aload_n (i := 0) (x := x0) 0 rfl d_W_checked_106 ?_
    refine r_aload_n (i := 2) (x := x2) 2 rfl d_W_checked_107 ?_
    refine r_iload (i := 9) (x := x9) 9 rfl d_W_checked_108 ?_
    have h2 := kr_ob2 h
    clear h
    obtain ⟨v12, S11, eS11, h⟩ := h2
    refine r_callS (M1 := m_W_isOut) (As := [va_rf x0, va_rf x2, .int x9]) (s_W_isOut eS11) mok_W_isOut rfl w1345 w1346 (by decide) (kr_c8 (kr_cI kr_c0)) d_W_checked_110 (kr_k1 ?_) kr_kn
    refine r_if_eq (tgt := 120) d_W_checked_113 rfl (fun c => ?_) (fun c => ?_)
    · replace h := kr_ip c h
      refine r_iconst (v := (1 : Int32)) (by decide) d_W_checked_120 ?_
      refine r_iload (i := 9) (x := x9) 9 rfl d_W_checked_121 ?_
      refine r_ishl d_W_checked_123 ?_
      exact kr_sub [0, 1, 2, 3, 4, 5, 6, 7, 9] rfl (s_W_checked_B124 hk96 h)
    · replace h := kr_in_ c h
      refine r_iconst (v := (0 : Int32)) (by decide) d_W_checked_116 ?_
      refine r_goto (tgt := 124) d_W_checked_117 rfl ?_
      exact kr_sub [0, 1, 2, 3, 4, 5, 6, 7, 9] rfl (s_W_checked_B124 hk96 h)
theorem s_W_checked_L96 (n : Nat) : ∀ {S : AS} {x0 : Option Nat} {x1 : Option Nat} {x2 : Option Nat} {x3 : Option Nat} {x4 : Int32} {x5 : Int32} {x6 : Int32} {x7 : Int32} {x8 : Int32} {x9 : Int32} {r : (Int32 × AS)}, f_W_checked_L96 n S x0 x1 x2 x3 x4 x5 x6 x7 x8 x9 = some r → kr_AW m_W_checked 1 96 [(0, va_rf x0), (1, va_rf x1), (2, va_rf x2), (3, va_rf x3), (4, .int x4), (5, .int x5), (6, .int x6), (7, .int x7), (8, .int x8), (9, .int x9)] [] S (kr_eI r) := by
  induction n with
  | zero => intro S x0 x1 x2 x3 x4 x5 x6 x7 x8 x9 r h; cases h
  | succ n ih => intro S x0 x1 x2 x3 x4 x5 x6 x7 x8 x9 r h; exact s_W_checked_C96 (fun {_} {_} {_} {_} {_} {_} {_} {_} {_} {_} {_} {_} h => ih h) h
set_option maxRecDepth 20000 in
set_option maxHeartbeats 4000000 in
theorem s_W_checked_B90 {S : AS} {x0 : Option Nat} {x1 : Option Nat} {x2 : Option Nat} {x3 : Option Nat} {x4 : Int32} {x5 : Int32} {x6 : Int32} {x7 : Int32} {r : (Int32 × AS)} (h : f_W_checked_B90 S x0 x1 x2 x3 x4 x5 x6 x7 = some r) : kr_AW m_W_checked 1 90 [(0, va_rf x0), (1, va_rf x1), (2, va_rf x2), (3, va_rf x3), (4, .int x4), (5, .int x5), (6, .int x6), (7, .int x7)] [] S (kr_eI r) := by
  unfold f_W_checked_B90 at h
  refine r_iconst (v := (0 : Int32)) (by decide) d_W_checked_90 ?_
  refine r_istore (i := 8) (lv' := [(8, .int (0 : Int32)), (0, va_rf x0), (1, va_rf x1), (2, va_rf x2), (3, va_rf x3), (4, .int x4), (5, .int x5), (6, .int x6), (7, .int x7)]) (by decide) rfl d_W_checked_91 ?_
  refine r_iconst (v := (0 : Int32)) (by decide) d_W_checked_93 ?_
  refine r_istore (i := 9) (lv' := [(9, .int (0 : Int32)), (8, .int (0 : Int32)), (0, va_rf x0), (1, va_rf x1), (2, va_rf x2), (3, va_rf x3), (4, .int x4), (5, .int x5), (6, .int x6), (7, .int x7)]) (by decide) rfl d_W_checked_94 ?_
  exact kr_sub [2, 3, 4, 5, 6, 7, 8, 9, 1, 0] rfl (s_W_checked_L96 kr_FU h)
set_option maxRecDepth 20000 in
set_option maxHeartbeats 4000000 in
theorem s_W_checked {S : AS} {a0 : Option Nat} {a1 : Option Nat} {a2 : Option Nat} {a3 : Option Nat} {a4 : Int32} {a5 : Int32} {a6 : Int32} {r : (Int32 × AS)} (h : f_W_checked S a0 a1 a2 a3 a4 a5 a6 = some r) : kr_Con m_W_checked 1 [va_rf a0, va_rf a1, va_rf a2, va_rf a3, .int a4, .int a5, .int a6] S (kr_eI r) := by
  refine kr_con rfl rfl (by decide +kernel) (by simp [lg_sl, kr_rfcat, kr_icat, m_W_checked, mL]) ?_
  rw [show lv_args 0 [va_rf a0, va_rf a1, va_rf a2, va_rf a3, .int a4, .int a5, .int a6] = [(0, va_rf a0), (1, va_rf a1), (2, va_rf a2), (3, va_rf a3), (4, .int a4), (5, .int a5), (6, .int a6)] from by simp [lv_args, kr_rfcat, kr_icat]]
  unfold f_W_checked at h
  refine r_aload_n (i := 1) (x := a1) 1 rfl d_W_checked_0 ?_
  refine r_iconst (v := (3 : Int32)) (by decide) d_W_checked_1 ?_
  refine r_iload (i := 5) (x := a5) 5 rfl d_W_checked_2 ?_
  refine r_imul d_W_checked_4 ?_
  refine r_iconst (v := (1 : Int32)) (by decide) d_W_checked_5 ?_
  refine r_iadd d_W_checked_6 ?_
  have h2 := kr_ob h
  clear h
  obtain ⟨v13, ev13, h⟩ := h2
  refine r_iaload ev13 d_W_checked_7 ?_
  refine r_bipush (v := (100 : Int32)) (by decide) d_W_checked_8 ?_
  refine r_idiv (by decide) d_W_checked_10 ?_
  have h2 := kr_ob h
  clear h
  obtain ⟨i14, ei14, h⟩ := h2
  refine kr_nmI ei14 ?_
  refine r_istore (i := 7) (lv' := [(7, .int i14), (0, va_rf a0), (1, va_rf a1), (2, va_rf a2), (3, va_rf a3), (4, .int a4), (5, .int a5), (6, .int a6)]) (by decide) rfl d_W_checked_11 ?_
  refine r_aload_n (i := 1) (x := a1) 2 rfl d_W_checked_13 ?_
  refine r_iconst (v := (3 : Int32)) (by decide) d_W_checked_14 ?_
  refine r_iload (i := 5) (x := a5) 6 rfl d_W_checked_15 ?_
  refine r_imul d_W_checked_17 ?_
  have h2 := kr_ob h
  clear h
  obtain ⟨v15, ev15, h⟩ := h2
  refine r_iaload ev15 d_W_checked_18 ?_
  refine r_bipush (v := (10 : Int32)) (by decide) d_W_checked_19 ?_
  refine r_idiv (by decide) d_W_checked_21 ?_
  refine r_bipush (v := (10 : Int32)) (by decide) d_W_checked_22 ?_
  have h2 := kr_ob h
  clear h
  obtain ⟨i16, ei16, h⟩ := h2
  refine kr_nmI2 ei16 ?_
  refine r_irem (by decide) d_W_checked_24 ?_
  refine r_iload (i := 4) (x := a4) 5 rfl d_W_checked_25 ?_
  refine r_icmp_eq (tgt := 32) d_W_checked_27 rfl (fun c => ?_) (fun c => ?_)
  · replace h := kr_ip c h
    refine r_aload_n (i := 1) (x := a1) 2 rfl d_W_checked_32 ?_
    refine r_iconst (v := (3 : Int32)) (by decide) d_W_checked_33 ?_
    refine r_iload (i := 5) (x := a5) 6 rfl d_W_checked_34 ?_
    refine r_imul d_W_checked_36 ?_
    refine r_iconst (v := (2 : Int32)) (by decide) d_W_checked_37 ?_
    refine r_iadd d_W_checked_38 ?_
    have h2 := kr_ob h
    clear h
    obtain ⟨v17, ev17, h⟩ := h2
    refine r_iaload ev17 d_W_checked_39 ?_
    refine r_aload_n (i := 0) (x := a0) 1 rfl d_W_checked_40 ?_
    refine r_iconst (v := (0 : Int32)) (by decide) d_W_checked_41 ?_
    have h2 := kr_ob h
    clear h
    obtain ⟨v18, ev18, h⟩ := h2
    refine r_iaload ev18 d_W_checked_42 ?_
    refine r_icmp_ge (tgt := 48) d_W_checked_43 rfl (fun c => ?_) (fun c => ?_)
    · replace h := kr_ip c h
      refine r_aload_n (i := 3) (x := a3) 4 rfl d_W_checked_48 ?_
      refine r_iconst (v := (4 : Int32)) (by decide) d_W_checked_49 ?_
      refine r_iload (i := 4) (x := a4) 5 rfl d_W_checked_50 ?_
      refine r_imul d_W_checked_52 ?_
      have h2 := kr_ob h
      clear h
      obtain ⟨v19, ev19, h⟩ := h2
      refine r_iaload ev19 d_W_checked_53 ?_
      refine r_if_ne (tgt := 154) d_W_checked_54 rfl (fun c => ?_) (fun c => ?_)
      · replace h := kr_ip c h
        refine r_aload_n (i := 3) (x := a3) 4 rfl d_W_checked_57 ?_
        refine r_iconst (v := (4 : Int32)) (by decide) d_W_checked_58 ?_
        refine r_iload (i := 4) (x := a4) 5 rfl d_W_checked_59 ?_
        refine r_imul d_W_checked_61 ?_
        refine r_iconst (v := (2 : Int32)) (by decide) d_W_checked_62 ?_
        refine r_iadd d_W_checked_63 ?_
        have h2 := kr_ob h
        clear h
        obtain ⟨v20, ev20, h⟩ := h2
        refine r_iaload ev20 d_W_checked_64 ?_
        refine r_bipush (v := (15 : Int32)) (by decide) d_W_checked_65 ?_
        refine r_iadd d_W_checked_67 ?_
        refine r_aload_n (i := 0) (x := a0) 1 rfl d_W_checked_68 ?_
        refine r_iconst (v := (0 : Int32)) (by decide) d_W_checked_69 ?_
        have h2 := kr_ob h
        clear h
        obtain ⟨v21, ev21, h⟩ := h2
        refine r_iaload ev21 d_W_checked_70 ?_
        refine r_icmp_lt (tgt := 90) d_W_checked_71 rfl (fun c => ?_) (fun c => ?_)
        · replace h := kr_ip c h
          exact kr_sub [1, 2, 3, 4, 5, 6, 7, 0] rfl (s_W_checked_B90 h)
        · replace h := kr_in_ c h
          refine r_aload_n (i := 3) (x := a3) 4 rfl d_W_checked_74 ?_
          refine r_iconst (v := (4 : Int32)) (by decide) d_W_checked_75 ?_
          refine r_iload (i := 4) (x := a4) 5 rfl d_W_checked_76 ?_
          refine r_imul d_W_checked_78 ?_
          refine r_iconst (v := (1 : Int32)) (by decide) d_W_checked_79 ?_
          refine r_iadd d_W_checked_80 ?_
          have h2 := kr_ob h
          clear h
          obtain ⟨v22, ev22, h⟩ := h2
          refine r_iaload ev22 d_W_checked_81 ?_
          refine r_iload (i := 7) (x := i14) 0 rfl d_W_checked_82 ?_
          refine r_ishr d_W_checked_84 ?_
          refine r_iconst (v := (1 : Int32)) (by decide) d_W_checked_85 ?_
          refine r_iand d_W_checked_86 ?_
          refine r_if_ne (tgt := 154) d_W_checked_87 rfl (fun c => ?_) (fun c => ?_)
          · replace h := kr_ip c h
            exact kr_sub [1, 2, 3, 4, 5, 6, 7, 0] rfl (s_W_checked_B90 h)
          · replace h := kr_in_ c h
            exact kr_sub [2, 4, 5, 6, 7, 0] rfl (s_W_checked_B154 h)
      · replace h := kr_in_ c h
        exact kr_sub [2, 4, 5, 6, 7, 0] rfl (s_W_checked_B154 h)
    · replace h := kr_in_ c h
      refine r_iconst (v := (2 : Int32)) (by decide) d_W_checked_46 ?_
      cases h
      exact r_iret rfl d_W_checked_47
  · replace h := kr_in_ c h
    refine r_iconst (v := (1 : Int32)) (by decide) d_W_checked_30 ?_
    cases h
    exact r_iret rfl d_W_checked_31
/-! KeyringCourtLaw.tokens(LKeyringCourt;II[I[I[I[I[I[I[I[I[I)Z -/
def f_W_tokens_B356 (S : AS) (x0 : Option Nat) (x12 : Int32) (x15 : Int32) (x17 : Int32) : Option (Int32 × AS) :=
  kr_b2 (f_W_twog S x0 (5 : Int32) x12 x15) fun v2 S1 =>
  if v2 = x17 then
  some ((1 : Int32), S1)
  else
  some ((0 : Int32), S1)
def f_W_tokens_B333 (S : AS) (x0 : Option Nat) (x3 : Option Nat) (x7 : Option Nat) (x8 : Option Nat) (x10 : Option Nat) (x12 : Int32) (x15 : Int32) (x16 : Int32) (x17 : Int32) : Option (Int32 × AS) :=
  if x16 = 0 then
  f_W_tokens_B356 S x0 x12 x15 x17
  else
  if x17 = (-1 : Int32) then
  (f_W_endFamily S x3 x7 x8 x10 x12).bind fun S3 =>
  f_W_tokens_B356 S3 x0 x12 x15 x17
  else
  f_W_tokens_B356 S x0 x12 x15 x17
def f_W_tokens_B239 (S : AS) (x0 : Option Nat) (x3 : Option Nat) (x4 : Option Nat) (x6 : Option Nat) (x7 : Option Nat) (x8 : Option Nat) (x10 : Option Nat) (x12 : Int32) (x14 : Int32) (x15 : Int32) (x16 : Int32) (y0 : Int32) : Option (Int32 × AS) :=
  if x16 = 0 then
  f_W_tokens_B333 S x0 x3 x7 x8 x10 x12 x15 x16 y0
  else
  if x15 = x14 then
  (some (((5 : Int32) * x12) + (1 : Int32))).bind fun i4 =>
  (aI S 40 x7 i4).bind fun v5 =>
  (bI S x7 i4 (v5 + (1 : Int32))).bind fun S6 =>
  (aI S6 40 x3 (0 : Int32)).bind fun v7 =>
  (bI S6 x7 (((5 : Int32) * x12) + (2 : Int32)) v7).bind fun S8 =>
  (aI S8 40 x7 ((5 : Int32) * x12)).bind fun v9 =>
  (aI S8 40 x6 ((6 : Int32) * v9)).bind fun v10 =>
  (aI S8 40 x3 (0 : Int32)).bind fun v11 =>
  (bI S8 x4 (((4 : Int32) * v10) + (2 : Int32)) v11).bind fun S12 =>
  (aI S12 40 x7 ((5 : Int32) * x12)).bind fun v13 =>
  kr_b2 (f_W_what S12 x6 v13) fun v15 S14 =>
  (aI S14 40 x3 (0 : Int32)).bind fun v16 =>
  kr_b2 (f_W_makes S14 x3 x7 x8 x12 v15 (v16 + (10 : Int32))) fun v18 S17 =>
  f_W_tokens_B356 S17 x0 x12 x15 y0
  else
  f_W_tokens_B333 S x0 x3 x7 x8 x10 x12 x15 x16 y0
def f_W_tokens_B238 (S : AS) (x0 : Option Nat) (x3 : Option Nat) (x4 : Option Nat) (x6 : Option Nat) (x7 : Option Nat) (x8 : Option Nat) (x10 : Option Nat) (x12 : Int32) (x14 : Int32) (x15 : Int32) (x16 : Int32) : Option (Int32 × AS) :=
  f_W_tokens_B239 S x0 x3 x4 x6 x7 x8 x10 x12 x14 x15 x16 (-1 : Int32)
def f_W_tokens_B160 (S : AS) (x0 : Option Nat) (x3 : Option Nat) (x4 : Option Nat) (x6 : Option Nat) (x7 : Option Nat) (x8 : Option Nat) (x10 : Option Nat) (x12 : Int32) (x13 : Int32) (x14 : Int32) (x15 : Int32) (x16 : Int32) : Option (Int32 × AS) :=
  if x13 = 0 then
  f_W_tokens_B239 S x0 x3 x4 x6 x7 x8 x10 x12 x14 x15 x16 (-1001 : Int32)
  else
  if x15 ≤ x14 then
  if x16 = 0 then
  f_W_tokens_B239 S x0 x3 x4 x6 x7 x8 x10 x12 x14 x15 x16 (-1 : Int32)
  else
  if x15 = x14 then
  f_W_tokens_B239 S x0 x3 x4 x6 x7 x8 x10 x12 x14 x15 x16 (x14 + (1 : Int32))
  else
  if x15 = (x14 - (1 : Int32)) then
  (aI S 40 x3 (0 : Int32)).bind fun v19 =>
  (aI S 40 x7 (((5 : Int32) * x12) + (2 : Int32))).bind fun v20 =>
  if (2 : Int32) ≤ (v19 - v20) then
  f_W_tokens_B238 S x0 x3 x4 x6 x7 x8 x10 x12 x14 x15 x16
  else
  f_W_tokens_B239 S x0 x3 x4 x6 x7 x8 x10 x12 x14 x15 x16 x14
  else
  f_W_tokens_B238 S x0 x3 x4 x6 x7 x8 x10 x12 x14 x15 x16
  else
  f_W_tokens_B239 S x0 x3 x4 x6 x7 x8 x10 x12 x14 x15 x16 (-1002 : Int32)
def f_W_tokens_B136 (S : AS) (x0 : Option Nat) (x3 : Option Nat) (x4 : Option Nat) (x6 : Option Nat) (x7 : Option Nat) (x8 : Option Nat) (x10 : Option Nat) (x12 : Int32) (x13 : Int32) (x14 : Int32) (x15 : Int32) (y0 : Int32) : Option (Int32 × AS) :=
  if y0 = 0 then
  f_W_tokens_B160 S x0 x3 x4 x6 x7 x8 x10 x12 x13 x14 x15 y0
  else
  if x15 = x14 then
  (aI S 40 x3 (4 : Int32)).bind fun v21 =>
  if v21 = (20 : Int32) then
  some ((1 : Int32), S)
  else
  f_W_tokens_B160 S x0 x3 x4 x6 x7 x8 x10 x12 x13 x14 x15 y0
  else
  f_W_tokens_B160 S x0 x3 x4 x6 x7 x8 x10 x12 x13 x14 x15 y0
def f_W_tokens_B135 (S : AS) (x0 : Option Nat) (x3 : Option Nat) (x4 : Option Nat) (x6 : Option Nat) (x7 : Option Nat) (x8 : Option Nat) (x10 : Option Nat) (x12 : Int32) (x13 : Int32) (x14 : Int32) (x15 : Int32) : Option (Int32 × AS) :=
  f_W_tokens_B136 S x0 x3 x4 x6 x7 x8 x10 x12 x13 x14 x15 (0 : Int32)
def f_W_tokens_B86 (S : AS) (x0 : Option Nat) (x3 : Option Nat) (x4 : Option Nat) (x6 : Option Nat) (x7 : Option Nat) (x8 : Option Nat) (x10 : Option Nat) (x12 : Int32) (x13 : Int32) (x14 : Int32) (y0 : Int32) : Option (Int32 × AS) :=
  if x13 = 0 then
  f_W_tokens_B135 S x0 x3 x4 x6 x7 x8 x10 x12 x13 x14 y0
  else
  (aI S 40 x7 (((5 : Int32) * x12) + (4 : Int32))).bind fun v22 =>
  if v22 = (1 : Int32) then
  (aI S 40 x7 ((5 : Int32) * x12)).bind fun v23 =>
  (aI S 40 x6 ((6 : Int32) * v23)).bind fun v24 =>
  (aI S 40 x4 (((4 : Int32) * v24) + (3 : Int32))).bind fun v25 =>
  if (100 : Int32) ≤ v25 then
  f_W_tokens_B135 S x0 x3 x4 x6 x7 x8 x10 x12 x13 x14 y0
  else
  f_W_tokens_B136 S x0 x3 x4 x6 x7 x8 x10 x12 x13 x14 y0 (1 : Int32)
  else
  f_W_tokens_B135 S x0 x3 x4 x6 x7 x8 x10 x12 x13 x14 y0
def f_W_tokens_B58 (S : AS) (x0 : Option Nat) (x2 : Int32) (x3 : Option Nat) (x4 : Option Nat) (x6 : Option Nat) (x7 : Option Nat) (x8 : Option Nat) (x10 : Option Nat) (x12 : Int32) (x13 : Int32) (y0 : Int32) : Option (Int32 × AS) :=
  kr_b2 (f_W_some S (x2 >>> ((5 : Int32) &&& 31)) (3 : Int32)) fun v27 S26 =>
  if v27 = 0 then
  kr_b2 (f_W_some S26 (x2 >>> ((6 : Int32) &&& 31)) (y0 + (2 : Int32))) fun v29 S28 =>
  f_W_tokens_B86 S28 x0 x3 x4 x6 x7 x8 x10 x12 x13 y0 v29
  else
  f_W_tokens_B86 S26 x0 x3 x4 x6 x7 x8 x10 x12 x13 y0 y0
def f_W_tokens_B38 (S : AS) (x0 : Option Nat) (x2 : Int32) (x3 : Option Nat) (x4 : Option Nat) (x6 : Option Nat) (x7 : Option Nat) (x8 : Option Nat) (x10 : Option Nat) (x12 : Int32) (y0 : Int32) : Option (Int32 × AS) :=
  if y0 = 0 then
  f_W_tokens_B58 S x0 x2 x3 x4 x6 x7 x8 x10 x12 y0 (0 : Int32)
  else
  (aI S 40 x7 (((5 : Int32) * x12) + (1 : Int32))).bind fun v30 =>
  f_W_tokens_B58 S x0 x2 x3 x4 x6 x7 x8 x10 x12 y0 v30
def f_W_tokens_B23 (S : AS) (x0 : Option Nat) (x2 : Int32) (x3 : Option Nat) (x4 : Option Nat) (x6 : Option Nat) (x7 : Option Nat) (x8 : Option Nat) (x10 : Option Nat) (y0 : Int32) : Option (Int32 × AS) :=
  (aI S 40 x3 (3 : Int32)).bind fun v31 =>
  if v31 ≤ y0 then
  f_W_tokens_B38 S x0 x2 x3 x4 x6 x7 x8 x10 y0 (0 : Int32)
  else
  f_W_tokens_B38 S x0 x2 x3 x4 x6 x7 x8 x10 y0 (1 : Int32)
def f_W_tokens_B772 (S : AS) (y0 : Int32) (y1 : Int32) : Option (Int32 × AS) :=
  if y0 = y1 then
  some ((1 : Int32), S)
  else
  some ((0 : Int32), S)
def f_W_tokens_B735 (S : AS) (x0 : Option Nat) (x12 : Int32) (x13 : Int32) (x14 : Int32) (x16 : Int32) (x18 : Int32) (y0 : Int32) : Option (Int32 × AS) :=
  kr_b2 (f_W_threeg S x0 (2 : Int32) x12 x13 x14) fun v33 S32 =>
  if x16 = 0 then
  f_W_tokens_B772 S32 v33 (-1002 : Int32)
  else
  if x18 = 0 then
  f_W_tokens_B772 S32 v33 (-1003 : Int32)
  else
  f_W_tokens_B772 S32 v33 y0
def f_W_tokens_B733 (S : AS) (x0 : Option Nat) (x12 : Int32) (x13 : Int32) (x14 : Int32) (x16 : Int32) (x18 : Int32) : Option (Int32 × AS) :=
  f_W_tokens_B735 S x0 x12 x13 x14 x16 x18 (-2 : Int32)
def f_W_tokens_B667 (S : AS) (x0 : Option Nat) (x3 : Option Nat) (x7 : Option Nat) (x8 : Option Nat) (x12 : Int32) (x13 : Int32) (x14 : Int32) (x15 : Int32) (x16 : Int32) (x17 : Int32) (x18 : Int32) (x19 : Int32) : Option (Int32 × AS) :=
  if x18 = 0 then
  f_W_tokens_B733 S x0 x12 x13 x14 x16 x18
  else
  if x19 = 0 then
  (aI S 40 x8 ((3 : Int32) * x12)).bind fun v34 =>
  (some (v34 / (10 : Int32))).bind fun i35 =>
  (aI S 40 x8 (((3 : Int32) * x12) + (2 : Int32))).bind fun v36 =>
  kr_b2 (f_W_makes S x3 x7 x8 x15 ((((i35 - i35 / (10 : Int32) * (10 : Int32)) + ((10 : Int32) * x13)) + ((100 : Int32) * (x17 + (1 : Int32)))) + ((1000 : Int32) * x14)) v36) fun v38 S37 =>
  f_W_tokens_B735 S37 x0 x12 x13 x14 x16 x18 v38
  else
  f_W_tokens_B733 S x0 x12 x13 x14 x16 x18
def f_W_tokens_B652 (S : AS) (x0 : Option Nat) (x3 : Option Nat) (x7 : Option Nat) (x8 : Option Nat) (x12 : Int32) (x13 : Int32) (x14 : Int32) (x15 : Int32) (x16 : Int32) (x17 : Int32) (x18 : Int32) (x19 : Int32) : Option (Int32 × AS) :=
  if x18 = 0 then
  f_W_tokens_B667 S x0 x3 x7 x8 x12 x13 x14 x15 x16 x17 x18 x19
  else
  (aI S 40 x3 (4 : Int32)).bind fun v39 =>
  if v39 = (20 : Int32) then
  some ((1 : Int32), S)
  else
  f_W_tokens_B667 S x0 x3 x7 x8 x12 x13 x14 x15 x16 x17 x18 x19
def f_W_tokens_B632 (S : AS) (x0 : Option Nat) (x3 : Option Nat) (x7 : Option Nat) (x8 : Option Nat) (x12 : Int32) (x13 : Int32) (x14 : Int32) (x15 : Int32) (x16 : Int32) (x17 : Int32) (x18 : Int32) (y0 : Int32) : Option (Int32 × AS) :=
  if x18 = 0 then
  f_W_tokens_B652 S x0 x3 x7 x8 x12 x13 x14 x15 x16 x17 x18 y0
  else
  if y0 = 0 then
  (aI S 40 x3 (4 : Int32)).bind fun v40 =>
  if v40 = (20 : Int32) then
  some ((1 : Int32), S)
  else
  f_W_tokens_B652 S x0 x3 x7 x8 x12 x13 x14 x15 x16 x17 x18 y0
  else
  f_W_tokens_B652 S x0 x3 x7 x8 x12 x13 x14 x15 x16 x17 x18 y0
def f_W_tokens_B631 (S : AS) (x0 : Option Nat) (x3 : Option Nat) (x7 : Option Nat) (x8 : Option Nat) (x12 : Int32) (x13 : Int32) (x14 : Int32) (x15 : Int32) (x16 : Int32) (x17 : Int32) (x18 : Int32) : Option (Int32 × AS) :=
  f_W_tokens_B632 S x0 x3 x7 x8 x12 x13 x14 x15 x16 x17 x18 (0 : Int32)
def f_W_tokens_B590 (S : AS) (x0 : Option Nat) (x3 : Option Nat) (x5 : Option Nat) (x6 : Option Nat) (x7 : Option Nat) (x8 : Option Nat) (x11 : Option Nat) (x12 : Int32) (x13 : Int32) (x14 : Int32) (x15 : Int32) (x16 : Int32) (x17 : Int32) (y0 : Int32) : Option (Int32 × AS) :=
  if y0 = 0 then
  f_W_tokens_B631 S x0 x3 x7 x8 x12 x13 x14 x15 x16 x17 y0
  else
  (aI S 40 x7 ((5 : Int32) * x15)).bind fun v41 =>
  (aI S 40 x6 ((6 : Int32) * v41)).bind fun v42 =>
  kr_b2 (f_W_levelOf S x3 x5 v42) fun v44 S43 =>
  (aI S43 40 x11 ((16 : Int32) + x13)).bind fun v45 =>
  if v45 ≤ v44 then
  f_W_tokens_B631 S43 x0 x3 x7 x8 x12 x13 x14 x15 x16 x17 y0
  else
  f_W_tokens_B632 S43 x0 x3 x7 x8 x12 x13 x14 x15 x16 x17 y0 (1 : Int32)
def f_W_tokens_B589 (S : AS) (x0 : Option Nat) (x3 : Option Nat) (x5 : Option Nat) (x6 : Option Nat) (x7 : Option Nat) (x8 : Option Nat) (x11 : Option Nat) (x12 : Int32) (x13 : Int32) (x14 : Int32) (x15 : Int32) (x16 : Int32) (x17 : Int32) : Option (Int32 × AS) :=
  f_W_tokens_B590 S x0 x3 x5 x6 x7 x8 x11 x12 x13 x14 x15 x16 x17 (0 : Int32)
def f_W_tokens_B529 (S : AS) (x0 : Option Nat) (x3 : Option Nat) (x5 : Option Nat) (x6 : Option Nat) (x7 : Option Nat) (x8 : Option Nat) (x11 : Option Nat) (x12 : Int32) (x13 : Int32) (x14 : Int32) (x15 : Int32) (y0 : Int32) : Option (Int32 × AS) :=
  (aI S 40 x8 ((3 : Int32) * x12)).bind fun v46 =>
  (some (v46 / (100 : Int32))).bind fun i47 =>
  (some (i47 - i47 / (10 : Int32) * (10 : Int32))).bind fun i48 =>
  if y0 = 0 then
  f_W_tokens_B589 S x0 x3 x5 x6 x7 x8 x11 x12 x13 x14 x15 y0 i48
  else
  (aI S 40 x8 (((3 : Int32) * x12) + (2 : Int32))).bind fun v49 =>
  (aI S 40 x3 (0 : Int32)).bind fun v50 =>
  if v49 < v50 then
  f_W_tokens_B589 S x0 x3 x5 x6 x7 x8 x11 x12 x13 x14 x15 y0 i48
  else
  (aI S 40 x7 (((5 : Int32) * x15) + (4 : Int32))).bind fun v51 =>
  if v51 = (1 : Int32) then
  if (3 : Int32) ≤ i48 then
  f_W_tokens_B589 S x0 x3 x5 x6 x7 x8 x11 x12 x13 x14 x15 y0 i48
  else
  f_W_tokens_B590 S x0 x3 x5 x6 x7 x8 x11 x12 x13 x14 x15 y0 i48 (1 : Int32)
  else
  f_W_tokens_B589 S x0 x3 x5 x6 x7 x8 x11 x12 x13 x14 x15 y0 i48
def f_W_tokens_B528 (S : AS) (x0 : Option Nat) (x3 : Option Nat) (x5 : Option Nat) (x6 : Option Nat) (x7 : Option Nat) (x8 : Option Nat) (x11 : Option Nat) (x12 : Int32) (x13 : Int32) (x14 : Int32) (x15 : Int32) : Option (Int32 × AS) :=
  f_W_tokens_B529 S x0 x3 x5 x6 x7 x8 x11 x12 x13 x14 x15 (0 : Int32)
def f_W_tokens_B455 (S : AS) (x0 : Option Nat) (x3 : Option Nat) (x5 : Option Nat) (x6 : Option Nat) (x7 : Option Nat) (x8 : Option Nat) (x11 : Option Nat) (x12 : Int32) (x13 : Int32) (y0 : Int32) : Option (Int32 × AS) :=
  (aI S 40 x3 (4 : Int32)).bind fun v52 =>
  if v52 = 0 then
  kr_b2 (f_W_threeg S x0 (2 : Int32) x12 x13 y0) fun v54 S53 =>
  if v54 = (-1001 : Int32) then
  some ((1 : Int32), S53)
  else
  some ((0 : Int32), S53)
  else
  (aI S 40 x8 (((3 : Int32) * x12) + (1 : Int32))).bind fun v55 =>
  (some (v55 - v55 / (100 : Int32) * (100 : Int32))).bind fun i56 =>
  if y0 ≤ 0 then
  f_W_tokens_B528 S x0 x3 x5 x6 x7 x8 x11 x12 x13 y0 i56
  else
  (aI S 40 x8 ((3 : Int32) * x12)).bind fun v57 =>
  if (y0 &&& ((v57 / (1000 : Int32)) ^^^ (-1 : Int32))) = 0 then
  f_W_tokens_B529 S x0 x3 x5 x6 x7 x8 x11 x12 x13 y0 i56 (1 : Int32)
  else
  f_W_tokens_B528 S x0 x3 x5 x6 x7 x8 x11 x12 x13 y0 i56
def f_W_tokens_B400 (S : AS) (x0 : Option Nat) (x2 : Int32) (x3 : Option Nat) (x5 : Option Nat) (x6 : Option Nat) (x7 : Option Nat) (x8 : Option Nat) (x11 : Option Nat) (y0 : Int32) : Option (Int32 × AS) :=
  kr_b2 (f_W_some S (x2 >>> ((5 : Int32) &&& 31)) (4 : Int32)) fun v59 S58 =>
  kr_b2 (f_W_some S58 (x2 >>> ((6 : Int32) &&& 31)) (2 : Int32)) fun v61 S60 =>
  if v61 = 0 then
  kr_b2 (f_W_some S60 (x2 >>> ((7 : Int32) &&& 31)) (16 : Int32)) fun v63 S62 =>
  f_W_tokens_B455 S62 x0 x3 x5 x6 x7 x8 x11 y0 v59 v63
  else
  (aI S60 40 x3 (4 : Int32)).bind fun v64 =>
  if v64 ≤ 0 then
  f_W_tokens_B455 S60 x0 x3 x5 x6 x7 x8 x11 y0 v59 (1 : Int32)
  else
  (aI S60 40 x8 ((3 : Int32) * y0)).bind fun v65 =>
  f_W_tokens_B455 S60 x0 x3 x5 x6 x7 x8 x11 y0 v59 (v65 / (1000 : Int32))
def f_W_tokens_B940 (S : AS) (x0 : Option Nat) (x3 : Option Nat) (y0 : Option Nat) (y1 : Int32) (y2 : Int32) (y3 : Int32) : Option (Int32 × AS) :=
  (bI S y0 y1 (y2 + y3)).bind fun S66 =>
  (bI S66 x3 (7 : Int32) (0 : Int32)).bind fun S67 =>
  (aI S67 40 x3 (6 : Int32)).bind fun v68 =>
  (f_W_writes S67 x3 (5 : Int32) v68).bind fun S69 =>
  kr_b2 (f_W_noneg S69 x0 (2 : Int32) (0 : Int32)) fun v71 S70 =>
  (aI S70 40 x3 (6 : Int32)).bind fun v72 =>
  if v71 = v72 then
  some ((1 : Int32), S70)
  else
  some ((0 : Int32), S70)
def f_W_tokens_B923 (S : AS) (x0 : Option Nat) (x3 : Option Nat) (y0 : Option Nat) (y1 : Int32) (y2 : Int32) : Option (Int32 × AS) :=
  (bI S y0 y1 y2).bind fun S73 =>
  (aI S73 40 x3 (5 : Int32)).bind fun v74 =>
  (aI S73 40 x3 (7 : Int32)).bind fun v75 =>
  if v75 ≤ 0 then
  f_W_tokens_B940 S73 x0 x3 x3 (5 : Int32) v74 (1 : Int32)
  else
  f_W_tokens_B940 S73 x0 x3 x3 (5 : Int32) v74 (0 : Int32)
def f_W_tokens_B841 (S : AS) (x0 : Option Nat) (x3 : Option Nat) (x9 : Option Nat) (x12 : Int32) : Option (Int32 × AS) :=
  if x12 = 0 then
  (aI S 40 x3 (6 : Int32)).bind fun v76 =>
  (bI S x9 ((2 : Int32) * v76) (1 : Int32)).bind fun S77 =>
  (aI S77 40 x3 (7 : Int32)).bind fun v78 =>
  if v78 ≤ 0 then
  (aI S77 40 x3 (5 : Int32)).bind fun v79 =>
  f_W_tokens_B923 S77 x0 x3 x3 (6 : Int32) v79
  else
  (aI S77 40 x3 (7 : Int32)).bind fun v80 =>
  f_W_tokens_B923 S77 x0 x3 x3 (6 : Int32) (v80 - (1 : Int32))
  else
  (aI S 40 x3 (5 : Int32)).bind fun v81 =>
  (bI S x3 (7 : Int32) (v81 + (1 : Int32))).bind fun S82 =>
  (aI S82 40 x3 (0 : Int32)).bind fun v83 =>
  (bI S82 x3 (8 : Int32) (v83 + (5 : Int32))).bind fun S84 =>
  (aI S84 40 x3 (5 : Int32)).bind fun v85 =>
  (bI S84 x3 (5 : Int32) (v85 + (1 : Int32))).bind fun S86 =>
  kr_b2 (f_W_noneg S86 x0 (1 : Int32) (0 : Int32)) fun v88 S87 =>
  (aI S87 40 x3 (5 : Int32)).bind fun v89 =>
  if v88 = (v89 - (1 : Int32)) then
  some ((1 : Int32), S87)
  else
  some ((0 : Int32), S87)
def f_W_tokens_B809 (S : AS) (x0 : Option Nat) (x3 : Option Nat) (x9 : Option Nat) (y0 : Int32) : Option (Int32 × AS) :=
  if y0 = 0 then
  f_W_tokens_B841 S x0 x3 x9 y0
  else
  (aI S 40 x3 (7 : Int32)).bind fun v90 =>
  if v90 ≤ 0 then
  f_W_tokens_B841 S x0 x3 x9 y0
  else
  kr_b2 (f_W_noneg S x0 (1 : Int32) (0 : Int32)) fun v92 S91 =>
  if v92 = (-1003 : Int32) then
  some ((1 : Int32), S91)
  else
  some ((0 : Int32), S91)
def f_W_tokens_B1086 (k1009 : AS → Option Nat → Option Nat → Option Nat → Option Nat → Option Nat → Int32 → Int32 → Int32 → Option (Int32 × AS)) (k1033 : AS → Option Nat → Option Nat → Option Nat → Option Nat → Option Nat → Int32 → Int32 → Int32 → Int32 → Int32 → Option (Int32 × AS)) (S : AS) (x0 : Option Nat) (x3 : Option Nat) (x7 : Option Nat) (x8 : Option Nat) (x10 : Option Nat) (x12 : Int32) (x13 : Int32) (x14 : Int32) (x16 : Int32) (y0 : Int32) : Option (Int32 × AS) :=
  (some (x16 + (1 : Int32))).bind fun i93 =>
  k1033 S x0 x3 x7 x8 x10 x12 x13 x14 y0 i93
def f_W_tokens_B1081 (k1009 : AS → Option Nat → Option Nat → Option Nat → Option Nat → Option Nat → Int32 → Int32 → Int32 → Option (Int32 × AS)) (k1033 : AS → Option Nat → Option Nat → Option Nat → Option Nat → Option Nat → Int32 → Int32 → Int32 → Int32 → Int32 → Option (Int32 × AS)) (S : AS) (x0 : Option Nat) (x3 : Option Nat) (x7 : Option Nat) (x8 : Option Nat) (x10 : Option Nat) (x12 : Int32) (x13 : Int32) (x14 : Int32) (x16 : Int32) : Option (Int32 × AS) :=
  f_W_tokens_B1086 k1009 k1033 S x0 x3 x7 x8 x10 x12 x13 x14 x16 (1 : Int32)
def f_W_tokens_B1085 (k1009 : AS → Option Nat → Option Nat → Option Nat → Option Nat → Option Nat → Int32 → Int32 → Int32 → Option (Int32 × AS)) (k1033 : AS → Option Nat → Option Nat → Option Nat → Option Nat → Option Nat → Int32 → Int32 → Int32 → Int32 → Int32 → Option (Int32 × AS)) (S : AS) (x0 : Option Nat) (x3 : Option Nat) (x7 : Option Nat) (x8 : Option Nat) (x10 : Option Nat) (x12 : Int32) (x13 : Int32) (x14 : Int32) (x16 : Int32) : Option (Int32 × AS) :=
  f_W_tokens_B1086 k1009 k1033 S x0 x3 x7 x8 x10 x12 x13 x14 x16 (0 : Int32)
def f_W_tokens_B1173 (k1009 : AS → Option Nat → Option Nat → Option Nat → Option Nat → Option Nat → Int32 → Int32 → Int32 → Option (Int32 × AS)) (S : AS) (x0 : Option Nat) (x3 : Option Nat) (x7 : Option Nat) (x8 : Option Nat) (x10 : Option Nat) (x12 : Int32) (x13 : Int32) (x14 : Int32) (y0 : Option Nat) (y1 : Int32) (y2 : Int32) (y3 : Int32) : Option (Int32 × AS) :=
  (bI S y0 y1 (y2 ||| y3)).bind fun S94 =>
  (some (x14 + (1 : Int32))).bind fun i95 =>
  k1009 S94 x0 x3 x7 x8 x10 x12 x13 i95
def f_W_tokens_B1147 (k1009 : AS → Option Nat → Option Nat → Option Nat → Option Nat → Option Nat → Int32 → Int32 → Int32 → Option (Int32 × AS)) (S : AS) (x0 : Option Nat) (x3 : Option Nat) (x7 : Option Nat) (x8 : Option Nat) (x10 : Option Nat) (x12 : Int32) (x14 : Int32) (x16 : Int32) (y0 : Int32) (y1 : Int32) : Option (Int32 × AS) :=
  (some (y0 + y1)).bind fun i96 =>
  (some (((4 : Int32) * x12) + (3 : Int32))).bind fun i97 =>
  (aI S 40 x10 i97).bind fun v98 =>
  if x16 = 0 then
  f_W_tokens_B1173 k1009 S x0 x3 x7 x8 x10 x12 i96 x14 x10 i97 v98 (0 : Int32)
  else
  f_W_tokens_B1173 k1009 S x0 x3 x7 x8 x10 x12 i96 x14 x10 i97 v98 ((1 : Int32) <<< (x14 &&& 31))
def f_W_tokens_B1133 (k1009 : AS → Option Nat → Option Nat → Option Nat → Option Nat → Option Nat → Int32 → Int32 → Int32 → Option (Int32 × AS)) (S : AS) (x0 : Option Nat) (x3 : Option Nat) (x7 : Option Nat) (x8 : Option Nat) (x10 : Option Nat) (x12 : Int32) (x13 : Int32) (x14 : Int32) (y0 : Int32) : Option (Int32 × AS) :=
  if y0 = 0 then
  f_W_tokens_B1147 k1009 S x0 x3 x7 x8 x10 x12 x14 y0 x13 (0 : Int32)
  else
  f_W_tokens_B1147 k1009 S x0 x3 x7 x8 x10 x12 x14 y0 x13 (1 : Int32)
def f_W_tokens_B1132 (k1009 : AS → Option Nat → Option Nat → Option Nat → Option Nat → Option Nat → Int32 → Int32 → Int32 → Option (Int32 × AS)) (S : AS) (x0 : Option Nat) (x3 : Option Nat) (x7 : Option Nat) (x8 : Option Nat) (x10 : Option Nat) (x12 : Int32) (x13 : Int32) (x14 : Int32) : Option (Int32 × AS) :=
  f_W_tokens_B1133 k1009 S x0 x3 x7 x8 x10 x12 x13 x14 (0 : Int32)
def f_W_tokens_C1033 (k1009 : AS → Option Nat → Option Nat → Option Nat → Option Nat → Option Nat → Int32 → Int32 → Int32 → Option (Int32 × AS)) (k1033 : AS → Option Nat → Option Nat → Option Nat → Option Nat → Option Nat → Int32 → Int32 → Int32 → Int32 → Int32 → Option (Int32 × AS)) (S : AS) (x0 : Option Nat) (x3 : Option Nat) (x7 : Option Nat) (x8 : Option Nat) (x10 : Option Nat) (x12 : Int32) (x13 : Int32) (x14 : Int32) (x15 : Int32) (x16 : Int32) : Option (Int32 × AS) :=
  (aI S 40 x3 (4 : Int32)).bind fun v99 =>
  if v99 ≤ x16 then
  if x15 = 0 then
  f_W_tokens_B1132 k1009 S x0 x3 x7 x8 x10 x12 x13 x14
  else
  (aI S 40 x7 (((5 : Int32) * x14) + (4 : Int32))).bind fun v100 =>
  if v100 = 0 then
  (aI S 40 x10 (((4 : Int32) * x12) + (3 : Int32))).bind fun v101 =>
  if ((v101 >>> (x14 &&& 31)) &&& (1 : Int32)) = 0 then
  f_W_tokens_B1133 k1009 S x0 x3 x7 x8 x10 x12 x13 x14 (1 : Int32)
  else
  f_W_tokens_B1132 k1009 S x0 x3 x7 x8 x10 x12 x13 x14
  else
  f_W_tokens_B1132 k1009 S x0 x3 x7 x8 x10 x12 x13 x14
  else
  if x15 = 0 then
  (aI S 40 x8 (((3 : Int32) * x16) + (1 : Int32))).bind fun v102 =>
  if (v102 - v102 / (100 : Int32) * (100 : Int32)) = x14 then
  (aI S 40 x8 ((3 : Int32) * x16)).bind fun v103 =>
  (some (v103 / (10 : Int32))).bind fun i104 =>
  if (i104 - i104 / (10 : Int32) * (10 : Int32)) = x12 then
  f_W_tokens_B1081 k1009 k1033 S x0 x3 x7 x8 x10 x12 x13 x14 x16
  else
  f_W_tokens_B1085 k1009 k1033 S x0 x3 x7 x8 x10 x12 x13 x14 x16
  else
  f_W_tokens_B1085 k1009 k1033 S x0 x3 x7 x8 x10 x12 x13 x14 x16
  else
  f_W_tokens_B1081 k1009 k1033 S x0 x3 x7 x8 x10 x12 x13 x14 x16
def f_W_tokens_L1033 (k1009 : AS → Option Nat → Option Nat → Option Nat → Option Nat → Option Nat → Int32 → Int32 → Int32 → Option (Int32 × AS)) : Nat → AS → Option Nat → Option Nat → Option Nat → Option Nat → Option Nat → Int32 → Int32 → Int32 → Int32 → Int32 → Option (Int32 × AS)
  | 0, S, x0, x3, x7, x8, x10, x12, x13, x14, x15, x16 => none
  | n + 1, S, x0, x3, x7, x8, x10, x12, x13, x14, x15, x16 => f_W_tokens_C1033 k1009 (f_W_tokens_L1033 k1009 n) S x0 x3 x7 x8 x10 x12 x13 x14 x15 x16
def f_W_tokens_B1181 (S : AS) (x0 : Option Nat) (x12 : Int32) (x13 : Int32) : Option (Int32 × AS) :=
  kr_b2 (f_W_oneg S x0 (10 : Int32) x12) fun v106 S105 =>
  if v106 = x13 then
  some ((1 : Int32), S105)
  else
  some ((0 : Int32), S105)
def f_W_tokens_C1009 (k1009 : AS → Option Nat → Option Nat → Option Nat → Option Nat → Option Nat → Int32 → Int32 → Int32 → Option (Int32 × AS)) (S : AS) (x0 : Option Nat) (x3 : Option Nat) (x7 : Option Nat) (x8 : Option Nat) (x10 : Option Nat) (x12 : Int32) (x13 : Int32) (x14 : Int32) : Option (Int32 × AS) :=
  (aI S 40 x3 (3 : Int32)).bind fun v107 =>
  if v107 ≤ x14 then
  f_W_tokens_B1181 S x0 x12 x13
  else
  (aI S 40 x10 ((4 : Int32) * x12)).bind fun v108 =>
  if v108 = 0 then
  f_W_tokens_L1033 k1009 kr_FU S x0 x3 x7 x8 x10 x12 x13 x14 (0 : Int32) (0 : Int32)
  else
  f_W_tokens_B1181 S x0 x12 x13
def f_W_tokens_L1009 : Nat → AS → Option Nat → Option Nat → Option Nat → Option Nat → Option Nat → Int32 → Int32 → Int32 → Option (Int32 × AS)
  | 0, S, x0, x3, x7, x8, x10, x12, x13, x14 => none
  | n + 1, S, x0, x3, x7, x8, x10, x12, x13, x14 => f_W_tokens_C1009 (f_W_tokens_L1009 n) S x0 x3 x7 x8 x10 x12 x13 x14
def f_W_tokens_B1302 (S : AS) (y0 : Int32) (y1 : Int32) : Option (Int32 × AS) :=
  if y0 = y1 then
  some ((1 : Int32), S)
  else
  some ((0 : Int32), S)
def f_W_tokens_B1249 (S : AS) (x0 : Option Nat) (x2 : Int32) (x3 : Option Nat) (x8 : Option Nat) (x9 : Option Nat) (x10 : Option Nat) (x13 : Int32) (y0 : Int32) : Option (Int32 × AS) :=
  kr_b2 (f_W_some S (x2 >>> ((6 : Int32) &&& 31)) (4 : Int32)) fun v110 S109 =>
  kr_b2 (f_W_threeg S109 x0 (3 : Int32) y0 x13 v110) fun v112 S111 =>
  (aI S111 40 x3 (4 : Int32)).bind fun v113 =>
  if x13 = v113 then
  f_W_tokens_B1302 S111 v112 (-1001 : Int32)
  else
  kr_b2 (f_W_checked S111 x3 x8 x9 x10 y0 x13 v110) fun v115 S114 =>
  f_W_tokens_B1302 S114 v112 v115
def f_W_tokens_B1247 (S : AS) (x0 : Option Nat) (x2 : Int32) (x3 : Option Nat) (x8 : Option Nat) (x9 : Option Nat) (x10 : Option Nat) (x12 : Int32) (x13 : Int32) : Option (Int32 × AS) :=
  f_W_tokens_B1249 S x0 x2 x3 x8 x9 x10 x13 x12
def f_W_tokens (S : AS) (a0 : Option Nat) (a1 : Int32) (a2 : Int32) (a3 : Option Nat) (a4 : Option Nat) (a5 : Option Nat) (a6 : Option Nat) (a7 : Option Nat) (a8 : Option Nat) (a9 : Option Nat) (a10 : Option Nat) (a11 : Option Nat) : Option (Int32 × AS) :=
  if a1 = 0 then
  (aI S 40 a3 (3 : Int32)).bind fun v116 =>
  if v116 ≤ 0 then
  f_W_tokens_B23 S a0 a2 a3 a4 a6 a7 a8 a10 (0 : Int32)
  else
  (aI S 40 a3 (3 : Int32)).bind fun v117 =>
  kr_b2 (f_W_some S (a2 >>> ((3 : Int32) &&& 31)) v117) fun v119 S118 =>
  f_W_tokens_B23 S118 a0 a2 a3 a4 a6 a7 a8 a10 v119
  else
  if a1 = (1 : Int32) then
  (aI S 40 a3 (4 : Int32)).bind fun v120 =>
  if v120 ≤ 0 then
  f_W_tokens_B400 S a0 a2 a3 a5 a6 a7 a8 a11 (0 : Int32)
  else
  (aI S 40 a3 (4 : Int32)).bind fun v121 =>
  kr_b2 (f_W_some S (a2 >>> ((3 : Int32) &&& 31)) v121) fun v123 S122 =>
  f_W_tokens_B400 S122 a0 a2 a3 a5 a6 a7 a8 a11 v123
  else
  if a1 = (2 : Int32) then
  (aI S 40 a3 (5 : Int32)).bind fun v124 =>
  if v124 = (10 : Int32) then
  some ((1 : Int32), S)
  else
  kr_b2 (f_W_some S a2 (3 : Int32)) fun v126 S125 =>
  if v126 ≤ 0 then
  f_W_tokens_B809 S125 a0 a3 a9 (0 : Int32)
  else
  f_W_tokens_B809 S125 a0 a3 a9 (1 : Int32)
  else
  kr_b2 (f_W_some S a2 (4 : Int32)) fun v128 S127 =>
  if a1 = (3 : Int32) then
  (aI S127 40 a10 ((4 : Int32) * v128)).bind fun v129 =>
  (bI S127 a10 ((4 : Int32) * v128) ((1 : Int32) - v129)).bind fun S130 =>
  f_W_tokens_L1009 kr_FU S130 a0 a3 a7 a8 a10 v128 (0 : Int32) (0 : Int32)
  else
  (aI S127 40 a3 (4 : Int32)).bind fun v131 =>
  kr_b2 (f_W_some S127 (a2 >>> ((3 : Int32) &&& 31)) (v131 + (1 : Int32))) fun v133 S132 =>
  (aI S132 40 a3 (4 : Int32)).bind fun v134 =>
  if v134 ≤ v133 then
  f_W_tokens_B1247 S132 a0 a2 a3 a8 a9 a10 v128 v133
  else
  kr_b2 (f_W_some S132 (a2 >>> ((4 : Int32) &&& 31)) (5 : Int32)) fun v136 S135 =>
  if v136 ≤ 0 then
  f_W_tokens_B1247 S135 a0 a2 a3 a8 a9 a10 v128 v133
  else
  (aI S135 40 a8 ((3 : Int32) * v133)).bind fun v137 =>
  (some (v137 / (10 : Int32))).bind fun i138 =>
  f_W_tokens_B1249 S135 a0 a2 a3 a8 a9 a10 v133 (i138 - i138 / (10 : Int32) * (10 : Int32))
set_option maxRecDepth 20000 in
set_option maxHeartbeats 4000000 in
theorem s_W_tokens_B356 {S : AS} {x0 : Option Nat} {x12 : Int32} {x15 : Int32} {x17 : Int32} {r : (Int32 × AS)} (h : f_W_tokens_B356 S x0 x12 x15 x17 = some r) : kr_AW m_W_tokens 14 356 [(0, va_rf x0), (12, .int x12), (15, .int x15), (17, .int x17)] [] S (kr_eI r) := by
  unfold f_W_tokens_B356 at h
  refine r_aload_n (i := 0) (x := x0) 0 rfl d_W_tokens_356 ?_
  refine r_iconst (v := (5 : Int32)) (by decide) d_W_tokens_357 ?_
  refine r_iload (i := 12) (x := x12) 1 rfl d_W_tokens_358 ?_
  refine r_iload (i := 15) (x := x15) 2 rfl d_W_tokens_360 ?_
  have h2 := kr_ob2 h
  clear h
  obtain ⟨v2, S1, eS1, h⟩ := h2
  refine r_callSX (M1 := m_W_two) (As := [va_rf x0, .int (5 : Int32), .int x12, .int x15]) (s_W_twog eS1) mok_W_two (by decide) w942 w943 (by decide) (kr_c8 kr_c0) d_W_tokens_362 (kr_k1 ?_) kr_kn
  refine r_iload (i := 17) (x := x17) 3 rfl d_W_tokens_365 ?_
  refine r_icmp_ne (tgt := 374) d_W_tokens_367 rfl (fun c => ?_) (fun c => ?_)
  · replace h := kr_ip c h
    refine r_iconst (v := (1 : Int32)) (by decide) d_W_tokens_370 ?_
    refine r_goto (tgt := 375) d_W_tokens_371 rfl ?_
    cases h
    exact r_zret rfl rfl d_W_tokens_375
  · replace h := kr_in_ c h
    refine r_iconst (v := (0 : Int32)) (by decide) d_W_tokens_374 ?_
    cases h
    exact r_zret rfl rfl d_W_tokens_375
set_option maxRecDepth 20000 in
set_option maxHeartbeats 4000000 in
theorem s_W_tokens_B333 {S : AS} {x0 : Option Nat} {x3 : Option Nat} {x7 : Option Nat} {x8 : Option Nat} {x10 : Option Nat} {x12 : Int32} {x15 : Int32} {x16 : Int32} {x17 : Int32} {r : (Int32 × AS)} (h : f_W_tokens_B333 S x0 x3 x7 x8 x10 x12 x15 x16 x17 = some r) : kr_AW m_W_tokens 14 333 [(0, va_rf x0), (3, va_rf x3), (7, va_rf x7), (8, va_rf x8), (10, va_rf x10), (12, .int x12), (15, .int x15), (16, .int x16), (17, .int x17)] [] S (kr_eI r) := by
  unfold f_W_tokens_B333 at h
  refine r_iload (i := 16) (x := x16) 7 rfl d_W_tokens_333 ?_
  refine r_if_eq (tgt := 356) d_W_tokens_335 rfl (fun c => ?_) (fun c => ?_)
  · replace h := kr_ip c h
    exact kr_sub [0, 5, 6, 8] rfl (s_W_tokens_B356 h)
  · replace h := kr_in_ c h
    refine r_iload (i := 17) (x := x17) 8 rfl d_W_tokens_338 ?_
    refine r_iconst (v := (-1 : Int32)) (by decide) d_W_tokens_340 ?_
    refine r_icmp_ne (tgt := 356) d_W_tokens_341 rfl (fun c => ?_) (fun c => ?_)
    · replace h := kr_ip c h
      refine r_aload_n (i := 3) (x := x3) 1 rfl d_W_tokens_344 ?_
      refine r_aload (i := 7) (x := x7) 2 rfl d_W_tokens_345 ?_
      refine r_aload (i := 8) (x := x8) 3 rfl d_W_tokens_347 ?_
      refine r_aload (i := 10) (x := x10) 4 rfl d_W_tokens_349 ?_
      refine r_iload (i := 12) (x := x12) 5 rfl d_W_tokens_351 ?_
      have h2 := kr_ob h
      clear h
      obtain ⟨S3, eS3, h⟩ := h2
      refine r_callS (M1 := m_W_endFamily) (As := [va_rf x3, va_rf x7, va_rf x8, va_rf x10, .int x12]) (s_W_endFamily eS3) mok_W_endFamily rfl w1048 w1049 (by decide) (kr_c8 kr_c0) d_W_tokens_353 (kr_k0 ?_) kr_kn
      exact kr_sub [0, 5, 6, 8] rfl (s_W_tokens_B356 h)
    · replace h := kr_in_ c h
      exact kr_sub [0, 5, 6, 8] rfl (s_W_tokens_B356 h)
set_option maxRecDepth 20000 in
set_option maxHeartbeats 4000000 in
theorem s_W_tokens_B239 {S : AS} {x0 : Option Nat} {x3 : Option Nat} {x4 : Option Nat} {x6 : Option Nat} {x7 : Option Nat} {x8 : Option Nat} {x10 : Option Nat} {x12 : Int32} {x14 : Int32} {x15 : Int32} {x16 : Int32} {y0 : Int32} {r : (Int32 × AS)} (h : f_W_tokens_B239 S x0 x3 x4 x6 x7 x8 x10 x12 x14 x15 x16 y0 = some r) : kr_AW m_W_tokens 14 239 [(0, va_rf x0), (3, va_rf x3), (4, va_rf x4), (6, va_rf x6), (7, va_rf x7), (8, va_rf x8), (10, va_rf x10), (12, .int x12), (14, .int x14), (15, .int x15), (16, .int x16)] [.int y0] S (kr_eI r) := by
  unfold f_W_tokens_B239 at h
  refine r_istore (i := 17) (lv' := [(17, .int y0), (0, va_rf x0), (3, va_rf x3), (4, va_rf x4), (6, va_rf x6), (7, va_rf x7), (8, va_rf x8), (10, va_rf x10), (12, .int x12), (14, .int x14), (15, .int x15), (16, .int x16)]) (by decide) rfl d_W_tokens_239 ?_
  refine r_iload (i := 16) (x := x16) 11 rfl d_W_tokens_241 ?_
  refine r_if_eq (tgt := 333) d_W_tokens_243 rfl (fun c => ?_) (fun c => ?_)
  · replace h := kr_ip c h
    exact kr_sub [1, 2, 5, 6, 7, 8, 10, 11, 0] rfl (s_W_tokens_B333 h)
  · replace h := kr_in_ c h
    refine r_iload (i := 15) (x := x15) 10 rfl d_W_tokens_246 ?_
    refine r_iload (i := 14) (x := x14) 9 rfl d_W_tokens_248 ?_
    refine r_icmp_ne (tgt := 333) d_W_tokens_250 rfl (fun c => ?_) (fun c => ?_)
    · replace h := kr_ip c h
      refine r_aload (i := 7) (x := x7) 5 rfl d_W_tokens_253 ?_
      refine r_iconst (v := (5 : Int32)) (by decide) d_W_tokens_255 ?_
      refine r_iload (i := 12) (x := x12) 8 rfl d_W_tokens_256 ?_
      refine r_imul d_W_tokens_258 ?_
      refine r_iconst (v := (1 : Int32)) (by decide) d_W_tokens_259 ?_
      refine r_iadd d_W_tokens_260 ?_
      have h2 := kr_ob h
      clear h
      obtain ⟨i4, ei4, h⟩ := h2
      refine kr_nmI ei4 ?_
      refine r_dup2 rfl (kr_rfcat _) d_W_tokens_261 ?_
      have h2 := kr_ob h
      clear h
      obtain ⟨v5, ev5, h⟩ := h2
      refine r_iaload ev5 d_W_tokens_262 ?_
      refine r_iconst (v := (1 : Int32)) (by decide) d_W_tokens_263 ?_
      refine r_iadd d_W_tokens_264 ?_
      have h2 := kr_ob h
      clear h
      obtain ⟨S6, eS6, h⟩ := h2
      refine r_iastore eS6 d_W_tokens_265 ?_
      refine r_aload (i := 7) (x := x7) 5 rfl d_W_tokens_266 ?_
      refine r_iconst (v := (5 : Int32)) (by decide) d_W_tokens_268 ?_
      refine r_iload (i := 12) (x := x12) 8 rfl d_W_tokens_269 ?_
      refine r_imul d_W_tokens_271 ?_
      refine r_iconst (v := (2 : Int32)) (by decide) d_W_tokens_272 ?_
      refine r_iadd d_W_tokens_273 ?_
      refine r_aload_n (i := 3) (x := x3) 2 rfl d_W_tokens_274 ?_
      refine r_iconst (v := (0 : Int32)) (by decide) d_W_tokens_275 ?_
      have h2 := kr_ob h
      clear h
      obtain ⟨v7, ev7, h⟩ := h2
      refine r_iaload ev7 d_W_tokens_276 ?_
      have h2 := kr_ob h
      clear h
      obtain ⟨S8, eS8, h⟩ := h2
      refine r_iastore eS8 d_W_tokens_277 ?_
      refine r_aload (i := 4) (x := x4) 3 rfl d_W_tokens_278 ?_
      refine r_iconst (v := (4 : Int32)) (by decide) d_W_tokens_280 ?_
      refine r_aload (i := 6) (x := x6) 4 rfl d_W_tokens_281 ?_
      refine r_bipush (v := (6 : Int32)) (by decide) d_W_tokens_283 ?_
      refine r_aload (i := 7) (x := x7) 5 rfl d_W_tokens_285 ?_
      refine r_iconst (v := (5 : Int32)) (by decide) d_W_tokens_287 ?_
      refine r_iload (i := 12) (x := x12) 8 rfl d_W_tokens_288 ?_
      refine r_imul d_W_tokens_290 ?_
      have h2 := kr_ob h
      clear h
      obtain ⟨v9, ev9, h⟩ := h2
      refine r_iaload ev9 d_W_tokens_291 ?_
      refine r_imul d_W_tokens_292 ?_
      have h2 := kr_ob h
      clear h
      obtain ⟨v10, ev10, h⟩ := h2
      refine r_iaload ev10 d_W_tokens_293 ?_
      refine r_imul d_W_tokens_294 ?_
      refine r_iconst (v := (2 : Int32)) (by decide) d_W_tokens_295 ?_
      refine r_iadd d_W_tokens_296 ?_
      refine r_aload_n (i := 3) (x := x3) 2 rfl d_W_tokens_297 ?_
      refine r_iconst (v := (0 : Int32)) (by decide) d_W_tokens_298 ?_
      have h2 := kr_ob h
      clear h
      obtain ⟨v11, ev11, h⟩ := h2
      refine r_iaload ev11 d_W_tokens_299 ?_
      have h2 := kr_ob h
      clear h
      obtain ⟨S12, eS12, h⟩ := h2
      refine r_iastore eS12 d_W_tokens_300 ?_
      refine r_aload_n (i := 3) (x := x3) 2 rfl d_W_tokens_301 ?_
      refine r_aload (i := 7) (x := x7) 5 rfl d_W_tokens_302 ?_
      refine r_aload (i := 8) (x := x8) 6 rfl d_W_tokens_304 ?_
      refine r_iload (i := 12) (x := x12) 8 rfl d_W_tokens_306 ?_
      refine r_aload (i := 6) (x := x6) 4 rfl d_W_tokens_308 ?_
      refine r_aload (i := 7) (x := x7) 5 rfl d_W_tokens_310 ?_
      refine r_iconst (v := (5 : Int32)) (by decide) d_W_tokens_312 ?_
      refine r_iload (i := 12) (x := x12) 8 rfl d_W_tokens_313 ?_
      refine r_imul d_W_tokens_315 ?_
      have h2 := kr_ob h
      clear h
      obtain ⟨v13, ev13, h⟩ := h2
      refine r_iaload ev13 d_W_tokens_316 ?_
      have h2 := kr_ob2 h
      clear h
      obtain ⟨v15, S14, eS14, h⟩ := h2
      refine r_callS (M1 := m_W_what) (As := [va_rf x6, .int v13]) (s_W_what eS14) mok_W_what rfl w1333 w1334 (by decide) (kr_c8 (kr_cI (kr_cR (kr_cR (kr_cR kr_c0))))) d_W_tokens_317 (kr_k1 ?_) kr_kn
      refine r_aload_n (i := 3) (x := x3) 2 rfl d_W_tokens_320 ?_
      refine r_iconst (v := (0 : Int32)) (by decide) d_W_tokens_321 ?_
      have h2 := kr_ob h
      clear h
      obtain ⟨v16, ev16, h⟩ := h2
      refine r_iaload ev16 d_W_tokens_322 ?_
      refine r_bipush (v := (10 : Int32)) (by decide) d_W_tokens_323 ?_
      refine r_iadd d_W_tokens_325 ?_
      have h2 := kr_ob2 h
      clear h
      obtain ⟨v18, S17, eS17, h⟩ := h2
      refine r_callS (M1 := m_W_makes) (As := [va_rf x3, va_rf x7, va_rf x8, .int x12, .int v15, .int (v16 + (10 : Int32))]) (s_W_makes eS17) mok_W_makes rfl w1336 w1337 (by decide) (kr_c8 kr_c0) d_W_tokens_326 (kr_k1 ?_) kr_kn
      refine r_pop rfl d_W_tokens_329 ?_
      refine r_goto (tgt := 356) d_W_tokens_330 rfl ?_
      exact kr_sub [1, 8, 10, 0] rfl (s_W_tokens_B356 h)
    · replace h := kr_in_ c h
      exact kr_sub [1, 2, 5, 6, 7, 8, 10, 11, 0] rfl (s_W_tokens_B333 h)
set_option maxRecDepth 20000 in
set_option maxHeartbeats 4000000 in
theorem s_W_tokens_B238 {S : AS} {x0 : Option Nat} {x3 : Option Nat} {x4 : Option Nat} {x6 : Option Nat} {x7 : Option Nat} {x8 : Option Nat} {x10 : Option Nat} {x12 : Int32} {x14 : Int32} {x15 : Int32} {x16 : Int32} {r : (Int32 × AS)} (h : f_W_tokens_B238 S x0 x3 x4 x6 x7 x8 x10 x12 x14 x15 x16 = some r) : kr_AW m_W_tokens 14 238 [(0, va_rf x0), (3, va_rf x3), (4, va_rf x4), (6, va_rf x6), (7, va_rf x7), (8, va_rf x8), (10, va_rf x10), (12, .int x12), (14, .int x14), (15, .int x15), (16, .int x16)] [] S (kr_eI r) := by
  unfold f_W_tokens_B238 at h
  refine r_iconst (v := (-1 : Int32)) (by decide) d_W_tokens_238 ?_
  exact kr_sub [0, 1, 2, 3, 4, 5, 6, 7, 8, 9, 10] rfl (s_W_tokens_B239 h)
set_option maxRecDepth 20000 in
set_option maxHeartbeats 4000000 in
theorem s_W_tokens_B160 {S : AS} {x0 : Option Nat} {x3 : Option Nat} {x4 : Option Nat} {x6 : Option Nat} {x7 : Option Nat} {x8 : Option Nat} {x10 : Option Nat} {x12 : Int32} {x13 : Int32} {x14 : Int32} {x15 : Int32} {x16 : Int32} {r : (Int32 × AS)} (h : f_W_tokens_B160 S x0 x3 x4 x6 x7 x8 x10 x12 x13 x14 x15 x16 = some r) : kr_AW m_W_tokens 14 160 [(0, va_rf x0), (3, va_rf x3), (4, va_rf x4), (6, va_rf x6), (7, va_rf x7), (8, va_rf x8), (10, va_rf x10), (12, .int x12), (13, .int x13), (14, .int x14), (15, .int x15), (16, .int x16)] [] S (kr_eI r) := by
  unfold f_W_tokens_B160 at h
  refine r_iload (i := 13) (x := x13) 8 rfl d_W_tokens_160 ?_
  refine r_if_ne (tgt := 171) d_W_tokens_162 rfl (fun c => ?_) (fun c => ?_)
  · replace h := kr_ip c h
    refine r_sipush (v := (-1001 : Int32)) (by decide) d_W_tokens_165 ?_
    refine r_goto (tgt := 239) d_W_tokens_168 rfl ?_
    exact kr_sub [0, 1, 2, 3, 4, 5, 6, 7, 9, 10, 11] rfl (s_W_tokens_B239 h)
  · replace h := kr_in_ c h
    refine r_iload (i := 15) (x := x15) 10 rfl d_W_tokens_171 ?_
    refine r_iload (i := 14) (x := x14) 9 rfl d_W_tokens_173 ?_
    refine r_icmp_le (tgt := 184) d_W_tokens_175 rfl (fun c => ?_) (fun c => ?_)
    · replace h := kr_ip c h
      refine r_iload (i := 16) (x := x16) 11 rfl d_W_tokens_184 ?_
      refine r_if_ne (tgt := 193) d_W_tokens_186 rfl (fun c => ?_) (fun c => ?_)
      · replace h := kr_ip c h
        refine r_iconst (v := (-1 : Int32)) (by decide) d_W_tokens_189 ?_
        refine r_goto (tgt := 239) d_W_tokens_190 rfl ?_
        exact kr_sub [0, 1, 2, 3, 4, 5, 6, 7, 9, 10, 11] rfl (s_W_tokens_B239 h)
      · replace h := kr_in_ c h
        refine r_iload (i := 15) (x := x15) 10 rfl d_W_tokens_193 ?_
        refine r_iload (i := 14) (x := x14) 9 rfl d_W_tokens_195 ?_
        refine r_icmp_ne (tgt := 207) d_W_tokens_197 rfl (fun c => ?_) (fun c => ?_)
        · replace h := kr_ip c h
          refine r_iload (i := 14) (x := x14) 9 rfl d_W_tokens_200 ?_
          refine r_iconst (v := (1 : Int32)) (by decide) d_W_tokens_202 ?_
          refine r_iadd d_W_tokens_203 ?_
          refine r_goto (tgt := 239) d_W_tokens_204 rfl ?_
          exact kr_sub [0, 1, 2, 3, 4, 5, 6, 7, 9, 10, 11] rfl (s_W_tokens_B239 h)
        · replace h := kr_in_ c h
          refine r_iload (i := 15) (x := x15) 10 rfl d_W_tokens_207 ?_
          refine r_iload (i := 14) (x := x14) 9 rfl d_W_tokens_209 ?_
          refine r_iconst (v := (1 : Int32)) (by decide) d_W_tokens_211 ?_
          refine r_isub d_W_tokens_212 ?_
          refine r_icmp_ne (tgt := 238) d_W_tokens_213 rfl (fun c => ?_) (fun c => ?_)
          · replace h := kr_ip c h
            refine r_aload_n (i := 3) (x := x3) 1 rfl d_W_tokens_216 ?_
            refine r_iconst (v := (0 : Int32)) (by decide) d_W_tokens_217 ?_
            have h2 := kr_ob h
            clear h
            obtain ⟨v19, ev19, h⟩ := h2
            refine r_iaload ev19 d_W_tokens_218 ?_
            refine r_aload (i := 7) (x := x7) 4 rfl d_W_tokens_219 ?_
            refine r_iconst (v := (5 : Int32)) (by decide) d_W_tokens_221 ?_
            refine r_iload (i := 12) (x := x12) 7 rfl d_W_tokens_222 ?_
            refine r_imul d_W_tokens_224 ?_
            refine r_iconst (v := (2 : Int32)) (by decide) d_W_tokens_225 ?_
            refine r_iadd d_W_tokens_226 ?_
            have h2 := kr_ob h
            clear h
            obtain ⟨v20, ev20, h⟩ := h2
            refine r_iaload ev20 d_W_tokens_227 ?_
            refine r_isub d_W_tokens_228 ?_
            refine r_iconst (v := (2 : Int32)) (by decide) d_W_tokens_229 ?_
            refine r_icmp_ge (tgt := 238) d_W_tokens_230 rfl (fun c => ?_) (fun c => ?_)
            · replace h := kr_ip c h
              exact kr_sub [0, 1, 2, 3, 4, 5, 6, 7, 9, 10, 11] rfl (s_W_tokens_B238 h)
            · replace h := kr_in_ c h
              refine r_iload (i := 14) (x := x14) 9 rfl d_W_tokens_233 ?_
              refine r_goto (tgt := 239) d_W_tokens_235 rfl ?_
              exact kr_sub [0, 1, 2, 3, 4, 5, 6, 7, 9, 10, 11] rfl (s_W_tokens_B239 h)
          · replace h := kr_in_ c h
            exact kr_sub [0, 1, 2, 3, 4, 5, 6, 7, 9, 10, 11] rfl (s_W_tokens_B238 h)
    · replace h := kr_in_ c h
      refine r_sipush (v := (-1002 : Int32)) (by decide) d_W_tokens_178 ?_
      refine r_goto (tgt := 239) d_W_tokens_181 rfl ?_
      exact kr_sub [0, 1, 2, 3, 4, 5, 6, 7, 9, 10, 11] rfl (s_W_tokens_B239 h)
set_option maxRecDepth 20000 in
set_option maxHeartbeats 4000000 in
theorem s_W_tokens_B136 {S : AS} {x0 : Option Nat} {x3 : Option Nat} {x4 : Option Nat} {x6 : Option Nat} {x7 : Option Nat} {x8 : Option Nat} {x10 : Option Nat} {x12 : Int32} {x13 : Int32} {x14 : Int32} {x15 : Int32} {y0 : Int32} {r : (Int32 × AS)} (h : f_W_tokens_B136 S x0 x3 x4 x6 x7 x8 x10 x12 x13 x14 x15 y0 = some r) : kr_AW m_W_tokens 14 136 [(0, va_rf x0), (3, va_rf x3), (4, va_rf x4), (6, va_rf x6), (7, va_rf x7), (8, va_rf x8), (10, va_rf x10), (12, .int x12), (13, .int x13), (14, .int x14), (15, .int x15)] [.int y0] S (kr_eI r) := by
  unfold f_W_tokens_B136 at h
  refine r_istore (i := 16) (lv' := [(16, .int y0), (0, va_rf x0), (3, va_rf x3), (4, va_rf x4), (6, va_rf x6), (7, va_rf x7), (8, va_rf x8), (10, va_rf x10), (12, .int x12), (13, .int x13), (14, .int x14), (15, .int x15)]) (by decide) rfl d_W_tokens_136 ?_
  refine r_iload (i := 16) (x := y0) 0 rfl d_W_tokens_138 ?_
  refine r_if_eq (tgt := 160) d_W_tokens_140 rfl (fun c => ?_) (fun c => ?_)
  · replace h := kr_ip c h
    exact kr_sub [1, 2, 3, 4, 5, 6, 7, 8, 9, 10, 11, 0] rfl (s_W_tokens_B160 h)
  · replace h := kr_in_ c h
    refine r_iload (i := 15) (x := x15) 11 rfl d_W_tokens_143 ?_
    refine r_iload (i := 14) (x := x14) 10 rfl d_W_tokens_145 ?_
    refine r_icmp_ne (tgt := 160) d_W_tokens_147 rfl (fun c => ?_) (fun c => ?_)
    · replace h := kr_ip c h
      refine r_aload_n (i := 3) (x := x3) 2 rfl d_W_tokens_150 ?_
      refine r_iconst (v := (4 : Int32)) (by decide) d_W_tokens_151 ?_
      have h2 := kr_ob h
      clear h
      obtain ⟨v21, ev21, h⟩ := h2
      refine r_iaload ev21 d_W_tokens_152 ?_
      refine r_bipush (v := (20 : Int32)) (by decide) d_W_tokens_153 ?_
      refine r_icmp_ne (tgt := 160) d_W_tokens_155 rfl (fun c => ?_) (fun c => ?_)
      · replace h := kr_ip c h
        refine r_iconst (v := (1 : Int32)) (by decide) d_W_tokens_158 ?_
        cases h
        exact r_zret rfl rfl d_W_tokens_159
      · replace h := kr_in_ c h
        exact kr_sub [1, 2, 3, 4, 5, 6, 7, 8, 9, 10, 11, 0] rfl (s_W_tokens_B160 h)
    · replace h := kr_in_ c h
      exact kr_sub [1, 2, 3, 4, 5, 6, 7, 8, 9, 10, 11, 0] rfl (s_W_tokens_B160 h)
set_option maxRecDepth 20000 in
set_option maxHeartbeats 4000000 in
theorem s_W_tokens_B135 {S : AS} {x0 : Option Nat} {x3 : Option Nat} {x4 : Option Nat} {x6 : Option Nat} {x7 : Option Nat} {x8 : Option Nat} {x10 : Option Nat} {x12 : Int32} {x13 : Int32} {x14 : Int32} {x15 : Int32} {r : (Int32 × AS)} (h : f_W_tokens_B135 S x0 x3 x4 x6 x7 x8 x10 x12 x13 x14 x15 = some r) : kr_AW m_W_tokens 14 135 [(0, va_rf x0), (3, va_rf x3), (4, va_rf x4), (6, va_rf x6), (7, va_rf x7), (8, va_rf x8), (10, va_rf x10), (12, .int x12), (13, .int x13), (14, .int x14), (15, .int x15)] [] S (kr_eI r) := by
  unfold f_W_tokens_B135 at h
  refine r_iconst (v := (0 : Int32)) (by decide) d_W_tokens_135 ?_
  exact kr_sub [0, 1, 2, 3, 4, 5, 6, 7, 8, 9, 10] rfl (s_W_tokens_B136 h)
set_option maxRecDepth 20000 in
set_option maxHeartbeats 4000000 in
theorem s_W_tokens_B86 {S : AS} {x0 : Option Nat} {x3 : Option Nat} {x4 : Option Nat} {x6 : Option Nat} {x7 : Option Nat} {x8 : Option Nat} {x10 : Option Nat} {x12 : Int32} {x13 : Int32} {x14 : Int32} {y0 : Int32} {r : (Int32 × AS)} (h : f_W_tokens_B86 S x0 x3 x4 x6 x7 x8 x10 x12 x13 x14 y0 = some r) : kr_AW m_W_tokens 14 86 [(0, va_rf x0), (3, va_rf x3), (4, va_rf x4), (6, va_rf x6), (7, va_rf x7), (8, va_rf x8), (10, va_rf x10), (12, .int x12), (13, .int x13), (14, .int x14)] [.int y0] S (kr_eI r) := by
  unfold f_W_tokens_B86 at h
  refine r_istore (i := 15) (lv' := [(15, .int y0), (0, va_rf x0), (3, va_rf x3), (4, va_rf x4), (6, va_rf x6), (7, va_rf x7), (8, va_rf x8), (10, va_rf x10), (12, .int x12), (13, .int x13), (14, .int x14)]) (by decide) rfl d_W_tokens_86 ?_
  refine r_iload (i := 13) (x := x13) 9 rfl d_W_tokens_88 ?_
  refine r_if_eq (tgt := 135) d_W_tokens_90 rfl (fun c => ?_) (fun c => ?_)
  · replace h := kr_ip c h
    exact kr_sub [1, 2, 3, 4, 5, 6, 7, 8, 9, 10, 0] rfl (s_W_tokens_B135 h)
  · replace h := kr_in_ c h
    refine r_aload (i := 7) (x := x7) 5 rfl d_W_tokens_93 ?_
    refine r_iconst (v := (5 : Int32)) (by decide) d_W_tokens_95 ?_
    refine r_iload (i := 12) (x := x12) 8 rfl d_W_tokens_96 ?_
    refine r_imul d_W_tokens_98 ?_
    refine r_iconst (v := (4 : Int32)) (by decide) d_W_tokens_99 ?_
    refine r_iadd d_W_tokens_100 ?_
    have h2 := kr_ob h
    clear h
    obtain ⟨v22, ev22, h⟩ := h2
    refine r_iaload ev22 d_W_tokens_101 ?_
    refine r_iconst (v := (1 : Int32)) (by decide) d_W_tokens_102 ?_
    refine r_icmp_ne (tgt := 135) d_W_tokens_103 rfl (fun c => ?_) (fun c => ?_)
    · replace h := kr_ip c h
      refine r_aload (i := 4) (x := x4) 3 rfl d_W_tokens_106 ?_
      refine r_iconst (v := (4 : Int32)) (by decide) d_W_tokens_108 ?_
      refine r_aload (i := 6) (x := x6) 4 rfl d_W_tokens_109 ?_
      refine r_bipush (v := (6 : Int32)) (by decide) d_W_tokens_111 ?_
      refine r_aload (i := 7) (x := x7) 5 rfl d_W_tokens_113 ?_
      refine r_iconst (v := (5 : Int32)) (by decide) d_W_tokens_115 ?_
      refine r_iload (i := 12) (x := x12) 8 rfl d_W_tokens_116 ?_
      refine r_imul d_W_tokens_118 ?_
      have h2 := kr_ob h
      clear h
      obtain ⟨v23, ev23, h⟩ := h2
      refine r_iaload ev23 d_W_tokens_119 ?_
      refine r_imul d_W_tokens_120 ?_
      have h2 := kr_ob h
      clear h
      obtain ⟨v24, ev24, h⟩ := h2
      refine r_iaload ev24 d_W_tokens_121 ?_
      refine r_imul d_W_tokens_122 ?_
      refine r_iconst (v := (3 : Int32)) (by decide) d_W_tokens_123 ?_
      refine r_iadd d_W_tokens_124 ?_
      have h2 := kr_ob h
      clear h
      obtain ⟨v25, ev25, h⟩ := h2
      refine r_iaload ev25 d_W_tokens_125 ?_
      refine r_bipush (v := (100 : Int32)) (by decide) d_W_tokens_126 ?_
      refine r_icmp_ge (tgt := 135) d_W_tokens_128 rfl (fun c => ?_) (fun c => ?_)
      · replace h := kr_ip c h
        exact kr_sub [1, 2, 3, 4, 5, 6, 7, 8, 9, 10, 0] rfl (s_W_tokens_B135 h)
      · replace h := kr_in_ c h
        refine r_iconst (v := (1 : Int32)) (by decide) d_W_tokens_131 ?_
        refine r_goto (tgt := 136) d_W_tokens_132 rfl ?_
        exact kr_sub [1, 2, 3, 4, 5, 6, 7, 8, 9, 10, 0] rfl (s_W_tokens_B136 h)
    · replace h := kr_in_ c h
      exact kr_sub [1, 2, 3, 4, 5, 6, 7, 8, 9, 10, 0] rfl (s_W_tokens_B135 h)
set_option maxRecDepth 20000 in
set_option maxHeartbeats 4000000 in
theorem s_W_tokens_B58 {S : AS} {x0 : Option Nat} {x2 : Int32} {x3 : Option Nat} {x4 : Option Nat} {x6 : Option Nat} {x7 : Option Nat} {x8 : Option Nat} {x10 : Option Nat} {x12 : Int32} {x13 : Int32} {y0 : Int32} {r : (Int32 × AS)} (h : f_W_tokens_B58 S x0 x2 x3 x4 x6 x7 x8 x10 x12 x13 y0 = some r) : kr_AW m_W_tokens 14 58 [(0, va_rf x0), (2, .int x2), (3, va_rf x3), (4, va_rf x4), (6, va_rf x6), (7, va_rf x7), (8, va_rf x8), (10, va_rf x10), (12, .int x12), (13, .int x13)] [.int y0] S (kr_eI r) := by
  unfold f_W_tokens_B58 at h
  refine r_istore (i := 14) (lv' := [(14, .int y0), (0, va_rf x0), (2, .int x2), (3, va_rf x3), (4, va_rf x4), (6, va_rf x6), (7, va_rf x7), (8, va_rf x8), (10, va_rf x10), (12, .int x12), (13, .int x13)]) (by decide) rfl d_W_tokens_58 ?_
  refine r_iload_n (i := 2) (x := x2) 2 rfl d_W_tokens_60 ?_
  refine r_iconst (v := (5 : Int32)) (by decide) d_W_tokens_61 ?_
  refine r_ishr d_W_tokens_62 ?_
  refine r_iconst (v := (3 : Int32)) (by decide) d_W_tokens_63 ?_
  have h2 := kr_ob2 h
  clear h
  obtain ⟨v27, S26, eS26, h⟩ := h2
  refine r_callS (M1 := m_W_some) (As := [.int (x2 >>> ((5 : Int32) &&& 31)), .int (3 : Int32)]) (s_W_some eS26) mok_W_some rfl w311 w312 (by decide) (kr_c8 kr_c0) d_W_tokens_64 (kr_k1 ?_) kr_kn
  refine r_if_ne (tgt := 84) d_W_tokens_67 rfl (fun c => ?_) (fun c => ?_)
  · replace h := kr_ip c h
    refine r_iload_n (i := 2) (x := x2) 2 rfl d_W_tokens_70 ?_
    refine r_bipush (v := (6 : Int32)) (by decide) d_W_tokens_71 ?_
    refine r_ishr d_W_tokens_73 ?_
    refine r_iload (i := 14) (x := y0) 0 rfl d_W_tokens_74 ?_
    refine r_iconst (v := (2 : Int32)) (by decide) d_W_tokens_76 ?_
    refine r_iadd d_W_tokens_77 ?_
    have h2 := kr_ob2 h
    clear h
    obtain ⟨v29, S28, eS28, h⟩ := h2
    refine r_callS (M1 := m_W_some) (As := [.int (x2 >>> ((6 : Int32) &&& 31)), .int (y0 + (2 : Int32))]) (s_W_some eS28) mok_W_some rfl w311 w312 (by decide) (kr_c8 kr_c0) d_W_tokens_78 (kr_k1 ?_) kr_kn
    refine r_goto (tgt := 86) d_W_tokens_81 rfl ?_
    exact kr_sub [1, 3, 4, 5, 6, 7, 8, 9, 10, 0] rfl (s_W_tokens_B86 h)
  · replace h := kr_in_ c h
    refine r_iload (i := 14) (x := y0) 0 rfl d_W_tokens_84 ?_
    exact kr_sub [1, 3, 4, 5, 6, 7, 8, 9, 10, 0] rfl (s_W_tokens_B86 h)
set_option maxRecDepth 20000 in
set_option maxHeartbeats 4000000 in
theorem s_W_tokens_B38 {S : AS} {x0 : Option Nat} {x2 : Int32} {x3 : Option Nat} {x4 : Option Nat} {x6 : Option Nat} {x7 : Option Nat} {x8 : Option Nat} {x10 : Option Nat} {x12 : Int32} {y0 : Int32} {r : (Int32 × AS)} (h : f_W_tokens_B38 S x0 x2 x3 x4 x6 x7 x8 x10 x12 y0 = some r) : kr_AW m_W_tokens 14 38 [(0, va_rf x0), (2, .int x2), (3, va_rf x3), (4, va_rf x4), (6, va_rf x6), (7, va_rf x7), (8, va_rf x8), (10, va_rf x10), (12, .int x12)] [.int y0] S (kr_eI r) := by
  unfold f_W_tokens_B38 at h
  refine r_istore (i := 13) (lv' := [(13, .int y0), (0, va_rf x0), (2, .int x2), (3, va_rf x3), (4, va_rf x4), (6, va_rf x6), (7, va_rf x7), (8, va_rf x8), (10, va_rf x10), (12, .int x12)]) (by decide) rfl d_W_tokens_38 ?_
  refine r_iload (i := 13) (x := y0) 0 rfl d_W_tokens_40 ?_
  refine r_if_eq (tgt := 57) d_W_tokens_42 rfl (fun c => ?_) (fun c => ?_)
  · replace h := kr_ip c h
    refine r_iconst (v := (0 : Int32)) (by decide) d_W_tokens_57 ?_
    exact kr_sub [1, 2, 3, 4, 5, 6, 7, 8, 9, 0] rfl (s_W_tokens_B58 h)
  · replace h := kr_in_ c h
    refine r_aload (i := 7) (x := x7) 6 rfl d_W_tokens_45 ?_
    refine r_iconst (v := (5 : Int32)) (by decide) d_W_tokens_47 ?_
    refine r_iload (i := 12) (x := x12) 9 rfl d_W_tokens_48 ?_
    refine r_imul d_W_tokens_50 ?_
    refine r_iconst (v := (1 : Int32)) (by decide) d_W_tokens_51 ?_
    refine r_iadd d_W_tokens_52 ?_
    have h2 := kr_ob h
    clear h
    obtain ⟨v30, ev30, h⟩ := h2
    refine r_iaload ev30 d_W_tokens_53 ?_
    refine r_goto (tgt := 58) d_W_tokens_54 rfl ?_
    exact kr_sub [1, 2, 3, 4, 5, 6, 7, 8, 9, 0] rfl (s_W_tokens_B58 h)
set_option maxRecDepth 20000 in
set_option maxHeartbeats 4000000 in
theorem s_W_tokens_B23 {S : AS} {x0 : Option Nat} {x2 : Int32} {x3 : Option Nat} {x4 : Option Nat} {x6 : Option Nat} {x7 : Option Nat} {x8 : Option Nat} {x10 : Option Nat} {y0 : Int32} {r : (Int32 × AS)} (h : f_W_tokens_B23 S x0 x2 x3 x4 x6 x7 x8 x10 y0 = some r) : kr_AW m_W_tokens 14 23 [(0, va_rf x0), (2, .int x2), (3, va_rf x3), (4, va_rf x4), (6, va_rf x6), (7, va_rf x7), (8, va_rf x8), (10, va_rf x10)] [.int y0] S (kr_eI r) := by
  unfold f_W_tokens_B23 at h
  refine r_istore (i := 12) (lv' := [(12, .int y0), (0, va_rf x0), (2, .int x2), (3, va_rf x3), (4, va_rf x4), (6, va_rf x6), (7, va_rf x7), (8, va_rf x8), (10, va_rf x10)]) (by decide) rfl d_W_tokens_23 ?_
  refine r_iload (i := 12) (x := y0) 0 rfl d_W_tokens_25 ?_
  refine r_aload_n (i := 3) (x := x3) 3 rfl d_W_tokens_27 ?_
  refine r_iconst (v := (3 : Int32)) (by decide) d_W_tokens_28 ?_
  have h2 := kr_ob h
  clear h
  obtain ⟨v31, ev31, h⟩ := h2
  refine r_iaload ev31 d_W_tokens_29 ?_
  refine r_icmp_ge (tgt := 37) d_W_tokens_30 rfl (fun c => ?_) (fun c => ?_)
  · replace h := kr_ip c h
    refine r_iconst (v := (0 : Int32)) (by decide) d_W_tokens_37 ?_
    exact kr_sub [1, 2, 3, 4, 5, 6, 7, 8, 0] rfl (s_W_tokens_B38 h)
  · replace h := kr_in_ c h
    refine r_iconst (v := (1 : Int32)) (by decide) d_W_tokens_33 ?_
    refine r_goto (tgt := 38) d_W_tokens_34 rfl ?_
    exact kr_sub [1, 2, 3, 4, 5, 6, 7, 8, 0] rfl (s_W_tokens_B38 h)
set_option maxRecDepth 20000 in
set_option maxHeartbeats 4000000 in
theorem s_W_tokens_B772 {S : AS} {y0 : Int32} {y1 : Int32} {r : (Int32 × AS)} (h : f_W_tokens_B772 S y0 y1 = some r) : kr_AW m_W_tokens 14 772 [] [.int y1, .int y0] S (kr_eI r) := by
  unfold f_W_tokens_B772 at h
  refine r_icmp_ne (tgt := 779) d_W_tokens_772 rfl (fun c => ?_) (fun c => ?_)
  · replace h := kr_ip c h
    refine r_iconst (v := (1 : Int32)) (by decide) d_W_tokens_775 ?_
    refine r_goto (tgt := 780) d_W_tokens_776 rfl ?_
    cases h
    exact r_zret rfl rfl d_W_tokens_780
  · replace h := kr_in_ c h
    refine r_iconst (v := (0 : Int32)) (by decide) d_W_tokens_779 ?_
    cases h
    exact r_zret rfl rfl d_W_tokens_780
set_option maxRecDepth 20000 in
set_option maxHeartbeats 4000000 in
theorem s_W_tokens_B735 {S : AS} {x0 : Option Nat} {x12 : Int32} {x13 : Int32} {x14 : Int32} {x16 : Int32} {x18 : Int32} {y0 : Int32} {r : (Int32 × AS)} (h : f_W_tokens_B735 S x0 x12 x13 x14 x16 x18 y0 = some r) : kr_AW m_W_tokens 14 735 [(0, va_rf x0), (12, .int x12), (13, .int x13), (14, .int x14), (16, .int x16), (18, .int x18)] [.int y0] S (kr_eI r) := by
  unfold f_W_tokens_B735 at h
  refine r_istore (i := 20) (lv' := [(20, .int y0), (0, va_rf x0), (12, .int x12), (13, .int x13), (14, .int x14), (16, .int x16), (18, .int x18)]) (by decide) rfl d_W_tokens_735 ?_
  refine r_aload_n (i := 0) (x := x0) 1 rfl d_W_tokens_737 ?_
  refine r_iconst (v := (2 : Int32)) (by decide) d_W_tokens_738 ?_
  refine r_iload (i := 12) (x := x12) 2 rfl d_W_tokens_739 ?_
  refine r_iload (i := 13) (x := x13) 3 rfl d_W_tokens_741 ?_
  refine r_iload (i := 14) (x := x14) 4 rfl d_W_tokens_743 ?_
  have h2 := kr_ob2 h
  clear h
  obtain ⟨v33, S32, eS32, h⟩ := h2
  refine r_callSX (M1 := m_W_three) (As := [va_rf x0, .int (2 : Int32), .int x12, .int x13, .int x14]) (s_W_threeg eS32) mok_W_three (by decide) w645 w646 (by decide) (kr_c8 kr_c0) d_W_tokens_745 (kr_k1 ?_) kr_kn
  refine r_iload (i := 16) (x := x16) 5 rfl d_W_tokens_748 ?_
  refine r_if_ne (tgt := 759) d_W_tokens_750 rfl (fun c => ?_) (fun c => ?_)
  · replace h := kr_ip c h
    refine r_sipush (v := (-1002 : Int32)) (by decide) d_W_tokens_753 ?_
    refine r_goto (tgt := 772) d_W_tokens_756 rfl ?_
    exact kr_sub [] rfl (s_W_tokens_B772 h)
  · replace h := kr_in_ c h
    refine r_iload (i := 18) (x := x18) 6 rfl d_W_tokens_759 ?_
    refine r_if_ne (tgt := 770) d_W_tokens_761 rfl (fun c => ?_) (fun c => ?_)
    · replace h := kr_ip c h
      refine r_sipush (v := (-1003 : Int32)) (by decide) d_W_tokens_764 ?_
      refine r_goto (tgt := 772) d_W_tokens_767 rfl ?_
      exact kr_sub [] rfl (s_W_tokens_B772 h)
    · replace h := kr_in_ c h
      refine r_iload (i := 20) (x := y0) 0 rfl d_W_tokens_770 ?_
      exact kr_sub [] rfl (s_W_tokens_B772 h)
set_option maxRecDepth 20000 in
set_option maxHeartbeats 4000000 in
theorem s_W_tokens_B733 {S : AS} {x0 : Option Nat} {x12 : Int32} {x13 : Int32} {x14 : Int32} {x16 : Int32} {x18 : Int32} {r : (Int32 × AS)} (h : f_W_tokens_B733 S x0 x12 x13 x14 x16 x18 = some r) : kr_AW m_W_tokens 14 733 [(0, va_rf x0), (12, .int x12), (13, .int x13), (14, .int x14), (16, .int x16), (18, .int x18)] [] S (kr_eI r) := by
  unfold f_W_tokens_B733 at h
  refine r_bipush (v := (-2 : Int32)) (by decide) d_W_tokens_733 ?_
  exact kr_sub [0, 1, 2, 3, 4, 5] rfl (s_W_tokens_B735 h)
set_option maxRecDepth 20000 in
set_option maxHeartbeats 4000000 in
theorem s_W_tokens_B667 {S : AS} {x0 : Option Nat} {x3 : Option Nat} {x7 : Option Nat} {x8 : Option Nat} {x12 : Int32} {x13 : Int32} {x14 : Int32} {x15 : Int32} {x16 : Int32} {x17 : Int32} {x18 : Int32} {x19 : Int32} {r : (Int32 × AS)} (h : f_W_tokens_B667 S x0 x3 x7 x8 x12 x13 x14 x15 x16 x17 x18 x19 = some r) : kr_AW m_W_tokens 14 667 [(0, va_rf x0), (3, va_rf x3), (7, va_rf x7), (8, va_rf x8), (12, .int x12), (13, .int x13), (14, .int x14), (15, .int x15), (16, .int x16), (17, .int x17), (18, .int x18), (19, .int x19)] [] S (kr_eI r) := by
  unfold f_W_tokens_B667 at h
  refine r_iload (i := 18) (x := x18) 10 rfl d_W_tokens_667 ?_
  refine r_if_eq (tgt := 733) d_W_tokens_669 rfl (fun c => ?_) (fun c => ?_)
  · replace h := kr_ip c h
    exact kr_sub [0, 4, 5, 6, 8, 10] rfl (s_W_tokens_B733 h)
  · replace h := kr_in_ c h
    refine r_iload (i := 19) (x := x19) 11 rfl d_W_tokens_672 ?_
    refine r_if_ne (tgt := 733) d_W_tokens_674 rfl (fun c => ?_) (fun c => ?_)
    · replace h := kr_ip c h
      refine r_aload_n (i := 3) (x := x3) 1 rfl d_W_tokens_677 ?_
      refine r_aload (i := 7) (x := x7) 2 rfl d_W_tokens_678 ?_
      refine r_aload (i := 8) (x := x8) 3 rfl d_W_tokens_680 ?_
      refine r_iload (i := 15) (x := x15) 7 rfl d_W_tokens_682 ?_
      refine r_aload (i := 8) (x := x8) 3 rfl d_W_tokens_684 ?_
      refine r_iconst (v := (3 : Int32)) (by decide) d_W_tokens_686 ?_
      refine r_iload (i := 12) (x := x12) 4 rfl d_W_tokens_687 ?_
      refine r_imul d_W_tokens_689 ?_
      have h2 := kr_ob h
      clear h
      obtain ⟨v34, ev34, h⟩ := h2
      refine r_iaload ev34 d_W_tokens_690 ?_
      refine r_bipush (v := (10 : Int32)) (by decide) d_W_tokens_691 ?_
      refine r_idiv (by decide) d_W_tokens_693 ?_
      refine r_bipush (v := (10 : Int32)) (by decide) d_W_tokens_694 ?_
      have h2 := kr_ob h
      clear h
      obtain ⟨i35, ei35, h⟩ := h2
      refine kr_nmI2 ei35 ?_
      refine r_irem (by decide) d_W_tokens_696 ?_
      refine r_bipush (v := (10 : Int32)) (by decide) d_W_tokens_697 ?_
      refine r_iload (i := 13) (x := x13) 5 rfl d_W_tokens_699 ?_
      refine r_imul d_W_tokens_701 ?_
      refine r_iadd d_W_tokens_702 ?_
      refine r_bipush (v := (100 : Int32)) (by decide) d_W_tokens_703 ?_
      refine r_iload (i := 17) (x := x17) 9 rfl d_W_tokens_705 ?_
      refine r_iconst (v := (1 : Int32)) (by decide) d_W_tokens_707 ?_
      refine r_iadd d_W_tokens_708 ?_
      refine r_imul d_W_tokens_709 ?_
      refine r_iadd d_W_tokens_710 ?_
      refine r_sipush (v := (1000 : Int32)) (by decide) d_W_tokens_711 ?_
      refine r_iload (i := 14) (x := x14) 6 rfl d_W_tokens_714 ?_
      refine r_imul d_W_tokens_716 ?_
      refine r_iadd d_W_tokens_717 ?_
      refine r_aload (i := 8) (x := x8) 3 rfl d_W_tokens_718 ?_
      refine r_iconst (v := (3 : Int32)) (by decide) d_W_tokens_720 ?_
      refine r_iload (i := 12) (x := x12) 4 rfl d_W_tokens_721 ?_
      refine r_imul d_W_tokens_723 ?_
      refine r_iconst (v := (2 : Int32)) (by decide) d_W_tokens_724 ?_
      refine r_iadd d_W_tokens_725 ?_
      have h2 := kr_ob h
      clear h
      obtain ⟨v36, ev36, h⟩ := h2
      refine r_iaload ev36 d_W_tokens_726 ?_
      have h2 := kr_ob2 h
      clear h
      obtain ⟨v38, S37, eS37, h⟩ := h2
      refine r_callS (M1 := m_W_makes) (As := [va_rf x3, va_rf x7, va_rf x8, .int x15, .int ((((i35 - i35 / (10 : Int32) * (10 : Int32)) + ((10 : Int32) * x13)) + ((100 : Int32) * (x17 + (1 : Int32)))) + ((1000 : Int32) * x14)), .int v36]) (s_W_makes eS37) mok_W_makes rfl w1336 w1337 (by decide) (kr_c8 kr_c0) d_W_tokens_727 (kr_k1 ?_) kr_kn
      refine r_goto (tgt := 735) d_W_tokens_730 rfl ?_
      exact kr_sub [0, 4, 5, 6, 8, 10] rfl (s_W_tokens_B735 h)
    · replace h := kr_in_ c h
      exact kr_sub [0, 4, 5, 6, 8, 10] rfl (s_W_tokens_B733 h)
set_option maxRecDepth 20000 in
set_option maxHeartbeats 4000000 in
theorem s_W_tokens_B652 {S : AS} {x0 : Option Nat} {x3 : Option Nat} {x7 : Option Nat} {x8 : Option Nat} {x12 : Int32} {x13 : Int32} {x14 : Int32} {x15 : Int32} {x16 : Int32} {x17 : Int32} {x18 : Int32} {x19 : Int32} {r : (Int32 × AS)} (h : f_W_tokens_B652 S x0 x3 x7 x8 x12 x13 x14 x15 x16 x17 x18 x19 = some r) : kr_AW m_W_tokens 14 652 [(0, va_rf x0), (3, va_rf x3), (7, va_rf x7), (8, va_rf x8), (12, .int x12), (13, .int x13), (14, .int x14), (15, .int x15), (16, .int x16), (17, .int x17), (18, .int x18), (19, .int x19)] [] S (kr_eI r) := by
  unfold f_W_tokens_B652 at h
  refine r_iload (i := 18) (x := x18) 10 rfl d_W_tokens_652 ?_
  refine r_if_eq (tgt := 667) d_W_tokens_654 rfl (fun c => ?_) (fun c => ?_)
  · replace h := kr_ip c h
    exact kr_sub [0, 1, 2, 3, 4, 5, 6, 7, 8, 9, 10, 11] rfl (s_W_tokens_B667 h)
  · replace h := kr_in_ c h
    refine r_aload_n (i := 3) (x := x3) 1 rfl d_W_tokens_657 ?_
    refine r_iconst (v := (4 : Int32)) (by decide) d_W_tokens_658 ?_
    have h2 := kr_ob h
    clear h
    obtain ⟨v39, ev39, h⟩ := h2
    refine r_iaload ev39 d_W_tokens_659 ?_
    refine r_bipush (v := (20 : Int32)) (by decide) d_W_tokens_660 ?_
    refine r_icmp_ne (tgt := 667) d_W_tokens_662 rfl (fun c => ?_) (fun c => ?_)
    · replace h := kr_ip c h
      refine r_iconst (v := (1 : Int32)) (by decide) d_W_tokens_665 ?_
      cases h
      exact r_zret rfl rfl d_W_tokens_666
    · replace h := kr_in_ c h
      exact kr_sub [0, 1, 2, 3, 4, 5, 6, 7, 8, 9, 10, 11] rfl (s_W_tokens_B667 h)
set_option maxRecDepth 20000 in
set_option maxHeartbeats 4000000 in
theorem s_W_tokens_B632 {S : AS} {x0 : Option Nat} {x3 : Option Nat} {x7 : Option Nat} {x8 : Option Nat} {x12 : Int32} {x13 : Int32} {x14 : Int32} {x15 : Int32} {x16 : Int32} {x17 : Int32} {x18 : Int32} {y0 : Int32} {r : (Int32 × AS)} (h : f_W_tokens_B632 S x0 x3 x7 x8 x12 x13 x14 x15 x16 x17 x18 y0 = some r) : kr_AW m_W_tokens 14 632 [(0, va_rf x0), (3, va_rf x3), (7, va_rf x7), (8, va_rf x8), (12, .int x12), (13, .int x13), (14, .int x14), (15, .int x15), (16, .int x16), (17, .int x17), (18, .int x18)] [.int y0] S (kr_eI r) := by
  unfold f_W_tokens_B632 at h
  refine r_istore (i := 19) (lv' := [(19, .int y0), (0, va_rf x0), (3, va_rf x3), (7, va_rf x7), (8, va_rf x8), (12, .int x12), (13, .int x13), (14, .int x14), (15, .int x15), (16, .int x16), (17, .int x17), (18, .int x18)]) (by decide) rfl d_W_tokens_632 ?_
  refine r_iload (i := 18) (x := x18) 11 rfl d_W_tokens_634 ?_
  refine r_if_eq (tgt := 652) d_W_tokens_636 rfl (fun c => ?_) (fun c => ?_)
  · replace h := kr_ip c h
    exact kr_sub [1, 2, 3, 4, 5, 6, 7, 8, 9, 10, 11, 0] rfl (s_W_tokens_B652 h)
  · replace h := kr_in_ c h
    refine r_iload (i := 19) (x := y0) 0 rfl d_W_tokens_639 ?_
    refine r_if_ne (tgt := 652) d_W_tokens_641 rfl (fun c => ?_) (fun c => ?_)
    · replace h := kr_ip c h
      refine r_aload_n (i := 3) (x := x3) 2 rfl d_W_tokens_644 ?_
      refine r_iconst (v := (4 : Int32)) (by decide) d_W_tokens_645 ?_
      have h2 := kr_ob h
      clear h
      obtain ⟨v40, ev40, h⟩ := h2
      refine r_iaload ev40 d_W_tokens_646 ?_
      refine r_bipush (v := (20 : Int32)) (by decide) d_W_tokens_647 ?_
      refine r_icmp_eq (tgt := 665) d_W_tokens_649 rfl (fun c => ?_) (fun c => ?_)
      · replace h := kr_ip c h
        refine r_iconst (v := (1 : Int32)) (by decide) d_W_tokens_665 ?_
        cases h
        exact r_zret rfl rfl d_W_tokens_666
      · replace h := kr_in_ c h
        exact kr_sub [1, 2, 3, 4, 5, 6, 7, 8, 9, 10, 11, 0] rfl (s_W_tokens_B652 h)
    · replace h := kr_in_ c h
      exact kr_sub [1, 2, 3, 4, 5, 6, 7, 8, 9, 10, 11, 0] rfl (s_W_tokens_B652 h)
set_option maxRecDepth 20000 in
set_option maxHeartbeats 4000000 in
theorem s_W_tokens_B631 {S : AS} {x0 : Option Nat} {x3 : Option Nat} {x7 : Option Nat} {x8 : Option Nat} {x12 : Int32} {x13 : Int32} {x14 : Int32} {x15 : Int32} {x16 : Int32} {x17 : Int32} {x18 : Int32} {r : (Int32 × AS)} (h : f_W_tokens_B631 S x0 x3 x7 x8 x12 x13 x14 x15 x16 x17 x18 = some r) : kr_AW m_W_tokens 14 631 [(0, va_rf x0), (3, va_rf x3), (7, va_rf x7), (8, va_rf x8), (12, .int x12), (13, .int x13), (14, .int x14), (15, .int x15), (16, .int x16), (17, .int x17), (18, .int x18)] [] S (kr_eI r) := by
  unfold f_W_tokens_B631 at h
  refine r_iconst (v := (0 : Int32)) (by decide) d_W_tokens_631 ?_
  exact kr_sub [0, 1, 2, 3, 4, 5, 6, 7, 8, 9, 10] rfl (s_W_tokens_B632 h)
set_option maxRecDepth 20000 in
set_option maxHeartbeats 4000000 in
theorem s_W_tokens_B590 {S : AS} {x0 : Option Nat} {x3 : Option Nat} {x5 : Option Nat} {x6 : Option Nat} {x7 : Option Nat} {x8 : Option Nat} {x11 : Option Nat} {x12 : Int32} {x13 : Int32} {x14 : Int32} {x15 : Int32} {x16 : Int32} {x17 : Int32} {y0 : Int32} {r : (Int32 × AS)} (h : f_W_tokens_B590 S x0 x3 x5 x6 x7 x8 x11 x12 x13 x14 x15 x16 x17 y0 = some r) : kr_AW m_W_tokens 14 590 [(0, va_rf x0), (3, va_rf x3), (5, va_rf x5), (6, va_rf x6), (7, va_rf x7), (8, va_rf x8), (11, va_rf x11), (12, .int x12), (13, .int x13), (14, .int x14), (15, .int x15), (16, .int x16), (17, .int x17)] [.int y0] S (kr_eI r) := by
  unfold f_W_tokens_B590 at h
  refine r_istore (i := 18) (lv' := [(18, .int y0), (0, va_rf x0), (3, va_rf x3), (5, va_rf x5), (6, va_rf x6), (7, va_rf x7), (8, va_rf x8), (11, va_rf x11), (12, .int x12), (13, .int x13), (14, .int x14), (15, .int x15), (16, .int x16), (17, .int x17)]) (by decide) rfl d_W_tokens_590 ?_
  refine r_iload (i := 18) (x := y0) 0 rfl d_W_tokens_592 ?_
  refine r_if_eq (tgt := 631) d_W_tokens_594 rfl (fun c => ?_) (fun c => ?_)
  · replace h := kr_ip c h
    exact kr_sub [1, 2, 5, 6, 8, 9, 10, 11, 12, 13, 0] rfl (s_W_tokens_B631 h)
  · replace h := kr_in_ c h
    refine r_aload_n (i := 3) (x := x3) 2 rfl d_W_tokens_597 ?_
    refine r_aload (i := 5) (x := x5) 3 rfl d_W_tokens_598 ?_
    refine r_aload (i := 6) (x := x6) 4 rfl d_W_tokens_600 ?_
    refine r_bipush (v := (6 : Int32)) (by decide) d_W_tokens_602 ?_
    refine r_aload (i := 7) (x := x7) 5 rfl d_W_tokens_604 ?_
    refine r_iconst (v := (5 : Int32)) (by decide) d_W_tokens_606 ?_
    refine r_iload (i := 15) (x := x15) 11 rfl d_W_tokens_607 ?_
    refine r_imul d_W_tokens_609 ?_
    have h2 := kr_ob h
    clear h
    obtain ⟨v41, ev41, h⟩ := h2
    refine r_iaload ev41 d_W_tokens_610 ?_
    refine r_imul d_W_tokens_611 ?_
    have h2 := kr_ob h
    clear h
    obtain ⟨v42, ev42, h⟩ := h2
    refine r_iaload ev42 d_W_tokens_612 ?_
    have h2 := kr_ob2 h
    clear h
    obtain ⟨v44, S43, eS43, h⟩ := h2
    refine r_callS (M1 := m_W_levelOf) (As := [va_rf x3, va_rf x5, .int v42]) (s_W_levelOf eS43) mok_W_levelOf rfl w1296 w1297 (by decide) (kr_c8 kr_c0) d_W_tokens_613 (kr_k1 ?_) kr_kn
    refine r_aload (i := 11) (x := x11) 7 rfl d_W_tokens_616 ?_
    refine r_bipush (v := (16 : Int32)) (by decide) d_W_tokens_618 ?_
    refine r_iload (i := 13) (x := x13) 9 rfl d_W_tokens_620 ?_
    refine r_iadd d_W_tokens_622 ?_
    have h2 := kr_ob h
    clear h
    obtain ⟨v45, ev45, h⟩ := h2
    refine r_iaload ev45 d_W_tokens_623 ?_
    refine r_icmp_ge (tgt := 631) d_W_tokens_624 rfl (fun c => ?_) (fun c => ?_)
    · replace h := kr_ip c h
      exact kr_sub [1, 2, 5, 6, 8, 9, 10, 11, 12, 13, 0] rfl (s_W_tokens_B631 h)
    · replace h := kr_in_ c h
      refine r_iconst (v := (1 : Int32)) (by decide) d_W_tokens_627 ?_
      refine r_goto (tgt := 632) d_W_tokens_628 rfl ?_
      exact kr_sub [1, 2, 5, 6, 8, 9, 10, 11, 12, 13, 0] rfl (s_W_tokens_B632 h)
set_option maxRecDepth 20000 in
set_option maxHeartbeats 4000000 in
theorem s_W_tokens_B589 {S : AS} {x0 : Option Nat} {x3 : Option Nat} {x5 : Option Nat} {x6 : Option Nat} {x7 : Option Nat} {x8 : Option Nat} {x11 : Option Nat} {x12 : Int32} {x13 : Int32} {x14 : Int32} {x15 : Int32} {x16 : Int32} {x17 : Int32} {r : (Int32 × AS)} (h : f_W_tokens_B589 S x0 x3 x5 x6 x7 x8 x11 x12 x13 x14 x15 x16 x17 = some r) : kr_AW m_W_tokens 14 589 [(0, va_rf x0), (3, va_rf x3), (5, va_rf x5), (6, va_rf x6), (7, va_rf x7), (8, va_rf x8), (11, va_rf x11), (12, .int x12), (13, .int x13), (14, .int x14), (15, .int x15), (16, .int x16), (17, .int x17)] [] S (kr_eI r) := by
  unfold f_W_tokens_B589 at h
  refine r_iconst (v := (0 : Int32)) (by decide) d_W_tokens_589 ?_
  exact kr_sub [0, 1, 2, 3, 4, 5, 6, 7, 8, 9, 10, 11, 12] rfl (s_W_tokens_B590 h)
set_option maxRecDepth 20000 in
set_option maxHeartbeats 4000000 in
theorem s_W_tokens_B529 {S : AS} {x0 : Option Nat} {x3 : Option Nat} {x5 : Option Nat} {x6 : Option Nat} {x7 : Option Nat} {x8 : Option Nat} {x11 : Option Nat} {x12 : Int32} {x13 : Int32} {x14 : Int32} {x15 : Int32} {y0 : Int32} {r : (Int32 × AS)} (h : f_W_tokens_B529 S x0 x3 x5 x6 x7 x8 x11 x12 x13 x14 x15 y0 = some r) : kr_AW m_W_tokens 14 529 [(0, va_rf x0), (3, va_rf x3), (5, va_rf x5), (6, va_rf x6), (7, va_rf x7), (8, va_rf x8), (11, va_rf x11), (12, .int x12), (13, .int x13), (14, .int x14), (15, .int x15)] [.int y0] S (kr_eI r) := by
  unfold f_W_tokens_B529 at h
  refine r_istore (i := 16) (lv' := [(16, .int y0), (0, va_rf x0), (3, va_rf x3), (5, va_rf x5), (6, va_rf x6), (7, va_rf x7), (8, va_rf x8), (11, va_rf x11), (12, .int x12), (13, .int x13), (14, .int x14), (15, .int x15)]) (by decide) rfl d_W_tokens_529 ?_
  refine r_aload (i := 8) (x := x8) 6 rfl d_W_tokens_531 ?_
  refine r_iconst (v := (3 : Int32)) (by decide) d_W_tokens_533 ?_
  refine r_iload (i := 12) (x := x12) 8 rfl d_W_tokens_534 ?_
  refine r_imul d_W_tokens_536 ?_
  have h2 := kr_ob h
  clear h
  obtain ⟨v46, ev46, h⟩ := h2
  refine r_iaload ev46 d_W_tokens_537 ?_
  refine r_bipush (v := (100 : Int32)) (by decide) d_W_tokens_538 ?_
  refine r_idiv (by decide) d_W_tokens_540 ?_
  refine r_bipush (v := (10 : Int32)) (by decide) d_W_tokens_541 ?_
  have h2 := kr_ob h
  clear h
  obtain ⟨i47, ei47, h⟩ := h2
  refine kr_nmI2 ei47 ?_
  refine r_irem (by decide) d_W_tokens_543 ?_
  have h2 := kr_ob h
  clear h
  obtain ⟨i48, ei48, h⟩ := h2
  refine kr_nmI ei48 ?_
  refine r_istore (i := 17) (lv' := [(17, .int i48), (16, .int y0), (0, va_rf x0), (3, va_rf x3), (5, va_rf x5), (6, va_rf x6), (7, va_rf x7), (8, va_rf x8), (11, va_rf x11), (12, .int x12), (13, .int x13), (14, .int x14), (15, .int x15)]) (by decide) rfl d_W_tokens_544 ?_
  refine r_iload (i := 16) (x := y0) 1 rfl d_W_tokens_546 ?_
  refine r_if_eq (tgt := 589) d_W_tokens_548 rfl (fun c => ?_) (fun c => ?_)
  · replace h := kr_ip c h
    exact kr_sub [2, 3, 4, 5, 6, 7, 8, 9, 10, 11, 12, 1, 0] rfl (s_W_tokens_B589 h)
  · replace h := kr_in_ c h
    refine r_aload (i := 8) (x := x8) 7 rfl d_W_tokens_551 ?_
    refine r_iconst (v := (3 : Int32)) (by decide) d_W_tokens_553 ?_
    refine r_iload (i := 12) (x := x12) 9 rfl d_W_tokens_554 ?_
    refine r_imul d_W_tokens_556 ?_
    refine r_iconst (v := (2 : Int32)) (by decide) d_W_tokens_557 ?_
    refine r_iadd d_W_tokens_558 ?_
    have h2 := kr_ob h
    clear h
    obtain ⟨v49, ev49, h⟩ := h2
    refine r_iaload ev49 d_W_tokens_559 ?_
    refine r_aload_n (i := 3) (x := x3) 3 rfl d_W_tokens_560 ?_
    refine r_iconst (v := (0 : Int32)) (by decide) d_W_tokens_561 ?_
    have h2 := kr_ob h
    clear h
    obtain ⟨v50, ev50, h⟩ := h2
    refine r_iaload ev50 d_W_tokens_562 ?_
    refine r_icmp_lt (tgt := 589) d_W_tokens_563 rfl (fun c => ?_) (fun c => ?_)
    · replace h := kr_ip c h
      exact kr_sub [2, 3, 4, 5, 6, 7, 8, 9, 10, 11, 12, 1, 0] rfl (s_W_tokens_B589 h)
    · replace h := kr_in_ c h
      refine r_aload (i := 7) (x := x7) 6 rfl d_W_tokens_566 ?_
      refine r_iconst (v := (5 : Int32)) (by decide) d_W_tokens_568 ?_
      refine r_iload (i := 15) (x := x15) 12 rfl d_W_tokens_569 ?_
      refine r_imul d_W_tokens_571 ?_
      refine r_iconst (v := (4 : Int32)) (by decide) d_W_tokens_572 ?_
      refine r_iadd d_W_tokens_573 ?_
      have h2 := kr_ob h
      clear h
      obtain ⟨v51, ev51, h⟩ := h2
      refine r_iaload ev51 d_W_tokens_574 ?_
      refine r_iconst (v := (1 : Int32)) (by decide) d_W_tokens_575 ?_
      refine r_icmp_ne (tgt := 589) d_W_tokens_576 rfl (fun c => ?_) (fun c => ?_)
      · replace h := kr_ip c h
        refine r_iload (i := 17) (x := i48) 0 rfl d_W_tokens_579 ?_
        refine r_iconst (v := (3 : Int32)) (by decide) d_W_tokens_581 ?_
        refine r_icmp_ge (tgt := 589) d_W_tokens_582 rfl (fun c => ?_) (fun c => ?_)
        · replace h := kr_ip c h
          exact kr_sub [2, 3, 4, 5, 6, 7, 8, 9, 10, 11, 12, 1, 0] rfl (s_W_tokens_B589 h)
        · replace h := kr_in_ c h
          refine r_iconst (v := (1 : Int32)) (by decide) d_W_tokens_585 ?_
          refine r_goto (tgt := 590) d_W_tokens_586 rfl ?_
          exact kr_sub [2, 3, 4, 5, 6, 7, 8, 9, 10, 11, 12, 1, 0] rfl (s_W_tokens_B590 h)
      · replace h := kr_in_ c h
        exact kr_sub [2, 3, 4, 5, 6, 7, 8, 9, 10, 11, 12, 1, 0] rfl (s_W_tokens_B589 h)
set_option maxRecDepth 20000 in
set_option maxHeartbeats 4000000 in
theorem s_W_tokens_B528 {S : AS} {x0 : Option Nat} {x3 : Option Nat} {x5 : Option Nat} {x6 : Option Nat} {x7 : Option Nat} {x8 : Option Nat} {x11 : Option Nat} {x12 : Int32} {x13 : Int32} {x14 : Int32} {x15 : Int32} {r : (Int32 × AS)} (h : f_W_tokens_B528 S x0 x3 x5 x6 x7 x8 x11 x12 x13 x14 x15 = some r) : kr_AW m_W_tokens 14 528 [(0, va_rf x0), (3, va_rf x3), (5, va_rf x5), (6, va_rf x6), (7, va_rf x7), (8, va_rf x8), (11, va_rf x11), (12, .int x12), (13, .int x13), (14, .int x14), (15, .int x15)] [] S (kr_eI r) := by
  unfold f_W_tokens_B528 at h
  refine r_iconst (v := (0 : Int32)) (by decide) d_W_tokens_528 ?_
  exact kr_sub [0, 1, 2, 3, 4, 5, 6, 7, 8, 9, 10] rfl (s_W_tokens_B529 h)
set_option maxRecDepth 20000 in
set_option maxHeartbeats 4000000 in
theorem s_W_tokens_B455 {S : AS} {x0 : Option Nat} {x3 : Option Nat} {x5 : Option Nat} {x6 : Option Nat} {x7 : Option Nat} {x8 : Option Nat} {x11 : Option Nat} {x12 : Int32} {x13 : Int32} {y0 : Int32} {r : (Int32 × AS)} (h : f_W_tokens_B455 S x0 x3 x5 x6 x7 x8 x11 x12 x13 y0 = some r) : kr_AW m_W_tokens 14 455 [(0, va_rf x0), (3, va_rf x3), (5, va_rf x5), (6, va_rf x6), (7, va_rf x7), (8, va_rf x8), (11, va_rf x11), (12, .int x12), (13, .int x13)] [.int y0] S (kr_eI r) := by
  unfold f_W_tokens_B455 at h
  refine r_istore (i := 14) (lv' := [(14, .int y0), (0, va_rf x0), (3, va_rf x3), (5, va_rf x5), (6, va_rf x6), (7, va_rf x7), (8, va_rf x8), (11, va_rf x11), (12, .int x12), (13, .int x13)]) (by decide) rfl d_W_tokens_455 ?_
  refine r_aload_n (i := 3) (x := x3) 2 rfl d_W_tokens_457 ?_
  refine r_iconst (v := (4 : Int32)) (by decide) d_W_tokens_458 ?_
  have h2 := kr_ob h
  clear h
  obtain ⟨v52, ev52, h⟩ := h2
  refine r_iaload ev52 d_W_tokens_459 ?_
  refine r_if_ne (tgt := 486) d_W_tokens_460 rfl (fun c => ?_) (fun c => ?_)
  · replace h := kr_ip c h
    refine r_aload_n (i := 0) (x := x0) 1 rfl d_W_tokens_463 ?_
    refine r_iconst (v := (2 : Int32)) (by decide) d_W_tokens_464 ?_
    refine r_iload (i := 12) (x := x12) 8 rfl d_W_tokens_465 ?_
    refine r_iload (i := 13) (x := x13) 9 rfl d_W_tokens_467 ?_
    refine r_iload (i := 14) (x := y0) 0 rfl d_W_tokens_469 ?_
    have h2 := kr_ob2 h
    clear h
    obtain ⟨v54, S53, eS53, h⟩ := h2
    refine r_callSX (M1 := m_W_three) (As := [va_rf x0, .int (2 : Int32), .int x12, .int x13, .int y0]) (s_W_threeg eS53) mok_W_three (by decide) w645 w646 (by decide) (kr_c8 kr_c0) d_W_tokens_471 (kr_k1 ?_) kr_kn
    refine r_sipush (v := (-1001 : Int32)) (by decide) d_W_tokens_474 ?_
    refine r_icmp_ne (tgt := 484) d_W_tokens_477 rfl (fun c => ?_) (fun c => ?_)
    · replace h := kr_ip c h
      refine r_iconst (v := (1 : Int32)) (by decide) d_W_tokens_480 ?_
      refine r_goto (tgt := 485) d_W_tokens_481 rfl ?_
      cases h
      exact r_zret rfl rfl d_W_tokens_485
    · replace h := kr_in_ c h
      refine r_iconst (v := (0 : Int32)) (by decide) d_W_tokens_484 ?_
      cases h
      exact r_zret rfl rfl d_W_tokens_485
  · replace h := kr_in_ c h
    refine r_aload (i := 8) (x := x8) 6 rfl d_W_tokens_486 ?_
    refine r_iconst (v := (3 : Int32)) (by decide) d_W_tokens_488 ?_
    refine r_iload (i := 12) (x := x12) 8 rfl d_W_tokens_489 ?_
    refine r_imul d_W_tokens_491 ?_
    refine r_iconst (v := (1 : Int32)) (by decide) d_W_tokens_492 ?_
    refine r_iadd d_W_tokens_493 ?_
    have h2 := kr_ob h
    clear h
    obtain ⟨v55, ev55, h⟩ := h2
    refine r_iaload ev55 d_W_tokens_494 ?_
    refine r_bipush (v := (100 : Int32)) (by decide) d_W_tokens_495 ?_
    refine r_irem (by decide) d_W_tokens_497 ?_
    have h2 := kr_ob h
    clear h
    obtain ⟨i56, ei56, h⟩ := h2
    refine kr_nmI ei56 ?_
    refine r_istore (i := 15) (lv' := [(15, .int i56), (14, .int y0), (0, va_rf x0), (3, va_rf x3), (5, va_rf x5), (6, va_rf x6), (7, va_rf x7), (8, va_rf x8), (11, va_rf x11), (12, .int x12), (13, .int x13)]) (by decide) rfl d_W_tokens_498 ?_
    refine r_iload (i := 14) (x := y0) 1 rfl d_W_tokens_500 ?_
    refine r_if_le (tgt := 528) d_W_tokens_502 rfl (fun c => ?_) (fun c => ?_)
    · replace h := kr_ip c h
      exact kr_sub [2, 3, 4, 5, 6, 7, 8, 9, 10, 1, 0] rfl (s_W_tokens_B528 h)
    · replace h := kr_in_ c h
      refine r_iload (i := 14) (x := y0) 1 rfl d_W_tokens_505 ?_
      refine r_aload (i := 8) (x := x8) 7 rfl d_W_tokens_507 ?_
      refine r_iconst (v := (3 : Int32)) (by decide) d_W_tokens_509 ?_
      refine r_iload (i := 12) (x := x12) 9 rfl d_W_tokens_510 ?_
      refine r_imul d_W_tokens_512 ?_
      have h2 := kr_ob h
      clear h
      obtain ⟨v57, ev57, h⟩ := h2
      refine r_iaload ev57 d_W_tokens_513 ?_
      refine r_sipush (v := (1000 : Int32)) (by decide) d_W_tokens_514 ?_
      refine r_idiv (by decide) d_W_tokens_517 ?_
      refine r_iconst (v := (-1 : Int32)) (by decide) d_W_tokens_518 ?_
      refine r_ixor d_W_tokens_519 ?_
      refine r_iand d_W_tokens_520 ?_
      refine r_if_ne (tgt := 528) d_W_tokens_521 rfl (fun c => ?_) (fun c => ?_)
      · replace h := kr_ip c h
        refine r_iconst (v := (1 : Int32)) (by decide) d_W_tokens_524 ?_
        refine r_goto (tgt := 529) d_W_tokens_525 rfl ?_
        exact kr_sub [2, 3, 4, 5, 6, 7, 8, 9, 10, 1, 0] rfl (s_W_tokens_B529 h)
      · replace h := kr_in_ c h
        exact kr_sub [2, 3, 4, 5, 6, 7, 8, 9, 10, 1, 0] rfl (s_W_tokens_B528 h)
set_option maxRecDepth 20000 in
set_option maxHeartbeats 4000000 in
theorem s_W_tokens_B400 {S : AS} {x0 : Option Nat} {x2 : Int32} {x3 : Option Nat} {x5 : Option Nat} {x6 : Option Nat} {x7 : Option Nat} {x8 : Option Nat} {x11 : Option Nat} {y0 : Int32} {r : (Int32 × AS)} (h : f_W_tokens_B400 S x0 x2 x3 x5 x6 x7 x8 x11 y0 = some r) : kr_AW m_W_tokens 14 400 [(0, va_rf x0), (2, .int x2), (3, va_rf x3), (5, va_rf x5), (6, va_rf x6), (7, va_rf x7), (8, va_rf x8), (11, va_rf x11)] [.int y0] S (kr_eI r) := by
  unfold f_W_tokens_B400 at h
  refine r_istore (i := 12) (lv' := [(12, .int y0), (0, va_rf x0), (2, .int x2), (3, va_rf x3), (5, va_rf x5), (6, va_rf x6), (7, va_rf x7), (8, va_rf x8), (11, va_rf x11)]) (by decide) (by show kr_st _ 12 _ = _; simp [kr_st, kr_rfcat, kr_icat]) d_W_tokens_400 ?_
  refine r_iload_n (i := 2) (x := x2) 2 rfl d_W_tokens_402 ?_
  refine r_iconst (v := (5 : Int32)) (by decide) d_W_tokens_403 ?_
  refine r_ishr d_W_tokens_404 ?_
  refine r_iconst (v := (4 : Int32)) (by decide) d_W_tokens_405 ?_
  have h2 := kr_ob2 h
  clear h
  obtain ⟨v59, S58, eS58, h⟩ := h2
  refine r_callS (M1 := m_W_some) (As := [.int (x2 >>> ((5 : Int32) &&& 31)), .int (4 : Int32)]) (s_W_some eS58) mok_W_some rfl w311 w312 (by decide) (kr_c8 kr_c0) d_W_tokens_406 (kr_k1 ?_) kr_kn
  refine r_istore (i := 13) (lv' := [(13, .int v59), (12, .int y0), (0, va_rf x0), (2, .int x2), (3, va_rf x3), (5, va_rf x5), (6, va_rf x6), (7, va_rf x7), (8, va_rf x8), (11, va_rf x11)]) (by decide) rfl d_W_tokens_409 ?_
  refine r_iload_n (i := 2) (x := x2) 3 rfl d_W_tokens_411 ?_
  refine r_bipush (v := (6 : Int32)) (by decide) d_W_tokens_412 ?_
  refine r_ishr d_W_tokens_414 ?_
  refine r_iconst (v := (2 : Int32)) (by decide) d_W_tokens_415 ?_
  have h2 := kr_ob2 h
  clear h
  obtain ⟨v61, S60, eS60, h⟩ := h2
  refine r_callS (M1 := m_W_some) (As := [.int (x2 >>> ((6 : Int32) &&& 31)), .int (2 : Int32)]) (s_W_some eS60) mok_W_some rfl w311 w312 (by decide) (kr_c8 kr_c0) d_W_tokens_416 (kr_k1 ?_) kr_kn
  refine r_if_ne (tgt := 434) d_W_tokens_419 rfl (fun c => ?_) (fun c => ?_)
  · replace h := kr_ip c h
    refine r_iload_n (i := 2) (x := x2) 3 rfl d_W_tokens_422 ?_
    refine r_bipush (v := (7 : Int32)) (by decide) d_W_tokens_423 ?_
    refine r_ishr d_W_tokens_425 ?_
    refine r_bipush (v := (16 : Int32)) (by decide) d_W_tokens_426 ?_
    have h2 := kr_ob2 h
    clear h
    obtain ⟨v63, S62, eS62, h⟩ := h2
    refine r_callS (M1 := m_W_some) (As := [.int (x2 >>> ((7 : Int32) &&& 31)), .int (16 : Int32)]) (s_W_some eS62) mok_W_some rfl w311 w312 (by decide) (kr_c8 kr_c0) d_W_tokens_428 (kr_k1 ?_) kr_kn
    refine r_goto (tgt := 455) d_W_tokens_431 rfl ?_
    exact kr_sub [2, 4, 5, 6, 7, 8, 9, 1, 0] rfl (s_W_tokens_B455 h)
  · replace h := kr_in_ c h
    refine r_aload_n (i := 3) (x := x3) 4 rfl d_W_tokens_434 ?_
    refine r_iconst (v := (4 : Int32)) (by decide) d_W_tokens_435 ?_
    have h2 := kr_ob h
    clear h
    obtain ⟨v64, ev64, h⟩ := h2
    refine r_iaload ev64 d_W_tokens_436 ?_
    refine r_if_le (tgt := 454) d_W_tokens_437 rfl (fun c => ?_) (fun c => ?_)
    · replace h := kr_ip c h
      refine r_iconst (v := (1 : Int32)) (by decide) d_W_tokens_454 ?_
      exact kr_sub [2, 4, 5, 6, 7, 8, 9, 1, 0] rfl (s_W_tokens_B455 h)
    · replace h := kr_in_ c h
      refine r_aload (i := 8) (x := x8) 8 rfl d_W_tokens_440 ?_
      refine r_iconst (v := (3 : Int32)) (by decide) d_W_tokens_442 ?_
      refine r_iload (i := 12) (x := y0) 1 rfl d_W_tokens_443 ?_
      refine r_imul d_W_tokens_445 ?_
      have h2 := kr_ob h
      clear h
      obtain ⟨v65, ev65, h⟩ := h2
      refine r_iaload ev65 d_W_tokens_446 ?_
      refine r_sipush (v := (1000 : Int32)) (by decide) d_W_tokens_447 ?_
      refine r_idiv (by decide) d_W_tokens_450 ?_
      refine r_goto (tgt := 455) d_W_tokens_451 rfl ?_
      exact kr_sub [2, 4, 5, 6, 7, 8, 9, 1, 0] rfl (s_W_tokens_B455 h)
set_option maxRecDepth 20000 in
set_option maxHeartbeats 4000000 in
theorem s_W_tokens_B940 {S : AS} {x0 : Option Nat} {x3 : Option Nat} {y0 : Option Nat} {y1 : Int32} {y2 : Int32} {y3 : Int32} {r : (Int32 × AS)} (h : f_W_tokens_B940 S x0 x3 y0 y1 y2 y3 = some r) : kr_AW m_W_tokens 14 940 [(0, va_rf x0), (3, va_rf x3)] [.int y3, .int y2, .int y1, va_rf y0] S (kr_eI r) := by
  unfold f_W_tokens_B940 at h
  refine r_iadd d_W_tokens_940 ?_
  have h2 := kr_ob h
  clear h
  obtain ⟨S66, eS66, h⟩ := h2
  refine r_iastore eS66 d_W_tokens_941 ?_
  refine r_aload_n (i := 3) (x := x3) 1 rfl d_W_tokens_942 ?_
  refine r_bipush (v := (7 : Int32)) (by decide) d_W_tokens_943 ?_
  refine r_iconst (v := (0 : Int32)) (by decide) d_W_tokens_945 ?_
  have h2 := kr_ob h
  clear h
  obtain ⟨S67, eS67, h⟩ := h2
  refine r_iastore eS67 d_W_tokens_946 ?_
  refine r_aload_n (i := 3) (x := x3) 1 rfl d_W_tokens_947 ?_
  refine r_iconst (v := (5 : Int32)) (by decide) d_W_tokens_948 ?_
  refine r_aload_n (i := 3) (x := x3) 1 rfl d_W_tokens_949 ?_
  refine r_bipush (v := (6 : Int32)) (by decide) d_W_tokens_950 ?_
  have h2 := kr_ob h
  clear h
  obtain ⟨v68, ev68, h⟩ := h2
  refine r_iaload ev68 d_W_tokens_952 ?_
  have h2 := kr_ob h
  clear h
  obtain ⟨S69, eS69, h⟩ := h2
  refine r_callS (M1 := m_W_writes) (As := [va_rf x3, .int (5 : Int32), .int v68]) (s_W_writes eS69) mok_W_writes rfl w1029 w1030 (by decide) (kr_c8 kr_c0) d_W_tokens_953 (kr_k0 ?_) kr_kn
  refine r_aload_n (i := 0) (x := x0) 0 rfl d_W_tokens_956 ?_
  refine r_iconst (v := (2 : Int32)) (by decide) d_W_tokens_957 ?_
  refine r_iconst (v := (0 : Int32)) (by decide) d_W_tokens_958 ?_
  have h2 := kr_ob2 h
  clear h
  obtain ⟨v71, S70, eS70, h⟩ := h2
  refine r_callSX (M1 := m_W_none) (As := [va_rf x0, .int (2 : Int32), .int (0 : Int32)]) (s_W_noneg eS70) mok_W_none (by decide) w314 w315 (by decide) (kr_c8 kr_c0) d_W_tokens_959 (kr_k1 ?_) kr_kn
  refine r_aload_n (i := 3) (x := x3) 1 rfl d_W_tokens_962 ?_
  refine r_bipush (v := (6 : Int32)) (by decide) d_W_tokens_963 ?_
  have h2 := kr_ob h
  clear h
  obtain ⟨v72, ev72, h⟩ := h2
  refine r_iaload ev72 d_W_tokens_965 ?_
  refine r_icmp_ne (tgt := 973) d_W_tokens_966 rfl (fun c => ?_) (fun c => ?_)
  · replace h := kr_ip c h
    refine r_iconst (v := (1 : Int32)) (by decide) d_W_tokens_969 ?_
    refine r_goto (tgt := 974) d_W_tokens_970 rfl ?_
    cases h
    exact r_zret rfl rfl d_W_tokens_974
  · replace h := kr_in_ c h
    refine r_iconst (v := (0 : Int32)) (by decide) d_W_tokens_973 ?_
    cases h
    exact r_zret rfl rfl d_W_tokens_974
set_option maxRecDepth 20000 in
set_option maxHeartbeats 4000000 in
theorem s_W_tokens_B923 {S : AS} {x0 : Option Nat} {x3 : Option Nat} {y0 : Option Nat} {y1 : Int32} {y2 : Int32} {r : (Int32 × AS)} (h : f_W_tokens_B923 S x0 x3 y0 y1 y2 = some r) : kr_AW m_W_tokens 14 923 [(0, va_rf x0), (3, va_rf x3)] [.int y2, .int y1, va_rf y0] S (kr_eI r) := by
  unfold f_W_tokens_B923 at h
  have h2 := kr_ob h
  clear h
  obtain ⟨S73, eS73, h⟩ := h2
  refine r_iastore eS73 d_W_tokens_923 ?_
  refine r_aload_n (i := 3) (x := x3) 1 rfl d_W_tokens_924 ?_
  refine r_iconst (v := (5 : Int32)) (by decide) d_W_tokens_925 ?_
  refine r_dup2 rfl (kr_rfcat _) d_W_tokens_926 ?_
  have h2 := kr_ob h
  clear h
  obtain ⟨v74, ev74, h⟩ := h2
  refine r_iaload ev74 d_W_tokens_927 ?_
  refine r_aload_n (i := 3) (x := x3) 1 rfl d_W_tokens_928 ?_
  refine r_bipush (v := (7 : Int32)) (by decide) d_W_tokens_929 ?_
  have h2 := kr_ob h
  clear h
  obtain ⟨v75, ev75, h⟩ := h2
  refine r_iaload ev75 d_W_tokens_931 ?_
  refine r_if_le (tgt := 939) d_W_tokens_932 rfl (fun c => ?_) (fun c => ?_)
  · replace h := kr_ip c h
    refine r_iconst (v := (1 : Int32)) (by decide) d_W_tokens_939 ?_
    exact kr_sub [0, 1] rfl (s_W_tokens_B940 h)
  · replace h := kr_in_ c h
    refine r_iconst (v := (0 : Int32)) (by decide) d_W_tokens_935 ?_
    refine r_goto (tgt := 940) d_W_tokens_936 rfl ?_
    exact kr_sub [0, 1] rfl (s_W_tokens_B940 h)
set_option maxRecDepth 20000 in
set_option maxHeartbeats 4000000 in
theorem s_W_tokens_B841 {S : AS} {x0 : Option Nat} {x3 : Option Nat} {x9 : Option Nat} {x12 : Int32} {r : (Int32 × AS)} (h : f_W_tokens_B841 S x0 x3 x9 x12 = some r) : kr_AW m_W_tokens 14 841 [(0, va_rf x0), (3, va_rf x3), (9, va_rf x9), (12, .int x12)] [] S (kr_eI r) := by
  unfold f_W_tokens_B841 at h
  refine r_iload (i := 12) (x := x12) 3 rfl d_W_tokens_841 ?_
  refine r_if_eq (tgt := 891) d_W_tokens_843 rfl (fun c => ?_) (fun c => ?_)
  · replace h := kr_ip c h
    refine r_aload (i := 9) (x := x9) 2 rfl d_W_tokens_891 ?_
    refine r_iconst (v := (2 : Int32)) (by decide) d_W_tokens_893 ?_
    refine r_aload_n (i := 3) (x := x3) 1 rfl d_W_tokens_894 ?_
    refine r_bipush (v := (6 : Int32)) (by decide) d_W_tokens_895 ?_
    have h2 := kr_ob h
    clear h
    obtain ⟨v76, ev76, h⟩ := h2
    refine r_iaload ev76 d_W_tokens_897 ?_
    refine r_imul d_W_tokens_898 ?_
    refine r_iconst (v := (1 : Int32)) (by decide) d_W_tokens_899 ?_
    have h2 := kr_ob h
    clear h
    obtain ⟨S77, eS77, h⟩ := h2
    refine r_iastore eS77 d_W_tokens_900 ?_
    refine r_aload_n (i := 3) (x := x3) 1 rfl d_W_tokens_901 ?_
    refine r_bipush (v := (6 : Int32)) (by decide) d_W_tokens_902 ?_
    refine r_aload_n (i := 3) (x := x3) 1 rfl d_W_tokens_904 ?_
    refine r_bipush (v := (7 : Int32)) (by decide) d_W_tokens_905 ?_
    have h2 := kr_ob h
    clear h
    obtain ⟨v78, ev78, h⟩ := h2
    refine r_iaload ev78 d_W_tokens_907 ?_
    refine r_if_le (tgt := 920) d_W_tokens_908 rfl (fun c => ?_) (fun c => ?_)
    · replace h := kr_ip c h
      refine r_aload_n (i := 3) (x := x3) 1 rfl d_W_tokens_920 ?_
      refine r_iconst (v := (5 : Int32)) (by decide) d_W_tokens_921 ?_
      have h2 := kr_ob h
      clear h
      obtain ⟨v79, ev79, h⟩ := h2
      refine r_iaload ev79 d_W_tokens_922 ?_
      exact kr_sub [0, 1] rfl (s_W_tokens_B923 h)
    · replace h := kr_in_ c h
      refine r_aload_n (i := 3) (x := x3) 1 rfl d_W_tokens_911 ?_
      refine r_bipush (v := (7 : Int32)) (by decide) d_W_tokens_912 ?_
      have h2 := kr_ob h
      clear h
      obtain ⟨v80, ev80, h⟩ := h2
      refine r_iaload ev80 d_W_tokens_914 ?_
      refine r_iconst (v := (1 : Int32)) (by decide) d_W_tokens_915 ?_
      refine r_isub d_W_tokens_916 ?_
      refine r_goto (tgt := 923) d_W_tokens_917 rfl ?_
      exact kr_sub [0, 1] rfl (s_W_tokens_B923 h)
  · replace h := kr_in_ c h
    refine r_aload_n (i := 3) (x := x3) 1 rfl d_W_tokens_846 ?_
    refine r_bipush (v := (7 : Int32)) (by decide) d_W_tokens_847 ?_
    refine r_aload_n (i := 3) (x := x3) 1 rfl d_W_tokens_849 ?_
    refine r_iconst (v := (5 : Int32)) (by decide) d_W_tokens_850 ?_
    have h2 := kr_ob h
    clear h
    obtain ⟨v81, ev81, h⟩ := h2
    refine r_iaload ev81 d_W_tokens_851 ?_
    refine r_iconst (v := (1 : Int32)) (by decide) d_W_tokens_852 ?_
    refine r_iadd d_W_tokens_853 ?_
    have h2 := kr_ob h
    clear h
    obtain ⟨S82, eS82, h⟩ := h2
    refine r_iastore eS82 d_W_tokens_854 ?_
    refine r_aload_n (i := 3) (x := x3) 1 rfl d_W_tokens_855 ?_
    refine r_bipush (v := (8 : Int32)) (by decide) d_W_tokens_856 ?_
    refine r_aload_n (i := 3) (x := x3) 1 rfl d_W_tokens_858 ?_
    refine r_iconst (v := (0 : Int32)) (by decide) d_W_tokens_859 ?_
    have h2 := kr_ob h
    clear h
    obtain ⟨v83, ev83, h⟩ := h2
    refine r_iaload ev83 d_W_tokens_860 ?_
    refine r_iconst (v := (5 : Int32)) (by decide) d_W_tokens_861 ?_
    refine r_iadd d_W_tokens_862 ?_
    have h2 := kr_ob h
    clear h
    obtain ⟨S84, eS84, h⟩ := h2
    refine r_iastore eS84 d_W_tokens_863 ?_
    refine r_aload_n (i := 3) (x := x3) 1 rfl d_W_tokens_864 ?_
    refine r_iconst (v := (5 : Int32)) (by decide) d_W_tokens_865 ?_
    refine r_dup2 rfl (kr_rfcat _) d_W_tokens_866 ?_
    have h2 := kr_ob h
    clear h
    obtain ⟨v85, ev85, h⟩ := h2
    refine r_iaload ev85 d_W_tokens_867 ?_
    refine r_iconst (v := (1 : Int32)) (by decide) d_W_tokens_868 ?_
    refine r_iadd d_W_tokens_869 ?_
    have h2 := kr_ob h
    clear h
    obtain ⟨S86, eS86, h⟩ := h2
    refine r_iastore eS86 d_W_tokens_870 ?_
    refine r_aload_n (i := 0) (x := x0) 0 rfl d_W_tokens_871 ?_
    refine r_iconst (v := (1 : Int32)) (by decide) d_W_tokens_872 ?_
    refine r_iconst (v := (0 : Int32)) (by decide) d_W_tokens_873 ?_
    have h2 := kr_ob2 h
    clear h
    obtain ⟨v88, S87, eS87, h⟩ := h2
    refine r_callSX (M1 := m_W_none) (As := [va_rf x0, .int (1 : Int32), .int (0 : Int32)]) (s_W_noneg eS87) mok_W_none (by decide) w314 w315 (by decide) (kr_c8 kr_c0) d_W_tokens_874 (kr_k1 ?_) kr_kn
    refine r_aload_n (i := 3) (x := x3) 1 rfl d_W_tokens_877 ?_
    refine r_iconst (v := (5 : Int32)) (by decide) d_W_tokens_878 ?_
    have h2 := kr_ob h
    clear h
    obtain ⟨v89, ev89, h⟩ := h2
    refine r_iaload ev89 d_W_tokens_879 ?_
    refine r_iconst (v := (1 : Int32)) (by decide) d_W_tokens_880 ?_
    refine r_isub d_W_tokens_881 ?_
    refine r_icmp_ne (tgt := 889) d_W_tokens_882 rfl (fun c => ?_) (fun c => ?_)
    · replace h := kr_ip c h
      refine r_iconst (v := (1 : Int32)) (by decide) d_W_tokens_885 ?_
      refine r_goto (tgt := 890) d_W_tokens_886 rfl ?_
      cases h
      exact r_zret rfl rfl d_W_tokens_890
    · replace h := kr_in_ c h
      refine r_iconst (v := (0 : Int32)) (by decide) d_W_tokens_889 ?_
      cases h
      exact r_zret rfl rfl d_W_tokens_890
set_option maxRecDepth 20000 in
set_option maxHeartbeats 4000000 in
theorem s_W_tokens_B809 {S : AS} {x0 : Option Nat} {x3 : Option Nat} {x9 : Option Nat} {y0 : Int32} {r : (Int32 × AS)} (h : f_W_tokens_B809 S x0 x3 x9 y0 = some r) : kr_AW m_W_tokens 14 809 [(0, va_rf x0), (3, va_rf x3), (9, va_rf x9)] [.int y0] S (kr_eI r) := by
  unfold f_W_tokens_B809 at h
  refine r_istore (i := 12) (lv' := [(12, .int y0), (0, va_rf x0), (3, va_rf x3), (9, va_rf x9)]) (by decide) rfl d_W_tokens_809 ?_
  refine r_iload (i := 12) (x := y0) 0 rfl d_W_tokens_811 ?_
  refine r_if_eq (tgt := 841) d_W_tokens_813 rfl (fun c => ?_) (fun c => ?_)
  · replace h := kr_ip c h
    exact kr_sub [1, 2, 3, 0] rfl (s_W_tokens_B841 h)
  · replace h := kr_in_ c h
    refine r_aload_n (i := 3) (x := x3) 2 rfl d_W_tokens_816 ?_
    refine r_bipush (v := (7 : Int32)) (by decide) d_W_tokens_817 ?_
    have h2 := kr_ob h
    clear h
    obtain ⟨v90, ev90, h⟩ := h2
    refine r_iaload ev90 d_W_tokens_819 ?_
    refine r_if_le (tgt := 841) d_W_tokens_820 rfl (fun c => ?_) (fun c => ?_)
    · replace h := kr_ip c h
      exact kr_sub [1, 2, 3, 0] rfl (s_W_tokens_B841 h)
    · replace h := kr_in_ c h
      refine r_aload_n (i := 0) (x := x0) 1 rfl d_W_tokens_823 ?_
      refine r_iconst (v := (1 : Int32)) (by decide) d_W_tokens_824 ?_
      refine r_iconst (v := (0 : Int32)) (by decide) d_W_tokens_825 ?_
      have h2 := kr_ob2 h
      clear h
      obtain ⟨v92, S91, eS91, h⟩ := h2
      refine r_callSX (M1 := m_W_none) (As := [va_rf x0, .int (1 : Int32), .int (0 : Int32)]) (s_W_noneg eS91) mok_W_none (by decide) w314 w315 (by decide) (kr_c8 kr_c0) d_W_tokens_826 (kr_k1 ?_) kr_kn
      refine r_sipush (v := (-1003 : Int32)) (by decide) d_W_tokens_829 ?_
      refine r_icmp_ne (tgt := 839) d_W_tokens_832 rfl (fun c => ?_) (fun c => ?_)
      · replace h := kr_ip c h
        refine r_iconst (v := (1 : Int32)) (by decide) d_W_tokens_835 ?_
        refine r_goto (tgt := 840) d_W_tokens_836 rfl ?_
        cases h
        exact r_zret rfl rfl d_W_tokens_840
      · replace h := kr_in_ c h
        refine r_iconst (v := (0 : Int32)) (by decide) d_W_tokens_839 ?_
        cases h
        exact r_zret rfl rfl d_W_tokens_840
set_option maxRecDepth 20000 in
set_option maxHeartbeats 4000000 in
theorem s_W_tokens_B1086 {k1009 : AS → Option Nat → Option Nat → Option Nat → Option Nat → Option Nat → Int32 → Int32 → Int32 → Option (Int32 × AS)} (hk1009 : ∀ {S : AS} {x0 : Option Nat} {x3 : Option Nat} {x7 : Option Nat} {x8 : Option Nat} {x10 : Option Nat} {x12 : Int32} {x13 : Int32} {x14 : Int32} {r : (Int32 × AS)}, k1009 S x0 x3 x7 x8 x10 x12 x13 x14 = some r → kr_AW m_W_tokens 14 1009 [(0, va_rf x0), (3, va_rf x3), (7, va_rf x7), (8, va_rf x8), (10, va_rf x10), (12, .int x12), (13, .int x13), (14, .int x14)] [] S (kr_eI r)) {k1033 : AS → Option Nat → Option Nat → Option Nat → Option Nat → Option Nat → Int32 → Int32 → Int32 → Int32 → Int32 → Option (Int32 × AS)} (hk1033 : ∀ {S : AS} {x0 : Option Nat} {x3 : Option Nat} {x7 : Option Nat} {x8 : Option Nat} {x10 : Option Nat} {x12 : Int32} {x13 : Int32} {x14 : Int32} {x15 : Int32} {x16 : Int32} {r : (Int32 × AS)}, k1033 S x0 x3 x7 x8 x10 x12 x13 x14 x15 x16 = some r → kr_AW m_W_tokens 14 1033 [(0, va_rf x0), (3, va_rf x3), (7, va_rf x7), (8, va_rf x8), (10, va_rf x10), (12, .int x12), (13, .int x13), (14, .int x14), (15, .int x15), (16, .int x16)] [] S (kr_eI r)) {S : AS} {x0 : Option Nat} {x3 : Option Nat} {x7 : Option Nat} {x8 : Option Nat} {x10 : Option Nat} {x12 : Int32} {x13 : Int32} {x14 : Int32} {x16 : Int32} {y0 : Int32} {r : (Int32 × AS)} (h : f_W_tokens_B1086 k1009 k1033 S x0 x3 x7 x8 x10 x12 x13 x14 x16 y0 = some r) : kr_AW m_W_tokens 14 1086 [(0, va_rf x0), (3, va_rf x3), (7, va_rf x7), (8, va_rf x8), (10, va_rf x10), (12, .int x12), (13, .int x13), (14, .int x14), (16, .int x16)] [.int y0] S (kr_eI r) := by
  unfold f_W_tokens_B1086 at h
  refine r_istore (i := 15) (lv' := [(15, .int y0), (0, va_rf x0), (3, va_rf x3), (7, va_rf x7), (8, va_rf x8), (10, va_rf x10), (12, .int x12), (13, .int x13), (14, .int x14), (16, .int x16)]) (by decide) rfl d_W_tokens_1086 ?_
  have h2 := kr_ob h
  clear h
  obtain ⟨i93, ei93, h⟩ := h2
  refine r_iinc (v := i93) (lv' := [(16, .int i93), (15, .int y0), (0, va_rf x0), (3, va_rf x3), (7, va_rf x7), (8, va_rf x8), (10, va_rf x10), (12, .int x12), (13, .int x13), (14, .int x14)]) 9 rfl (kr_inc (by decide) ei93) (by decide) rfl d_W_tokens_1088 ?_
  refine r_goto (tgt := 1033) d_W_tokens_1091 rfl ?_
  exact kr_sub [2, 3, 4, 5, 6, 7, 8, 9, 1, 0] rfl (hk1033 h)
set_option maxRecDepth 20000 in
set_option maxHeartbeats 4000000 in
theorem s_W_tokens_B1081 {k1009 : AS → Option Nat → Option Nat → Option Nat → Option Nat → Option Nat → Int32 → Int32 → Int32 → Option (Int32 × AS)} (hk1009 : ∀ {S : AS} {x0 : Option Nat} {x3 : Option Nat} {x7 : Option Nat} {x8 : Option Nat} {x10 : Option Nat} {x12 : Int32} {x13 : Int32} {x14 : Int32} {r : (Int32 × AS)}, k1009 S x0 x3 x7 x8 x10 x12 x13 x14 = some r → kr_AW m_W_tokens 14 1009 [(0, va_rf x0), (3, va_rf x3), (7, va_rf x7), (8, va_rf x8), (10, va_rf x10), (12, .int x12), (13, .int x13), (14, .int x14)] [] S (kr_eI r)) {k1033 : AS → Option Nat → Option Nat → Option Nat → Option Nat → Option Nat → Int32 → Int32 → Int32 → Int32 → Int32 → Option (Int32 × AS)} (hk1033 : ∀ {S : AS} {x0 : Option Nat} {x3 : Option Nat} {x7 : Option Nat} {x8 : Option Nat} {x10 : Option Nat} {x12 : Int32} {x13 : Int32} {x14 : Int32} {x15 : Int32} {x16 : Int32} {r : (Int32 × AS)}, k1033 S x0 x3 x7 x8 x10 x12 x13 x14 x15 x16 = some r → kr_AW m_W_tokens 14 1033 [(0, va_rf x0), (3, va_rf x3), (7, va_rf x7), (8, va_rf x8), (10, va_rf x10), (12, .int x12), (13, .int x13), (14, .int x14), (15, .int x15), (16, .int x16)] [] S (kr_eI r)) {S : AS} {x0 : Option Nat} {x3 : Option Nat} {x7 : Option Nat} {x8 : Option Nat} {x10 : Option Nat} {x12 : Int32} {x13 : Int32} {x14 : Int32} {x16 : Int32} {r : (Int32 × AS)} (h : f_W_tokens_B1081 k1009 k1033 S x0 x3 x7 x8 x10 x12 x13 x14 x16 = some r) : kr_AW m_W_tokens 14 1081 [(0, va_rf x0), (3, va_rf x3), (7, va_rf x7), (8, va_rf x8), (10, va_rf x10), (12, .int x12), (13, .int x13), (14, .int x14), (16, .int x16)] [] S (kr_eI r) := by
  unfold f_W_tokens_B1081 at h
  refine r_iconst (v := (1 : Int32)) (by decide) d_W_tokens_1081 ?_
  refine r_goto (tgt := 1086) d_W_tokens_1082 rfl ?_
  exact kr_sub [0, 1, 2, 3, 4, 5, 6, 7, 8] rfl (s_W_tokens_B1086 hk1009 hk1033 h)
set_option maxRecDepth 20000 in
set_option maxHeartbeats 4000000 in
theorem s_W_tokens_B1085 {k1009 : AS → Option Nat → Option Nat → Option Nat → Option Nat → Option Nat → Int32 → Int32 → Int32 → Option (Int32 × AS)} (hk1009 : ∀ {S : AS} {x0 : Option Nat} {x3 : Option Nat} {x7 : Option Nat} {x8 : Option Nat} {x10 : Option Nat} {x12 : Int32} {x13 : Int32} {x14 : Int32} {r : (Int32 × AS)}, k1009 S x0 x3 x7 x8 x10 x12 x13 x14 = some r → kr_AW m_W_tokens 14 1009 [(0, va_rf x0), (3, va_rf x3), (7, va_rf x7), (8, va_rf x8), (10, va_rf x10), (12, .int x12), (13, .int x13), (14, .int x14)] [] S (kr_eI r)) {k1033 : AS → Option Nat → Option Nat → Option Nat → Option Nat → Option Nat → Int32 → Int32 → Int32 → Int32 → Int32 → Option (Int32 × AS)} (hk1033 : ∀ {S : AS} {x0 : Option Nat} {x3 : Option Nat} {x7 : Option Nat} {x8 : Option Nat} {x10 : Option Nat} {x12 : Int32} {x13 : Int32} {x14 : Int32} {x15 : Int32} {x16 : Int32} {r : (Int32 × AS)}, k1033 S x0 x3 x7 x8 x10 x12 x13 x14 x15 x16 = some r → kr_AW m_W_tokens 14 1033 [(0, va_rf x0), (3, va_rf x3), (7, va_rf x7), (8, va_rf x8), (10, va_rf x10), (12, .int x12), (13, .int x13), (14, .int x14), (15, .int x15), (16, .int x16)] [] S (kr_eI r)) {S : AS} {x0 : Option Nat} {x3 : Option Nat} {x7 : Option Nat} {x8 : Option Nat} {x10 : Option Nat} {x12 : Int32} {x13 : Int32} {x14 : Int32} {x16 : Int32} {r : (Int32 × AS)} (h : f_W_tokens_B1085 k1009 k1033 S x0 x3 x7 x8 x10 x12 x13 x14 x16 = some r) : kr_AW m_W_tokens 14 1085 [(0, va_rf x0), (3, va_rf x3), (7, va_rf x7), (8, va_rf x8), (10, va_rf x10), (12, .int x12), (13, .int x13), (14, .int x14), (16, .int x16)] [] S (kr_eI r) := by
  unfold f_W_tokens_B1085 at h
  refine r_iconst (v := (0 : Int32)) (by decide) d_W_tokens_1085 ?_
  exact kr_sub [0, 1, 2, 3, 4, 5, 6, 7, 8] rfl (s_W_tokens_B1086 hk1009 hk1033 h)
set_option maxRecDepth 20000 in
set_option maxHeartbeats 4000000 in
theorem s_W_tokens_B1173 {k1009 : AS → Option Nat → Option Nat → Option Nat → Option Nat → Option Nat → Int32 → Int32 → Int32 → Option (Int32 × AS)} (hk1009 : ∀ {S : AS} {x0 : Option Nat} {x3 : Option Nat} {x7 : Option Nat} {x8 : Option Nat} {x10 : Option Nat} {x12 : Int32} {x13 : Int32} {x14 : Int32} {r : (Int32 × AS)}, k1009 S x0 x3 x7 x8 x10 x12 x13 x14 = some r → kr_AW m_W_tokens 14 1009 [(0, va_rf x0), (3, va_rf x3), (7, va_rf x7), (8, va_rf x8), (10, va_rf x10), (12, .int x12), (13, .int x13), (14, .int x14)] [] S (kr_eI r)) {S : AS} {x0 : Option Nat} {x3 : Option Nat} {x7 : Option Nat} {x8 : Option Nat} {x10 : Option Nat} {x12 : Int32} {x13 : Int32} {x14 : Int32} {y0 : Option Nat} {y1 : Int32} {y2 : Int32} {y3 : Int32} {r : (Int32 × AS)} (h : f_W_tokens_B1173 k1009 S x0 x3 x7 x8 x10 x12 x13 x14 y0 y1 y2 y3 = some r) : kr_AW m_W_tokens 14 1173 [(0, va_rf x0), (3, va_rf x3), (7, va_rf x7), (8, va_rf x8), (10, va_rf x10), (12, .int x12), (13, .int x13), (14, .int x14)] [.int y3, .int y2, .int y1, va_rf y0] S (kr_eI r) := by
  unfold f_W_tokens_B1173 at h
  refine r_ior d_W_tokens_1173 ?_
  have h2 := kr_ob h
  clear h
  obtain ⟨S94, eS94, h⟩ := h2
  refine r_iastore eS94 d_W_tokens_1174 ?_
  have h2 := kr_ob h
  clear h
  obtain ⟨i95, ei95, h⟩ := h2
  refine r_iinc (v := i95) (lv' := [(14, .int i95), (0, va_rf x0), (3, va_rf x3), (7, va_rf x7), (8, va_rf x8), (10, va_rf x10), (12, .int x12), (13, .int x13)]) 7 rfl (kr_inc (by decide) ei95) (by decide) rfl d_W_tokens_1175 ?_
  refine r_goto (tgt := 1009) d_W_tokens_1178 rfl ?_
  exact kr_sub [1, 2, 3, 4, 5, 6, 7, 0] rfl (hk1009 h)
set_option maxRecDepth 20000 in
set_option maxHeartbeats 4000000 in
theorem s_W_tokens_B1147 {k1009 : AS → Option Nat → Option Nat → Option Nat → Option Nat → Option Nat → Int32 → Int32 → Int32 → Option (Int32 × AS)} (hk1009 : ∀ {S : AS} {x0 : Option Nat} {x3 : Option Nat} {x7 : Option Nat} {x8 : Option Nat} {x10 : Option Nat} {x12 : Int32} {x13 : Int32} {x14 : Int32} {r : (Int32 × AS)}, k1009 S x0 x3 x7 x8 x10 x12 x13 x14 = some r → kr_AW m_W_tokens 14 1009 [(0, va_rf x0), (3, va_rf x3), (7, va_rf x7), (8, va_rf x8), (10, va_rf x10), (12, .int x12), (13, .int x13), (14, .int x14)] [] S (kr_eI r)) {S : AS} {x0 : Option Nat} {x3 : Option Nat} {x7 : Option Nat} {x8 : Option Nat} {x10 : Option Nat} {x12 : Int32} {x14 : Int32} {x16 : Int32} {y0 : Int32} {y1 : Int32} {r : (Int32 × AS)} (h : f_W_tokens_B1147 k1009 S x0 x3 x7 x8 x10 x12 x14 x16 y0 y1 = some r) : kr_AW m_W_tokens 14 1147 [(0, va_rf x0), (3, va_rf x3), (7, va_rf x7), (8, va_rf x8), (10, va_rf x10), (12, .int x12), (14, .int x14), (16, .int x16)] [.int y1, .int y0] S (kr_eI r) := by
  unfold f_W_tokens_B1147 at h
  refine r_iadd d_W_tokens_1147 ?_
  have h2 := kr_ob h
  clear h
  obtain ⟨i96, ei96, h⟩ := h2
  refine kr_nmI ei96 ?_
  refine r_istore (i := 13) (lv' := [(13, .int i96), (0, va_rf x0), (3, va_rf x3), (7, va_rf x7), (8, va_rf x8), (10, va_rf x10), (12, .int x12), (14, .int x14), (16, .int x16)]) (by decide) rfl d_W_tokens_1148 ?_
  refine r_aload (i := 10) (x := x10) 5 rfl d_W_tokens_1150 ?_
  refine r_iconst (v := (4 : Int32)) (by decide) d_W_tokens_1152 ?_
  refine r_iload (i := 12) (x := x12) 6 rfl d_W_tokens_1153 ?_
  refine r_imul d_W_tokens_1155 ?_
  refine r_iconst (v := (3 : Int32)) (by decide) d_W_tokens_1156 ?_
  refine r_iadd d_W_tokens_1157 ?_
  have h2 := kr_ob h
  clear h
  obtain ⟨i97, ei97, h⟩ := h2
  refine kr_nmI ei97 ?_
  refine r_dup2 rfl (kr_rfcat _) d_W_tokens_1158 ?_
  have h2 := kr_ob h
  clear h
  obtain ⟨v98, ev98, h⟩ := h2
  refine r_iaload ev98 d_W_tokens_1159 ?_
  refine r_iload (i := 16) (x := x16) 8 rfl d_W_tokens_1160 ?_
  refine r_if_eq (tgt := 1172) d_W_tokens_1162 rfl (fun c => ?_) (fun c => ?_)
  · replace h := kr_ip c h
    refine r_iconst (v := (0 : Int32)) (by decide) d_W_tokens_1172 ?_
    exact kr_sub [1, 2, 3, 4, 5, 6, 0, 7] rfl (s_W_tokens_B1173 hk1009 h)
  · replace h := kr_in_ c h
    refine r_iconst (v := (1 : Int32)) (by decide) d_W_tokens_1165 ?_
    refine r_iload (i := 14) (x := x14) 7 rfl d_W_tokens_1166 ?_
    refine r_ishl d_W_tokens_1168 ?_
    refine r_goto (tgt := 1173) d_W_tokens_1169 rfl ?_
    exact kr_sub [1, 2, 3, 4, 5, 6, 0, 7] rfl (s_W_tokens_B1173 hk1009 h)
set_option maxRecDepth 20000 in
set_option maxHeartbeats 4000000 in
theorem s_W_tokens_B1133 {k1009 : AS → Option Nat → Option Nat → Option Nat → Option Nat → Option Nat → Int32 → Int32 → Int32 → Option (Int32 × AS)} (hk1009 : ∀ {S : AS} {x0 : Option Nat} {x3 : Option Nat} {x7 : Option Nat} {x8 : Option Nat} {x10 : Option Nat} {x12 : Int32} {x13 : Int32} {x14 : Int32} {r : (Int32 × AS)}, k1009 S x0 x3 x7 x8 x10 x12 x13 x14 = some r → kr_AW m_W_tokens 14 1009 [(0, va_rf x0), (3, va_rf x3), (7, va_rf x7), (8, va_rf x8), (10, va_rf x10), (12, .int x12), (13, .int x13), (14, .int x14)] [] S (kr_eI r)) {S : AS} {x0 : Option Nat} {x3 : Option Nat} {x7 : Option Nat} {x8 : Option Nat} {x10 : Option Nat} {x12 : Int32} {x13 : Int32} {x14 : Int32} {y0 : Int32} {r : (Int32 × AS)} (h : f_W_tokens_B1133 k1009 S x0 x3 x7 x8 x10 x12 x13 x14 y0 = some r) : kr_AW m_W_tokens 14 1133 [(0, va_rf x0), (3, va_rf x3), (7, va_rf x7), (8, va_rf x8), (10, va_rf x10), (12, .int x12), (13, .int x13), (14, .int x14)] [.int y0] S (kr_eI r) := by
  unfold f_W_tokens_B1133 at h
  refine r_istore (i := 16) (lv' := [(16, .int y0), (0, va_rf x0), (3, va_rf x3), (7, va_rf x7), (8, va_rf x8), (10, va_rf x10), (12, .int x12), (13, .int x13), (14, .int x14)]) (by decide) rfl d_W_tokens_1133 ?_
  refine r_iload (i := 13) (x := x13) 7 rfl d_W_tokens_1135 ?_
  refine r_iload (i := 16) (x := y0) 0 rfl d_W_tokens_1137 ?_
  refine r_if_eq (tgt := 1146) d_W_tokens_1139 rfl (fun c => ?_) (fun c => ?_)
  · replace h := kr_ip c h
    refine r_iconst (v := (0 : Int32)) (by decide) d_W_tokens_1146 ?_
    exact kr_sub [1, 2, 3, 4, 5, 6, 8, 0] rfl (s_W_tokens_B1147 hk1009 h)
  · replace h := kr_in_ c h
    refine r_iconst (v := (1 : Int32)) (by decide) d_W_tokens_1142 ?_
    refine r_goto (tgt := 1147) d_W_tokens_1143 rfl ?_
    exact kr_sub [1, 2, 3, 4, 5, 6, 8, 0] rfl (s_W_tokens_B1147 hk1009 h)
set_option maxRecDepth 20000 in
set_option maxHeartbeats 4000000 in
theorem s_W_tokens_B1132 {k1009 : AS → Option Nat → Option Nat → Option Nat → Option Nat → Option Nat → Int32 → Int32 → Int32 → Option (Int32 × AS)} (hk1009 : ∀ {S : AS} {x0 : Option Nat} {x3 : Option Nat} {x7 : Option Nat} {x8 : Option Nat} {x10 : Option Nat} {x12 : Int32} {x13 : Int32} {x14 : Int32} {r : (Int32 × AS)}, k1009 S x0 x3 x7 x8 x10 x12 x13 x14 = some r → kr_AW m_W_tokens 14 1009 [(0, va_rf x0), (3, va_rf x3), (7, va_rf x7), (8, va_rf x8), (10, va_rf x10), (12, .int x12), (13, .int x13), (14, .int x14)] [] S (kr_eI r)) {S : AS} {x0 : Option Nat} {x3 : Option Nat} {x7 : Option Nat} {x8 : Option Nat} {x10 : Option Nat} {x12 : Int32} {x13 : Int32} {x14 : Int32} {r : (Int32 × AS)} (h : f_W_tokens_B1132 k1009 S x0 x3 x7 x8 x10 x12 x13 x14 = some r) : kr_AW m_W_tokens 14 1132 [(0, va_rf x0), (3, va_rf x3), (7, va_rf x7), (8, va_rf x8), (10, va_rf x10), (12, .int x12), (13, .int x13), (14, .int x14)] [] S (kr_eI r) := by
  unfold f_W_tokens_B1132 at h
  refine r_iconst (v := (0 : Int32)) (by decide) d_W_tokens_1132 ?_
  exact kr_sub [0, 1, 2, 3, 4, 5, 6, 7] rfl (s_W_tokens_B1133 hk1009 h)
set_option maxRecDepth 20000 in
set_option maxHeartbeats 4000000 in
theorem s_W_tokens_C1033 {k1009 : AS → Option Nat → Option Nat → Option Nat → Option Nat → Option Nat → Int32 → Int32 → Int32 → Option (Int32 × AS)} (hk1009 : ∀ {S : AS} {x0 : Option Nat} {x3 : Option Nat} {x7 : Option Nat} {x8 : Option Nat} {x10 : Option Nat} {x12 : Int32} {x13 : Int32} {x14 : Int32} {r : (Int32 × AS)}, k1009 S x0 x3 x7 x8 x10 x12 x13 x14 = some r → kr_AW m_W_tokens 14 1009 [(0, va_rf x0), (3, va_rf x3), (7, va_rf x7), (8, va_rf x8), (10, va_rf x10), (12, .int x12), (13, .int x13), (14, .int x14)] [] S (kr_eI r)) {k1033 : AS → Option Nat → Option Nat → Option Nat → Option Nat → Option Nat → Int32 → Int32 → Int32 → Int32 → Int32 → Option (Int32 × AS)} (hk1033 : ∀ {S : AS} {x0 : Option Nat} {x3 : Option Nat} {x7 : Option Nat} {x8 : Option Nat} {x10 : Option Nat} {x12 : Int32} {x13 : Int32} {x14 : Int32} {x15 : Int32} {x16 : Int32} {r : (Int32 × AS)}, k1033 S x0 x3 x7 x8 x10 x12 x13 x14 x15 x16 = some r → kr_AW m_W_tokens 14 1033 [(0, va_rf x0), (3, va_rf x3), (7, va_rf x7), (8, va_rf x8), (10, va_rf x10), (12, .int x12), (13, .int x13), (14, .int x14), (15, .int x15), (16, .int x16)] [] S (kr_eI r)) {S : AS} {x0 : Option Nat} {x3 : Option Nat} {x7 : Option Nat} {x8 : Option Nat} {x10 : Option Nat} {x12 : Int32} {x13 : Int32} {x14 : Int32} {x15 : Int32} {x16 : Int32} {r : (Int32 × AS)} (h : f_W_tokens_C1033 k1009 k1033 S x0 x3 x7 x8 x10 x12 x13 x14 x15 x16 = some r) : kr_AW m_W_tokens 14 1033 [(0, va_rf x0), (3, va_rf x3), (7, va_rf x7), (8, va_rf x8), (10, va_rf x10), (12, .int x12), (13, .int x13), (14, .int x14), (15, .int x15), (16, .int x16)] [] S (kr_eI r) := by
  unfold f_W_tokens_C1033 at h
  refine r_iload (i := 16) (x := x16) 9 rfl d_W_tokens_1033 ?_
  refine r_aload_n (i := 3) (x := x3) 1 rfl d_W_tokens_1035 ?_
  refine r_iconst (v := (4 : Int32)) (by decide) d_W_tokens_1036 ?_
  have h2 := kr_ob h
  clear h
  obtain ⟨v99, ev99, h⟩ := h2
  refine r_iaload ev99 d_W_tokens_1037 ?_
  refine r_icmp_ge (tgt := 1094) d_W_tokens_1038 rfl (fun c => ?_) (fun c => ?_)
  · replace h := kr_ip c h
    refine r_iload (i := 15) (x := x15) 8 rfl d_W_tokens_1094 ?_
    refine r_if_eq (tgt := 1132) d_W_tokens_1096 rfl (fun c => ?_) (fun c => ?_)
    · replace h := kr_ip c h
      exact kr_sub [0, 1, 2, 3, 4, 5, 6, 7] rfl (s_W_tokens_B1132 hk1009 h)
    · replace h := kr_in_ c h
      refine r_aload (i := 7) (x := x7) 2 rfl d_W_tokens_1099 ?_
      refine r_iconst (v := (5 : Int32)) (by decide) d_W_tokens_1101 ?_
      refine r_iload (i := 14) (x := x14) 7 rfl d_W_tokens_1102 ?_
      refine r_imul d_W_tokens_1104 ?_
      refine r_iconst (v := (4 : Int32)) (by decide) d_W_tokens_1105 ?_
      refine r_iadd d_W_tokens_1106 ?_
      have h2 := kr_ob h
      clear h
      obtain ⟨v100, ev100, h⟩ := h2
      refine r_iaload ev100 d_W_tokens_1107 ?_
      refine r_if_ne (tgt := 1132) d_W_tokens_1108 rfl (fun c => ?_) (fun c => ?_)
      · replace h := kr_ip c h
        refine r_aload (i := 10) (x := x10) 4 rfl d_W_tokens_1111 ?_
        refine r_iconst (v := (4 : Int32)) (by decide) d_W_tokens_1113 ?_
        refine r_iload (i := 12) (x := x12) 5 rfl d_W_tokens_1114 ?_
        refine r_imul d_W_tokens_1116 ?_
        refine r_iconst (v := (3 : Int32)) (by decide) d_W_tokens_1117 ?_
        refine r_iadd d_W_tokens_1118 ?_
        have h2 := kr_ob h
        clear h
        obtain ⟨v101, ev101, h⟩ := h2
        refine r_iaload ev101 d_W_tokens_1119 ?_
        refine r_iload (i := 14) (x := x14) 7 rfl d_W_tokens_1120 ?_
        refine r_ishr d_W_tokens_1122 ?_
        refine r_iconst (v := (1 : Int32)) (by decide) d_W_tokens_1123 ?_
        refine r_iand d_W_tokens_1124 ?_
        refine r_if_ne (tgt := 1132) d_W_tokens_1125 rfl (fun c => ?_) (fun c => ?_)
        · replace h := kr_ip c h
          refine r_iconst (v := (1 : Int32)) (by decide) d_W_tokens_1128 ?_
          refine r_goto (tgt := 1133) d_W_tokens_1129 rfl ?_
          exact kr_sub [0, 1, 2, 3, 4, 5, 6, 7] rfl (s_W_tokens_B1133 hk1009 h)
        · replace h := kr_in_ c h
          exact kr_sub [0, 1, 2, 3, 4, 5, 6, 7] rfl (s_W_tokens_B1132 hk1009 h)
      · replace h := kr_in_ c h
        exact kr_sub [0, 1, 2, 3, 4, 5, 6, 7] rfl (s_W_tokens_B1132 hk1009 h)
  · replace h := kr_in_ c h
    refine r_iload (i := 15) (x := x15) 8 rfl d_W_tokens_1041 ?_
    refine r_if_ne (tgt := 1081) d_W_tokens_1043 rfl (fun c => ?_) (fun c => ?_)
    · replace h := kr_ip c h
      refine r_aload (i := 8) (x := x8) 3 rfl d_W_tokens_1046 ?_
      refine r_iconst (v := (3 : Int32)) (by decide) d_W_tokens_1048 ?_
      refine r_iload (i := 16) (x := x16) 9 rfl d_W_tokens_1049 ?_
      refine r_imul d_W_tokens_1051 ?_
      refine r_iconst (v := (1 : Int32)) (by decide) d_W_tokens_1052 ?_
      refine r_iadd d_W_tokens_1053 ?_
      have h2 := kr_ob h
      clear h
      obtain ⟨v102, ev102, h⟩ := h2
      refine r_iaload ev102 d_W_tokens_1054 ?_
      refine r_bipush (v := (100 : Int32)) (by decide) d_W_tokens_1055 ?_
      refine r_irem (by decide) d_W_tokens_1057 ?_
      refine r_iload (i := 14) (x := x14) 7 rfl d_W_tokens_1058 ?_
      refine r_icmp_ne (tgt := 1085) d_W_tokens_1060 rfl (fun c => ?_) (fun c => ?_)
      · replace h := kr_ip c h
        refine r_aload (i := 8) (x := x8) 3 rfl d_W_tokens_1063 ?_
        refine r_iconst (v := (3 : Int32)) (by decide) d_W_tokens_1065 ?_
        refine r_iload (i := 16) (x := x16) 9 rfl d_W_tokens_1066 ?_
        refine r_imul d_W_tokens_1068 ?_
        have h2 := kr_ob h
        clear h
        obtain ⟨v103, ev103, h⟩ := h2
        refine r_iaload ev103 d_W_tokens_1069 ?_
        refine r_bipush (v := (10 : Int32)) (by decide) d_W_tokens_1070 ?_
        refine r_idiv (by decide) d_W_tokens_1072 ?_
        refine r_bipush (v := (10 : Int32)) (by decide) d_W_tokens_1073 ?_
        have h2 := kr_ob h
        clear h
        obtain ⟨i104, ei104, h⟩ := h2
        refine kr_nmI2 ei104 ?_
        refine r_irem (by decide) d_W_tokens_1075 ?_
        refine r_iload (i := 12) (x := x12) 5 rfl d_W_tokens_1076 ?_
        refine r_icmp_ne (tgt := 1085) d_W_tokens_1078 rfl (fun c => ?_) (fun c => ?_)
        · replace h := kr_ip c h
          exact kr_sub [0, 1, 2, 3, 4, 5, 6, 7, 9] rfl (s_W_tokens_B1081 hk1009 hk1033 h)
        · replace h := kr_in_ c h
          exact kr_sub [0, 1, 2, 3, 4, 5, 6, 7, 9] rfl (s_W_tokens_B1085 hk1009 hk1033 h)
      · replace h := kr_in_ c h
        exact kr_sub [0, 1, 2, 3, 4, 5, 6, 7, 9] rfl (s_W_tokens_B1085 hk1009 hk1033 h)
    · replace h := kr_in_ c h
      exact kr_sub [0, 1, 2, 3, 4, 5, 6, 7, 9] rfl (s_W_tokens_B1081 hk1009 hk1033 h)
theorem s_W_tokens_L1033 {k1009 : AS → Option Nat → Option Nat → Option Nat → Option Nat → Option Nat → Int32 → Int32 → Int32 → Option (Int32 × AS)} (hk1009 : ∀ {S : AS} {x0 : Option Nat} {x3 : Option Nat} {x7 : Option Nat} {x8 : Option Nat} {x10 : Option Nat} {x12 : Int32} {x13 : Int32} {x14 : Int32} {r : (Int32 × AS)}, k1009 S x0 x3 x7 x8 x10 x12 x13 x14 = some r → kr_AW m_W_tokens 14 1009 [(0, va_rf x0), (3, va_rf x3), (7, va_rf x7), (8, va_rf x8), (10, va_rf x10), (12, .int x12), (13, .int x13), (14, .int x14)] [] S (kr_eI r)) (n : Nat) : ∀ {S : AS} {x0 : Option Nat} {x3 : Option Nat} {x7 : Option Nat} {x8 : Option Nat} {x10 : Option Nat} {x12 : Int32} {x13 : Int32} {x14 : Int32} {x15 : Int32} {x16 : Int32} {r : (Int32 × AS)}, f_W_tokens_L1033 k1009 n S x0 x3 x7 x8 x10 x12 x13 x14 x15 x16 = some r → kr_AW m_W_tokens 14 1033 [(0, va_rf x0), (3, va_rf x3), (7, va_rf x7), (8, va_rf x8), (10, va_rf x10), (12, .int x12), (13, .int x13), (14, .int x14), (15, .int x15), (16, .int x16)] [] S (kr_eI r) := by
  induction n with
  | zero => intro S x0 x3 x7 x8 x10 x12 x13 x14 x15 x16 r h; cases h
  | succ n ih => intro S x0 x3 x7 x8 x10 x12 x13 x14 x15 x16 r h; exact s_W_tokens_C1033 hk1009 (fun {_} {_} {_} {_} {_} {_} {_} {_} {_} {_} {_} {_} h => ih h) h
set_option maxRecDepth 20000 in
set_option maxHeartbeats 4000000 in
theorem s_W_tokens_B1181 {S : AS} {x0 : Option Nat} {x12 : Int32} {x13 : Int32} {r : (Int32 × AS)} (h : f_W_tokens_B1181 S x0 x12 x13 = some r) : kr_AW m_W_tokens 14 1181 [(0, va_rf x0), (12, .int x12), (13, .int x13)] [] S (kr_eI r) := by
  unfold f_W_tokens_B1181 at h
  refine r_aload_n (i := 0) (x := x0) 0 rfl d_W_tokens_1181 ?_
  refine r_bipush (v := (10 : Int32)) (by decide) d_W_tokens_1182 ?_
  refine r_iload (i := 12) (x := x12) 1 rfl d_W_tokens_1184 ?_
  have h2 := kr_ob2 h
  clear h
  obtain ⟨v106, S105, eS105, h⟩ := h2
  refine r_callSX (M1 := m_W_one) (As := [va_rf x0, .int (10 : Int32), .int x12]) (s_W_oneg eS105) mok_W_one (by decide) w1051 w1052 (by decide) (kr_c8 kr_c0) d_W_tokens_1186 (kr_k1 ?_) kr_kn
  refine r_iload (i := 13) (x := x13) 2 rfl d_W_tokens_1189 ?_
  refine r_icmp_ne (tgt := 1198) d_W_tokens_1191 rfl (fun c => ?_) (fun c => ?_)
  · replace h := kr_ip c h
    refine r_iconst (v := (1 : Int32)) (by decide) d_W_tokens_1194 ?_
    refine r_goto (tgt := 1199) d_W_tokens_1195 rfl ?_
    cases h
    exact r_zret rfl rfl d_W_tokens_1199
  · replace h := kr_in_ c h
    refine r_iconst (v := (0 : Int32)) (by decide) d_W_tokens_1198 ?_
    cases h
    exact r_zret rfl rfl d_W_tokens_1199
set_option maxRecDepth 20000 in
set_option maxHeartbeats 4000000 in
theorem s_W_tokens_C1009 {k1009 : AS → Option Nat → Option Nat → Option Nat → Option Nat → Option Nat → Int32 → Int32 → Int32 → Option (Int32 × AS)} (hk1009 : ∀ {S : AS} {x0 : Option Nat} {x3 : Option Nat} {x7 : Option Nat} {x8 : Option Nat} {x10 : Option Nat} {x12 : Int32} {x13 : Int32} {x14 : Int32} {r : (Int32 × AS)}, k1009 S x0 x3 x7 x8 x10 x12 x13 x14 = some r → kr_AW m_W_tokens 14 1009 [(0, va_rf x0), (3, va_rf x3), (7, va_rf x7), (8, va_rf x8), (10, va_rf x10), (12, .int x12), (13, .int x13), (14, .int x14)] [] S (kr_eI r)) {S : AS} {x0 : Option Nat} {x3 : Option Nat} {x7 : Option Nat} {x8 : Option Nat} {x10 : Option Nat} {x12 : Int32} {x13 : Int32} {x14 : Int32} {r : (Int32 × AS)} (h : f_W_tokens_C1009 k1009 S x0 x3 x7 x8 x10 x12 x13 x14 = some r) : kr_AW m_W_tokens 14 1009 [(0, va_rf x0), (3, va_rf x3), (7, va_rf x7), (8, va_rf x8), (10, va_rf x10), (12, .int x12), (13, .int x13), (14, .int x14)] [] S (kr_eI r) := by
  unfold f_W_tokens_C1009 at h
  refine r_iload (i := 14) (x := x14) 7 rfl d_W_tokens_1009 ?_
  refine r_aload_n (i := 3) (x := x3) 1 rfl d_W_tokens_1011 ?_
  refine r_iconst (v := (3 : Int32)) (by decide) d_W_tokens_1012 ?_
  have h2 := kr_ob h
  clear h
  obtain ⟨v107, ev107, h⟩ := h2
  refine r_iaload ev107 d_W_tokens_1013 ?_
  refine r_icmp_ge (tgt := 1181) d_W_tokens_1014 rfl (fun c => ?_) (fun c => ?_)
  · replace h := kr_ip c h
    exact kr_sub [0, 5, 6] rfl (s_W_tokens_B1181 h)
  · replace h := kr_in_ c h
    refine r_aload (i := 10) (x := x10) 4 rfl d_W_tokens_1017 ?_
    refine r_iconst (v := (4 : Int32)) (by decide) d_W_tokens_1019 ?_
    refine r_iload (i := 12) (x := x12) 5 rfl d_W_tokens_1020 ?_
    refine r_imul d_W_tokens_1022 ?_
    have h2 := kr_ob h
    clear h
    obtain ⟨v108, ev108, h⟩ := h2
    refine r_iaload ev108 d_W_tokens_1023 ?_
    refine r_if_ne (tgt := 1181) d_W_tokens_1024 rfl (fun c => ?_) (fun c => ?_)
    · replace h := kr_ip c h
      refine r_iconst (v := (0 : Int32)) (by decide) d_W_tokens_1027 ?_
      refine r_istore (i := 15) (lv' := [(15, .int (0 : Int32)), (0, va_rf x0), (3, va_rf x3), (7, va_rf x7), (8, va_rf x8), (10, va_rf x10), (12, .int x12), (13, .int x13), (14, .int x14)]) (by decide) rfl d_W_tokens_1028 ?_
      refine r_iconst (v := (0 : Int32)) (by decide) d_W_tokens_1030 ?_
      refine r_istore (i := 16) (lv' := [(16, .int (0 : Int32)), (15, .int (0 : Int32)), (0, va_rf x0), (3, va_rf x3), (7, va_rf x7), (8, va_rf x8), (10, va_rf x10), (12, .int x12), (13, .int x13), (14, .int x14)]) (by decide) rfl d_W_tokens_1031 ?_
      exact kr_sub [2, 3, 4, 5, 6, 7, 8, 9, 1, 0] rfl (s_W_tokens_L1033 hk1009 kr_FU h)
    · replace h := kr_in_ c h
      exact kr_sub [0, 5, 6] rfl (s_W_tokens_B1181 h)
theorem s_W_tokens_L1009 (n : Nat) : ∀ {S : AS} {x0 : Option Nat} {x3 : Option Nat} {x7 : Option Nat} {x8 : Option Nat} {x10 : Option Nat} {x12 : Int32} {x13 : Int32} {x14 : Int32} {r : (Int32 × AS)}, f_W_tokens_L1009 n S x0 x3 x7 x8 x10 x12 x13 x14 = some r → kr_AW m_W_tokens 14 1009 [(0, va_rf x0), (3, va_rf x3), (7, va_rf x7), (8, va_rf x8), (10, va_rf x10), (12, .int x12), (13, .int x13), (14, .int x14)] [] S (kr_eI r) := by
  induction n with
  | zero => intro S x0 x3 x7 x8 x10 x12 x13 x14 r h; cases h
  | succ n ih => intro S x0 x3 x7 x8 x10 x12 x13 x14 r h; exact s_W_tokens_C1009 (fun {_} {_} {_} {_} {_} {_} {_} {_} {_} {_} h => ih h) h
set_option maxRecDepth 20000 in
set_option maxHeartbeats 4000000 in
theorem s_W_tokens_B1302 {S : AS} {y0 : Int32} {y1 : Int32} {r : (Int32 × AS)} (h : f_W_tokens_B1302 S y0 y1 = some r) : kr_AW m_W_tokens 14 1302 [] [.int y1, .int y0] S (kr_eI r) := by
  unfold f_W_tokens_B1302 at h
  refine r_icmp_ne (tgt := 1309) d_W_tokens_1302 rfl (fun c => ?_) (fun c => ?_)
  · replace h := kr_ip c h
    refine r_iconst (v := (1 : Int32)) (by decide) d_W_tokens_1305 ?_
    refine r_goto (tgt := 1310) d_W_tokens_1306 rfl ?_
    cases h
    exact r_zret rfl rfl d_W_tokens_1310
  · replace h := kr_in_ c h
    refine r_iconst (v := (0 : Int32)) (by decide) d_W_tokens_1309 ?_
    cases h
    exact r_zret rfl rfl d_W_tokens_1310
set_option maxRecDepth 20000 in
set_option maxHeartbeats 4000000 in
theorem s_W_tokens_B1249 {S : AS} {x0 : Option Nat} {x2 : Int32} {x3 : Option Nat} {x8 : Option Nat} {x9 : Option Nat} {x10 : Option Nat} {x13 : Int32} {y0 : Int32} {r : (Int32 × AS)} (h : f_W_tokens_B1249 S x0 x2 x3 x8 x9 x10 x13 y0 = some r) : kr_AW m_W_tokens 14 1249 [(0, va_rf x0), (2, .int x2), (3, va_rf x3), (8, va_rf x8), (9, va_rf x9), (10, va_rf x10), (13, .int x13)] [.int y0] S (kr_eI r) := by
  unfold f_W_tokens_B1249 at h
  refine r_istore (i := 14) (lv' := [(14, .int y0), (0, va_rf x0), (2, .int x2), (3, va_rf x3), (8, va_rf x8), (9, va_rf x9), (10, va_rf x10), (13, .int x13)]) (by decide) rfl d_W_tokens_1249 ?_
  refine r_iload_n (i := 2) (x := x2) 2 rfl d_W_tokens_1251 ?_
  refine r_bipush (v := (6 : Int32)) (by decide) d_W_tokens_1252 ?_
  refine r_ishr d_W_tokens_1254 ?_
  refine r_iconst (v := (4 : Int32)) (by decide) d_W_tokens_1255 ?_
  have h2 := kr_ob2 h
  clear h
  obtain ⟨v110, S109, eS109, h⟩ := h2
  refine r_callS (M1 := m_W_some) (As := [.int (x2 >>> ((6 : Int32) &&& 31)), .int (4 : Int32)]) (s_W_some eS109) mok_W_some rfl w311 w312 (by decide) (kr_c8 kr_c0) d_W_tokens_1256 (kr_k1 ?_) kr_kn
  refine r_istore (i := 15) (lv' := [(15, .int v110), (14, .int y0), (0, va_rf x0), (2, .int x2), (3, va_rf x3), (8, va_rf x8), (9, va_rf x9), (10, va_rf x10), (13, .int x13)]) (by decide) rfl d_W_tokens_1259 ?_
  refine r_aload_n (i := 0) (x := x0) 2 rfl d_W_tokens_1261 ?_
  refine r_iconst (v := (3 : Int32)) (by decide) d_W_tokens_1262 ?_
  refine r_iload (i := 14) (x := y0) 1 rfl d_W_tokens_1263 ?_
  refine r_iload (i := 13) (x := x13) 8 rfl d_W_tokens_1265 ?_
  refine r_iload (i := 15) (x := v110) 0 rfl d_W_tokens_1267 ?_
  have h2 := kr_ob2 h
  clear h
  obtain ⟨v112, S111, eS111, h⟩ := h2
  refine r_callSX (M1 := m_W_three) (As := [va_rf x0, .int (3 : Int32), .int y0, .int x13, .int v110]) (s_W_threeg eS111) mok_W_three (by decide) w645 w646 (by decide) (kr_c8 kr_c0) d_W_tokens_1269 (kr_k1 ?_) kr_kn
  refine r_iload (i := 13) (x := x13) 8 rfl d_W_tokens_1272 ?_
  refine r_aload_n (i := 3) (x := x3) 4 rfl d_W_tokens_1274 ?_
  refine r_iconst (v := (4 : Int32)) (by decide) d_W_tokens_1275 ?_
  have h2 := kr_ob h
  clear h
  obtain ⟨v113, ev113, h⟩ := h2
  refine r_iaload ev113 d_W_tokens_1276 ?_
  refine r_icmp_ne (tgt := 1286) d_W_tokens_1277 rfl (fun c => ?_) (fun c => ?_)
  · replace h := kr_ip c h
    refine r_sipush (v := (-1001 : Int32)) (by decide) d_W_tokens_1280 ?_
    refine r_goto (tgt := 1302) d_W_tokens_1283 rfl ?_
    exact kr_sub [] rfl (s_W_tokens_B1302 h)
  · replace h := kr_in_ c h
    refine r_aload_n (i := 3) (x := x3) 4 rfl d_W_tokens_1286 ?_
    refine r_aload (i := 8) (x := x8) 5 rfl d_W_tokens_1287 ?_
    refine r_aload (i := 9) (x := x9) 6 rfl d_W_tokens_1289 ?_
    refine r_aload (i := 10) (x := x10) 7 rfl d_W_tokens_1291 ?_
    refine r_iload (i := 14) (x := y0) 1 rfl d_W_tokens_1293 ?_
    refine r_iload (i := 13) (x := x13) 8 rfl d_W_tokens_1295 ?_
    refine r_iload (i := 15) (x := v110) 0 rfl d_W_tokens_1297 ?_
    have h2 := kr_ob2 h
    clear h
    obtain ⟨v115, S114, eS114, h⟩ := h2
    refine r_callS (M1 := m_W_checked) (As := [va_rf x3, va_rf x8, va_rf x9, va_rf x10, .int y0, .int x13, .int v110]) (s_W_checked eS114) mok_W_checked rfl w1342 w1343 (by decide) (kr_c8 (kr_cI kr_c0)) d_W_tokens_1299 (kr_k1 ?_) kr_kn
    exact kr_sub [] rfl (s_W_tokens_B1302 h)
set_option maxRecDepth 20000 in
set_option maxHeartbeats 4000000 in
theorem s_W_tokens_B1247 {S : AS} {x0 : Option Nat} {x2 : Int32} {x3 : Option Nat} {x8 : Option Nat} {x9 : Option Nat} {x10 : Option Nat} {x12 : Int32} {x13 : Int32} {r : (Int32 × AS)} (h : f_W_tokens_B1247 S x0 x2 x3 x8 x9 x10 x12 x13 = some r) : kr_AW m_W_tokens 14 1247 [(0, va_rf x0), (2, .int x2), (3, va_rf x3), (8, va_rf x8), (9, va_rf x9), (10, va_rf x10), (12, .int x12), (13, .int x13)] [] S (kr_eI r) := by
  unfold f_W_tokens_B1247 at h
  refine r_iload (i := 12) (x := x12) 6 rfl d_W_tokens_1247 ?_
  exact kr_sub [0, 1, 2, 3, 4, 5, 7] rfl (s_W_tokens_B1249 h)
set_option maxRecDepth 20000 in
set_option maxHeartbeats 4000000 in
theorem s_W_tokens {S : AS} {a0 : Option Nat} {a1 : Int32} {a2 : Int32} {a3 : Option Nat} {a4 : Option Nat} {a5 : Option Nat} {a6 : Option Nat} {a7 : Option Nat} {a8 : Option Nat} {a9 : Option Nat} {a10 : Option Nat} {a11 : Option Nat} {r : (Int32 × AS)} (h : f_W_tokens S a0 a1 a2 a3 a4 a5 a6 a7 a8 a9 a10 a11 = some r) : kr_Con m_W_tokens 14 [va_rf a0, .int a1, .int a2, va_rf a3, va_rf a4, va_rf a5, va_rf a6, va_rf a7, va_rf a8, va_rf a9, va_rf a10, va_rf a11] S (kr_eI r) := by
  refine kr_con rfl rfl (by decide +kernel) (by simp [lg_sl, kr_rfcat, kr_icat, m_W_tokens, mL]) ?_
  rw [show lv_args 0 [va_rf a0, .int a1, .int a2, va_rf a3, va_rf a4, va_rf a5, va_rf a6, va_rf a7, va_rf a8, va_rf a9, va_rf a10, va_rf a11] = [(0, va_rf a0), (1, .int a1), (2, .int a2), (3, va_rf a3), (4, va_rf a4), (5, va_rf a5), (6, va_rf a6), (7, va_rf a7), (8, va_rf a8), (9, va_rf a9), (10, va_rf a10), (11, va_rf a11)] from by simp [lv_args, kr_rfcat, kr_icat]]
  unfold f_W_tokens at h
  refine r_iload_n (i := 1) (x := a1) 1 rfl d_W_tokens_0 ?_
  refine r_if_ne (tgt := 376) d_W_tokens_1 rfl (fun c => ?_) (fun c => ?_)
  · replace h := kr_ip c h
    refine r_aload_n (i := 3) (x := a3) 3 rfl d_W_tokens_4 ?_
    refine r_iconst (v := (3 : Int32)) (by decide) d_W_tokens_5 ?_
    have h2 := kr_ob h
    clear h
    obtain ⟨v116, ev116, h⟩ := h2
    refine r_iaload ev116 d_W_tokens_6 ?_
    refine r_if_le (tgt := 22) d_W_tokens_7 rfl (fun c => ?_) (fun c => ?_)
    · replace h := kr_ip c h
      refine r_iconst (v := (0 : Int32)) (by decide) d_W_tokens_22 ?_
      exact kr_sub [0, 2, 3, 4, 6, 7, 8, 10] rfl (s_W_tokens_B23 h)
    · replace h := kr_in_ c h
      refine r_iload_n (i := 2) (x := a2) 2 rfl d_W_tokens_10 ?_
      refine r_iconst (v := (3 : Int32)) (by decide) d_W_tokens_11 ?_
      refine r_ishr d_W_tokens_12 ?_
      refine r_aload_n (i := 3) (x := a3) 3 rfl d_W_tokens_13 ?_
      refine r_iconst (v := (3 : Int32)) (by decide) d_W_tokens_14 ?_
      have h2 := kr_ob h
      clear h
      obtain ⟨v117, ev117, h⟩ := h2
      refine r_iaload ev117 d_W_tokens_15 ?_
      have h2 := kr_ob2 h
      clear h
      obtain ⟨v119, S118, eS118, h⟩ := h2
      refine r_callS (M1 := m_W_some) (As := [.int (a2 >>> ((3 : Int32) &&& 31)), .int v117]) (s_W_some eS118) mok_W_some rfl w311 w312 (by decide) (kr_c8 kr_c0) d_W_tokens_16 (kr_k1 ?_) kr_kn
      refine r_goto (tgt := 23) d_W_tokens_19 rfl ?_
      exact kr_sub [0, 2, 3, 4, 6, 7, 8, 10] rfl (s_W_tokens_B23 h)
  · replace h := kr_in_ c h
    refine r_iload_n (i := 1) (x := a1) 1 rfl d_W_tokens_376 ?_
    refine r_iconst (v := (1 : Int32)) (by decide) d_W_tokens_377 ?_
    refine r_icmp_ne (tgt := 781) d_W_tokens_378 rfl (fun c => ?_) (fun c => ?_)
    · replace h := kr_ip c h
      refine r_aload_n (i := 3) (x := a3) 3 rfl d_W_tokens_381 ?_
      refine r_iconst (v := (4 : Int32)) (by decide) d_W_tokens_382 ?_
      have h2 := kr_ob h
      clear h
      obtain ⟨v120, ev120, h⟩ := h2
      refine r_iaload ev120 d_W_tokens_383 ?_
      refine r_if_le (tgt := 399) d_W_tokens_384 rfl (fun c => ?_) (fun c => ?_)
      · replace h := kr_ip c h
        refine r_iconst (v := (0 : Int32)) (by decide) d_W_tokens_399 ?_
        exact kr_sub [0, 2, 3, 5, 6, 7, 8, 11] rfl (s_W_tokens_B400 h)
      · replace h := kr_in_ c h
        refine r_iload_n (i := 2) (x := a2) 2 rfl d_W_tokens_387 ?_
        refine r_iconst (v := (3 : Int32)) (by decide) d_W_tokens_388 ?_
        refine r_ishr d_W_tokens_389 ?_
        refine r_aload_n (i := 3) (x := a3) 3 rfl d_W_tokens_390 ?_
        refine r_iconst (v := (4 : Int32)) (by decide) d_W_tokens_391 ?_
        have h2 := kr_ob h
        clear h
        obtain ⟨v121, ev121, h⟩ := h2
        refine r_iaload ev121 d_W_tokens_392 ?_
        have h2 := kr_ob2 h
        clear h
        obtain ⟨v123, S122, eS122, h⟩ := h2
        refine r_callS (M1 := m_W_some) (As := [.int (a2 >>> ((3 : Int32) &&& 31)), .int v121]) (s_W_some eS122) mok_W_some rfl w311 w312 (by decide) (kr_c8 kr_c0) d_W_tokens_393 (kr_k1 ?_) kr_kn
        refine r_goto (tgt := 400) d_W_tokens_396 rfl ?_
        exact kr_sub [0, 2, 3, 5, 6, 7, 8, 11] rfl (s_W_tokens_B400 h)
    · replace h := kr_in_ c h
      refine r_iload_n (i := 1) (x := a1) 1 rfl d_W_tokens_781 ?_
      refine r_iconst (v := (2 : Int32)) (by decide) d_W_tokens_782 ?_
      refine r_icmp_ne (tgt := 975) d_W_tokens_783 rfl (fun c => ?_) (fun c => ?_)
      · replace h := kr_ip c h
        refine r_aload_n (i := 3) (x := a3) 3 rfl d_W_tokens_786 ?_
        refine r_iconst (v := (5 : Int32)) (by decide) d_W_tokens_787 ?_
        have h2 := kr_ob h
        clear h
        obtain ⟨v124, ev124, h⟩ := h2
        refine r_iaload ev124 d_W_tokens_788 ?_
        refine r_bipush (v := (10 : Int32)) (by decide) d_W_tokens_789 ?_
        refine r_icmp_ne (tgt := 796) d_W_tokens_791 rfl (fun c => ?_) (fun c => ?_)
        · replace h := kr_ip c h
          refine r_iconst (v := (1 : Int32)) (by decide) d_W_tokens_794 ?_
          cases h
          exact r_zret rfl rfl d_W_tokens_795
        · replace h := kr_in_ c h
          refine r_iload_n (i := 2) (x := a2) 2 rfl d_W_tokens_796 ?_
          refine r_iconst (v := (3 : Int32)) (by decide) d_W_tokens_797 ?_
          have h2 := kr_ob2 h
          clear h
          obtain ⟨v126, S125, eS125, h⟩ := h2
          refine r_callS (M1 := m_W_some) (As := [.int a2, .int (3 : Int32)]) (s_W_some eS125) mok_W_some rfl w311 w312 (by decide) (kr_c8 kr_c0) d_W_tokens_798 (kr_k1 ?_) kr_kn
          refine r_if_le (tgt := 808) d_W_tokens_801 rfl (fun c => ?_) (fun c => ?_)
          · replace h := kr_ip c h
            refine r_iconst (v := (0 : Int32)) (by decide) d_W_tokens_808 ?_
            exact kr_sub [0, 3, 9] rfl (s_W_tokens_B809 h)
          · replace h := kr_in_ c h
            refine r_iconst (v := (1 : Int32)) (by decide) d_W_tokens_804 ?_
            refine r_goto (tgt := 809) d_W_tokens_805 rfl ?_
            exact kr_sub [0, 3, 9] rfl (s_W_tokens_B809 h)
      · replace h := kr_in_ c h
        refine r_iload_n (i := 2) (x := a2) 2 rfl d_W_tokens_975 ?_
        refine r_iconst (v := (4 : Int32)) (by decide) d_W_tokens_976 ?_
        have h2 := kr_ob2 h
        clear h
        obtain ⟨v128, S127, eS127, h⟩ := h2
        refine r_callS (M1 := m_W_some) (As := [.int a2, .int (4 : Int32)]) (s_W_some eS127) mok_W_some rfl w311 w312 (by decide) (kr_c8 kr_c0) d_W_tokens_977 (kr_k1 ?_) kr_kn
        refine r_istore (i := 12) (lv' := [(12, .int v128), (0, va_rf a0), (1, .int a1), (2, .int a2), (3, va_rf a3), (4, va_rf a4), (5, va_rf a5), (6, va_rf a6), (7, va_rf a7), (8, va_rf a8), (9, va_rf a9), (10, va_rf a10), (11, va_rf a11)]) (by decide) (by show kr_st _ 12 _ = _; simp [kr_st, kr_rfcat, kr_icat]) d_W_tokens_980 ?_
        refine r_iload_n (i := 1) (x := a1) 2 rfl d_W_tokens_982 ?_
        refine r_iconst (v := (3 : Int32)) (by decide) d_W_tokens_983 ?_
        refine r_icmp_ne (tgt := 1200) d_W_tokens_984 rfl (fun c => ?_) (fun c => ?_)
        · replace h := kr_ip c h
          refine r_aload (i := 10) (x := a10) 11 rfl d_W_tokens_987 ?_
          refine r_iconst (v := (4 : Int32)) (by decide) d_W_tokens_989 ?_
          refine r_iload (i := 12) (x := v128) 0 rfl d_W_tokens_990 ?_
          refine r_imul d_W_tokens_992 ?_
          refine r_iconst (v := (1 : Int32)) (by decide) d_W_tokens_993 ?_
          refine r_aload (i := 10) (x := a10) 11 rfl d_W_tokens_994 ?_
          refine r_iconst (v := (4 : Int32)) (by decide) d_W_tokens_996 ?_
          refine r_iload (i := 12) (x := v128) 0 rfl d_W_tokens_997 ?_
          refine r_imul d_W_tokens_999 ?_
          have h2 := kr_ob h
          clear h
          obtain ⟨v129, ev129, h⟩ := h2
          refine r_iaload ev129 d_W_tokens_1000 ?_
          refine r_isub d_W_tokens_1001 ?_
          have h2 := kr_ob h
          clear h
          obtain ⟨S130, eS130, h⟩ := h2
          refine r_iastore eS130 d_W_tokens_1002 ?_
          refine r_iconst (v := (0 : Int32)) (by decide) d_W_tokens_1003 ?_
          refine r_istore (i := 13) (lv' := [(13, .int (0 : Int32)), (12, .int v128), (0, va_rf a0), (1, .int a1), (2, .int a2), (3, va_rf a3), (4, va_rf a4), (5, va_rf a5), (6, va_rf a6), (7, va_rf a7), (8, va_rf a8), (9, va_rf a9), (10, va_rf a10), (11, va_rf a11)]) (by decide) rfl d_W_tokens_1004 ?_
          refine r_iconst (v := (0 : Int32)) (by decide) d_W_tokens_1006 ?_
          refine r_istore (i := 14) (lv' := [(14, .int (0 : Int32)), (13, .int (0 : Int32)), (12, .int v128), (0, va_rf a0), (1, .int a1), (2, .int a2), (3, va_rf a3), (4, va_rf a4), (5, va_rf a5), (6, va_rf a6), (7, va_rf a7), (8, va_rf a8), (9, va_rf a9), (10, va_rf a10), (11, va_rf a11)]) (by decide) rfl d_W_tokens_1007 ?_
          exact kr_sub [3, 6, 10, 11, 13, 2, 1, 0] rfl (s_W_tokens_L1009 kr_FU h)
        · replace h := kr_in_ c h
          refine r_iload_n (i := 2) (x := a2) 3 rfl d_W_tokens_1200 ?_
          refine r_iconst (v := (3 : Int32)) (by decide) d_W_tokens_1201 ?_
          refine r_ishr d_W_tokens_1202 ?_
          refine r_aload_n (i := 3) (x := a3) 4 rfl d_W_tokens_1203 ?_
          refine r_iconst (v := (4 : Int32)) (by decide) d_W_tokens_1204 ?_
          have h2 := kr_ob h
          clear h
          obtain ⟨v131, ev131, h⟩ := h2
          refine r_iaload ev131 d_W_tokens_1205 ?_
          refine r_iconst (v := (1 : Int32)) (by decide) d_W_tokens_1206 ?_
          refine r_iadd d_W_tokens_1207 ?_
          have h2 := kr_ob2 h
          clear h
          obtain ⟨v133, S132, eS132, h⟩ := h2
          refine r_callS (M1 := m_W_some) (As := [.int (a2 >>> ((3 : Int32) &&& 31)), .int (v131 + (1 : Int32))]) (s_W_some eS132) mok_W_some rfl w311 w312 (by decide) (kr_c8 kr_c0) d_W_tokens_1208 (kr_k1 ?_) kr_kn
          refine r_istore (i := 13) (lv' := [(13, .int v133), (12, .int v128), (0, va_rf a0), (1, .int a1), (2, .int a2), (3, va_rf a3), (4, va_rf a4), (5, va_rf a5), (6, va_rf a6), (7, va_rf a7), (8, va_rf a8), (9, va_rf a9), (10, va_rf a10), (11, va_rf a11)]) (by decide) rfl d_W_tokens_1211 ?_
          refine r_iload (i := 13) (x := v133) 0 rfl d_W_tokens_1213 ?_
          refine r_aload_n (i := 3) (x := a3) 5 rfl d_W_tokens_1215 ?_
          refine r_iconst (v := (4 : Int32)) (by decide) d_W_tokens_1216 ?_
          have h2 := kr_ob h
          clear h
          obtain ⟨v134, ev134, h⟩ := h2
          refine r_iaload ev134 d_W_tokens_1217 ?_
          refine r_icmp_ge (tgt := 1247) d_W_tokens_1218 rfl (fun c => ?_) (fun c => ?_)
          · replace h := kr_ip c h
            exact kr_sub [2, 4, 5, 10, 11, 12, 1, 0] rfl (s_W_tokens_B1247 h)
          · replace h := kr_in_ c h
            refine r_iload_n (i := 2) (x := a2) 4 rfl d_W_tokens_1221 ?_
            refine r_iconst (v := (4 : Int32)) (by decide) d_W_tokens_1222 ?_
            refine r_ishr d_W_tokens_1223 ?_
            refine r_iconst (v := (5 : Int32)) (by decide) d_W_tokens_1224 ?_
            have h2 := kr_ob2 h
            clear h
            obtain ⟨v136, S135, eS135, h⟩ := h2
            refine r_callS (M1 := m_W_some) (As := [.int (a2 >>> ((4 : Int32) &&& 31)), .int (5 : Int32)]) (s_W_some eS135) mok_W_some rfl w311 w312 (by decide) (kr_c8 kr_c0) d_W_tokens_1225 (kr_k1 ?_) kr_kn
            refine r_if_le (tgt := 1247) d_W_tokens_1228 rfl (fun c => ?_) (fun c => ?_)
            · replace h := kr_ip c h
              exact kr_sub [2, 4, 5, 10, 11, 12, 1, 0] rfl (s_W_tokens_B1247 h)
            · replace h := kr_in_ c h
              refine r_aload (i := 8) (x := a8) 10 rfl d_W_tokens_1231 ?_
              refine r_iconst (v := (3 : Int32)) (by decide) d_W_tokens_1233 ?_
              refine r_iload (i := 13) (x := v133) 0 rfl d_W_tokens_1234 ?_
              refine r_imul d_W_tokens_1236 ?_
              have h2 := kr_ob h
              clear h
              obtain ⟨v137, ev137, h⟩ := h2
              refine r_iaload ev137 d_W_tokens_1237 ?_
              refine r_bipush (v := (10 : Int32)) (by decide) d_W_tokens_1238 ?_
              refine r_idiv (by decide) d_W_tokens_1240 ?_
              refine r_bipush (v := (10 : Int32)) (by decide) d_W_tokens_1241 ?_
              have h2 := kr_ob h
              clear h
              obtain ⟨i138, ei138, h⟩ := h2
              refine kr_nmI2 ei138 ?_
              refine r_irem (by decide) d_W_tokens_1243 ?_
              refine r_goto (tgt := 1249) d_W_tokens_1244 rfl ?_
              exact kr_sub [2, 4, 5, 10, 11, 12, 0] rfl (s_W_tokens_B1249 h)
/-! KeyringCourtLaw.asks(LKeyringCourt;I[I[I[I[I[I[I[I[I[I[I[I)Z -/
def f_W_asks_B857 (S : AS) (y0 : Int32) (y1 : Int32) : Option (Int32 × AS) :=
  if y0 = y1 then
  some ((1 : Int32), S)
  else
  some ((0 : Int32), S)
def f_W_asks_B800 (S : AS) (x0 : Option Nat) (x1 : Int32) (x2 : Option Nat) (x11 : Option Nat) (y0 : Int32) : Option (Int32 × AS) :=
  (aI S 40 x2 (5 : Int32)).bind fun v1 =>
  kr_b2 (f_W_some S (x1 >>> ((2 : Int32) &&& 31)) (v1 + (1 : Int32))) fun v3 S2 =>
  if y0 = 0 then
  some ((0 : Int32), S2)
  else
  kr_b2 (f_W_isg S2 x0 (3 : Int32) v3) fun v5 S4 =>
  (aI S4 40 x2 (5 : Int32)).bind fun v6 =>
  if v3 = v6 then
  f_W_asks_B857 S4 v5 (-1001 : Int32)
  else
  kr_b2 (f_W_isOut S4 x2 x11 v3) fun v8 S7 =>
  if v8 = 0 then
  f_W_asks_B857 S7 v5 (1 : Int32)
  else
  f_W_asks_B857 S7 v5 (0 : Int32)
def f_W_asks_B799 (S : AS) (x0 : Option Nat) (x1 : Int32) (x2 : Option Nat) (x11 : Option Nat) : Option (Int32 × AS) :=
  f_W_asks_B800 S x0 x1 x2 x11 (0 : Int32)
def f_W_asks_B792 (S : AS) (x0 : Option Nat) (x1 : Int32) (x2 : Option Nat) (x11 : Option Nat) (y0 : Int32) (y1 : Int32) : Option (Int32 × AS) :=
  if y0 = y1 then
  f_W_asks_B800 S x0 x1 x2 x11 (1 : Int32)
  else
  f_W_asks_B799 S x0 x1 x2 x11
def f_W_asks_B750 (S : AS) (x0 : Option Nat) (x1 : Int32) (x2 : Option Nat) (x11 : Option Nat) (x18 : Int32) (x24 : Int32) (x25 : Int32) (y0 : Int32) (y1 : Int32) : Option (Int32 × AS) :=
  if y0 = y1 then
  kr_b2 (f_W_oneg S x0 (11 : Int32) x18) fun v10 S9 =>
  (aI S9 40 x2 (4 : Int32)).bind fun v11 =>
  if x18 = v11 then
  f_W_asks_B792 S9 x0 x1 x2 x11 v10 (-1001 : Int32)
  else
  if x25 = 0 then
  f_W_asks_B792 S9 x0 x1 x2 x11 v10 (0 : Int32)
  else
  (aI S9 40 x2 (0 : Int32)).bind fun v12 =>
  f_W_asks_B792 S9 x0 x1 x2 x11 v10 ((x24 - v12) + (1 : Int32))
  else
  f_W_asks_B799 S x0 x1 x2 x11
def f_W_asks_B685 (S : AS) (x0 : Option Nat) (x1 : Int32) (x2 : Option Nat) (x11 : Option Nat) (x18 : Int32) (x19 : Int32) (x22 : Int32) (x24 : Int32) (y0 : Int32) : Option (Int32 × AS) :=
  if x19 = 0 then
  f_W_asks_B799 S x0 x1 x2 x11
  else
  kr_b2 (f_W_oneg S x0 (9 : Int32) x18) fun v14 S13 =>
  (aI S13 40 x2 (4 : Int32)).bind fun v15 =>
  if v15 ≤ x18 then
  f_W_asks_B750 S13 x0 x1 x2 x11 x18 x24 y0 v14 (-1001 : Int32)
  else
  (some (x22 / (10 : Int32))).bind fun i16 =>
  (some (x22 / (100 : Int32))).bind fun i17 =>
  f_W_asks_B750 S13 x0 x1 x2 x11 x18 x24 y0 v14 (((((1000 : Int32) * x24) + ((x22 - x22 / (10 : Int32) * (10 : Int32)) * (100 : Int32))) + ((i16 - i16 / (10 : Int32) * (10 : Int32)) * (10 : Int32))) + (i17 - i17 / (10 : Int32) * (10 : Int32)))
def f_W_asks_B684 (S : AS) (x0 : Option Nat) (x1 : Int32) (x2 : Option Nat) (x11 : Option Nat) (x18 : Int32) (x19 : Int32) (x22 : Int32) (x24 : Int32) : Option (Int32 × AS) :=
  f_W_asks_B685 S x0 x1 x2 x11 x18 x19 x22 x24 (0 : Int32)
def f_W_asks_B627 (S : AS) (x0 : Option Nat) (x1 : Int32) (x2 : Option Nat) (x9 : Option Nat) (x11 : Option Nat) (x12 : Option Nat) (x18 : Int32) (x19 : Int32) (x22 : Int32) (x23 : Int32) (y0 : Int32) : Option (Int32 × AS) :=
  (aI S 40 x2 (4 : Int32)).bind fun v18 =>
  if v18 ≤ x18 then
  f_W_asks_B684 S x0 x1 x2 x11 x18 x19 x22 y0
  else
  (aI S 40 x9 (((5 : Int32) * x23) + (4 : Int32))).bind fun v19 =>
  if v19 = 0 then
  (some (x22 / (10 : Int32))).bind fun i20 =>
  (aI S 40 x12 (((4 : Int32) * (i20 - i20 / (10 : Int32) * (10 : Int32))) + (3 : Int32))).bind fun v21 =>
  if ((v21 >>> (x23 &&& 31)) &&& (1 : Int32)) = 0 then
  (aI S 40 x2 (0 : Int32)).bind fun v22 =>
  if y0 < v22 then
  f_W_asks_B684 S x0 x1 x2 x11 x18 x19 x22 y0
  else
  f_W_asks_B685 S x0 x1 x2 x11 x18 x19 x22 y0 (1 : Int32)
  else
  f_W_asks_B684 S x0 x1 x2 x11 x18 x19 x22 y0
  else
  f_W_asks_B684 S x0 x1 x2 x11 x18 x19 x22 y0
def f_W_asks_B604 (S : AS) (x0 : Option Nat) (x1 : Int32) (x2 : Option Nat) (x9 : Option Nat) (x10 : Option Nat) (x11 : Option Nat) (x12 : Option Nat) (x18 : Int32) (x19 : Int32) (x22 : Int32) (y0 : Int32) : Option (Int32 × AS) :=
  (aI S 40 x2 (4 : Int32)).bind fun v23 =>
  if v23 ≤ x18 then
  f_W_asks_B627 S x0 x1 x2 x9 x11 x12 x18 x19 x22 y0 (0 : Int32)
  else
  (aI S 40 x10 (((3 : Int32) * x18) + (2 : Int32))).bind fun v24 =>
  f_W_asks_B627 S x0 x1 x2 x9 x11 x12 x18 x19 x22 y0 v24
def f_W_asks_B578 (S : AS) (x0 : Option Nat) (x1 : Int32) (x2 : Option Nat) (x9 : Option Nat) (x10 : Option Nat) (x11 : Option Nat) (x12 : Option Nat) (x18 : Int32) (x19 : Int32) (y0 : Int32) : Option (Int32 × AS) :=
  (aI S 40 x2 (4 : Int32)).bind fun v25 =>
  if v25 ≤ x18 then
  f_W_asks_B604 S x0 x1 x2 x9 x10 x11 x12 x18 x19 y0 (0 : Int32)
  else
  (aI S 40 x10 (((3 : Int32) * x18) + (1 : Int32))).bind fun v26 =>
  f_W_asks_B604 S x0 x1 x2 x9 x10 x11 x12 x18 x19 y0 (v26 - v26 / (100 : Int32) * (100 : Int32))
def f_W_asks_B557 (S : AS) (x0 : Option Nat) (x1 : Int32) (x2 : Option Nat) (x9 : Option Nat) (x10 : Option Nat) (x11 : Option Nat) (x12 : Option Nat) (x18 : Int32) (y0 : Int32) : Option (Int32 × AS) :=
  (aI S 40 x2 (4 : Int32)).bind fun v27 =>
  if v27 ≤ x18 then
  f_W_asks_B578 S x0 x1 x2 x9 x10 x11 x12 x18 y0 (0 : Int32)
  else
  (aI S 40 x10 ((3 : Int32) * x18)).bind fun v28 =>
  f_W_asks_B578 S x0 x1 x2 x9 x10 x11 x12 x18 y0 v28
def f_W_asks_B556 (S : AS) (x0 : Option Nat) (x1 : Int32) (x2 : Option Nat) (x9 : Option Nat) (x10 : Option Nat) (x11 : Option Nat) (x12 : Option Nat) (x18 : Int32) : Option (Int32 × AS) :=
  f_W_asks_B557 S x0 x1 x2 x9 x10 x11 x12 x18 (0 : Int32)
def f_W_asks_B549 (S : AS) (x0 : Option Nat) (x1 : Int32) (x2 : Option Nat) (x9 : Option Nat) (x10 : Option Nat) (x11 : Option Nat) (x12 : Option Nat) (x18 : Int32) (y0 : Int32) (y1 : Int32) : Option (Int32 × AS) :=
  if y0 = y1 then
  f_W_asks_B557 S x0 x1 x2 x9 x10 x11 x12 x18 (1 : Int32)
  else
  f_W_asks_B556 S x0 x1 x2 x9 x10 x11 x12 x18
def f_W_asks_B515 (S : AS) (x0 : Option Nat) (x1 : Int32) (x2 : Option Nat) (x9 : Option Nat) (x10 : Option Nat) (x11 : Option Nat) (x12 : Option Nat) (x17 : Int32) (x18 : Int32) (y0 : Int32) (y1 : Int32) : Option (Int32 × AS) :=
  if y0 = y1 then
  kr_b2 (f_W_oneg S x0 (8 : Int32) x17) fun v30 S29 =>
  (aI S29 40 x2 (3 : Int32)).bind fun v31 =>
  if v31 ≤ x17 then
  f_W_asks_B549 S29 x0 x1 x2 x9 x10 x11 x12 x18 v30 (-1001 : Int32)
  else
  (aI S29 40 x9 (((5 : Int32) * x17) + (3 : Int32))).bind fun v32 =>
  f_W_asks_B549 S29 x0 x1 x2 x9 x10 x11 x12 x18 v30 v32
  else
  f_W_asks_B556 S x0 x1 x2 x9 x10 x11 x12 x18
def f_W_asks_B478 (S : AS) (x0 : Option Nat) (x1 : Int32) (x2 : Option Nat) (x9 : Option Nat) (x10 : Option Nat) (x11 : Option Nat) (x12 : Option Nat) (x17 : Int32) (x18 : Int32) (y0 : Int32) : Option (Int32 × AS) :=
  if y0 = 0 then
  f_W_asks_B556 S x0 x1 x2 x9 x10 x11 x12 x18
  else
  kr_b2 (f_W_isg S x0 (2 : Int32) x17) fun v34 S33 =>
  (aI S33 40 x2 (3 : Int32)).bind fun v35 =>
  if v35 ≤ x17 then
  f_W_asks_B515 S33 x0 x1 x2 x9 x10 x11 x12 x17 x18 v34 (-1001 : Int32)
  else
  (aI S33 40 x9 (((5 : Int32) * x17) + (4 : Int32))).bind fun v36 =>
  f_W_asks_B515 S33 x0 x1 x2 x9 x10 x11 x12 x17 x18 v34 v36
def f_W_asks_B477 (S : AS) (x0 : Option Nat) (x1 : Int32) (x2 : Option Nat) (x9 : Option Nat) (x10 : Option Nat) (x11 : Option Nat) (x12 : Option Nat) (x17 : Int32) (x18 : Int32) : Option (Int32 × AS) :=
  f_W_asks_B478 S x0 x1 x2 x9 x10 x11 x12 x17 x18 (0 : Int32)
def f_W_asks_B470 (S : AS) (x0 : Option Nat) (x1 : Int32) (x2 : Option Nat) (x9 : Option Nat) (x10 : Option Nat) (x11 : Option Nat) (x12 : Option Nat) (x17 : Int32) (x18 : Int32) (y0 : Int32) (y1 : Int32) : Option (Int32 × AS) :=
  if y0 = y1 then
  f_W_asks_B478 S x0 x1 x2 x9 x10 x11 x12 x17 x18 (1 : Int32)
  else
  f_W_asks_B477 S x0 x1 x2 x9 x10 x11 x12 x17 x18
def f_W_asks_B410 (S : AS) (x0 : Option Nat) (x1 : Int32) (x2 : Option Nat) (x8 : Option Nat) (x9 : Option Nat) (x10 : Option Nat) (x11 : Option Nat) (x12 : Option Nat) (x16 : Int32) (x17 : Int32) (x18 : Int32) (x19 : Int32) (y0 : Int32) : Option (Int32 × AS) :=
  if x19 = 0 then
  f_W_asks_B477 S x0 x1 x2 x9 x10 x11 x12 x17 x18
  else
  kr_b2 (f_W_isg S x0 (0 : Int32) x16) fun v38 S37 =>
  if v38 = y0 then
  kr_b2 (f_W_isg S37 x0 (1 : Int32) x16) fun v40 S39 =>
  if v40 = y0 then
  kr_b2 (f_W_oneg S39 x0 (5 : Int32) x16) fun v42 S41 =>
  (aI S41 40 x2 (1 : Int32)).bind fun v43 =>
  if v43 ≤ x16 then
  f_W_asks_B470 S41 x0 x1 x2 x9 x10 x11 x12 x17 x18 v42 (-1001 : Int32)
  else
  kr_b2 (f_W_levelOf S41 x2 x8 x16) fun v45 S44 =>
  f_W_asks_B470 S44 x0 x1 x2 x9 x10 x11 x12 x17 x18 v42 v45
  else
  f_W_asks_B477 S39 x0 x1 x2 x9 x10 x11 x12 x17 x18
  else
  f_W_asks_B477 S37 x0 x1 x2 x9 x10 x11 x12 x17 x18
def f_W_asks_B375 (S : AS) (x0 : Option Nat) (x1 : Int32) (x2 : Option Nat) (x7 : Option Nat) (x8 : Option Nat) (x9 : Option Nat) (x10 : Option Nat) (x11 : Option Nat) (x12 : Option Nat) (x16 : Int32) (x17 : Int32) (x18 : Int32) (y0 : Int32) : Option (Int32 × AS) :=
  (aI S 40 x2 (1 : Int32)).bind fun v46 =>
  if v46 ≤ x16 then
  f_W_asks_B410 S x0 x1 x2 x8 x9 x10 x11 x12 x16 x17 x18 y0 (-1001 : Int32)
  else
  (aI S 40 x7 (((4 : Int32) * x16) + (3 : Int32))).bind fun v47 =>
  if (100 : Int32) ≤ v47 then
  f_W_asks_B410 S x0 x1 x2 x8 x9 x10 x11 x12 x16 x17 x18 y0 (0 : Int32)
  else
  f_W_asks_B410 S x0 x1 x2 x8 x9 x10 x11 x12 x16 x17 x18 y0 (1 : Int32)
def f_W_asks_B374 (S : AS) (x0 : Option Nat) (x1 : Int32) (x2 : Option Nat) (x7 : Option Nat) (x8 : Option Nat) (x9 : Option Nat) (x10 : Option Nat) (x11 : Option Nat) (x12 : Option Nat) (x16 : Int32) (x17 : Int32) (x18 : Int32) : Option (Int32 × AS) :=
  f_W_asks_B375 S x0 x1 x2 x7 x8 x9 x10 x11 x12 x16 x17 x18 (0 : Int32)
def f_W_asks_B367 (S : AS) (x0 : Option Nat) (x1 : Int32) (x2 : Option Nat) (x7 : Option Nat) (x8 : Option Nat) (x9 : Option Nat) (x10 : Option Nat) (x11 : Option Nat) (x12 : Option Nat) (x16 : Int32) (x17 : Int32) (x18 : Int32) (y0 : Int32) (y1 : Int32) : Option (Int32 × AS) :=
  if y0 = y1 then
  f_W_asks_B375 S x0 x1 x2 x7 x8 x9 x10 x11 x12 x16 x17 x18 (1 : Int32)
  else
  f_W_asks_B374 S x0 x1 x2 x7 x8 x9 x10 x11 x12 x16 x17 x18
def f_W_asks_B332 (S : AS) (x0 : Option Nat) (x1 : Int32) (x2 : Option Nat) (x4 : Option Nat) (x5 : Option Nat) (x7 : Option Nat) (x8 : Option Nat) (x9 : Option Nat) (x10 : Option Nat) (x11 : Option Nat) (x12 : Option Nat) (x15 : Int32) (x16 : Int32) (x17 : Int32) (x18 : Int32) (y0 : Int32) (y1 : Int32) : Option (Int32 × AS) :=
  if y0 = y1 then
  kr_b2 (f_W_oneg S x0 (3 : Int32) x15) fun v49 S48 =>
  (aI S48 40 x2 (11 : Int32)).bind fun v50 =>
  if v50 ≤ x15 then
  f_W_asks_B367 S48 x0 x1 x2 x7 x8 x9 x10 x11 x12 x16 x17 x18 v49 (-1001 : Int32)
  else
  kr_b2 (f_W_risk S48 x2 x4 x5 x15) fun v52 S51 =>
  f_W_asks_B367 S51 x0 x1 x2 x7 x8 x9 x10 x11 x12 x16 x17 x18 v49 v52
  else
  f_W_asks_B374 S x0 x1 x2 x7 x8 x9 x10 x11 x12 x16 x17 x18
def f_W_asks_B278 (S : AS) (x0 : Option Nat) (x1 : Int32) (x2 : Option Nat) (x4 : Option Nat) (x5 : Option Nat) (x6 : Option Nat) (x7 : Option Nat) (x8 : Option Nat) (x9 : Option Nat) (x10 : Option Nat) (x11 : Option Nat) (x12 : Option Nat) (x15 : Int32) (x16 : Int32) (x17 : Int32) (x18 : Int32) (y0 : Int32) (y1 : Int32) : Option (Int32 × AS) :=
  if y0 = y1 then
  kr_b2 (f_W_oneg S x0 (2 : Int32) x15) fun v54 S53 =>
  (aI S53 40 x2 (11 : Int32)).bind fun v55 =>
  if v55 ≤ x15 then
  f_W_asks_B332 S53 x0 x1 x2 x4 x5 x7 x8 x9 x10 x11 x12 x15 x16 x17 x18 v54 (-1001 : Int32)
  else
  (aI S53 40 x5 (((6 : Int32) * x15) + (4 : Int32))).bind fun v56 =>
  if v56 = (1 : Int32) then
  (aI S53 40 x6 (((2 : Int32) * x15) + (1 : Int32))).bind fun v57 =>
  f_W_asks_B332 S53 x0 x1 x2 x4 x5 x7 x8 x9 x10 x11 x12 x15 x16 x17 x18 v54 (v57 - (1 : Int32))
  else
  f_W_asks_B332 S53 x0 x1 x2 x4 x5 x7 x8 x9 x10 x11 x12 x15 x16 x17 x18 v54 (-1 : Int32)
  else
  f_W_asks_B374 S x0 x1 x2 x7 x8 x9 x10 x11 x12 x16 x17 x18
def f_W_asks_B251 (S : AS) (x0 : Option Nat) (x1 : Int32) (x2 : Option Nat) (x4 : Option Nat) (x5 : Option Nat) (x6 : Option Nat) (x7 : Option Nat) (x8 : Option Nat) (x9 : Option Nat) (x10 : Option Nat) (x11 : Option Nat) (x12 : Option Nat) (x15 : Int32) (x16 : Int32) (x17 : Int32) (x18 : Int32) (x20 : Int32) (y0 : Int32) (y1 : Int32) : Option (Int32 × AS) :=
  if y0 = y1 then
  kr_b2 (f_W_oneg S x0 (1 : Int32) x15) fun v59 S58 =>
  (aI S58 40 x2 (11 : Int32)).bind fun v60 =>
  if v60 ≤ x15 then
  f_W_asks_B278 S58 x0 x1 x2 x4 x5 x6 x7 x8 x9 x10 x11 x12 x15 x16 x17 x18 v59 (-1001 : Int32)
  else
  f_W_asks_B278 S58 x0 x1 x2 x4 x5 x6 x7 x8 x9 x10 x11 x12 x15 x16 x17 x18 v59 x20
  else
  f_W_asks_B374 S x0 x1 x2 x7 x8 x9 x10 x11 x12 x16 x17 x18
def f_W_asks_B212 (S : AS) (x0 : Option Nat) (x1 : Int32) (x2 : Option Nat) (x4 : Option Nat) (x5 : Option Nat) (x6 : Option Nat) (x7 : Option Nat) (x8 : Option Nat) (x9 : Option Nat) (x10 : Option Nat) (x11 : Option Nat) (x12 : Option Nat) (x15 : Int32) (x16 : Int32) (x17 : Int32) (x18 : Int32) (x19 : Int32) (y0 : Int32) : Option (Int32 × AS) :=
  if x19 = 0 then
  f_W_asks_B374 S x0 x1 x2 x7 x8 x9 x10 x11 x12 x16 x17 x18
  else
  kr_b2 (f_W_oneg S x0 (0 : Int32) x15) fun v62 S61 =>
  (aI S61 40 x2 (11 : Int32)).bind fun v63 =>
  if v63 ≤ x15 then
  f_W_asks_B251 S61 x0 x1 x2 x4 x5 x6 x7 x8 x9 x10 x11 x12 x15 x16 x17 x18 y0 v62 (-1001 : Int32)
  else
  (aI S61 40 x5 (((6 : Int32) * x15) + (4 : Int32))).bind fun v64 =>
  f_W_asks_B251 S61 x0 x1 x2 x4 x5 x6 x7 x8 x9 x10 x11 x12 x15 x16 x17 x18 y0 v62 v64
def f_W_asks_B211 (S : AS) (x0 : Option Nat) (x1 : Int32) (x2 : Option Nat) (x4 : Option Nat) (x5 : Option Nat) (x6 : Option Nat) (x7 : Option Nat) (x8 : Option Nat) (x9 : Option Nat) (x10 : Option Nat) (x11 : Option Nat) (x12 : Option Nat) (x15 : Int32) (x16 : Int32) (x17 : Int32) (x18 : Int32) (x19 : Int32) : Option (Int32 × AS) :=
  f_W_asks_B212 S x0 x1 x2 x4 x5 x6 x7 x8 x9 x10 x11 x12 x15 x16 x17 x18 x19 (-1 : Int32)
def f_W_asks_B168 (S : AS) (x0 : Option Nat) (x1 : Int32) (x2 : Option Nat) (x3 : Option Nat) (x4 : Option Nat) (x5 : Option Nat) (x6 : Option Nat) (x7 : Option Nat) (x8 : Option Nat) (x9 : Option Nat) (x10 : Option Nat) (x11 : Option Nat) (x12 : Option Nat) (x15 : Int32) (x16 : Int32) (x17 : Int32) (x18 : Int32) (y0 : Int32) : Option (Int32 × AS) :=
  (aI S 40 x2 (11 : Int32)).bind fun v65 =>
  if v65 ≤ x15 then
  f_W_asks_B211 S x0 x1 x2 x4 x5 x6 x7 x8 x9 x10 x11 x12 x15 x16 x17 x18 y0
  else
  (aI S 40 x5 (((6 : Int32) * x15) + (4 : Int32))).bind fun v66 =>
  if v66 = 0 then
  (aI S 40 x5 (((6 : Int32) * x15) + (3 : Int32))).bind fun v67 =>
  (aI S 40 x3 (((5 : Int32) * v67) + (1 : Int32))).bind fun v68 =>
  f_W_asks_B212 S x0 x1 x2 x4 x5 x6 x7 x8 x9 x10 x11 x12 x15 x16 x17 x18 y0 v68
  else
  f_W_asks_B211 S x0 x1 x2 x4 x5 x6 x7 x8 x9 x10 x11 x12 x15 x16 x17 x18 y0
def f_W_asks_B167 (S : AS) (x0 : Option Nat) (x1 : Int32) (x2 : Option Nat) (x3 : Option Nat) (x4 : Option Nat) (x5 : Option Nat) (x6 : Option Nat) (x7 : Option Nat) (x8 : Option Nat) (x9 : Option Nat) (x10 : Option Nat) (x11 : Option Nat) (x12 : Option Nat) (x15 : Int32) (x16 : Int32) (x17 : Int32) (x18 : Int32) : Option (Int32 × AS) :=
  f_W_asks_B168 S x0 x1 x2 x3 x4 x5 x6 x7 x8 x9 x10 x11 x12 x15 x16 x17 x18 (0 : Int32)
def f_W_asks (S : AS) (a0 : Option Nat) (a1 : Int32) (a2 : Option Nat) (a3 : Option Nat) (a4 : Option Nat) (a5 : Option Nat) (a6 : Option Nat) (a7 : Option Nat) (a8 : Option Nat) (a9 : Option Nat) (a10 : Option Nat) (a11 : Option Nat) (a12 : Option Nat) : Option (Int32 × AS) :=
  kr_b2 (f_W_some S a1 (3 : Int32)) fun v70 S69 =>
  kr_b2 (f_W_some S69 (a1 >>> ((3 : Int32) &&& 31)) (3 : Int32)) fun v72 S71 =>
  (aI S71 40 a2 (11 : Int32)).bind fun v73 =>
  kr_b2 (f_W_some S71 (a1 >>> ((4 : Int32) &&& 31)) (v73 + (1 : Int32))) fun v75 S74 =>
  (aI S74 40 a2 (1 : Int32)).bind fun v76 =>
  kr_b2 (f_W_some S74 (a1 >>> ((5 : Int32) &&& 31)) (v76 + (1 : Int32))) fun v78 S77 =>
  (aI S77 40 a2 (3 : Int32)).bind fun v79 =>
  kr_b2 (f_W_some S77 (a1 >>> ((6 : Int32) &&& 31)) (v79 + (1 : Int32))) fun v81 S80 =>
  (aI S80 40 a2 (4 : Int32)).bind fun v82 =>
  kr_b2 (f_W_some S80 (a1 >>> ((7 : Int32) &&& 31)) (v82 + (1 : Int32))) fun v84 S83 =>
  kr_b2 (f_W_twog S83 a0 (1 : Int32) v70 v72) fun v86 S85 =>
  (aI S85 40 a4 (((12 : Int32) * v70) + v72)).bind fun v87 =>
  if v86 = v87 then
  kr_b2 (f_W_noneg S85 a0 (4 : Int32) (0 : Int32)) fun v89 S88 =>
  (aI S88 40 a2 (9 : Int32)).bind fun v90 =>
  if v89 = v90 then
  kr_b2 (f_W_noneg S88 a0 (5 : Int32) (0 : Int32)) fun v92 S91 =>
  (aI S91 40 a2 (10 : Int32)).bind fun v93 =>
  if v92 = v93 then
  (aI S91 40 a2 (9 : Int32)).bind fun v94 =>
  kr_b2 (f_W_oneg S91 a0 (17 : Int32) v94) fun v96 S95 =>
  (aI S95 40 a2 (10 : Int32)).bind fun v97 =>
  if v96 = v97 then
  kr_b2 (f_W_noneg S95 a0 (6 : Int32) (0 : Int32)) fun v99 S98 =>
  (aI S98 40 a2 (1 : Int32)).bind fun v100 =>
  if v99 = v100 then
  kr_b2 (f_W_noneg S98 a0 (3 : Int32) (0 : Int32)) fun v102 S101 =>
  (aI S101 40 a2 (6 : Int32)).bind fun v103 =>
  if v102 = v103 then
  f_W_asks_B168 S101 a0 a1 a2 a3 a4 a5 a6 a7 a8 a9 a10 a11 a12 v75 v78 v81 v84 (1 : Int32)
  else
  f_W_asks_B167 S101 a0 a1 a2 a3 a4 a5 a6 a7 a8 a9 a10 a11 a12 v75 v78 v81 v84
  else
  f_W_asks_B167 S98 a0 a1 a2 a3 a4 a5 a6 a7 a8 a9 a10 a11 a12 v75 v78 v81 v84
  else
  f_W_asks_B167 S95 a0 a1 a2 a3 a4 a5 a6 a7 a8 a9 a10 a11 a12 v75 v78 v81 v84
  else
  f_W_asks_B167 S91 a0 a1 a2 a3 a4 a5 a6 a7 a8 a9 a10 a11 a12 v75 v78 v81 v84
  else
  f_W_asks_B167 S88 a0 a1 a2 a3 a4 a5 a6 a7 a8 a9 a10 a11 a12 v75 v78 v81 v84
  else
  f_W_asks_B167 S85 a0 a1 a2 a3 a4 a5 a6 a7 a8 a9 a10 a11 a12 v75 v78 v81 v84
set_option maxRecDepth 20000 in
set_option maxHeartbeats 4000000 in
theorem s_W_asks_B857 {S : AS} {y0 : Int32} {y1 : Int32} {r : (Int32 × AS)} (h : f_W_asks_B857 S y0 y1 = some r) : kr_AW m_W_asks 14 857 [] [.int y1, .int y0] S (kr_eI r) := by
  unfold f_W_asks_B857 at h
  refine r_icmp_ne (tgt := 864) d_W_asks_857 rfl (fun c => ?_) (fun c => ?_)
  · replace h := kr_ip c h
    refine r_iconst (v := (1 : Int32)) (by decide) d_W_asks_860 ?_
    refine r_goto (tgt := 865) d_W_asks_861 rfl ?_
    cases h
    exact r_zret rfl rfl d_W_asks_865
  · replace h := kr_in_ c h
    refine r_iconst (v := (0 : Int32)) (by decide) d_W_asks_864 ?_
    cases h
    exact r_zret rfl rfl d_W_asks_865
set_option maxRecDepth 20000 in
set_option maxHeartbeats 4000000 in
theorem s_W_asks_B800 {S : AS} {x0 : Option Nat} {x1 : Int32} {x2 : Option Nat} {x11 : Option Nat} {y0 : Int32} {r : (Int32 × AS)} (h : f_W_asks_B800 S x0 x1 x2 x11 y0 = some r) : kr_AW m_W_asks 14 800 [(0, va_rf x0), (1, .int x1), (2, va_rf x2), (11, va_rf x11)] [.int y0] S (kr_eI r) := by
  unfold f_W_asks_B800 at h
  refine r_istore (i := 19) (lv' := [(19, .int y0), (0, va_rf x0), (1, .int x1), (2, va_rf x2), (11, va_rf x11)]) (by decide) rfl d_W_asks_800 ?_
  refine r_iload_n (i := 1) (x := x1) 2 rfl d_W_asks_802 ?_
  refine r_iconst (v := (2 : Int32)) (by decide) d_W_asks_803 ?_
  refine r_ishr d_W_asks_804 ?_
  refine r_aload_n (i := 2) (x := x2) 3 rfl d_W_asks_805 ?_
  refine r_iconst (v := (5 : Int32)) (by decide) d_W_asks_806 ?_
  have h2 := kr_ob h
  clear h
  obtain ⟨v1, ev1, h⟩ := h2
  refine r_iaload ev1 d_W_asks_807 ?_
  refine r_iconst (v := (1 : Int32)) (by decide) d_W_asks_808 ?_
  refine r_iadd d_W_asks_809 ?_
  have h2 := kr_ob2 h
  clear h
  obtain ⟨v3, S2, eS2, h⟩ := h2
  refine r_callS (M1 := m_W_some) (As := [.int (x1 >>> ((2 : Int32) &&& 31)), .int (v1 + (1 : Int32))]) (s_W_some eS2) mok_W_some rfl w311 w312 (by decide) (kr_c8 kr_c0) d_W_asks_810 (kr_k1 ?_) kr_kn
  refine r_istore (i := 26) (lv' := [(26, .int v3), (19, .int y0), (0, va_rf x0), (1, .int x1), (2, va_rf x2), (11, va_rf x11)]) (by decide) rfl d_W_asks_813 ?_
  refine r_iload (i := 19) (x := y0) 1 rfl d_W_asks_815 ?_
  refine r_if_eq (tgt := 864) d_W_asks_817 rfl (fun c => ?_) (fun c => ?_)
  · replace h := kr_ip c h
    refine r_iconst (v := (0 : Int32)) (by decide) d_W_asks_864 ?_
    cases h
    exact r_zret rfl rfl d_W_asks_865
  · replace h := kr_in_ c h
    refine r_aload_n (i := 0) (x := x0) 2 rfl d_W_asks_820 ?_
    refine r_iconst (v := (3 : Int32)) (by decide) d_W_asks_821 ?_
    refine r_iload (i := 26) (x := v3) 0 rfl d_W_asks_822 ?_
    have h2 := kr_ob2 h
    clear h
    obtain ⟨v5, S4, eS4, h⟩ := h2
    refine r_callSX (M1 := m_W_is) (As := [va_rf x0, .int (3 : Int32), .int v3]) (s_W_isg eS4) mok_W_is (by decide) w1302 w1303 (by decide) (kr_c8 kr_c0) d_W_asks_824 (kr_k1 ?_) kr_kn
    refine r_iload (i := 26) (x := v3) 0 rfl d_W_asks_827 ?_
    refine r_aload_n (i := 2) (x := x2) 4 rfl d_W_asks_829 ?_
    refine r_iconst (v := (5 : Int32)) (by decide) d_W_asks_830 ?_
    have h2 := kr_ob h
    clear h
    obtain ⟨v6, ev6, h⟩ := h2
    refine r_iaload ev6 d_W_asks_831 ?_
    refine r_icmp_ne (tgt := 841) d_W_asks_832 rfl (fun c => ?_) (fun c => ?_)
    · replace h := kr_ip c h
      refine r_sipush (v := (-1001 : Int32)) (by decide) d_W_asks_835 ?_
      refine r_goto (tgt := 857) d_W_asks_838 rfl ?_
      exact kr_sub [] rfl (s_W_asks_B857 h)
    · replace h := kr_in_ c h
      refine r_aload_n (i := 2) (x := x2) 4 rfl d_W_asks_841 ?_
      refine r_aload (i := 11) (x := x11) 5 rfl d_W_asks_842 ?_
      refine r_iload (i := 26) (x := v3) 0 rfl d_W_asks_844 ?_
      have h2 := kr_ob2 h
      clear h
      obtain ⟨v8, S7, eS7, h⟩ := h2
      refine r_callS (M1 := m_W_isOut) (As := [va_rf x2, va_rf x11, .int v3]) (s_W_isOut eS7) mok_W_isOut rfl w1345 w1346 (by decide) (kr_c8 (kr_cI kr_c0)) d_W_asks_846 (kr_k1 ?_) kr_kn
      refine r_if_eq (tgt := 856) d_W_asks_849 rfl (fun c => ?_) (fun c => ?_)
      · replace h := kr_ip c h
        refine r_iconst (v := (1 : Int32)) (by decide) d_W_asks_856 ?_
        exact kr_sub [] rfl (s_W_asks_B857 h)
      · replace h := kr_in_ c h
        refine r_iconst (v := (0 : Int32)) (by decide) d_W_asks_852 ?_
        refine r_goto (tgt := 857) d_W_asks_853 rfl ?_
        exact kr_sub [] rfl (s_W_asks_B857 h)
set_option maxRecDepth 20000 in
set_option maxHeartbeats 4000000 in
theorem s_W_asks_B799 {S : AS} {x0 : Option Nat} {x1 : Int32} {x2 : Option Nat} {x11 : Option Nat} {r : (Int32 × AS)} (h : f_W_asks_B799 S x0 x1 x2 x11 = some r) : kr_AW m_W_asks 14 799 [(0, va_rf x0), (1, .int x1), (2, va_rf x2), (11, va_rf x11)] [] S (kr_eI r) := by
  unfold f_W_asks_B799 at h
  refine r_iconst (v := (0 : Int32)) (by decide) d_W_asks_799 ?_
  exact kr_sub [0, 1, 2, 3] rfl (s_W_asks_B800 h)
set_option maxRecDepth 20000 in
set_option maxHeartbeats 4000000 in
theorem s_W_asks_B792 {S : AS} {x0 : Option Nat} {x1 : Int32} {x2 : Option Nat} {x11 : Option Nat} {y0 : Int32} {y1 : Int32} {r : (Int32 × AS)} (h : f_W_asks_B792 S x0 x1 x2 x11 y0 y1 = some r) : kr_AW m_W_asks 14 792 [(0, va_rf x0), (1, .int x1), (2, va_rf x2), (11, va_rf x11)] [.int y1, .int y0] S (kr_eI r) := by
  unfold f_W_asks_B792 at h
  refine r_icmp_ne (tgt := 799) d_W_asks_792 rfl (fun c => ?_) (fun c => ?_)
  · replace h := kr_ip c h
    refine r_iconst (v := (1 : Int32)) (by decide) d_W_asks_795 ?_
    refine r_goto (tgt := 800) d_W_asks_796 rfl ?_
    exact kr_sub [0, 1, 2, 3] rfl (s_W_asks_B800 h)
  · replace h := kr_in_ c h
    exact kr_sub [0, 1, 2, 3] rfl (s_W_asks_B799 h)
set_option maxRecDepth 20000 in
set_option maxHeartbeats 4000000 in
theorem s_W_asks_B750 {S : AS} {x0 : Option Nat} {x1 : Int32} {x2 : Option Nat} {x11 : Option Nat} {x18 : Int32} {x24 : Int32} {x25 : Int32} {y0 : Int32} {y1 : Int32} {r : (Int32 × AS)} (h : f_W_asks_B750 S x0 x1 x2 x11 x18 x24 x25 y0 y1 = some r) : kr_AW m_W_asks 14 750 [(0, va_rf x0), (1, .int x1), (2, va_rf x2), (11, va_rf x11), (18, .int x18), (24, .int x24), (25, .int x25)] [.int y1, .int y0] S (kr_eI r) := by
  unfold f_W_asks_B750 at h
  refine r_icmp_ne (tgt := 799) d_W_asks_750 rfl (fun c => ?_) (fun c => ?_)
  · replace h := kr_ip c h
    refine r_aload_n (i := 0) (x := x0) 0 rfl d_W_asks_753 ?_
    refine r_bipush (v := (11 : Int32)) (by decide) d_W_asks_754 ?_
    refine r_iload (i := 18) (x := x18) 4 rfl d_W_asks_756 ?_
    have h2 := kr_ob2 h
    clear h
    obtain ⟨v10, S9, eS9, h⟩ := h2
    refine r_callSX (M1 := m_W_one) (As := [va_rf x0, .int (11 : Int32), .int x18]) (s_W_oneg eS9) mok_W_one (by decide) w1051 w1052 (by decide) (kr_c8 kr_c0) d_W_asks_758 (kr_k1 ?_) kr_kn
    refine r_iload (i := 18) (x := x18) 4 rfl d_W_asks_761 ?_
    refine r_aload_n (i := 2) (x := x2) 2 rfl d_W_asks_763 ?_
    refine r_iconst (v := (4 : Int32)) (by decide) d_W_asks_764 ?_
    have h2 := kr_ob h
    clear h
    obtain ⟨v11, ev11, h⟩ := h2
    refine r_iaload ev11 d_W_asks_765 ?_
    refine r_icmp_ne (tgt := 775) d_W_asks_766 rfl (fun c => ?_) (fun c => ?_)
    · replace h := kr_ip c h
      refine r_sipush (v := (-1001 : Int32)) (by decide) d_W_asks_769 ?_
      refine r_goto (tgt := 792) d_W_asks_772 rfl ?_
      exact kr_sub [0, 1, 2, 3] rfl (s_W_asks_B792 h)
    · replace h := kr_in_ c h
      refine r_iload (i := 25) (x := x25) 6 rfl d_W_asks_775 ?_
      refine r_if_eq (tgt := 791) d_W_asks_777 rfl (fun c => ?_) (fun c => ?_)
      · replace h := kr_ip c h
        refine r_iconst (v := (0 : Int32)) (by decide) d_W_asks_791 ?_
        exact kr_sub [0, 1, 2, 3] rfl (s_W_asks_B792 h)
      · replace h := kr_in_ c h
        refine r_iload (i := 24) (x := x24) 5 rfl d_W_asks_780 ?_
        refine r_aload_n (i := 2) (x := x2) 2 rfl d_W_asks_782 ?_
        refine r_iconst (v := (0 : Int32)) (by decide) d_W_asks_783 ?_
        have h2 := kr_ob h
        clear h
        obtain ⟨v12, ev12, h⟩ := h2
        refine r_iaload ev12 d_W_asks_784 ?_
        refine r_isub d_W_asks_785 ?_
        refine r_iconst (v := (1 : Int32)) (by decide) d_W_asks_786 ?_
        refine r_iadd d_W_asks_787 ?_
        refine r_goto (tgt := 792) d_W_asks_788 rfl ?_
        exact kr_sub [0, 1, 2, 3] rfl (s_W_asks_B792 h)
  · replace h := kr_in_ c h
    exact kr_sub [0, 1, 2, 3] rfl (s_W_asks_B799 h)
set_option maxRecDepth 20000 in
set_option maxHeartbeats 4000000 in
theorem s_W_asks_B685 {S : AS} {x0 : Option Nat} {x1 : Int32} {x2 : Option Nat} {x11 : Option Nat} {x18 : Int32} {x19 : Int32} {x22 : Int32} {x24 : Int32} {y0 : Int32} {r : (Int32 × AS)} (h : f_W_asks_B685 S x0 x1 x2 x11 x18 x19 x22 x24 y0 = some r) : kr_AW m_W_asks 14 685 [(0, va_rf x0), (1, .int x1), (2, va_rf x2), (11, va_rf x11), (18, .int x18), (19, .int x19), (22, .int x22), (24, .int x24)] [.int y0] S (kr_eI r) := by
  unfold f_W_asks_B685 at h
  refine r_istore (i := 25) (lv' := [(25, .int y0), (0, va_rf x0), (1, .int x1), (2, va_rf x2), (11, va_rf x11), (18, .int x18), (19, .int x19), (22, .int x22), (24, .int x24)]) (by decide) rfl d_W_asks_685 ?_
  refine r_iload (i := 19) (x := x19) 6 rfl d_W_asks_687 ?_
  refine r_if_eq (tgt := 799) d_W_asks_689 rfl (fun c => ?_) (fun c => ?_)
  · replace h := kr_ip c h
    exact kr_sub [1, 2, 3, 4] rfl (s_W_asks_B799 h)
  · replace h := kr_in_ c h
    refine r_aload_n (i := 0) (x := x0) 1 rfl d_W_asks_692 ?_
    refine r_bipush (v := (9 : Int32)) (by decide) d_W_asks_693 ?_
    refine r_iload (i := 18) (x := x18) 5 rfl d_W_asks_695 ?_
    have h2 := kr_ob2 h
    clear h
    obtain ⟨v14, S13, eS13, h⟩ := h2
    refine r_callSX (M1 := m_W_one) (As := [va_rf x0, .int (9 : Int32), .int x18]) (s_W_oneg eS13) mok_W_one (by decide) w1051 w1052 (by decide) (kr_c8 kr_c0) d_W_asks_697 (kr_k1 ?_) kr_kn
    refine r_iload (i := 18) (x := x18) 5 rfl d_W_asks_700 ?_
    refine r_aload_n (i := 2) (x := x2) 3 rfl d_W_asks_702 ?_
    refine r_iconst (v := (4 : Int32)) (by decide) d_W_asks_703 ?_
    have h2 := kr_ob h
    clear h
    obtain ⟨v15, ev15, h⟩ := h2
    refine r_iaload ev15 d_W_asks_704 ?_
    refine r_icmp_ge (tgt := 747) d_W_asks_705 rfl (fun c => ?_) (fun c => ?_)
    · replace h := kr_ip c h
      refine r_sipush (v := (-1001 : Int32)) (by decide) d_W_asks_747 ?_
      exact kr_sub [1, 2, 3, 4, 5, 8, 0] rfl (s_W_asks_B750 h)
    · replace h := kr_in_ c h
      refine r_sipush (v := (1000 : Int32)) (by decide) d_W_asks_708 ?_
      refine r_iload (i := 24) (x := x24) 8 rfl d_W_asks_711 ?_
      refine r_imul d_W_asks_713 ?_
      refine r_iload (i := 22) (x := x22) 7 rfl d_W_asks_714 ?_
      refine r_bipush (v := (10 : Int32)) (by decide) d_W_asks_716 ?_
      refine r_irem (by decide) d_W_asks_718 ?_
      refine r_bipush (v := (100 : Int32)) (by decide) d_W_asks_719 ?_
      refine r_imul d_W_asks_721 ?_
      refine r_iadd d_W_asks_722 ?_
      refine r_iload (i := 22) (x := x22) 7 rfl d_W_asks_723 ?_
      refine r_bipush (v := (10 : Int32)) (by decide) d_W_asks_725 ?_
      refine r_idiv (by decide) d_W_asks_727 ?_
      refine r_bipush (v := (10 : Int32)) (by decide) d_W_asks_728 ?_
      have h2 := kr_ob h
      clear h
      obtain ⟨i16, ei16, h⟩ := h2
      refine kr_nmI2 ei16 ?_
      refine r_irem (by decide) d_W_asks_730 ?_
      refine r_bipush (v := (10 : Int32)) (by decide) d_W_asks_731 ?_
      refine r_imul d_W_asks_733 ?_
      refine r_iadd d_W_asks_734 ?_
      refine r_iload (i := 22) (x := x22) 7 rfl d_W_asks_735 ?_
      refine r_bipush (v := (100 : Int32)) (by decide) d_W_asks_737 ?_
      refine r_idiv (by decide) d_W_asks_739 ?_
      refine r_bipush (v := (10 : Int32)) (by decide) d_W_asks_740 ?_
      have h2 := kr_ob h
      clear h
      obtain ⟨i17, ei17, h⟩ := h2
      refine kr_nmI2 ei17 ?_
      refine r_irem (by decide) d_W_asks_742 ?_
      refine r_iadd d_W_asks_743 ?_
      refine r_goto (tgt := 750) d_W_asks_744 rfl ?_
      exact kr_sub [1, 2, 3, 4, 5, 8, 0] rfl (s_W_asks_B750 h)
set_option maxRecDepth 20000 in
set_option maxHeartbeats 4000000 in
theorem s_W_asks_B684 {S : AS} {x0 : Option Nat} {x1 : Int32} {x2 : Option Nat} {x11 : Option Nat} {x18 : Int32} {x19 : Int32} {x22 : Int32} {x24 : Int32} {r : (Int32 × AS)} (h : f_W_asks_B684 S x0 x1 x2 x11 x18 x19 x22 x24 = some r) : kr_AW m_W_asks 14 684 [(0, va_rf x0), (1, .int x1), (2, va_rf x2), (11, va_rf x11), (18, .int x18), (19, .int x19), (22, .int x22), (24, .int x24)] [] S (kr_eI r) := by
  unfold f_W_asks_B684 at h
  refine r_iconst (v := (0 : Int32)) (by decide) d_W_asks_684 ?_
  exact kr_sub [0, 1, 2, 3, 4, 5, 6, 7] rfl (s_W_asks_B685 h)
set_option maxRecDepth 20000 in
set_option maxHeartbeats 4000000 in
theorem s_W_asks_B627 {S : AS} {x0 : Option Nat} {x1 : Int32} {x2 : Option Nat} {x9 : Option Nat} {x11 : Option Nat} {x12 : Option Nat} {x18 : Int32} {x19 : Int32} {x22 : Int32} {x23 : Int32} {y0 : Int32} {r : (Int32 × AS)} (h : f_W_asks_B627 S x0 x1 x2 x9 x11 x12 x18 x19 x22 x23 y0 = some r) : kr_AW m_W_asks 14 627 [(0, va_rf x0), (1, .int x1), (2, va_rf x2), (9, va_rf x9), (11, va_rf x11), (12, va_rf x12), (18, .int x18), (19, .int x19), (22, .int x22), (23, .int x23)] [.int y0] S (kr_eI r) := by
  unfold f_W_asks_B627 at h
  refine r_istore (i := 24) (lv' := [(24, .int y0), (0, va_rf x0), (1, .int x1), (2, va_rf x2), (9, va_rf x9), (11, va_rf x11), (12, va_rf x12), (18, .int x18), (19, .int x19), (22, .int x22), (23, .int x23)]) (by decide) rfl d_W_asks_627 ?_
  refine r_iload (i := 18) (x := x18) 7 rfl d_W_asks_629 ?_
  refine r_aload_n (i := 2) (x := x2) 3 rfl d_W_asks_631 ?_
  refine r_iconst (v := (4 : Int32)) (by decide) d_W_asks_632 ?_
  have h2 := kr_ob h
  clear h
  obtain ⟨v18, ev18, h⟩ := h2
  refine r_iaload ev18 d_W_asks_633 ?_
  refine r_icmp_ge (tgt := 684) d_W_asks_634 rfl (fun c => ?_) (fun c => ?_)
  · replace h := kr_ip c h
    exact kr_sub [1, 2, 3, 5, 7, 8, 9, 0] rfl (s_W_asks_B684 h)
  · replace h := kr_in_ c h
    refine r_aload (i := 9) (x := x9) 4 rfl d_W_asks_637 ?_
    refine r_iconst (v := (5 : Int32)) (by decide) d_W_asks_639 ?_
    refine r_iload (i := 23) (x := x23) 10 rfl d_W_asks_640 ?_
    refine r_imul d_W_asks_642 ?_
    refine r_iconst (v := (4 : Int32)) (by decide) d_W_asks_643 ?_
    refine r_iadd d_W_asks_644 ?_
    have h2 := kr_ob h
    clear h
    obtain ⟨v19, ev19, h⟩ := h2
    refine r_iaload ev19 d_W_asks_645 ?_
    refine r_if_ne (tgt := 684) d_W_asks_646 rfl (fun c => ?_) (fun c => ?_)
    · replace h := kr_ip c h
      refine r_aload (i := 12) (x := x12) 6 rfl d_W_asks_649 ?_
      refine r_iconst (v := (4 : Int32)) (by decide) d_W_asks_651 ?_
      refine r_iload (i := 22) (x := x22) 9 rfl d_W_asks_652 ?_
      refine r_bipush (v := (10 : Int32)) (by decide) d_W_asks_654 ?_
      refine r_idiv (by decide) d_W_asks_656 ?_
      refine r_bipush (v := (10 : Int32)) (by decide) d_W_asks_657 ?_
      have h2 := kr_ob h
      clear h
      obtain ⟨i20, ei20, h⟩ := h2
      refine kr_nmI2 ei20 ?_
      refine r_irem (by decide) d_W_asks_659 ?_
      refine r_imul d_W_asks_660 ?_
      refine r_iconst (v := (3 : Int32)) (by decide) d_W_asks_661 ?_
      refine r_iadd d_W_asks_662 ?_
      have h2 := kr_ob h
      clear h
      obtain ⟨v21, ev21, h⟩ := h2
      refine r_iaload ev21 d_W_asks_663 ?_
      refine r_iload (i := 23) (x := x23) 10 rfl d_W_asks_664 ?_
      refine r_ishr d_W_asks_666 ?_
      refine r_iconst (v := (1 : Int32)) (by decide) d_W_asks_667 ?_
      refine r_iand d_W_asks_668 ?_
      refine r_if_ne (tgt := 684) d_W_asks_669 rfl (fun c => ?_) (fun c => ?_)
      · replace h := kr_ip c h
        refine r_iload (i := 24) (x := y0) 0 rfl d_W_asks_672 ?_
        refine r_aload_n (i := 2) (x := x2) 3 rfl d_W_asks_674 ?_
        refine r_iconst (v := (0 : Int32)) (by decide) d_W_asks_675 ?_
        have h2 := kr_ob h
        clear h
        obtain ⟨v22, ev22, h⟩ := h2
        refine r_iaload ev22 d_W_asks_676 ?_
        refine r_icmp_lt (tgt := 684) d_W_asks_677 rfl (fun c => ?_) (fun c => ?_)
        · replace h := kr_ip c h
          exact kr_sub [1, 2, 3, 5, 7, 8, 9, 0] rfl (s_W_asks_B684 h)
        · replace h := kr_in_ c h
          refine r_iconst (v := (1 : Int32)) (by decide) d_W_asks_680 ?_
          refine r_goto (tgt := 685) d_W_asks_681 rfl ?_
          exact kr_sub [1, 2, 3, 5, 7, 8, 9, 0] rfl (s_W_asks_B685 h)
      · replace h := kr_in_ c h
        exact kr_sub [1, 2, 3, 5, 7, 8, 9, 0] rfl (s_W_asks_B684 h)
    · replace h := kr_in_ c h
      exact kr_sub [1, 2, 3, 5, 7, 8, 9, 0] rfl (s_W_asks_B684 h)
set_option maxRecDepth 20000 in
set_option maxHeartbeats 4000000 in
theorem s_W_asks_B604 {S : AS} {x0 : Option Nat} {x1 : Int32} {x2 : Option Nat} {x9 : Option Nat} {x10 : Option Nat} {x11 : Option Nat} {x12 : Option Nat} {x18 : Int32} {x19 : Int32} {x22 : Int32} {y0 : Int32} {r : (Int32 × AS)} (h : f_W_asks_B604 S x0 x1 x2 x9 x10 x11 x12 x18 x19 x22 y0 = some r) : kr_AW m_W_asks 14 604 [(0, va_rf x0), (1, .int x1), (2, va_rf x2), (9, va_rf x9), (10, va_rf x10), (11, va_rf x11), (12, va_rf x12), (18, .int x18), (19, .int x19), (22, .int x22)] [.int y0] S (kr_eI r) := by
  unfold f_W_asks_B604 at h
  refine r_istore (i := 23) (lv' := [(23, .int y0), (0, va_rf x0), (1, .int x1), (2, va_rf x2), (9, va_rf x9), (10, va_rf x10), (11, va_rf x11), (12, va_rf x12), (18, .int x18), (19, .int x19), (22, .int x22)]) (by decide) rfl d_W_asks_604 ?_
  refine r_iload (i := 18) (x := x18) 8 rfl d_W_asks_606 ?_
  refine r_aload_n (i := 2) (x := x2) 3 rfl d_W_asks_608 ?_
  refine r_iconst (v := (4 : Int32)) (by decide) d_W_asks_609 ?_
  have h2 := kr_ob h
  clear h
  obtain ⟨v23, ev23, h⟩ := h2
  refine r_iaload ev23 d_W_asks_610 ?_
  refine r_icmp_ge (tgt := 626) d_W_asks_611 rfl (fun c => ?_) (fun c => ?_)
  · replace h := kr_ip c h
    refine r_iconst (v := (0 : Int32)) (by decide) d_W_asks_626 ?_
    exact kr_sub [1, 2, 3, 4, 6, 7, 8, 9, 10, 0] rfl (s_W_asks_B627 h)
  · replace h := kr_in_ c h
    refine r_aload (i := 10) (x := x10) 5 rfl d_W_asks_614 ?_
    refine r_iconst (v := (3 : Int32)) (by decide) d_W_asks_616 ?_
    refine r_iload (i := 18) (x := x18) 8 rfl d_W_asks_617 ?_
    refine r_imul d_W_asks_619 ?_
    refine r_iconst (v := (2 : Int32)) (by decide) d_W_asks_620 ?_
    refine r_iadd d_W_asks_621 ?_
    have h2 := kr_ob h
    clear h
    obtain ⟨v24, ev24, h⟩ := h2
    refine r_iaload ev24 d_W_asks_622 ?_
    refine r_goto (tgt := 627) d_W_asks_623 rfl ?_
    exact kr_sub [1, 2, 3, 4, 6, 7, 8, 9, 10, 0] rfl (s_W_asks_B627 h)
set_option maxRecDepth 20000 in
set_option maxHeartbeats 4000000 in
theorem s_W_asks_B578 {S : AS} {x0 : Option Nat} {x1 : Int32} {x2 : Option Nat} {x9 : Option Nat} {x10 : Option Nat} {x11 : Option Nat} {x12 : Option Nat} {x18 : Int32} {x19 : Int32} {y0 : Int32} {r : (Int32 × AS)} (h : f_W_asks_B578 S x0 x1 x2 x9 x10 x11 x12 x18 x19 y0 = some r) : kr_AW m_W_asks 14 578 [(0, va_rf x0), (1, .int x1), (2, va_rf x2), (9, va_rf x9), (10, va_rf x10), (11, va_rf x11), (12, va_rf x12), (18, .int x18), (19, .int x19)] [.int y0] S (kr_eI r) := by
  unfold f_W_asks_B578 at h
  refine r_istore (i := 22) (lv' := [(22, .int y0), (0, va_rf x0), (1, .int x1), (2, va_rf x2), (9, va_rf x9), (10, va_rf x10), (11, va_rf x11), (12, va_rf x12), (18, .int x18), (19, .int x19)]) (by decide) rfl d_W_asks_578 ?_
  refine r_iload (i := 18) (x := x18) 8 rfl d_W_asks_580 ?_
  refine r_aload_n (i := 2) (x := x2) 3 rfl d_W_asks_582 ?_
  refine r_iconst (v := (4 : Int32)) (by decide) d_W_asks_583 ?_
  have h2 := kr_ob h
  clear h
  obtain ⟨v25, ev25, h⟩ := h2
  refine r_iaload ev25 d_W_asks_584 ?_
  refine r_icmp_ge (tgt := 603) d_W_asks_585 rfl (fun c => ?_) (fun c => ?_)
  · replace h := kr_ip c h
    refine r_iconst (v := (0 : Int32)) (by decide) d_W_asks_603 ?_
    exact kr_sub [1, 2, 3, 4, 5, 6, 7, 8, 9, 0] rfl (s_W_asks_B604 h)
  · replace h := kr_in_ c h
    refine r_aload (i := 10) (x := x10) 5 rfl d_W_asks_588 ?_
    refine r_iconst (v := (3 : Int32)) (by decide) d_W_asks_590 ?_
    refine r_iload (i := 18) (x := x18) 8 rfl d_W_asks_591 ?_
    refine r_imul d_W_asks_593 ?_
    refine r_iconst (v := (1 : Int32)) (by decide) d_W_asks_594 ?_
    refine r_iadd d_W_asks_595 ?_
    have h2 := kr_ob h
    clear h
    obtain ⟨v26, ev26, h⟩ := h2
    refine r_iaload ev26 d_W_asks_596 ?_
    refine r_bipush (v := (100 : Int32)) (by decide) d_W_asks_597 ?_
    refine r_irem (by decide) d_W_asks_599 ?_
    refine r_goto (tgt := 604) d_W_asks_600 rfl ?_
    exact kr_sub [1, 2, 3, 4, 5, 6, 7, 8, 9, 0] rfl (s_W_asks_B604 h)
set_option maxRecDepth 20000 in
set_option maxHeartbeats 4000000 in
theorem s_W_asks_B557 {S : AS} {x0 : Option Nat} {x1 : Int32} {x2 : Option Nat} {x9 : Option Nat} {x10 : Option Nat} {x11 : Option Nat} {x12 : Option Nat} {x18 : Int32} {y0 : Int32} {r : (Int32 × AS)} (h : f_W_asks_B557 S x0 x1 x2 x9 x10 x11 x12 x18 y0 = some r) : kr_AW m_W_asks 14 557 [(0, va_rf x0), (1, .int x1), (2, va_rf x2), (9, va_rf x9), (10, va_rf x10), (11, va_rf x11), (12, va_rf x12), (18, .int x18)] [.int y0] S (kr_eI r) := by
  unfold f_W_asks_B557 at h
  refine r_istore (i := 19) (lv' := [(19, .int y0), (0, va_rf x0), (1, .int x1), (2, va_rf x2), (9, va_rf x9), (10, va_rf x10), (11, va_rf x11), (12, va_rf x12), (18, .int x18)]) (by decide) rfl d_W_asks_557 ?_
  refine r_iload (i := 18) (x := x18) 8 rfl d_W_asks_559 ?_
  refine r_aload_n (i := 2) (x := x2) 3 rfl d_W_asks_561 ?_
  refine r_iconst (v := (4 : Int32)) (by decide) d_W_asks_562 ?_
  have h2 := kr_ob h
  clear h
  obtain ⟨v27, ev27, h⟩ := h2
  refine r_iaload ev27 d_W_asks_563 ?_
  refine r_icmp_ge (tgt := 577) d_W_asks_564 rfl (fun c => ?_) (fun c => ?_)
  · replace h := kr_ip c h
    refine r_iconst (v := (0 : Int32)) (by decide) d_W_asks_577 ?_
    exact kr_sub [1, 2, 3, 4, 5, 6, 7, 8, 0] rfl (s_W_asks_B578 h)
  · replace h := kr_in_ c h
    refine r_aload (i := 10) (x := x10) 5 rfl d_W_asks_567 ?_
    refine r_iconst (v := (3 : Int32)) (by decide) d_W_asks_569 ?_
    refine r_iload (i := 18) (x := x18) 8 rfl d_W_asks_570 ?_
    refine r_imul d_W_asks_572 ?_
    have h2 := kr_ob h
    clear h
    obtain ⟨v28, ev28, h⟩ := h2
    refine r_iaload ev28 d_W_asks_573 ?_
    refine r_goto (tgt := 578) d_W_asks_574 rfl ?_
    exact kr_sub [1, 2, 3, 4, 5, 6, 7, 8, 0] rfl (s_W_asks_B578 h)
set_option maxRecDepth 20000 in
set_option maxHeartbeats 4000000 in
theorem s_W_asks_B556 {S : AS} {x0 : Option Nat} {x1 : Int32} {x2 : Option Nat} {x9 : Option Nat} {x10 : Option Nat} {x11 : Option Nat} {x12 : Option Nat} {x18 : Int32} {r : (Int32 × AS)} (h : f_W_asks_B556 S x0 x1 x2 x9 x10 x11 x12 x18 = some r) : kr_AW m_W_asks 14 556 [(0, va_rf x0), (1, .int x1), (2, va_rf x2), (9, va_rf x9), (10, va_rf x10), (11, va_rf x11), (12, va_rf x12), (18, .int x18)] [] S (kr_eI r) := by
  unfold f_W_asks_B556 at h
  refine r_iconst (v := (0 : Int32)) (by decide) d_W_asks_556 ?_
  exact kr_sub [0, 1, 2, 3, 4, 5, 6, 7] rfl (s_W_asks_B557 h)
set_option maxRecDepth 20000 in
set_option maxHeartbeats 4000000 in
theorem s_W_asks_B549 {S : AS} {x0 : Option Nat} {x1 : Int32} {x2 : Option Nat} {x9 : Option Nat} {x10 : Option Nat} {x11 : Option Nat} {x12 : Option Nat} {x18 : Int32} {y0 : Int32} {y1 : Int32} {r : (Int32 × AS)} (h : f_W_asks_B549 S x0 x1 x2 x9 x10 x11 x12 x18 y0 y1 = some r) : kr_AW m_W_asks 14 549 [(0, va_rf x0), (1, .int x1), (2, va_rf x2), (9, va_rf x9), (10, va_rf x10), (11, va_rf x11), (12, va_rf x12), (18, .int x18)] [.int y1, .int y0] S (kr_eI r) := by
  unfold f_W_asks_B549 at h
  refine r_icmp_ne (tgt := 556) d_W_asks_549 rfl (fun c => ?_) (fun c => ?_)
  · replace h := kr_ip c h
    refine r_iconst (v := (1 : Int32)) (by decide) d_W_asks_552 ?_
    refine r_goto (tgt := 557) d_W_asks_553 rfl ?_
    exact kr_sub [0, 1, 2, 3, 4, 5, 6, 7] rfl (s_W_asks_B557 h)
  · replace h := kr_in_ c h
    exact kr_sub [0, 1, 2, 3, 4, 5, 6, 7] rfl (s_W_asks_B556 h)
set_option maxRecDepth 20000 in
set_option maxHeartbeats 4000000 in
theorem s_W_asks_B515 {S : AS} {x0 : Option Nat} {x1 : Int32} {x2 : Option Nat} {x9 : Option Nat} {x10 : Option Nat} {x11 : Option Nat} {x12 : Option Nat} {x17 : Int32} {x18 : Int32} {y0 : Int32} {y1 : Int32} {r : (Int32 × AS)} (h : f_W_asks_B515 S x0 x1 x2 x9 x10 x11 x12 x17 x18 y0 y1 = some r) : kr_AW m_W_asks 14 515 [(0, va_rf x0), (1, .int x1), (2, va_rf x2), (9, va_rf x9), (10, va_rf x10), (11, va_rf x11), (12, va_rf x12), (17, .int x17), (18, .int x18)] [.int y1, .int y0] S (kr_eI r) := by
  unfold f_W_asks_B515 at h
  refine r_icmp_ne (tgt := 556) d_W_asks_515 rfl (fun c => ?_) (fun c => ?_)
  · replace h := kr_ip c h
    refine r_aload_n (i := 0) (x := x0) 0 rfl d_W_asks_518 ?_
    refine r_bipush (v := (8 : Int32)) (by decide) d_W_asks_519 ?_
    refine r_iload (i := 17) (x := x17) 7 rfl d_W_asks_521 ?_
    have h2 := kr_ob2 h
    clear h
    obtain ⟨v30, S29, eS29, h⟩ := h2
    refine r_callSX (M1 := m_W_one) (As := [va_rf x0, .int (8 : Int32), .int x17]) (s_W_oneg eS29) mok_W_one (by decide) w1051 w1052 (by decide) (kr_c8 kr_c0) d_W_asks_523 (kr_k1 ?_) kr_kn
    refine r_iload (i := 17) (x := x17) 7 rfl d_W_asks_526 ?_
    refine r_aload_n (i := 2) (x := x2) 2 rfl d_W_asks_528 ?_
    refine r_iconst (v := (3 : Int32)) (by decide) d_W_asks_529 ?_
    have h2 := kr_ob h
    clear h
    obtain ⟨v31, ev31, h⟩ := h2
    refine r_iaload ev31 d_W_asks_530 ?_
    refine r_icmp_ge (tgt := 546) d_W_asks_531 rfl (fun c => ?_) (fun c => ?_)
    · replace h := kr_ip c h
      refine r_sipush (v := (-1001 : Int32)) (by decide) d_W_asks_546 ?_
      exact kr_sub [0, 1, 2, 3, 4, 5, 6, 8] rfl (s_W_asks_B549 h)
    · replace h := kr_in_ c h
      refine r_aload (i := 9) (x := x9) 3 rfl d_W_asks_534 ?_
      refine r_iconst (v := (5 : Int32)) (by decide) d_W_asks_536 ?_
      refine r_iload (i := 17) (x := x17) 7 rfl d_W_asks_537 ?_
      refine r_imul d_W_asks_539 ?_
      refine r_iconst (v := (3 : Int32)) (by decide) d_W_asks_540 ?_
      refine r_iadd d_W_asks_541 ?_
      have h2 := kr_ob h
      clear h
      obtain ⟨v32, ev32, h⟩ := h2
      refine r_iaload ev32 d_W_asks_542 ?_
      refine r_goto (tgt := 549) d_W_asks_543 rfl ?_
      exact kr_sub [0, 1, 2, 3, 4, 5, 6, 8] rfl (s_W_asks_B549 h)
  · replace h := kr_in_ c h
    exact kr_sub [0, 1, 2, 3, 4, 5, 6, 8] rfl (s_W_asks_B556 h)
set_option maxRecDepth 20000 in
set_option maxHeartbeats 4000000 in
theorem s_W_asks_B478 {S : AS} {x0 : Option Nat} {x1 : Int32} {x2 : Option Nat} {x9 : Option Nat} {x10 : Option Nat} {x11 : Option Nat} {x12 : Option Nat} {x17 : Int32} {x18 : Int32} {y0 : Int32} {r : (Int32 × AS)} (h : f_W_asks_B478 S x0 x1 x2 x9 x10 x11 x12 x17 x18 y0 = some r) : kr_AW m_W_asks 14 478 [(0, va_rf x0), (1, .int x1), (2, va_rf x2), (9, va_rf x9), (10, va_rf x10), (11, va_rf x11), (12, va_rf x12), (17, .int x17), (18, .int x18)] [.int y0] S (kr_eI r) := by
  unfold f_W_asks_B478 at h
  refine r_istore (i := 19) (lv' := [(19, .int y0), (0, va_rf x0), (1, .int x1), (2, va_rf x2), (9, va_rf x9), (10, va_rf x10), (11, va_rf x11), (12, va_rf x12), (17, .int x17), (18, .int x18)]) (by decide) rfl d_W_asks_478 ?_
  refine r_iload (i := 19) (x := y0) 0 rfl d_W_asks_480 ?_
  refine r_if_eq (tgt := 556) d_W_asks_482 rfl (fun c => ?_) (fun c => ?_)
  · replace h := kr_ip c h
    exact kr_sub [1, 2, 3, 4, 5, 6, 7, 9] rfl (s_W_asks_B556 h)
  · replace h := kr_in_ c h
    refine r_aload_n (i := 0) (x := x0) 1 rfl d_W_asks_485 ?_
    refine r_iconst (v := (2 : Int32)) (by decide) d_W_asks_486 ?_
    refine r_iload (i := 17) (x := x17) 8 rfl d_W_asks_487 ?_
    have h2 := kr_ob2 h
    clear h
    obtain ⟨v34, S33, eS33, h⟩ := h2
    refine r_callSX (M1 := m_W_is) (As := [va_rf x0, .int (2 : Int32), .int x17]) (s_W_isg eS33) mok_W_is (by decide) w1302 w1303 (by decide) (kr_c8 kr_c0) d_W_asks_489 (kr_k1 ?_) kr_kn
    refine r_iload (i := 17) (x := x17) 8 rfl d_W_asks_492 ?_
    refine r_aload_n (i := 2) (x := x2) 3 rfl d_W_asks_494 ?_
    refine r_iconst (v := (3 : Int32)) (by decide) d_W_asks_495 ?_
    have h2 := kr_ob h
    clear h
    obtain ⟨v35, ev35, h⟩ := h2
    refine r_iaload ev35 d_W_asks_496 ?_
    refine r_icmp_ge (tgt := 512) d_W_asks_497 rfl (fun c => ?_) (fun c => ?_)
    · replace h := kr_ip c h
      refine r_sipush (v := (-1001 : Int32)) (by decide) d_W_asks_512 ?_
      exact kr_sub [1, 2, 3, 4, 5, 6, 7, 8, 9] rfl (s_W_asks_B515 h)
    · replace h := kr_in_ c h
      refine r_aload (i := 9) (x := x9) 4 rfl d_W_asks_500 ?_
      refine r_iconst (v := (5 : Int32)) (by decide) d_W_asks_502 ?_
      refine r_iload (i := 17) (x := x17) 8 rfl d_W_asks_503 ?_
      refine r_imul d_W_asks_505 ?_
      refine r_iconst (v := (4 : Int32)) (by decide) d_W_asks_506 ?_
      refine r_iadd d_W_asks_507 ?_
      have h2 := kr_ob h
      clear h
      obtain ⟨v36, ev36, h⟩ := h2
      refine r_iaload ev36 d_W_asks_508 ?_
      refine r_goto (tgt := 515) d_W_asks_509 rfl ?_
      exact kr_sub [1, 2, 3, 4, 5, 6, 7, 8, 9] rfl (s_W_asks_B515 h)
set_option maxRecDepth 20000 in
set_option maxHeartbeats 4000000 in
theorem s_W_asks_B477 {S : AS} {x0 : Option Nat} {x1 : Int32} {x2 : Option Nat} {x9 : Option Nat} {x10 : Option Nat} {x11 : Option Nat} {x12 : Option Nat} {x17 : Int32} {x18 : Int32} {r : (Int32 × AS)} (h : f_W_asks_B477 S x0 x1 x2 x9 x10 x11 x12 x17 x18 = some r) : kr_AW m_W_asks 14 477 [(0, va_rf x0), (1, .int x1), (2, va_rf x2), (9, va_rf x9), (10, va_rf x10), (11, va_rf x11), (12, va_rf x12), (17, .int x17), (18, .int x18)] [] S (kr_eI r) := by
  unfold f_W_asks_B477 at h
  refine r_iconst (v := (0 : Int32)) (by decide) d_W_asks_477 ?_
  exact kr_sub [0, 1, 2, 3, 4, 5, 6, 7, 8] rfl (s_W_asks_B478 h)
set_option maxRecDepth 20000 in
set_option maxHeartbeats 4000000 in
theorem s_W_asks_B470 {S : AS} {x0 : Option Nat} {x1 : Int32} {x2 : Option Nat} {x9 : Option Nat} {x10 : Option Nat} {x11 : Option Nat} {x12 : Option Nat} {x17 : Int32} {x18 : Int32} {y0 : Int32} {y1 : Int32} {r : (Int32 × AS)} (h : f_W_asks_B470 S x0 x1 x2 x9 x10 x11 x12 x17 x18 y0 y1 = some r) : kr_AW m_W_asks 14 470 [(0, va_rf x0), (1, .int x1), (2, va_rf x2), (9, va_rf x9), (10, va_rf x10), (11, va_rf x11), (12, va_rf x12), (17, .int x17), (18, .int x18)] [.int y1, .int y0] S (kr_eI r) := by
  unfold f_W_asks_B470 at h
  refine r_icmp_ne (tgt := 477) d_W_asks_470 rfl (fun c => ?_) (fun c => ?_)
  · replace h := kr_ip c h
    refine r_iconst (v := (1 : Int32)) (by decide) d_W_asks_473 ?_
    refine r_goto (tgt := 478) d_W_asks_474 rfl ?_
    exact kr_sub [0, 1, 2, 3, 4, 5, 6, 7, 8] rfl (s_W_asks_B478 h)
  · replace h := kr_in_ c h
    exact kr_sub [0, 1, 2, 3, 4, 5, 6, 7, 8] rfl (s_W_asks_B477 h)
set_option maxRecDepth 20000 in
set_option maxHeartbeats 4000000 in
theorem s_W_asks_B410 {S : AS} {x0 : Option Nat} {x1 : Int32} {x2 : Option Nat} {x8 : Option Nat} {x9 : Option Nat} {x10 : Option Nat} {x11 : Option Nat} {x12 : Option Nat} {x16 : Int32} {x17 : Int32} {x18 : Int32} {x19 : Int32} {y0 : Int32} {r : (Int32 × AS)} (h : f_W_asks_B410 S x0 x1 x2 x8 x9 x10 x11 x12 x16 x17 x18 x19 y0 = some r) : kr_AW m_W_asks 14 410 [(0, va_rf x0), (1, .int x1), (2, va_rf x2), (8, va_rf x8), (9, va_rf x9), (10, va_rf x10), (11, va_rf x11), (12, va_rf x12), (16, .int x16), (17, .int x17), (18, .int x18), (19, .int x19)] [.int y0] S (kr_eI r) := by
  unfold f_W_asks_B410 at h
  refine r_istore (i := 21) (lv' := [(21, .int y0), (0, va_rf x0), (1, .int x1), (2, va_rf x2), (8, va_rf x8), (9, va_rf x9), (10, va_rf x10), (11, va_rf x11), (12, va_rf x12), (16, .int x16), (17, .int x17), (18, .int x18), (19, .int x19)]) (by decide) rfl d_W_asks_410 ?_
  refine r_iload (i := 19) (x := x19) 12 rfl d_W_asks_412 ?_
  refine r_if_eq (tgt := 477) d_W_asks_414 rfl (fun c => ?_) (fun c => ?_)
  · replace h := kr_ip c h
    exact kr_sub [1, 2, 3, 5, 6, 7, 8, 10, 11] rfl (s_W_asks_B477 h)
  · replace h := kr_in_ c h
    refine r_aload_n (i := 0) (x := x0) 1 rfl d_W_asks_417 ?_
    refine r_iconst (v := (0 : Int32)) (by decide) d_W_asks_418 ?_
    refine r_iload (i := 16) (x := x16) 9 rfl d_W_asks_419 ?_
    have h2 := kr_ob2 h
    clear h
    obtain ⟨v38, S37, eS37, h⟩ := h2
    refine r_callSX (M1 := m_W_is) (As := [va_rf x0, .int (0 : Int32), .int x16]) (s_W_isg eS37) mok_W_is (by decide) w1302 w1303 (by decide) (kr_c8 kr_c0) d_W_asks_421 (kr_k1 ?_) kr_kn
    refine r_iload (i := 21) (x := y0) 0 rfl d_W_asks_424 ?_
    refine r_icmp_ne (tgt := 477) d_W_asks_426 rfl (fun c => ?_) (fun c => ?_)
    · replace h := kr_ip c h
      refine r_aload_n (i := 0) (x := x0) 1 rfl d_W_asks_429 ?_
      refine r_iconst (v := (1 : Int32)) (by decide) d_W_asks_430 ?_
      refine r_iload (i := 16) (x := x16) 9 rfl d_W_asks_431 ?_
      have h2 := kr_ob2 h
      clear h
      obtain ⟨v40, S39, eS39, h⟩ := h2
      refine r_callSX (M1 := m_W_is) (As := [va_rf x0, .int (1 : Int32), .int x16]) (s_W_isg eS39) mok_W_is (by decide) w1302 w1303 (by decide) (kr_c8 kr_c0) d_W_asks_433 (kr_k1 ?_) kr_kn
      refine r_iload (i := 21) (x := y0) 0 rfl d_W_asks_436 ?_
      refine r_icmp_ne (tgt := 477) d_W_asks_438 rfl (fun c => ?_) (fun c => ?_)
      · replace h := kr_ip c h
        refine r_aload_n (i := 0) (x := x0) 1 rfl d_W_asks_441 ?_
        refine r_iconst (v := (5 : Int32)) (by decide) d_W_asks_442 ?_
        refine r_iload (i := 16) (x := x16) 9 rfl d_W_asks_443 ?_
        have h2 := kr_ob2 h
        clear h
        obtain ⟨v42, S41, eS41, h⟩ := h2
        refine r_callSX (M1 := m_W_one) (As := [va_rf x0, .int (5 : Int32), .int x16]) (s_W_oneg eS41) mok_W_one (by decide) w1051 w1052 (by decide) (kr_c8 kr_c0) d_W_asks_445 (kr_k1 ?_) kr_kn
        refine r_iload (i := 16) (x := x16) 9 rfl d_W_asks_448 ?_
        refine r_aload_n (i := 2) (x := x2) 3 rfl d_W_asks_450 ?_
        refine r_iconst (v := (1 : Int32)) (by decide) d_W_asks_451 ?_
        have h2 := kr_ob h
        clear h
        obtain ⟨v43, ev43, h⟩ := h2
        refine r_iaload ev43 d_W_asks_452 ?_
        refine r_icmp_ge (tgt := 467) d_W_asks_453 rfl (fun c => ?_) (fun c => ?_)
        · replace h := kr_ip c h
          refine r_sipush (v := (-1001 : Int32)) (by decide) d_W_asks_467 ?_
          exact kr_sub [1, 2, 3, 5, 6, 7, 8, 10, 11] rfl (s_W_asks_B470 h)
        · replace h := kr_in_ c h
          refine r_aload_n (i := 2) (x := x2) 3 rfl d_W_asks_456 ?_
          refine r_aload (i := 8) (x := x8) 4 rfl d_W_asks_457 ?_
          refine r_iload (i := 16) (x := x16) 9 rfl d_W_asks_459 ?_
          have h2 := kr_ob2 h
          clear h
          obtain ⟨v45, S44, eS44, h⟩ := h2
          refine r_callS (M1 := m_W_levelOf) (As := [va_rf x2, va_rf x8, .int x16]) (s_W_levelOf eS44) mok_W_levelOf rfl w1296 w1297 (by decide) (kr_c8 (kr_cI kr_c0)) d_W_asks_461 (kr_k1 ?_) kr_kn
          refine r_goto (tgt := 470) d_W_asks_464 rfl ?_
          exact kr_sub [1, 2, 3, 5, 6, 7, 8, 10, 11] rfl (s_W_asks_B470 h)
      · replace h := kr_in_ c h
        exact kr_sub [1, 2, 3, 5, 6, 7, 8, 10, 11] rfl (s_W_asks_B477 h)
    · replace h := kr_in_ c h
      exact kr_sub [1, 2, 3, 5, 6, 7, 8, 10, 11] rfl (s_W_asks_B477 h)
set_option maxRecDepth 20000 in
set_option maxHeartbeats 4000000 in
theorem s_W_asks_B375 {S : AS} {x0 : Option Nat} {x1 : Int32} {x2 : Option Nat} {x7 : Option Nat} {x8 : Option Nat} {x9 : Option Nat} {x10 : Option Nat} {x11 : Option Nat} {x12 : Option Nat} {x16 : Int32} {x17 : Int32} {x18 : Int32} {y0 : Int32} {r : (Int32 × AS)} (h : f_W_asks_B375 S x0 x1 x2 x7 x8 x9 x10 x11 x12 x16 x17 x18 y0 = some r) : kr_AW m_W_asks 14 375 [(0, va_rf x0), (1, .int x1), (2, va_rf x2), (7, va_rf x7), (8, va_rf x8), (9, va_rf x9), (10, va_rf x10), (11, va_rf x11), (12, va_rf x12), (16, .int x16), (17, .int x17), (18, .int x18)] [.int y0] S (kr_eI r) := by
  unfold f_W_asks_B375 at h
  refine r_istore (i := 19) (lv' := [(19, .int y0), (0, va_rf x0), (1, .int x1), (2, va_rf x2), (7, va_rf x7), (8, va_rf x8), (9, va_rf x9), (10, va_rf x10), (11, va_rf x11), (12, va_rf x12), (16, .int x16), (17, .int x17), (18, .int x18)]) (by decide) rfl d_W_asks_375 ?_
  refine r_iload (i := 16) (x := x16) 10 rfl d_W_asks_377 ?_
  refine r_aload_n (i := 2) (x := x2) 3 rfl d_W_asks_379 ?_
  refine r_iconst (v := (1 : Int32)) (by decide) d_W_asks_380 ?_
  have h2 := kr_ob h
  clear h
  obtain ⟨v46, ev46, h⟩ := h2
  refine r_iaload ev46 d_W_asks_381 ?_
  refine r_icmp_ge (tgt := 407) d_W_asks_382 rfl (fun c => ?_) (fun c => ?_)
  · replace h := kr_ip c h
    refine r_sipush (v := (-1001 : Int32)) (by decide) d_W_asks_407 ?_
    exact kr_sub [1, 2, 3, 5, 6, 7, 8, 9, 10, 11, 12, 0] rfl (s_W_asks_B410 h)
  · replace h := kr_in_ c h
    refine r_aload (i := 7) (x := x7) 4 rfl d_W_asks_385 ?_
    refine r_iconst (v := (4 : Int32)) (by decide) d_W_asks_387 ?_
    refine r_iload (i := 16) (x := x16) 10 rfl d_W_asks_388 ?_
    refine r_imul d_W_asks_390 ?_
    refine r_iconst (v := (3 : Int32)) (by decide) d_W_asks_391 ?_
    refine r_iadd d_W_asks_392 ?_
    have h2 := kr_ob h
    clear h
    obtain ⟨v47, ev47, h⟩ := h2
    refine r_iaload ev47 d_W_asks_393 ?_
    refine r_bipush (v := (100 : Int32)) (by decide) d_W_asks_394 ?_
    refine r_icmp_ge (tgt := 403) d_W_asks_396 rfl (fun c => ?_) (fun c => ?_)
    · replace h := kr_ip c h
      refine r_iconst (v := (0 : Int32)) (by decide) d_W_asks_403 ?_
      refine r_goto (tgt := 410) d_W_asks_404 rfl ?_
      exact kr_sub [1, 2, 3, 5, 6, 7, 8, 9, 10, 11, 12, 0] rfl (s_W_asks_B410 h)
    · replace h := kr_in_ c h
      refine r_iconst (v := (1 : Int32)) (by decide) d_W_asks_399 ?_
      refine r_goto (tgt := 410) d_W_asks_400 rfl ?_
      exact kr_sub [1, 2, 3, 5, 6, 7, 8, 9, 10, 11, 12, 0] rfl (s_W_asks_B410 h)
set_option maxRecDepth 20000 in
set_option maxHeartbeats 4000000 in
theorem s_W_asks_B374 {S : AS} {x0 : Option Nat} {x1 : Int32} {x2 : Option Nat} {x7 : Option Nat} {x8 : Option Nat} {x9 : Option Nat} {x10 : Option Nat} {x11 : Option Nat} {x12 : Option Nat} {x16 : Int32} {x17 : Int32} {x18 : Int32} {r : (Int32 × AS)} (h : f_W_asks_B374 S x0 x1 x2 x7 x8 x9 x10 x11 x12 x16 x17 x18 = some r) : kr_AW m_W_asks 14 374 [(0, va_rf x0), (1, .int x1), (2, va_rf x2), (7, va_rf x7), (8, va_rf x8), (9, va_rf x9), (10, va_rf x10), (11, va_rf x11), (12, va_rf x12), (16, .int x16), (17, .int x17), (18, .int x18)] [] S (kr_eI r) := by
  unfold f_W_asks_B374 at h
  refine r_iconst (v := (0 : Int32)) (by decide) d_W_asks_374 ?_
  exact kr_sub [0, 1, 2, 3, 4, 5, 6, 7, 8, 9, 10, 11] rfl (s_W_asks_B375 h)
set_option maxRecDepth 20000 in
set_option maxHeartbeats 4000000 in
theorem s_W_asks_B367 {S : AS} {x0 : Option Nat} {x1 : Int32} {x2 : Option Nat} {x7 : Option Nat} {x8 : Option Nat} {x9 : Option Nat} {x10 : Option Nat} {x11 : Option Nat} {x12 : Option Nat} {x16 : Int32} {x17 : Int32} {x18 : Int32} {y0 : Int32} {y1 : Int32} {r : (Int32 × AS)} (h : f_W_asks_B367 S x0 x1 x2 x7 x8 x9 x10 x11 x12 x16 x17 x18 y0 y1 = some r) : kr_AW m_W_asks 14 367 [(0, va_rf x0), (1, .int x1), (2, va_rf x2), (7, va_rf x7), (8, va_rf x8), (9, va_rf x9), (10, va_rf x10), (11, va_rf x11), (12, va_rf x12), (16, .int x16), (17, .int x17), (18, .int x18)] [.int y1, .int y0] S (kr_eI r) := by
  unfold f_W_asks_B367 at h
  refine r_icmp_ne (tgt := 374) d_W_asks_367 rfl (fun c => ?_) (fun c => ?_)
  · replace h := kr_ip c h
    refine r_iconst (v := (1 : Int32)) (by decide) d_W_asks_370 ?_
    refine r_goto (tgt := 375) d_W_asks_371 rfl ?_
    exact kr_sub [0, 1, 2, 3, 4, 5, 6, 7, 8, 9, 10, 11] rfl (s_W_asks_B375 h)
  · replace h := kr_in_ c h
    exact kr_sub [0, 1, 2, 3, 4, 5, 6, 7, 8, 9, 10, 11] rfl (s_W_asks_B374 h)
set_option maxRecDepth 20000 in
set_option maxHeartbeats 4000000 in
theorem s_W_asks_B332 {S : AS} {x0 : Option Nat} {x1 : Int32} {x2 : Option Nat} {x4 : Option Nat} {x5 : Option Nat} {x7 : Option Nat} {x8 : Option Nat} {x9 : Option Nat} {x10 : Option Nat} {x11 : Option Nat} {x12 : Option Nat} {x15 : Int32} {x16 : Int32} {x17 : Int32} {x18 : Int32} {y0 : Int32} {y1 : Int32} {r : (Int32 × AS)} (h : f_W_asks_B332 S x0 x1 x2 x4 x5 x7 x8 x9 x10 x11 x12 x15 x16 x17 x18 y0 y1 = some r) : kr_AW m_W_asks 14 332 [(0, va_rf x0), (1, .int x1), (2, va_rf x2), (4, va_rf x4), (5, va_rf x5), (7, va_rf x7), (8, va_rf x8), (9, va_rf x9), (10, va_rf x10), (11, va_rf x11), (12, va_rf x12), (15, .int x15), (16, .int x16), (17, .int x17), (18, .int x18)] [.int y1, .int y0] S (kr_eI r) := by
  unfold f_W_asks_B332 at h
  refine r_icmp_ne (tgt := 374) d_W_asks_332 rfl (fun c => ?_) (fun c => ?_)
  · replace h := kr_ip c h
    refine r_aload_n (i := 0) (x := x0) 0 rfl d_W_asks_335 ?_
    refine r_iconst (v := (3 : Int32)) (by decide) d_W_asks_336 ?_
    refine r_iload (i := 15) (x := x15) 11 rfl d_W_asks_337 ?_
    have h2 := kr_ob2 h
    clear h
    obtain ⟨v49, S48, eS48, h⟩ := h2
    refine r_callSX (M1 := m_W_one) (As := [va_rf x0, .int (3 : Int32), .int x15]) (s_W_oneg eS48) mok_W_one (by decide) w1051 w1052 (by decide) (kr_c8 kr_c0) d_W_asks_339 (kr_k1 ?_) kr_kn
    refine r_iload (i := 15) (x := x15) 11 rfl d_W_asks_342 ?_
    refine r_aload_n (i := 2) (x := x2) 2 rfl d_W_asks_344 ?_
    refine r_bipush (v := (11 : Int32)) (by decide) d_W_asks_345 ?_
    have h2 := kr_ob h
    clear h
    obtain ⟨v50, ev50, h⟩ := h2
    refine r_iaload ev50 d_W_asks_347 ?_
    refine r_icmp_ge (tgt := 364) d_W_asks_348 rfl (fun c => ?_) (fun c => ?_)
    · replace h := kr_ip c h
      refine r_sipush (v := (-1001 : Int32)) (by decide) d_W_asks_364 ?_
      exact kr_sub [0, 1, 2, 5, 6, 7, 8, 9, 10, 12, 13, 14] rfl (s_W_asks_B367 h)
    · replace h := kr_in_ c h
      refine r_aload_n (i := 2) (x := x2) 2 rfl d_W_asks_351 ?_
      refine r_aload (i := 4) (x := x4) 3 rfl d_W_asks_352 ?_
      refine r_aload (i := 5) (x := x5) 4 rfl d_W_asks_354 ?_
      refine r_iload (i := 15) (x := x15) 11 rfl d_W_asks_356 ?_
      have h2 := kr_ob2 h
      clear h
      obtain ⟨v52, S51, eS51, h⟩ := h2
      refine r_callS (M1 := m_W_risk) (As := [va_rf x2, va_rf x4, va_rf x5, .int x15]) (s_W_risk eS51) mok_W_risk rfl w1020 w1021 (by decide) (kr_c8 (kr_cI kr_c0)) d_W_asks_358 (kr_k1 ?_) kr_kn
      refine r_goto (tgt := 367) d_W_asks_361 rfl ?_
      exact kr_sub [0, 1, 2, 5, 6, 7, 8, 9, 10, 12, 13, 14] rfl (s_W_asks_B367 h)
  · replace h := kr_in_ c h
    exact kr_sub [0, 1, 2, 5, 6, 7, 8, 9, 10, 12, 13, 14] rfl (s_W_asks_B374 h)
set_option maxRecDepth 20000 in
set_option maxHeartbeats 4000000 in
theorem s_W_asks_B278 {S : AS} {x0 : Option Nat} {x1 : Int32} {x2 : Option Nat} {x4 : Option Nat} {x5 : Option Nat} {x6 : Option Nat} {x7 : Option Nat} {x8 : Option Nat} {x9 : Option Nat} {x10 : Option Nat} {x11 : Option Nat} {x12 : Option Nat} {x15 : Int32} {x16 : Int32} {x17 : Int32} {x18 : Int32} {y0 : Int32} {y1 : Int32} {r : (Int32 × AS)} (h : f_W_asks_B278 S x0 x1 x2 x4 x5 x6 x7 x8 x9 x10 x11 x12 x15 x16 x17 x18 y0 y1 = some r) : kr_AW m_W_asks 14 278 [(0, va_rf x0), (1, .int x1), (2, va_rf x2), (4, va_rf x4), (5, va_rf x5), (6, va_rf x6), (7, va_rf x7), (8, va_rf x8), (9, va_rf x9), (10, va_rf x10), (11, va_rf x11), (12, va_rf x12), (15, .int x15), (16, .int x16), (17, .int x17), (18, .int x18)] [.int y1, .int y0] S (kr_eI r) := by
  unfold f_W_asks_B278 at h
  refine r_icmp_ne (tgt := 374) d_W_asks_278 rfl (fun c => ?_) (fun c => ?_)
  · replace h := kr_ip c h
    refine r_aload_n (i := 0) (x := x0) 0 rfl d_W_asks_281 ?_
    refine r_iconst (v := (2 : Int32)) (by decide) d_W_asks_282 ?_
    refine r_iload (i := 15) (x := x15) 12 rfl d_W_asks_283 ?_
    have h2 := kr_ob2 h
    clear h
    obtain ⟨v54, S53, eS53, h⟩ := h2
    refine r_callSX (M1 := m_W_one) (As := [va_rf x0, .int (2 : Int32), .int x15]) (s_W_oneg eS53) mok_W_one (by decide) w1051 w1052 (by decide) (kr_c8 kr_c0) d_W_asks_285 (kr_k1 ?_) kr_kn
    refine r_iload (i := 15) (x := x15) 12 rfl d_W_asks_288 ?_
    refine r_aload_n (i := 2) (x := x2) 2 rfl d_W_asks_290 ?_
    refine r_bipush (v := (11 : Int32)) (by decide) d_W_asks_291 ?_
    have h2 := kr_ob h
    clear h
    obtain ⟨v55, ev55, h⟩ := h2
    refine r_iaload ev55 d_W_asks_293 ?_
    refine r_icmp_ge (tgt := 329) d_W_asks_294 rfl (fun c => ?_) (fun c => ?_)
    · replace h := kr_ip c h
      refine r_sipush (v := (-1001 : Int32)) (by decide) d_W_asks_329 ?_
      exact kr_sub [0, 1, 2, 3, 4, 6, 7, 8, 9, 10, 11, 12, 13, 14, 15] rfl (s_W_asks_B332 h)
    · replace h := kr_in_ c h
      refine r_aload (i := 5) (x := x5) 4 rfl d_W_asks_297 ?_
      refine r_bipush (v := (6 : Int32)) (by decide) d_W_asks_299 ?_
      refine r_iload (i := 15) (x := x15) 12 rfl d_W_asks_301 ?_
      refine r_imul d_W_asks_303 ?_
      refine r_iconst (v := (4 : Int32)) (by decide) d_W_asks_304 ?_
      refine r_iadd d_W_asks_305 ?_
      have h2 := kr_ob h
      clear h
      obtain ⟨v56, ev56, h⟩ := h2
      refine r_iaload ev56 d_W_asks_306 ?_
      refine r_iconst (v := (1 : Int32)) (by decide) d_W_asks_307 ?_
      refine r_icmp_ne (tgt := 325) d_W_asks_308 rfl (fun c => ?_) (fun c => ?_)
      · replace h := kr_ip c h
        refine r_aload (i := 6) (x := x6) 5 rfl d_W_asks_311 ?_
        refine r_iconst (v := (2 : Int32)) (by decide) d_W_asks_313 ?_
        refine r_iload (i := 15) (x := x15) 12 rfl d_W_asks_314 ?_
        refine r_imul d_W_asks_316 ?_
        refine r_iconst (v := (1 : Int32)) (by decide) d_W_asks_317 ?_
        refine r_iadd d_W_asks_318 ?_
        have h2 := kr_ob h
        clear h
        obtain ⟨v57, ev57, h⟩ := h2
        refine r_iaload ev57 d_W_asks_319 ?_
        refine r_iconst (v := (1 : Int32)) (by decide) d_W_asks_320 ?_
        refine r_isub d_W_asks_321 ?_
        refine r_goto (tgt := 332) d_W_asks_322 rfl ?_
        exact kr_sub [0, 1, 2, 3, 4, 6, 7, 8, 9, 10, 11, 12, 13, 14, 15] rfl (s_W_asks_B332 h)
      · replace h := kr_in_ c h
        refine r_iconst (v := (-1 : Int32)) (by decide) d_W_asks_325 ?_
        refine r_goto (tgt := 332) d_W_asks_326 rfl ?_
        exact kr_sub [0, 1, 2, 3, 4, 6, 7, 8, 9, 10, 11, 12, 13, 14, 15] rfl (s_W_asks_B332 h)
  · replace h := kr_in_ c h
    exact kr_sub [0, 1, 2, 6, 7, 8, 9, 10, 11, 13, 14, 15] rfl (s_W_asks_B374 h)
set_option maxRecDepth 20000 in
set_option maxHeartbeats 4000000 in
theorem s_W_asks_B251 {S : AS} {x0 : Option Nat} {x1 : Int32} {x2 : Option Nat} {x4 : Option Nat} {x5 : Option Nat} {x6 : Option Nat} {x7 : Option Nat} {x8 : Option Nat} {x9 : Option Nat} {x10 : Option Nat} {x11 : Option Nat} {x12 : Option Nat} {x15 : Int32} {x16 : Int32} {x17 : Int32} {x18 : Int32} {x20 : Int32} {y0 : Int32} {y1 : Int32} {r : (Int32 × AS)} (h : f_W_asks_B251 S x0 x1 x2 x4 x5 x6 x7 x8 x9 x10 x11 x12 x15 x16 x17 x18 x20 y0 y1 = some r) : kr_AW m_W_asks 14 251 [(0, va_rf x0), (1, .int x1), (2, va_rf x2), (4, va_rf x4), (5, va_rf x5), (6, va_rf x6), (7, va_rf x7), (8, va_rf x8), (9, va_rf x9), (10, va_rf x10), (11, va_rf x11), (12, va_rf x12), (15, .int x15), (16, .int x16), (17, .int x17), (18, .int x18), (20, .int x20)] [.int y1, .int y0] S (kr_eI r) := by
  unfold f_W_asks_B251 at h
  refine r_icmp_ne (tgt := 374) d_W_asks_251 rfl (fun c => ?_) (fun c => ?_)
  · replace h := kr_ip c h
    refine r_aload_n (i := 0) (x := x0) 0 rfl d_W_asks_254 ?_
    refine r_iconst (v := (1 : Int32)) (by decide) d_W_asks_255 ?_
    refine r_iload (i := 15) (x := x15) 12 rfl d_W_asks_256 ?_
    have h2 := kr_ob2 h
    clear h
    obtain ⟨v59, S58, eS58, h⟩ := h2
    refine r_callSX (M1 := m_W_one) (As := [va_rf x0, .int (1 : Int32), .int x15]) (s_W_oneg eS58) mok_W_one (by decide) w1051 w1052 (by decide) (kr_c8 kr_c0) d_W_asks_258 (kr_k1 ?_) kr_kn
    refine r_iload (i := 15) (x := x15) 12 rfl d_W_asks_261 ?_
    refine r_aload_n (i := 2) (x := x2) 2 rfl d_W_asks_263 ?_
    refine r_bipush (v := (11 : Int32)) (by decide) d_W_asks_264 ?_
    have h2 := kr_ob h
    clear h
    obtain ⟨v60, ev60, h⟩ := h2
    refine r_iaload ev60 d_W_asks_266 ?_
    refine r_icmp_ge (tgt := 275) d_W_asks_267 rfl (fun c => ?_) (fun c => ?_)
    · replace h := kr_ip c h
      refine r_sipush (v := (-1001 : Int32)) (by decide) d_W_asks_275 ?_
      exact kr_sub [0, 1, 2, 3, 4, 5, 6, 7, 8, 9, 10, 11, 12, 13, 14, 15] rfl (s_W_asks_B278 h)
    · replace h := kr_in_ c h
      refine r_iload (i := 20) (x := x20) 16 rfl d_W_asks_270 ?_
      refine r_goto (tgt := 278) d_W_asks_272 rfl ?_
      exact kr_sub [0, 1, 2, 3, 4, 5, 6, 7, 8, 9, 10, 11, 12, 13, 14, 15] rfl (s_W_asks_B278 h)
  · replace h := kr_in_ c h
    exact kr_sub [0, 1, 2, 6, 7, 8, 9, 10, 11, 13, 14, 15] rfl (s_W_asks_B374 h)
set_option maxRecDepth 20000 in
set_option maxHeartbeats 4000000 in
theorem s_W_asks_B212 {S : AS} {x0 : Option Nat} {x1 : Int32} {x2 : Option Nat} {x4 : Option Nat} {x5 : Option Nat} {x6 : Option Nat} {x7 : Option Nat} {x8 : Option Nat} {x9 : Option Nat} {x10 : Option Nat} {x11 : Option Nat} {x12 : Option Nat} {x15 : Int32} {x16 : Int32} {x17 : Int32} {x18 : Int32} {x19 : Int32} {y0 : Int32} {r : (Int32 × AS)} (h : f_W_asks_B212 S x0 x1 x2 x4 x5 x6 x7 x8 x9 x10 x11 x12 x15 x16 x17 x18 x19 y0 = some r) : kr_AW m_W_asks 14 212 [(0, va_rf x0), (1, .int x1), (2, va_rf x2), (4, va_rf x4), (5, va_rf x5), (6, va_rf x6), (7, va_rf x7), (8, va_rf x8), (9, va_rf x9), (10, va_rf x10), (11, va_rf x11), (12, va_rf x12), (15, .int x15), (16, .int x16), (17, .int x17), (18, .int x18), (19, .int x19)] [.int y0] S (kr_eI r) := by
  unfold f_W_asks_B212 at h
  refine r_istore (i := 20) (lv' := [(20, .int y0), (0, va_rf x0), (1, .int x1), (2, va_rf x2), (4, va_rf x4), (5, va_rf x5), (6, va_rf x6), (7, va_rf x7), (8, va_rf x8), (9, va_rf x9), (10, va_rf x10), (11, va_rf x11), (12, va_rf x12), (15, .int x15), (16, .int x16), (17, .int x17), (18, .int x18), (19, .int x19)]) (by decide) rfl d_W_asks_212 ?_
  refine r_iload (i := 19) (x := x19) 17 rfl d_W_asks_214 ?_
  refine r_if_eq (tgt := 374) d_W_asks_216 rfl (fun c => ?_) (fun c => ?_)
  · replace h := kr_ip c h
    exact kr_sub [1, 2, 3, 7, 8, 9, 10, 11, 12, 14, 15, 16] rfl (s_W_asks_B374 h)
  · replace h := kr_in_ c h
    refine r_aload_n (i := 0) (x := x0) 1 rfl d_W_asks_219 ?_
    refine r_iconst (v := (0 : Int32)) (by decide) d_W_asks_220 ?_
    refine r_iload (i := 15) (x := x15) 13 rfl d_W_asks_221 ?_
    have h2 := kr_ob2 h
    clear h
    obtain ⟨v62, S61, eS61, h⟩ := h2
    refine r_callSX (M1 := m_W_one) (As := [va_rf x0, .int (0 : Int32), .int x15]) (s_W_oneg eS61) mok_W_one (by decide) w1051 w1052 (by decide) (kr_c8 kr_c0) d_W_asks_223 (kr_k1 ?_) kr_kn
    refine r_iload (i := 15) (x := x15) 13 rfl d_W_asks_226 ?_
    refine r_aload_n (i := 2) (x := x2) 3 rfl d_W_asks_228 ?_
    refine r_bipush (v := (11 : Int32)) (by decide) d_W_asks_229 ?_
    have h2 := kr_ob h
    clear h
    obtain ⟨v63, ev63, h⟩ := h2
    refine r_iaload ev63 d_W_asks_231 ?_
    refine r_icmp_ge (tgt := 248) d_W_asks_232 rfl (fun c => ?_) (fun c => ?_)
    · replace h := kr_ip c h
      refine r_sipush (v := (-1001 : Int32)) (by decide) d_W_asks_248 ?_
      exact kr_sub [1, 2, 3, 4, 5, 6, 7, 8, 9, 10, 11, 12, 13, 14, 15, 16, 0] rfl (s_W_asks_B251 h)
    · replace h := kr_in_ c h
      refine r_aload (i := 5) (x := x5) 5 rfl d_W_asks_235 ?_
      refine r_bipush (v := (6 : Int32)) (by decide) d_W_asks_237 ?_
      refine r_iload (i := 15) (x := x15) 13 rfl d_W_asks_239 ?_
      refine r_imul d_W_asks_241 ?_
      refine r_iconst (v := (4 : Int32)) (by decide) d_W_asks_242 ?_
      refine r_iadd d_W_asks_243 ?_
      have h2 := kr_ob h
      clear h
      obtain ⟨v64, ev64, h⟩ := h2
      refine r_iaload ev64 d_W_asks_244 ?_
      refine r_goto (tgt := 251) d_W_asks_245 rfl ?_
      exact kr_sub [1, 2, 3, 4, 5, 6, 7, 8, 9, 10, 11, 12, 13, 14, 15, 16, 0] rfl (s_W_asks_B251 h)
set_option maxRecDepth 20000 in
set_option maxHeartbeats 4000000 in
theorem s_W_asks_B211 {S : AS} {x0 : Option Nat} {x1 : Int32} {x2 : Option Nat} {x4 : Option Nat} {x5 : Option Nat} {x6 : Option Nat} {x7 : Option Nat} {x8 : Option Nat} {x9 : Option Nat} {x10 : Option Nat} {x11 : Option Nat} {x12 : Option Nat} {x15 : Int32} {x16 : Int32} {x17 : Int32} {x18 : Int32} {x19 : Int32} {r : (Int32 × AS)} (h : f_W_asks_B211 S x0 x1 x2 x4 x5 x6 x7 x8 x9 x10 x11 x12 x15 x16 x17 x18 x19 = some r) : kr_AW m_W_asks 14 211 [(0, va_rf x0), (1, .int x1), (2, va_rf x2), (4, va_rf x4), (5, va_rf x5), (6, va_rf x6), (7, va_rf x7), (8, va_rf x8), (9, va_rf x9), (10, va_rf x10), (11, va_rf x11), (12, va_rf x12), (15, .int x15), (16, .int x16), (17, .int x17), (18, .int x18), (19, .int x19)] [] S (kr_eI r) := by
  unfold f_W_asks_B211 at h
  refine r_iconst (v := (-1 : Int32)) (by decide) d_W_asks_211 ?_
  exact kr_sub [0, 1, 2, 3, 4, 5, 6, 7, 8, 9, 10, 11, 12, 13, 14, 15, 16] rfl (s_W_asks_B212 h)
set_option maxRecDepth 20000 in
set_option maxHeartbeats 4000000 in
theorem s_W_asks_B168 {S : AS} {x0 : Option Nat} {x1 : Int32} {x2 : Option Nat} {x3 : Option Nat} {x4 : Option Nat} {x5 : Option Nat} {x6 : Option Nat} {x7 : Option Nat} {x8 : Option Nat} {x9 : Option Nat} {x10 : Option Nat} {x11 : Option Nat} {x12 : Option Nat} {x15 : Int32} {x16 : Int32} {x17 : Int32} {x18 : Int32} {y0 : Int32} {r : (Int32 × AS)} (h : f_W_asks_B168 S x0 x1 x2 x3 x4 x5 x6 x7 x8 x9 x10 x11 x12 x15 x16 x17 x18 y0 = some r) : kr_AW m_W_asks 14 168 [(0, va_rf x0), (1, .int x1), (2, va_rf x2), (3, va_rf x3), (4, va_rf x4), (5, va_rf x5), (6, va_rf x6), (7, va_rf x7), (8, va_rf x8), (9, va_rf x9), (10, va_rf x10), (11, va_rf x11), (12, va_rf x12), (15, .int x15), (16, .int x16), (17, .int x17), (18, .int x18)] [.int y0] S (kr_eI r) := by
  unfold f_W_asks_B168 at h
  refine r_istore (i := 19) (lv' := [(19, .int y0), (0, va_rf x0), (1, .int x1), (2, va_rf x2), (3, va_rf x3), (4, va_rf x4), (5, va_rf x5), (6, va_rf x6), (7, va_rf x7), (8, va_rf x8), (9, va_rf x9), (10, va_rf x10), (11, va_rf x11), (12, va_rf x12), (15, .int x15), (16, .int x16), (17, .int x17), (18, .int x18)]) (by decide) rfl d_W_asks_168 ?_
  refine r_iload (i := 15) (x := x15) 14 rfl d_W_asks_170 ?_
  refine r_aload_n (i := 2) (x := x2) 3 rfl d_W_asks_172 ?_
  refine r_bipush (v := (11 : Int32)) (by decide) d_W_asks_173 ?_
  have h2 := kr_ob h
  clear h
  obtain ⟨v65, ev65, h⟩ := h2
  refine r_iaload ev65 d_W_asks_175 ?_
  refine r_icmp_ge (tgt := 211) d_W_asks_176 rfl (fun c => ?_) (fun c => ?_)
  · replace h := kr_ip c h
    exact kr_sub [1, 2, 3, 5, 6, 7, 8, 9, 10, 11, 12, 13, 14, 15, 16, 17, 0] rfl (s_W_asks_B211 h)
  · replace h := kr_in_ c h
    refine r_aload (i := 5) (x := x5) 6 rfl d_W_asks_179 ?_
    refine r_bipush (v := (6 : Int32)) (by decide) d_W_asks_181 ?_
    refine r_iload (i := 15) (x := x15) 14 rfl d_W_asks_183 ?_
    refine r_imul d_W_asks_185 ?_
    refine r_iconst (v := (4 : Int32)) (by decide) d_W_asks_186 ?_
    refine r_iadd d_W_asks_187 ?_
    have h2 := kr_ob h
    clear h
    obtain ⟨v66, ev66, h⟩ := h2
    refine r_iaload ev66 d_W_asks_188 ?_
    refine r_if_ne (tgt := 211) d_W_asks_189 rfl (fun c => ?_) (fun c => ?_)
    · replace h := kr_ip c h
      refine r_aload_n (i := 3) (x := x3) 4 rfl d_W_asks_192 ?_
      refine r_iconst (v := (5 : Int32)) (by decide) d_W_asks_193 ?_
      refine r_aload (i := 5) (x := x5) 6 rfl d_W_asks_194 ?_
      refine r_bipush (v := (6 : Int32)) (by decide) d_W_asks_196 ?_
      refine r_iload (i := 15) (x := x15) 14 rfl d_W_asks_198 ?_
      refine r_imul d_W_asks_200 ?_
      refine r_iconst (v := (3 : Int32)) (by decide) d_W_asks_201 ?_
      refine r_iadd d_W_asks_202 ?_
      have h2 := kr_ob h
      clear h
      obtain ⟨v67, ev67, h⟩ := h2
      refine r_iaload ev67 d_W_asks_203 ?_
      refine r_imul d_W_asks_204 ?_
      refine r_iconst (v := (1 : Int32)) (by decide) d_W_asks_205 ?_
      refine r_iadd d_W_asks_206 ?_
      have h2 := kr_ob h
      clear h
      obtain ⟨v68, ev68, h⟩ := h2
      refine r_iaload ev68 d_W_asks_207 ?_
      refine r_goto (tgt := 212) d_W_asks_208 rfl ?_
      exact kr_sub [1, 2, 3, 5, 6, 7, 8, 9, 10, 11, 12, 13, 14, 15, 16, 17, 0] rfl (s_W_asks_B212 h)
    · replace h := kr_in_ c h
      exact kr_sub [1, 2, 3, 5, 6, 7, 8, 9, 10, 11, 12, 13, 14, 15, 16, 17, 0] rfl (s_W_asks_B211 h)
set_option maxRecDepth 20000 in
set_option maxHeartbeats 4000000 in
theorem s_W_asks_B167 {S : AS} {x0 : Option Nat} {x1 : Int32} {x2 : Option Nat} {x3 : Option Nat} {x4 : Option Nat} {x5 : Option Nat} {x6 : Option Nat} {x7 : Option Nat} {x8 : Option Nat} {x9 : Option Nat} {x10 : Option Nat} {x11 : Option Nat} {x12 : Option Nat} {x15 : Int32} {x16 : Int32} {x17 : Int32} {x18 : Int32} {r : (Int32 × AS)} (h : f_W_asks_B167 S x0 x1 x2 x3 x4 x5 x6 x7 x8 x9 x10 x11 x12 x15 x16 x17 x18 = some r) : kr_AW m_W_asks 14 167 [(0, va_rf x0), (1, .int x1), (2, va_rf x2), (3, va_rf x3), (4, va_rf x4), (5, va_rf x5), (6, va_rf x6), (7, va_rf x7), (8, va_rf x8), (9, va_rf x9), (10, va_rf x10), (11, va_rf x11), (12, va_rf x12), (15, .int x15), (16, .int x16), (17, .int x17), (18, .int x18)] [] S (kr_eI r) := by
  unfold f_W_asks_B167 at h
  refine r_iconst (v := (0 : Int32)) (by decide) d_W_asks_167 ?_
  exact kr_sub [0, 1, 2, 3, 4, 5, 6, 7, 8, 9, 10, 11, 12, 13, 14, 15, 16] rfl (s_W_asks_B168 h)
set_option maxRecDepth 20000 in
set_option maxHeartbeats 4000000 in
theorem s_W_asks {S : AS} {a0 : Option Nat} {a1 : Int32} {a2 : Option Nat} {a3 : Option Nat} {a4 : Option Nat} {a5 : Option Nat} {a6 : Option Nat} {a7 : Option Nat} {a8 : Option Nat} {a9 : Option Nat} {a10 : Option Nat} {a11 : Option Nat} {a12 : Option Nat} {r : (Int32 × AS)} (h : f_W_asks S a0 a1 a2 a3 a4 a5 a6 a7 a8 a9 a10 a11 a12 = some r) : kr_Con m_W_asks 14 [va_rf a0, .int a1, va_rf a2, va_rf a3, va_rf a4, va_rf a5, va_rf a6, va_rf a7, va_rf a8, va_rf a9, va_rf a10, va_rf a11, va_rf a12] S (kr_eI r) := by
  refine kr_con rfl rfl (by decide +kernel) (by simp [lg_sl, kr_rfcat, kr_icat, m_W_asks, mL]) ?_
  rw [show lv_args 0 [va_rf a0, .int a1, va_rf a2, va_rf a3, va_rf a4, va_rf a5, va_rf a6, va_rf a7, va_rf a8, va_rf a9, va_rf a10, va_rf a11, va_rf a12] = [(0, va_rf a0), (1, .int a1), (2, va_rf a2), (3, va_rf a3), (4, va_rf a4), (5, va_rf a5), (6, va_rf a6), (7, va_rf a7), (8, va_rf a8), (9, va_rf a9), (10, va_rf a10), (11, va_rf a11), (12, va_rf a12)] from by simp [lv_args, kr_rfcat, kr_icat]]
  unfold f_W_asks at h
  refine r_iload_n (i := 1) (x := a1) 1 rfl d_W_asks_0 ?_
  refine r_iconst (v := (3 : Int32)) (by decide) d_W_asks_1 ?_
  have h2 := kr_ob2 h
  clear h
  obtain ⟨v70, S69, eS69, h⟩ := h2
  refine r_callS (M1 := m_W_some) (As := [.int a1, .int (3 : Int32)]) (s_W_some eS69) mok_W_some rfl w311 w312 (by decide) (kr_c8 kr_c0) d_W_asks_2 (kr_k1 ?_) kr_kn
  refine r_istore (i := 13) (lv' := [(13, .int v70), (0, va_rf a0), (1, .int a1), (2, va_rf a2), (3, va_rf a3), (4, va_rf a4), (5, va_rf a5), (6, va_rf a6), (7, va_rf a7), (8, va_rf a8), (9, va_rf a9), (10, va_rf a10), (11, va_rf a11), (12, va_rf a12)]) (by decide) (by show kr_st _ 13 _ = _; simp [kr_st, kr_rfcat, kr_icat]) d_W_asks_5 ?_
  refine r_iload_n (i := 1) (x := a1) 2 rfl d_W_asks_7 ?_
  refine r_iconst (v := (3 : Int32)) (by decide) d_W_asks_8 ?_
  refine r_ishr d_W_asks_9 ?_
  refine r_iconst (v := (3 : Int32)) (by decide) d_W_asks_10 ?_
  have h2 := kr_ob2 h
  clear h
  obtain ⟨v72, S71, eS71, h⟩ := h2
  refine r_callS (M1 := m_W_some) (As := [.int (a1 >>> ((3 : Int32) &&& 31)), .int (3 : Int32)]) (s_W_some eS71) mok_W_some rfl w311 w312 (by decide) (kr_c8 kr_c0) d_W_asks_11 (kr_k1 ?_) kr_kn
  refine r_istore (i := 14) (lv' := [(14, .int v72), (13, .int v70), (0, va_rf a0), (1, .int a1), (2, va_rf a2), (3, va_rf a3), (4, va_rf a4), (5, va_rf a5), (6, va_rf a6), (7, va_rf a7), (8, va_rf a8), (9, va_rf a9), (10, va_rf a10), (11, va_rf a11), (12, va_rf a12)]) (by decide) rfl d_W_asks_14 ?_
  refine r_iload_n (i := 1) (x := a1) 3 rfl d_W_asks_16 ?_
  refine r_iconst (v := (4 : Int32)) (by decide) d_W_asks_17 ?_
  refine r_ishr d_W_asks_18 ?_
  refine r_aload_n (i := 2) (x := a2) 4 rfl d_W_asks_19 ?_
  refine r_bipush (v := (11 : Int32)) (by decide) d_W_asks_20 ?_
  have h2 := kr_ob h
  clear h
  obtain ⟨v73, ev73, h⟩ := h2
  refine r_iaload ev73 d_W_asks_22 ?_
  refine r_iconst (v := (1 : Int32)) (by decide) d_W_asks_23 ?_
  refine r_iadd d_W_asks_24 ?_
  have h2 := kr_ob2 h
  clear h
  obtain ⟨v75, S74, eS74, h⟩ := h2
  refine r_callS (M1 := m_W_some) (As := [.int (a1 >>> ((4 : Int32) &&& 31)), .int (v73 + (1 : Int32))]) (s_W_some eS74) mok_W_some rfl w311 w312 (by decide) (kr_c8 kr_c0) d_W_asks_25 (kr_k1 ?_) kr_kn
  refine r_istore (i := 15) (lv' := [(15, .int v75), (14, .int v72), (13, .int v70), (0, va_rf a0), (1, .int a1), (2, va_rf a2), (3, va_rf a3), (4, va_rf a4), (5, va_rf a5), (6, va_rf a6), (7, va_rf a7), (8, va_rf a8), (9, va_rf a9), (10, va_rf a10), (11, va_rf a11), (12, va_rf a12)]) (by decide) rfl d_W_asks_28 ?_
  refine r_iload_n (i := 1) (x := a1) 4 rfl d_W_asks_30 ?_
  refine r_iconst (v := (5 : Int32)) (by decide) d_W_asks_31 ?_
  refine r_ishr d_W_asks_32 ?_
  refine r_aload_n (i := 2) (x := a2) 5 rfl d_W_asks_33 ?_
  refine r_iconst (v := (1 : Int32)) (by decide) d_W_asks_34 ?_
  have h2 := kr_ob h
  clear h
  obtain ⟨v76, ev76, h⟩ := h2
  refine r_iaload ev76 d_W_asks_35 ?_
  refine r_iconst (v := (1 : Int32)) (by decide) d_W_asks_36 ?_
  refine r_iadd d_W_asks_37 ?_
  have h2 := kr_ob2 h
  clear h
  obtain ⟨v78, S77, eS77, h⟩ := h2
  refine r_callS (M1 := m_W_some) (As := [.int (a1 >>> ((5 : Int32) &&& 31)), .int (v76 + (1 : Int32))]) (s_W_some eS77) mok_W_some rfl w311 w312 (by decide) (kr_c8 kr_c0) d_W_asks_38 (kr_k1 ?_) kr_kn
  refine r_istore (i := 16) (lv' := [(16, .int v78), (15, .int v75), (14, .int v72), (13, .int v70), (0, va_rf a0), (1, .int a1), (2, va_rf a2), (3, va_rf a3), (4, va_rf a4), (5, va_rf a5), (6, va_rf a6), (7, va_rf a7), (8, va_rf a8), (9, va_rf a9), (10, va_rf a10), (11, va_rf a11), (12, va_rf a12)]) (by decide) rfl d_W_asks_41 ?_
  refine r_iload_n (i := 1) (x := a1) 5 rfl d_W_asks_43 ?_
  refine r_bipush (v := (6 : Int32)) (by decide) d_W_asks_44 ?_
  refine r_ishr d_W_asks_46 ?_
  refine r_aload_n (i := 2) (x := a2) 6 rfl d_W_asks_47 ?_
  refine r_iconst (v := (3 : Int32)) (by decide) d_W_asks_48 ?_
  have h2 := kr_ob h
  clear h
  obtain ⟨v79, ev79, h⟩ := h2
  refine r_iaload ev79 d_W_asks_49 ?_
  refine r_iconst (v := (1 : Int32)) (by decide) d_W_asks_50 ?_
  refine r_iadd d_W_asks_51 ?_
  have h2 := kr_ob2 h
  clear h
  obtain ⟨v81, S80, eS80, h⟩ := h2
  refine r_callS (M1 := m_W_some) (As := [.int (a1 >>> ((6 : Int32) &&& 31)), .int (v79 + (1 : Int32))]) (s_W_some eS80) mok_W_some rfl w311 w312 (by decide) (kr_c8 kr_c0) d_W_asks_52 (kr_k1 ?_) kr_kn
  refine r_istore (i := 17) (lv' := [(17, .int v81), (16, .int v78), (15, .int v75), (14, .int v72), (13, .int v70), (0, va_rf a0), (1, .int a1), (2, va_rf a2), (3, va_rf a3), (4, va_rf a4), (5, va_rf a5), (6, va_rf a6), (7, va_rf a7), (8, va_rf a8), (9, va_rf a9), (10, va_rf a10), (11, va_rf a11), (12, va_rf a12)]) (by decide) rfl d_W_asks_55 ?_
  refine r_iload_n (i := 1) (x := a1) 6 rfl d_W_asks_57 ?_
  refine r_bipush (v := (7 : Int32)) (by decide) d_W_asks_58 ?_
  refine r_ishr d_W_asks_60 ?_
  refine r_aload_n (i := 2) (x := a2) 7 rfl d_W_asks_61 ?_
  refine r_iconst (v := (4 : Int32)) (by decide) d_W_asks_62 ?_
  have h2 := kr_ob h
  clear h
  obtain ⟨v82, ev82, h⟩ := h2
  refine r_iaload ev82 d_W_asks_63 ?_
  refine r_iconst (v := (1 : Int32)) (by decide) d_W_asks_64 ?_
  refine r_iadd d_W_asks_65 ?_
  have h2 := kr_ob2 h
  clear h
  obtain ⟨v84, S83, eS83, h⟩ := h2
  refine r_callS (M1 := m_W_some) (As := [.int (a1 >>> ((7 : Int32) &&& 31)), .int (v82 + (1 : Int32))]) (s_W_some eS83) mok_W_some rfl w311 w312 (by decide) (kr_c8 kr_c0) d_W_asks_66 (kr_k1 ?_) kr_kn
  refine r_istore (i := 18) (lv' := [(18, .int v84), (17, .int v81), (16, .int v78), (15, .int v75), (14, .int v72), (13, .int v70), (0, va_rf a0), (1, .int a1), (2, va_rf a2), (3, va_rf a3), (4, va_rf a4), (5, va_rf a5), (6, va_rf a6), (7, va_rf a7), (8, va_rf a8), (9, va_rf a9), (10, va_rf a10), (11, va_rf a11), (12, va_rf a12)]) (by decide) rfl d_W_asks_69 ?_
  refine r_aload_n (i := 0) (x := a0) 6 rfl d_W_asks_71 ?_
  refine r_iconst (v := (1 : Int32)) (by decide) d_W_asks_72 ?_
  refine r_iload (i := 13) (x := v70) 5 rfl d_W_asks_73 ?_
  refine r_iload (i := 14) (x := v72) 4 rfl d_W_asks_75 ?_
  have h2 := kr_ob2 h
  clear h
  obtain ⟨v86, S85, eS85, h⟩ := h2
  refine r_callSX (M1 := m_W_two) (As := [va_rf a0, .int (1 : Int32), .int v70, .int v72]) (s_W_twog eS85) mok_W_two (by decide) w942 w943 (by decide) (kr_c8 kr_c0) d_W_asks_77 (kr_k1 ?_) kr_kn
  refine r_aload (i := 4) (x := a4) 10 rfl d_W_asks_80 ?_
  refine r_bipush (v := (12 : Int32)) (by decide) d_W_asks_82 ?_
  refine r_iload (i := 13) (x := v70) 5 rfl d_W_asks_84 ?_
  refine r_imul d_W_asks_86 ?_
  refine r_iload (i := 14) (x := v72) 4 rfl d_W_asks_87 ?_
  refine r_iadd d_W_asks_89 ?_
  have h2 := kr_ob h
  clear h
  obtain ⟨v87, ev87, h⟩ := h2
  refine r_iaload ev87 d_W_asks_90 ?_
  refine r_icmp_ne (tgt := 167) d_W_asks_91 rfl (fun c => ?_) (fun c => ?_)
  · replace h := kr_ip c h
    refine r_aload_n (i := 0) (x := a0) 6 rfl d_W_asks_94 ?_
    refine r_iconst (v := (4 : Int32)) (by decide) d_W_asks_95 ?_
    refine r_iconst (v := (0 : Int32)) (by decide) d_W_asks_96 ?_
    have h2 := kr_ob2 h
    clear h
    obtain ⟨v89, S88, eS88, h⟩ := h2
    refine r_callSX (M1 := m_W_none) (As := [va_rf a0, .int (4 : Int32), .int (0 : Int32)]) (s_W_noneg eS88) mok_W_none (by decide) w314 w315 (by decide) (kr_c8 kr_c0) d_W_asks_97 (kr_k1 ?_) kr_kn
    refine r_aload_n (i := 2) (x := a2) 8 rfl d_W_asks_100 ?_
    refine r_bipush (v := (9 : Int32)) (by decide) d_W_asks_101 ?_
    have h2 := kr_ob h
    clear h
    obtain ⟨v90, ev90, h⟩ := h2
    refine r_iaload ev90 d_W_asks_103 ?_
    refine r_icmp_ne (tgt := 167) d_W_asks_104 rfl (fun c => ?_) (fun c => ?_)
    · replace h := kr_ip c h
      refine r_aload_n (i := 0) (x := a0) 6 rfl d_W_asks_107 ?_
      refine r_iconst (v := (5 : Int32)) (by decide) d_W_asks_108 ?_
      refine r_iconst (v := (0 : Int32)) (by decide) d_W_asks_109 ?_
      have h2 := kr_ob2 h
      clear h
      obtain ⟨v92, S91, eS91, h⟩ := h2
      refine r_callSX (M1 := m_W_none) (As := [va_rf a0, .int (5 : Int32), .int (0 : Int32)]) (s_W_noneg eS91) mok_W_none (by decide) w314 w315 (by decide) (kr_c8 kr_c0) d_W_asks_110 (kr_k1 ?_) kr_kn
      refine r_aload_n (i := 2) (x := a2) 8 rfl d_W_asks_113 ?_
      refine r_bipush (v := (10 : Int32)) (by decide) d_W_asks_114 ?_
      have h2 := kr_ob h
      clear h
      obtain ⟨v93, ev93, h⟩ := h2
      refine r_iaload ev93 d_W_asks_116 ?_
      refine r_icmp_ne (tgt := 167) d_W_asks_117 rfl (fun c => ?_) (fun c => ?_)
      · replace h := kr_ip c h
        refine r_aload_n (i := 0) (x := a0) 6 rfl d_W_asks_120 ?_
        refine r_bipush (v := (17 : Int32)) (by decide) d_W_asks_121 ?_
        refine r_aload_n (i := 2) (x := a2) 8 rfl d_W_asks_123 ?_
        refine r_bipush (v := (9 : Int32)) (by decide) d_W_asks_124 ?_
        have h2 := kr_ob h
        clear h
        obtain ⟨v94, ev94, h⟩ := h2
        refine r_iaload ev94 d_W_asks_126 ?_
        have h2 := kr_ob2 h
        clear h
        obtain ⟨v96, S95, eS95, h⟩ := h2
        refine r_callSX (M1 := m_W_one) (As := [va_rf a0, .int (17 : Int32), .int v94]) (s_W_oneg eS95) mok_W_one (by decide) w1051 w1052 (by decide) (kr_c8 kr_c0) d_W_asks_127 (kr_k1 ?_) kr_kn
        refine r_aload_n (i := 2) (x := a2) 8 rfl d_W_asks_130 ?_
        refine r_bipush (v := (10 : Int32)) (by decide) d_W_asks_131 ?_
        have h2 := kr_ob h
        clear h
        obtain ⟨v97, ev97, h⟩ := h2
        refine r_iaload ev97 d_W_asks_133 ?_
        refine r_icmp_ne (tgt := 167) d_W_asks_134 rfl (fun c => ?_) (fun c => ?_)
        · replace h := kr_ip c h
          refine r_aload_n (i := 0) (x := a0) 6 rfl d_W_asks_137 ?_
          refine r_bipush (v := (6 : Int32)) (by decide) d_W_asks_138 ?_
          refine r_iconst (v := (0 : Int32)) (by decide) d_W_asks_140 ?_
          have h2 := kr_ob2 h
          clear h
          obtain ⟨v99, S98, eS98, h⟩ := h2
          refine r_callSX (M1 := m_W_none) (As := [va_rf a0, .int (6 : Int32), .int (0 : Int32)]) (s_W_noneg eS98) mok_W_none (by decide) w314 w315 (by decide) (kr_c8 kr_c0) d_W_asks_141 (kr_k1 ?_) kr_kn
          refine r_aload_n (i := 2) (x := a2) 8 rfl d_W_asks_144 ?_
          refine r_iconst (v := (1 : Int32)) (by decide) d_W_asks_145 ?_
          have h2 := kr_ob h
          clear h
          obtain ⟨v100, ev100, h⟩ := h2
          refine r_iaload ev100 d_W_asks_146 ?_
          refine r_icmp_ne (tgt := 167) d_W_asks_147 rfl (fun c => ?_) (fun c => ?_)
          · replace h := kr_ip c h
            refine r_aload_n (i := 0) (x := a0) 6 rfl d_W_asks_150 ?_
            refine r_iconst (v := (3 : Int32)) (by decide) d_W_asks_151 ?_
            refine r_iconst (v := (0 : Int32)) (by decide) d_W_asks_152 ?_
            have h2 := kr_ob2 h
            clear h
            obtain ⟨v102, S101, eS101, h⟩ := h2
            refine r_callSX (M1 := m_W_none) (As := [va_rf a0, .int (3 : Int32), .int (0 : Int32)]) (s_W_noneg eS101) mok_W_none (by decide) w314 w315 (by decide) (kr_c8 kr_c0) d_W_asks_153 (kr_k1 ?_) kr_kn
            refine r_aload_n (i := 2) (x := a2) 8 rfl d_W_asks_156 ?_
            refine r_bipush (v := (6 : Int32)) (by decide) d_W_asks_157 ?_
            have h2 := kr_ob h
            clear h
            obtain ⟨v103, ev103, h⟩ := h2
            refine r_iaload ev103 d_W_asks_159 ?_
            refine r_icmp_ne (tgt := 167) d_W_asks_160 rfl (fun c => ?_) (fun c => ?_)
            · replace h := kr_ip c h
              refine r_iconst (v := (1 : Int32)) (by decide) d_W_asks_163 ?_
              refine r_goto (tgt := 168) d_W_asks_164 rfl ?_
              exact kr_sub [6, 7, 8, 9, 10, 11, 12, 13, 14, 15, 16, 17, 18, 3, 2, 1, 0] rfl (s_W_asks_B168 h)
            · replace h := kr_in_ c h
              exact kr_sub [6, 7, 8, 9, 10, 11, 12, 13, 14, 15, 16, 17, 18, 3, 2, 1, 0] rfl (s_W_asks_B167 h)
          · replace h := kr_in_ c h
            exact kr_sub [6, 7, 8, 9, 10, 11, 12, 13, 14, 15, 16, 17, 18, 3, 2, 1, 0] rfl (s_W_asks_B167 h)
        · replace h := kr_in_ c h
          exact kr_sub [6, 7, 8, 9, 10, 11, 12, 13, 14, 15, 16, 17, 18, 3, 2, 1, 0] rfl (s_W_asks_B167 h)
      · replace h := kr_in_ c h
        exact kr_sub [6, 7, 8, 9, 10, 11, 12, 13, 14, 15, 16, 17, 18, 3, 2, 1, 0] rfl (s_W_asks_B167 h)
    · replace h := kr_in_ c h
      exact kr_sub [6, 7, 8, 9, 10, 11, 12, 13, 14, 15, 16, 17, 18, 3, 2, 1, 0] rfl (s_W_asks_B167 h)
  · replace h := kr_in_ c h
    exact kr_sub [6, 7, 8, 9, 10, 11, 12, 13, 14, 15, 16, 17, 18, 3, 2, 1, 0] rfl (s_W_asks_B167 h)
