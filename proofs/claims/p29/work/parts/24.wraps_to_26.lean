section
/-! KeyringCourtLaw.pass(LKeyringCourt;I[J)I -/
def f_W_pass (S : AS) (a0 : Option Nat) (a1 : Int32) (a2 : Option Nat) : Option (Int32 × AS) :=
  (kr_rv S 22 a0).bind fun u1 =>
  kr_bh (f_K_pass S a0 a1) (fun E S2 => if E = "java/lang/IllegalArgumentException" then
  some ((1 : Int32), S2)
  else if E = "java/lang/IllegalStateException" then
  some ((2 : Int32), S2)
  else none) fun v3 S2 =>
  (bJ S2 a2 (0 : Int32) v3.toInt64).bind fun S4 =>
  some ((0 : Int32), S4)
set_option maxRecDepth 20000 in
set_option maxHeartbeats 4000000 in
theorem s_W_pass {S : AS} {a0 : Option Nat} {a1 : Int32} {a2 : Option Nat} {r : (Int32 × AS)} (h : f_W_pass S a0 a1 a2 = some r) : kr_Con m_W_pass 13 [va_rf a0, .int a1, va_rf a2] S (kr_eI r) := by
  refine kr_conH rfl (by decide) (by decide +kernel) (by simp [lg_sl, kr_rfcat, kr_icat, m_W_pass, mL]) ?_
  rw [show lv_args 0 [va_rf a0, .int a1, va_rf a2] = [(0, va_rf a0), (1, .int a1), (2, va_rf a2)] from by simp [lv_args, kr_rfcat, kr_icat]]
  unfold f_W_pass at h
  refine r_aload_n (i := 2) (x := a2) 2 rfl d_W_pass_0 ?_
  refine r_iconst (v := (0 : Int32)) (by decide) d_W_pass_1 ?_
  refine r_aload_n (i := 0) (x := a0) 0 rfl d_W_pass_2 ?_
  refine r_iload_n (i := 1) (x := a1) 1 rfl d_W_pass_3 ?_
  have h2 := kr_ob h
  clear h
  obtain ⟨⟨⟩, eu1, h⟩ := h2
  rcases kr_obh h with ⟨v3, S2, eS2, h2⟩ | ⟨E, S2, eS2, h2⟩
  · clear h
    have h := h2
    clear h2
    refine r_callV (M1 := m_K_pass) (κ := 22) (As := [.int a1]) eu1 (s_K_pass eS2) mok_K_pass rfl (by decide) rfl w369 w370 w371 (by decide) (kr_c8 (kr_cI (kr_cR kr_c0))) d_W_pass_4 (kr_k1 ?_) kr_kn
    refine r_i2l d_W_pass_7 ?_
    have h2 := kr_ob h
    clear h
    obtain ⟨S4, eS4, h⟩ := h2
    refine r_lastore eS4 d_W_pass_8 ?_
    refine r_goto (tgt := 18) d_W_pass_9 rfl ?_
    refine r_iconst (v := (0 : Int32)) (by decide) d_W_pass_18 ?_
    cases h
    exact r_iret rfl d_W_pass_19
  · by_cases c0 : E = "java/lang/IllegalArgumentException"
    · subst c0
      replace h2 := kr_ip rfl h2
      clear h
      have h := h2
      clear h2
      refine r_callV (M1 := m_K_pass) (κ := 22) (As := [.int a1]) eu1 (s_K_pass eS2) mok_K_pass rfl (by decide) rfl w369 w370 w371 (by decide) (kr_c8 (kr_cI (kr_cR kr_c0))) d_W_pass_4 kr_nk (kr_kx ?_)
      refine r_catch_n (hd := (0, 9, 12, 13)) [] [(0, 9, 15, 15)] ⟨rfl, (fun _ hz => nomatch hz), ⟨by decide, by decide⟩, by decide, w367, w381⟩ (i := 3) (lv' := [(0, va_rf a0), (1, .int a1), (2, va_rf a2)]) (by show List.filter (fun (q : Nat × Value) => !(q.1 == 3) && !(q.1 + 1 == 3 && q.2.category == 2)) _ = _; simp [kr_rfcat, kr_icat]) (by decide) d_W_pass_12 ?_
      refine r_iconst (v := (1 : Int32)) (by decide) d_W_pass_13 ?_
      cases h
      exact r_iret rfl d_W_pass_14
    replace h2 := kr_in_ c0 h2
    by_cases c1 : E = "java/lang/IllegalStateException"
    · subst c1
      replace h2 := kr_ip rfl h2
      clear h
      have h := h2
      clear h2
      refine r_callV (M1 := m_K_pass) (κ := 22) (As := [.int a1]) eu1 (s_K_pass eS2) mok_K_pass rfl (by decide) rfl w369 w370 w371 (by decide) (kr_c8 (kr_cI (kr_cR kr_c0))) d_W_pass_4 kr_nk (kr_kx ?_)
      refine r_catch_n (hd := (0, 9, 15, 15)) [(0, 9, 12, 13)] [] ⟨rfl, (kr_pre ⟨"java/lang/IllegalArgumentException", by decide, w367, by decide⟩ (fun _ hz => nomatch hz)), ⟨by decide, by decide⟩, by decide, w368, w447⟩ (i := 3) (lv' := [(0, va_rf a0), (1, .int a1), (2, va_rf a2)]) (by show List.filter (fun (q : Nat × Value) => !(q.1 == 3) && !(q.1 + 1 == 3 && q.2.category == 2)) _ = _; simp [kr_rfcat, kr_icat]) (by decide) d_W_pass_15 ?_
      refine r_iconst (v := (2 : Int32)) (by decide) d_W_pass_16 ?_
      cases h
      exact r_iret rfl d_W_pass_17
    replace h2 := kr_in_ c1 h2
    cases h2
/-! KeyringCourtLaw.enroll(LKeyringCourt;II[J)I -/
def f_W_enroll (S : AS) (a0 : Option Nat) (a1 : Int32) (a2 : Int32) (a3 : Option Nat) : Option (Int32 × AS) :=
  (kr_rv S 22 a0).bind fun u1 =>
  kr_bh (f_K_enroll S a0 a1 a2) (fun E S2 => if E = "java/lang/IndexOutOfBoundsException" then
  some ((1 : Int32), S2)
  else if E = "java/lang/IllegalArgumentException" then
  some ((2 : Int32), S2)
  else none) fun v3 S2 =>
  (bJ S2 a3 (0 : Int32) v3.toInt64).bind fun S4 =>
  some ((0 : Int32), S4)
set_option maxRecDepth 20000 in
set_option maxHeartbeats 4000000 in
theorem s_W_enroll {S : AS} {a0 : Option Nat} {a1 : Int32} {a2 : Int32} {a3 : Option Nat} {r : (Int32 × AS)} (h : f_W_enroll S a0 a1 a2 a3 = some r) : kr_Con m_W_enroll 9 [va_rf a0, .int a1, .int a2, va_rf a3] S (kr_eI r) := by
  refine kr_conH rfl (by decide) (by decide +kernel) (by simp [lg_sl, kr_rfcat, kr_icat, m_W_enroll, mL]) ?_
  rw [show lv_args 0 [va_rf a0, .int a1, .int a2, va_rf a3] = [(0, va_rf a0), (1, .int a1), (2, .int a2), (3, va_rf a3)] from by simp [lv_args, kr_rfcat, kr_icat]]
  unfold f_W_enroll at h
  refine r_aload_n (i := 3) (x := a3) 3 rfl d_W_enroll_0 ?_
  refine r_iconst (v := (0 : Int32)) (by decide) d_W_enroll_1 ?_
  refine r_aload_n (i := 0) (x := a0) 0 rfl d_W_enroll_2 ?_
  refine r_iload_n (i := 1) (x := a1) 1 rfl d_W_enroll_3 ?_
  refine r_iload_n (i := 2) (x := a2) 2 rfl d_W_enroll_4 ?_
  have h2 := kr_ob h
  clear h
  obtain ⟨⟨⟩, eu1, h⟩ := h2
  rcases kr_obh h with ⟨v3, S2, eS2, h2⟩ | ⟨E, S2, eS2, h2⟩
  · clear h
    have h := h2
    clear h2
    refine r_callV (M1 := m_K_enroll) (κ := 22) (As := [.int a1, .int a2]) eu1 (s_K_enroll eS2) mok_K_enroll rfl (by decide) rfl w555 w556 w557 (by decide) (kr_c8 (kr_cI (kr_cR kr_c0))) d_W_enroll_5 (kr_k1 ?_) kr_kn
    refine r_i2l d_W_enroll_8 ?_
    have h2 := kr_ob h
    clear h
    obtain ⟨S4, eS4, h⟩ := h2
    refine r_lastore eS4 d_W_enroll_9 ?_
    refine r_goto (tgt := 21) d_W_enroll_10 rfl ?_
    refine r_iconst (v := (0 : Int32)) (by decide) d_W_enroll_21 ?_
    cases h
    exact r_iret rfl d_W_enroll_22
  · by_cases c0 : E = "java/lang/IndexOutOfBoundsException"
    · subst c0
      replace h2 := kr_ip rfl h2
      clear h
      have h := h2
      clear h2
      refine r_callV (M1 := m_K_enroll) (κ := 22) (As := [.int a1, .int a2]) eu1 (s_K_enroll eS2) mok_K_enroll rfl (by decide) rfl w555 w556 w557 (by decide) (kr_c8 (kr_cI (kr_cR kr_c0))) d_W_enroll_5 kr_nk (kr_kx ?_)
      refine r_catch (hd := (0, 10, 13, 21)) [] [(0, 10, 17, 13)] ⟨rfl, (fun _ hz => nomatch hz), ⟨by decide, by decide⟩, by decide, w554, w531⟩ (i := 4) (lv' := [(0, va_rf a0), (1, .int a1), (2, .int a2), (3, va_rf a3)]) (by show List.filter (fun (q : Nat × Value) => !(q.1 == 4) && !(q.1 + 1 == 4 && q.2.category == 2)) _ = _; simp [kr_rfcat, kr_icat]) (by decide) d_W_enroll_13 ?_
      refine r_iconst (v := (1 : Int32)) (by decide) d_W_enroll_15 ?_
      cases h
      exact r_iret rfl d_W_enroll_16
    replace h2 := kr_in_ c0 h2
    by_cases c1 : E = "java/lang/IllegalArgumentException"
    · subst c1
      replace h2 := kr_ip rfl h2
      clear h
      have h := h2
      clear h2
      refine r_callV (M1 := m_K_enroll) (κ := 22) (As := [.int a1, .int a2]) eu1 (s_K_enroll eS2) mok_K_enroll rfl (by decide) rfl w555 w556 w557 (by decide) (kr_c8 (kr_cI (kr_cR kr_c0))) d_W_enroll_5 kr_nk (kr_kx ?_)
      refine r_catch (hd := (0, 10, 17, 13)) [(0, 10, 13, 21)] [] ⟨rfl, (kr_pre ⟨"java/lang/IndexOutOfBoundsException", by decide, w554, by decide⟩ (fun _ hz => nomatch hz)), ⟨by decide, by decide⟩, by decide, w367, w381⟩ (i := 4) (lv' := [(0, va_rf a0), (1, .int a1), (2, .int a2), (3, va_rf a3)]) (by show List.filter (fun (q : Nat × Value) => !(q.1 == 4) && !(q.1 + 1 == 4 && q.2.category == 2)) _ = _; simp [kr_rfcat, kr_icat]) (by decide) d_W_enroll_17 ?_
      refine r_iconst (v := (2 : Int32)) (by decide) d_W_enroll_19 ?_
      cases h
      exact r_iret rfl d_W_enroll_20
    replace h2 := kr_in_ c1 h2
    cases h2
/-! KeyringCourtLaw.factor(LKeyringCourt;II[J)I -/
def f_W_factor (S : AS) (a0 : Option Nat) (a1 : Int32) (a2 : Int32) (a3 : Option Nat) : Option (Int32 × AS) :=
  (kr_rv S 22 a0).bind fun u1 =>
  kr_bh (f_K_factor S a0 a1 a2) (fun E S2 => if E = "java/lang/IndexOutOfBoundsException" then
  some ((1 : Int32), S2)
  else if E = "java/lang/IllegalArgumentException" then
  some ((2 : Int32), S2)
  else none) fun v3 S2 =>
  (bJ S2 a3 (0 : Int32) v3.toInt64).bind fun S4 =>
  some ((0 : Int32), S4)
set_option maxRecDepth 20000 in
set_option maxHeartbeats 4000000 in
theorem s_W_factor {S : AS} {a0 : Option Nat} {a1 : Int32} {a2 : Int32} {a3 : Option Nat} {r : (Int32 × AS)} (h : f_W_factor S a0 a1 a2 a3 = some r) : kr_Con m_W_factor 9 [va_rf a0, .int a1, .int a2, va_rf a3] S (kr_eI r) := by
  refine kr_conH rfl (by decide) (by decide +kernel) (by simp [lg_sl, kr_rfcat, kr_icat, m_W_factor, mL]) ?_
  rw [show lv_args 0 [va_rf a0, .int a1, .int a2, va_rf a3] = [(0, va_rf a0), (1, .int a1), (2, .int a2), (3, va_rf a3)] from by simp [lv_args, kr_rfcat, kr_icat]]
  unfold f_W_factor at h
  refine r_aload_n (i := 3) (x := a3) 3 rfl d_W_factor_0 ?_
  refine r_iconst (v := (0 : Int32)) (by decide) d_W_factor_1 ?_
  refine r_aload_n (i := 0) (x := a0) 0 rfl d_W_factor_2 ?_
  refine r_iload_n (i := 1) (x := a1) 1 rfl d_W_factor_3 ?_
  refine r_iload_n (i := 2) (x := a2) 2 rfl d_W_factor_4 ?_
  have h2 := kr_ob h
  clear h
  obtain ⟨⟨⟩, eu1, h⟩ := h2
  rcases kr_obh h with ⟨v3, S2, eS2, h2⟩ | ⟨E, S2, eS2, h2⟩
  · clear h
    have h := h2
    clear h2
    refine r_callV (M1 := m_K_factor) (κ := 22) (As := [.int a1, .int a2]) eu1 (s_K_factor eS2) mok_K_factor rfl (by decide) rfl w578 w579 w580 (by decide) (kr_c8 (kr_cI (kr_cR kr_c0))) d_W_factor_5 (kr_k1 ?_) kr_kn
    refine r_i2l d_W_factor_8 ?_
    have h2 := kr_ob h
    clear h
    obtain ⟨S4, eS4, h⟩ := h2
    refine r_lastore eS4 d_W_factor_9 ?_
    refine r_goto (tgt := 21) d_W_factor_10 rfl ?_
    refine r_iconst (v := (0 : Int32)) (by decide) d_W_factor_21 ?_
    cases h
    exact r_iret rfl d_W_factor_22
  · by_cases c0 : E = "java/lang/IndexOutOfBoundsException"
    · subst c0
      replace h2 := kr_ip rfl h2
      clear h
      have h := h2
      clear h2
      refine r_callV (M1 := m_K_factor) (κ := 22) (As := [.int a1, .int a2]) eu1 (s_K_factor eS2) mok_K_factor rfl (by decide) rfl w578 w579 w580 (by decide) (kr_c8 (kr_cI (kr_cR kr_c0))) d_W_factor_5 kr_nk (kr_kx ?_)
      refine r_catch (hd := (0, 10, 13, 21)) [] [(0, 10, 17, 13)] ⟨rfl, (fun _ hz => nomatch hz), ⟨by decide, by decide⟩, by decide, w554, w531⟩ (i := 4) (lv' := [(0, va_rf a0), (1, .int a1), (2, .int a2), (3, va_rf a3)]) (by show List.filter (fun (q : Nat × Value) => !(q.1 == 4) && !(q.1 + 1 == 4 && q.2.category == 2)) _ = _; simp [kr_rfcat, kr_icat]) (by decide) d_W_factor_13 ?_
      refine r_iconst (v := (1 : Int32)) (by decide) d_W_factor_15 ?_
      cases h
      exact r_iret rfl d_W_factor_16
    replace h2 := kr_in_ c0 h2
    by_cases c1 : E = "java/lang/IllegalArgumentException"
    · subst c1
      replace h2 := kr_ip rfl h2
      clear h
      have h := h2
      clear h2
      refine r_callV (M1 := m_K_factor) (κ := 22) (As := [.int a1, .int a2]) eu1 (s_K_factor eS2) mok_K_factor rfl (by decide) rfl w578 w579 w580 (by decide) (kr_c8 (kr_cI (kr_cR kr_c0))) d_W_factor_5 kr_nk (kr_kx ?_)
      refine r_catch (hd := (0, 10, 17, 13)) [(0, 10, 13, 21)] [] ⟨rfl, (kr_pre ⟨"java/lang/IndexOutOfBoundsException", by decide, w554, by decide⟩ (fun _ hz => nomatch hz)), ⟨by decide, by decide⟩, by decide, w367, w381⟩ (i := 4) (lv' := [(0, va_rf a0), (1, .int a1), (2, .int a2), (3, va_rf a3)]) (by show List.filter (fun (q : Nat × Value) => !(q.1 == 4) && !(q.1 + 1 == 4 && q.2.category == 2)) _ = _; simp [kr_rfcat, kr_icat]) (by decide) d_W_factor_17 ?_
      refine r_iconst (v := (2 : Int32)) (by decide) d_W_factor_19 ?_
      cases h
      exact r_iret rfl d_W_factor_20
    replace h2 := kr_in_ c1 h2
    cases h2
/-! KeyringCourtLaw.step(LKeyringCourt;IIIII[J)I -/
def f_W_step (S : AS) (a0 : Option Nat) (a1 : Int32) (a2 : Int32) (a3 : Int32) (a4 : Int32) (a5 : Int32) (a6 : Option Nat) : Option (Int32 × AS) :=
  (kr_rv S 22 a0).bind fun u1 =>
  kr_bh (f_K_step S a0 a1 a2 a3 a4 a5) (fun E S2 => if E = "java/lang/IllegalArgumentException" then
  some ((1 : Int32), S2)
  else if E = "java/lang/IllegalStateException" then
  some ((2 : Int32), S2)
  else none) fun v3 S2 =>
  (bJ S2 a6 (0 : Int32) v3.toInt64).bind fun S4 =>
  some ((0 : Int32), S4)
set_option maxRecDepth 20000 in
set_option maxHeartbeats 4000000 in
theorem s_W_step {S : AS} {a0 : Option Nat} {a1 : Int32} {a2 : Int32} {a3 : Int32} {a4 : Int32} {a5 : Int32} {a6 : Option Nat} {r : (Int32 × AS)} (h : f_W_step S a0 a1 a2 a3 a4 a5 a6 = some r) : kr_Con m_W_step 9 [va_rf a0, .int a1, .int a2, .int a3, .int a4, .int a5, va_rf a6] S (kr_eI r) := by
  refine kr_conH rfl (by decide) (by decide +kernel) (by simp [lg_sl, kr_rfcat, kr_icat, m_W_step, mL]) ?_
  rw [show lv_args 0 [va_rf a0, .int a1, .int a2, .int a3, .int a4, .int a5, va_rf a6] = [(0, va_rf a0), (1, .int a1), (2, .int a2), (3, .int a3), (4, .int a4), (5, .int a5), (6, va_rf a6)] from by simp [lv_args, kr_rfcat, kr_icat]]
  unfold f_W_step at h
  refine r_aload (i := 6) (x := a6) 6 rfl d_W_step_0 ?_
  refine r_iconst (v := (0 : Int32)) (by decide) d_W_step_2 ?_
  refine r_aload_n (i := 0) (x := a0) 0 rfl d_W_step_3 ?_
  refine r_iload_n (i := 1) (x := a1) 1 rfl d_W_step_4 ?_
  refine r_iload_n (i := 2) (x := a2) 2 rfl d_W_step_5 ?_
  refine r_iload_n (i := 3) (x := a3) 3 rfl d_W_step_6 ?_
  refine r_iload (i := 4) (x := a4) 4 rfl d_W_step_7 ?_
  refine r_iload (i := 5) (x := a5) 5 rfl d_W_step_9 ?_
  have h2 := kr_ob h
  clear h
  obtain ⟨⟨⟩, eu1, h⟩ := h2
  rcases kr_obh h with ⟨v3, S2, eS2, h2⟩ | ⟨E, S2, eS2, h2⟩
  · clear h
    have h := h2
    clear h2
    refine r_callV (M1 := m_K_step) (κ := 22) (As := [.int a1, .int a2, .int a3, .int a4, .int a5]) eu1 (s_K_step eS2) mok_K_step rfl (by decide) rfl w585 w586 w587 (by decide) (kr_c8 (kr_cI (kr_cR kr_c0))) d_W_step_11 (kr_k1 ?_) kr_kn
    refine r_i2l d_W_step_14 ?_
    have h2 := kr_ob h
    clear h
    obtain ⟨S4, eS4, h⟩ := h2
    refine r_lastore eS4 d_W_step_15 ?_
    refine r_goto (tgt := 27) d_W_step_16 rfl ?_
    refine r_iconst (v := (0 : Int32)) (by decide) d_W_step_27 ?_
    cases h
    exact r_iret rfl d_W_step_28
  · by_cases c0 : E = "java/lang/IllegalArgumentException"
    · subst c0
      replace h2 := kr_ip rfl h2
      clear h
      have h := h2
      clear h2
      refine r_callV (M1 := m_K_step) (κ := 22) (As := [.int a1, .int a2, .int a3, .int a4, .int a5]) eu1 (s_K_step eS2) mok_K_step rfl (by decide) rfl w585 w586 w587 (by decide) (kr_c8 (kr_cI (kr_cR kr_c0))) d_W_step_11 kr_nk (kr_kx ?_)
      refine r_catch (hd := (0, 16, 19, 13)) [] [(0, 16, 23, 15)] ⟨rfl, (fun _ hz => nomatch hz), ⟨by decide, by decide⟩, by decide, w367, w381⟩ (i := 7) (lv' := [(0, va_rf a0), (1, .int a1), (2, .int a2), (3, .int a3), (4, .int a4), (5, .int a5), (6, va_rf a6)]) (by show List.filter (fun (q : Nat × Value) => !(q.1 == 7) && !(q.1 + 1 == 7 && q.2.category == 2)) _ = _; simp [kr_rfcat, kr_icat]) (by decide) d_W_step_19 ?_
      refine r_iconst (v := (1 : Int32)) (by decide) d_W_step_21 ?_
      cases h
      exact r_iret rfl d_W_step_22
    replace h2 := kr_in_ c0 h2
    by_cases c1 : E = "java/lang/IllegalStateException"
    · subst c1
      replace h2 := kr_ip rfl h2
      clear h
      have h := h2
      clear h2
      refine r_callV (M1 := m_K_step) (κ := 22) (As := [.int a1, .int a2, .int a3, .int a4, .int a5]) eu1 (s_K_step eS2) mok_K_step rfl (by decide) rfl w585 w586 w587 (by decide) (kr_c8 (kr_cI (kr_cR kr_c0))) d_W_step_11 kr_nk (kr_kx ?_)
      refine r_catch (hd := (0, 16, 23, 15)) [(0, 16, 19, 13)] [] ⟨rfl, (kr_pre ⟨"java/lang/IllegalArgumentException", by decide, w367, by decide⟩ (fun _ hz => nomatch hz)), ⟨by decide, by decide⟩, by decide, w368, w447⟩ (i := 7) (lv' := [(0, va_rf a0), (1, .int a1), (2, .int a2), (3, .int a3), (4, .int a4), (5, .int a5), (6, va_rf a6)]) (by show List.filter (fun (q : Nat × Value) => !(q.1 == 7) && !(q.1 + 1 == 7 && q.2.category == 2)) _ = _; simp [kr_rfcat, kr_icat]) (by decide) d_W_step_23 ?_
      refine r_iconst (v := (2 : Int32)) (by decide) d_W_step_25 ?_
      cases h
      exact r_iret rfl d_W_step_26
    replace h2 := kr_in_ c1 h2
    cases h2
/-! KeyringCourtLaw.publish(LKeyringCourt;[J)I -/
def f_W_publish (S : AS) (a0 : Option Nat) (a1 : Option Nat) : Option (Int32 × AS) :=
  (kr_rv S 22 a0).bind fun u1 =>
  kr_bh (f_K_publish S a0) (fun E S2 => if E = "java/lang/IllegalStateException" then
  some ((1 : Int32), S2)
  else none) fun v3 S2 =>
  (bJ S2 a1 (0 : Int32) v3.toInt64).bind fun S4 =>
  some ((0 : Int32), S4)
set_option maxRecDepth 20000 in
set_option maxHeartbeats 4000000 in
theorem s_W_publish {S : AS} {a0 : Option Nat} {a1 : Option Nat} {r : (Int32 × AS)} (h : f_W_publish S a0 a1 = some r) : kr_Con m_W_publish 9 [va_rf a0, va_rf a1] S (kr_eI r) := by
  refine kr_conH rfl (by decide) (by decide +kernel) (by simp [lg_sl, kr_rfcat, kr_icat, m_W_publish, mL]) ?_
  rw [show lv_args 0 [va_rf a0, va_rf a1] = [(0, va_rf a0), (1, va_rf a1)] from by simp [lv_args, kr_rfcat, kr_icat]]
  unfold f_W_publish at h
  refine r_aload_n (i := 1) (x := a1) 1 rfl d_W_publish_0 ?_
  refine r_iconst (v := (0 : Int32)) (by decide) d_W_publish_1 ?_
  refine r_aload_n (i := 0) (x := a0) 0 rfl d_W_publish_2 ?_
  have h2 := kr_ob h
  clear h
  obtain ⟨⟨⟩, eu1, h⟩ := h2
  rcases kr_obh h with ⟨v3, S2, eS2, h2⟩ | ⟨E, S2, eS2, h2⟩
  · clear h
    have h := h2
    clear h2
    refine r_callV (M1 := m_K_publish) (κ := 22) (As := []) eu1 (s_K_publish eS2) mok_K_publish rfl (by decide) rfl w605 w606 w607 (by decide) (kr_c8 (kr_cI (kr_cR kr_c0))) d_W_publish_3 (kr_k1 ?_) kr_kn
    refine r_i2l d_W_publish_6 ?_
    have h2 := kr_ob h
    clear h
    obtain ⟨S4, eS4, h⟩ := h2
    refine r_lastore eS4 d_W_publish_7 ?_
    refine r_goto (tgt := 14) d_W_publish_8 rfl ?_
    refine r_iconst (v := (0 : Int32)) (by decide) d_W_publish_14 ?_
    cases h
    exact r_iret rfl d_W_publish_15
  · by_cases c0 : E = "java/lang/IllegalStateException"
    · subst c0
      replace h2 := kr_ip rfl h2
      clear h
      have h := h2
      clear h2
      refine r_callV (M1 := m_K_publish) (κ := 22) (As := []) eu1 (s_K_publish eS2) mok_K_publish rfl (by decide) rfl w605 w606 w607 (by decide) (kr_c8 (kr_cI (kr_cR kr_c0))) d_W_publish_3 kr_nk (kr_kx ?_)
      refine r_catch_n (hd := (0, 8, 11, 15)) [] [] ⟨rfl, (fun _ hz => nomatch hz), ⟨by decide, by decide⟩, by decide, w368, w447⟩ (i := 2) (lv' := [(0, va_rf a0), (1, va_rf a1)]) (by show List.filter (fun (q : Nat × Value) => !(q.1 == 2) && !(q.1 + 1 == 2 && q.2.category == 2)) _ = _; simp [kr_rfcat, kr_icat]) (by decide) d_W_publish_11 ?_
      refine r_iconst (v := (1 : Int32)) (by decide) d_W_publish_12 ?_
      cases h
      exact r_iret rfl d_W_publish_13
    replace h2 := kr_in_ c0 h2
    cases h2
/-! KeyringCourtLaw.weakest(LKeyringCourt;I[J)I -/
def f_W_weakest (S : AS) (a0 : Option Nat) (a1 : Int32) (a2 : Option Nat) : Option (Int32 × AS) :=
  (kr_rv S 22 a0).bind fun u1 =>
  kr_bh (f_K_weakest S a0 a1) (fun E S2 => if E = "java/lang/IndexOutOfBoundsException" then
  some ((1 : Int32), S2)
  else none) fun v3 S2 =>
  (bJ S2 a2 (0 : Int32) v3.toInt64).bind fun S4 =>
  some ((0 : Int32), S4)
set_option maxRecDepth 20000 in
set_option maxHeartbeats 4000000 in
theorem s_W_weakest {S : AS} {a0 : Option Nat} {a1 : Int32} {a2 : Option Nat} {r : (Int32 × AS)} (h : f_W_weakest S a0 a1 a2 = some r) : kr_Con m_W_weakest 9 [va_rf a0, .int a1, va_rf a2] S (kr_eI r) := by
  refine kr_conH rfl (by decide) (by decide +kernel) (by simp [lg_sl, kr_rfcat, kr_icat, m_W_weakest, mL]) ?_
  rw [show lv_args 0 [va_rf a0, .int a1, va_rf a2] = [(0, va_rf a0), (1, .int a1), (2, va_rf a2)] from by simp [lv_args, kr_rfcat, kr_icat]]
  unfold f_W_weakest at h
  refine r_aload_n (i := 2) (x := a2) 2 rfl d_W_weakest_0 ?_
  refine r_iconst (v := (0 : Int32)) (by decide) d_W_weakest_1 ?_
  refine r_aload_n (i := 0) (x := a0) 0 rfl d_W_weakest_2 ?_
  refine r_iload_n (i := 1) (x := a1) 1 rfl d_W_weakest_3 ?_
  have h2 := kr_ob h
  clear h
  obtain ⟨⟨⟩, eu1, h⟩ := h2
  rcases kr_obh h with ⟨v3, S2, eS2, h2⟩ | ⟨E, S2, eS2, h2⟩
  · clear h
    have h := h2
    clear h2
    refine r_callV (M1 := m_K_weakest) (κ := 22) (As := [.int a1]) eu1 (s_K_weakest eS2) mok_K_weakest rfl (by decide) rfl w709 w710 w711 (by decide) (kr_c8 (kr_cI (kr_cR kr_c0))) d_W_weakest_4 (kr_k1 ?_) kr_kn
    refine r_i2l d_W_weakest_7 ?_
    have h2 := kr_ob h
    clear h
    obtain ⟨S4, eS4, h⟩ := h2
    refine r_lastore eS4 d_W_weakest_8 ?_
    refine r_goto (tgt := 15) d_W_weakest_9 rfl ?_
    refine r_iconst (v := (0 : Int32)) (by decide) d_W_weakest_15 ?_
    cases h
    exact r_iret rfl d_W_weakest_16
  · by_cases c0 : E = "java/lang/IndexOutOfBoundsException"
    · subst c0
      replace h2 := kr_ip rfl h2
      clear h
      have h := h2
      clear h2
      refine r_callV (M1 := m_K_weakest) (κ := 22) (As := [.int a1]) eu1 (s_K_weakest eS2) mok_K_weakest rfl (by decide) rfl w709 w710 w711 (by decide) (kr_c8 (kr_cI (kr_cR kr_c0))) d_W_weakest_4 kr_nk (kr_kx ?_)
      refine r_catch_n (hd := (0, 9, 12, 21)) [] [] ⟨rfl, (fun _ hz => nomatch hz), ⟨by decide, by decide⟩, by decide, w554, w531⟩ (i := 3) (lv' := [(0, va_rf a0), (1, .int a1), (2, va_rf a2)]) (by show List.filter (fun (q : Nat × Value) => !(q.1 == 3) && !(q.1 + 1 == 3 && q.2.category == 2)) _ = _; simp [kr_rfcat, kr_icat]) (by decide) d_W_weakest_12 ?_
      refine r_iconst (v := (1 : Int32)) (by decide) d_W_weakest_13 ?_
      cases h
      exact r_iret rfl d_W_weakest_14
    replace h2 := kr_in_ c0 h2
    cases h2
/-! KeyringCourtLaw.points(LKeyringCourt;IIZ[J)I -/
def f_W_points (S : AS) (a0 : Option Nat) (a1 : Int32) (a2 : Int32) (a3 : Int32) (a4 : Option Nat) : Option (Int32 × AS) :=
  (kr_rv S 22 a0).bind fun u1 =>
  kr_bh (f_K_points S a0 a1 a2 a3) (fun E S2 => if E = "java/lang/IllegalArgumentException" then
  some ((1 : Int32), S2)
  else none) fun v3 S2 =>
  (bJ S2 a4 (0 : Int32) v3.toInt64).bind fun S4 =>
  some ((0 : Int32), S4)
set_option maxRecDepth 20000 in
set_option maxHeartbeats 4000000 in
theorem s_W_points {S : AS} {a0 : Option Nat} {a1 : Int32} {a2 : Int32} {a3 : Int32} {a4 : Option Nat} {r : (Int32 × AS)} (h : f_W_points S a0 a1 a2 a3 a4 = some r) : kr_Con m_W_points 9 [va_rf a0, .int a1, .int a2, .int a3, va_rf a4] S (kr_eI r) := by
  refine kr_conH rfl (by decide) (by decide +kernel) (by simp [lg_sl, kr_rfcat, kr_icat, m_W_points, mL]) ?_
  rw [show lv_args 0 [va_rf a0, .int a1, .int a2, .int a3, va_rf a4] = [(0, va_rf a0), (1, .int a1), (2, .int a2), (3, .int a3), (4, va_rf a4)] from by simp [lv_args, kr_rfcat, kr_icat]]
  unfold f_W_points at h
  refine r_aload (i := 4) (x := a4) 4 rfl d_W_points_0 ?_
  refine r_iconst (v := (0 : Int32)) (by decide) d_W_points_2 ?_
  refine r_aload_n (i := 0) (x := a0) 0 rfl d_W_points_3 ?_
  refine r_iload_n (i := 1) (x := a1) 1 rfl d_W_points_4 ?_
  refine r_iload_n (i := 2) (x := a2) 2 rfl d_W_points_5 ?_
  refine r_iload_n (i := 3) (x := a3) 3 rfl d_W_points_6 ?_
  have h2 := kr_ob h
  clear h
  obtain ⟨⟨⟩, eu1, h⟩ := h2
  rcases kr_obh h with ⟨v3, S2, eS2, h2⟩ | ⟨E, S2, eS2, h2⟩
  · clear h
    have h := h2
    clear h2
    refine r_callV (M1 := m_K_points) (κ := 22) (As := [.int a1, .int a2, .int a3]) eu1 (s_K_points eS2) mok_K_points rfl (by decide) rfl w760 w761 w762 (by decide) (kr_c8 (kr_cI (kr_cR kr_c0))) d_W_points_7 (kr_k1 ?_) kr_kn
    refine r_i2l d_W_points_10 ?_
    have h2 := kr_ob h
    clear h
    obtain ⟨S4, eS4, h⟩ := h2
    refine r_lastore eS4 d_W_points_11 ?_
    refine r_goto (tgt := 19) d_W_points_12 rfl ?_
    refine r_iconst (v := (0 : Int32)) (by decide) d_W_points_19 ?_
    cases h
    exact r_iret rfl d_W_points_20
  · by_cases c0 : E = "java/lang/IllegalArgumentException"
    · subst c0
      replace h2 := kr_ip rfl h2
      clear h
      have h := h2
      clear h2
      refine r_callV (M1 := m_K_points) (κ := 22) (As := [.int a1, .int a2, .int a3]) eu1 (s_K_points eS2) mok_K_points rfl (by decide) rfl w760 w761 w762 (by decide) (kr_c8 (kr_cI (kr_cR kr_c0))) d_W_points_7 kr_nk (kr_kx ?_)
      refine r_catch (hd := (0, 12, 15, 13)) [] [] ⟨rfl, (fun _ hz => nomatch hz), ⟨by decide, by decide⟩, by decide, w367, w381⟩ (i := 5) (lv' := [(0, va_rf a0), (1, .int a1), (2, .int a2), (3, .int a3), (4, va_rf a4)]) (by show List.filter (fun (q : Nat × Value) => !(q.1 == 5) && !(q.1 + 1 == 5 && q.2.category == 2)) _ = _; simp [kr_rfcat, kr_icat]) (by decide) d_W_points_15 ?_
      refine r_iconst (v := (1 : Int32)) (by decide) d_W_points_17 ?_
      cases h
      exact r_iret rfl d_W_points_18
    replace h2 := kr_in_ c0 h2
    cases h2
/-! KeyringCourtLaw.begin(LKeyringCourt;III[J)I -/
def f_W_begin (S : AS) (a0 : Option Nat) (a1 : Int32) (a2 : Int32) (a3 : Int32) (a4 : Option Nat) : Option (Int32 × AS) :=
  (kr_rv S 22 a0).bind fun u1 =>
  kr_bh (f_K_begin S a0 a1 a2 a3) (fun E S2 => if E = "java/lang/IndexOutOfBoundsException" then
  some ((1 : Int32), S2)
  else if E = "java/lang/IllegalStateException" then
  some ((2 : Int32), S2)
  else none) fun v3 S2 =>
  (bJ S2 a4 (0 : Int32) v3.toInt64).bind fun S4 =>
  some ((0 : Int32), S4)
set_option maxRecDepth 20000 in
set_option maxHeartbeats 4000000 in
theorem s_W_begin {S : AS} {a0 : Option Nat} {a1 : Int32} {a2 : Int32} {a3 : Int32} {a4 : Option Nat} {r : (Int32 × AS)} (h : f_W_begin S a0 a1 a2 a3 a4 = some r) : kr_Con m_W_begin 11 [va_rf a0, .int a1, .int a2, .int a3, va_rf a4] S (kr_eI r) := by
  refine kr_conH rfl (by decide) (by decide +kernel) (by simp [lg_sl, kr_rfcat, kr_icat, m_W_begin, mL]) ?_
  rw [show lv_args 0 [va_rf a0, .int a1, .int a2, .int a3, va_rf a4] = [(0, va_rf a0), (1, .int a1), (2, .int a2), (3, .int a3), (4, va_rf a4)] from by simp [lv_args, kr_rfcat, kr_icat]]
  unfold f_W_begin at h
  refine r_aload (i := 4) (x := a4) 4 rfl d_W_begin_0 ?_
  refine r_iconst (v := (0 : Int32)) (by decide) d_W_begin_2 ?_
  refine r_aload_n (i := 0) (x := a0) 0 rfl d_W_begin_3 ?_
  refine r_iload_n (i := 1) (x := a1) 1 rfl d_W_begin_4 ?_
  refine r_iload_n (i := 2) (x := a2) 2 rfl d_W_begin_5 ?_
  refine r_iload_n (i := 3) (x := a3) 3 rfl d_W_begin_6 ?_
  have h2 := kr_ob h
  clear h
  obtain ⟨⟨⟩, eu1, h⟩ := h2
  rcases kr_obh h with ⟨v3, S2, eS2, h2⟩ | ⟨E, S2, eS2, h2⟩
  · clear h
    have h := h2
    clear h2
    refine r_callV (M1 := m_K_begin) (κ := 22) (As := [.int a1, .int a2, .int a3]) eu1 (s_K_begin eS2) mok_K_begin rfl (by decide) rfl w767 w768 w769 (by decide) (kr_c8 (kr_cI (kr_cR kr_c0))) d_W_begin_7 (kr_k1 ?_) kr_kn
    refine r_i2l d_W_begin_10 ?_
    have h2 := kr_ob h
    clear h
    obtain ⟨S4, eS4, h⟩ := h2
    refine r_lastore eS4 d_W_begin_11 ?_
    refine r_goto (tgt := 23) d_W_begin_12 rfl ?_
    refine r_iconst (v := (0 : Int32)) (by decide) d_W_begin_23 ?_
    cases h
    exact r_iret rfl d_W_begin_24
  · by_cases c0 : E = "java/lang/IndexOutOfBoundsException"
    · subst c0
      replace h2 := kr_ip rfl h2
      clear h
      have h := h2
      clear h2
      refine r_callV (M1 := m_K_begin) (κ := 22) (As := [.int a1, .int a2, .int a3]) eu1 (s_K_begin eS2) mok_K_begin rfl (by decide) rfl w767 w768 w769 (by decide) (kr_c8 (kr_cI (kr_cR kr_c0))) d_W_begin_7 kr_nk (kr_kx ?_)
      refine r_catch (hd := (0, 12, 15, 21)) [] [(0, 12, 19, 15)] ⟨rfl, (fun _ hz => nomatch hz), ⟨by decide, by decide⟩, by decide, w554, w531⟩ (i := 5) (lv' := [(0, va_rf a0), (1, .int a1), (2, .int a2), (3, .int a3), (4, va_rf a4)]) (by show List.filter (fun (q : Nat × Value) => !(q.1 == 5) && !(q.1 + 1 == 5 && q.2.category == 2)) _ = _; simp [kr_rfcat, kr_icat]) (by decide) d_W_begin_15 ?_
      refine r_iconst (v := (1 : Int32)) (by decide) d_W_begin_17 ?_
      cases h
      exact r_iret rfl d_W_begin_18
    replace h2 := kr_in_ c0 h2
    by_cases c1 : E = "java/lang/IllegalStateException"
    · subst c1
      replace h2 := kr_ip rfl h2
      clear h
      have h := h2
      clear h2
      refine r_callV (M1 := m_K_begin) (κ := 22) (As := [.int a1, .int a2, .int a3]) eu1 (s_K_begin eS2) mok_K_begin rfl (by decide) rfl w767 w768 w769 (by decide) (kr_c8 (kr_cI (kr_cR kr_c0))) d_W_begin_7 kr_nk (kr_kx ?_)
      refine r_catch (hd := (0, 12, 19, 15)) [(0, 12, 15, 21)] [] ⟨rfl, (kr_pre ⟨"java/lang/IndexOutOfBoundsException", by decide, w554, by decide⟩ (fun _ hz => nomatch hz)), ⟨by decide, by decide⟩, by decide, w368, w447⟩ (i := 5) (lv' := [(0, va_rf a0), (1, .int a1), (2, .int a2), (3, .int a3), (4, va_rf a4)]) (by show List.filter (fun (q : Nat × Value) => !(q.1 == 5) && !(q.1 + 1 == 5 && q.2.category == 2)) _ = _; simp [kr_rfcat, kr_icat]) (by decide) d_W_begin_19 ?_
      refine r_iconst (v := (2 : Int32)) (by decide) d_W_begin_21 ?_
      cases h
      exact r_iret rfl d_W_begin_22
    replace h2 := kr_in_ c1 h2
    cases h2
/-! KeyringCourtLaw.answer(LKeyringCourt;IZI[J)I -/
def f_W_answer (S : AS) (a0 : Option Nat) (a1 : Int32) (a2 : Int32) (a3 : Int32) (a4 : Option Nat) : Option (Int32 × AS) :=
  (kr_rv S 22 a0).bind fun u1 =>
  kr_bh (f_K_answer S a0 a1 a2 a3) (fun E S2 => if E = "java/lang/IndexOutOfBoundsException" then
  some ((1 : Int32), S2)
  else if E = "java/lang/IllegalArgumentException" then
  some ((2 : Int32), S2)
  else if E = "java/lang/IllegalStateException" then
  some ((3 : Int32), S2)
  else none) fun v3 S2 =>
  (bJ S2 a4 (0 : Int32) v3.toInt64).bind fun S4 =>
  some ((0 : Int32), S4)
set_option maxRecDepth 20000 in
set_option maxHeartbeats 4000000 in
theorem s_W_answer {S : AS} {a0 : Option Nat} {a1 : Int32} {a2 : Int32} {a3 : Int32} {a4 : Option Nat} {r : (Int32 × AS)} (h : f_W_answer S a0 a1 a2 a3 a4 = some r) : kr_Con m_W_answer 12 [va_rf a0, .int a1, .int a2, .int a3, va_rf a4] S (kr_eI r) := by
  refine kr_conH rfl (by decide) (by decide +kernel) (by simp [lg_sl, kr_rfcat, kr_icat, m_W_answer, mL]) ?_
  rw [show lv_args 0 [va_rf a0, .int a1, .int a2, .int a3, va_rf a4] = [(0, va_rf a0), (1, .int a1), (2, .int a2), (3, .int a3), (4, va_rf a4)] from by simp [lv_args, kr_rfcat, kr_icat]]
  unfold f_W_answer at h
  refine r_aload (i := 4) (x := a4) 4 rfl d_W_answer_0 ?_
  refine r_iconst (v := (0 : Int32)) (by decide) d_W_answer_2 ?_
  refine r_aload_n (i := 0) (x := a0) 0 rfl d_W_answer_3 ?_
  refine r_iload_n (i := 1) (x := a1) 1 rfl d_W_answer_4 ?_
  refine r_iload_n (i := 2) (x := a2) 2 rfl d_W_answer_5 ?_
  refine r_iload_n (i := 3) (x := a3) 3 rfl d_W_answer_6 ?_
  have h2 := kr_ob h
  clear h
  obtain ⟨⟨⟩, eu1, h⟩ := h2
  rcases kr_obh h with ⟨v3, S2, eS2, h2⟩ | ⟨E, S2, eS2, h2⟩
  · clear h
    have h := h2
    clear h2
    refine r_callV (M1 := m_K_answer) (κ := 22) (As := [.int a1, .int a2, .int a3]) eu1 (s_K_answer eS2) mok_K_answer rfl (by decide) rfl w917 w918 w919 (by decide) (kr_c8 (kr_cI (kr_cR kr_c0))) d_W_answer_7 (kr_k1 ?_) kr_kn
    refine r_i2l d_W_answer_10 ?_
    have h2 := kr_ob h
    clear h
    obtain ⟨S4, eS4, h⟩ := h2
    refine r_lastore eS4 d_W_answer_11 ?_
    refine r_goto (tgt := 27) d_W_answer_12 rfl ?_
    refine r_iconst (v := (0 : Int32)) (by decide) d_W_answer_27 ?_
    cases h
    exact r_iret rfl d_W_answer_28
  · by_cases c0 : E = "java/lang/IndexOutOfBoundsException"
    · subst c0
      replace h2 := kr_ip rfl h2
      clear h
      have h := h2
      clear h2
      refine r_callV (M1 := m_K_answer) (κ := 22) (As := [.int a1, .int a2, .int a3]) eu1 (s_K_answer eS2) mok_K_answer rfl (by decide) rfl w917 w918 w919 (by decide) (kr_c8 (kr_cI (kr_cR kr_c0))) d_W_answer_7 kr_nk (kr_kx ?_)
      refine r_catch (hd := (0, 12, 15, 21)) [] [(0, 12, 19, 13), (0, 12, 23, 15)] ⟨rfl, (fun _ hz => nomatch hz), ⟨by decide, by decide⟩, by decide, w554, w531⟩ (i := 5) (lv' := [(0, va_rf a0), (1, .int a1), (2, .int a2), (3, .int a3), (4, va_rf a4)]) (by show List.filter (fun (q : Nat × Value) => !(q.1 == 5) && !(q.1 + 1 == 5 && q.2.category == 2)) _ = _; simp [kr_rfcat, kr_icat]) (by decide) d_W_answer_15 ?_
      refine r_iconst (v := (1 : Int32)) (by decide) d_W_answer_17 ?_
      cases h
      exact r_iret rfl d_W_answer_18
    replace h2 := kr_in_ c0 h2
    by_cases c1 : E = "java/lang/IllegalArgumentException"
    · subst c1
      replace h2 := kr_ip rfl h2
      clear h
      have h := h2
      clear h2
      refine r_callV (M1 := m_K_answer) (κ := 22) (As := [.int a1, .int a2, .int a3]) eu1 (s_K_answer eS2) mok_K_answer rfl (by decide) rfl w917 w918 w919 (by decide) (kr_c8 (kr_cI (kr_cR kr_c0))) d_W_answer_7 kr_nk (kr_kx ?_)
      refine r_catch (hd := (0, 12, 19, 13)) [(0, 12, 15, 21)] [(0, 12, 23, 15)] ⟨rfl, (kr_pre ⟨"java/lang/IndexOutOfBoundsException", by decide, w554, by decide⟩ (fun _ hz => nomatch hz)), ⟨by decide, by decide⟩, by decide, w367, w381⟩ (i := 5) (lv' := [(0, va_rf a0), (1, .int a1), (2, .int a2), (3, .int a3), (4, va_rf a4)]) (by show List.filter (fun (q : Nat × Value) => !(q.1 == 5) && !(q.1 + 1 == 5 && q.2.category == 2)) _ = _; simp [kr_rfcat, kr_icat]) (by decide) d_W_answer_19 ?_
      refine r_iconst (v := (2 : Int32)) (by decide) d_W_answer_21 ?_
      cases h
      exact r_iret rfl d_W_answer_22
    replace h2 := kr_in_ c1 h2
    by_cases c2 : E = "java/lang/IllegalStateException"
    · subst c2
      replace h2 := kr_ip rfl h2
      clear h
      have h := h2
      clear h2
      refine r_callV (M1 := m_K_answer) (κ := 22) (As := [.int a1, .int a2, .int a3]) eu1 (s_K_answer eS2) mok_K_answer rfl (by decide) rfl w917 w918 w919 (by decide) (kr_c8 (kr_cI (kr_cR kr_c0))) d_W_answer_7 kr_nk (kr_kx ?_)
      refine r_catch (hd := (0, 12, 23, 15)) [(0, 12, 15, 21), (0, 12, 19, 13)] [] ⟨rfl, (kr_pre ⟨"java/lang/IndexOutOfBoundsException", by decide, w554, by decide⟩ (kr_pre ⟨"java/lang/IllegalArgumentException", by decide, w367, by decide⟩ (fun _ hz => nomatch hz))), ⟨by decide, by decide⟩, by decide, w368, w447⟩ (i := 5) (lv' := [(0, va_rf a0), (1, .int a1), (2, .int a2), (3, .int a3), (4, va_rf a4)]) (by show List.filter (fun (q : Nat × Value) => !(q.1 == 5) && !(q.1 + 1 == 5 && q.2.category == 2)) _ = _; simp [kr_rfcat, kr_icat]) (by decide) d_W_answer_23 ?_
      refine r_iconst (v := (3 : Int32)) (by decide) d_W_answer_25 ?_
      cases h
      exact r_iret rfl d_W_answer_26
    replace h2 := kr_in_ c2 h2
    cases h2
/-! KeyringCourtLaw.state(LKeyringCourt;I[J)I -/
def f_W_state (S : AS) (a0 : Option Nat) (a1 : Int32) (a2 : Option Nat) : Option (Int32 × AS) :=
  (kr_rv S 22 a0).bind fun u1 =>
  kr_bh (f_K_state S a0 a1) (fun E S2 => if E = "java/lang/IndexOutOfBoundsException" then
  some ((1 : Int32), S2)
  else none) fun v3 S2 =>
  (bJ S2 a2 (0 : Int32) v3.toInt64).bind fun S4 =>
  some ((0 : Int32), S4)
set_option maxRecDepth 20000 in
set_option maxHeartbeats 4000000 in
theorem s_W_state {S : AS} {a0 : Option Nat} {a1 : Int32} {a2 : Option Nat} {r : (Int32 × AS)} (h : f_W_state S a0 a1 a2 = some r) : kr_Con m_W_state 10 [va_rf a0, .int a1, va_rf a2] S (kr_eI r) := by
  refine kr_conH rfl (by decide) (by decide +kernel) (by simp [lg_sl, kr_rfcat, kr_icat, m_W_state, mL]) ?_
  rw [show lv_args 0 [va_rf a0, .int a1, va_rf a2] = [(0, va_rf a0), (1, .int a1), (2, va_rf a2)] from by simp [lv_args, kr_rfcat, kr_icat]]
  unfold f_W_state at h
  refine r_aload_n (i := 2) (x := a2) 2 rfl d_W_state_0 ?_
  refine r_iconst (v := (0 : Int32)) (by decide) d_W_state_1 ?_
  refine r_aload_n (i := 0) (x := a0) 0 rfl d_W_state_2 ?_
  refine r_iload_n (i := 1) (x := a1) 1 rfl d_W_state_3 ?_
  have h2 := kr_ob h
  clear h
  obtain ⟨⟨⟩, eu1, h⟩ := h2
  rcases kr_obh h with ⟨v3, S2, eS2, h2⟩ | ⟨E, S2, eS2, h2⟩
  · clear h
    have h := h2
    clear h2
    refine r_callV (M1 := m_K_state) (κ := 22) (As := [.int a1]) eu1 (s_K_state eS2) mok_K_state rfl (by decide) rfl w952 w953 w954 (by decide) (kr_c8 (kr_cI (kr_cR kr_c0))) d_W_state_4 (kr_k1 ?_) kr_kn
    refine r_i2l d_W_state_7 ?_
    have h2 := kr_ob h
    clear h
    obtain ⟨S4, eS4, h⟩ := h2
    refine r_lastore eS4 d_W_state_8 ?_
    refine r_goto (tgt := 15) d_W_state_9 rfl ?_
    refine r_iconst (v := (0 : Int32)) (by decide) d_W_state_15 ?_
    cases h
    exact r_iret rfl d_W_state_16
  · by_cases c0 : E = "java/lang/IndexOutOfBoundsException"
    · subst c0
      replace h2 := kr_ip rfl h2
      clear h
      have h := h2
      clear h2
      refine r_callV (M1 := m_K_state) (κ := 22) (As := [.int a1]) eu1 (s_K_state eS2) mok_K_state rfl (by decide) rfl w952 w953 w954 (by decide) (kr_c8 (kr_cI (kr_cR kr_c0))) d_W_state_4 kr_nk (kr_kx ?_)
      refine r_catch_n (hd := (0, 9, 12, 21)) [] [] ⟨rfl, (fun _ hz => nomatch hz), ⟨by decide, by decide⟩, by decide, w554, w531⟩ (i := 3) (lv' := [(0, va_rf a0), (1, .int a1), (2, va_rf a2)]) (by show List.filter (fun (q : Nat × Value) => !(q.1 == 3) && !(q.1 + 1 == 3 && q.2.category == 2)) _ = _; simp [kr_rfcat, kr_icat]) (by decide) d_W_state_12 ?_
      refine r_iconst (v := (1 : Int32)) (by decide) d_W_state_13 ?_
      cases h
      exact r_iret rfl d_W_state_14
    replace h2 := kr_in_ c0 h2
    cases h2
/-! KeyringCourtLaw.asked(LKeyringCourt;I[J)I -/
def f_W_asked (S : AS) (a0 : Option Nat) (a1 : Int32) (a2 : Option Nat) : Option (Int32 × AS) :=
  (kr_rv S 22 a0).bind fun u1 =>
  kr_bh (f_K_asked S a0 a1) (fun E S2 => if E = "java/lang/IndexOutOfBoundsException" then
  some ((1 : Int32), S2)
  else none) fun v3 S2 =>
  (bJ S2 a2 (0 : Int32) v3.toInt64).bind fun S4 =>
  some ((0 : Int32), S4)
set_option maxRecDepth 20000 in
set_option maxHeartbeats 4000000 in
theorem s_W_asked {S : AS} {a0 : Option Nat} {a1 : Int32} {a2 : Option Nat} {r : (Int32 × AS)} (h : f_W_asked S a0 a1 a2 = some r) : kr_Con m_W_asked 10 [va_rf a0, .int a1, va_rf a2] S (kr_eI r) := by
  refine kr_conH rfl (by decide) (by decide +kernel) (by simp [lg_sl, kr_rfcat, kr_icat, m_W_asked, mL]) ?_
  rw [show lv_args 0 [va_rf a0, .int a1, va_rf a2] = [(0, va_rf a0), (1, .int a1), (2, va_rf a2)] from by simp [lv_args, kr_rfcat, kr_icat]]
  unfold f_W_asked at h
  refine r_aload_n (i := 2) (x := a2) 2 rfl d_W_asked_0 ?_
  refine r_iconst (v := (0 : Int32)) (by decide) d_W_asked_1 ?_
  refine r_aload_n (i := 0) (x := a0) 0 rfl d_W_asked_2 ?_
  refine r_iload_n (i := 1) (x := a1) 1 rfl d_W_asked_3 ?_
  have h2 := kr_ob h
  clear h
  obtain ⟨⟨⟩, eu1, h⟩ := h2
  rcases kr_obh h with ⟨v3, S2, eS2, h2⟩ | ⟨E, S2, eS2, h2⟩
  · clear h
    have h := h2
    clear h2
    refine r_callV (M1 := m_K_asked) (κ := 22) (As := [.int a1]) eu1 (s_K_asked eS2) mok_K_asked rfl (by decide) rfl w959 w960 w961 (by decide) (kr_c8 (kr_cI (kr_cR kr_c0))) d_W_asked_4 (kr_k1 ?_) kr_kn
    refine r_i2l d_W_asked_7 ?_
    have h2 := kr_ob h
    clear h
    obtain ⟨S4, eS4, h⟩ := h2
    refine r_lastore eS4 d_W_asked_8 ?_
    refine r_goto (tgt := 15) d_W_asked_9 rfl ?_
    refine r_iconst (v := (0 : Int32)) (by decide) d_W_asked_15 ?_
    cases h
    exact r_iret rfl d_W_asked_16
  · by_cases c0 : E = "java/lang/IndexOutOfBoundsException"
    · subst c0
      replace h2 := kr_ip rfl h2
      clear h
      have h := h2
      clear h2
      refine r_callV (M1 := m_K_asked) (κ := 22) (As := [.int a1]) eu1 (s_K_asked eS2) mok_K_asked rfl (by decide) rfl w959 w960 w961 (by decide) (kr_c8 (kr_cI (kr_cR kr_c0))) d_W_asked_4 kr_nk (kr_kx ?_)
      refine r_catch_n (hd := (0, 9, 12, 21)) [] [] ⟨rfl, (fun _ hz => nomatch hz), ⟨by decide, by decide⟩, by decide, w554, w531⟩ (i := 3) (lv' := [(0, va_rf a0), (1, .int a1), (2, va_rf a2)]) (by show List.filter (fun (q : Nat × Value) => !(q.1 == 3) && !(q.1 + 1 == 3 && q.2.category == 2)) _ = _; simp [kr_rfcat, kr_icat]) (by decide) d_W_asked_12 ?_
      refine r_iconst (v := (1 : Int32)) (by decide) d_W_asked_13 ?_
      cases h
      exact r_iret rfl d_W_asked_14
    replace h2 := kr_in_ c0 h2
    cases h2
/-! KeyringCourtLaw.sessionOf(LKeyringCourt;I[J)I -/
def f_W_sessionOf (S : AS) (a0 : Option Nat) (a1 : Int32) (a2 : Option Nat) : Option (Int32 × AS) :=
  (kr_rv S 22 a0).bind fun u1 =>
  kr_bh (f_K_sessionOf S a0 a1) (fun E S2 => if E = "java/lang/IndexOutOfBoundsException" then
  some ((1 : Int32), S2)
  else none) fun v3 S2 =>
  (bJ S2 a2 (0 : Int32) v3.toInt64).bind fun S4 =>
  some ((0 : Int32), S4)
set_option maxRecDepth 20000 in
set_option maxHeartbeats 4000000 in
theorem s_W_sessionOf {S : AS} {a0 : Option Nat} {a1 : Int32} {a2 : Option Nat} {r : (Int32 × AS)} (h : f_W_sessionOf S a0 a1 a2 = some r) : kr_Con m_W_sessionOf 10 [va_rf a0, .int a1, va_rf a2] S (kr_eI r) := by
  refine kr_conH rfl (by decide) (by decide +kernel) (by simp [lg_sl, kr_rfcat, kr_icat, m_W_sessionOf, mL]) ?_
  rw [show lv_args 0 [va_rf a0, .int a1, va_rf a2] = [(0, va_rf a0), (1, .int a1), (2, va_rf a2)] from by simp [lv_args, kr_rfcat, kr_icat]]
  unfold f_W_sessionOf at h
  refine r_aload_n (i := 2) (x := a2) 2 rfl d_W_sessionOf_0 ?_
  refine r_iconst (v := (0 : Int32)) (by decide) d_W_sessionOf_1 ?_
  refine r_aload_n (i := 0) (x := a0) 0 rfl d_W_sessionOf_2 ?_
  refine r_iload_n (i := 1) (x := a1) 1 rfl d_W_sessionOf_3 ?_
  have h2 := kr_ob h
  clear h
  obtain ⟨⟨⟩, eu1, h⟩ := h2
  rcases kr_obh h with ⟨v3, S2, eS2, h2⟩ | ⟨E, S2, eS2, h2⟩
  · clear h
    have h := h2
    clear h2
    refine r_callV (M1 := m_K_sessionOf) (κ := 22) (As := [.int a1]) eu1 (s_K_sessionOf eS2) mok_K_sessionOf rfl (by decide) rfl w966 w967 w968 (by decide) (kr_c8 (kr_cI (kr_cR kr_c0))) d_W_sessionOf_4 (kr_k1 ?_) kr_kn
    refine r_i2l d_W_sessionOf_7 ?_
    have h2 := kr_ob h
    clear h
    obtain ⟨S4, eS4, h⟩ := h2
    refine r_lastore eS4 d_W_sessionOf_8 ?_
    refine r_goto (tgt := 15) d_W_sessionOf_9 rfl ?_
    refine r_iconst (v := (0 : Int32)) (by decide) d_W_sessionOf_15 ?_
    cases h
    exact r_iret rfl d_W_sessionOf_16
  · by_cases c0 : E = "java/lang/IndexOutOfBoundsException"
    · subst c0
      replace h2 := kr_ip rfl h2
      clear h
      have h := h2
      clear h2
      refine r_callV (M1 := m_K_sessionOf) (κ := 22) (As := [.int a1]) eu1 (s_K_sessionOf eS2) mok_K_sessionOf rfl (by decide) rfl w966 w967 w968 (by decide) (kr_c8 (kr_cI (kr_cR kr_c0))) d_W_sessionOf_4 kr_nk (kr_kx ?_)
      refine r_catch_n (hd := (0, 9, 12, 21)) [] [] ⟨rfl, (fun _ hz => nomatch hz), ⟨by decide, by decide⟩, by decide, w554, w531⟩ (i := 3) (lv' := [(0, va_rf a0), (1, .int a1), (2, va_rf a2)]) (by show List.filter (fun (q : Nat × Value) => !(q.1 == 3) && !(q.1 + 1 == 3 && q.2.category == 2)) _ = _; simp [kr_rfcat, kr_icat]) (by decide) d_W_sessionOf_12 ?_
      refine r_iconst (v := (1 : Int32)) (by decide) d_W_sessionOf_13 ?_
      cases h
      exact r_iret rfl d_W_sessionOf_14
    replace h2 := kr_in_ c0 h2
    cases h2
/-! KeyringCourtLaw.risk(LKeyringCourt;I[J)I -/
def f_W_risk (S : AS) (a0 : Option Nat) (a1 : Int32) (a2 : Option Nat) : Option (Int32 × AS) :=
  (kr_rv S 22 a0).bind fun u1 =>
  kr_bh (f_K_risk S a0 a1) (fun E S2 => if E = "java/lang/IndexOutOfBoundsException" then
  some ((1 : Int32), S2)
  else none) fun v3 S2 =>
  (bJ S2 a2 (0 : Int32) v3.toInt64).bind fun S4 =>
  some ((0 : Int32), S4)
set_option maxRecDepth 20000 in
set_option maxHeartbeats 4000000 in
theorem s_W_risk {S : AS} {a0 : Option Nat} {a1 : Int32} {a2 : Option Nat} {r : (Int32 × AS)} (h : f_W_risk S a0 a1 a2 = some r) : kr_Con m_W_risk 10 [va_rf a0, .int a1, va_rf a2] S (kr_eI r) := by
  refine kr_conH rfl (by decide) (by decide +kernel) (by simp [lg_sl, kr_rfcat, kr_icat, m_W_risk, mL]) ?_
  rw [show lv_args 0 [va_rf a0, .int a1, va_rf a2] = [(0, va_rf a0), (1, .int a1), (2, va_rf a2)] from by simp [lv_args, kr_rfcat, kr_icat]]
  unfold f_W_risk at h
  refine r_aload_n (i := 2) (x := a2) 2 rfl d_W_risk_0 ?_
  refine r_iconst (v := (0 : Int32)) (by decide) d_W_risk_1 ?_
  refine r_aload_n (i := 0) (x := a0) 0 rfl d_W_risk_2 ?_
  refine r_iload_n (i := 1) (x := a1) 1 rfl d_W_risk_3 ?_
  have h2 := kr_ob h
  clear h
  obtain ⟨⟨⟩, eu1, h⟩ := h2
  rcases kr_obh h with ⟨v3, S2, eS2, h2⟩ | ⟨E, S2, eS2, h2⟩
  · clear h
    have h := h2
    clear h2
    refine r_callV (M1 := m_K_risk) (κ := 22) (As := [.int a1]) eu1 (s_K_risk eS2) mok_K_risk rfl (by decide) rfl w973 w974 w975 (by decide) (kr_c8 (kr_cI (kr_cR kr_c0))) d_W_risk_4 (kr_k1 ?_) kr_kn
    refine r_i2l d_W_risk_7 ?_
    have h2 := kr_ob h
    clear h
    obtain ⟨S4, eS4, h⟩ := h2
    refine r_lastore eS4 d_W_risk_8 ?_
    refine r_goto (tgt := 15) d_W_risk_9 rfl ?_
    refine r_iconst (v := (0 : Int32)) (by decide) d_W_risk_15 ?_
    cases h
    exact r_iret rfl d_W_risk_16
  · by_cases c0 : E = "java/lang/IndexOutOfBoundsException"
    · subst c0
      replace h2 := kr_ip rfl h2
      clear h
      have h := h2
      clear h2
      refine r_callV (M1 := m_K_risk) (κ := 22) (As := [.int a1]) eu1 (s_K_risk eS2) mok_K_risk rfl (by decide) rfl w973 w974 w975 (by decide) (kr_c8 (kr_cI (kr_cR kr_c0))) d_W_risk_4 kr_nk (kr_kx ?_)
      refine r_catch_n (hd := (0, 9, 12, 21)) [] [] ⟨rfl, (fun _ hz => nomatch hz), ⟨by decide, by decide⟩, by decide, w554, w531⟩ (i := 3) (lv' := [(0, va_rf a0), (1, .int a1), (2, va_rf a2)]) (by show List.filter (fun (q : Nat × Value) => !(q.1 == 3) && !(q.1 + 1 == 3 && q.2.category == 2)) _ = _; simp [kr_rfcat, kr_icat]) (by decide) d_W_risk_12 ?_
      refine r_iconst (v := (1 : Int32)) (by decide) d_W_risk_13 ?_
      cases h
      exact r_iret rfl d_W_risk_14
    replace h2 := kr_in_ c0 h2
    cases h2
/-! KeyringCourtLaw.trialRisk(LKeyringCourt;I[J)I -/
def f_W_trialRisk (S : AS) (a0 : Option Nat) (a1 : Int32) (a2 : Option Nat) : Option (Int32 × AS) :=
  (kr_rv S 22 a0).bind fun u1 =>
  kr_bh (f_K_trialRisk S a0 a1) (fun E S2 => if E = "java/lang/IndexOutOfBoundsException" then
  some ((1 : Int32), S2)
  else none) fun v3 S2 =>
  (bJ S2 a2 (0 : Int32) v3.toInt64).bind fun S4 =>
  some ((0 : Int32), S4)
set_option maxRecDepth 20000 in
set_option maxHeartbeats 4000000 in
theorem s_W_trialRisk {S : AS} {a0 : Option Nat} {a1 : Int32} {a2 : Option Nat} {r : (Int32 × AS)} (h : f_W_trialRisk S a0 a1 a2 = some r) : kr_Con m_W_trialRisk 10 [va_rf a0, .int a1, va_rf a2] S (kr_eI r) := by
  refine kr_conH rfl (by decide) (by decide +kernel) (by simp [lg_sl, kr_rfcat, kr_icat, m_W_trialRisk, mL]) ?_
  rw [show lv_args 0 [va_rf a0, .int a1, va_rf a2] = [(0, va_rf a0), (1, .int a1), (2, va_rf a2)] from by simp [lv_args, kr_rfcat, kr_icat]]
  unfold f_W_trialRisk at h
  refine r_aload_n (i := 2) (x := a2) 2 rfl d_W_trialRisk_0 ?_
  refine r_iconst (v := (0 : Int32)) (by decide) d_W_trialRisk_1 ?_
  refine r_aload_n (i := 0) (x := a0) 0 rfl d_W_trialRisk_2 ?_
  refine r_iload_n (i := 1) (x := a1) 1 rfl d_W_trialRisk_3 ?_
  have h2 := kr_ob h
  clear h
  obtain ⟨⟨⟩, eu1, h⟩ := h2
  rcases kr_obh h with ⟨v3, S2, eS2, h2⟩ | ⟨E, S2, eS2, h2⟩
  · clear h
    have h := h2
    clear h2
    refine r_callV (M1 := m_K_trialRisk) (κ := 22) (As := [.int a1]) eu1 (s_K_trialRisk eS2) mok_K_trialRisk rfl (by decide) rfl w980 w981 w982 (by decide) (kr_c8 (kr_cI (kr_cR kr_c0))) d_W_trialRisk_4 (kr_k1 ?_) kr_kn
    refine r_i2l d_W_trialRisk_7 ?_
    have h2 := kr_ob h
    clear h
    obtain ⟨S4, eS4, h⟩ := h2
    refine r_lastore eS4 d_W_trialRisk_8 ?_
    refine r_goto (tgt := 15) d_W_trialRisk_9 rfl ?_
    refine r_iconst (v := (0 : Int32)) (by decide) d_W_trialRisk_15 ?_
    cases h
    exact r_iret rfl d_W_trialRisk_16
  · by_cases c0 : E = "java/lang/IndexOutOfBoundsException"
    · subst c0
      replace h2 := kr_ip rfl h2
      clear h
      have h := h2
      clear h2
      refine r_callV (M1 := m_K_trialRisk) (κ := 22) (As := [.int a1]) eu1 (s_K_trialRisk eS2) mok_K_trialRisk rfl (by decide) rfl w980 w981 w982 (by decide) (kr_c8 (kr_cI (kr_cR kr_c0))) d_W_trialRisk_4 kr_nk (kr_kx ?_)
      refine r_catch_n (hd := (0, 9, 12, 21)) [] [] ⟨rfl, (fun _ hz => nomatch hz), ⟨by decide, by decide⟩, by decide, w554, w531⟩ (i := 3) (lv' := [(0, va_rf a0), (1, .int a1), (2, va_rf a2)]) (by show List.filter (fun (q : Nat × Value) => !(q.1 == 3) && !(q.1 + 1 == 3 && q.2.category == 2)) _ = _; simp [kr_rfcat, kr_icat]) (by decide) d_W_trialRisk_12 ?_
      refine r_iconst (v := (1 : Int32)) (by decide) d_W_trialRisk_13 ?_
      cases h
      exact r_iret rfl d_W_trialRisk_14
    replace h2 := kr_in_ c0 h2
    cases h2
/-! KeyringCourtLaw.isLive(LKeyringCourt;I[J)I -/
def f_W_isLive_B15 (S : AS) (y0 : Option Nat) (y1 : Int32) (y2 : Int64) : Option (Int32 × AS) :=
  (bJ S y0 y1 y2).bind fun S1 =>
  some ((0 : Int32), S1)
def f_W_isLive (S : AS) (a0 : Option Nat) (a1 : Int32) (a2 : Option Nat) : Option (Int32 × AS) :=
  (kr_rv S 22 a0).bind fun u2 =>
  kr_bh (f_K_isLive S a0 a1) (fun E S3 => if E = "java/lang/IndexOutOfBoundsException" then
  some ((1 : Int32), S3)
  else none) fun v4 S3 =>
  if v4 = 0 then
  f_W_isLive_B15 S3 a2 (0 : Int32) (0 : Int64)
  else
  f_W_isLive_B15 S3 a2 (0 : Int32) (1 : Int64)
set_option maxRecDepth 20000 in
set_option maxHeartbeats 4000000 in
theorem s_W_isLive_B15 {S : AS} {y0 : Option Nat} {y1 : Int32} {y2 : Int64} {r : (Int32 × AS)} (h : f_W_isLive_B15 S y0 y1 y2 = some r) : kr_AW m_W_isLive 10 15 [] [.long y2, .int y1, va_rf y0] S (kr_eI r) := by
  unfold f_W_isLive_B15 at h
  have h2 := kr_ob h
  clear h
  obtain ⟨S1, eS1, h⟩ := h2
  refine r_lastore eS1 d_W_isLive_15 ?_
  refine r_goto (tgt := 22) d_W_isLive_16 rfl ?_
  refine r_iconst (v := (0 : Int32)) (by decide) d_W_isLive_22 ?_
  cases h
  exact r_iret rfl d_W_isLive_23
set_option maxRecDepth 20000 in
set_option maxHeartbeats 4000000 in
theorem s_W_isLive {S : AS} {a0 : Option Nat} {a1 : Int32} {a2 : Option Nat} {r : (Int32 × AS)} (h : f_W_isLive S a0 a1 a2 = some r) : kr_Con m_W_isLive 10 [va_rf a0, .int a1, va_rf a2] S (kr_eI r) := by
  refine kr_conH rfl (by decide) (by decide +kernel) (by simp [lg_sl, kr_rfcat, kr_icat, m_W_isLive, mL]) ?_
  rw [show lv_args 0 [va_rf a0, .int a1, va_rf a2] = [(0, va_rf a0), (1, .int a1), (2, va_rf a2)] from by simp [lv_args, kr_rfcat, kr_icat]]
  unfold f_W_isLive at h
  refine r_aload_n (i := 2) (x := a2) 2 rfl d_W_isLive_0 ?_
  refine r_iconst (v := (0 : Int32)) (by decide) d_W_isLive_1 ?_
  refine r_aload_n (i := 0) (x := a0) 0 rfl d_W_isLive_2 ?_
  refine r_iload_n (i := 1) (x := a1) 1 rfl d_W_isLive_3 ?_
  have h2 := kr_ob h
  clear h
  obtain ⟨⟨⟩, eu2, h⟩ := h2
  rcases kr_obh h with ⟨v4, S3, eS3, h2⟩ | ⟨E, S3, eS3, h2⟩
  · clear h
    have h := h2
    clear h2
    refine r_callV (M1 := m_K_isLive) (κ := 22) (As := [.int a1]) eu2 (s_K_isLive eS3) mok_K_isLive rfl (by decide) rfl w987 w988 w989 (by decide) (kr_c8 (kr_cI (kr_cR kr_c0))) d_W_isLive_4 (kr_k1 ?_) kr_kn
    refine r_if_eq (tgt := 14) d_W_isLive_7 rfl (fun c => ?_) (fun c => ?_)
    · replace h := kr_ip c h
      refine r_lconst (v := (0 : Int64)) (by decide) d_W_isLive_14 ?_
      exact kr_sub [] rfl (s_W_isLive_B15 h)
    · replace h := kr_in_ c h
      refine r_lconst (v := (1 : Int64)) (by decide) d_W_isLive_10 ?_
      refine r_goto (tgt := 15) d_W_isLive_11 rfl ?_
      exact kr_sub [] rfl (s_W_isLive_B15 h)
  · by_cases c0 : E = "java/lang/IndexOutOfBoundsException"
    · subst c0
      replace h2 := kr_ip rfl h2
      clear h
      have h := h2
      clear h2
      refine r_callV (M1 := m_K_isLive) (κ := 22) (As := [.int a1]) eu2 (s_K_isLive eS3) mok_K_isLive rfl (by decide) rfl w987 w988 w989 (by decide) (kr_c8 (kr_cI (kr_cR kr_c0))) d_W_isLive_4 kr_nk (kr_kx ?_)
      refine r_catch_n (hd := (0, 16, 19, 21)) [] [] ⟨rfl, (fun _ hz => nomatch hz), ⟨by decide, by decide⟩, by decide, w554, w531⟩ (i := 3) (lv' := [(0, va_rf a0), (1, .int a1), (2, va_rf a2)]) (by show List.filter (fun (q : Nat × Value) => !(q.1 == 3) && !(q.1 + 1 == 3 && q.2.category == 2)) _ = _; simp [kr_rfcat, kr_icat]) (by decide) d_W_isLive_19 ?_
      refine r_iconst (v := (1 : Int32)) (by decide) d_W_isLive_20 ?_
      cases h
      exact r_iret rfl d_W_isLive_21
    replace h2 := kr_in_ c0 h2
    cases h2
/-! KeyringCourtLaw.isLiveByAudit(LKeyringCourt;I[J)I -/
def f_W_isLiveByAudit_B15 (S : AS) (y0 : Option Nat) (y1 : Int32) (y2 : Int64) : Option (Int32 × AS) :=
  (bJ S y0 y1 y2).bind fun S1 =>
  some ((0 : Int32), S1)
def f_W_isLiveByAudit (S : AS) (a0 : Option Nat) (a1 : Int32) (a2 : Option Nat) : Option (Int32 × AS) :=
  (kr_rv S 22 a0).bind fun u2 =>
  kr_bh (f_K_isLiveByAudit S a0 a1) (fun E S3 => if E = "java/lang/IndexOutOfBoundsException" then
  some ((1 : Int32), S3)
  else none) fun v4 S3 =>
  if v4 = 0 then
  f_W_isLiveByAudit_B15 S3 a2 (0 : Int32) (0 : Int64)
  else
  f_W_isLiveByAudit_B15 S3 a2 (0 : Int32) (1 : Int64)
set_option maxRecDepth 20000 in
set_option maxHeartbeats 4000000 in
theorem s_W_isLiveByAudit_B15 {S : AS} {y0 : Option Nat} {y1 : Int32} {y2 : Int64} {r : (Int32 × AS)} (h : f_W_isLiveByAudit_B15 S y0 y1 y2 = some r) : kr_AW m_W_isLiveByAudit 9 15 [] [.long y2, .int y1, va_rf y0] S (kr_eI r) := by
  unfold f_W_isLiveByAudit_B15 at h
  have h2 := kr_ob h
  clear h
  obtain ⟨S1, eS1, h⟩ := h2
  refine r_lastore eS1 d_W_isLiveByAudit_15 ?_
  refine r_goto (tgt := 22) d_W_isLiveByAudit_16 rfl ?_
  refine r_iconst (v := (0 : Int32)) (by decide) d_W_isLiveByAudit_22 ?_
  cases h
  exact r_iret rfl d_W_isLiveByAudit_23
set_option maxRecDepth 20000 in
set_option maxHeartbeats 4000000 in
theorem s_W_isLiveByAudit {S : AS} {a0 : Option Nat} {a1 : Int32} {a2 : Option Nat} {r : (Int32 × AS)} (h : f_W_isLiveByAudit S a0 a1 a2 = some r) : kr_Con m_W_isLiveByAudit 9 [va_rf a0, .int a1, va_rf a2] S (kr_eI r) := by
  refine kr_conH rfl (by decide) (by decide +kernel) (by simp [lg_sl, kr_rfcat, kr_icat, m_W_isLiveByAudit, mL]) ?_
  rw [show lv_args 0 [va_rf a0, .int a1, va_rf a2] = [(0, va_rf a0), (1, .int a1), (2, va_rf a2)] from by simp [lv_args, kr_rfcat, kr_icat]]
  unfold f_W_isLiveByAudit at h
  refine r_aload_n (i := 2) (x := a2) 2 rfl d_W_isLiveByAudit_0 ?_
  refine r_iconst (v := (0 : Int32)) (by decide) d_W_isLiveByAudit_1 ?_
  refine r_aload_n (i := 0) (x := a0) 0 rfl d_W_isLiveByAudit_2 ?_
  refine r_iload_n (i := 1) (x := a1) 1 rfl d_W_isLiveByAudit_3 ?_
  have h2 := kr_ob h
  clear h
  obtain ⟨⟨⟩, eu2, h⟩ := h2
  rcases kr_obh h with ⟨v4, S3, eS3, h2⟩ | ⟨E, S3, eS3, h2⟩
  · clear h
    have h := h2
    clear h2
    refine r_callV (M1 := m_K_isLiveByAudit) (κ := 22) (As := [.int a1]) eu2 (s_K_isLiveByAudit eS3) mok_K_isLiveByAudit rfl (by decide) rfl w998 w999 w1000 (by decide) (kr_c8 (kr_cI (kr_cR kr_c0))) d_W_isLiveByAudit_4 (kr_k1 ?_) kr_kn
    refine r_if_eq (tgt := 14) d_W_isLiveByAudit_7 rfl (fun c => ?_) (fun c => ?_)
    · replace h := kr_ip c h
      refine r_lconst (v := (0 : Int64)) (by decide) d_W_isLiveByAudit_14 ?_
      exact kr_sub [] rfl (s_W_isLiveByAudit_B15 h)
    · replace h := kr_in_ c h
      refine r_lconst (v := (1 : Int64)) (by decide) d_W_isLiveByAudit_10 ?_
      refine r_goto (tgt := 15) d_W_isLiveByAudit_11 rfl ?_
      exact kr_sub [] rfl (s_W_isLiveByAudit_B15 h)
  · by_cases c0 : E = "java/lang/IndexOutOfBoundsException"
    · subst c0
      replace h2 := kr_ip rfl h2
      clear h
      have h := h2
      clear h2
      refine r_callV (M1 := m_K_isLiveByAudit) (κ := 22) (As := [.int a1]) eu2 (s_K_isLiveByAudit eS3) mok_K_isLiveByAudit rfl (by decide) rfl w998 w999 w1000 (by decide) (kr_c8 (kr_cI (kr_cR kr_c0))) d_W_isLiveByAudit_4 kr_nk (kr_kx ?_)
      refine r_catch_n (hd := (0, 16, 19, 21)) [] [] ⟨rfl, (fun _ hz => nomatch hz), ⟨by decide, by decide⟩, by decide, w554, w531⟩ (i := 3) (lv' := [(0, va_rf a0), (1, .int a1), (2, va_rf a2)]) (by show List.filter (fun (q : Nat × Value) => !(q.1 == 3) && !(q.1 + 1 == 3 && q.2.category == 2)) _ = _; simp [kr_rfcat, kr_icat]) (by decide) d_W_isLiveByAudit_19 ?_
      refine r_iconst (v := (1 : Int32)) (by decide) d_W_isLiveByAudit_20 ?_
      cases h
      exact r_iret rfl d_W_isLiveByAudit_21
    replace h2 := kr_in_ c0 h2
    cases h2
/-! KeyringCourtLaw.level(LKeyringCourt;I[J)I -/
def f_W_level (S : AS) (a0 : Option Nat) (a1 : Int32) (a2 : Option Nat) : Option (Int32 × AS) :=
  (kr_rv S 22 a0).bind fun u1 =>
  kr_bh (f_K_level S a0 a1) (fun E S2 => if E = "java/lang/IndexOutOfBoundsException" then
  some ((1 : Int32), S2)
  else none) fun v3 S2 =>
  (bJ S2 a2 (0 : Int32) v3.toInt64).bind fun S4 =>
  some ((0 : Int32), S4)
set_option maxRecDepth 20000 in
set_option maxHeartbeats 4000000 in
theorem s_W_level {S : AS} {a0 : Option Nat} {a1 : Int32} {a2 : Option Nat} {r : (Int32 × AS)} (h : f_W_level S a0 a1 a2 = some r) : kr_Con m_W_level 10 [va_rf a0, .int a1, va_rf a2] S (kr_eI r) := by
  refine kr_conH rfl (by decide) (by decide +kernel) (by simp [lg_sl, kr_rfcat, kr_icat, m_W_level, mL]) ?_
  rw [show lv_args 0 [va_rf a0, .int a1, va_rf a2] = [(0, va_rf a0), (1, .int a1), (2, va_rf a2)] from by simp [lv_args, kr_rfcat, kr_icat]]
  unfold f_W_level at h
  refine r_aload_n (i := 2) (x := a2) 2 rfl d_W_level_0 ?_
  refine r_iconst (v := (0 : Int32)) (by decide) d_W_level_1 ?_
  refine r_aload_n (i := 0) (x := a0) 0 rfl d_W_level_2 ?_
  refine r_iload_n (i := 1) (x := a1) 1 rfl d_W_level_3 ?_
  have h2 := kr_ob h
  clear h
  obtain ⟨⟨⟩, eu1, h⟩ := h2
  rcases kr_obh h with ⟨v3, S2, eS2, h2⟩ | ⟨E, S2, eS2, h2⟩
  · clear h
    have h := h2
    clear h2
    refine r_callV (M1 := m_K_level) (κ := 22) (As := [.int a1]) eu1 (s_K_level eS2) mok_K_level rfl (by decide) rfl w1013 w1014 w1015 (by decide) (kr_c8 (kr_cI (kr_cR kr_c0))) d_W_level_4 (kr_k1 ?_) kr_kn
    refine r_i2l d_W_level_7 ?_
    have h2 := kr_ob h
    clear h
    obtain ⟨S4, eS4, h⟩ := h2
    refine r_lastore eS4 d_W_level_8 ?_
    refine r_goto (tgt := 15) d_W_level_9 rfl ?_
    refine r_iconst (v := (0 : Int32)) (by decide) d_W_level_15 ?_
    cases h
    exact r_iret rfl d_W_level_16
  · by_cases c0 : E = "java/lang/IndexOutOfBoundsException"
    · subst c0
      replace h2 := kr_ip rfl h2
      clear h
      have h := h2
      clear h2
      refine r_callV (M1 := m_K_level) (κ := 22) (As := [.int a1]) eu1 (s_K_level eS2) mok_K_level rfl (by decide) rfl w1013 w1014 w1015 (by decide) (kr_c8 (kr_cI (kr_cR kr_c0))) d_W_level_4 kr_nk (kr_kx ?_)
      refine r_catch_n (hd := (0, 9, 12, 21)) [] [] ⟨rfl, (fun _ hz => nomatch hz), ⟨by decide, by decide⟩, by decide, w554, w531⟩ (i := 3) (lv' := [(0, va_rf a0), (1, .int a1), (2, va_rf a2)]) (by show List.filter (fun (q : Nat × Value) => !(q.1 == 3) && !(q.1 + 1 == 3 && q.2.category == 2)) _ = _; simp [kr_rfcat, kr_icat]) (by decide) d_W_level_12 ?_
      refine r_iconst (v := (1 : Int32)) (by decide) d_W_level_13 ?_
      cases h
      exact r_iret rfl d_W_level_14
    replace h2 := kr_in_ c0 h2
    cases h2
/-! KeyringCourtLaw.stepUp(LKeyringCourt;IIZI[J)I -/
def f_W_stepUp (S : AS) (a0 : Option Nat) (a1 : Int32) (a2 : Int32) (a3 : Int32) (a4 : Int32) (a5 : Option Nat) : Option (Int32 × AS) :=
  (kr_rv S 22 a0).bind fun u1 =>
  kr_bh (f_K_stepUp S a0 a1 a2 a3 a4) (fun E S2 => if E = "java/lang/IndexOutOfBoundsException" then
  some ((1 : Int32), S2)
  else if E = "java/lang/IllegalArgumentException" then
  some ((2 : Int32), S2)
  else if E = "java/lang/IllegalStateException" then
  some ((3 : Int32), S2)
  else none) fun v3 S2 =>
  (bJ S2 a5 (0 : Int32) v3.toInt64).bind fun S4 =>
  some ((0 : Int32), S4)
set_option maxRecDepth 20000 in
set_option maxHeartbeats 4000000 in
theorem s_W_stepUp {S : AS} {a0 : Option Nat} {a1 : Int32} {a2 : Int32} {a3 : Int32} {a4 : Int32} {a5 : Option Nat} {r : (Int32 × AS)} (h : f_W_stepUp S a0 a1 a2 a3 a4 a5 = some r) : kr_Con m_W_stepUp 10 [va_rf a0, .int a1, .int a2, .int a3, .int a4, va_rf a5] S (kr_eI r) := by
  refine kr_conH rfl (by decide) (by decide +kernel) (by simp [lg_sl, kr_rfcat, kr_icat, m_W_stepUp, mL]) ?_
  rw [show lv_args 0 [va_rf a0, .int a1, .int a2, .int a3, .int a4, va_rf a5] = [(0, va_rf a0), (1, .int a1), (2, .int a2), (3, .int a3), (4, .int a4), (5, va_rf a5)] from by simp [lv_args, kr_rfcat, kr_icat]]
  unfold f_W_stepUp at h
  refine r_aload (i := 5) (x := a5) 5 rfl d_W_stepUp_0 ?_
  refine r_iconst (v := (0 : Int32)) (by decide) d_W_stepUp_2 ?_
  refine r_aload_n (i := 0) (x := a0) 0 rfl d_W_stepUp_3 ?_
  refine r_iload_n (i := 1) (x := a1) 1 rfl d_W_stepUp_4 ?_
  refine r_iload_n (i := 2) (x := a2) 2 rfl d_W_stepUp_5 ?_
  refine r_iload_n (i := 3) (x := a3) 3 rfl d_W_stepUp_6 ?_
  refine r_iload (i := 4) (x := a4) 4 rfl d_W_stepUp_7 ?_
  have h2 := kr_ob h
  clear h
  obtain ⟨⟨⟩, eu1, h⟩ := h2
  rcases kr_obh h with ⟨v3, S2, eS2, h2⟩ | ⟨E, S2, eS2, h2⟩
  · clear h
    have h := h2
    clear h2
    refine r_callV (M1 := m_K_stepUp) (κ := 22) (As := [.int a1, .int a2, .int a3, .int a4]) eu1 (s_K_stepUp eS2) mok_K_stepUp rfl (by decide) rfl w1025 w1026 w1027 (by decide) (kr_c8 (kr_cI (kr_cR kr_c0))) d_W_stepUp_9 (kr_k1 ?_) kr_kn
    refine r_i2l d_W_stepUp_12 ?_
    have h2 := kr_ob h
    clear h
    obtain ⟨S4, eS4, h⟩ := h2
    refine r_lastore eS4 d_W_stepUp_13 ?_
    refine r_goto (tgt := 29) d_W_stepUp_14 rfl ?_
    refine r_iconst (v := (0 : Int32)) (by decide) d_W_stepUp_29 ?_
    cases h
    exact r_iret rfl d_W_stepUp_30
  · by_cases c0 : E = "java/lang/IndexOutOfBoundsException"
    · subst c0
      replace h2 := kr_ip rfl h2
      clear h
      have h := h2
      clear h2
      refine r_callV (M1 := m_K_stepUp) (κ := 22) (As := [.int a1, .int a2, .int a3, .int a4]) eu1 (s_K_stepUp eS2) mok_K_stepUp rfl (by decide) rfl w1025 w1026 w1027 (by decide) (kr_c8 (kr_cI (kr_cR kr_c0))) d_W_stepUp_9 kr_nk (kr_kx ?_)
      refine r_catch (hd := (0, 14, 17, 21)) [] [(0, 14, 21, 13), (0, 14, 25, 15)] ⟨rfl, (fun _ hz => nomatch hz), ⟨by decide, by decide⟩, by decide, w554, w531⟩ (i := 6) (lv' := [(0, va_rf a0), (1, .int a1), (2, .int a2), (3, .int a3), (4, .int a4), (5, va_rf a5)]) (by show List.filter (fun (q : Nat × Value) => !(q.1 == 6) && !(q.1 + 1 == 6 && q.2.category == 2)) _ = _; simp [kr_rfcat, kr_icat]) (by decide) d_W_stepUp_17 ?_
      refine r_iconst (v := (1 : Int32)) (by decide) d_W_stepUp_19 ?_
      cases h
      exact r_iret rfl d_W_stepUp_20
    replace h2 := kr_in_ c0 h2
    by_cases c1 : E = "java/lang/IllegalArgumentException"
    · subst c1
      replace h2 := kr_ip rfl h2
      clear h
      have h := h2
      clear h2
      refine r_callV (M1 := m_K_stepUp) (κ := 22) (As := [.int a1, .int a2, .int a3, .int a4]) eu1 (s_K_stepUp eS2) mok_K_stepUp rfl (by decide) rfl w1025 w1026 w1027 (by decide) (kr_c8 (kr_cI (kr_cR kr_c0))) d_W_stepUp_9 kr_nk (kr_kx ?_)
      refine r_catch (hd := (0, 14, 21, 13)) [(0, 14, 17, 21)] [(0, 14, 25, 15)] ⟨rfl, (kr_pre ⟨"java/lang/IndexOutOfBoundsException", by decide, w554, by decide⟩ (fun _ hz => nomatch hz)), ⟨by decide, by decide⟩, by decide, w367, w381⟩ (i := 6) (lv' := [(0, va_rf a0), (1, .int a1), (2, .int a2), (3, .int a3), (4, .int a4), (5, va_rf a5)]) (by show List.filter (fun (q : Nat × Value) => !(q.1 == 6) && !(q.1 + 1 == 6 && q.2.category == 2)) _ = _; simp [kr_rfcat, kr_icat]) (by decide) d_W_stepUp_21 ?_
      refine r_iconst (v := (2 : Int32)) (by decide) d_W_stepUp_23 ?_
      cases h
      exact r_iret rfl d_W_stepUp_24
    replace h2 := kr_in_ c1 h2
    by_cases c2 : E = "java/lang/IllegalStateException"
    · subst c2
      replace h2 := kr_ip rfl h2
      clear h
      have h := h2
      clear h2
      refine r_callV (M1 := m_K_stepUp) (κ := 22) (As := [.int a1, .int a2, .int a3, .int a4]) eu1 (s_K_stepUp eS2) mok_K_stepUp rfl (by decide) rfl w1025 w1026 w1027 (by decide) (kr_c8 (kr_cI (kr_cR kr_c0))) d_W_stepUp_9 kr_nk (kr_kx ?_)
      refine r_catch (hd := (0, 14, 25, 15)) [(0, 14, 17, 21), (0, 14, 21, 13)] [] ⟨rfl, (kr_pre ⟨"java/lang/IndexOutOfBoundsException", by decide, w554, by decide⟩ (kr_pre ⟨"java/lang/IllegalArgumentException", by decide, w367, by decide⟩ (fun _ hz => nomatch hz))), ⟨by decide, by decide⟩, by decide, w368, w447⟩ (i := 6) (lv' := [(0, va_rf a0), (1, .int a1), (2, .int a2), (3, .int a3), (4, .int a4), (5, va_rf a5)]) (by show List.filter (fun (q : Nat × Value) => !(q.1 == 6) && !(q.1 + 1 == 6 && q.2.category == 2)) _ = _; simp [kr_rfcat, kr_icat]) (by decide) d_W_stepUp_25 ?_
      refine r_iconst (v := (3 : Int32)) (by decide) d_W_stepUp_27 ?_
      cases h
      exact r_iret rfl d_W_stepUp_28
    replace h2 := kr_in_ c2 h2
    cases h2
/-! KeyringCourtLaw.signOut(LKeyringCourt;I[J)I -/
def f_W_signOut (S : AS) (a0 : Option Nat) (a1 : Int32) (a2 : Option Nat) : Option (Int32 × AS) :=
  (kr_rv S 22 a0).bind fun u1 =>
  kr_bh (f_K_signOut S a0 a1) (fun E S2 => if E = "java/lang/IndexOutOfBoundsException" then
  some ((1 : Int32), S2)
  else if E = "java/lang/IllegalStateException" then
  some ((2 : Int32), S2)
  else none) fun v3 S2 =>
  (bJ S2 a2 (0 : Int32) v3.toInt64).bind fun S4 =>
  some ((0 : Int32), S4)
set_option maxRecDepth 20000 in
set_option maxHeartbeats 4000000 in
theorem s_W_signOut {S : AS} {a0 : Option Nat} {a1 : Int32} {a2 : Option Nat} {r : (Int32 × AS)} (h : f_W_signOut S a0 a1 a2 = some r) : kr_Con m_W_signOut 12 [va_rf a0, .int a1, va_rf a2] S (kr_eI r) := by
  refine kr_conH rfl (by decide) (by decide +kernel) (by simp [lg_sl, kr_rfcat, kr_icat, m_W_signOut, mL]) ?_
  rw [show lv_args 0 [va_rf a0, .int a1, va_rf a2] = [(0, va_rf a0), (1, .int a1), (2, va_rf a2)] from by simp [lv_args, kr_rfcat, kr_icat]]
  unfold f_W_signOut at h
  refine r_aload_n (i := 2) (x := a2) 2 rfl d_W_signOut_0 ?_
  refine r_iconst (v := (0 : Int32)) (by decide) d_W_signOut_1 ?_
  refine r_aload_n (i := 0) (x := a0) 0 rfl d_W_signOut_2 ?_
  refine r_iload_n (i := 1) (x := a1) 1 rfl d_W_signOut_3 ?_
  have h2 := kr_ob h
  clear h
  obtain ⟨⟨⟩, eu1, h⟩ := h2
  rcases kr_obh h with ⟨v3, S2, eS2, h2⟩ | ⟨E, S2, eS2, h2⟩
  · clear h
    have h := h2
    clear h2
    refine r_callV (M1 := m_K_signOut) (κ := 22) (As := [.int a1]) eu1 (s_K_signOut eS2) mok_K_signOut rfl (by decide) rfl w1032 w1033 w1034 (by decide) (kr_c8 (kr_cI (kr_cR kr_c0))) d_W_signOut_4 (kr_k1 ?_) kr_kn
    refine r_i2l d_W_signOut_7 ?_
    have h2 := kr_ob h
    clear h
    obtain ⟨S4, eS4, h⟩ := h2
    refine r_lastore eS4 d_W_signOut_8 ?_
    refine r_goto (tgt := 18) d_W_signOut_9 rfl ?_
    refine r_iconst (v := (0 : Int32)) (by decide) d_W_signOut_18 ?_
    cases h
    exact r_iret rfl d_W_signOut_19
  · by_cases c0 : E = "java/lang/IndexOutOfBoundsException"
    · subst c0
      replace h2 := kr_ip rfl h2
      clear h
      have h := h2
      clear h2
      refine r_callV (M1 := m_K_signOut) (κ := 22) (As := [.int a1]) eu1 (s_K_signOut eS2) mok_K_signOut rfl (by decide) rfl w1032 w1033 w1034 (by decide) (kr_c8 (kr_cI (kr_cR kr_c0))) d_W_signOut_4 kr_nk (kr_kx ?_)
      refine r_catch_n (hd := (0, 9, 12, 21)) [] [(0, 9, 15, 15)] ⟨rfl, (fun _ hz => nomatch hz), ⟨by decide, by decide⟩, by decide, w554, w531⟩ (i := 3) (lv' := [(0, va_rf a0), (1, .int a1), (2, va_rf a2)]) (by show List.filter (fun (q : Nat × Value) => !(q.1 == 3) && !(q.1 + 1 == 3 && q.2.category == 2)) _ = _; simp [kr_rfcat, kr_icat]) (by decide) d_W_signOut_12 ?_
      refine r_iconst (v := (1 : Int32)) (by decide) d_W_signOut_13 ?_
      cases h
      exact r_iret rfl d_W_signOut_14
    replace h2 := kr_in_ c0 h2
    by_cases c1 : E = "java/lang/IllegalStateException"
    · subst c1
      replace h2 := kr_ip rfl h2
      clear h
      have h := h2
      clear h2
      refine r_callV (M1 := m_K_signOut) (κ := 22) (As := [.int a1]) eu1 (s_K_signOut eS2) mok_K_signOut rfl (by decide) rfl w1032 w1033 w1034 (by decide) (kr_c8 (kr_cI (kr_cR kr_c0))) d_W_signOut_4 kr_nk (kr_kx ?_)
      refine r_catch_n (hd := (0, 9, 15, 15)) [(0, 9, 12, 21)] [] ⟨rfl, (kr_pre ⟨"java/lang/IndexOutOfBoundsException", by decide, w554, by decide⟩ (fun _ hz => nomatch hz)), ⟨by decide, by decide⟩, by decide, w368, w447⟩ (i := 3) (lv' := [(0, va_rf a0), (1, .int a1), (2, va_rf a2)]) (by show List.filter (fun (q : Nat × Value) => !(q.1 == 3) && !(q.1 + 1 == 3 && q.2.category == 2)) _ = _; simp [kr_rfcat, kr_icat]) (by decide) d_W_signOut_15 ?_
      refine r_iconst (v := (2 : Int32)) (by decide) d_W_signOut_16 ?_
      cases h
      exact r_iret rfl d_W_signOut_17
    replace h2 := kr_in_ c1 h2
    cases h2
/-! KeyringCourtLaw.helper(LKeyringCourt;I[J)I -/
def f_W_helper_B15 (S : AS) (y0 : Option Nat) (y1 : Int32) (y2 : Int64) : Option (Int32 × AS) :=
  (bJ S y0 y1 y2).bind fun S1 =>
  some ((0 : Int32), S1)
def f_W_helper (S : AS) (a0 : Option Nat) (a1 : Int32) (a2 : Option Nat) : Option (Int32 × AS) :=
  (kr_rv S 22 a0).bind fun u2 =>
  kr_bh (f_K_helper S a0 a1) (fun E S3 => if E = "java/lang/IndexOutOfBoundsException" then
  some ((1 : Int32), S3)
  else none) fun v4 S3 =>
  if v4 = 0 then
  f_W_helper_B15 S3 a2 (0 : Int32) (0 : Int64)
  else
  f_W_helper_B15 S3 a2 (0 : Int32) (1 : Int64)
set_option maxRecDepth 20000 in
set_option maxHeartbeats 4000000 in
theorem s_W_helper_B15 {S : AS} {y0 : Option Nat} {y1 : Int32} {y2 : Int64} {r : (Int32 × AS)} (h : f_W_helper_B15 S y0 y1 y2 = some r) : kr_AW m_W_helper 9 15 [] [.long y2, .int y1, va_rf y0] S (kr_eI r) := by
  unfold f_W_helper_B15 at h
  have h2 := kr_ob h
  clear h
  obtain ⟨S1, eS1, h⟩ := h2
  refine r_lastore eS1 d_W_helper_15 ?_
  refine r_goto (tgt := 22) d_W_helper_16 rfl ?_
  refine r_iconst (v := (0 : Int32)) (by decide) d_W_helper_22 ?_
  cases h
  exact r_iret rfl d_W_helper_23
set_option maxRecDepth 20000 in
set_option maxHeartbeats 4000000 in
theorem s_W_helper {S : AS} {a0 : Option Nat} {a1 : Int32} {a2 : Option Nat} {r : (Int32 × AS)} (h : f_W_helper S a0 a1 a2 = some r) : kr_Con m_W_helper 9 [va_rf a0, .int a1, va_rf a2] S (kr_eI r) := by
  refine kr_conH rfl (by decide) (by decide +kernel) (by simp [lg_sl, kr_rfcat, kr_icat, m_W_helper, mL]) ?_
  rw [show lv_args 0 [va_rf a0, .int a1, va_rf a2] = [(0, va_rf a0), (1, .int a1), (2, va_rf a2)] from by simp [lv_args, kr_rfcat, kr_icat]]
  unfold f_W_helper at h
  refine r_aload_n (i := 2) (x := a2) 2 rfl d_W_helper_0 ?_
  refine r_iconst (v := (0 : Int32)) (by decide) d_W_helper_1 ?_
  refine r_aload_n (i := 0) (x := a0) 0 rfl d_W_helper_2 ?_
  refine r_iload_n (i := 1) (x := a1) 1 rfl d_W_helper_3 ?_
  have h2 := kr_ob h
  clear h
  obtain ⟨⟨⟩, eu2, h⟩ := h2
  rcases kr_obh h with ⟨v4, S3, eS3, h2⟩ | ⟨E, S3, eS3, h2⟩
  · clear h
    have h := h2
    clear h2
    refine r_callV (M1 := m_K_helper) (κ := 22) (As := [.int a1]) eu2 (s_K_helper eS3) mok_K_helper rfl (by decide) rfl w1039 w1040 w1041 (by decide) (kr_c8 (kr_cI (kr_cR kr_c0))) d_W_helper_4 (kr_k1 ?_) kr_kn
    refine r_if_eq (tgt := 14) d_W_helper_7 rfl (fun c => ?_) (fun c => ?_)
    · replace h := kr_ip c h
      refine r_lconst (v := (0 : Int64)) (by decide) d_W_helper_14 ?_
      exact kr_sub [] rfl (s_W_helper_B15 h)
    · replace h := kr_in_ c h
      refine r_lconst (v := (1 : Int64)) (by decide) d_W_helper_10 ?_
      refine r_goto (tgt := 15) d_W_helper_11 rfl ?_
      exact kr_sub [] rfl (s_W_helper_B15 h)
  · by_cases c0 : E = "java/lang/IndexOutOfBoundsException"
    · subst c0
      replace h2 := kr_ip rfl h2
      clear h
      have h := h2
      clear h2
      refine r_callV (M1 := m_K_helper) (κ := 22) (As := [.int a1]) eu2 (s_K_helper eS3) mok_K_helper rfl (by decide) rfl w1039 w1040 w1041 (by decide) (kr_c8 (kr_cI (kr_cR kr_c0))) d_W_helper_4 kr_nk (kr_kx ?_)
      refine r_catch_n (hd := (0, 16, 19, 21)) [] [] ⟨rfl, (fun _ hz => nomatch hz), ⟨by decide, by decide⟩, by decide, w554, w531⟩ (i := 3) (lv' := [(0, va_rf a0), (1, .int a1), (2, va_rf a2)]) (by show List.filter (fun (q : Nat × Value) => !(q.1 == 3) && !(q.1 + 1 == 3 && q.2.category == 2)) _ = _; simp [kr_rfcat, kr_icat]) (by decide) d_W_helper_19 ?_
      refine r_iconst (v := (1 : Int32)) (by decide) d_W_helper_20 ?_
      cases h
      exact r_iret rfl d_W_helper_21
    replace h2 := kr_in_ c0 h2
    cases h2
/-! KeyringCourtLaw.act(LKeyringCourt;II[J)I -/
def f_W_act (S : AS) (a0 : Option Nat) (a1 : Int32) (a2 : Int32) (a3 : Option Nat) : Option (Int32 × AS) :=
  (kr_rv S 22 a0).bind fun u1 =>
  kr_bh (f_K_act S a0 a1 a2) (fun E S2 => if E = "java/lang/IndexOutOfBoundsException" then
  some ((1 : Int32), S2)
  else if E = "java/lang/IllegalStateException" then
  some ((2 : Int32), S2)
  else none) fun v3 S2 =>
  (bJ S2 a3 (0 : Int32) v3.toInt64).bind fun S4 =>
  some ((0 : Int32), S4)
set_option maxRecDepth 20000 in
set_option maxHeartbeats 4000000 in
theorem s_W_act {S : AS} {a0 : Option Nat} {a1 : Int32} {a2 : Int32} {a3 : Option Nat} {r : (Int32 × AS)} (h : f_W_act S a0 a1 a2 a3 = some r) : kr_Con m_W_act 10 [va_rf a0, .int a1, .int a2, va_rf a3] S (kr_eI r) := by
  refine kr_conH rfl (by decide) (by decide +kernel) (by simp [lg_sl, kr_rfcat, kr_icat, m_W_act, mL]) ?_
  rw [show lv_args 0 [va_rf a0, .int a1, .int a2, va_rf a3] = [(0, va_rf a0), (1, .int a1), (2, .int a2), (3, va_rf a3)] from by simp [lv_args, kr_rfcat, kr_icat]]
  unfold f_W_act at h
  refine r_aload_n (i := 3) (x := a3) 3 rfl d_W_act_0 ?_
  refine r_iconst (v := (0 : Int32)) (by decide) d_W_act_1 ?_
  refine r_aload_n (i := 0) (x := a0) 0 rfl d_W_act_2 ?_
  refine r_iload_n (i := 1) (x := a1) 1 rfl d_W_act_3 ?_
  refine r_iload_n (i := 2) (x := a2) 2 rfl d_W_act_4 ?_
  have h2 := kr_ob h
  clear h
  obtain ⟨⟨⟩, eu1, h⟩ := h2
  rcases kr_obh h with ⟨v3, S2, eS2, h2⟩ | ⟨E, S2, eS2, h2⟩
  · clear h
    have h := h2
    clear h2
    refine r_callV (M1 := m_K_act) (κ := 22) (As := [.int a1, .int a2]) eu1 (s_K_act eS2) mok_K_act rfl (by decide) rfl w1046 w1047 w1048 (by decide) (kr_c8 (kr_cI (kr_cR kr_c0))) d_W_act_5 (kr_k1 ?_) kr_kn
    refine r_i2l d_W_act_8 ?_
    have h2 := kr_ob h
    clear h
    obtain ⟨S4, eS4, h⟩ := h2
    refine r_lastore eS4 d_W_act_9 ?_
    refine r_goto (tgt := 21) d_W_act_10 rfl ?_
    refine r_iconst (v := (0 : Int32)) (by decide) d_W_act_21 ?_
    cases h
    exact r_iret rfl d_W_act_22
  · by_cases c0 : E = "java/lang/IndexOutOfBoundsException"
    · subst c0
      replace h2 := kr_ip rfl h2
      clear h
      have h := h2
      clear h2
      refine r_callV (M1 := m_K_act) (κ := 22) (As := [.int a1, .int a2]) eu1 (s_K_act eS2) mok_K_act rfl (by decide) rfl w1046 w1047 w1048 (by decide) (kr_c8 (kr_cI (kr_cR kr_c0))) d_W_act_5 kr_nk (kr_kx ?_)
      refine r_catch (hd := (0, 10, 13, 21)) [] [(0, 10, 17, 15)] ⟨rfl, (fun _ hz => nomatch hz), ⟨by decide, by decide⟩, by decide, w554, w531⟩ (i := 4) (lv' := [(0, va_rf a0), (1, .int a1), (2, .int a2), (3, va_rf a3)]) (by show List.filter (fun (q : Nat × Value) => !(q.1 == 4) && !(q.1 + 1 == 4 && q.2.category == 2)) _ = _; simp [kr_rfcat, kr_icat]) (by decide) d_W_act_13 ?_
      refine r_iconst (v := (1 : Int32)) (by decide) d_W_act_15 ?_
      cases h
      exact r_iret rfl d_W_act_16
    replace h2 := kr_in_ c0 h2
    by_cases c1 : E = "java/lang/IllegalStateException"
    · subst c1
      replace h2 := kr_ip rfl h2
      clear h
      have h := h2
      clear h2
      refine r_callV (M1 := m_K_act) (κ := 22) (As := [.int a1, .int a2]) eu1 (s_K_act eS2) mok_K_act rfl (by decide) rfl w1046 w1047 w1048 (by decide) (kr_c8 (kr_cI (kr_cR kr_c0))) d_W_act_5 kr_nk (kr_kx ?_)
      refine r_catch (hd := (0, 10, 17, 15)) [(0, 10, 13, 21)] [] ⟨rfl, (kr_pre ⟨"java/lang/IndexOutOfBoundsException", by decide, w554, by decide⟩ (fun _ hz => nomatch hz)), ⟨by decide, by decide⟩, by decide, w368, w447⟩ (i := 4) (lv' := [(0, va_rf a0), (1, .int a1), (2, .int a2), (3, va_rf a3)]) (by show List.filter (fun (q : Nat × Value) => !(q.1 == 4) && !(q.1 + 1 == 4 && q.2.category == 2)) _ = _; simp [kr_rfcat, kr_icat]) (by decide) d_W_act_17 ?_
      refine r_iconst (v := (2 : Int32)) (by decide) d_W_act_19 ?_
      cases h
      exact r_iret rfl d_W_act_20
    replace h2 := kr_in_ c1 h2
    cases h2
/-! KeyringCourtLaw.consent(LKeyringCourt;III[J)I -/
def f_W_consent (S : AS) (a0 : Option Nat) (a1 : Int32) (a2 : Int32) (a3 : Int32) (a4 : Option Nat) : Option (Int32 × AS) :=
  (kr_rv S 22 a0).bind fun u1 =>
  kr_bh (f_K_consent S a0 a1 a2 a3) (fun E S2 => if E = "java/lang/IndexOutOfBoundsException" then
  some ((1 : Int32), S2)
  else if E = "java/lang/IllegalArgumentException" then
  some ((2 : Int32), S2)
  else none) fun v3 S2 =>
  (bJ S2 a4 (0 : Int32) v3.toInt64).bind fun S4 =>
  some ((0 : Int32), S4)
set_option maxRecDepth 20000 in
set_option maxHeartbeats 4000000 in
theorem s_W_consent {S : AS} {a0 : Option Nat} {a1 : Int32} {a2 : Int32} {a3 : Int32} {a4 : Option Nat} {r : (Int32 × AS)} (h : f_W_consent S a0 a1 a2 a3 a4 = some r) : kr_Con m_W_consent 9 [va_rf a0, .int a1, .int a2, .int a3, va_rf a4] S (kr_eI r) := by
  refine kr_conH rfl (by decide) (by decide +kernel) (by simp [lg_sl, kr_rfcat, kr_icat, m_W_consent, mL]) ?_
  rw [show lv_args 0 [va_rf a0, .int a1, .int a2, .int a3, va_rf a4] = [(0, va_rf a0), (1, .int a1), (2, .int a2), (3, .int a3), (4, va_rf a4)] from by simp [lv_args, kr_rfcat, kr_icat]]
  unfold f_W_consent at h
  refine r_aload (i := 4) (x := a4) 4 rfl d_W_consent_0 ?_
  refine r_iconst (v := (0 : Int32)) (by decide) d_W_consent_2 ?_
  refine r_aload_n (i := 0) (x := a0) 0 rfl d_W_consent_3 ?_
  refine r_iload_n (i := 1) (x := a1) 1 rfl d_W_consent_4 ?_
  refine r_iload_n (i := 2) (x := a2) 2 rfl d_W_consent_5 ?_
  refine r_iload_n (i := 3) (x := a3) 3 rfl d_W_consent_6 ?_
  have h2 := kr_ob h
  clear h
  obtain ⟨⟨⟩, eu1, h⟩ := h2
  rcases kr_obh h with ⟨v3, S2, eS2, h2⟩ | ⟨E, S2, eS2, h2⟩
  · clear h
    have h := h2
    clear h2
    refine r_callV (M1 := m_K_consent) (κ := 22) (As := [.int a1, .int a2, .int a3]) eu1 (s_K_consent eS2) mok_K_consent rfl (by decide) rfl w1053 w1054 w1055 (by decide) (kr_c8 (kr_cI (kr_cR kr_c0))) d_W_consent_7 (kr_k1 ?_) kr_kn
    refine r_i2l d_W_consent_10 ?_
    have h2 := kr_ob h
    clear h
    obtain ⟨S4, eS4, h⟩ := h2
    refine r_lastore eS4 d_W_consent_11 ?_
    refine r_goto (tgt := 23) d_W_consent_12 rfl ?_
    refine r_iconst (v := (0 : Int32)) (by decide) d_W_consent_23 ?_
    cases h
    exact r_iret rfl d_W_consent_24
  · by_cases c0 : E = "java/lang/IndexOutOfBoundsException"
    · subst c0
      replace h2 := kr_ip rfl h2
      clear h
      have h := h2
      clear h2
      refine r_callV (M1 := m_K_consent) (κ := 22) (As := [.int a1, .int a2, .int a3]) eu1 (s_K_consent eS2) mok_K_consent rfl (by decide) rfl w1053 w1054 w1055 (by decide) (kr_c8 (kr_cI (kr_cR kr_c0))) d_W_consent_7 kr_nk (kr_kx ?_)
      refine r_catch (hd := (0, 12, 15, 21)) [] [(0, 12, 19, 13)] ⟨rfl, (fun _ hz => nomatch hz), ⟨by decide, by decide⟩, by decide, w554, w531⟩ (i := 5) (lv' := [(0, va_rf a0), (1, .int a1), (2, .int a2), (3, .int a3), (4, va_rf a4)]) (by show List.filter (fun (q : Nat × Value) => !(q.1 == 5) && !(q.1 + 1 == 5 && q.2.category == 2)) _ = _; simp [kr_rfcat, kr_icat]) (by decide) d_W_consent_15 ?_
      refine r_iconst (v := (1 : Int32)) (by decide) d_W_consent_17 ?_
      cases h
      exact r_iret rfl d_W_consent_18
    replace h2 := kr_in_ c0 h2
    by_cases c1 : E = "java/lang/IllegalArgumentException"
    · subst c1
      replace h2 := kr_ip rfl h2
      clear h
      have h := h2
      clear h2
      refine r_callV (M1 := m_K_consent) (κ := 22) (As := [.int a1, .int a2, .int a3]) eu1 (s_K_consent eS2) mok_K_consent rfl (by decide) rfl w1053 w1054 w1055 (by decide) (kr_c8 (kr_cI (kr_cR kr_c0))) d_W_consent_7 kr_nk (kr_kx ?_)
      refine r_catch (hd := (0, 12, 19, 13)) [(0, 12, 15, 21)] [] ⟨rfl, (kr_pre ⟨"java/lang/IndexOutOfBoundsException", by decide, w554, by decide⟩ (fun _ hz => nomatch hz)), ⟨by decide, by decide⟩, by decide, w367, w381⟩ (i := 5) (lv' := [(0, va_rf a0), (1, .int a1), (2, .int a2), (3, .int a3), (4, va_rf a4)]) (by show List.filter (fun (q : Nat × Value) => !(q.1 == 5) && !(q.1 + 1 == 5 && q.2.category == 2)) _ = _; simp [kr_rfcat, kr_icat]) (by decide) d_W_consent_19 ?_
      refine r_iconst (v := (2 : Int32)) (by decide) d_W_consent_21 ?_
      cases h
      exact r_iret rfl d_W_consent_22
    replace h2 := kr_in_ c1 h2
    cases h2
/-! KeyringCourtLaw.withdraw(LKeyringCourt;II[J)I -/
def f_W_withdraw (S : AS) (a0 : Option Nat) (a1 : Int32) (a2 : Int32) (a3 : Option Nat) : Option (Int32 × AS) :=
  (kr_rv S 22 a0).bind fun u1 =>
  kr_bh (f_K_withdraw S a0 a1 a2) (fun E S2 => if E = "java/lang/IndexOutOfBoundsException" then
  some ((1 : Int32), S2)
  else none) fun v3 S2 =>
  (bJ S2 a3 (0 : Int32) v3.toInt64).bind fun S4 =>
  some ((0 : Int32), S4)
set_option maxRecDepth 20000 in
set_option maxHeartbeats 4000000 in
theorem s_W_withdraw {S : AS} {a0 : Option Nat} {a1 : Int32} {a2 : Int32} {a3 : Option Nat} {r : (Int32 × AS)} (h : f_W_withdraw S a0 a1 a2 a3 = some r) : kr_Con m_W_withdraw 10 [va_rf a0, .int a1, .int a2, va_rf a3] S (kr_eI r) := by
  refine kr_conH rfl (by decide) (by decide +kernel) (by simp [lg_sl, kr_rfcat, kr_icat, m_W_withdraw, mL]) ?_
  rw [show lv_args 0 [va_rf a0, .int a1, .int a2, va_rf a3] = [(0, va_rf a0), (1, .int a1), (2, .int a2), (3, va_rf a3)] from by simp [lv_args, kr_rfcat, kr_icat]]
  unfold f_W_withdraw at h
  refine r_aload_n (i := 3) (x := a3) 3 rfl d_W_withdraw_0 ?_
  refine r_iconst (v := (0 : Int32)) (by decide) d_W_withdraw_1 ?_
  refine r_aload_n (i := 0) (x := a0) 0 rfl d_W_withdraw_2 ?_
  refine r_iload_n (i := 1) (x := a1) 1 rfl d_W_withdraw_3 ?_
  refine r_iload_n (i := 2) (x := a2) 2 rfl d_W_withdraw_4 ?_
  have h2 := kr_ob h
  clear h
  obtain ⟨⟨⟩, eu1, h⟩ := h2
  rcases kr_obh h with ⟨v3, S2, eS2, h2⟩ | ⟨E, S2, eS2, h2⟩
  · clear h
    have h := h2
    clear h2
    refine r_callV (M1 := m_K_withdraw) (κ := 22) (As := [.int a1, .int a2]) eu1 (s_K_withdraw eS2) mok_K_withdraw rfl (by decide) rfl w1060 w1061 w1062 (by decide) (kr_c8 (kr_cI (kr_cR kr_c0))) d_W_withdraw_5 (kr_k1 ?_) kr_kn
    refine r_i2l d_W_withdraw_8 ?_
    have h2 := kr_ob h
    clear h
    obtain ⟨S4, eS4, h⟩ := h2
    refine r_lastore eS4 d_W_withdraw_9 ?_
    refine r_goto (tgt := 17) d_W_withdraw_10 rfl ?_
    refine r_iconst (v := (0 : Int32)) (by decide) d_W_withdraw_17 ?_
    cases h
    exact r_iret rfl d_W_withdraw_18
  · by_cases c0 : E = "java/lang/IndexOutOfBoundsException"
    · subst c0
      replace h2 := kr_ip rfl h2
      clear h
      have h := h2
      clear h2
      refine r_callV (M1 := m_K_withdraw) (κ := 22) (As := [.int a1, .int a2]) eu1 (s_K_withdraw eS2) mok_K_withdraw rfl (by decide) rfl w1060 w1061 w1062 (by decide) (kr_c8 (kr_cI (kr_cR kr_c0))) d_W_withdraw_5 kr_nk (kr_kx ?_)
      refine r_catch (hd := (0, 10, 13, 21)) [] [] ⟨rfl, (fun _ hz => nomatch hz), ⟨by decide, by decide⟩, by decide, w554, w531⟩ (i := 4) (lv' := [(0, va_rf a0), (1, .int a1), (2, .int a2), (3, va_rf a3)]) (by show List.filter (fun (q : Nat × Value) => !(q.1 == 4) && !(q.1 + 1 == 4 && q.2.category == 2)) _ = _; simp [kr_rfcat, kr_icat]) (by decide) d_W_withdraw_13 ?_
      refine r_iconst (v := (1 : Int32)) (by decide) d_W_withdraw_15 ?_
      cases h
      exact r_iret rfl d_W_withdraw_16
    replace h2 := kr_in_ c0 h2
    cases h2
/-! KeyringCourtLaw.need(LKeyringCourt;II[J)I -/
def f_W_need (S : AS) (a0 : Option Nat) (a1 : Int32) (a2 : Int32) (a3 : Option Nat) : Option (Int32 × AS) :=
  (kr_rv S 22 a0).bind fun u1 =>
  kr_bh (f_K_need S a0 a1 a2) (fun E S2 => if E = "java/lang/IndexOutOfBoundsException" then
  some ((1 : Int32), S2)
  else if E = "java/lang/IllegalArgumentException" then
  some ((2 : Int32), S2)
  else none) fun v3 S2 =>
  (bJ S2 a3 (0 : Int32) v3.toInt64).bind fun S4 =>
  some ((0 : Int32), S4)
set_option maxRecDepth 20000 in
set_option maxHeartbeats 4000000 in
theorem s_W_need {S : AS} {a0 : Option Nat} {a1 : Int32} {a2 : Int32} {a3 : Option Nat} {r : (Int32 × AS)} (h : f_W_need S a0 a1 a2 a3 = some r) : kr_Con m_W_need 9 [va_rf a0, .int a1, .int a2, va_rf a3] S (kr_eI r) := by
  refine kr_conH rfl (by decide) (by decide +kernel) (by simp [lg_sl, kr_rfcat, kr_icat, m_W_need, mL]) ?_
  rw [show lv_args 0 [va_rf a0, .int a1, .int a2, va_rf a3] = [(0, va_rf a0), (1, .int a1), (2, .int a2), (3, va_rf a3)] from by simp [lv_args, kr_rfcat, kr_icat]]
  unfold f_W_need at h
  refine r_aload_n (i := 3) (x := a3) 3 rfl d_W_need_0 ?_
  refine r_iconst (v := (0 : Int32)) (by decide) d_W_need_1 ?_
  refine r_aload_n (i := 0) (x := a0) 0 rfl d_W_need_2 ?_
  refine r_iload_n (i := 1) (x := a1) 1 rfl d_W_need_3 ?_
  refine r_iload_n (i := 2) (x := a2) 2 rfl d_W_need_4 ?_
  have h2 := kr_ob h
  clear h
  obtain ⟨⟨⟩, eu1, h⟩ := h2
  rcases kr_obh h with ⟨v3, S2, eS2, h2⟩ | ⟨E, S2, eS2, h2⟩
  · clear h
    have h := h2
    clear h2
    refine r_callV (M1 := m_K_need) (κ := 22) (As := [.int a1, .int a2]) eu1 (s_K_need eS2) mok_K_need rfl (by decide) rfl w1067 w1068 w1069 (by decide) (kr_c8 (kr_cI (kr_cR kr_c0))) d_W_need_5 (kr_k1 ?_) kr_kn
    refine r_i2l d_W_need_8 ?_
    have h2 := kr_ob h
    clear h
    obtain ⟨S4, eS4, h⟩ := h2
    refine r_lastore eS4 d_W_need_9 ?_
    refine r_goto (tgt := 21) d_W_need_10 rfl ?_
    refine r_iconst (v := (0 : Int32)) (by decide) d_W_need_21 ?_
    cases h
    exact r_iret rfl d_W_need_22
  · by_cases c0 : E = "java/lang/IndexOutOfBoundsException"
    · subst c0
      replace h2 := kr_ip rfl h2
      clear h
      have h := h2
      clear h2
      refine r_callV (M1 := m_K_need) (κ := 22) (As := [.int a1, .int a2]) eu1 (s_K_need eS2) mok_K_need rfl (by decide) rfl w1067 w1068 w1069 (by decide) (kr_c8 (kr_cI (kr_cR kr_c0))) d_W_need_5 kr_nk (kr_kx ?_)
      refine r_catch (hd := (0, 10, 13, 21)) [] [(0, 10, 17, 13)] ⟨rfl, (fun _ hz => nomatch hz), ⟨by decide, by decide⟩, by decide, w554, w531⟩ (i := 4) (lv' := [(0, va_rf a0), (1, .int a1), (2, .int a2), (3, va_rf a3)]) (by show List.filter (fun (q : Nat × Value) => !(q.1 == 4) && !(q.1 + 1 == 4 && q.2.category == 2)) _ = _; simp [kr_rfcat, kr_icat]) (by decide) d_W_need_13 ?_
      refine r_iconst (v := (1 : Int32)) (by decide) d_W_need_15 ?_
      cases h
      exact r_iret rfl d_W_need_16
    replace h2 := kr_in_ c0 h2
    by_cases c1 : E = "java/lang/IllegalArgumentException"
    · subst c1
      replace h2 := kr_ip rfl h2
      clear h
      have h := h2
      clear h2
      refine r_callV (M1 := m_K_need) (κ := 22) (As := [.int a1, .int a2]) eu1 (s_K_need eS2) mok_K_need rfl (by decide) rfl w1067 w1068 w1069 (by decide) (kr_c8 (kr_cI (kr_cR kr_c0))) d_W_need_5 kr_nk (kr_kx ?_)
      refine r_catch (hd := (0, 10, 17, 13)) [(0, 10, 13, 21)] [] ⟨rfl, (kr_pre ⟨"java/lang/IndexOutOfBoundsException", by decide, w554, by decide⟩ (fun _ hz => nomatch hz)), ⟨by decide, by decide⟩, by decide, w367, w381⟩ (i := 4) (lv' := [(0, va_rf a0), (1, .int a1), (2, .int a2), (3, va_rf a3)]) (by show List.filter (fun (q : Nat × Value) => !(q.1 == 4) && !(q.1 + 1 == 4 && q.2.category == 2)) _ = _; simp [kr_rfcat, kr_icat]) (by decide) d_W_need_17 ?_
      refine r_iconst (v := (2 : Int32)) (by decide) d_W_need_19 ?_
      cases h
      exact r_iret rfl d_W_need_20
    replace h2 := kr_in_ c1 h2
    cases h2
/-! KeyringCourtLaw.authorize(LKeyringCourt;IIII[J)I -/
def f_W_authorize (S : AS) (a0 : Option Nat) (a1 : Int32) (a2 : Int32) (a3 : Int32) (a4 : Int32) (a5 : Option Nat) : Option (Int32 × AS) :=
  (kr_rv S 22 a0).bind fun u1 =>
  kr_bh (f_K_authorize S a0 a1 a2 a3 a4) (fun E S2 => if E = "java/lang/IndexOutOfBoundsException" then
  some ((1 : Int32), S2)
  else if E = "java/lang/IllegalArgumentException" then
  some ((2 : Int32), S2)
  else if E = "java/lang/IllegalStateException" then
  some ((3 : Int32), S2)
  else none) fun v3 S2 =>
  (bJ S2 a5 (0 : Int32) v3.toInt64).bind fun S4 =>
  some ((0 : Int32), S4)
set_option maxRecDepth 20000 in
set_option maxHeartbeats 4000000 in
theorem s_W_authorize {S : AS} {a0 : Option Nat} {a1 : Int32} {a2 : Int32} {a3 : Int32} {a4 : Int32} {a5 : Option Nat} {r : (Int32 × AS)} (h : f_W_authorize S a0 a1 a2 a3 a4 a5 = some r) : kr_Con m_W_authorize 10 [va_rf a0, .int a1, .int a2, .int a3, .int a4, va_rf a5] S (kr_eI r) := by
  refine kr_conH rfl (by decide) (by decide +kernel) (by simp [lg_sl, kr_rfcat, kr_icat, m_W_authorize, mL]) ?_
  rw [show lv_args 0 [va_rf a0, .int a1, .int a2, .int a3, .int a4, va_rf a5] = [(0, va_rf a0), (1, .int a1), (2, .int a2), (3, .int a3), (4, .int a4), (5, va_rf a5)] from by simp [lv_args, kr_rfcat, kr_icat]]
  unfold f_W_authorize at h
  refine r_aload (i := 5) (x := a5) 5 rfl d_W_authorize_0 ?_
  refine r_iconst (v := (0 : Int32)) (by decide) d_W_authorize_2 ?_
  refine r_aload_n (i := 0) (x := a0) 0 rfl d_W_authorize_3 ?_
  refine r_iload_n (i := 1) (x := a1) 1 rfl d_W_authorize_4 ?_
  refine r_iload_n (i := 2) (x := a2) 2 rfl d_W_authorize_5 ?_
  refine r_iload_n (i := 3) (x := a3) 3 rfl d_W_authorize_6 ?_
  refine r_iload (i := 4) (x := a4) 4 rfl d_W_authorize_7 ?_
  have h2 := kr_ob h
  clear h
  obtain ⟨⟨⟩, eu1, h⟩ := h2
  rcases kr_obh h with ⟨v3, S2, eS2, h2⟩ | ⟨E, S2, eS2, h2⟩
  · clear h
    have h := h2
    clear h2
    refine r_callV (M1 := m_K_authorize) (κ := 22) (As := [.int a1, .int a2, .int a3, .int a4]) eu1 (s_K_authorize eS2) mok_K_authorize rfl (by decide) rfl w1074 w1075 w1076 (by decide) (kr_c8 (kr_cI (kr_cR kr_c0))) d_W_authorize_9 (kr_k1 ?_) kr_kn
    refine r_i2l d_W_authorize_12 ?_
    have h2 := kr_ob h
    clear h
    obtain ⟨S4, eS4, h⟩ := h2
    refine r_lastore eS4 d_W_authorize_13 ?_
    refine r_goto (tgt := 29) d_W_authorize_14 rfl ?_
    refine r_iconst (v := (0 : Int32)) (by decide) d_W_authorize_29 ?_
    cases h
    exact r_iret rfl d_W_authorize_30
  · by_cases c0 : E = "java/lang/IndexOutOfBoundsException"
    · subst c0
      replace h2 := kr_ip rfl h2
      clear h
      have h := h2
      clear h2
      refine r_callV (M1 := m_K_authorize) (κ := 22) (As := [.int a1, .int a2, .int a3, .int a4]) eu1 (s_K_authorize eS2) mok_K_authorize rfl (by decide) rfl w1074 w1075 w1076 (by decide) (kr_c8 (kr_cI (kr_cR kr_c0))) d_W_authorize_9 kr_nk (kr_kx ?_)
      refine r_catch (hd := (0, 14, 17, 21)) [] [(0, 14, 21, 13), (0, 14, 25, 15)] ⟨rfl, (fun _ hz => nomatch hz), ⟨by decide, by decide⟩, by decide, w554, w531⟩ (i := 6) (lv' := [(0, va_rf a0), (1, .int a1), (2, .int a2), (3, .int a3), (4, .int a4), (5, va_rf a5)]) (by show List.filter (fun (q : Nat × Value) => !(q.1 == 6) && !(q.1 + 1 == 6 && q.2.category == 2)) _ = _; simp [kr_rfcat, kr_icat]) (by decide) d_W_authorize_17 ?_
      refine r_iconst (v := (1 : Int32)) (by decide) d_W_authorize_19 ?_
      cases h
      exact r_iret rfl d_W_authorize_20
    replace h2 := kr_in_ c0 h2
    by_cases c1 : E = "java/lang/IllegalArgumentException"
    · subst c1
      replace h2 := kr_ip rfl h2
      clear h
      have h := h2
      clear h2
      refine r_callV (M1 := m_K_authorize) (κ := 22) (As := [.int a1, .int a2, .int a3, .int a4]) eu1 (s_K_authorize eS2) mok_K_authorize rfl (by decide) rfl w1074 w1075 w1076 (by decide) (kr_c8 (kr_cI (kr_cR kr_c0))) d_W_authorize_9 kr_nk (kr_kx ?_)
      refine r_catch (hd := (0, 14, 21, 13)) [(0, 14, 17, 21)] [(0, 14, 25, 15)] ⟨rfl, (kr_pre ⟨"java/lang/IndexOutOfBoundsException", by decide, w554, by decide⟩ (fun _ hz => nomatch hz)), ⟨by decide, by decide⟩, by decide, w367, w381⟩ (i := 6) (lv' := [(0, va_rf a0), (1, .int a1), (2, .int a2), (3, .int a3), (4, .int a4), (5, va_rf a5)]) (by show List.filter (fun (q : Nat × Value) => !(q.1 == 6) && !(q.1 + 1 == 6 && q.2.category == 2)) _ = _; simp [kr_rfcat, kr_icat]) (by decide) d_W_authorize_21 ?_
      refine r_iconst (v := (2 : Int32)) (by decide) d_W_authorize_23 ?_
      cases h
      exact r_iret rfl d_W_authorize_24
    replace h2 := kr_in_ c1 h2
    by_cases c2 : E = "java/lang/IllegalStateException"
    · subst c2
      replace h2 := kr_ip rfl h2
      clear h
      have h := h2
      clear h2
      refine r_callV (M1 := m_K_authorize) (κ := 22) (As := [.int a1, .int a2, .int a3, .int a4]) eu1 (s_K_authorize eS2) mok_K_authorize rfl (by decide) rfl w1074 w1075 w1076 (by decide) (kr_c8 (kr_cI (kr_cR kr_c0))) d_W_authorize_9 kr_nk (kr_kx ?_)
      refine r_catch (hd := (0, 14, 25, 15)) [(0, 14, 17, 21), (0, 14, 21, 13)] [] ⟨rfl, (kr_pre ⟨"java/lang/IndexOutOfBoundsException", by decide, w554, by decide⟩ (kr_pre ⟨"java/lang/IllegalArgumentException", by decide, w367, by decide⟩ (fun _ hz => nomatch hz))), ⟨by decide, by decide⟩, by decide, w368, w447⟩ (i := 6) (lv' := [(0, va_rf a0), (1, .int a1), (2, .int a2), (3, .int a3), (4, .int a4), (5, va_rf a5)]) (by show List.filter (fun (q : Nat × Value) => !(q.1 == 6) && !(q.1 + 1 == 6 && q.2.category == 2)) _ = _; simp [kr_rfcat, kr_icat]) (by decide) d_W_authorize_25 ?_
      refine r_iconst (v := (3 : Int32)) (by decide) d_W_authorize_27 ?_
      cases h
      exact r_iret rfl d_W_authorize_28
    replace h2 := kr_in_ c2 h2
    cases h2
/-! KeyringCourtLaw.redeem(LKeyringCourt;I[J)I -/
def f_W_redeem (S : AS) (a0 : Option Nat) (a1 : Int32) (a2 : Option Nat) : Option (Int32 × AS) :=
  (kr_rv S 22 a0).bind fun u1 =>
  kr_bh (f_K_redeem S a0 a1) (fun E S2 => if E = "java/lang/IndexOutOfBoundsException" then
  some ((1 : Int32), S2)
  else if E = "java/lang/IllegalStateException" then
  some ((2 : Int32), S2)
  else none) fun v3 S2 =>
  (bJ S2 a2 (0 : Int32) v3.toInt64).bind fun S4 =>
  some ((0 : Int32), S4)
set_option maxRecDepth 20000 in
set_option maxHeartbeats 4000000 in
theorem s_W_redeem {S : AS} {a0 : Option Nat} {a1 : Int32} {a2 : Option Nat} {r : (Int32 × AS)} (h : f_W_redeem S a0 a1 a2 = some r) : kr_Con m_W_redeem 11 [va_rf a0, .int a1, va_rf a2] S (kr_eI r) := by
  refine kr_conH rfl (by decide) (by decide +kernel) (by simp [lg_sl, kr_rfcat, kr_icat, m_W_redeem, mL]) ?_
  rw [show lv_args 0 [va_rf a0, .int a1, va_rf a2] = [(0, va_rf a0), (1, .int a1), (2, va_rf a2)] from by simp [lv_args, kr_rfcat, kr_icat]]
  unfold f_W_redeem at h
  refine r_aload_n (i := 2) (x := a2) 2 rfl d_W_redeem_0 ?_
  refine r_iconst (v := (0 : Int32)) (by decide) d_W_redeem_1 ?_
  refine r_aload_n (i := 0) (x := a0) 0 rfl d_W_redeem_2 ?_
  refine r_iload_n (i := 1) (x := a1) 1 rfl d_W_redeem_3 ?_
  have h2 := kr_ob h
  clear h
  obtain ⟨⟨⟩, eu1, h⟩ := h2
  rcases kr_obh h with ⟨v3, S2, eS2, h2⟩ | ⟨E, S2, eS2, h2⟩
  · clear h
    have h := h2
    clear h2
    refine r_callV (M1 := m_K_redeem) (κ := 22) (As := [.int a1]) eu1 (s_K_redeem eS2) mok_K_redeem rfl (by decide) rfl w1136 w1137 w1138 (by decide) (kr_c8 (kr_cI (kr_cR kr_c0))) d_W_redeem_4 (kr_k1 ?_) kr_kn
    refine r_i2l d_W_redeem_7 ?_
    have h2 := kr_ob h
    clear h
    obtain ⟨S4, eS4, h⟩ := h2
    refine r_lastore eS4 d_W_redeem_8 ?_
    refine r_goto (tgt := 18) d_W_redeem_9 rfl ?_
    refine r_iconst (v := (0 : Int32)) (by decide) d_W_redeem_18 ?_
    cases h
    exact r_iret rfl d_W_redeem_19
  · by_cases c0 : E = "java/lang/IndexOutOfBoundsException"
    · subst c0
      replace h2 := kr_ip rfl h2
      clear h
      have h := h2
      clear h2
      refine r_callV (M1 := m_K_redeem) (κ := 22) (As := [.int a1]) eu1 (s_K_redeem eS2) mok_K_redeem rfl (by decide) rfl w1136 w1137 w1138 (by decide) (kr_c8 (kr_cI (kr_cR kr_c0))) d_W_redeem_4 kr_nk (kr_kx ?_)
      refine r_catch_n (hd := (0, 9, 12, 21)) [] [(0, 9, 15, 15)] ⟨rfl, (fun _ hz => nomatch hz), ⟨by decide, by decide⟩, by decide, w554, w531⟩ (i := 3) (lv' := [(0, va_rf a0), (1, .int a1), (2, va_rf a2)]) (by show List.filter (fun (q : Nat × Value) => !(q.1 == 3) && !(q.1 + 1 == 3 && q.2.category == 2)) _ = _; simp [kr_rfcat, kr_icat]) (by decide) d_W_redeem_12 ?_
      refine r_iconst (v := (1 : Int32)) (by decide) d_W_redeem_13 ?_
      cases h
      exact r_iret rfl d_W_redeem_14
    replace h2 := kr_in_ c0 h2
    by_cases c1 : E = "java/lang/IllegalStateException"
    · subst c1
      replace h2 := kr_ip rfl h2
      clear h
      have h := h2
      clear h2
      refine r_callV (M1 := m_K_redeem) (κ := 22) (As := [.int a1]) eu1 (s_K_redeem eS2) mok_K_redeem rfl (by decide) rfl w1136 w1137 w1138 (by decide) (kr_c8 (kr_cI (kr_cR kr_c0))) d_W_redeem_4 kr_nk (kr_kx ?_)
      refine r_catch_n (hd := (0, 9, 15, 15)) [(0, 9, 12, 21)] [] ⟨rfl, (kr_pre ⟨"java/lang/IndexOutOfBoundsException", by decide, w554, by decide⟩ (fun _ hz => nomatch hz)), ⟨by decide, by decide⟩, by decide, w368, w447⟩ (i := 3) (lv' := [(0, va_rf a0), (1, .int a1), (2, va_rf a2)]) (by show List.filter (fun (q : Nat × Value) => !(q.1 == 3) && !(q.1 + 1 == 3 && q.2.category == 2)) _ = _; simp [kr_rfcat, kr_icat]) (by decide) d_W_redeem_15 ?_
      refine r_iconst (v := (2 : Int32)) (by decide) d_W_redeem_16 ?_
      cases h
      exact r_iret rfl d_W_redeem_17
    replace h2 := kr_in_ c1 h2
    cases h2
/-! KeyringCourtLaw.refresh(LKeyringCourt;II[J)I -/
def f_W_refresh (S : AS) (a0 : Option Nat) (a1 : Int32) (a2 : Int32) (a3 : Option Nat) : Option (Int32 × AS) :=
  (kr_rv S 22 a0).bind fun u1 =>
  kr_bh (f_K_refresh S a0 a1 a2) (fun E S2 => if E = "java/lang/IndexOutOfBoundsException" then
  some ((1 : Int32), S2)
  else if E = "java/lang/IllegalArgumentException" then
  some ((2 : Int32), S2)
  else if E = "java/lang/IllegalStateException" then
  some ((3 : Int32), S2)
  else none) fun v3 S2 =>
  (bJ S2 a3 (0 : Int32) v3.toInt64).bind fun S4 =>
  some ((0 : Int32), S4)
set_option maxRecDepth 20000 in
set_option maxHeartbeats 4000000 in
theorem s_W_refresh {S : AS} {a0 : Option Nat} {a1 : Int32} {a2 : Int32} {a3 : Option Nat} {r : (Int32 × AS)} (h : f_W_refresh S a0 a1 a2 a3 = some r) : kr_Con m_W_refresh 11 [va_rf a0, .int a1, .int a2, va_rf a3] S (kr_eI r) := by
  refine kr_conH rfl (by decide) (by decide +kernel) (by simp [lg_sl, kr_rfcat, kr_icat, m_W_refresh, mL]) ?_
  rw [show lv_args 0 [va_rf a0, .int a1, .int a2, va_rf a3] = [(0, va_rf a0), (1, .int a1), (2, .int a2), (3, va_rf a3)] from by simp [lv_args, kr_rfcat, kr_icat]]
  unfold f_W_refresh at h
  refine r_aload_n (i := 3) (x := a3) 3 rfl d_W_refresh_0 ?_
  refine r_iconst (v := (0 : Int32)) (by decide) d_W_refresh_1 ?_
  refine r_aload_n (i := 0) (x := a0) 0 rfl d_W_refresh_2 ?_
  refine r_iload_n (i := 1) (x := a1) 1 rfl d_W_refresh_3 ?_
  refine r_iload_n (i := 2) (x := a2) 2 rfl d_W_refresh_4 ?_
  have h2 := kr_ob h
  clear h
  obtain ⟨⟨⟩, eu1, h⟩ := h2
  rcases kr_obh h with ⟨v3, S2, eS2, h2⟩ | ⟨E, S2, eS2, h2⟩
  · clear h
    have h := h2
    clear h2
    refine r_callV (M1 := m_K_refresh) (κ := 22) (As := [.int a1, .int a2]) eu1 (s_K_refresh eS2) mok_K_refresh rfl (by decide) rfl w1190 w1191 w1192 (by decide) (kr_c8 (kr_cI (kr_cR kr_c0))) d_W_refresh_5 (kr_k1 ?_) kr_kn
    refine r_i2l d_W_refresh_8 ?_
    have h2 := kr_ob h
    clear h
    obtain ⟨S4, eS4, h⟩ := h2
    refine r_lastore eS4 d_W_refresh_9 ?_
    refine r_goto (tgt := 25) d_W_refresh_10 rfl ?_
    refine r_iconst (v := (0 : Int32)) (by decide) d_W_refresh_25 ?_
    cases h
    exact r_iret rfl d_W_refresh_26
  · by_cases c0 : E = "java/lang/IndexOutOfBoundsException"
    · subst c0
      replace h2 := kr_ip rfl h2
      clear h
      have h := h2
      clear h2
      refine r_callV (M1 := m_K_refresh) (κ := 22) (As := [.int a1, .int a2]) eu1 (s_K_refresh eS2) mok_K_refresh rfl (by decide) rfl w1190 w1191 w1192 (by decide) (kr_c8 (kr_cI (kr_cR kr_c0))) d_W_refresh_5 kr_nk (kr_kx ?_)
      refine r_catch (hd := (0, 10, 13, 21)) [] [(0, 10, 17, 13), (0, 10, 21, 15)] ⟨rfl, (fun _ hz => nomatch hz), ⟨by decide, by decide⟩, by decide, w554, w531⟩ (i := 4) (lv' := [(0, va_rf a0), (1, .int a1), (2, .int a2), (3, va_rf a3)]) (by show List.filter (fun (q : Nat × Value) => !(q.1 == 4) && !(q.1 + 1 == 4 && q.2.category == 2)) _ = _; simp [kr_rfcat, kr_icat]) (by decide) d_W_refresh_13 ?_
      refine r_iconst (v := (1 : Int32)) (by decide) d_W_refresh_15 ?_
      cases h
      exact r_iret rfl d_W_refresh_16
    replace h2 := kr_in_ c0 h2
    by_cases c1 : E = "java/lang/IllegalArgumentException"
    · subst c1
      replace h2 := kr_ip rfl h2
      clear h
      have h := h2
      clear h2
      refine r_callV (M1 := m_K_refresh) (κ := 22) (As := [.int a1, .int a2]) eu1 (s_K_refresh eS2) mok_K_refresh rfl (by decide) rfl w1190 w1191 w1192 (by decide) (kr_c8 (kr_cI (kr_cR kr_c0))) d_W_refresh_5 kr_nk (kr_kx ?_)
      refine r_catch (hd := (0, 10, 17, 13)) [(0, 10, 13, 21)] [(0, 10, 21, 15)] ⟨rfl, (kr_pre ⟨"java/lang/IndexOutOfBoundsException", by decide, w554, by decide⟩ (fun _ hz => nomatch hz)), ⟨by decide, by decide⟩, by decide, w367, w381⟩ (i := 4) (lv' := [(0, va_rf a0), (1, .int a1), (2, .int a2), (3, va_rf a3)]) (by show List.filter (fun (q : Nat × Value) => !(q.1 == 4) && !(q.1 + 1 == 4 && q.2.category == 2)) _ = _; simp [kr_rfcat, kr_icat]) (by decide) d_W_refresh_17 ?_
      refine r_iconst (v := (2 : Int32)) (by decide) d_W_refresh_19 ?_
      cases h
      exact r_iret rfl d_W_refresh_20
    replace h2 := kr_in_ c1 h2
    by_cases c2 : E = "java/lang/IllegalStateException"
    · subst c2
      replace h2 := kr_ip rfl h2
      clear h
      have h := h2
      clear h2
      refine r_callV (M1 := m_K_refresh) (κ := 22) (As := [.int a1, .int a2]) eu1 (s_K_refresh eS2) mok_K_refresh rfl (by decide) rfl w1190 w1191 w1192 (by decide) (kr_c8 (kr_cI (kr_cR kr_c0))) d_W_refresh_5 kr_nk (kr_kx ?_)
      refine r_catch (hd := (0, 10, 21, 15)) [(0, 10, 13, 21), (0, 10, 17, 13)] [] ⟨rfl, (kr_pre ⟨"java/lang/IndexOutOfBoundsException", by decide, w554, by decide⟩ (kr_pre ⟨"java/lang/IllegalArgumentException", by decide, w367, by decide⟩ (fun _ hz => nomatch hz))), ⟨by decide, by decide⟩, by decide, w368, w447⟩ (i := 4) (lv' := [(0, va_rf a0), (1, .int a1), (2, .int a2), (3, va_rf a3)]) (by show List.filter (fun (q : Nat × Value) => !(q.1 == 4) && !(q.1 + 1 == 4 && q.2.category == 2)) _ = _; simp [kr_rfcat, kr_icat]) (by decide) d_W_refresh_21 ?_
      refine r_iconst (v := (3 : Int32)) (by decide) d_W_refresh_23 ?_
      cases h
      exact r_iret rfl d_W_refresh_24
    replace h2 := kr_in_ c2 h2
    cases h2
/-! KeyringCourtLaw.isGood(LKeyringCourt;I[J)I -/
def f_W_isGood_B15 (S : AS) (y0 : Option Nat) (y1 : Int32) (y2 : Int64) : Option (Int32 × AS) :=
  (bJ S y0 y1 y2).bind fun S1 =>
  some ((0 : Int32), S1)
def f_W_isGood (S : AS) (a0 : Option Nat) (a1 : Int32) (a2 : Option Nat) : Option (Int32 × AS) :=
  (kr_rv S 22 a0).bind fun u2 =>
  kr_bh (f_K_isGood S a0 a1) (fun E S3 => if E = "java/lang/IndexOutOfBoundsException" then
  some ((1 : Int32), S3)
  else none) fun v4 S3 =>
  if v4 = 0 then
  f_W_isGood_B15 S3 a2 (0 : Int32) (0 : Int64)
  else
  f_W_isGood_B15 S3 a2 (0 : Int32) (1 : Int64)
set_option maxRecDepth 20000 in
set_option maxHeartbeats 4000000 in
theorem s_W_isGood_B15 {S : AS} {y0 : Option Nat} {y1 : Int32} {y2 : Int64} {r : (Int32 × AS)} (h : f_W_isGood_B15 S y0 y1 y2 = some r) : kr_AW m_W_isGood 10 15 [] [.long y2, .int y1, va_rf y0] S (kr_eI r) := by
  unfold f_W_isGood_B15 at h
  have h2 := kr_ob h
  clear h
  obtain ⟨S1, eS1, h⟩ := h2
  refine r_lastore eS1 d_W_isGood_15 ?_
  refine r_goto (tgt := 22) d_W_isGood_16 rfl ?_
  refine r_iconst (v := (0 : Int32)) (by decide) d_W_isGood_22 ?_
  cases h
  exact r_iret rfl d_W_isGood_23
set_option maxRecDepth 20000 in
set_option maxHeartbeats 4000000 in
theorem s_W_isGood {S : AS} {a0 : Option Nat} {a1 : Int32} {a2 : Option Nat} {r : (Int32 × AS)} (h : f_W_isGood S a0 a1 a2 = some r) : kr_Con m_W_isGood 10 [va_rf a0, .int a1, va_rf a2] S (kr_eI r) := by
  refine kr_conH rfl (by decide) (by decide +kernel) (by simp [lg_sl, kr_rfcat, kr_icat, m_W_isGood, mL]) ?_
  rw [show lv_args 0 [va_rf a0, .int a1, va_rf a2] = [(0, va_rf a0), (1, .int a1), (2, va_rf a2)] from by simp [lv_args, kr_rfcat, kr_icat]]
  unfold f_W_isGood at h
  refine r_aload_n (i := 2) (x := a2) 2 rfl d_W_isGood_0 ?_
  refine r_iconst (v := (0 : Int32)) (by decide) d_W_isGood_1 ?_
  refine r_aload_n (i := 0) (x := a0) 0 rfl d_W_isGood_2 ?_
  refine r_iload_n (i := 1) (x := a1) 1 rfl d_W_isGood_3 ?_
  have h2 := kr_ob h
  clear h
  obtain ⟨⟨⟩, eu2, h⟩ := h2
  rcases kr_obh h with ⟨v4, S3, eS3, h2⟩ | ⟨E, S3, eS3, h2⟩
  · clear h
    have h := h2
    clear h2
    refine r_callV (M1 := m_K_isGood) (κ := 22) (As := [.int a1]) eu2 (s_K_isGood eS3) mok_K_isGood rfl (by decide) rfl w1205 w1206 w1207 (by decide) (kr_c8 (kr_cI (kr_cR kr_c0))) d_W_isGood_4 (kr_k1 ?_) kr_kn
    refine r_if_eq (tgt := 14) d_W_isGood_7 rfl (fun c => ?_) (fun c => ?_)
    · replace h := kr_ip c h
      refine r_lconst (v := (0 : Int64)) (by decide) d_W_isGood_14 ?_
      exact kr_sub [] rfl (s_W_isGood_B15 h)
    · replace h := kr_in_ c h
      refine r_lconst (v := (1 : Int64)) (by decide) d_W_isGood_10 ?_
      refine r_goto (tgt := 15) d_W_isGood_11 rfl ?_
      exact kr_sub [] rfl (s_W_isGood_B15 h)
  · by_cases c0 : E = "java/lang/IndexOutOfBoundsException"
    · subst c0
      replace h2 := kr_ip rfl h2
      clear h
      have h := h2
      clear h2
      refine r_callV (M1 := m_K_isGood) (κ := 22) (As := [.int a1]) eu2 (s_K_isGood eS3) mok_K_isGood rfl (by decide) rfl w1205 w1206 w1207 (by decide) (kr_c8 (kr_cI (kr_cR kr_c0))) d_W_isGood_4 kr_nk (kr_kx ?_)
      refine r_catch_n (hd := (0, 16, 19, 21)) [] [] ⟨rfl, (fun _ hz => nomatch hz), ⟨by decide, by decide⟩, by decide, w554, w531⟩ (i := 3) (lv' := [(0, va_rf a0), (1, .int a1), (2, va_rf a2)]) (by show List.filter (fun (q : Nat × Value) => !(q.1 == 3) && !(q.1 + 1 == 3 && q.2.category == 2)) _ = _; simp [kr_rfcat, kr_icat]) (by decide) d_W_isGood_19 ?_
      refine r_iconst (v := (1 : Int32)) (by decide) d_W_isGood_20 ?_
      cases h
      exact r_iret rfl d_W_isGood_21
    replace h2 := kr_in_ c0 h2
    cases h2
/-! KeyringCourtLaw.tokenOf(LKeyringCourt;I[J)I -/
def f_W_tokenOf (S : AS) (a0 : Option Nat) (a1 : Int32) (a2 : Option Nat) : Option (Int32 × AS) :=
  (kr_rv S 22 a0).bind fun u1 =>
  kr_bh (f_K_tokenOf S a0 a1) (fun E S2 => if E = "java/lang/IndexOutOfBoundsException" then
  some ((1 : Int32), S2)
  else none) fun v3 S2 =>
  (bJ S2 a2 (0 : Int32) v3.toInt64).bind fun S4 =>
  some ((0 : Int32), S4)
set_option maxRecDepth 20000 in
set_option maxHeartbeats 4000000 in
theorem s_W_tokenOf {S : AS} {a0 : Option Nat} {a1 : Int32} {a2 : Option Nat} {r : (Int32 × AS)} (h : f_W_tokenOf S a0 a1 a2 = some r) : kr_Con m_W_tokenOf 10 [va_rf a0, .int a1, va_rf a2] S (kr_eI r) := by
  refine kr_conH rfl (by decide) (by decide +kernel) (by simp [lg_sl, kr_rfcat, kr_icat, m_W_tokenOf, mL]) ?_
  rw [show lv_args 0 [va_rf a0, .int a1, va_rf a2] = [(0, va_rf a0), (1, .int a1), (2, va_rf a2)] from by simp [lv_args, kr_rfcat, kr_icat]]
  unfold f_W_tokenOf at h
  refine r_aload_n (i := 2) (x := a2) 2 rfl d_W_tokenOf_0 ?_
  refine r_iconst (v := (0 : Int32)) (by decide) d_W_tokenOf_1 ?_
  refine r_aload_n (i := 0) (x := a0) 0 rfl d_W_tokenOf_2 ?_
  refine r_iload_n (i := 1) (x := a1) 1 rfl d_W_tokenOf_3 ?_
  have h2 := kr_ob h
  clear h
  obtain ⟨⟨⟩, eu1, h⟩ := h2
  rcases kr_obh h with ⟨v3, S2, eS2, h2⟩ | ⟨E, S2, eS2, h2⟩
  · clear h
    have h := h2
    clear h2
    refine r_callV (M1 := m_K_tokenOf) (κ := 22) (As := [.int a1]) eu1 (s_K_tokenOf eS2) mok_K_tokenOf rfl (by decide) rfl w1212 w1213 w1214 (by decide) (kr_c8 (kr_cI (kr_cR kr_c0))) d_W_tokenOf_4 (kr_k1 ?_) kr_kn
    refine r_i2l d_W_tokenOf_7 ?_
    have h2 := kr_ob h
    clear h
    obtain ⟨S4, eS4, h⟩ := h2
    refine r_lastore eS4 d_W_tokenOf_8 ?_
    refine r_goto (tgt := 15) d_W_tokenOf_9 rfl ?_
    refine r_iconst (v := (0 : Int32)) (by decide) d_W_tokenOf_15 ?_
    cases h
    exact r_iret rfl d_W_tokenOf_16
  · by_cases c0 : E = "java/lang/IndexOutOfBoundsException"
    · subst c0
      replace h2 := kr_ip rfl h2
      clear h
      have h := h2
      clear h2
      refine r_callV (M1 := m_K_tokenOf) (κ := 22) (As := [.int a1]) eu1 (s_K_tokenOf eS2) mok_K_tokenOf rfl (by decide) rfl w1212 w1213 w1214 (by decide) (kr_c8 (kr_cI (kr_cR kr_c0))) d_W_tokenOf_4 kr_nk (kr_kx ?_)
      refine r_catch_n (hd := (0, 9, 12, 21)) [] [] ⟨rfl, (fun _ hz => nomatch hz), ⟨by decide, by decide⟩, by decide, w554, w531⟩ (i := 3) (lv' := [(0, va_rf a0), (1, .int a1), (2, va_rf a2)]) (by show List.filter (fun (q : Nat × Value) => !(q.1 == 3) && !(q.1 + 1 == 3 && q.2.category == 2)) _ = _; simp [kr_rfcat, kr_icat]) (by decide) d_W_tokenOf_12 ?_
      refine r_iconst (v := (1 : Int32)) (by decide) d_W_tokenOf_13 ?_
      cases h
      exact r_iret rfl d_W_tokenOf_14
    replace h2 := kr_in_ c0 h2
    cases h2
/-! KeyringCourtLaw.exchange(LKeyringCourt;III[J)I -/
def f_W_exchange (S : AS) (a0 : Option Nat) (a1 : Int32) (a2 : Int32) (a3 : Int32) (a4 : Option Nat) : Option (Int32 × AS) :=
  (kr_rv S 22 a0).bind fun u1 =>
  kr_bh (f_K_exchange S a0 a1 a2 a3) (fun E S2 => if E = "java/lang/IndexOutOfBoundsException" then
  some ((1 : Int32), S2)
  else if E = "java/lang/IllegalArgumentException" then
  some ((2 : Int32), S2)
  else if E = "java/lang/IllegalStateException" then
  some ((3 : Int32), S2)
  else none) fun v3 S2 =>
  (bJ S2 a4 (0 : Int32) v3.toInt64).bind fun S4 =>
  some ((0 : Int32), S4)
set_option maxRecDepth 20000 in
set_option maxHeartbeats 4000000 in
theorem s_W_exchange {S : AS} {a0 : Option Nat} {a1 : Int32} {a2 : Int32} {a3 : Int32} {a4 : Option Nat} {r : (Int32 × AS)} (h : f_W_exchange S a0 a1 a2 a3 a4 = some r) : kr_Con m_W_exchange 10 [va_rf a0, .int a1, .int a2, .int a3, va_rf a4] S (kr_eI r) := by
  refine kr_conH rfl (by decide) (by decide +kernel) (by simp [lg_sl, kr_rfcat, kr_icat, m_W_exchange, mL]) ?_
  rw [show lv_args 0 [va_rf a0, .int a1, .int a2, .int a3, va_rf a4] = [(0, va_rf a0), (1, .int a1), (2, .int a2), (3, .int a3), (4, va_rf a4)] from by simp [lv_args, kr_rfcat, kr_icat]]
  unfold f_W_exchange at h
  refine r_aload (i := 4) (x := a4) 4 rfl d_W_exchange_0 ?_
  refine r_iconst (v := (0 : Int32)) (by decide) d_W_exchange_2 ?_
  refine r_aload_n (i := 0) (x := a0) 0 rfl d_W_exchange_3 ?_
  refine r_iload_n (i := 1) (x := a1) 1 rfl d_W_exchange_4 ?_
  refine r_iload_n (i := 2) (x := a2) 2 rfl d_W_exchange_5 ?_
  refine r_iload_n (i := 3) (x := a3) 3 rfl d_W_exchange_6 ?_
  have h2 := kr_ob h
  clear h
  obtain ⟨⟨⟩, eu1, h⟩ := h2
  rcases kr_obh h with ⟨v3, S2, eS2, h2⟩ | ⟨E, S2, eS2, h2⟩
  · clear h
    have h := h2
    clear h2
    refine r_callV (M1 := m_K_exchange) (κ := 22) (As := [.int a1, .int a2, .int a3]) eu1 (s_K_exchange eS2) mok_K_exchange rfl (by decide) rfl w1219 w1220 w1221 (by decide) (kr_c8 (kr_cI (kr_cR kr_c0))) d_W_exchange_7 (kr_k1 ?_) kr_kn
    refine r_i2l d_W_exchange_10 ?_
    have h2 := kr_ob h
    clear h
    obtain ⟨S4, eS4, h⟩ := h2
    refine r_lastore eS4 d_W_exchange_11 ?_
    refine r_goto (tgt := 27) d_W_exchange_12 rfl ?_
    refine r_iconst (v := (0 : Int32)) (by decide) d_W_exchange_27 ?_
    cases h
    exact r_iret rfl d_W_exchange_28
  · by_cases c0 : E = "java/lang/IndexOutOfBoundsException"
    · subst c0
      replace h2 := kr_ip rfl h2
      clear h
      have h := h2
      clear h2
      refine r_callV (M1 := m_K_exchange) (κ := 22) (As := [.int a1, .int a2, .int a3]) eu1 (s_K_exchange eS2) mok_K_exchange rfl (by decide) rfl w1219 w1220 w1221 (by decide) (kr_c8 (kr_cI (kr_cR kr_c0))) d_W_exchange_7 kr_nk (kr_kx ?_)
      refine r_catch (hd := (0, 12, 15, 21)) [] [(0, 12, 19, 13), (0, 12, 23, 15)] ⟨rfl, (fun _ hz => nomatch hz), ⟨by decide, by decide⟩, by decide, w554, w531⟩ (i := 5) (lv' := [(0, va_rf a0), (1, .int a1), (2, .int a2), (3, .int a3), (4, va_rf a4)]) (by show List.filter (fun (q : Nat × Value) => !(q.1 == 5) && !(q.1 + 1 == 5 && q.2.category == 2)) _ = _; simp [kr_rfcat, kr_icat]) (by decide) d_W_exchange_15 ?_
      refine r_iconst (v := (1 : Int32)) (by decide) d_W_exchange_17 ?_
      cases h
      exact r_iret rfl d_W_exchange_18
    replace h2 := kr_in_ c0 h2
    by_cases c1 : E = "java/lang/IllegalArgumentException"
    · subst c1
      replace h2 := kr_ip rfl h2
      clear h
      have h := h2
      clear h2
      refine r_callV (M1 := m_K_exchange) (κ := 22) (As := [.int a1, .int a2, .int a3]) eu1 (s_K_exchange eS2) mok_K_exchange rfl (by decide) rfl w1219 w1220 w1221 (by decide) (kr_c8 (kr_cI (kr_cR kr_c0))) d_W_exchange_7 kr_nk (kr_kx ?_)
      refine r_catch (hd := (0, 12, 19, 13)) [(0, 12, 15, 21)] [(0, 12, 23, 15)] ⟨rfl, (kr_pre ⟨"java/lang/IndexOutOfBoundsException", by decide, w554, by decide⟩ (fun _ hz => nomatch hz)), ⟨by decide, by decide⟩, by decide, w367, w381⟩ (i := 5) (lv' := [(0, va_rf a0), (1, .int a1), (2, .int a2), (3, .int a3), (4, va_rf a4)]) (by show List.filter (fun (q : Nat × Value) => !(q.1 == 5) && !(q.1 + 1 == 5 && q.2.category == 2)) _ = _; simp [kr_rfcat, kr_icat]) (by decide) d_W_exchange_19 ?_
      refine r_iconst (v := (2 : Int32)) (by decide) d_W_exchange_21 ?_
      cases h
      exact r_iret rfl d_W_exchange_22
    replace h2 := kr_in_ c1 h2
    by_cases c2 : E = "java/lang/IllegalStateException"
    · subst c2
      replace h2 := kr_ip rfl h2
      clear h
      have h := h2
      clear h2
      refine r_callV (M1 := m_K_exchange) (κ := 22) (As := [.int a1, .int a2, .int a3]) eu1 (s_K_exchange eS2) mok_K_exchange rfl (by decide) rfl w1219 w1220 w1221 (by decide) (kr_c8 (kr_cI (kr_cR kr_c0))) d_W_exchange_7 kr_nk (kr_kx ?_)
      refine r_catch (hd := (0, 12, 23, 15)) [(0, 12, 15, 21), (0, 12, 19, 13)] [] ⟨rfl, (kr_pre ⟨"java/lang/IndexOutOfBoundsException", by decide, w554, by decide⟩ (kr_pre ⟨"java/lang/IllegalArgumentException", by decide, w367, by decide⟩ (fun _ hz => nomatch hz))), ⟨by decide, by decide⟩, by decide, w368, w447⟩ (i := 5) (lv' := [(0, va_rf a0), (1, .int a1), (2, .int a2), (3, .int a3), (4, va_rf a4)]) (by show List.filter (fun (q : Nat × Value) => !(q.1 == 5) && !(q.1 + 1 == 5 && q.2.category == 2)) _ = _; simp [kr_rfcat, kr_icat]) (by decide) d_W_exchange_23 ?_
      refine r_iconst (v := (3 : Int32)) (by decide) d_W_exchange_25 ?_
      cases h
      exact r_iret rfl d_W_exchange_26
    replace h2 := kr_in_ c2 h2
    cases h2
/-! KeyringCourtLaw.token(LKeyringCourt;I[J)I -/
def f_W_token (S : AS) (a0 : Option Nat) (a1 : Int32) (a2 : Option Nat) : Option (Int32 × AS) :=
  (kr_rv S 22 a0).bind fun u1 =>
  kr_bh (f_K_token S a0 a1) (fun E S2 => if E = "java/lang/IndexOutOfBoundsException" then
  some ((1 : Int32), S2)
  else none) fun v3 S2 =>
  (bJ S2 a2 (0 : Int32) v3.toInt64).bind fun S4 =>
  some ((0 : Int32), S4)
set_option maxRecDepth 20000 in
set_option maxHeartbeats 4000000 in
theorem s_W_token {S : AS} {a0 : Option Nat} {a1 : Int32} {a2 : Option Nat} {r : (Int32 × AS)} (h : f_W_token S a0 a1 a2 = some r) : kr_Con m_W_token 10 [va_rf a0, .int a1, va_rf a2] S (kr_eI r) := by
  refine kr_conH rfl (by decide) (by decide +kernel) (by simp [lg_sl, kr_rfcat, kr_icat, m_W_token, mL]) ?_
  rw [show lv_args 0 [va_rf a0, .int a1, va_rf a2] = [(0, va_rf a0), (1, .int a1), (2, va_rf a2)] from by simp [lv_args, kr_rfcat, kr_icat]]
  unfold f_W_token at h
  refine r_aload_n (i := 2) (x := a2) 2 rfl d_W_token_0 ?_
  refine r_iconst (v := (0 : Int32)) (by decide) d_W_token_1 ?_
  refine r_aload_n (i := 0) (x := a0) 0 rfl d_W_token_2 ?_
  refine r_iload_n (i := 1) (x := a1) 1 rfl d_W_token_3 ?_
  have h2 := kr_ob h
  clear h
  obtain ⟨⟨⟩, eu1, h⟩ := h2
  rcases kr_obh h with ⟨v3, S2, eS2, h2⟩ | ⟨E, S2, eS2, h2⟩
  · clear h
    have h := h2
    clear h2
    refine r_callV (M1 := m_K_token) (κ := 22) (As := [.int a1]) eu1 (s_K_token eS2) mok_K_token rfl (by decide) rfl w1230 w1231 w1232 (by decide) (kr_c8 (kr_cI (kr_cR kr_c0))) d_W_token_4 (kr_k1 ?_) kr_kn
    refine r_i2l d_W_token_7 ?_
    have h2 := kr_ob h
    clear h
    obtain ⟨S4, eS4, h⟩ := h2
    refine r_lastore eS4 d_W_token_8 ?_
    refine r_goto (tgt := 15) d_W_token_9 rfl ?_
    refine r_iconst (v := (0 : Int32)) (by decide) d_W_token_15 ?_
    cases h
    exact r_iret rfl d_W_token_16
  · by_cases c0 : E = "java/lang/IndexOutOfBoundsException"
    · subst c0
      replace h2 := kr_ip rfl h2
      clear h
      have h := h2
      clear h2
      refine r_callV (M1 := m_K_token) (κ := 22) (As := [.int a1]) eu1 (s_K_token eS2) mok_K_token rfl (by decide) rfl w1230 w1231 w1232 (by decide) (kr_c8 (kr_cI (kr_cR kr_c0))) d_W_token_4 kr_nk (kr_kx ?_)
      refine r_catch_n (hd := (0, 9, 12, 21)) [] [] ⟨rfl, (fun _ hz => nomatch hz), ⟨by decide, by decide⟩, by decide, w554, w531⟩ (i := 3) (lv' := [(0, va_rf a0), (1, .int a1), (2, va_rf a2)]) (by show List.filter (fun (q : Nat × Value) => !(q.1 == 3) && !(q.1 + 1 == 3 && q.2.category == 2)) _ = _; simp [kr_rfcat, kr_icat]) (by decide) d_W_token_12 ?_
      refine r_iconst (v := (1 : Int32)) (by decide) d_W_token_13 ?_
      cases h
      exact r_iret rfl d_W_token_14
    replace h2 := kr_in_ c0 h2
    cases h2
/-! KeyringCourtLaw.turn(LKeyringCourt;[J)I -/
def f_W_turn (S : AS) (a0 : Option Nat) (a1 : Option Nat) : Option (Int32 × AS) :=
  (kr_rv S 22 a0).bind fun u1 =>
  kr_bh (f_K_turn S a0) (fun E S2 => if E = "java/lang/IllegalStateException" then
  some ((1 : Int32), S2)
  else none) fun v3 S2 =>
  (bJ S2 a1 (0 : Int32) v3.toInt64).bind fun S4 =>
  some ((0 : Int32), S4)
set_option maxRecDepth 20000 in
set_option maxHeartbeats 4000000 in
theorem s_W_turn {S : AS} {a0 : Option Nat} {a1 : Option Nat} {r : (Int32 × AS)} (h : f_W_turn S a0 a1 = some r) : kr_Con m_W_turn 9 [va_rf a0, va_rf a1] S (kr_eI r) := by
  refine kr_conH rfl (by decide) (by decide +kernel) (by simp [lg_sl, kr_rfcat, kr_icat, m_W_turn, mL]) ?_
  rw [show lv_args 0 [va_rf a0, va_rf a1] = [(0, va_rf a0), (1, va_rf a1)] from by simp [lv_args, kr_rfcat, kr_icat]]
  unfold f_W_turn at h
  refine r_aload_n (i := 1) (x := a1) 1 rfl d_W_turn_0 ?_
  refine r_iconst (v := (0 : Int32)) (by decide) d_W_turn_1 ?_
  refine r_aload_n (i := 0) (x := a0) 0 rfl d_W_turn_2 ?_
  have h2 := kr_ob h
  clear h
  obtain ⟨⟨⟩, eu1, h⟩ := h2
  rcases kr_obh h with ⟨v3, S2, eS2, h2⟩ | ⟨E, S2, eS2, h2⟩
  · clear h
    have h := h2
    clear h2
    refine r_callV (M1 := m_K_turn) (κ := 22) (As := []) eu1 (s_K_turn eS2) mok_K_turn rfl (by decide) rfl w1237 w1238 w1239 (by decide) (kr_c8 (kr_cI (kr_cR kr_c0))) d_W_turn_3 (kr_k1 ?_) kr_kn
    refine r_i2l d_W_turn_6 ?_
    have h2 := kr_ob h
    clear h
    obtain ⟨S4, eS4, h⟩ := h2
    refine r_lastore eS4 d_W_turn_7 ?_
    refine r_goto (tgt := 14) d_W_turn_8 rfl ?_
    refine r_iconst (v := (0 : Int32)) (by decide) d_W_turn_14 ?_
    cases h
    exact r_iret rfl d_W_turn_15
  · by_cases c0 : E = "java/lang/IllegalStateException"
    · subst c0
      replace h2 := kr_ip rfl h2
      clear h
      have h := h2
      clear h2
      refine r_callV (M1 := m_K_turn) (κ := 22) (As := []) eu1 (s_K_turn eS2) mok_K_turn rfl (by decide) rfl w1237 w1238 w1239 (by decide) (kr_c8 (kr_cI (kr_cR kr_c0))) d_W_turn_3 kr_nk (kr_kx ?_)
      refine r_catch_n (hd := (0, 8, 11, 15)) [] [] ⟨rfl, (fun _ hz => nomatch hz), ⟨by decide, by decide⟩, by decide, w368, w447⟩ (i := 2) (lv' := [(0, va_rf a0), (1, va_rf a1)]) (by show List.filter (fun (q : Nat × Value) => !(q.1 == 2) && !(q.1 + 1 == 2 && q.2.category == 2)) _ = _; simp [kr_rfcat, kr_icat]) (by decide) d_W_turn_11 ?_
      refine r_iconst (v := (1 : Int32)) (by decide) d_W_turn_12 ?_
      cases h
      exact r_iret rfl d_W_turn_13
    replace h2 := kr_in_ c0 h2
    cases h2
/-! KeyringCourtLaw.emergency(LKeyringCourt;[J)I -/
def f_W_emergency (S : AS) (a0 : Option Nat) (a1 : Option Nat) : Option (Int32 × AS) :=
  (kr_rv S 22 a0).bind fun u1 =>
  kr_bh (f_K_emergency S a0) (fun E S2 => if E = "java/lang/IllegalStateException" then
  some ((1 : Int32), S2)
  else none) fun v3 S2 =>
  (bJ S2 a1 (0 : Int32) v3.toInt64).bind fun S4 =>
  some ((0 : Int32), S4)
set_option maxRecDepth 20000 in
set_option maxHeartbeats 4000000 in
theorem s_W_emergency {S : AS} {a0 : Option Nat} {a1 : Option Nat} {r : (Int32 × AS)} (h : f_W_emergency S a0 a1 = some r) : kr_Con m_W_emergency 9 [va_rf a0, va_rf a1] S (kr_eI r) := by
  refine kr_conH rfl (by decide) (by decide +kernel) (by simp [lg_sl, kr_rfcat, kr_icat, m_W_emergency, mL]) ?_
  rw [show lv_args 0 [va_rf a0, va_rf a1] = [(0, va_rf a0), (1, va_rf a1)] from by simp [lv_args, kr_rfcat, kr_icat]]
  unfold f_W_emergency at h
  refine r_aload_n (i := 1) (x := a1) 1 rfl d_W_emergency_0 ?_
  refine r_iconst (v := (0 : Int32)) (by decide) d_W_emergency_1 ?_
  refine r_aload_n (i := 0) (x := a0) 0 rfl d_W_emergency_2 ?_
  have h2 := kr_ob h
  clear h
  obtain ⟨⟨⟩, eu1, h⟩ := h2
  rcases kr_obh h with ⟨v3, S2, eS2, h2⟩ | ⟨E, S2, eS2, h2⟩
  · clear h
    have h := h2
    clear h2
    refine r_callV (M1 := m_K_emergency) (κ := 22) (As := []) eu1 (s_K_emergency eS2) mok_K_emergency rfl (by decide) rfl w1252 w1253 w1254 (by decide) (kr_c8 (kr_cI (kr_cR kr_c0))) d_W_emergency_3 (kr_k1 ?_) kr_kn
    refine r_i2l d_W_emergency_6 ?_
    have h2 := kr_ob h
    clear h
    obtain ⟨S4, eS4, h⟩ := h2
    refine r_lastore eS4 d_W_emergency_7 ?_
    refine r_goto (tgt := 14) d_W_emergency_8 rfl ?_
    refine r_iconst (v := (0 : Int32)) (by decide) d_W_emergency_14 ?_
    cases h
    exact r_iret rfl d_W_emergency_15
  · by_cases c0 : E = "java/lang/IllegalStateException"
    · subst c0
      replace h2 := kr_ip rfl h2
      clear h
      have h := h2
      clear h2
      refine r_callV (M1 := m_K_emergency) (κ := 22) (As := []) eu1 (s_K_emergency eS2) mok_K_emergency rfl (by decide) rfl w1252 w1253 w1254 (by decide) (kr_c8 (kr_cI (kr_cR kr_c0))) d_W_emergency_3 kr_nk (kr_kx ?_)
      refine r_catch_n (hd := (0, 8, 11, 15)) [] [] ⟨rfl, (fun _ hz => nomatch hz), ⟨by decide, by decide⟩, by decide, w368, w447⟩ (i := 2) (lv' := [(0, va_rf a0), (1, va_rf a1)]) (by show List.filter (fun (q : Nat × Value) => !(q.1 == 2) && !(q.1 + 1 == 2 && q.2.category == 2)) _ = _; simp [kr_rfcat, kr_icat]) (by decide) d_W_emergency_11 ?_
      refine r_iconst (v := (1 : Int32)) (by decide) d_W_emergency_12 ?_
      cases h
      exact r_iret rfl d_W_emergency_13
    replace h2 := kr_in_ c0 h2
    cases h2
/-! KeyringCourtLaw.isPublished(LKeyringCourt;I[J)I -/
def f_W_isPublished_B15 (S : AS) (y0 : Option Nat) (y1 : Int32) (y2 : Int64) : Option (Int32 × AS) :=
  (bJ S y0 y1 y2).bind fun S1 =>
  some ((0 : Int32), S1)
def f_W_isPublished (S : AS) (a0 : Option Nat) (a1 : Int32) (a2 : Option Nat) : Option (Int32 × AS) :=
  (kr_rv S 22 a0).bind fun u2 =>
  kr_bh (f_K_isPublished S a0 a1) (fun E S3 => if E = "java/lang/IndexOutOfBoundsException" then
  some ((1 : Int32), S3)
  else none) fun v4 S3 =>
  if v4 = 0 then
  f_W_isPublished_B15 S3 a2 (0 : Int32) (0 : Int64)
  else
  f_W_isPublished_B15 S3 a2 (0 : Int32) (1 : Int64)
set_option maxRecDepth 20000 in
set_option maxHeartbeats 4000000 in
theorem s_W_isPublished_B15 {S : AS} {y0 : Option Nat} {y1 : Int32} {y2 : Int64} {r : (Int32 × AS)} (h : f_W_isPublished_B15 S y0 y1 y2 = some r) : kr_AW m_W_isPublished 9 15 [] [.long y2, .int y1, va_rf y0] S (kr_eI r) := by
  unfold f_W_isPublished_B15 at h
  have h2 := kr_ob h
  clear h
  obtain ⟨S1, eS1, h⟩ := h2
  refine r_lastore eS1 d_W_isPublished_15 ?_
  refine r_goto (tgt := 22) d_W_isPublished_16 rfl ?_
  refine r_iconst (v := (0 : Int32)) (by decide) d_W_isPublished_22 ?_
  cases h
  exact r_iret rfl d_W_isPublished_23
set_option maxRecDepth 20000 in
set_option maxHeartbeats 4000000 in
theorem s_W_isPublished {S : AS} {a0 : Option Nat} {a1 : Int32} {a2 : Option Nat} {r : (Int32 × AS)} (h : f_W_isPublished S a0 a1 a2 = some r) : kr_Con m_W_isPublished 9 [va_rf a0, .int a1, va_rf a2] S (kr_eI r) := by
  refine kr_conH rfl (by decide) (by decide +kernel) (by simp [lg_sl, kr_rfcat, kr_icat, m_W_isPublished, mL]) ?_
  rw [show lv_args 0 [va_rf a0, .int a1, va_rf a2] = [(0, va_rf a0), (1, .int a1), (2, va_rf a2)] from by simp [lv_args, kr_rfcat, kr_icat]]
  unfold f_W_isPublished at h
  refine r_aload_n (i := 2) (x := a2) 2 rfl d_W_isPublished_0 ?_
  refine r_iconst (v := (0 : Int32)) (by decide) d_W_isPublished_1 ?_
  refine r_aload_n (i := 0) (x := a0) 0 rfl d_W_isPublished_2 ?_
  refine r_iload_n (i := 1) (x := a1) 1 rfl d_W_isPublished_3 ?_
  have h2 := kr_ob h
  clear h
  obtain ⟨⟨⟩, eu2, h⟩ := h2
  rcases kr_obh h with ⟨v4, S3, eS3, h2⟩ | ⟨E, S3, eS3, h2⟩
  · clear h
    have h := h2
    clear h2
    refine r_callV (M1 := m_K_isPublished) (κ := 22) (As := [.int a1]) eu2 (s_K_isPublished eS3) mok_K_isPublished rfl (by decide) rfl w1263 w1264 w1265 (by decide) (kr_c8 (kr_cI (kr_cR kr_c0))) d_W_isPublished_4 (kr_k1 ?_) kr_kn
    refine r_if_eq (tgt := 14) d_W_isPublished_7 rfl (fun c => ?_) (fun c => ?_)
    · replace h := kr_ip c h
      refine r_lconst (v := (0 : Int64)) (by decide) d_W_isPublished_14 ?_
      exact kr_sub [] rfl (s_W_isPublished_B15 h)
    · replace h := kr_in_ c h
      refine r_lconst (v := (1 : Int64)) (by decide) d_W_isPublished_10 ?_
      refine r_goto (tgt := 15) d_W_isPublished_11 rfl ?_
      exact kr_sub [] rfl (s_W_isPublished_B15 h)
  · by_cases c0 : E = "java/lang/IndexOutOfBoundsException"
    · subst c0
      replace h2 := kr_ip rfl h2
      clear h
      have h := h2
      clear h2
      refine r_callV (M1 := m_K_isPublished) (κ := 22) (As := [.int a1]) eu2 (s_K_isPublished eS3) mok_K_isPublished rfl (by decide) rfl w1263 w1264 w1265 (by decide) (kr_c8 (kr_cI (kr_cR kr_c0))) d_W_isPublished_4 kr_nk (kr_kx ?_)
      refine r_catch_n (hd := (0, 16, 19, 21)) [] [] ⟨rfl, (fun _ hz => nomatch hz), ⟨by decide, by decide⟩, by decide, w554, w531⟩ (i := 3) (lv' := [(0, va_rf a0), (1, .int a1), (2, va_rf a2)]) (by show List.filter (fun (q : Nat × Value) => !(q.1 == 3) && !(q.1 + 1 == 3 && q.2.category == 2)) _ = _; simp [kr_rfcat, kr_icat]) (by decide) d_W_isPublished_19 ?_
      refine r_iconst (v := (1 : Int32)) (by decide) d_W_isPublished_20 ?_
      cases h
      exact r_iret rfl d_W_isPublished_21
    replace h2 := kr_in_ c0 h2
    cases h2
/-! KeyringCourtLaw.line(LKeyringCourt;I[J)I -/
def f_W_line (S : AS) (a0 : Option Nat) (a1 : Int32) (a2 : Option Nat) : Option (Int32 × AS) :=
  (kr_rv S 22 a0).bind fun u1 =>
  kr_bh (f_K_line S a0 a1) (fun E S2 => if E = "java/lang/IndexOutOfBoundsException" then
  some ((1 : Int32), S2)
  else none) fun v3 S2 =>
  (bJ S2 a2 (0 : Int32) v3.toInt64).bind fun S4 =>
  some ((0 : Int32), S4)
set_option maxRecDepth 20000 in
set_option maxHeartbeats 4000000 in
theorem s_W_line {S : AS} {a0 : Option Nat} {a1 : Int32} {a2 : Option Nat} {r : (Int32 × AS)} (h : f_W_line S a0 a1 a2 = some r) : kr_Con m_W_line 9 [va_rf a0, .int a1, va_rf a2] S (kr_eI r) := by
  refine kr_conH rfl (by decide) (by decide +kernel) (by simp [lg_sl, kr_rfcat, kr_icat, m_W_line, mL]) ?_
  rw [show lv_args 0 [va_rf a0, .int a1, va_rf a2] = [(0, va_rf a0), (1, .int a1), (2, va_rf a2)] from by simp [lv_args, kr_rfcat, kr_icat]]
  unfold f_W_line at h
  refine r_aload_n (i := 2) (x := a2) 2 rfl d_W_line_0 ?_
  refine r_iconst (v := (0 : Int32)) (by decide) d_W_line_1 ?_
  refine r_aload_n (i := 0) (x := a0) 0 rfl d_W_line_2 ?_
  refine r_iload_n (i := 1) (x := a1) 1 rfl d_W_line_3 ?_
  have h2 := kr_ob h
  clear h
  obtain ⟨⟨⟩, eu1, h⟩ := h2
  rcases kr_obh h with ⟨v3, S2, eS2, h2⟩ | ⟨E, S2, eS2, h2⟩
  · clear h
    have h := h2
    clear h2
    refine r_callV (M1 := m_K_line) (κ := 22) (As := [.int a1]) eu1 (s_K_line eS2) mok_K_line rfl (by decide) rfl w1270 w1271 w1272 (by decide) (kr_c8 (kr_cI (kr_cR kr_c0))) d_W_line_4 (kr_k1 ?_) kr_kn
    refine r_i2l d_W_line_7 ?_
    have h2 := kr_ob h
    clear h
    obtain ⟨S4, eS4, h⟩ := h2
    refine r_lastore eS4 d_W_line_8 ?_
    refine r_goto (tgt := 15) d_W_line_9 rfl ?_
    refine r_iconst (v := (0 : Int32)) (by decide) d_W_line_15 ?_
    cases h
    exact r_iret rfl d_W_line_16
  · by_cases c0 : E = "java/lang/IndexOutOfBoundsException"
    · subst c0
      replace h2 := kr_ip rfl h2
      clear h
      have h := h2
      clear h2
      refine r_callV (M1 := m_K_line) (κ := 22) (As := [.int a1]) eu1 (s_K_line eS2) mok_K_line rfl (by decide) rfl w1270 w1271 w1272 (by decide) (kr_c8 (kr_cI (kr_cR kr_c0))) d_W_line_4 kr_nk (kr_kx ?_)
      refine r_catch_n (hd := (0, 9, 12, 21)) [] [] ⟨rfl, (fun _ hz => nomatch hz), ⟨by decide, by decide⟩, by decide, w554, w531⟩ (i := 3) (lv' := [(0, va_rf a0), (1, .int a1), (2, va_rf a2)]) (by show List.filter (fun (q : Nat × Value) => !(q.1 == 3) && !(q.1 + 1 == 3 && q.2.category == 2)) _ = _; simp [kr_rfcat, kr_icat]) (by decide) d_W_line_12 ?_
      refine r_iconst (v := (1 : Int32)) (by decide) d_W_line_13 ?_
      cases h
      exact r_iret rfl d_W_line_14
    replace h2 := kr_in_ c0 h2
    cases h2
/-! KeyringCourtLaw.check(LKeyringCourt;III[J)I -/
def f_W_check (S : AS) (a0 : Option Nat) (a1 : Int32) (a2 : Int32) (a3 : Int32) (a4 : Option Nat) : Option (Int32 × AS) :=
  (kr_rv S 22 a0).bind fun u1 =>
  kr_bh (f_K_check S a0 a1 a2 a3) (fun E S2 => if E = "java/lang/IndexOutOfBoundsException" then
  some ((1 : Int32), S2)
  else if E = "java/lang/IllegalArgumentException" then
  some ((2 : Int32), S2)
  else none) fun v3 S2 =>
  (bJ S2 a4 (0 : Int32) v3.toInt64).bind fun S4 =>
  some ((0 : Int32), S4)
set_option maxRecDepth 20000 in
set_option maxHeartbeats 4000000 in
theorem s_W_check {S : AS} {a0 : Option Nat} {a1 : Int32} {a2 : Int32} {a3 : Int32} {a4 : Option Nat} {r : (Int32 × AS)} (h : f_W_check S a0 a1 a2 a3 a4 = some r) : kr_Con m_W_check 10 [va_rf a0, .int a1, .int a2, .int a3, va_rf a4] S (kr_eI r) := by
  refine kr_conH rfl (by decide) (by decide +kernel) (by simp [lg_sl, kr_rfcat, kr_icat, m_W_check, mL]) ?_
  rw [show lv_args 0 [va_rf a0, .int a1, .int a2, .int a3, va_rf a4] = [(0, va_rf a0), (1, .int a1), (2, .int a2), (3, .int a3), (4, va_rf a4)] from by simp [lv_args, kr_rfcat, kr_icat]]
  unfold f_W_check at h
  refine r_aload (i := 4) (x := a4) 4 rfl d_W_check_0 ?_
  refine r_iconst (v := (0 : Int32)) (by decide) d_W_check_2 ?_
  refine r_aload_n (i := 0) (x := a0) 0 rfl d_W_check_3 ?_
  refine r_iload_n (i := 1) (x := a1) 1 rfl d_W_check_4 ?_
  refine r_iload_n (i := 2) (x := a2) 2 rfl d_W_check_5 ?_
  refine r_iload_n (i := 3) (x := a3) 3 rfl d_W_check_6 ?_
  have h2 := kr_ob h
  clear h
  obtain ⟨⟨⟩, eu1, h⟩ := h2
  rcases kr_obh h with ⟨v3, S2, eS2, h2⟩ | ⟨E, S2, eS2, h2⟩
  · clear h
    have h := h2
    clear h2
    refine r_callV (M1 := m_K_check) (κ := 22) (As := [.int a1, .int a2, .int a3]) eu1 (s_K_check eS2) mok_K_check rfl (by decide) rfl w1281 w1282 w1283 (by decide) (kr_c8 (kr_cI (kr_cR kr_c0))) d_W_check_7 (kr_k1 ?_) kr_kn
    refine r_i2l d_W_check_10 ?_
    have h2 := kr_ob h
    clear h
    obtain ⟨S4, eS4, h⟩ := h2
    refine r_lastore eS4 d_W_check_11 ?_
    refine r_goto (tgt := 23) d_W_check_12 rfl ?_
    refine r_iconst (v := (0 : Int32)) (by decide) d_W_check_23 ?_
    cases h
    exact r_iret rfl d_W_check_24
  · by_cases c0 : E = "java/lang/IndexOutOfBoundsException"
    · subst c0
      replace h2 := kr_ip rfl h2
      clear h
      have h := h2
      clear h2
      refine r_callV (M1 := m_K_check) (κ := 22) (As := [.int a1, .int a2, .int a3]) eu1 (s_K_check eS2) mok_K_check rfl (by decide) rfl w1281 w1282 w1283 (by decide) (kr_c8 (kr_cI (kr_cR kr_c0))) d_W_check_7 kr_nk (kr_kx ?_)
      refine r_catch (hd := (0, 12, 15, 21)) [] [(0, 12, 19, 13)] ⟨rfl, (fun _ hz => nomatch hz), ⟨by decide, by decide⟩, by decide, w554, w531⟩ (i := 5) (lv' := [(0, va_rf a0), (1, .int a1), (2, .int a2), (3, .int a3), (4, va_rf a4)]) (by show List.filter (fun (q : Nat × Value) => !(q.1 == 5) && !(q.1 + 1 == 5 && q.2.category == 2)) _ = _; simp [kr_rfcat, kr_icat]) (by decide) d_W_check_15 ?_
      refine r_iconst (v := (1 : Int32)) (by decide) d_W_check_17 ?_
      cases h
      exact r_iret rfl d_W_check_18
    replace h2 := kr_in_ c0 h2
    by_cases c1 : E = "java/lang/IllegalArgumentException"
    · subst c1
      replace h2 := kr_ip rfl h2
      clear h
      have h := h2
      clear h2
      refine r_callV (M1 := m_K_check) (κ := 22) (As := [.int a1, .int a2, .int a3]) eu1 (s_K_check eS2) mok_K_check rfl (by decide) rfl w1281 w1282 w1283 (by decide) (kr_c8 (kr_cI (kr_cR kr_c0))) d_W_check_7 kr_nk (kr_kx ?_)
      refine r_catch (hd := (0, 12, 19, 13)) [(0, 12, 15, 21)] [] ⟨rfl, (kr_pre ⟨"java/lang/IndexOutOfBoundsException", by decide, w554, by decide⟩ (fun _ hz => nomatch hz)), ⟨by decide, by decide⟩, by decide, w367, w381⟩ (i := 5) (lv' := [(0, va_rf a0), (1, .int a1), (2, .int a2), (3, .int a3), (4, va_rf a4)]) (by show List.filter (fun (q : Nat × Value) => !(q.1 == 5) && !(q.1 + 1 == 5 && q.2.category == 2)) _ = _; simp [kr_rfcat, kr_icat]) (by decide) d_W_check_19 ?_
      refine r_iconst (v := (2 : Int32)) (by decide) d_W_check_21 ?_
      cases h
      exact r_iret rfl d_W_check_22
    replace h2 := kr_in_ c1 h2
    cases h2
/-! KeyringCourtLaw.lag(LKeyringCourt;I[J)I -/
def f_W_lag (S : AS) (a0 : Option Nat) (a1 : Int32) (a2 : Option Nat) : Option (Int32 × AS) :=
  (kr_rv S 22 a0).bind fun u1 =>
  kr_bh (f_K_lag S a0 a1) (fun E S2 => if E = "java/lang/IndexOutOfBoundsException" then
  some ((1 : Int32), S2)
  else none) fun v3 S2 =>
  (bJ S2 a2 (0 : Int32) v3.toInt64).bind fun S4 =>
  some ((0 : Int32), S4)
set_option maxRecDepth 20000 in
set_option maxHeartbeats 4000000 in
theorem s_W_lag {S : AS} {a0 : Option Nat} {a1 : Int32} {a2 : Option Nat} {r : (Int32 × AS)} (h : f_W_lag S a0 a1 a2 = some r) : kr_Con m_W_lag 10 [va_rf a0, .int a1, va_rf a2] S (kr_eI r) := by
  refine kr_conH rfl (by decide) (by decide +kernel) (by simp [lg_sl, kr_rfcat, kr_icat, m_W_lag, mL]) ?_
  rw [show lv_args 0 [va_rf a0, .int a1, va_rf a2] = [(0, va_rf a0), (1, .int a1), (2, va_rf a2)] from by simp [lv_args, kr_rfcat, kr_icat]]
  unfold f_W_lag at h
  refine r_aload_n (i := 2) (x := a2) 2 rfl d_W_lag_0 ?_
  refine r_iconst (v := (0 : Int32)) (by decide) d_W_lag_1 ?_
  refine r_aload_n (i := 0) (x := a0) 0 rfl d_W_lag_2 ?_
  refine r_iload_n (i := 1) (x := a1) 1 rfl d_W_lag_3 ?_
  have h2 := kr_ob h
  clear h
  obtain ⟨⟨⟩, eu1, h⟩ := h2
  rcases kr_obh h with ⟨v3, S2, eS2, h2⟩ | ⟨E, S2, eS2, h2⟩
  · clear h
    have h := h2
    clear h2
    refine r_callV (M1 := m_K_lag) (κ := 22) (As := [.int a1]) eu1 (s_K_lag eS2) mok_K_lag rfl (by decide) rfl w1292 w1293 w1294 (by decide) (kr_c8 (kr_cI (kr_cR kr_c0))) d_W_lag_4 (kr_k1 ?_) kr_kn
    refine r_i2l d_W_lag_7 ?_
    have h2 := kr_ob h
    clear h
    obtain ⟨S4, eS4, h⟩ := h2
    refine r_lastore eS4 d_W_lag_8 ?_
    refine r_goto (tgt := 15) d_W_lag_9 rfl ?_
    refine r_iconst (v := (0 : Int32)) (by decide) d_W_lag_15 ?_
    cases h
    exact r_iret rfl d_W_lag_16
  · by_cases c0 : E = "java/lang/IndexOutOfBoundsException"
    · subst c0
      replace h2 := kr_ip rfl h2
      clear h
      have h := h2
      clear h2
      refine r_callV (M1 := m_K_lag) (κ := 22) (As := [.int a1]) eu1 (s_K_lag eS2) mok_K_lag rfl (by decide) rfl w1292 w1293 w1294 (by decide) (kr_c8 (kr_cI (kr_cR kr_c0))) d_W_lag_4 kr_nk (kr_kx ?_)
      refine r_catch_n (hd := (0, 9, 12, 21)) [] [] ⟨rfl, (fun _ hz => nomatch hz), ⟨by decide, by decide⟩, by decide, w554, w531⟩ (i := 3) (lv' := [(0, va_rf a0), (1, .int a1), (2, va_rf a2)]) (by show List.filter (fun (q : Nat × Value) => !(q.1 == 3) && !(q.1 + 1 == 3 && q.2.category == 2)) _ = _; simp [kr_rfcat, kr_icat]) (by decide) d_W_lag_12 ?_
      refine r_iconst (v := (1 : Int32)) (by decide) d_W_lag_13 ?_
      cases h
      exact r_iret rfl d_W_lag_14
    replace h2 := kr_in_ c0 h2
    cases h2
/-! KeyringCourtLaw.recover(LKeyringCourt;I[J)I -/
def f_W_recover (S : AS) (a0 : Option Nat) (a1 : Int32) (a2 : Option Nat) : Option (Int32 × AS) :=
  (kr_rv S 22 a0).bind fun u1 =>
  kr_bh (f_K_recover S a0 a1) (fun E S2 => if E = "java/lang/IndexOutOfBoundsException" then
  some ((1 : Int32), S2)
  else if E = "java/lang/IllegalStateException" then
  some ((2 : Int32), S2)
  else none) fun v3 S2 =>
  (bJ S2 a2 (0 : Int32) v3.toInt64).bind fun S4 =>
  some ((0 : Int32), S4)
set_option maxRecDepth 20000 in
set_option maxHeartbeats 4000000 in
theorem s_W_recover {S : AS} {a0 : Option Nat} {a1 : Int32} {a2 : Option Nat} {r : (Int32 × AS)} (h : f_W_recover S a0 a1 a2 = some r) : kr_Con m_W_recover 9 [va_rf a0, .int a1, va_rf a2] S (kr_eI r) := by
  refine kr_conH rfl (by decide) (by decide +kernel) (by simp [lg_sl, kr_rfcat, kr_icat, m_W_recover, mL]) ?_
  rw [show lv_args 0 [va_rf a0, .int a1, va_rf a2] = [(0, va_rf a0), (1, .int a1), (2, va_rf a2)] from by simp [lv_args, kr_rfcat, kr_icat]]
  unfold f_W_recover at h
  refine r_aload_n (i := 2) (x := a2) 2 rfl d_W_recover_0 ?_
  refine r_iconst (v := (0 : Int32)) (by decide) d_W_recover_1 ?_
  refine r_aload_n (i := 0) (x := a0) 0 rfl d_W_recover_2 ?_
  refine r_iload_n (i := 1) (x := a1) 1 rfl d_W_recover_3 ?_
  have h2 := kr_ob h
  clear h
  obtain ⟨⟨⟩, eu1, h⟩ := h2
  rcases kr_obh h with ⟨v3, S2, eS2, h2⟩ | ⟨E, S2, eS2, h2⟩
  · clear h
    have h := h2
    clear h2
    refine r_callV (M1 := m_K_recover) (κ := 22) (As := [.int a1]) eu1 (s_K_recover eS2) mok_K_recover rfl (by decide) rfl w1300 w1301 w1302 (by decide) (kr_c8 (kr_cI (kr_cR kr_c0))) d_W_recover_4 (kr_k1 ?_) kr_kn
    refine r_i2l d_W_recover_7 ?_
    have h2 := kr_ob h
    clear h
    obtain ⟨S4, eS4, h⟩ := h2
    refine r_lastore eS4 d_W_recover_8 ?_
    refine r_goto (tgt := 18) d_W_recover_9 rfl ?_
    refine r_iconst (v := (0 : Int32)) (by decide) d_W_recover_18 ?_
    cases h
    exact r_iret rfl d_W_recover_19
  · by_cases c0 : E = "java/lang/IndexOutOfBoundsException"
    · subst c0
      replace h2 := kr_ip rfl h2
      clear h
      have h := h2
      clear h2
      refine r_callV (M1 := m_K_recover) (κ := 22) (As := [.int a1]) eu1 (s_K_recover eS2) mok_K_recover rfl (by decide) rfl w1300 w1301 w1302 (by decide) (kr_c8 (kr_cI (kr_cR kr_c0))) d_W_recover_4 kr_nk (kr_kx ?_)
      refine r_catch_n (hd := (0, 9, 12, 21)) [] [(0, 9, 15, 15)] ⟨rfl, (fun _ hz => nomatch hz), ⟨by decide, by decide⟩, by decide, w554, w531⟩ (i := 3) (lv' := [(0, va_rf a0), (1, .int a1), (2, va_rf a2)]) (by show List.filter (fun (q : Nat × Value) => !(q.1 == 3) && !(q.1 + 1 == 3 && q.2.category == 2)) _ = _; simp [kr_rfcat, kr_icat]) (by decide) d_W_recover_12 ?_
      refine r_iconst (v := (1 : Int32)) (by decide) d_W_recover_13 ?_
      cases h
      exact r_iret rfl d_W_recover_14
    replace h2 := kr_in_ c0 h2
    by_cases c1 : E = "java/lang/IllegalStateException"
    · subst c1
      replace h2 := kr_ip rfl h2
      clear h
      have h := h2
      clear h2
      refine r_callV (M1 := m_K_recover) (κ := 22) (As := [.int a1]) eu1 (s_K_recover eS2) mok_K_recover rfl (by decide) rfl w1300 w1301 w1302 (by decide) (kr_c8 (kr_cI (kr_cR kr_c0))) d_W_recover_4 kr_nk (kr_kx ?_)
      refine r_catch_n (hd := (0, 9, 15, 15)) [(0, 9, 12, 21)] [] ⟨rfl, (kr_pre ⟨"java/lang/IndexOutOfBoundsException", by decide, w554, by decide⟩ (fun _ hz => nomatch hz)), ⟨by decide, by decide⟩, by decide, w368, w447⟩ (i := 3) (lv' := [(0, va_rf a0), (1, .int a1), (2, va_rf a2)]) (by show List.filter (fun (q : Nat × Value) => !(q.1 == 3) && !(q.1 + 1 == 3 && q.2.category == 2)) _ = _; simp [kr_rfcat, kr_icat]) (by decide) d_W_recover_15 ?_
      refine r_iconst (v := (2 : Int32)) (by decide) d_W_recover_16 ?_
      cases h
      exact r_iret rfl d_W_recover_17
    replace h2 := kr_in_ c1 h2
    cases h2
/-! KeyringCourtLaw.vouch(LKeyringCourt;II[J)I -/
def f_W_vouch (S : AS) (a0 : Option Nat) (a1 : Int32) (a2 : Int32) (a3 : Option Nat) : Option (Int32 × AS) :=
  (kr_rv S 22 a0).bind fun u1 =>
  kr_bh (f_K_vouch S a0 a1 a2) (fun E S2 => if E = "java/lang/IndexOutOfBoundsException" then
  some ((1 : Int32), S2)
  else if E = "java/lang/IllegalStateException" then
  some ((2 : Int32), S2)
  else none) fun v3 S2 =>
  (bJ S2 a3 (0 : Int32) v3.toInt64).bind fun S4 =>
  some ((0 : Int32), S4)
set_option maxRecDepth 20000 in
set_option maxHeartbeats 4000000 in
theorem s_W_vouch {S : AS} {a0 : Option Nat} {a1 : Int32} {a2 : Int32} {a3 : Option Nat} {r : (Int32 × AS)} (h : f_W_vouch S a0 a1 a2 a3 = some r) : kr_Con m_W_vouch 10 [va_rf a0, .int a1, .int a2, va_rf a3] S (kr_eI r) := by
  refine kr_conH rfl (by decide) (by decide +kernel) (by simp [lg_sl, kr_rfcat, kr_icat, m_W_vouch, mL]) ?_
  rw [show lv_args 0 [va_rf a0, .int a1, .int a2, va_rf a3] = [(0, va_rf a0), (1, .int a1), (2, .int a2), (3, va_rf a3)] from by simp [lv_args, kr_rfcat, kr_icat]]
  unfold f_W_vouch at h
  refine r_aload_n (i := 3) (x := a3) 3 rfl d_W_vouch_0 ?_
  refine r_iconst (v := (0 : Int32)) (by decide) d_W_vouch_1 ?_
  refine r_aload_n (i := 0) (x := a0) 0 rfl d_W_vouch_2 ?_
  refine r_iload_n (i := 1) (x := a1) 1 rfl d_W_vouch_3 ?_
  refine r_iload_n (i := 2) (x := a2) 2 rfl d_W_vouch_4 ?_
  have h2 := kr_ob h
  clear h
  obtain ⟨⟨⟩, eu1, h⟩ := h2
  rcases kr_obh h with ⟨v3, S2, eS2, h2⟩ | ⟨E, S2, eS2, h2⟩
  · clear h
    have h := h2
    clear h2
    refine r_callV (M1 := m_K_vouch) (κ := 22) (As := [.int a1, .int a2]) eu1 (s_K_vouch eS2) mok_K_vouch rfl (by decide) rfl w1337 w1338 w1339 (by decide) (kr_c8 (kr_cI (kr_cR kr_c0))) d_W_vouch_5 (kr_k1 ?_) kr_kn
    refine r_i2l d_W_vouch_8 ?_
    have h2 := kr_ob h
    clear h
    obtain ⟨S4, eS4, h⟩ := h2
    refine r_lastore eS4 d_W_vouch_9 ?_
    refine r_goto (tgt := 21) d_W_vouch_10 rfl ?_
    refine r_iconst (v := (0 : Int32)) (by decide) d_W_vouch_21 ?_
    cases h
    exact r_iret rfl d_W_vouch_22
  · by_cases c0 : E = "java/lang/IndexOutOfBoundsException"
    · subst c0
      replace h2 := kr_ip rfl h2
      clear h
      have h := h2
      clear h2
      refine r_callV (M1 := m_K_vouch) (κ := 22) (As := [.int a1, .int a2]) eu1 (s_K_vouch eS2) mok_K_vouch rfl (by decide) rfl w1337 w1338 w1339 (by decide) (kr_c8 (kr_cI (kr_cR kr_c0))) d_W_vouch_5 kr_nk (kr_kx ?_)
      refine r_catch (hd := (0, 10, 13, 21)) [] [(0, 10, 17, 15)] ⟨rfl, (fun _ hz => nomatch hz), ⟨by decide, by decide⟩, by decide, w554, w531⟩ (i := 4) (lv' := [(0, va_rf a0), (1, .int a1), (2, .int a2), (3, va_rf a3)]) (by show List.filter (fun (q : Nat × Value) => !(q.1 == 4) && !(q.1 + 1 == 4 && q.2.category == 2)) _ = _; simp [kr_rfcat, kr_icat]) (by decide) d_W_vouch_13 ?_
      refine r_iconst (v := (1 : Int32)) (by decide) d_W_vouch_15 ?_
      cases h
      exact r_iret rfl d_W_vouch_16
    replace h2 := kr_in_ c0 h2
    by_cases c1 : E = "java/lang/IllegalStateException"
    · subst c1
      replace h2 := kr_ip rfl h2
      clear h
      have h := h2
      clear h2
      refine r_callV (M1 := m_K_vouch) (κ := 22) (As := [.int a1, .int a2]) eu1 (s_K_vouch eS2) mok_K_vouch rfl (by decide) rfl w1337 w1338 w1339 (by decide) (kr_c8 (kr_cI (kr_cR kr_c0))) d_W_vouch_5 kr_nk (kr_kx ?_)
      refine r_catch (hd := (0, 10, 17, 15)) [(0, 10, 13, 21)] [] ⟨rfl, (kr_pre ⟨"java/lang/IndexOutOfBoundsException", by decide, w554, by decide⟩ (fun _ hz => nomatch hz)), ⟨by decide, by decide⟩, by decide, w368, w447⟩ (i := 4) (lv' := [(0, va_rf a0), (1, .int a1), (2, .int a2), (3, va_rf a3)]) (by show List.filter (fun (q : Nat × Value) => !(q.1 == 4) && !(q.1 + 1 == 4 && q.2.category == 2)) _ = _; simp [kr_rfcat, kr_icat]) (by decide) d_W_vouch_17 ?_
      refine r_iconst (v := (2 : Int32)) (by decide) d_W_vouch_19 ?_
      cases h
      exact r_iret rfl d_W_vouch_20
    replace h2 := kr_in_ c1 h2
    cases h2
/-! KeyringCourtLaw.stop(LKeyringCourt;II[J)I -/
def f_W_stop (S : AS) (a0 : Option Nat) (a1 : Int32) (a2 : Int32) (a3 : Option Nat) : Option (Int32 × AS) :=
  (kr_rv S 22 a0).bind fun u1 =>
  kr_bh (f_K_stop S a0 a1 a2) (fun E S2 => if E = "java/lang/IndexOutOfBoundsException" then
  some ((1 : Int32), S2)
  else if E = "java/lang/IllegalStateException" then
  some ((2 : Int32), S2)
  else none) fun v3 S2 =>
  (bJ S2 a3 (0 : Int32) v3.toInt64).bind fun S4 =>
  some ((0 : Int32), S4)
set_option maxRecDepth 20000 in
set_option maxHeartbeats 4000000 in
theorem s_W_stop {S : AS} {a0 : Option Nat} {a1 : Int32} {a2 : Int32} {a3 : Option Nat} {r : (Int32 × AS)} (h : f_W_stop S a0 a1 a2 a3 = some r) : kr_Con m_W_stop 10 [va_rf a0, .int a1, .int a2, va_rf a3] S (kr_eI r) := by
  refine kr_conH rfl (by decide) (by decide +kernel) (by simp [lg_sl, kr_rfcat, kr_icat, m_W_stop, mL]) ?_
  rw [show lv_args 0 [va_rf a0, .int a1, .int a2, va_rf a3] = [(0, va_rf a0), (1, .int a1), (2, .int a2), (3, va_rf a3)] from by simp [lv_args, kr_rfcat, kr_icat]]
  unfold f_W_stop at h
  refine r_aload_n (i := 3) (x := a3) 3 rfl d_W_stop_0 ?_
  refine r_iconst (v := (0 : Int32)) (by decide) d_W_stop_1 ?_
  refine r_aload_n (i := 0) (x := a0) 0 rfl d_W_stop_2 ?_
  refine r_iload_n (i := 1) (x := a1) 1 rfl d_W_stop_3 ?_
  refine r_iload_n (i := 2) (x := a2) 2 rfl d_W_stop_4 ?_
  have h2 := kr_ob h
  clear h
  obtain ⟨⟨⟩, eu1, h⟩ := h2
  rcases kr_obh h with ⟨v3, S2, eS2, h2⟩ | ⟨E, S2, eS2, h2⟩
  · clear h
    have h := h2
    clear h2
    refine r_callV (M1 := m_K_stop) (κ := 22) (As := [.int a1, .int a2]) eu1 (s_K_stop eS2) mok_K_stop rfl (by decide) rfl w1348 w1349 w1350 (by decide) (kr_c8 (kr_cI (kr_cR kr_c0))) d_W_stop_5 (kr_k1 ?_) kr_kn
    refine r_i2l d_W_stop_8 ?_
    have h2 := kr_ob h
    clear h
    obtain ⟨S4, eS4, h⟩ := h2
    refine r_lastore eS4 d_W_stop_9 ?_
    refine r_goto (tgt := 21) d_W_stop_10 rfl ?_
    refine r_iconst (v := (0 : Int32)) (by decide) d_W_stop_21 ?_
    cases h
    exact r_iret rfl d_W_stop_22
  · by_cases c0 : E = "java/lang/IndexOutOfBoundsException"
    · subst c0
      replace h2 := kr_ip rfl h2
      clear h
      have h := h2
      clear h2
      refine r_callV (M1 := m_K_stop) (κ := 22) (As := [.int a1, .int a2]) eu1 (s_K_stop eS2) mok_K_stop rfl (by decide) rfl w1348 w1349 w1350 (by decide) (kr_c8 (kr_cI (kr_cR kr_c0))) d_W_stop_5 kr_nk (kr_kx ?_)
      refine r_catch (hd := (0, 10, 13, 21)) [] [(0, 10, 17, 15)] ⟨rfl, (fun _ hz => nomatch hz), ⟨by decide, by decide⟩, by decide, w554, w531⟩ (i := 4) (lv' := [(0, va_rf a0), (1, .int a1), (2, .int a2), (3, va_rf a3)]) (by show List.filter (fun (q : Nat × Value) => !(q.1 == 4) && !(q.1 + 1 == 4 && q.2.category == 2)) _ = _; simp [kr_rfcat, kr_icat]) (by decide) d_W_stop_13 ?_
      refine r_iconst (v := (1 : Int32)) (by decide) d_W_stop_15 ?_
      cases h
      exact r_iret rfl d_W_stop_16
    replace h2 := kr_in_ c0 h2
    by_cases c1 : E = "java/lang/IllegalStateException"
    · subst c1
      replace h2 := kr_ip rfl h2
      clear h
      have h := h2
      clear h2
      refine r_callV (M1 := m_K_stop) (κ := 22) (As := [.int a1, .int a2]) eu1 (s_K_stop eS2) mok_K_stop rfl (by decide) rfl w1348 w1349 w1350 (by decide) (kr_c8 (kr_cI (kr_cR kr_c0))) d_W_stop_5 kr_nk (kr_kx ?_)
      refine r_catch (hd := (0, 10, 17, 15)) [(0, 10, 13, 21)] [] ⟨rfl, (kr_pre ⟨"java/lang/IndexOutOfBoundsException", by decide, w554, by decide⟩ (fun _ hz => nomatch hz)), ⟨by decide, by decide⟩, by decide, w368, w447⟩ (i := 4) (lv' := [(0, va_rf a0), (1, .int a1), (2, .int a2), (3, va_rf a3)]) (by show List.filter (fun (q : Nat × Value) => !(q.1 == 4) && !(q.1 + 1 == 4 && q.2.category == 2)) _ = _; simp [kr_rfcat, kr_icat]) (by decide) d_W_stop_17 ?_
      refine r_iconst (v := (2 : Int32)) (by decide) d_W_stop_19 ?_
      cases h
      exact r_iret rfl d_W_stop_20
    replace h2 := kr_in_ c1 h2
    cases h2
/-! KeyringCourtLaw.finish(LKeyringCourt;I[J)I -/
def f_W_finish (S : AS) (a0 : Option Nat) (a1 : Int32) (a2 : Option Nat) : Option (Int32 × AS) :=
  (kr_rv S 22 a0).bind fun u1 =>
  kr_bh (f_K_finish S a0 a1) (fun E S2 => if E = "java/lang/IndexOutOfBoundsException" then
  some ((1 : Int32), S2)
  else if E = "java/lang/IllegalStateException" then
  some ((2 : Int32), S2)
  else none) fun v3 S2 =>
  (bJ S2 a2 (0 : Int32) v3.toInt64).bind fun S4 =>
  some ((0 : Int32), S4)
set_option maxRecDepth 20000 in
set_option maxHeartbeats 4000000 in
theorem s_W_finish {S : AS} {a0 : Option Nat} {a1 : Int32} {a2 : Option Nat} {r : (Int32 × AS)} (h : f_W_finish S a0 a1 a2 = some r) : kr_Con m_W_finish 13 [va_rf a0, .int a1, va_rf a2] S (kr_eI r) := by
  refine kr_conH rfl (by decide) (by decide +kernel) (by simp [lg_sl, kr_rfcat, kr_icat, m_W_finish, mL]) ?_
  rw [show lv_args 0 [va_rf a0, .int a1, va_rf a2] = [(0, va_rf a0), (1, .int a1), (2, va_rf a2)] from by simp [lv_args, kr_rfcat, kr_icat]]
  unfold f_W_finish at h
  refine r_aload_n (i := 2) (x := a2) 2 rfl d_W_finish_0 ?_
  refine r_iconst (v := (0 : Int32)) (by decide) d_W_finish_1 ?_
  refine r_aload_n (i := 0) (x := a0) 0 rfl d_W_finish_2 ?_
  refine r_iload_n (i := 1) (x := a1) 1 rfl d_W_finish_3 ?_
  have h2 := kr_ob h
  clear h
  obtain ⟨⟨⟩, eu1, h⟩ := h2
  rcases kr_obh h with ⟨v3, S2, eS2, h2⟩ | ⟨E, S2, eS2, h2⟩
  · clear h
    have h := h2
    clear h2
    refine r_callV (M1 := m_K_finish) (κ := 22) (As := [.int a1]) eu1 (s_K_finish eS2) mok_K_finish rfl (by decide) rfl w1365 w1366 w1367 (by decide) (kr_c8 (kr_cI (kr_cR kr_c0))) d_W_finish_4 (kr_k1 ?_) kr_kn
    refine r_i2l d_W_finish_7 ?_
    have h2 := kr_ob h
    clear h
    obtain ⟨S4, eS4, h⟩ := h2
    refine r_lastore eS4 d_W_finish_8 ?_
    refine r_goto (tgt := 18) d_W_finish_9 rfl ?_
    refine r_iconst (v := (0 : Int32)) (by decide) d_W_finish_18 ?_
    cases h
    exact r_iret rfl d_W_finish_19
  · by_cases c0 : E = "java/lang/IndexOutOfBoundsException"
    · subst c0
      replace h2 := kr_ip rfl h2
      clear h
      have h := h2
      clear h2
      refine r_callV (M1 := m_K_finish) (κ := 22) (As := [.int a1]) eu1 (s_K_finish eS2) mok_K_finish rfl (by decide) rfl w1365 w1366 w1367 (by decide) (kr_c8 (kr_cI (kr_cR kr_c0))) d_W_finish_4 kr_nk (kr_kx ?_)
      refine r_catch_n (hd := (0, 9, 12, 21)) [] [(0, 9, 15, 15)] ⟨rfl, (fun _ hz => nomatch hz), ⟨by decide, by decide⟩, by decide, w554, w531⟩ (i := 3) (lv' := [(0, va_rf a0), (1, .int a1), (2, va_rf a2)]) (by show List.filter (fun (q : Nat × Value) => !(q.1 == 3) && !(q.1 + 1 == 3 && q.2.category == 2)) _ = _; simp [kr_rfcat, kr_icat]) (by decide) d_W_finish_12 ?_
      refine r_iconst (v := (1 : Int32)) (by decide) d_W_finish_13 ?_
      cases h
      exact r_iret rfl d_W_finish_14
    replace h2 := kr_in_ c0 h2
    by_cases c1 : E = "java/lang/IllegalStateException"
    · subst c1
      replace h2 := kr_ip rfl h2
      clear h
      have h := h2
      clear h2
      refine r_callV (M1 := m_K_finish) (κ := 22) (As := [.int a1]) eu1 (s_K_finish eS2) mok_K_finish rfl (by decide) rfl w1365 w1366 w1367 (by decide) (kr_c8 (kr_cI (kr_cR kr_c0))) d_W_finish_4 kr_nk (kr_kx ?_)
      refine r_catch_n (hd := (0, 9, 15, 15)) [(0, 9, 12, 21)] [] ⟨rfl, (kr_pre ⟨"java/lang/IndexOutOfBoundsException", by decide, w554, by decide⟩ (fun _ hz => nomatch hz)), ⟨by decide, by decide⟩, by decide, w368, w447⟩ (i := 3) (lv' := [(0, va_rf a0), (1, .int a1), (2, va_rf a2)]) (by show List.filter (fun (q : Nat × Value) => !(q.1 == 3) && !(q.1 + 1 == 3 && q.2.category == 2)) _ = _; simp [kr_rfcat, kr_icat]) (by decide) d_W_finish_15 ?_
      refine r_iconst (v := (2 : Int32)) (by decide) d_W_finish_16 ?_
      cases h
      exact r_iret rfl d_W_finish_17
    replace h2 := kr_in_ c1 h2
    cases h2
/-! KeyringCourtLaw.link(LKeyringCourt;II[J)I -/
def f_W_link (S : AS) (a0 : Option Nat) (a1 : Int32) (a2 : Int32) (a3 : Option Nat) : Option (Int32 × AS) :=
  (kr_rv S 22 a0).bind fun u1 =>
  kr_bh (f_K_link S a0 a1 a2) (fun E S2 => if E = "java/lang/IndexOutOfBoundsException" then
  some ((1 : Int32), S2)
  else if E = "java/lang/IllegalStateException" then
  some ((2 : Int32), S2)
  else none) fun v3 S2 =>
  (bJ S2 a3 (0 : Int32) v3.toInt64).bind fun S4 =>
  some ((0 : Int32), S4)
set_option maxRecDepth 20000 in
set_option maxHeartbeats 4000000 in
theorem s_W_link {S : AS} {a0 : Option Nat} {a1 : Int32} {a2 : Int32} {a3 : Option Nat} {r : (Int32 × AS)} (h : f_W_link S a0 a1 a2 a3 = some r) : kr_Con m_W_link 9 [va_rf a0, .int a1, .int a2, va_rf a3] S (kr_eI r) := by
  refine kr_conH rfl (by decide) (by decide +kernel) (by simp [lg_sl, kr_rfcat, kr_icat, m_W_link, mL]) ?_
  rw [show lv_args 0 [va_rf a0, .int a1, .int a2, va_rf a3] = [(0, va_rf a0), (1, .int a1), (2, .int a2), (3, va_rf a3)] from by simp [lv_args, kr_rfcat, kr_icat]]
  unfold f_W_link at h
  refine r_aload_n (i := 3) (x := a3) 3 rfl d_W_link_0 ?_
  refine r_iconst (v := (0 : Int32)) (by decide) d_W_link_1 ?_
  refine r_aload_n (i := 0) (x := a0) 0 rfl d_W_link_2 ?_
  refine r_iload_n (i := 1) (x := a1) 1 rfl d_W_link_3 ?_
  refine r_iload_n (i := 2) (x := a2) 2 rfl d_W_link_4 ?_
  have h2 := kr_ob h
  clear h
  obtain ⟨⟨⟩, eu1, h⟩ := h2
  rcases kr_obh h with ⟨v3, S2, eS2, h2⟩ | ⟨E, S2, eS2, h2⟩
  · clear h
    have h := h2
    clear h2
    refine r_callV (M1 := m_K_link) (κ := 22) (As := [.int a1, .int a2]) eu1 (s_K_link eS2) mok_K_link rfl (by decide) rfl w1385 w1386 w1387 (by decide) (kr_c8 (kr_cI (kr_cR kr_c0))) d_W_link_5 (kr_k1 ?_) kr_kn
    refine r_i2l d_W_link_8 ?_
    have h2 := kr_ob h
    clear h
    obtain ⟨S4, eS4, h⟩ := h2
    refine r_lastore eS4 d_W_link_9 ?_
    refine r_goto (tgt := 21) d_W_link_10 rfl ?_
    refine r_iconst (v := (0 : Int32)) (by decide) d_W_link_21 ?_
    cases h
    exact r_iret rfl d_W_link_22
  · by_cases c0 : E = "java/lang/IndexOutOfBoundsException"
    · subst c0
      replace h2 := kr_ip rfl h2
      clear h
      have h := h2
      clear h2
      refine r_callV (M1 := m_K_link) (κ := 22) (As := [.int a1, .int a2]) eu1 (s_K_link eS2) mok_K_link rfl (by decide) rfl w1385 w1386 w1387 (by decide) (kr_c8 (kr_cI (kr_cR kr_c0))) d_W_link_5 kr_nk (kr_kx ?_)
      refine r_catch (hd := (0, 10, 13, 21)) [] [(0, 10, 17, 15)] ⟨rfl, (fun _ hz => nomatch hz), ⟨by decide, by decide⟩, by decide, w554, w531⟩ (i := 4) (lv' := [(0, va_rf a0), (1, .int a1), (2, .int a2), (3, va_rf a3)]) (by show List.filter (fun (q : Nat × Value) => !(q.1 == 4) && !(q.1 + 1 == 4 && q.2.category == 2)) _ = _; simp [kr_rfcat, kr_icat]) (by decide) d_W_link_13 ?_
      refine r_iconst (v := (1 : Int32)) (by decide) d_W_link_15 ?_
      cases h
      exact r_iret rfl d_W_link_16
    replace h2 := kr_in_ c0 h2
    by_cases c1 : E = "java/lang/IllegalStateException"
    · subst c1
      replace h2 := kr_ip rfl h2
      clear h
      have h := h2
      clear h2
      refine r_callV (M1 := m_K_link) (κ := 22) (As := [.int a1, .int a2]) eu1 (s_K_link eS2) mok_K_link rfl (by decide) rfl w1385 w1386 w1387 (by decide) (kr_c8 (kr_cI (kr_cR kr_c0))) d_W_link_5 kr_nk (kr_kx ?_)
      refine r_catch (hd := (0, 10, 17, 15)) [(0, 10, 13, 21)] [] ⟨rfl, (kr_pre ⟨"java/lang/IndexOutOfBoundsException", by decide, w554, by decide⟩ (fun _ hz => nomatch hz)), ⟨by decide, by decide⟩, by decide, w368, w447⟩ (i := 4) (lv' := [(0, va_rf a0), (1, .int a1), (2, .int a2), (3, va_rf a3)]) (by show List.filter (fun (q : Nat × Value) => !(q.1 == 4) && !(q.1 + 1 == 4 && q.2.category == 2)) _ = _; simp [kr_rfcat, kr_icat]) (by decide) d_W_link_17 ?_
      refine r_iconst (v := (2 : Int32)) (by decide) d_W_link_19 ?_
      cases h
      exact r_iret rfl d_W_link_20
    replace h2 := kr_in_ c1 h2
    cases h2
/-! KeyringCourtLaw.foreign(LKeyringCourt;I[J)I -/
def f_W_foreign (S : AS) (a0 : Option Nat) (a1 : Int32) (a2 : Option Nat) : Option (Int32 × AS) :=
  (kr_rv S 22 a0).bind fun u1 =>
  kr_bh (f_K_foreign S a0 a1) (fun E S2 => if E = "java/lang/IndexOutOfBoundsException" then
  some ((1 : Int32), S2)
  else if E = "java/lang/IllegalStateException" then
  some ((2 : Int32), S2)
  else none) fun v3 S2 =>
  (bJ S2 a2 (0 : Int32) v3.toInt64).bind fun S4 =>
  some ((0 : Int32), S4)
set_option maxRecDepth 20000 in
set_option maxHeartbeats 4000000 in
theorem s_W_foreign {S : AS} {a0 : Option Nat} {a1 : Int32} {a2 : Option Nat} {r : (Int32 × AS)} (h : f_W_foreign S a0 a1 a2 = some r) : kr_Con m_W_foreign 9 [va_rf a0, .int a1, va_rf a2] S (kr_eI r) := by
  refine kr_conH rfl (by decide) (by decide +kernel) (by simp [lg_sl, kr_rfcat, kr_icat, m_W_foreign, mL]) ?_
  rw [show lv_args 0 [va_rf a0, .int a1, va_rf a2] = [(0, va_rf a0), (1, .int a1), (2, va_rf a2)] from by simp [lv_args, kr_rfcat, kr_icat]]
  unfold f_W_foreign at h
  refine r_aload_n (i := 2) (x := a2) 2 rfl d_W_foreign_0 ?_
  refine r_iconst (v := (0 : Int32)) (by decide) d_W_foreign_1 ?_
  refine r_aload_n (i := 0) (x := a0) 0 rfl d_W_foreign_2 ?_
  refine r_iload_n (i := 1) (x := a1) 1 rfl d_W_foreign_3 ?_
  have h2 := kr_ob h
  clear h
  obtain ⟨⟨⟩, eu1, h⟩ := h2
  rcases kr_obh h with ⟨v3, S2, eS2, h2⟩ | ⟨E, S2, eS2, h2⟩
  · clear h
    have h := h2
    clear h2
    refine r_callV (M1 := m_K_foreign) (κ := 22) (As := [.int a1]) eu1 (s_K_foreign eS2) mok_K_foreign rfl (by decide) rfl w1392 w1393 w1394 (by decide) (kr_c8 (kr_cI (kr_cR kr_c0))) d_W_foreign_4 (kr_k1 ?_) kr_kn
    refine r_i2l d_W_foreign_7 ?_
    have h2 := kr_ob h
    clear h
    obtain ⟨S4, eS4, h⟩ := h2
    refine r_lastore eS4 d_W_foreign_8 ?_
    refine r_goto (tgt := 18) d_W_foreign_9 rfl ?_
    refine r_iconst (v := (0 : Int32)) (by decide) d_W_foreign_18 ?_
    cases h
    exact r_iret rfl d_W_foreign_19
  · by_cases c0 : E = "java/lang/IndexOutOfBoundsException"
    · subst c0
      replace h2 := kr_ip rfl h2
      clear h
      have h := h2
      clear h2
      refine r_callV (M1 := m_K_foreign) (κ := 22) (As := [.int a1]) eu1 (s_K_foreign eS2) mok_K_foreign rfl (by decide) rfl w1392 w1393 w1394 (by decide) (kr_c8 (kr_cI (kr_cR kr_c0))) d_W_foreign_4 kr_nk (kr_kx ?_)
      refine r_catch_n (hd := (0, 9, 12, 21)) [] [(0, 9, 15, 15)] ⟨rfl, (fun _ hz => nomatch hz), ⟨by decide, by decide⟩, by decide, w554, w531⟩ (i := 3) (lv' := [(0, va_rf a0), (1, .int a1), (2, va_rf a2)]) (by show List.filter (fun (q : Nat × Value) => !(q.1 == 3) && !(q.1 + 1 == 3 && q.2.category == 2)) _ = _; simp [kr_rfcat, kr_icat]) (by decide) d_W_foreign_12 ?_
      refine r_iconst (v := (1 : Int32)) (by decide) d_W_foreign_13 ?_
      cases h
      exact r_iret rfl d_W_foreign_14
    replace h2 := kr_in_ c0 h2
    by_cases c1 : E = "java/lang/IllegalStateException"
    · subst c1
      replace h2 := kr_ip rfl h2
      clear h
      have h := h2
      clear h2
      refine r_callV (M1 := m_K_foreign) (κ := 22) (As := [.int a1]) eu1 (s_K_foreign eS2) mok_K_foreign rfl (by decide) rfl w1392 w1393 w1394 (by decide) (kr_c8 (kr_cI (kr_cR kr_c0))) d_W_foreign_4 kr_nk (kr_kx ?_)
      refine r_catch_n (hd := (0, 9, 15, 15)) [(0, 9, 12, 21)] [] ⟨rfl, (kr_pre ⟨"java/lang/IndexOutOfBoundsException", by decide, w554, by decide⟩ (fun _ hz => nomatch hz)), ⟨by decide, by decide⟩, by decide, w368, w447⟩ (i := 3) (lv' := [(0, va_rf a0), (1, .int a1), (2, va_rf a2)]) (by show List.filter (fun (q : Nat × Value) => !(q.1 == 3) && !(q.1 + 1 == 3 && q.2.category == 2)) _ = _; simp [kr_rfcat, kr_icat]) (by decide) d_W_foreign_15 ?_
      refine r_iconst (v := (2 : Int32)) (by decide) d_W_foreign_16 ?_
      cases h
      exact r_iret rfl d_W_foreign_17
    replace h2 := kr_in_ c1 h2
    cases h2
/-! KeyringCourtLaw.leave(LKeyringCourt;I[J)I -/
def f_W_leave (S : AS) (a0 : Option Nat) (a1 : Int32) (a2 : Option Nat) : Option (Int32 × AS) :=
  (kr_rv S 22 a0).bind fun u1 =>
  kr_bh (f_K_leave S a0 a1) (fun E S2 => if E = "java/lang/IndexOutOfBoundsException" then
  some ((1 : Int32), S2)
  else none) fun v3 S2 =>
  (bJ S2 a2 (0 : Int32) v3.toInt64).bind fun S4 =>
  some ((0 : Int32), S4)
set_option maxRecDepth 20000 in
set_option maxHeartbeats 4000000 in
theorem s_W_leave {S : AS} {a0 : Option Nat} {a1 : Int32} {a2 : Option Nat} {r : (Int32 × AS)} (h : f_W_leave S a0 a1 a2 = some r) : kr_Con m_W_leave 13 [va_rf a0, .int a1, va_rf a2] S (kr_eI r) := by
  refine kr_conH rfl (by decide) (by decide +kernel) (by simp [lg_sl, kr_rfcat, kr_icat, m_W_leave, mL]) ?_
  rw [show lv_args 0 [va_rf a0, .int a1, va_rf a2] = [(0, va_rf a0), (1, .int a1), (2, va_rf a2)] from by simp [lv_args, kr_rfcat, kr_icat]]
  unfold f_W_leave at h
  refine r_aload_n (i := 2) (x := a2) 2 rfl d_W_leave_0 ?_
  refine r_iconst (v := (0 : Int32)) (by decide) d_W_leave_1 ?_
  refine r_aload_n (i := 0) (x := a0) 0 rfl d_W_leave_2 ?_
  refine r_iload_n (i := 1) (x := a1) 1 rfl d_W_leave_3 ?_
  have h2 := kr_ob h
  clear h
  obtain ⟨⟨⟩, eu1, h⟩ := h2
  rcases kr_obh h with ⟨v3, S2, eS2, h2⟩ | ⟨E, S2, eS2, h2⟩
  · clear h
    have h := h2
    clear h2
    refine r_callV (M1 := m_K_leave) (κ := 22) (As := [.int a1]) eu1 (s_K_leave eS2) mok_K_leave rfl (by decide) rfl w1400 w1401 w1402 (by decide) (kr_c8 (kr_cI (kr_cR kr_c0))) d_W_leave_4 (kr_k1 ?_) kr_kn
    refine r_i2l d_W_leave_7 ?_
    have h2 := kr_ob h
    clear h
    obtain ⟨S4, eS4, h⟩ := h2
    refine r_lastore eS4 d_W_leave_8 ?_
    refine r_goto (tgt := 15) d_W_leave_9 rfl ?_
    refine r_iconst (v := (0 : Int32)) (by decide) d_W_leave_15 ?_
    cases h
    exact r_iret rfl d_W_leave_16
  · by_cases c0 : E = "java/lang/IndexOutOfBoundsException"
    · subst c0
      replace h2 := kr_ip rfl h2
      clear h
      have h := h2
      clear h2
      refine r_callV (M1 := m_K_leave) (κ := 22) (As := [.int a1]) eu1 (s_K_leave eS2) mok_K_leave rfl (by decide) rfl w1400 w1401 w1402 (by decide) (kr_c8 (kr_cI (kr_cR kr_c0))) d_W_leave_4 kr_nk (kr_kx ?_)
      refine r_catch_n (hd := (0, 9, 12, 21)) [] [] ⟨rfl, (fun _ hz => nomatch hz), ⟨by decide, by decide⟩, by decide, w554, w531⟩ (i := 3) (lv' := [(0, va_rf a0), (1, .int a1), (2, va_rf a2)]) (by show List.filter (fun (q : Nat × Value) => !(q.1 == 3) && !(q.1 + 1 == 3 && q.2.category == 2)) _ = _; simp [kr_rfcat, kr_icat]) (by decide) d_W_leave_12 ?_
      refine r_iconst (v := (1 : Int32)) (by decide) d_W_leave_13 ?_
      cases h
      exact r_iret rfl d_W_leave_14
    replace h2 := kr_in_ c0 h2
    cases h2
/-! KeyringCourtLaw.audit(LKeyringCourt;I[J)I -/
def f_W_audit (S : AS) (a0 : Option Nat) (a1 : Int32) (a2 : Option Nat) : Option (Int32 × AS) :=
  (kr_rv S 22 a0).bind fun u1 =>
  kr_bh (f_K_audit S a0 a1) (fun E S2 => if E = "java/lang/IndexOutOfBoundsException" then
  some ((1 : Int32), S2)
  else none) fun v3 S2 =>
  (bJ S2 a2 (0 : Int32) v3.toInt64).bind fun S4 =>
  some ((0 : Int32), S4)
set_option maxRecDepth 20000 in
set_option maxHeartbeats 4000000 in
theorem s_W_audit {S : AS} {a0 : Option Nat} {a1 : Int32} {a2 : Option Nat} {r : (Int32 × AS)} (h : f_W_audit S a0 a1 a2 = some r) : kr_Con m_W_audit 9 [va_rf a0, .int a1, va_rf a2] S (kr_eI r) := by
  refine kr_conH rfl (by decide) (by decide +kernel) (by simp [lg_sl, kr_rfcat, kr_icat, m_W_audit, mL]) ?_
  rw [show lv_args 0 [va_rf a0, .int a1, va_rf a2] = [(0, va_rf a0), (1, .int a1), (2, va_rf a2)] from by simp [lv_args, kr_rfcat, kr_icat]]
  unfold f_W_audit at h
  refine r_aload_n (i := 2) (x := a2) 2 rfl d_W_audit_0 ?_
  refine r_iconst (v := (0 : Int32)) (by decide) d_W_audit_1 ?_
  refine r_aload_n (i := 0) (x := a0) 0 rfl d_W_audit_2 ?_
  refine r_iload_n (i := 1) (x := a1) 1 rfl d_W_audit_3 ?_
  have h2 := kr_ob h
  clear h
  obtain ⟨⟨⟩, eu1, h⟩ := h2
  rcases kr_obh h with ⟨v3, S2, eS2, h2⟩ | ⟨E, S2, eS2, h2⟩
  · clear h
    have h := h2
    clear h2
    refine r_callV (M1 := m_K_audit) (κ := 22) (As := [.int a1]) eu1 (s_K_audit eS2) mok_K_audit rfl (by decide) rfl w1415 w1416 w1417 (by decide) (kr_c8 (kr_cI (kr_cR kr_c0))) d_W_audit_4 (kr_k1 ?_) kr_kn
    refine r_i2l d_W_audit_7 ?_
    have h2 := kr_ob h
    clear h
    obtain ⟨S4, eS4, h⟩ := h2
    refine r_lastore eS4 d_W_audit_8 ?_
    refine r_goto (tgt := 15) d_W_audit_9 rfl ?_
    refine r_iconst (v := (0 : Int32)) (by decide) d_W_audit_15 ?_
    cases h
    exact r_iret rfl d_W_audit_16
  · by_cases c0 : E = "java/lang/IndexOutOfBoundsException"
    · subst c0
      replace h2 := kr_ip rfl h2
      clear h
      have h := h2
      clear h2
      refine r_callV (M1 := m_K_audit) (κ := 22) (As := [.int a1]) eu1 (s_K_audit eS2) mok_K_audit rfl (by decide) rfl w1415 w1416 w1417 (by decide) (kr_c8 (kr_cI (kr_cR kr_c0))) d_W_audit_4 kr_nk (kr_kx ?_)
      refine r_catch_n (hd := (0, 9, 12, 21)) [] [] ⟨rfl, (fun _ hz => nomatch hz), ⟨by decide, by decide⟩, by decide, w554, w531⟩ (i := 3) (lv' := [(0, va_rf a0), (1, .int a1), (2, va_rf a2)]) (by show List.filter (fun (q : Nat × Value) => !(q.1 == 3) && !(q.1 + 1 == 3 && q.2.category == 2)) _ = _; simp [kr_rfcat, kr_icat]) (by decide) d_W_audit_12 ?_
      refine r_iconst (v := (1 : Int32)) (by decide) d_W_audit_13 ?_
      cases h
      exact r_iret rfl d_W_audit_14
    replace h2 := kr_in_ c0 h2
    cases h2
/-! KeyringCourtLaw.sumAnew(LKeyringCourt;I[J)I -/
def f_W_sumAnew (S : AS) (a0 : Option Nat) (a1 : Int32) (a2 : Option Nat) : Option (Int32 × AS) :=
  (kr_rv S 22 a0).bind fun u1 =>
  kr_bh (f_K_sumAnew S a0 a1) (fun E S2 => if E = "java/lang/IndexOutOfBoundsException" then
  some ((1 : Int32), S2)
  else none) fun v3 S2 =>
  (bJ S2 a2 (0 : Int32) v3.toInt64).bind fun S4 =>
  some ((0 : Int32), S4)
set_option maxRecDepth 20000 in
set_option maxHeartbeats 4000000 in
theorem s_W_sumAnew {S : AS} {a0 : Option Nat} {a1 : Int32} {a2 : Option Nat} {r : (Int32 × AS)} (h : f_W_sumAnew S a0 a1 a2 = some r) : kr_Con m_W_sumAnew 9 [va_rf a0, .int a1, va_rf a2] S (kr_eI r) := by
  refine kr_conH rfl (by decide) (by decide +kernel) (by simp [lg_sl, kr_rfcat, kr_icat, m_W_sumAnew, mL]) ?_
  rw [show lv_args 0 [va_rf a0, .int a1, va_rf a2] = [(0, va_rf a0), (1, .int a1), (2, va_rf a2)] from by simp [lv_args, kr_rfcat, kr_icat]]
  unfold f_W_sumAnew at h
  refine r_aload_n (i := 2) (x := a2) 2 rfl d_W_sumAnew_0 ?_
  refine r_iconst (v := (0 : Int32)) (by decide) d_W_sumAnew_1 ?_
  refine r_aload_n (i := 0) (x := a0) 0 rfl d_W_sumAnew_2 ?_
  refine r_iload_n (i := 1) (x := a1) 1 rfl d_W_sumAnew_3 ?_
  have h2 := kr_ob h
  clear h
  obtain ⟨⟨⟩, eu1, h⟩ := h2
  rcases kr_obh h with ⟨v3, S2, eS2, h2⟩ | ⟨E, S2, eS2, h2⟩
  · clear h
    have h := h2
    clear h2
    refine r_callV (M1 := m_K_sumAnew) (κ := 22) (As := [.int a1]) eu1 (s_K_sumAnew eS2) mok_K_sumAnew rfl (by decide) rfl w1423 w1424 w1425 (by decide) (kr_c8 (kr_cI (kr_cR kr_c0))) d_W_sumAnew_4 (kr_k1 ?_) kr_kn
    refine r_i2l d_W_sumAnew_7 ?_
    have h2 := kr_ob h
    clear h
    obtain ⟨S4, eS4, h⟩ := h2
    refine r_lastore eS4 d_W_sumAnew_8 ?_
    refine r_goto (tgt := 15) d_W_sumAnew_9 rfl ?_
    refine r_iconst (v := (0 : Int32)) (by decide) d_W_sumAnew_15 ?_
    cases h
    exact r_iret rfl d_W_sumAnew_16
  · by_cases c0 : E = "java/lang/IndexOutOfBoundsException"
    · subst c0
      replace h2 := kr_ip rfl h2
      clear h
      have h := h2
      clear h2
      refine r_callV (M1 := m_K_sumAnew) (κ := 22) (As := [.int a1]) eu1 (s_K_sumAnew eS2) mok_K_sumAnew rfl (by decide) rfl w1423 w1424 w1425 (by decide) (kr_c8 (kr_cI (kr_cR kr_c0))) d_W_sumAnew_4 kr_nk (kr_kx ?_)
      refine r_catch_n (hd := (0, 9, 12, 21)) [] [] ⟨rfl, (fun _ hz => nomatch hz), ⟨by decide, by decide⟩, by decide, w554, w531⟩ (i := 3) (lv' := [(0, va_rf a0), (1, .int a1), (2, va_rf a2)]) (by show List.filter (fun (q : Nat × Value) => !(q.1 == 3) && !(q.1 + 1 == 3 && q.2.category == 2)) _ = _; simp [kr_rfcat, kr_icat]) (by decide) d_W_sumAnew_12 ?_
      refine r_iconst (v := (1 : Int32)) (by decide) d_W_sumAnew_13 ?_
      cases h
      exact r_iret rfl d_W_sumAnew_14
    replace h2 := kr_in_ c0 h2
    cases h2
end
section
/-! KeyringCourtLaw.law([I)Z -/
def f_W_law_B2025 (X : Nat → Int32) (L : Nat) (k23 : AS → Option Nat → Option Nat → Option Nat → Int32 → Option (Int32 × AS)) (S : AS) (x1 : Option Nat) (x2 : Option Nat) (x3 : Option Nat) (x4 : Int32) : Option (Int32 × AS) :=
  (some (x4 + (6 : Int32))).bind fun i1 =>
  k23 S x1 x2 x3 i1
def f_W_law_B260 (X : Nat → Int32) (L : Nat) (k23 : AS → Option Nat → Option Nat → Option Nat → Int32 → Option (Int32 × AS)) (S : AS) (x1 : Option Nat) (x2 : Option Nat) (x3 : Option Nat) (x4 : Int32) : Option (Int32 × AS) :=
  (kr_sx X L (x4 + (1 : Int32))).bind fun v2 =>
  kr_b2 (f_W_pass S x1 v2 x3) fun v4 S3 =>
  (kr_sx X L (x4 + (1 : Int32))).bind fun v5 =>
  (kr_rv S3 23 x2).bind fun u6 =>
  kr_b2 (f_M_pass S3 x2 v5) fun v8 S7 =>
  f_W_law_B2025 X L k23 S7 x1 x2 x3 x4
def f_W_law_B288 (X : Nat → Int32) (L : Nat) (k23 : AS → Option Nat → Option Nat → Option Nat → Int32 → Option (Int32 × AS)) (S : AS) (x1 : Option Nat) (x2 : Option Nat) (x3 : Option Nat) (x4 : Int32) : Option (Int32 × AS) :=
  (kr_sx X L (x4 + (1 : Int32))).bind fun v9 =>
  (kr_sx X L (x4 + (2 : Int32))).bind fun v10 =>
  kr_b2 (f_W_enroll S x1 v9 v10 x3) fun v12 S11 =>
  (kr_sx X L (x4 + (1 : Int32))).bind fun v13 =>
  (kr_sx X L (x4 + (2 : Int32))).bind fun v14 =>
  (kr_rv S11 23 x2).bind fun u15 =>
  kr_b2 (f_M_enroll S11 x2 v13 v14) fun v17 S16 =>
  f_W_law_B2025 X L k23 S16 x1 x2 x3 x4
def f_W_law_B328 (X : Nat → Int32) (L : Nat) (k23 : AS → Option Nat → Option Nat → Option Nat → Int32 → Option (Int32 × AS)) (S : AS) (x1 : Option Nat) (x2 : Option Nat) (x3 : Option Nat) (x4 : Int32) : Option (Int32 × AS) :=
  (kr_sx X L (x4 + (1 : Int32))).bind fun v18 =>
  (kr_sx X L (x4 + (2 : Int32))).bind fun v19 =>
  kr_b2 (f_W_factor S x1 v18 v19 x3) fun v21 S20 =>
  (kr_sx X L (x4 + (1 : Int32))).bind fun v22 =>
  (kr_sx X L (x4 + (2 : Int32))).bind fun v23 =>
  (kr_rv S20 23 x2).bind fun u24 =>
  kr_b2 (f_M_factor S20 x2 v22 v23) fun v26 S25 =>
  f_W_law_B2025 X L k23 S25 x1 x2 x3 x4
def f_W_law_B368 (X : Nat → Int32) (L : Nat) (k23 : AS → Option Nat → Option Nat → Option Nat → Int32 → Option (Int32 × AS)) (S : AS) (x1 : Option Nat) (x2 : Option Nat) (x3 : Option Nat) (x4 : Int32) : Option (Int32 × AS) :=
  (kr_sx X L (x4 + (1 : Int32))).bind fun v27 =>
  (kr_sx X L (x4 + (2 : Int32))).bind fun v28 =>
  (kr_sx X L (x4 + (3 : Int32))).bind fun v29 =>
  (kr_sx X L (x4 + (4 : Int32))).bind fun v30 =>
  (kr_sx X L (x4 + (5 : Int32))).bind fun v31 =>
  kr_b2 (f_W_step S x1 v27 v28 v29 v30 v31 x3) fun v33 S32 =>
  (kr_sx X L (x4 + (1 : Int32))).bind fun v34 =>
  (kr_sx X L (x4 + (2 : Int32))).bind fun v35 =>
  (kr_sx X L (x4 + (3 : Int32))).bind fun v36 =>
  (kr_sx X L (x4 + (4 : Int32))).bind fun v37 =>
  (kr_sx X L (x4 + (5 : Int32))).bind fun v38 =>
  (kr_rv S32 23 x2).bind fun u39 =>
  kr_b2 (f_M_step S32 x2 v34 v35 v36 v37 v38) fun v41 S40 =>
  f_W_law_B2025 X L k23 S40 x1 x2 x3 x4
def f_W_law_B444 (X : Nat → Int32) (L : Nat) (k23 : AS → Option Nat → Option Nat → Option Nat → Int32 → Option (Int32 × AS)) (S : AS) (x1 : Option Nat) (x2 : Option Nat) (x3 : Option Nat) (x4 : Int32) : Option (Int32 × AS) :=
  (kr_rv S 22 x1).bind fun u42 =>
  kr_b2 (f_K_clear S x1) fun v44 S43 =>
  (kr_rv S43 23 x2).bind fun u45 =>
  kr_b2 (f_M_clear S43 x2) fun v47 S46 =>
  f_W_law_B2025 X L k23 S46 x1 x2 x3 x4
def f_W_law_B457 (X : Nat → Int32) (L : Nat) (k23 : AS → Option Nat → Option Nat → Option Nat → Int32 → Option (Int32 × AS)) (S : AS) (x1 : Option Nat) (x2 : Option Nat) (x3 : Option Nat) (x4 : Int32) : Option (Int32 × AS) :=
  kr_b2 (f_W_publish S x1 x3) fun v49 S48 =>
  (kr_rv S48 23 x2).bind fun u50 =>
  kr_b2 (f_M_publish S48 x2) fun v52 S51 =>
  f_W_law_B2025 X L k23 S51 x1 x2 x3 x4
def f_W_law_B473 (X : Nat → Int32) (L : Nat) (k23 : AS → Option Nat → Option Nat → Option Nat → Int32 → Option (Int32 × AS)) (S : AS) (x1 : Option Nat) (x2 : Option Nat) (x3 : Option Nat) (x4 : Int32) : Option (Int32 × AS) :=
  (kr_sx X L (x4 + (1 : Int32))).bind fun v53 =>
  kr_b2 (f_W_weakest S x1 v53 x3) fun v55 S54 =>
  (kr_sx X L (x4 + (1 : Int32))).bind fun v56 =>
  (kr_rv S54 23 x2).bind fun u57 =>
  kr_b2 (f_M_weakest S54 x2 v56) fun v59 S58 =>
  f_W_law_B2025 X L k23 S58 x1 x2 x3 x4
def f_W_law_B561 (X : Nat → Int32) (L : Nat) (k23 : AS → Option Nat → Option Nat → Option Nat → Int32 → Option (Int32 × AS)) (S : AS) (x1 : Option Nat) (x2 : Option Nat) (x3 : Option Nat) (x4 : Int32) (y0 : Option Nat) (y1 : Int32) (y2 : Int32) (y3 : Int32) : Option (Int32 × AS) :=
  (kr_rv S 23 y0).bind fun u60 =>
  kr_b2 (f_M_points S y0 y1 y2 y3) fun v62 S61 =>
  f_W_law_B2025 X L k23 S61 x1 x2 x3 x4
def f_W_law_B528 (X : Nat → Int32) (L : Nat) (k23 : AS → Option Nat → Option Nat → Option Nat → Int32 → Option (Int32 × AS)) (S : AS) (x1 : Option Nat) (x2 : Option Nat) (x3 : Option Nat) (x4 : Int32) (y0 : Option Nat) (y1 : Int32) (y2 : Int32) (y3 : Int32) : Option (Int32 × AS) :=
  kr_b2 (f_W_points S y0 y1 y2 y3 x3) fun v64 S63 =>
  (kr_sx X L (x4 + (1 : Int32))).bind fun v65 =>
  (kr_sx X L (x4 + (2 : Int32))).bind fun v66 =>
  (kr_sx X L (x4 + (3 : Int32))).bind fun v67 =>
  if v67 = 0 then
  f_W_law_B561 X L k23 S63 x1 x2 x3 x4 x2 v65 v66 (0 : Int32)
  else
  f_W_law_B561 X L k23 S63 x1 x2 x3 x4 x2 v65 v66 (1 : Int32)
def f_W_law_B501 (X : Nat → Int32) (L : Nat) (k23 : AS → Option Nat → Option Nat → Option Nat → Int32 → Option (Int32 × AS)) (S : AS) (x1 : Option Nat) (x2 : Option Nat) (x3 : Option Nat) (x4 : Int32) : Option (Int32 × AS) :=
  (kr_sx X L (x4 + (1 : Int32))).bind fun v68 =>
  (kr_sx X L (x4 + (2 : Int32))).bind fun v69 =>
  (kr_sx X L (x4 + (3 : Int32))).bind fun v70 =>
  if v70 = 0 then
  f_W_law_B528 X L k23 S x1 x2 x3 x4 x1 v68 v69 (0 : Int32)
  else
  f_W_law_B528 X L k23 S x1 x2 x3 x4 x1 v68 v69 (1 : Int32)
def f_W_law_B569 (X : Nat → Int32) (L : Nat) (k23 : AS → Option Nat → Option Nat → Option Nat → Int32 → Option (Int32 × AS)) (S : AS) (x1 : Option Nat) (x2 : Option Nat) (x3 : Option Nat) (x4 : Int32) : Option (Int32 × AS) :=
  (kr_sx X L (x4 + (1 : Int32))).bind fun v71 =>
  (kr_sx X L (x4 + (2 : Int32))).bind fun v72 =>
  (kr_sx X L (x4 + (3 : Int32))).bind fun v73 =>
  kr_b2 (f_W_begin S x1 v71 v72 v73 x3) fun v75 S74 =>
  (kr_sx X L (x4 + (1 : Int32))).bind fun v76 =>
  (kr_sx X L (x4 + (2 : Int32))).bind fun v77 =>
  (kr_sx X L (x4 + (3 : Int32))).bind fun v78 =>
  (kr_rv S74 23 x2).bind fun u79 =>
  kr_b2 (f_M_begin S74 x2 v76 v77 v78) fun v81 S80 =>
  f_W_law_B2025 X L k23 S80 x1 x2 x3 x4
def f_W_law_B675 (X : Nat → Int32) (L : Nat) (k23 : AS → Option Nat → Option Nat → Option Nat → Int32 → Option (Int32 × AS)) (S : AS) (x1 : Option Nat) (x2 : Option Nat) (x3 : Option Nat) (x4 : Int32) (y0 : Option Nat) (y1 : Int32) (y2 : Int32) : Option (Int32 × AS) :=
  (kr_sx X L (x4 + (3 : Int32))).bind fun v82 =>
  (kr_rv S 23 y0).bind fun u83 =>
  kr_b2 (f_M_answer S y0 y1 y2 v82) fun v85 S84 =>
  f_W_law_B2025 X L k23 S84 x1 x2 x3 x4
def f_W_law_B642 (X : Nat → Int32) (L : Nat) (k23 : AS → Option Nat → Option Nat → Option Nat → Int32 → Option (Int32 × AS)) (S : AS) (x1 : Option Nat) (x2 : Option Nat) (x3 : Option Nat) (x4 : Int32) (y0 : Option Nat) (y1 : Int32) (y2 : Int32) : Option (Int32 × AS) :=
  (kr_sx X L (x4 + (3 : Int32))).bind fun v86 =>
  kr_b2 (f_W_answer S y0 y1 y2 v86 x3) fun v88 S87 =>
  (kr_sx X L (x4 + (1 : Int32))).bind fun v89 =>
  (kr_sx X L (x4 + (2 : Int32))).bind fun v90 =>
  if v90 = 0 then
  f_W_law_B675 X L k23 S87 x1 x2 x3 x4 x2 v89 (0 : Int32)
  else
  f_W_law_B675 X L k23 S87 x1 x2 x3 x4 x2 v89 (1 : Int32)
def f_W_law_B621 (X : Nat → Int32) (L : Nat) (k23 : AS → Option Nat → Option Nat → Option Nat → Int32 → Option (Int32 × AS)) (S : AS) (x1 : Option Nat) (x2 : Option Nat) (x3 : Option Nat) (x4 : Int32) : Option (Int32 × AS) :=
  (kr_sx X L (x4 + (1 : Int32))).bind fun v91 =>
  (kr_sx X L (x4 + (2 : Int32))).bind fun v92 =>
  if v92 = 0 then
  f_W_law_B642 X L k23 S x1 x2 x3 x4 x1 v91 (0 : Int32)
  else
  f_W_law_B642 X L k23 S x1 x2 x3 x4 x1 v91 (1 : Int32)
def f_W_law_B689 (X : Nat → Int32) (L : Nat) (k23 : AS → Option Nat → Option Nat → Option Nat → Int32 → Option (Int32 × AS)) (S : AS) (x1 : Option Nat) (x2 : Option Nat) (x3 : Option Nat) (x4 : Int32) : Option (Int32 × AS) :=
  (kr_sx X L (x4 + (1 : Int32))).bind fun v93 =>
  kr_b2 (f_W_state S x1 v93 x3) fun v95 S94 =>
  (kr_sx X L (x4 + (1 : Int32))).bind fun v96 =>
  (kr_rv S94 23 x2).bind fun u97 =>
  kr_b2 (f_M_state S94 x2 v96) fun v99 S98 =>
  f_W_law_B2025 X L k23 S98 x1 x2 x3 x4
def f_W_law_B717 (X : Nat → Int32) (L : Nat) (k23 : AS → Option Nat → Option Nat → Option Nat → Int32 → Option (Int32 × AS)) (S : AS) (x1 : Option Nat) (x2 : Option Nat) (x3 : Option Nat) (x4 : Int32) : Option (Int32 × AS) :=
  (kr_sx X L (x4 + (1 : Int32))).bind fun v100 =>
  kr_b2 (f_W_asked S x1 v100 x3) fun v102 S101 =>
  (kr_sx X L (x4 + (1 : Int32))).bind fun v103 =>
  (kr_rv S101 23 x2).bind fun u104 =>
  kr_b2 (f_M_asked S101 x2 v103) fun v106 S105 =>
  f_W_law_B2025 X L k23 S105 x1 x2 x3 x4
def f_W_law_B745 (X : Nat → Int32) (L : Nat) (k23 : AS → Option Nat → Option Nat → Option Nat → Int32 → Option (Int32 × AS)) (S : AS) (x1 : Option Nat) (x2 : Option Nat) (x3 : Option Nat) (x4 : Int32) : Option (Int32 × AS) :=
  (kr_sx X L (x4 + (1 : Int32))).bind fun v107 =>
  kr_b2 (f_W_sessionOf S x1 v107 x3) fun v109 S108 =>
  (kr_sx X L (x4 + (1 : Int32))).bind fun v110 =>
  (kr_rv S108 23 x2).bind fun u111 =>
  kr_b2 (f_M_sessionOf S108 x2 v110) fun v113 S112 =>
  f_W_law_B2025 X L k23 S112 x1 x2 x3 x4
def f_W_law_B773 (X : Nat → Int32) (L : Nat) (k23 : AS → Option Nat → Option Nat → Option Nat → Int32 → Option (Int32 × AS)) (S : AS) (x1 : Option Nat) (x2 : Option Nat) (x3 : Option Nat) (x4 : Int32) : Option (Int32 × AS) :=
  (kr_sx X L (x4 + (1 : Int32))).bind fun v114 =>
  kr_b2 (f_W_risk S x1 v114 x3) fun v116 S115 =>
  (kr_sx X L (x4 + (1 : Int32))).bind fun v117 =>
  (kr_rv S115 23 x2).bind fun u118 =>
  kr_b2 (f_M_risk S115 x2 v117) fun v120 S119 =>
  f_W_law_B2025 X L k23 S119 x1 x2 x3 x4
def f_W_law_B801 (X : Nat → Int32) (L : Nat) (k23 : AS → Option Nat → Option Nat → Option Nat → Int32 → Option (Int32 × AS)) (S : AS) (x1 : Option Nat) (x2 : Option Nat) (x3 : Option Nat) (x4 : Int32) : Option (Int32 × AS) :=
  (kr_sx X L (x4 + (1 : Int32))).bind fun v121 =>
  kr_b2 (f_W_trialRisk S x1 v121 x3) fun v123 S122 =>
  (kr_sx X L (x4 + (1 : Int32))).bind fun v124 =>
  (kr_rv S122 23 x2).bind fun u125 =>
  kr_b2 (f_M_trialRisk S122 x2 v124) fun v127 S126 =>
  f_W_law_B2025 X L k23 S126 x1 x2 x3 x4
def f_W_law_B829 (X : Nat → Int32) (L : Nat) (k23 : AS → Option Nat → Option Nat → Option Nat → Int32 → Option (Int32 × AS)) (S : AS) (x1 : Option Nat) (x2 : Option Nat) (x3 : Option Nat) (x4 : Int32) : Option (Int32 × AS) :=
  (kr_rv S 22 x1).bind fun u128 =>
  kr_b2 (f_K_sessions S x1) fun v130 S129 =>
  (kr_rv S129 23 x2).bind fun u131 =>
  kr_b2 (f_M_sessions S129 x2) fun v133 S132 =>
  f_W_law_B2025 X L k23 S132 x1 x2 x3 x4
def f_W_law_B842 (X : Nat → Int32) (L : Nat) (k23 : AS → Option Nat → Option Nat → Option Nat → Int32 → Option (Int32 × AS)) (S : AS) (x1 : Option Nat) (x2 : Option Nat) (x3 : Option Nat) (x4 : Int32) : Option (Int32 × AS) :=
  (kr_sx X L (x4 + (1 : Int32))).bind fun v134 =>
  kr_b2 (f_W_isLive S x1 v134 x3) fun v136 S135 =>
  (kr_sx X L (x4 + (1 : Int32))).bind fun v137 =>
  (kr_rv S135 23 x2).bind fun u138 =>
  kr_b2 (f_M_isLive S135 x2 v137) fun v140 S139 =>
  f_W_law_B2025 X L k23 S139 x1 x2 x3 x4
def f_W_law_B870 (X : Nat → Int32) (L : Nat) (k23 : AS → Option Nat → Option Nat → Option Nat → Int32 → Option (Int32 × AS)) (S : AS) (x1 : Option Nat) (x2 : Option Nat) (x3 : Option Nat) (x4 : Int32) : Option (Int32 × AS) :=
  (kr_sx X L (x4 + (1 : Int32))).bind fun v141 =>
  kr_b2 (f_W_isLiveByAudit S x1 v141 x3) fun v143 S142 =>
  (kr_sx X L (x4 + (1 : Int32))).bind fun v144 =>
  (kr_rv S142 23 x2).bind fun u145 =>
  kr_b2 (f_M_isLiveByAudit S142 x2 v144) fun v147 S146 =>
  f_W_law_B2025 X L k23 S146 x1 x2 x3 x4
def f_W_law_B898 (X : Nat → Int32) (L : Nat) (k23 : AS → Option Nat → Option Nat → Option Nat → Int32 → Option (Int32 × AS)) (S : AS) (x1 : Option Nat) (x2 : Option Nat) (x3 : Option Nat) (x4 : Int32) : Option (Int32 × AS) :=
  (kr_sx X L (x4 + (1 : Int32))).bind fun v148 =>
  kr_b2 (f_W_level S x1 v148 x3) fun v150 S149 =>
  (kr_sx X L (x4 + (1 : Int32))).bind fun v151 =>
  (kr_rv S149 23 x2).bind fun u152 =>
  kr_b2 (f_M_level S149 x2 v151) fun v154 S153 =>
  f_W_law_B2025 X L k23 S153 x1 x2 x3 x4
def f_W_law_B992 (X : Nat → Int32) (L : Nat) (k23 : AS → Option Nat → Option Nat → Option Nat → Int32 → Option (Int32 × AS)) (S : AS) (x1 : Option Nat) (x2 : Option Nat) (x3 : Option Nat) (x4 : Int32) (y0 : Option Nat) (y1 : Int32) (y2 : Int32) (y3 : Int32) : Option (Int32 × AS) :=
  (kr_sx X L (x4 + (4 : Int32))).bind fun v155 =>
  (kr_rv S 23 y0).bind fun u156 =>
  kr_b2 (f_M_stepUp S y0 y1 y2 y3 v155) fun v158 S157 =>
  f_W_law_B2025 X L k23 S157 x1 x2 x3 x4
def f_W_law_B953 (X : Nat → Int32) (L : Nat) (k23 : AS → Option Nat → Option Nat → Option Nat → Int32 → Option (Int32 × AS)) (S : AS) (x1 : Option Nat) (x2 : Option Nat) (x3 : Option Nat) (x4 : Int32) (y0 : Option Nat) (y1 : Int32) (y2 : Int32) (y3 : Int32) : Option (Int32 × AS) :=
  (kr_sx X L (x4 + (4 : Int32))).bind fun v159 =>
  kr_b2 (f_W_stepUp S y0 y1 y2 y3 v159 x3) fun v161 S160 =>
  (kr_sx X L (x4 + (1 : Int32))).bind fun v162 =>
  (kr_sx X L (x4 + (2 : Int32))).bind fun v163 =>
  (kr_sx X L (x4 + (3 : Int32))).bind fun v164 =>
  if v164 = 0 then
  f_W_law_B992 X L k23 S160 x1 x2 x3 x4 x2 v162 v163 (0 : Int32)
  else
  f_W_law_B992 X L k23 S160 x1 x2 x3 x4 x2 v162 v163 (1 : Int32)
def f_W_law_B926 (X : Nat → Int32) (L : Nat) (k23 : AS → Option Nat → Option Nat → Option Nat → Int32 → Option (Int32 × AS)) (S : AS) (x1 : Option Nat) (x2 : Option Nat) (x3 : Option Nat) (x4 : Int32) : Option (Int32 × AS) :=
  (kr_sx X L (x4 + (1 : Int32))).bind fun v165 =>
  (kr_sx X L (x4 + (2 : Int32))).bind fun v166 =>
  (kr_sx X L (x4 + (3 : Int32))).bind fun v167 =>
  if v167 = 0 then
  f_W_law_B953 X L k23 S x1 x2 x3 x4 x1 v165 v166 (0 : Int32)
  else
  f_W_law_B953 X L k23 S x1 x2 x3 x4 x1 v165 v166 (1 : Int32)
def f_W_law_B1006 (X : Nat → Int32) (L : Nat) (k23 : AS → Option Nat → Option Nat → Option Nat → Int32 → Option (Int32 × AS)) (S : AS) (x1 : Option Nat) (x2 : Option Nat) (x3 : Option Nat) (x4 : Int32) : Option (Int32 × AS) :=
  (kr_sx X L (x4 + (1 : Int32))).bind fun v168 =>
  kr_b2 (f_W_signOut S x1 v168 x3) fun v170 S169 =>
  (kr_sx X L (x4 + (1 : Int32))).bind fun v171 =>
  (kr_rv S169 23 x2).bind fun u172 =>
  kr_b2 (f_M_signOut S169 x2 v171) fun v174 S173 =>
  f_W_law_B2025 X L k23 S173 x1 x2 x3 x4
def f_W_law_B1034 (X : Nat → Int32) (L : Nat) (k23 : AS → Option Nat → Option Nat → Option Nat → Int32 → Option (Int32 × AS)) (S : AS) (x1 : Option Nat) (x2 : Option Nat) (x3 : Option Nat) (x4 : Int32) : Option (Int32 × AS) :=
  (kr_sx X L (x4 + (1 : Int32))).bind fun v175 =>
  kr_b2 (f_W_helper S x1 v175 x3) fun v177 S176 =>
  (kr_sx X L (x4 + (1 : Int32))).bind fun v178 =>
  (kr_rv S176 23 x2).bind fun u179 =>
  kr_b2 (f_M_helper S176 x2 v178) fun v181 S180 =>
  f_W_law_B2025 X L k23 S180 x1 x2 x3 x4
def f_W_law_B1062 (X : Nat → Int32) (L : Nat) (k23 : AS → Option Nat → Option Nat → Option Nat → Int32 → Option (Int32 × AS)) (S : AS) (x1 : Option Nat) (x2 : Option Nat) (x3 : Option Nat) (x4 : Int32) : Option (Int32 × AS) :=
  (kr_sx X L (x4 + (1 : Int32))).bind fun v182 =>
  (kr_sx X L (x4 + (2 : Int32))).bind fun v183 =>
  kr_b2 (f_W_act S x1 v182 v183 x3) fun v185 S184 =>
  (kr_sx X L (x4 + (1 : Int32))).bind fun v186 =>
  (kr_sx X L (x4 + (2 : Int32))).bind fun v187 =>
  (kr_rv S184 23 x2).bind fun u188 =>
  kr_b2 (f_M_act S184 x2 v186 v187) fun v190 S189 =>
  f_W_law_B2025 X L k23 S189 x1 x2 x3 x4
def f_W_law_B1102 (X : Nat → Int32) (L : Nat) (k23 : AS → Option Nat → Option Nat → Option Nat → Int32 → Option (Int32 × AS)) (S : AS) (x1 : Option Nat) (x2 : Option Nat) (x3 : Option Nat) (x4 : Int32) : Option (Int32 × AS) :=
  (kr_sx X L (x4 + (1 : Int32))).bind fun v191 =>
  (kr_sx X L (x4 + (2 : Int32))).bind fun v192 =>
  (kr_sx X L (x4 + (3 : Int32))).bind fun v193 =>
  kr_b2 (f_W_consent S x1 v191 v192 v193 x3) fun v195 S194 =>
  (kr_sx X L (x4 + (1 : Int32))).bind fun v196 =>
  (kr_sx X L (x4 + (2 : Int32))).bind fun v197 =>
  (kr_sx X L (x4 + (3 : Int32))).bind fun v198 =>
  (kr_rv S194 23 x2).bind fun u199 =>
  kr_b2 (f_M_consent S194 x2 v196 v197 v198) fun v201 S200 =>
  f_W_law_B2025 X L k23 S200 x1 x2 x3 x4
def f_W_law_B1154 (X : Nat → Int32) (L : Nat) (k23 : AS → Option Nat → Option Nat → Option Nat → Int32 → Option (Int32 × AS)) (S : AS) (x1 : Option Nat) (x2 : Option Nat) (x3 : Option Nat) (x4 : Int32) : Option (Int32 × AS) :=
  (kr_sx X L (x4 + (1 : Int32))).bind fun v202 =>
  (kr_sx X L (x4 + (2 : Int32))).bind fun v203 =>
  kr_b2 (f_W_withdraw S x1 v202 v203 x3) fun v205 S204 =>
  (kr_sx X L (x4 + (1 : Int32))).bind fun v206 =>
  (kr_sx X L (x4 + (2 : Int32))).bind fun v207 =>
  (kr_rv S204 23 x2).bind fun u208 =>
  kr_b2 (f_M_withdraw S204 x2 v206 v207) fun v210 S209 =>
  f_W_law_B2025 X L k23 S209 x1 x2 x3 x4
def f_W_law_B1194 (X : Nat → Int32) (L : Nat) (k23 : AS → Option Nat → Option Nat → Option Nat → Int32 → Option (Int32 × AS)) (S : AS) (x1 : Option Nat) (x2 : Option Nat) (x3 : Option Nat) (x4 : Int32) : Option (Int32 × AS) :=
  (kr_sx X L (x4 + (1 : Int32))).bind fun v211 =>
  (kr_sx X L (x4 + (2 : Int32))).bind fun v212 =>
  kr_b2 (f_W_need S x1 v211 v212 x3) fun v214 S213 =>
  (kr_sx X L (x4 + (1 : Int32))).bind fun v215 =>
  (kr_sx X L (x4 + (2 : Int32))).bind fun v216 =>
  (kr_rv S213 23 x2).bind fun u217 =>
  kr_b2 (f_M_need S213 x2 v215 v216) fun v219 S218 =>
  f_W_law_B2025 X L k23 S218 x1 x2 x3 x4
def f_W_law_B1234 (X : Nat → Int32) (L : Nat) (k23 : AS → Option Nat → Option Nat → Option Nat → Int32 → Option (Int32 × AS)) (S : AS) (x1 : Option Nat) (x2 : Option Nat) (x3 : Option Nat) (x4 : Int32) : Option (Int32 × AS) :=
  (kr_sx X L (x4 + (1 : Int32))).bind fun v220 =>
  (kr_sx X L (x4 + (2 : Int32))).bind fun v221 =>
  (kr_sx X L (x4 + (3 : Int32))).bind fun v222 =>
  (kr_sx X L (x4 + (4 : Int32))).bind fun v223 =>
  kr_b2 (f_W_authorize S x1 v220 v221 v222 v223 x3) fun v225 S224 =>
  (kr_sx X L (x4 + (1 : Int32))).bind fun v226 =>
  (kr_sx X L (x4 + (2 : Int32))).bind fun v227 =>
  (kr_sx X L (x4 + (3 : Int32))).bind fun v228 =>
  (kr_sx X L (x4 + (4 : Int32))).bind fun v229 =>
  (kr_rv S224 23 x2).bind fun u230 =>
  kr_b2 (f_M_authorize S224 x2 v226 v227 v228 v229) fun v232 S231 =>
  f_W_law_B2025 X L k23 S231 x1 x2 x3 x4
def f_W_law_B1298 (X : Nat → Int32) (L : Nat) (k23 : AS → Option Nat → Option Nat → Option Nat → Int32 → Option (Int32 × AS)) (S : AS) (x1 : Option Nat) (x2 : Option Nat) (x3 : Option Nat) (x4 : Int32) : Option (Int32 × AS) :=
  (kr_sx X L (x4 + (1 : Int32))).bind fun v233 =>
  kr_b2 (f_W_redeem S x1 v233 x3) fun v235 S234 =>
  (kr_sx X L (x4 + (1 : Int32))).bind fun v236 =>
  (kr_rv S234 23 x2).bind fun u237 =>
  kr_b2 (f_M_redeem S234 x2 v236) fun v239 S238 =>
  (kr_rv S238 23 x2).bind fun u240 =>
  kr_b2 (f_M_thrown S238 x2) fun v242 S241 =>
  if v242 = v235 then
  if v235 = 0 then
  (aJ S241 x3 (0 : Int32)).bind fun v243 =>
  if (lg_cmp v243 v239.toInt64) = 0 then
  f_W_law_B2025 X L k23 S241 x1 x2 x3 x4
  else
  some ((0 : Int32), S241)
  else
  f_W_law_B2025 X L k23 S241 x1 x2 x3 x4
  else
  some ((0 : Int32), S241)
def f_W_law_B1354 (X : Nat → Int32) (L : Nat) (k23 : AS → Option Nat → Option Nat → Option Nat → Int32 → Option (Int32 × AS)) (S : AS) (x1 : Option Nat) (x2 : Option Nat) (x3 : Option Nat) (x4 : Int32) : Option (Int32 × AS) :=
  (kr_sx X L (x4 + (1 : Int32))).bind fun v244 =>
  (kr_sx X L (x4 + (2 : Int32))).bind fun v245 =>
  kr_b2 (f_W_refresh S x1 v244 v245 x3) fun v247 S246 =>
  (kr_sx X L (x4 + (1 : Int32))).bind fun v248 =>
  (kr_sx X L (x4 + (2 : Int32))).bind fun v249 =>
  (kr_rv S246 23 x2).bind fun u250 =>
  kr_b2 (f_M_refresh S246 x2 v248 v249) fun v252 S251 =>
  f_W_law_B2025 X L k23 S251 x1 x2 x3 x4
def f_W_law_B1394 (X : Nat → Int32) (L : Nat) (k23 : AS → Option Nat → Option Nat → Option Nat → Int32 → Option (Int32 × AS)) (S : AS) (x1 : Option Nat) (x2 : Option Nat) (x3 : Option Nat) (x4 : Int32) : Option (Int32 × AS) :=
  (kr_sx X L (x4 + (1 : Int32))).bind fun v253 =>
  kr_b2 (f_W_isGood S x1 v253 x3) fun v255 S254 =>
  (kr_sx X L (x4 + (1 : Int32))).bind fun v256 =>
  (kr_rv S254 23 x2).bind fun u257 =>
  kr_b2 (f_M_isGood S254 x2 v256) fun v259 S258 =>
  f_W_law_B2025 X L k23 S258 x1 x2 x3 x4
def f_W_law_B1422 (X : Nat → Int32) (L : Nat) (k23 : AS → Option Nat → Option Nat → Option Nat → Int32 → Option (Int32 × AS)) (S : AS) (x1 : Option Nat) (x2 : Option Nat) (x3 : Option Nat) (x4 : Int32) : Option (Int32 × AS) :=
  (kr_sx X L (x4 + (1 : Int32))).bind fun v260 =>
  kr_b2 (f_W_tokenOf S x1 v260 x3) fun v262 S261 =>
  (kr_sx X L (x4 + (1 : Int32))).bind fun v263 =>
  (kr_rv S261 23 x2).bind fun u264 =>
  kr_b2 (f_M_tokenOf S261 x2 v263) fun v266 S265 =>
  f_W_law_B2025 X L k23 S265 x1 x2 x3 x4
def f_W_law_B1450 (X : Nat → Int32) (L : Nat) (k23 : AS → Option Nat → Option Nat → Option Nat → Int32 → Option (Int32 × AS)) (S : AS) (x1 : Option Nat) (x2 : Option Nat) (x3 : Option Nat) (x4 : Int32) : Option (Int32 × AS) :=
  (kr_sx X L (x4 + (1 : Int32))).bind fun v267 =>
  (kr_sx X L (x4 + (2 : Int32))).bind fun v268 =>
  (kr_sx X L (x4 + (3 : Int32))).bind fun v269 =>
  kr_b2 (f_W_exchange S x1 v267 v268 v269 x3) fun v271 S270 =>
  (kr_sx X L (x4 + (1 : Int32))).bind fun v272 =>
  (kr_sx X L (x4 + (2 : Int32))).bind fun v273 =>
  (kr_sx X L (x4 + (3 : Int32))).bind fun v274 =>
  (kr_rv S270 23 x2).bind fun u275 =>
  kr_b2 (f_M_exchange S270 x2 v272 v273 v274) fun v277 S276 =>
  f_W_law_B2025 X L k23 S276 x1 x2 x3 x4
def f_W_law_B1502 (X : Nat → Int32) (L : Nat) (k23 : AS → Option Nat → Option Nat → Option Nat → Int32 → Option (Int32 × AS)) (S : AS) (x1 : Option Nat) (x2 : Option Nat) (x3 : Option Nat) (x4 : Int32) : Option (Int32 × AS) :=
  (kr_sx X L (x4 + (1 : Int32))).bind fun v278 =>
  kr_b2 (f_W_token S x1 v278 x3) fun v280 S279 =>
  (kr_sx X L (x4 + (1 : Int32))).bind fun v281 =>
  (kr_rv S279 23 x2).bind fun u282 =>
  kr_b2 (f_M_token S279 x2 v281) fun v284 S283 =>
  f_W_law_B2025 X L k23 S283 x1 x2 x3 x4
def f_W_law_B1530 (X : Nat → Int32) (L : Nat) (k23 : AS → Option Nat → Option Nat → Option Nat → Int32 → Option (Int32 × AS)) (S : AS) (x1 : Option Nat) (x2 : Option Nat) (x3 : Option Nat) (x4 : Int32) : Option (Int32 × AS) :=
  kr_b2 (f_W_turn S x1 x3) fun v286 S285 =>
  (kr_rv S285 23 x2).bind fun u287 =>
  kr_b2 (f_M_turn S285 x2) fun v289 S288 =>
  f_W_law_B2025 X L k23 S288 x1 x2 x3 x4
def f_W_law_B1546 (X : Nat → Int32) (L : Nat) (k23 : AS → Option Nat → Option Nat → Option Nat → Int32 → Option (Int32 × AS)) (S : AS) (x1 : Option Nat) (x2 : Option Nat) (x3 : Option Nat) (x4 : Int32) : Option (Int32 × AS) :=
  kr_b2 (f_W_emergency S x1 x3) fun v291 S290 =>
  (kr_rv S290 23 x2).bind fun u292 =>
  kr_b2 (f_M_emergency S290 x2) fun v294 S293 =>
  f_W_law_B2025 X L k23 S293 x1 x2 x3 x4
def f_W_law_B1562 (X : Nat → Int32) (L : Nat) (k23 : AS → Option Nat → Option Nat → Option Nat → Int32 → Option (Int32 × AS)) (S : AS) (x1 : Option Nat) (x2 : Option Nat) (x3 : Option Nat) (x4 : Int32) : Option (Int32 × AS) :=
  (kr_rv S 22 x1).bind fun u295 =>
  kr_b2 (f_K_signing S x1) fun v297 S296 =>
  (kr_rv S296 23 x2).bind fun u298 =>
  kr_b2 (f_M_signing S296 x2) fun v300 S299 =>
  f_W_law_B2025 X L k23 S299 x1 x2 x3 x4
def f_W_law_B1575 (X : Nat → Int32) (L : Nat) (k23 : AS → Option Nat → Option Nat → Option Nat → Int32 → Option (Int32 × AS)) (S : AS) (x1 : Option Nat) (x2 : Option Nat) (x3 : Option Nat) (x4 : Int32) : Option (Int32 × AS) :=
  (kr_sx X L (x4 + (1 : Int32))).bind fun v301 =>
  kr_b2 (f_W_isPublished S x1 v301 x3) fun v303 S302 =>
  (kr_sx X L (x4 + (1 : Int32))).bind fun v304 =>
  (kr_rv S302 23 x2).bind fun u305 =>
  kr_b2 (f_M_isPublished S302 x2 v304) fun v307 S306 =>
  f_W_law_B2025 X L k23 S306 x1 x2 x3 x4
def f_W_law_B1603 (X : Nat → Int32) (L : Nat) (k23 : AS → Option Nat → Option Nat → Option Nat → Int32 → Option (Int32 × AS)) (S : AS) (x1 : Option Nat) (x2 : Option Nat) (x3 : Option Nat) (x4 : Int32) : Option (Int32 × AS) :=
  (kr_sx X L (x4 + (1 : Int32))).bind fun v308 =>
  kr_b2 (f_W_line S x1 v308 x3) fun v310 S309 =>
  (kr_sx X L (x4 + (1 : Int32))).bind fun v311 =>
  (kr_rv S309 23 x2).bind fun u312 =>
  kr_b2 (f_M_line S309 x2 v311) fun v314 S313 =>
  f_W_law_B2025 X L k23 S313 x1 x2 x3 x4
def f_W_law_B1631 (X : Nat → Int32) (L : Nat) (k23 : AS → Option Nat → Option Nat → Option Nat → Int32 → Option (Int32 × AS)) (S : AS) (x1 : Option Nat) (x2 : Option Nat) (x3 : Option Nat) (x4 : Int32) : Option (Int32 × AS) :=
  (kr_sx X L (x4 + (1 : Int32))).bind fun v315 =>
  (kr_sx X L (x4 + (2 : Int32))).bind fun v316 =>
  (kr_sx X L (x4 + (3 : Int32))).bind fun v317 =>
  kr_b2 (f_W_check S x1 v315 v316 v317 x3) fun v319 S318 =>
  (kr_sx X L (x4 + (1 : Int32))).bind fun v320 =>
  (kr_sx X L (x4 + (2 : Int32))).bind fun v321 =>
  (kr_sx X L (x4 + (3 : Int32))).bind fun v322 =>
  (kr_rv S318 23 x2).bind fun u323 =>
  kr_b2 (f_M_check S318 x2 v320 v321 v322) fun v325 S324 =>
  f_W_law_B2025 X L k23 S324 x1 x2 x3 x4
def f_W_law_B1683 (X : Nat → Int32) (L : Nat) (k23 : AS → Option Nat → Option Nat → Option Nat → Int32 → Option (Int32 × AS)) (S : AS) (x1 : Option Nat) (x2 : Option Nat) (x3 : Option Nat) (x4 : Int32) : Option (Int32 × AS) :=
  (kr_sx X L (x4 + (1 : Int32))).bind fun v326 =>
  kr_b2 (f_W_lag S x1 v326 x3) fun v328 S327 =>
  (kr_sx X L (x4 + (1 : Int32))).bind fun v329 =>
  (kr_rv S327 23 x2).bind fun u330 =>
  kr_b2 (f_M_lag S327 x2 v329) fun v332 S331 =>
  f_W_law_B2025 X L k23 S331 x1 x2 x3 x4
def f_W_law_B1711 (X : Nat → Int32) (L : Nat) (k23 : AS → Option Nat → Option Nat → Option Nat → Int32 → Option (Int32 × AS)) (S : AS) (x1 : Option Nat) (x2 : Option Nat) (x3 : Option Nat) (x4 : Int32) : Option (Int32 × AS) :=
  (kr_sx X L (x4 + (1 : Int32))).bind fun v333 =>
  kr_b2 (f_W_recover S x1 v333 x3) fun v335 S334 =>
  (kr_sx X L (x4 + (1 : Int32))).bind fun v336 =>
  (kr_rv S334 23 x2).bind fun u337 =>
  kr_b2 (f_M_recover S334 x2 v336) fun v339 S338 =>
  f_W_law_B2025 X L k23 S338 x1 x2 x3 x4
def f_W_law_B1739 (X : Nat → Int32) (L : Nat) (k23 : AS → Option Nat → Option Nat → Option Nat → Int32 → Option (Int32 × AS)) (S : AS) (x1 : Option Nat) (x2 : Option Nat) (x3 : Option Nat) (x4 : Int32) : Option (Int32 × AS) :=
  (kr_sx X L (x4 + (1 : Int32))).bind fun v340 =>
  (kr_sx X L (x4 + (2 : Int32))).bind fun v341 =>
  kr_b2 (f_W_vouch S x1 v340 v341 x3) fun v343 S342 =>
  (kr_sx X L (x4 + (1 : Int32))).bind fun v344 =>
  (kr_sx X L (x4 + (2 : Int32))).bind fun v345 =>
  (kr_rv S342 23 x2).bind fun u346 =>
  kr_b2 (f_M_vouch S342 x2 v344 v345) fun v348 S347 =>
  f_W_law_B2025 X L k23 S347 x1 x2 x3 x4
def f_W_law_B1779 (X : Nat → Int32) (L : Nat) (k23 : AS → Option Nat → Option Nat → Option Nat → Int32 → Option (Int32 × AS)) (S : AS) (x1 : Option Nat) (x2 : Option Nat) (x3 : Option Nat) (x4 : Int32) : Option (Int32 × AS) :=
  (kr_sx X L (x4 + (1 : Int32))).bind fun v349 =>
  (kr_sx X L (x4 + (2 : Int32))).bind fun v350 =>
  kr_b2 (f_W_stop S x1 v349 v350 x3) fun v352 S351 =>
  (kr_sx X L (x4 + (1 : Int32))).bind fun v353 =>
  (kr_sx X L (x4 + (2 : Int32))).bind fun v354 =>
  (kr_rv S351 23 x2).bind fun u355 =>
  kr_b2 (f_M_stop S351 x2 v353 v354) fun v357 S356 =>
  f_W_law_B2025 X L k23 S356 x1 x2 x3 x4
def f_W_law_B1819 (X : Nat → Int32) (L : Nat) (k23 : AS → Option Nat → Option Nat → Option Nat → Int32 → Option (Int32 × AS)) (S : AS) (x1 : Option Nat) (x2 : Option Nat) (x3 : Option Nat) (x4 : Int32) : Option (Int32 × AS) :=
  (kr_sx X L (x4 + (1 : Int32))).bind fun v358 =>
  kr_b2 (f_W_finish S x1 v358 x3) fun v360 S359 =>
  (kr_sx X L (x4 + (1 : Int32))).bind fun v361 =>
  (kr_rv S359 23 x2).bind fun u362 =>
  kr_b2 (f_M_finish S359 x2 v361) fun v364 S363 =>
  f_W_law_B2025 X L k23 S363 x1 x2 x3 x4
def f_W_law_B1847 (X : Nat → Int32) (L : Nat) (k23 : AS → Option Nat → Option Nat → Option Nat → Int32 → Option (Int32 × AS)) (S : AS) (x1 : Option Nat) (x2 : Option Nat) (x3 : Option Nat) (x4 : Int32) : Option (Int32 × AS) :=
  (kr_sx X L (x4 + (1 : Int32))).bind fun v365 =>
  (kr_sx X L (x4 + (2 : Int32))).bind fun v366 =>
  kr_b2 (f_W_link S x1 v365 v366 x3) fun v368 S367 =>
  (kr_sx X L (x4 + (1 : Int32))).bind fun v369 =>
  (kr_sx X L (x4 + (2 : Int32))).bind fun v370 =>
  (kr_rv S367 23 x2).bind fun u371 =>
  kr_b2 (f_M_link S367 x2 v369 v370) fun v373 S372 =>
  f_W_law_B2025 X L k23 S372 x1 x2 x3 x4
def f_W_law_B1887 (X : Nat → Int32) (L : Nat) (k23 : AS → Option Nat → Option Nat → Option Nat → Int32 → Option (Int32 × AS)) (S : AS) (x1 : Option Nat) (x2 : Option Nat) (x3 : Option Nat) (x4 : Int32) : Option (Int32 × AS) :=
  (kr_sx X L (x4 + (1 : Int32))).bind fun v374 =>
  kr_b2 (f_W_foreign S x1 v374 x3) fun v376 S375 =>
  (kr_sx X L (x4 + (1 : Int32))).bind fun v377 =>
  (kr_rv S375 23 x2).bind fun u378 =>
  kr_b2 (f_M_foreign S375 x2 v377) fun v380 S379 =>
  f_W_law_B2025 X L k23 S379 x1 x2 x3 x4
def f_W_law_B1915 (X : Nat → Int32) (L : Nat) (k23 : AS → Option Nat → Option Nat → Option Nat → Int32 → Option (Int32 × AS)) (S : AS) (x1 : Option Nat) (x2 : Option Nat) (x3 : Option Nat) (x4 : Int32) : Option (Int32 × AS) :=
  (kr_sx X L (x4 + (1 : Int32))).bind fun v381 =>
  kr_b2 (f_W_leave S x1 v381 x3) fun v383 S382 =>
  (kr_sx X L (x4 + (1 : Int32))).bind fun v384 =>
  (kr_rv S382 23 x2).bind fun u385 =>
  kr_b2 (f_M_leave S382 x2 v384) fun v387 S386 =>
  f_W_law_B2025 X L k23 S386 x1 x2 x3 x4
def f_W_law_B1943 (X : Nat → Int32) (L : Nat) (k23 : AS → Option Nat → Option Nat → Option Nat → Int32 → Option (Int32 × AS)) (S : AS) (x1 : Option Nat) (x2 : Option Nat) (x3 : Option Nat) (x4 : Int32) : Option (Int32 × AS) :=
  (kr_rv S 22 x1).bind fun u388 =>
  kr_b2 (f_K_audits S x1) fun v390 S389 =>
  (kr_rv S389 23 x2).bind fun u391 =>
  kr_b2 (f_M_audits S389 x2) fun v393 S392 =>
  f_W_law_B2025 X L k23 S392 x1 x2 x3 x4
def f_W_law_B1956 (X : Nat → Int32) (L : Nat) (k23 : AS → Option Nat → Option Nat → Option Nat → Int32 → Option (Int32 × AS)) (S : AS) (x1 : Option Nat) (x2 : Option Nat) (x3 : Option Nat) (x4 : Int32) : Option (Int32 × AS) :=
  (kr_sx X L (x4 + (1 : Int32))).bind fun v394 =>
  kr_b2 (f_W_audit S x1 v394 x3) fun v396 S395 =>
  (kr_sx X L (x4 + (1 : Int32))).bind fun v397 =>
  (kr_rv S395 23 x2).bind fun u398 =>
  kr_b2 (f_M_audit S395 x2 v397) fun v400 S399 =>
  f_W_law_B2025 X L k23 S399 x1 x2 x3 x4
def f_W_law_B1984 (X : Nat → Int32) (L : Nat) (k23 : AS → Option Nat → Option Nat → Option Nat → Int32 → Option (Int32 × AS)) (S : AS) (x1 : Option Nat) (x2 : Option Nat) (x3 : Option Nat) (x4 : Int32) : Option (Int32 × AS) :=
  (kr_rv S 22 x1).bind fun u401 =>
  kr_b2 (f_K_sum S x1) fun v403 S402 =>
  (kr_rv S402 23 x2).bind fun u404 =>
  kr_b2 (f_M_sum S402 x2) fun v406 S405 =>
  f_W_law_B2025 X L k23 S405 x1 x2 x3 x4
def f_W_law_B1997 (X : Nat → Int32) (L : Nat) (k23 : AS → Option Nat → Option Nat → Option Nat → Int32 → Option (Int32 × AS)) (S : AS) (x1 : Option Nat) (x2 : Option Nat) (x3 : Option Nat) (x4 : Int32) : Option (Int32 × AS) :=
  (kr_sx X L (x4 + (1 : Int32))).bind fun v407 =>
  kr_b2 (f_W_sumAnew S x1 v407 x3) fun v409 S408 =>
  (kr_sx X L (x4 + (1 : Int32))).bind fun v410 =>
  (kr_rv S408 23 x2).bind fun u411 =>
  kr_b2 (f_M_sumAnew S408 x2 v410) fun v413 S412 =>
  f_W_law_B2025 X L k23 S412 x1 x2 x3 x4
def f_W_law_C23 (X : Nat → Int32) (L : Nat) (k23 : AS → Option Nat → Option Nat → Option Nat → Int32 → Option (Int32 × AS)) (S : AS) (x1 : Option Nat) (x2 : Option Nat) (x3 : Option Nat) (x4 : Int32) : Option (Int32 × AS) :=
  if ((Int32.ofNat L) - (6 : Int32)) < x4 then
  some ((1 : Int32), S)
  else
  (kr_sx X L x4).bind fun v414 =>
  (some (v414 &&& (63 : Int32))).bind fun i415 =>
  if i415 = (0 : Int32) then
  f_W_law_B260 X L k23 S x1 x2 x3 x4
  else if i415 = (1 : Int32) then
  f_W_law_B288 X L k23 S x1 x2 x3 x4
  else if i415 = (2 : Int32) then
  f_W_law_B328 X L k23 S x1 x2 x3 x4
  else if i415 = (3 : Int32) then
  f_W_law_B368 X L k23 S x1 x2 x3 x4
  else if i415 = (4 : Int32) then
  f_W_law_B444 X L k23 S x1 x2 x3 x4
  else if i415 = (5 : Int32) then
  f_W_law_B457 X L k23 S x1 x2 x3 x4
  else if i415 = (6 : Int32) then
  f_W_law_B473 X L k23 S x1 x2 x3 x4
  else if i415 = (7 : Int32) then
  f_W_law_B501 X L k23 S x1 x2 x3 x4
  else if i415 = (8 : Int32) then
  f_W_law_B569 X L k23 S x1 x2 x3 x4
  else if i415 = (9 : Int32) then
  f_W_law_B621 X L k23 S x1 x2 x3 x4
  else if i415 = (10 : Int32) then
  f_W_law_B689 X L k23 S x1 x2 x3 x4
  else if i415 = (11 : Int32) then
  f_W_law_B717 X L k23 S x1 x2 x3 x4
  else if i415 = (12 : Int32) then
  f_W_law_B745 X L k23 S x1 x2 x3 x4
  else if i415 = (13 : Int32) then
  f_W_law_B773 X L k23 S x1 x2 x3 x4
  else if i415 = (14 : Int32) then
  f_W_law_B801 X L k23 S x1 x2 x3 x4
  else if i415 = (15 : Int32) then
  f_W_law_B829 X L k23 S x1 x2 x3 x4
  else if i415 = (16 : Int32) then
  f_W_law_B842 X L k23 S x1 x2 x3 x4
  else if i415 = (17 : Int32) then
  f_W_law_B870 X L k23 S x1 x2 x3 x4
  else if i415 = (18 : Int32) then
  f_W_law_B898 X L k23 S x1 x2 x3 x4
  else if i415 = (19 : Int32) then
  f_W_law_B926 X L k23 S x1 x2 x3 x4
  else if i415 = (20 : Int32) then
  f_W_law_B1006 X L k23 S x1 x2 x3 x4
  else if i415 = (21 : Int32) then
  f_W_law_B1034 X L k23 S x1 x2 x3 x4
  else if i415 = (22 : Int32) then
  f_W_law_B1062 X L k23 S x1 x2 x3 x4
  else if i415 = (23 : Int32) then
  f_W_law_B1102 X L k23 S x1 x2 x3 x4
  else if i415 = (24 : Int32) then
  f_W_law_B1154 X L k23 S x1 x2 x3 x4
  else if i415 = (25 : Int32) then
  f_W_law_B1194 X L k23 S x1 x2 x3 x4
  else if i415 = (26 : Int32) then
  f_W_law_B1234 X L k23 S x1 x2 x3 x4
  else if i415 = (27 : Int32) then
  f_W_law_B1298 X L k23 S x1 x2 x3 x4
  else if i415 = (28 : Int32) then
  f_W_law_B1354 X L k23 S x1 x2 x3 x4
  else if i415 = (29 : Int32) then
  f_W_law_B1394 X L k23 S x1 x2 x3 x4
  else if i415 = (30 : Int32) then
  f_W_law_B1422 X L k23 S x1 x2 x3 x4
  else if i415 = (31 : Int32) then
  f_W_law_B1450 X L k23 S x1 x2 x3 x4
  else if i415 = (32 : Int32) then
  f_W_law_B1502 X L k23 S x1 x2 x3 x4
  else if i415 = (33 : Int32) then
  f_W_law_B1530 X L k23 S x1 x2 x3 x4
  else if i415 = (34 : Int32) then
  f_W_law_B1546 X L k23 S x1 x2 x3 x4
  else if i415 = (35 : Int32) then
  f_W_law_B1562 X L k23 S x1 x2 x3 x4
  else if i415 = (36 : Int32) then
  f_W_law_B1575 X L k23 S x1 x2 x3 x4
  else if i415 = (37 : Int32) then
  f_W_law_B1603 X L k23 S x1 x2 x3 x4
  else if i415 = (38 : Int32) then
  f_W_law_B1631 X L k23 S x1 x2 x3 x4
  else if i415 = (39 : Int32) then
  f_W_law_B1683 X L k23 S x1 x2 x3 x4
  else if i415 = (40 : Int32) then
  f_W_law_B1711 X L k23 S x1 x2 x3 x4
  else if i415 = (41 : Int32) then
  f_W_law_B1739 X L k23 S x1 x2 x3 x4
  else if i415 = (42 : Int32) then
  f_W_law_B1779 X L k23 S x1 x2 x3 x4
  else if i415 = (43 : Int32) then
  f_W_law_B1819 X L k23 S x1 x2 x3 x4
  else if i415 = (44 : Int32) then
  f_W_law_B1847 X L k23 S x1 x2 x3 x4
  else if i415 = (45 : Int32) then
  f_W_law_B1887 X L k23 S x1 x2 x3 x4
  else if i415 = (46 : Int32) then
  f_W_law_B1915 X L k23 S x1 x2 x3 x4
  else if i415 = (47 : Int32) then
  f_W_law_B1943 X L k23 S x1 x2 x3 x4
  else if i415 = (48 : Int32) then
  f_W_law_B1956 X L k23 S x1 x2 x3 x4
  else if i415 = (49 : Int32) then
  f_W_law_B1984 X L k23 S x1 x2 x3 x4
  else if i415 = (50 : Int32) then
  f_W_law_B1997 X L k23 S x1 x2 x3 x4
  else f_W_law_B2025 X L k23 S x1 x2 x3 x4
def f_W_law_L23 (X : Nat → Int32) (L : Nat) : Nat → AS → Option Nat → Option Nat → Option Nat → Int32 → Option (Int32 × AS)
  | 0, S, x1, x2, x3, x4 => none
  | n + 1, S, x1, x2, x3, x4 => f_W_law_C23 X L (f_W_law_L23 X L n) S x1 x2 x3 x4
def f_W_law (X : Nat → Int32) (L : Nat) (S : AS) : Option (Int32 × AS) :=
  (some (nO S 22)).bind fun S416 =>
  (f_K_init S416 (some (sN S))).bind fun S417 =>
  (some (nO S417 23)).bind fun S418 =>
  (f_M_init S418 (some (sN S417))).bind fun S419 =>
  (nA S419 42 (1 : Int32)).bind fun S420 =>
  f_W_law_L23 X L kr_FU S420 (some (sN S)) (some (sN S417)) (some (sN S419)) (0 : Int32)
set_option maxRecDepth 20000 in
set_option maxHeartbeats 4000000 in
theorem s_W_law_B2025 {X : Nat → Int32} {L : Nat} {k23 : AS → Option Nat → Option Nat → Option Nat → Int32 → Option (Int32 × AS)} (hk23 : ∀ {S : AS} {x1 : Option Nat} {x2 : Option Nat} {x3 : Option Nat} {x4 : Int32} {r : (Int32 × AS)}, k23 S x1 x2 x3 x4 = some r → kr_AW (m_W_law X L) 15 23 [(0, va_rf (some 2)), (1, va_rf x1), (2, va_rf x2), (3, va_rf x3), (4, .int x4)] [] S (kr_eI r)) {S : AS} {x1 : Option Nat} {x2 : Option Nat} {x3 : Option Nat} {x4 : Int32} {r : (Int32 × AS)} (h : f_W_law_B2025 X L k23 S x1 x2 x3 x4 = some r) : kr_AW (m_W_law X L) 15 2025 [(0, va_rf (some 2)), (1, va_rf x1), (2, va_rf x2), (3, va_rf x3), (4, .int x4)] [] S (kr_eI r) := by
  unfold f_W_law_B2025 at h
  have h2 := kr_ob h
  clear h
  obtain ⟨i1, ei1, h⟩ := h2
  refine r_iinc (v := i1) (lv' := [(4, .int i1), (0, va_rf (some 2)), (1, va_rf x1), (2, va_rf x2), (3, va_rf x3)]) 4 rfl (kr_inc (by decide) ei1) (by show (4 : Nat) < 7; decide) (by simp [kr_st, kr_rfcat, kr_icat]) d_W_law_2025 ?_
  refine r_goto (tgt := 23) d_W_law_2028 rfl ?_
  exact kr_sub [1, 2, 3, 4, 0] rfl (hk23 h)
set_option maxRecDepth 20000 in
set_option maxHeartbeats 4000000 in
theorem s_W_law_B260 {X : Nat → Int32} {L : Nat} {k23 : AS → Option Nat → Option Nat → Option Nat → Int32 → Option (Int32 × AS)} (hk23 : ∀ {S : AS} {x1 : Option Nat} {x2 : Option Nat} {x3 : Option Nat} {x4 : Int32} {r : (Int32 × AS)}, k23 S x1 x2 x3 x4 = some r → kr_AW (m_W_law X L) 15 23 [(0, va_rf (some 2)), (1, va_rf x1), (2, va_rf x2), (3, va_rf x3), (4, .int x4)] [] S (kr_eI r)) {S : AS} {x1 : Option Nat} {x2 : Option Nat} {x3 : Option Nat} {x4 : Int32} {r : (Int32 × AS)} (h : f_W_law_B260 X L k23 S x1 x2 x3 x4 = some r) : kr_AW (m_W_law X L) 15 260 [(0, va_rf (some 2)), (1, va_rf x1), (2, va_rf x2), (3, va_rf x3), (4, .int x4)] [] S (kr_eI r) := by
  unfold f_W_law_B260 at h
  refine r_aload_n (i := 1) (x := x1) 1 rfl d_W_law_260 ?_
  refine r_aload_n (i := 0) (x := (some 2)) 0 rfl d_W_law_261 ?_
  refine r_iload (i := 4) (x := x4) 4 rfl d_W_law_262 ?_
  refine r_iconst (v := (1 : Int32)) (by decide) d_W_law_264 ?_
  refine r_iadd d_W_law_265 ?_
  have h2 := kr_ob h
  clear h
  obtain ⟨v2, ev2, h⟩ := h2
  refine r_sload rfl ev2 d_W_law_266 ?_
  refine r_aload_n (i := 3) (x := x3) 3 rfl d_W_law_267 ?_
  have h2 := kr_ob2 h
  clear h
  obtain ⟨v4, S3, eS3, h⟩ := h2
  refine r_callSX (M1 := m_W_pass) (As := [va_rf x1, .int v2, va_rf x3]) (s_W_pass eS3) mok_W_pass (by decide) w364 w365 (by decide) (kr_c8 kr_c0) d_W_law_268 (kr_k1 ?_) kr_kn
  refine r_istore (i := 5) (lv' := [(5, .int v4), (0, va_rf (some 2)), (1, va_rf x1), (2, va_rf x2), (3, va_rf x3), (4, .int x4)]) (by show (5 : Nat) < 7; decide) rfl d_W_law_271 ?_
  refine r_aload_n (i := 2) (x := x2) 3 rfl d_W_law_273 ?_
  refine r_aload_n (i := 0) (x := (some 2)) 1 rfl d_W_law_274 ?_
  refine r_iload (i := 4) (x := x4) 5 rfl d_W_law_275 ?_
  refine r_iconst (v := (1 : Int32)) (by decide) d_W_law_277 ?_
  refine r_iadd d_W_law_278 ?_
  have h2 := kr_ob h
  clear h
  obtain ⟨v5, ev5, h⟩ := h2
  refine r_sload rfl ev5 d_W_law_279 ?_
  have h2 := kr_ob h
  clear h
  obtain ⟨⟨⟩, eu6, h⟩ := h2
  have h2 := kr_ob2 h
  clear h
  obtain ⟨v8, S7, eS7, h⟩ := h2
  refine r_callV (M1 := m_M_pass) (κ := 23) (As := [.int v5]) eu6 (s_M_pass eS7) mok_M_pass rfl (by decide) rfl w1716 w1717 w1718 (by decide) (kr_c8 kr_c0) d_W_law_280 (kr_k1 ?_) kr_kn
  refine r_istore (i := 6) (lv' := [(6, .int v8), (5, .int v4), (0, va_rf (some 2)), (1, va_rf x1), (2, va_rf x2), (3, va_rf x3), (4, .int x4)]) (by show (6 : Nat) < 7; decide) rfl d_W_law_283 ?_
  refine r_goto (tgt := 2025) d_W_law_285 rfl ?_
  exact kr_sub [2, 3, 4, 5, 6] rfl (s_W_law_B2025 hk23 h)
set_option maxRecDepth 20000 in
set_option maxHeartbeats 4000000 in
theorem s_W_law_B288 {X : Nat → Int32} {L : Nat} {k23 : AS → Option Nat → Option Nat → Option Nat → Int32 → Option (Int32 × AS)} (hk23 : ∀ {S : AS} {x1 : Option Nat} {x2 : Option Nat} {x3 : Option Nat} {x4 : Int32} {r : (Int32 × AS)}, k23 S x1 x2 x3 x4 = some r → kr_AW (m_W_law X L) 15 23 [(0, va_rf (some 2)), (1, va_rf x1), (2, va_rf x2), (3, va_rf x3), (4, .int x4)] [] S (kr_eI r)) {S : AS} {x1 : Option Nat} {x2 : Option Nat} {x3 : Option Nat} {x4 : Int32} {r : (Int32 × AS)} (h : f_W_law_B288 X L k23 S x1 x2 x3 x4 = some r) : kr_AW (m_W_law X L) 15 288 [(0, va_rf (some 2)), (1, va_rf x1), (2, va_rf x2), (3, va_rf x3), (4, .int x4)] [] S (kr_eI r) := by
  unfold f_W_law_B288 at h
  refine r_aload_n (i := 1) (x := x1) 1 rfl d_W_law_288 ?_
  refine r_aload_n (i := 0) (x := (some 2)) 0 rfl d_W_law_289 ?_
  refine r_iload (i := 4) (x := x4) 4 rfl d_W_law_290 ?_
  refine r_iconst (v := (1 : Int32)) (by decide) d_W_law_292 ?_
  refine r_iadd d_W_law_293 ?_
  have h2 := kr_ob h
  clear h
  obtain ⟨v9, ev9, h⟩ := h2
  refine r_sload rfl ev9 d_W_law_294 ?_
  refine r_aload_n (i := 0) (x := (some 2)) 0 rfl d_W_law_295 ?_
  refine r_iload (i := 4) (x := x4) 4 rfl d_W_law_296 ?_
  refine r_iconst (v := (2 : Int32)) (by decide) d_W_law_298 ?_
  refine r_iadd d_W_law_299 ?_
  have h2 := kr_ob h
  clear h
  obtain ⟨v10, ev10, h⟩ := h2
  refine r_sload rfl ev10 d_W_law_300 ?_
  refine r_aload_n (i := 3) (x := x3) 3 rfl d_W_law_301 ?_
  have h2 := kr_ob2 h
  clear h
  obtain ⟨v12, S11, eS11, h⟩ := h2
  refine r_callSX (M1 := m_W_enroll) (As := [va_rf x1, .int v9, .int v10, va_rf x3]) (s_W_enroll eS11) mok_W_enroll (by decide) w551 w552 (by decide) (kr_c8 kr_c0) d_W_law_302 (kr_k1 ?_) kr_kn
  refine r_istore (i := 5) (lv' := [(5, .int v12), (0, va_rf (some 2)), (1, va_rf x1), (2, va_rf x2), (3, va_rf x3), (4, .int x4)]) (by show (5 : Nat) < 7; decide) rfl d_W_law_305 ?_
  refine r_aload_n (i := 2) (x := x2) 3 rfl d_W_law_307 ?_
  refine r_aload_n (i := 0) (x := (some 2)) 1 rfl d_W_law_308 ?_
  refine r_iload (i := 4) (x := x4) 5 rfl d_W_law_309 ?_
  refine r_iconst (v := (1 : Int32)) (by decide) d_W_law_311 ?_
  refine r_iadd d_W_law_312 ?_
  have h2 := kr_ob h
  clear h
  obtain ⟨v13, ev13, h⟩ := h2
  refine r_sload rfl ev13 d_W_law_313 ?_
  refine r_aload_n (i := 0) (x := (some 2)) 1 rfl d_W_law_314 ?_
  refine r_iload (i := 4) (x := x4) 5 rfl d_W_law_315 ?_
  refine r_iconst (v := (2 : Int32)) (by decide) d_W_law_317 ?_
  refine r_iadd d_W_law_318 ?_
  have h2 := kr_ob h
  clear h
  obtain ⟨v14, ev14, h⟩ := h2
  refine r_sload rfl ev14 d_W_law_319 ?_
  have h2 := kr_ob h
  clear h
  obtain ⟨⟨⟩, eu15, h⟩ := h2
  have h2 := kr_ob2 h
  clear h
  obtain ⟨v17, S16, eS16, h⟩ := h2
  refine r_callV (M1 := m_M_enroll) (κ := 23) (As := [.int v13, .int v14]) eu15 (s_M_enroll eS16) mok_M_enroll rfl (by decide) rfl w1744 w1745 w1746 (by decide) (kr_c8 kr_c0) d_W_law_320 (kr_k1 ?_) kr_kn
  refine r_istore (i := 6) (lv' := [(6, .int v17), (5, .int v12), (0, va_rf (some 2)), (1, va_rf x1), (2, va_rf x2), (3, va_rf x3), (4, .int x4)]) (by show (6 : Nat) < 7; decide) rfl d_W_law_323 ?_
  refine r_goto (tgt := 2025) d_W_law_325 rfl ?_
  exact kr_sub [2, 3, 4, 5, 6] rfl (s_W_law_B2025 hk23 h)
set_option maxRecDepth 20000 in
set_option maxHeartbeats 4000000 in
theorem s_W_law_B328 {X : Nat → Int32} {L : Nat} {k23 : AS → Option Nat → Option Nat → Option Nat → Int32 → Option (Int32 × AS)} (hk23 : ∀ {S : AS} {x1 : Option Nat} {x2 : Option Nat} {x3 : Option Nat} {x4 : Int32} {r : (Int32 × AS)}, k23 S x1 x2 x3 x4 = some r → kr_AW (m_W_law X L) 15 23 [(0, va_rf (some 2)), (1, va_rf x1), (2, va_rf x2), (3, va_rf x3), (4, .int x4)] [] S (kr_eI r)) {S : AS} {x1 : Option Nat} {x2 : Option Nat} {x3 : Option Nat} {x4 : Int32} {r : (Int32 × AS)} (h : f_W_law_B328 X L k23 S x1 x2 x3 x4 = some r) : kr_AW (m_W_law X L) 15 328 [(0, va_rf (some 2)), (1, va_rf x1), (2, va_rf x2), (3, va_rf x3), (4, .int x4)] [] S (kr_eI r) := by
  unfold f_W_law_B328 at h
  refine r_aload_n (i := 1) (x := x1) 1 rfl d_W_law_328 ?_
  refine r_aload_n (i := 0) (x := (some 2)) 0 rfl d_W_law_329 ?_
  refine r_iload (i := 4) (x := x4) 4 rfl d_W_law_330 ?_
  refine r_iconst (v := (1 : Int32)) (by decide) d_W_law_332 ?_
  refine r_iadd d_W_law_333 ?_
  have h2 := kr_ob h
  clear h
  obtain ⟨v18, ev18, h⟩ := h2
  refine r_sload rfl ev18 d_W_law_334 ?_
  refine r_aload_n (i := 0) (x := (some 2)) 0 rfl d_W_law_335 ?_
  refine r_iload (i := 4) (x := x4) 4 rfl d_W_law_336 ?_
  refine r_iconst (v := (2 : Int32)) (by decide) d_W_law_338 ?_
  refine r_iadd d_W_law_339 ?_
  have h2 := kr_ob h
  clear h
  obtain ⟨v19, ev19, h⟩ := h2
  refine r_sload rfl ev19 d_W_law_340 ?_
  refine r_aload_n (i := 3) (x := x3) 3 rfl d_W_law_341 ?_
  have h2 := kr_ob2 h
  clear h
  obtain ⟨v21, S20, eS20, h⟩ := h2
  refine r_callSX (M1 := m_W_factor) (As := [va_rf x1, .int v18, .int v19, va_rf x3]) (s_W_factor eS20) mok_W_factor (by decide) w575 w576 (by decide) (kr_c8 kr_c0) d_W_law_342 (kr_k1 ?_) kr_kn
  refine r_istore (i := 5) (lv' := [(5, .int v21), (0, va_rf (some 2)), (1, va_rf x1), (2, va_rf x2), (3, va_rf x3), (4, .int x4)]) (by show (5 : Nat) < 7; decide) rfl d_W_law_345 ?_
  refine r_aload_n (i := 2) (x := x2) 3 rfl d_W_law_347 ?_
  refine r_aload_n (i := 0) (x := (some 2)) 1 rfl d_W_law_348 ?_
  refine r_iload (i := 4) (x := x4) 5 rfl d_W_law_349 ?_
  refine r_iconst (v := (1 : Int32)) (by decide) d_W_law_351 ?_
  refine r_iadd d_W_law_352 ?_
  have h2 := kr_ob h
  clear h
  obtain ⟨v22, ev22, h⟩ := h2
  refine r_sload rfl ev22 d_W_law_353 ?_
  refine r_aload_n (i := 0) (x := (some 2)) 1 rfl d_W_law_354 ?_
  refine r_iload (i := 4) (x := x4) 5 rfl d_W_law_355 ?_
  refine r_iconst (v := (2 : Int32)) (by decide) d_W_law_357 ?_
  refine r_iadd d_W_law_358 ?_
  have h2 := kr_ob h
  clear h
  obtain ⟨v23, ev23, h⟩ := h2
  refine r_sload rfl ev23 d_W_law_359 ?_
  have h2 := kr_ob h
  clear h
  obtain ⟨⟨⟩, eu24, h⟩ := h2
  have h2 := kr_ob2 h
  clear h
  obtain ⟨v26, S25, eS25, h⟩ := h2
  refine r_callV (M1 := m_M_factor) (κ := 23) (As := [.int v22, .int v23]) eu24 (s_M_factor eS25) mok_M_factor rfl (by decide) rfl w1758 w1759 w1760 (by decide) (kr_c8 kr_c0) d_W_law_360 (kr_k1 ?_) kr_kn
  refine r_istore (i := 6) (lv' := [(6, .int v26), (5, .int v21), (0, va_rf (some 2)), (1, va_rf x1), (2, va_rf x2), (3, va_rf x3), (4, .int x4)]) (by show (6 : Nat) < 7; decide) rfl d_W_law_363 ?_
  refine r_goto (tgt := 2025) d_W_law_365 rfl ?_
  exact kr_sub [2, 3, 4, 5, 6] rfl (s_W_law_B2025 hk23 h)
set_option maxRecDepth 20000 in
set_option maxHeartbeats 4000000 in
theorem s_W_law_B368 {X : Nat → Int32} {L : Nat} {k23 : AS → Option Nat → Option Nat → Option Nat → Int32 → Option (Int32 × AS)} (hk23 : ∀ {S : AS} {x1 : Option Nat} {x2 : Option Nat} {x3 : Option Nat} {x4 : Int32} {r : (Int32 × AS)}, k23 S x1 x2 x3 x4 = some r → kr_AW (m_W_law X L) 15 23 [(0, va_rf (some 2)), (1, va_rf x1), (2, va_rf x2), (3, va_rf x3), (4, .int x4)] [] S (kr_eI r)) {S : AS} {x1 : Option Nat} {x2 : Option Nat} {x3 : Option Nat} {x4 : Int32} {r : (Int32 × AS)} (h : f_W_law_B368 X L k23 S x1 x2 x3 x4 = some r) : kr_AW (m_W_law X L) 15 368 [(0, va_rf (some 2)), (1, va_rf x1), (2, va_rf x2), (3, va_rf x3), (4, .int x4)] [] S (kr_eI r) := by
  unfold f_W_law_B368 at h
  refine r_aload_n (i := 1) (x := x1) 1 rfl d_W_law_368 ?_
  refine r_aload_n (i := 0) (x := (some 2)) 0 rfl d_W_law_369 ?_
  refine r_iload (i := 4) (x := x4) 4 rfl d_W_law_370 ?_
  refine r_iconst (v := (1 : Int32)) (by decide) d_W_law_372 ?_
  refine r_iadd d_W_law_373 ?_
  have h2 := kr_ob h
  clear h
  obtain ⟨v27, ev27, h⟩ := h2
  refine r_sload rfl ev27 d_W_law_374 ?_
  refine r_aload_n (i := 0) (x := (some 2)) 0 rfl d_W_law_375 ?_
  refine r_iload (i := 4) (x := x4) 4 rfl d_W_law_376 ?_
  refine r_iconst (v := (2 : Int32)) (by decide) d_W_law_378 ?_
  refine r_iadd d_W_law_379 ?_
  have h2 := kr_ob h
  clear h
  obtain ⟨v28, ev28, h⟩ := h2
  refine r_sload rfl ev28 d_W_law_380 ?_
  refine r_aload_n (i := 0) (x := (some 2)) 0 rfl d_W_law_381 ?_
  refine r_iload (i := 4) (x := x4) 4 rfl d_W_law_382 ?_
  refine r_iconst (v := (3 : Int32)) (by decide) d_W_law_384 ?_
  refine r_iadd d_W_law_385 ?_
  have h2 := kr_ob h
  clear h
  obtain ⟨v29, ev29, h⟩ := h2
  refine r_sload rfl ev29 d_W_law_386 ?_
  refine r_aload_n (i := 0) (x := (some 2)) 0 rfl d_W_law_387 ?_
  refine r_iload (i := 4) (x := x4) 4 rfl d_W_law_388 ?_
  refine r_iconst (v := (4 : Int32)) (by decide) d_W_law_390 ?_
  refine r_iadd d_W_law_391 ?_
  have h2 := kr_ob h
  clear h
  obtain ⟨v30, ev30, h⟩ := h2
  refine r_sload rfl ev30 d_W_law_392 ?_
  refine r_aload_n (i := 0) (x := (some 2)) 0 rfl d_W_law_393 ?_
  refine r_iload (i := 4) (x := x4) 4 rfl d_W_law_394 ?_
  refine r_iconst (v := (5 : Int32)) (by decide) d_W_law_396 ?_
  refine r_iadd d_W_law_397 ?_
  have h2 := kr_ob h
  clear h
  obtain ⟨v31, ev31, h⟩ := h2
  refine r_sload rfl ev31 d_W_law_398 ?_
  refine r_aload_n (i := 3) (x := x3) 3 rfl d_W_law_399 ?_
  have h2 := kr_ob2 h
  clear h
  obtain ⟨v33, S32, eS32, h⟩ := h2
  refine r_callSX (M1 := m_W_step) (As := [va_rf x1, .int v27, .int v28, .int v29, .int v30, .int v31, va_rf x3]) (s_W_step eS32) mok_W_step (by decide) w582 w583 (by decide) (kr_c8 kr_c0) d_W_law_400 (kr_k1 ?_) kr_kn
  refine r_istore (i := 5) (lv' := [(5, .int v33), (0, va_rf (some 2)), (1, va_rf x1), (2, va_rf x2), (3, va_rf x3), (4, .int x4)]) (by show (5 : Nat) < 7; decide) rfl d_W_law_403 ?_
  refine r_aload_n (i := 2) (x := x2) 3 rfl d_W_law_405 ?_
  refine r_aload_n (i := 0) (x := (some 2)) 1 rfl d_W_law_406 ?_
  refine r_iload (i := 4) (x := x4) 5 rfl d_W_law_407 ?_
  refine r_iconst (v := (1 : Int32)) (by decide) d_W_law_409 ?_
  refine r_iadd d_W_law_410 ?_
  have h2 := kr_ob h
  clear h
  obtain ⟨v34, ev34, h⟩ := h2
  refine r_sload rfl ev34 d_W_law_411 ?_
  refine r_aload_n (i := 0) (x := (some 2)) 1 rfl d_W_law_412 ?_
  refine r_iload (i := 4) (x := x4) 5 rfl d_W_law_413 ?_
  refine r_iconst (v := (2 : Int32)) (by decide) d_W_law_415 ?_
  refine r_iadd d_W_law_416 ?_
  have h2 := kr_ob h
  clear h
  obtain ⟨v35, ev35, h⟩ := h2
  refine r_sload rfl ev35 d_W_law_417 ?_
  refine r_aload_n (i := 0) (x := (some 2)) 1 rfl d_W_law_418 ?_
  refine r_iload (i := 4) (x := x4) 5 rfl d_W_law_419 ?_
  refine r_iconst (v := (3 : Int32)) (by decide) d_W_law_421 ?_
  refine r_iadd d_W_law_422 ?_
  have h2 := kr_ob h
  clear h
  obtain ⟨v36, ev36, h⟩ := h2
  refine r_sload rfl ev36 d_W_law_423 ?_
  refine r_aload_n (i := 0) (x := (some 2)) 1 rfl d_W_law_424 ?_
  refine r_iload (i := 4) (x := x4) 5 rfl d_W_law_425 ?_
  refine r_iconst (v := (4 : Int32)) (by decide) d_W_law_427 ?_
  refine r_iadd d_W_law_428 ?_
  have h2 := kr_ob h
  clear h
  obtain ⟨v37, ev37, h⟩ := h2
  refine r_sload rfl ev37 d_W_law_429 ?_
  refine r_aload_n (i := 0) (x := (some 2)) 1 rfl d_W_law_430 ?_
  refine r_iload (i := 4) (x := x4) 5 rfl d_W_law_431 ?_
  refine r_iconst (v := (5 : Int32)) (by decide) d_W_law_433 ?_
  refine r_iadd d_W_law_434 ?_
  have h2 := kr_ob h
  clear h
  obtain ⟨v38, ev38, h⟩ := h2
  refine r_sload rfl ev38 d_W_law_435 ?_
  have h2 := kr_ob h
  clear h
  obtain ⟨⟨⟩, eu39, h⟩ := h2
  have h2 := kr_ob2 h
  clear h
  obtain ⟨v41, S40, eS40, h⟩ := h2
  refine r_callV (M1 := m_M_step) (κ := 23) (As := [.int v34, .int v35, .int v36, .int v37, .int v38]) eu39 (s_M_step eS40) mok_M_step rfl (by decide) rfl w1762 w1763 w1764 (by decide) (kr_c8 kr_c0) d_W_law_436 (kr_k1 ?_) kr_kn
  refine r_istore (i := 6) (lv' := [(6, .int v41), (5, .int v33), (0, va_rf (some 2)), (1, va_rf x1), (2, va_rf x2), (3, va_rf x3), (4, .int x4)]) (by show (6 : Nat) < 7; decide) rfl d_W_law_439 ?_
  refine r_goto (tgt := 2025) d_W_law_441 rfl ?_
  exact kr_sub [2, 3, 4, 5, 6] rfl (s_W_law_B2025 hk23 h)
set_option maxRecDepth 20000 in
set_option maxHeartbeats 4000000 in
theorem s_W_law_B444 {X : Nat → Int32} {L : Nat} {k23 : AS → Option Nat → Option Nat → Option Nat → Int32 → Option (Int32 × AS)} (hk23 : ∀ {S : AS} {x1 : Option Nat} {x2 : Option Nat} {x3 : Option Nat} {x4 : Int32} {r : (Int32 × AS)}, k23 S x1 x2 x3 x4 = some r → kr_AW (m_W_law X L) 15 23 [(0, va_rf (some 2)), (1, va_rf x1), (2, va_rf x2), (3, va_rf x3), (4, .int x4)] [] S (kr_eI r)) {S : AS} {x1 : Option Nat} {x2 : Option Nat} {x3 : Option Nat} {x4 : Int32} {r : (Int32 × AS)} (h : f_W_law_B444 X L k23 S x1 x2 x3 x4 = some r) : kr_AW (m_W_law X L) 15 444 [(0, va_rf (some 2)), (1, va_rf x1), (2, va_rf x2), (3, va_rf x3), (4, .int x4)] [] S (kr_eI r) := by
  unfold f_W_law_B444 at h
  refine r_aload_n (i := 1) (x := x1) 1 rfl d_W_law_444 ?_
  have h2 := kr_ob h
  clear h
  obtain ⟨⟨⟩, eu42, h⟩ := h2
  have h2 := kr_ob2 h
  clear h
  obtain ⟨v44, S43, eS43, h⟩ := h2
  refine r_callV (M1 := m_K_clear) (κ := 22) (As := []) eu42 (s_K_clear eS43) mok_K_clear rfl (by decide) rfl w340 w341 w342 (by decide) (kr_c8 kr_c0) d_W_law_445 (kr_k1 ?_) kr_kn
  refine r_pop rfl d_W_law_448 ?_
  refine r_aload_n (i := 2) (x := x2) 2 rfl d_W_law_449 ?_
  have h2 := kr_ob h
  clear h
  obtain ⟨⟨⟩, eu45, h⟩ := h2
  have h2 := kr_ob2 h
  clear h
  obtain ⟨v47, S46, eS46, h⟩ := h2
  refine r_callV (M1 := m_M_clear) (κ := 23) (As := []) eu45 (s_M_clear eS46) mok_M_clear rfl (by decide) rfl w1769 w1770 w1771 (by decide) (kr_c8 kr_c0) d_W_law_450 (kr_k1 ?_) kr_kn
  refine r_pop rfl d_W_law_453 ?_
  refine r_goto (tgt := 2025) d_W_law_454 rfl ?_
  exact kr_sub [0, 1, 2, 3, 4] rfl (s_W_law_B2025 hk23 h)
set_option maxRecDepth 20000 in
set_option maxHeartbeats 4000000 in
theorem s_W_law_B457 {X : Nat → Int32} {L : Nat} {k23 : AS → Option Nat → Option Nat → Option Nat → Int32 → Option (Int32 × AS)} (hk23 : ∀ {S : AS} {x1 : Option Nat} {x2 : Option Nat} {x3 : Option Nat} {x4 : Int32} {r : (Int32 × AS)}, k23 S x1 x2 x3 x4 = some r → kr_AW (m_W_law X L) 15 23 [(0, va_rf (some 2)), (1, va_rf x1), (2, va_rf x2), (3, va_rf x3), (4, .int x4)] [] S (kr_eI r)) {S : AS} {x1 : Option Nat} {x2 : Option Nat} {x3 : Option Nat} {x4 : Int32} {r : (Int32 × AS)} (h : f_W_law_B457 X L k23 S x1 x2 x3 x4 = some r) : kr_AW (m_W_law X L) 15 457 [(0, va_rf (some 2)), (1, va_rf x1), (2, va_rf x2), (3, va_rf x3), (4, .int x4)] [] S (kr_eI r) := by
  unfold f_W_law_B457 at h
  refine r_aload_n (i := 1) (x := x1) 1 rfl d_W_law_457 ?_
  refine r_aload_n (i := 3) (x := x3) 3 rfl d_W_law_458 ?_
  have h2 := kr_ob2 h
  clear h
  obtain ⟨v49, S48, eS48, h⟩ := h2
  refine r_callSX (M1 := m_W_publish) (As := [va_rf x1, va_rf x3]) (s_W_publish eS48) mok_W_publish (by decide) w602 w603 (by decide) (kr_c8 kr_c0) d_W_law_459 (kr_k1 ?_) kr_kn
  refine r_istore (i := 5) (lv' := [(5, .int v49), (0, va_rf (some 2)), (1, va_rf x1), (2, va_rf x2), (3, va_rf x3), (4, .int x4)]) (by show (5 : Nat) < 7; decide) rfl d_W_law_462 ?_
  refine r_aload_n (i := 2) (x := x2) 3 rfl d_W_law_464 ?_
  have h2 := kr_ob h
  clear h
  obtain ⟨⟨⟩, eu50, h⟩ := h2
  have h2 := kr_ob2 h
  clear h
  obtain ⟨v52, S51, eS51, h⟩ := h2
  refine r_callV (M1 := m_M_publish) (κ := 23) (As := []) eu50 (s_M_publish eS51) mok_M_publish rfl (by decide) rfl w1773 w1774 w1775 (by decide) (kr_c8 kr_c0) d_W_law_465 (kr_k1 ?_) kr_kn
  refine r_istore (i := 6) (lv' := [(6, .int v52), (5, .int v49), (0, va_rf (some 2)), (1, va_rf x1), (2, va_rf x2), (3, va_rf x3), (4, .int x4)]) (by show (6 : Nat) < 7; decide) rfl d_W_law_468 ?_
  refine r_goto (tgt := 2025) d_W_law_470 rfl ?_
  exact kr_sub [2, 3, 4, 5, 6] rfl (s_W_law_B2025 hk23 h)
set_option maxRecDepth 20000 in
set_option maxHeartbeats 4000000 in
theorem s_W_law_B473 {X : Nat → Int32} {L : Nat} {k23 : AS → Option Nat → Option Nat → Option Nat → Int32 → Option (Int32 × AS)} (hk23 : ∀ {S : AS} {x1 : Option Nat} {x2 : Option Nat} {x3 : Option Nat} {x4 : Int32} {r : (Int32 × AS)}, k23 S x1 x2 x3 x4 = some r → kr_AW (m_W_law X L) 15 23 [(0, va_rf (some 2)), (1, va_rf x1), (2, va_rf x2), (3, va_rf x3), (4, .int x4)] [] S (kr_eI r)) {S : AS} {x1 : Option Nat} {x2 : Option Nat} {x3 : Option Nat} {x4 : Int32} {r : (Int32 × AS)} (h : f_W_law_B473 X L k23 S x1 x2 x3 x4 = some r) : kr_AW (m_W_law X L) 15 473 [(0, va_rf (some 2)), (1, va_rf x1), (2, va_rf x2), (3, va_rf x3), (4, .int x4)] [] S (kr_eI r) := by
  unfold f_W_law_B473 at h
  refine r_aload_n (i := 1) (x := x1) 1 rfl d_W_law_473 ?_
  refine r_aload_n (i := 0) (x := (some 2)) 0 rfl d_W_law_474 ?_
  refine r_iload (i := 4) (x := x4) 4 rfl d_W_law_475 ?_
  refine r_iconst (v := (1 : Int32)) (by decide) d_W_law_477 ?_
  refine r_iadd d_W_law_478 ?_
  have h2 := kr_ob h
  clear h
  obtain ⟨v53, ev53, h⟩ := h2
  refine r_sload rfl ev53 d_W_law_479 ?_
  refine r_aload_n (i := 3) (x := x3) 3 rfl d_W_law_480 ?_
  have h2 := kr_ob2 h
  clear h
  obtain ⟨v55, S54, eS54, h⟩ := h2
  refine r_callSX (M1 := m_W_weakest) (As := [va_rf x1, .int v53, va_rf x3]) (s_W_weakest eS54) mok_W_weakest (by decide) w706 w707 (by decide) (kr_c8 kr_c0) d_W_law_481 (kr_k1 ?_) kr_kn
  refine r_istore (i := 5) (lv' := [(5, .int v55), (0, va_rf (some 2)), (1, va_rf x1), (2, va_rf x2), (3, va_rf x3), (4, .int x4)]) (by show (5 : Nat) < 7; decide) rfl d_W_law_484 ?_
  refine r_aload_n (i := 2) (x := x2) 3 rfl d_W_law_486 ?_
  refine r_aload_n (i := 0) (x := (some 2)) 1 rfl d_W_law_487 ?_
  refine r_iload (i := 4) (x := x4) 5 rfl d_W_law_488 ?_
  refine r_iconst (v := (1 : Int32)) (by decide) d_W_law_490 ?_
  refine r_iadd d_W_law_491 ?_
  have h2 := kr_ob h
  clear h
  obtain ⟨v56, ev56, h⟩ := h2
  refine r_sload rfl ev56 d_W_law_492 ?_
  have h2 := kr_ob h
  clear h
  obtain ⟨⟨⟩, eu57, h⟩ := h2
  have h2 := kr_ob2 h
  clear h
  obtain ⟨v59, S58, eS58, h⟩ := h2
  refine r_callV (M1 := m_M_weakest) (κ := 23) (As := [.int v56]) eu57 (s_M_weakest eS58) mok_M_weakest rfl (by decide) rfl w1784 w1785 w1786 (by decide) (kr_c8 kr_c0) d_W_law_493 (kr_k1 ?_) kr_kn
  refine r_istore (i := 6) (lv' := [(6, .int v59), (5, .int v55), (0, va_rf (some 2)), (1, va_rf x1), (2, va_rf x2), (3, va_rf x3), (4, .int x4)]) (by show (6 : Nat) < 7; decide) rfl d_W_law_496 ?_
  refine r_goto (tgt := 2025) d_W_law_498 rfl ?_
  exact kr_sub [2, 3, 4, 5, 6] rfl (s_W_law_B2025 hk23 h)
set_option maxRecDepth 20000 in
set_option maxHeartbeats 4000000 in
theorem s_W_law_B561 {X : Nat → Int32} {L : Nat} {k23 : AS → Option Nat → Option Nat → Option Nat → Int32 → Option (Int32 × AS)} (hk23 : ∀ {S : AS} {x1 : Option Nat} {x2 : Option Nat} {x3 : Option Nat} {x4 : Int32} {r : (Int32 × AS)}, k23 S x1 x2 x3 x4 = some r → kr_AW (m_W_law X L) 15 23 [(0, va_rf (some 2)), (1, va_rf x1), (2, va_rf x2), (3, va_rf x3), (4, .int x4)] [] S (kr_eI r)) {S : AS} {x1 : Option Nat} {x2 : Option Nat} {x3 : Option Nat} {x4 : Int32} {y0 : Option Nat} {y1 : Int32} {y2 : Int32} {y3 : Int32} {r : (Int32 × AS)} (h : f_W_law_B561 X L k23 S x1 x2 x3 x4 y0 y1 y2 y3 = some r) : kr_AW (m_W_law X L) 15 561 [(0, va_rf (some 2)), (1, va_rf x1), (2, va_rf x2), (3, va_rf x3), (4, .int x4)] [.int y3, .int y2, .int y1, va_rf y0] S (kr_eI r) := by
  unfold f_W_law_B561 at h
  have h2 := kr_ob h
  clear h
  obtain ⟨⟨⟩, eu60, h⟩ := h2
  have h2 := kr_ob2 h
  clear h
  obtain ⟨v62, S61, eS61, h⟩ := h2
  refine r_callV (M1 := m_M_points) (κ := 23) (As := [.int y1, .int y2, .int y3]) eu60 (s_M_points eS61) mok_M_points rfl (by decide) rfl w1795 w1796 w1797 (by decide) (kr_c8 kr_c0) d_W_law_561 (kr_k1 ?_) kr_kn
  refine r_istore (i := 6) (lv' := [(6, .int v62), (0, va_rf (some 2)), (1, va_rf x1), (2, va_rf x2), (3, va_rf x3), (4, .int x4)]) (by show (6 : Nat) < 7; decide) rfl d_W_law_564 ?_
  refine r_goto (tgt := 2025) d_W_law_566 rfl ?_
  exact kr_sub [1, 2, 3, 4, 5] rfl (s_W_law_B2025 hk23 h)
set_option maxRecDepth 20000 in
set_option maxHeartbeats 4000000 in
theorem s_W_law_B528 {X : Nat → Int32} {L : Nat} {k23 : AS → Option Nat → Option Nat → Option Nat → Int32 → Option (Int32 × AS)} (hk23 : ∀ {S : AS} {x1 : Option Nat} {x2 : Option Nat} {x3 : Option Nat} {x4 : Int32} {r : (Int32 × AS)}, k23 S x1 x2 x3 x4 = some r → kr_AW (m_W_law X L) 15 23 [(0, va_rf (some 2)), (1, va_rf x1), (2, va_rf x2), (3, va_rf x3), (4, .int x4)] [] S (kr_eI r)) {S : AS} {x1 : Option Nat} {x2 : Option Nat} {x3 : Option Nat} {x4 : Int32} {y0 : Option Nat} {y1 : Int32} {y2 : Int32} {y3 : Int32} {r : (Int32 × AS)} (h : f_W_law_B528 X L k23 S x1 x2 x3 x4 y0 y1 y2 y3 = some r) : kr_AW (m_W_law X L) 15 528 [(0, va_rf (some 2)), (1, va_rf x1), (2, va_rf x2), (3, va_rf x3), (4, .int x4)] [.int y3, .int y2, .int y1, va_rf y0] S (kr_eI r) := by
  unfold f_W_law_B528 at h
  refine r_aload_n (i := 3) (x := x3) 3 rfl d_W_law_528 ?_
  have h2 := kr_ob2 h
  clear h
  obtain ⟨v64, S63, eS63, h⟩ := h2
  refine r_callSX (M1 := m_W_points) (As := [va_rf y0, .int y1, .int y2, .int y3, va_rf x3]) (s_W_points eS63) mok_W_points (by decide) w757 w758 (by decide) (kr_c8 kr_c0) d_W_law_529 (kr_k1 ?_) kr_kn
  refine r_istore (i := 5) (lv' := [(5, .int v64), (0, va_rf (some 2)), (1, va_rf x1), (2, va_rf x2), (3, va_rf x3), (4, .int x4)]) (by show (5 : Nat) < 7; decide) rfl d_W_law_532 ?_
  refine r_aload_n (i := 2) (x := x2) 3 rfl d_W_law_534 ?_
  refine r_aload_n (i := 0) (x := (some 2)) 1 rfl d_W_law_535 ?_
  refine r_iload (i := 4) (x := x4) 5 rfl d_W_law_536 ?_
  refine r_iconst (v := (1 : Int32)) (by decide) d_W_law_538 ?_
  refine r_iadd d_W_law_539 ?_
  have h2 := kr_ob h
  clear h
  obtain ⟨v65, ev65, h⟩ := h2
  refine r_sload rfl ev65 d_W_law_540 ?_
  refine r_aload_n (i := 0) (x := (some 2)) 1 rfl d_W_law_541 ?_
  refine r_iload (i := 4) (x := x4) 5 rfl d_W_law_542 ?_
  refine r_iconst (v := (2 : Int32)) (by decide) d_W_law_544 ?_
  refine r_iadd d_W_law_545 ?_
  have h2 := kr_ob h
  clear h
  obtain ⟨v66, ev66, h⟩ := h2
  refine r_sload rfl ev66 d_W_law_546 ?_
  refine r_aload_n (i := 0) (x := (some 2)) 1 rfl d_W_law_547 ?_
  refine r_iload (i := 4) (x := x4) 5 rfl d_W_law_548 ?_
  refine r_iconst (v := (3 : Int32)) (by decide) d_W_law_550 ?_
  refine r_iadd d_W_law_551 ?_
  have h2 := kr_ob h
  clear h
  obtain ⟨v67, ev67, h⟩ := h2
  refine r_sload rfl ev67 d_W_law_552 ?_
  refine r_if_eq (tgt := 560) d_W_law_553 rfl (fun c => ?_) (fun c => ?_)
  · replace h := kr_ip c h
    refine r_iconst (v := (0 : Int32)) (by decide) d_W_law_560 ?_
    exact kr_sub [1, 2, 3, 4, 5] rfl (s_W_law_B561 hk23 h)
  · replace h := kr_in_ c h
    refine r_iconst (v := (1 : Int32)) (by decide) d_W_law_556 ?_
    refine r_goto (tgt := 561) d_W_law_557 rfl ?_
    exact kr_sub [1, 2, 3, 4, 5] rfl (s_W_law_B561 hk23 h)
set_option maxRecDepth 20000 in
set_option maxHeartbeats 4000000 in
theorem s_W_law_B501 {X : Nat → Int32} {L : Nat} {k23 : AS → Option Nat → Option Nat → Option Nat → Int32 → Option (Int32 × AS)} (hk23 : ∀ {S : AS} {x1 : Option Nat} {x2 : Option Nat} {x3 : Option Nat} {x4 : Int32} {r : (Int32 × AS)}, k23 S x1 x2 x3 x4 = some r → kr_AW (m_W_law X L) 15 23 [(0, va_rf (some 2)), (1, va_rf x1), (2, va_rf x2), (3, va_rf x3), (4, .int x4)] [] S (kr_eI r)) {S : AS} {x1 : Option Nat} {x2 : Option Nat} {x3 : Option Nat} {x4 : Int32} {r : (Int32 × AS)} (h : f_W_law_B501 X L k23 S x1 x2 x3 x4 = some r) : kr_AW (m_W_law X L) 15 501 [(0, va_rf (some 2)), (1, va_rf x1), (2, va_rf x2), (3, va_rf x3), (4, .int x4)] [] S (kr_eI r) := by
  unfold f_W_law_B501 at h
  refine r_aload_n (i := 1) (x := x1) 1 rfl d_W_law_501 ?_
  refine r_aload_n (i := 0) (x := (some 2)) 0 rfl d_W_law_502 ?_
  refine r_iload (i := 4) (x := x4) 4 rfl d_W_law_503 ?_
  refine r_iconst (v := (1 : Int32)) (by decide) d_W_law_505 ?_
  refine r_iadd d_W_law_506 ?_
  have h2 := kr_ob h
  clear h
  obtain ⟨v68, ev68, h⟩ := h2
  refine r_sload rfl ev68 d_W_law_507 ?_
  refine r_aload_n (i := 0) (x := (some 2)) 0 rfl d_W_law_508 ?_
  refine r_iload (i := 4) (x := x4) 4 rfl d_W_law_509 ?_
  refine r_iconst (v := (2 : Int32)) (by decide) d_W_law_511 ?_
  refine r_iadd d_W_law_512 ?_
  have h2 := kr_ob h
  clear h
  obtain ⟨v69, ev69, h⟩ := h2
  refine r_sload rfl ev69 d_W_law_513 ?_
  refine r_aload_n (i := 0) (x := (some 2)) 0 rfl d_W_law_514 ?_
  refine r_iload (i := 4) (x := x4) 4 rfl d_W_law_515 ?_
  refine r_iconst (v := (3 : Int32)) (by decide) d_W_law_517 ?_
  refine r_iadd d_W_law_518 ?_
  have h2 := kr_ob h
  clear h
  obtain ⟨v70, ev70, h⟩ := h2
  refine r_sload rfl ev70 d_W_law_519 ?_
  refine r_if_eq (tgt := 527) d_W_law_520 rfl (fun c => ?_) (fun c => ?_)
  · replace h := kr_ip c h
    refine r_iconst (v := (0 : Int32)) (by decide) d_W_law_527 ?_
    exact kr_sub [0, 1, 2, 3, 4] rfl (s_W_law_B528 hk23 h)
  · replace h := kr_in_ c h
    refine r_iconst (v := (1 : Int32)) (by decide) d_W_law_523 ?_
    refine r_goto (tgt := 528) d_W_law_524 rfl ?_
    exact kr_sub [0, 1, 2, 3, 4] rfl (s_W_law_B528 hk23 h)
set_option maxRecDepth 20000 in
set_option maxHeartbeats 4000000 in
theorem s_W_law_B569 {X : Nat → Int32} {L : Nat} {k23 : AS → Option Nat → Option Nat → Option Nat → Int32 → Option (Int32 × AS)} (hk23 : ∀ {S : AS} {x1 : Option Nat} {x2 : Option Nat} {x3 : Option Nat} {x4 : Int32} {r : (Int32 × AS)}, k23 S x1 x2 x3 x4 = some r → kr_AW (m_W_law X L) 15 23 [(0, va_rf (some 2)), (1, va_rf x1), (2, va_rf x2), (3, va_rf x3), (4, .int x4)] [] S (kr_eI r)) {S : AS} {x1 : Option Nat} {x2 : Option Nat} {x3 : Option Nat} {x4 : Int32} {r : (Int32 × AS)} (h : f_W_law_B569 X L k23 S x1 x2 x3 x4 = some r) : kr_AW (m_W_law X L) 15 569 [(0, va_rf (some 2)), (1, va_rf x1), (2, va_rf x2), (3, va_rf x3), (4, .int x4)] [] S (kr_eI r) := by
  unfold f_W_law_B569 at h
  refine r_aload_n (i := 1) (x := x1) 1 rfl d_W_law_569 ?_
  refine r_aload_n (i := 0) (x := (some 2)) 0 rfl d_W_law_570 ?_
  refine r_iload (i := 4) (x := x4) 4 rfl d_W_law_571 ?_
  refine r_iconst (v := (1 : Int32)) (by decide) d_W_law_573 ?_
  refine r_iadd d_W_law_574 ?_
  have h2 := kr_ob h
  clear h
  obtain ⟨v71, ev71, h⟩ := h2
  refine r_sload rfl ev71 d_W_law_575 ?_
  refine r_aload_n (i := 0) (x := (some 2)) 0 rfl d_W_law_576 ?_
  refine r_iload (i := 4) (x := x4) 4 rfl d_W_law_577 ?_
  refine r_iconst (v := (2 : Int32)) (by decide) d_W_law_579 ?_
  refine r_iadd d_W_law_580 ?_
  have h2 := kr_ob h
  clear h
  obtain ⟨v72, ev72, h⟩ := h2
  refine r_sload rfl ev72 d_W_law_581 ?_
  refine r_aload_n (i := 0) (x := (some 2)) 0 rfl d_W_law_582 ?_
  refine r_iload (i := 4) (x := x4) 4 rfl d_W_law_583 ?_
  refine r_iconst (v := (3 : Int32)) (by decide) d_W_law_585 ?_
  refine r_iadd d_W_law_586 ?_
  have h2 := kr_ob h
  clear h
  obtain ⟨v73, ev73, h⟩ := h2
  refine r_sload rfl ev73 d_W_law_587 ?_
  refine r_aload_n (i := 3) (x := x3) 3 rfl d_W_law_588 ?_
  have h2 := kr_ob2 h
  clear h
  obtain ⟨v75, S74, eS74, h⟩ := h2
  refine r_callSX (M1 := m_W_begin) (As := [va_rf x1, .int v71, .int v72, .int v73, va_rf x3]) (s_W_begin eS74) mok_W_begin (by decide) w764 w765 (by decide) (kr_c8 kr_c0) d_W_law_589 (kr_k1 ?_) kr_kn
  refine r_istore (i := 5) (lv' := [(5, .int v75), (0, va_rf (some 2)), (1, va_rf x1), (2, va_rf x2), (3, va_rf x3), (4, .int x4)]) (by show (5 : Nat) < 7; decide) rfl d_W_law_592 ?_
  refine r_aload_n (i := 2) (x := x2) 3 rfl d_W_law_594 ?_
  refine r_aload_n (i := 0) (x := (some 2)) 1 rfl d_W_law_595 ?_
  refine r_iload (i := 4) (x := x4) 5 rfl d_W_law_596 ?_
  refine r_iconst (v := (1 : Int32)) (by decide) d_W_law_598 ?_
  refine r_iadd d_W_law_599 ?_
  have h2 := kr_ob h
  clear h
  obtain ⟨v76, ev76, h⟩ := h2
  refine r_sload rfl ev76 d_W_law_600 ?_
  refine r_aload_n (i := 0) (x := (some 2)) 1 rfl d_W_law_601 ?_
  refine r_iload (i := 4) (x := x4) 5 rfl d_W_law_602 ?_
  refine r_iconst (v := (2 : Int32)) (by decide) d_W_law_604 ?_
  refine r_iadd d_W_law_605 ?_
  have h2 := kr_ob h
  clear h
  obtain ⟨v77, ev77, h⟩ := h2
  refine r_sload rfl ev77 d_W_law_606 ?_
  refine r_aload_n (i := 0) (x := (some 2)) 1 rfl d_W_law_607 ?_
  refine r_iload (i := 4) (x := x4) 5 rfl d_W_law_608 ?_
  refine r_iconst (v := (3 : Int32)) (by decide) d_W_law_610 ?_
  refine r_iadd d_W_law_611 ?_
  have h2 := kr_ob h
  clear h
  obtain ⟨v78, ev78, h⟩ := h2
  refine r_sload rfl ev78 d_W_law_612 ?_
  have h2 := kr_ob h
  clear h
  obtain ⟨⟨⟩, eu79, h⟩ := h2
  have h2 := kr_ob2 h
  clear h
  obtain ⟨v81, S80, eS80, h⟩ := h2
  refine r_callV (M1 := m_M_begin) (κ := 23) (As := [.int v76, .int v77, .int v78]) eu79 (s_M_begin eS80) mok_M_begin rfl (by decide) rfl w1799 w1800 w1801 (by decide) (kr_c8 kr_c0) d_W_law_613 (kr_k1 ?_) kr_kn
  refine r_istore (i := 6) (lv' := [(6, .int v81), (5, .int v75), (0, va_rf (some 2)), (1, va_rf x1), (2, va_rf x2), (3, va_rf x3), (4, .int x4)]) (by show (6 : Nat) < 7; decide) rfl d_W_law_616 ?_
  refine r_goto (tgt := 2025) d_W_law_618 rfl ?_
  exact kr_sub [2, 3, 4, 5, 6] rfl (s_W_law_B2025 hk23 h)
set_option maxRecDepth 20000 in
set_option maxHeartbeats 4000000 in
theorem s_W_law_B675 {X : Nat → Int32} {L : Nat} {k23 : AS → Option Nat → Option Nat → Option Nat → Int32 → Option (Int32 × AS)} (hk23 : ∀ {S : AS} {x1 : Option Nat} {x2 : Option Nat} {x3 : Option Nat} {x4 : Int32} {r : (Int32 × AS)}, k23 S x1 x2 x3 x4 = some r → kr_AW (m_W_law X L) 15 23 [(0, va_rf (some 2)), (1, va_rf x1), (2, va_rf x2), (3, va_rf x3), (4, .int x4)] [] S (kr_eI r)) {S : AS} {x1 : Option Nat} {x2 : Option Nat} {x3 : Option Nat} {x4 : Int32} {y0 : Option Nat} {y1 : Int32} {y2 : Int32} {r : (Int32 × AS)} (h : f_W_law_B675 X L k23 S x1 x2 x3 x4 y0 y1 y2 = some r) : kr_AW (m_W_law X L) 15 675 [(0, va_rf (some 2)), (1, va_rf x1), (2, va_rf x2), (3, va_rf x3), (4, .int x4)] [.int y2, .int y1, va_rf y0] S (kr_eI r) := by
  unfold f_W_law_B675 at h
  refine r_aload_n (i := 0) (x := (some 2)) 0 rfl d_W_law_675 ?_
  refine r_iload (i := 4) (x := x4) 4 rfl d_W_law_676 ?_
  refine r_iconst (v := (3 : Int32)) (by decide) d_W_law_678 ?_
  refine r_iadd d_W_law_679 ?_
  have h2 := kr_ob h
  clear h
  obtain ⟨v82, ev82, h⟩ := h2
  refine r_sload rfl ev82 d_W_law_680 ?_
  have h2 := kr_ob h
  clear h
  obtain ⟨⟨⟩, eu83, h⟩ := h2
  have h2 := kr_ob2 h
  clear h
  obtain ⟨v85, S84, eS84, h⟩ := h2
  refine r_callV (M1 := m_M_answer) (κ := 23) (As := [.int y1, .int y2, .int v82]) eu83 (s_M_answer eS84) mok_M_answer rfl (by decide) rfl w1835 w1836 w1837 (by decide) (kr_c8 kr_c0) d_W_law_681 (kr_k1 ?_) kr_kn
  refine r_istore (i := 6) (lv' := [(6, .int v85), (0, va_rf (some 2)), (1, va_rf x1), (2, va_rf x2), (3, va_rf x3), (4, .int x4)]) (by show (6 : Nat) < 7; decide) rfl d_W_law_684 ?_
  refine r_goto (tgt := 2025) d_W_law_686 rfl ?_
  exact kr_sub [1, 2, 3, 4, 5] rfl (s_W_law_B2025 hk23 h)
set_option maxRecDepth 20000 in
set_option maxHeartbeats 4000000 in
theorem s_W_law_B642 {X : Nat → Int32} {L : Nat} {k23 : AS → Option Nat → Option Nat → Option Nat → Int32 → Option (Int32 × AS)} (hk23 : ∀ {S : AS} {x1 : Option Nat} {x2 : Option Nat} {x3 : Option Nat} {x4 : Int32} {r : (Int32 × AS)}, k23 S x1 x2 x3 x4 = some r → kr_AW (m_W_law X L) 15 23 [(0, va_rf (some 2)), (1, va_rf x1), (2, va_rf x2), (3, va_rf x3), (4, .int x4)] [] S (kr_eI r)) {S : AS} {x1 : Option Nat} {x2 : Option Nat} {x3 : Option Nat} {x4 : Int32} {y0 : Option Nat} {y1 : Int32} {y2 : Int32} {r : (Int32 × AS)} (h : f_W_law_B642 X L k23 S x1 x2 x3 x4 y0 y1 y2 = some r) : kr_AW (m_W_law X L) 15 642 [(0, va_rf (some 2)), (1, va_rf x1), (2, va_rf x2), (3, va_rf x3), (4, .int x4)] [.int y2, .int y1, va_rf y0] S (kr_eI r) := by
  unfold f_W_law_B642 at h
  refine r_aload_n (i := 0) (x := (some 2)) 0 rfl d_W_law_642 ?_
  refine r_iload (i := 4) (x := x4) 4 rfl d_W_law_643 ?_
  refine r_iconst (v := (3 : Int32)) (by decide) d_W_law_645 ?_
  refine r_iadd d_W_law_646 ?_
  have h2 := kr_ob h
  clear h
  obtain ⟨v86, ev86, h⟩ := h2
  refine r_sload rfl ev86 d_W_law_647 ?_
  refine r_aload_n (i := 3) (x := x3) 3 rfl d_W_law_648 ?_
  have h2 := kr_ob2 h
  clear h
  obtain ⟨v88, S87, eS87, h⟩ := h2
  refine r_callSX (M1 := m_W_answer) (As := [va_rf y0, .int y1, .int y2, .int v86, va_rf x3]) (s_W_answer eS87) mok_W_answer (by decide) w914 w915 (by decide) (kr_c8 kr_c0) d_W_law_649 (kr_k1 ?_) kr_kn
  refine r_istore (i := 5) (lv' := [(5, .int v88), (0, va_rf (some 2)), (1, va_rf x1), (2, va_rf x2), (3, va_rf x3), (4, .int x4)]) (by show (5 : Nat) < 7; decide) rfl d_W_law_652 ?_
  refine r_aload_n (i := 2) (x := x2) 3 rfl d_W_law_654 ?_
  refine r_aload_n (i := 0) (x := (some 2)) 1 rfl d_W_law_655 ?_
  refine r_iload (i := 4) (x := x4) 5 rfl d_W_law_656 ?_
  refine r_iconst (v := (1 : Int32)) (by decide) d_W_law_658 ?_
  refine r_iadd d_W_law_659 ?_
  have h2 := kr_ob h
  clear h
  obtain ⟨v89, ev89, h⟩ := h2
  refine r_sload rfl ev89 d_W_law_660 ?_
  refine r_aload_n (i := 0) (x := (some 2)) 1 rfl d_W_law_661 ?_
  refine r_iload (i := 4) (x := x4) 5 rfl d_W_law_662 ?_
  refine r_iconst (v := (2 : Int32)) (by decide) d_W_law_664 ?_
  refine r_iadd d_W_law_665 ?_
  have h2 := kr_ob h
  clear h
  obtain ⟨v90, ev90, h⟩ := h2
  refine r_sload rfl ev90 d_W_law_666 ?_
  refine r_if_eq (tgt := 674) d_W_law_667 rfl (fun c => ?_) (fun c => ?_)
  · replace h := kr_ip c h
    refine r_iconst (v := (0 : Int32)) (by decide) d_W_law_674 ?_
    exact kr_sub [1, 2, 3, 4, 5] rfl (s_W_law_B675 hk23 h)
  · replace h := kr_in_ c h
    refine r_iconst (v := (1 : Int32)) (by decide) d_W_law_670 ?_
    refine r_goto (tgt := 675) d_W_law_671 rfl ?_
    exact kr_sub [1, 2, 3, 4, 5] rfl (s_W_law_B675 hk23 h)
set_option maxRecDepth 20000 in
set_option maxHeartbeats 4000000 in
theorem s_W_law_B621 {X : Nat → Int32} {L : Nat} {k23 : AS → Option Nat → Option Nat → Option Nat → Int32 → Option (Int32 × AS)} (hk23 : ∀ {S : AS} {x1 : Option Nat} {x2 : Option Nat} {x3 : Option Nat} {x4 : Int32} {r : (Int32 × AS)}, k23 S x1 x2 x3 x4 = some r → kr_AW (m_W_law X L) 15 23 [(0, va_rf (some 2)), (1, va_rf x1), (2, va_rf x2), (3, va_rf x3), (4, .int x4)] [] S (kr_eI r)) {S : AS} {x1 : Option Nat} {x2 : Option Nat} {x3 : Option Nat} {x4 : Int32} {r : (Int32 × AS)} (h : f_W_law_B621 X L k23 S x1 x2 x3 x4 = some r) : kr_AW (m_W_law X L) 15 621 [(0, va_rf (some 2)), (1, va_rf x1), (2, va_rf x2), (3, va_rf x3), (4, .int x4)] [] S (kr_eI r) := by
  unfold f_W_law_B621 at h
  refine r_aload_n (i := 1) (x := x1) 1 rfl d_W_law_621 ?_
  refine r_aload_n (i := 0) (x := (some 2)) 0 rfl d_W_law_622 ?_
  refine r_iload (i := 4) (x := x4) 4 rfl d_W_law_623 ?_
  refine r_iconst (v := (1 : Int32)) (by decide) d_W_law_625 ?_
  refine r_iadd d_W_law_626 ?_
  have h2 := kr_ob h
  clear h
  obtain ⟨v91, ev91, h⟩ := h2
  refine r_sload rfl ev91 d_W_law_627 ?_
  refine r_aload_n (i := 0) (x := (some 2)) 0 rfl d_W_law_628 ?_
  refine r_iload (i := 4) (x := x4) 4 rfl d_W_law_629 ?_
  refine r_iconst (v := (2 : Int32)) (by decide) d_W_law_631 ?_
  refine r_iadd d_W_law_632 ?_
  have h2 := kr_ob h
  clear h
  obtain ⟨v92, ev92, h⟩ := h2
  refine r_sload rfl ev92 d_W_law_633 ?_
  refine r_if_eq (tgt := 641) d_W_law_634 rfl (fun c => ?_) (fun c => ?_)
  · replace h := kr_ip c h
    refine r_iconst (v := (0 : Int32)) (by decide) d_W_law_641 ?_
    exact kr_sub [0, 1, 2, 3, 4] rfl (s_W_law_B642 hk23 h)
  · replace h := kr_in_ c h
    refine r_iconst (v := (1 : Int32)) (by decide) d_W_law_637 ?_
    refine r_goto (tgt := 642) d_W_law_638 rfl ?_
    exact kr_sub [0, 1, 2, 3, 4] rfl (s_W_law_B642 hk23 h)
set_option maxRecDepth 20000 in
set_option maxHeartbeats 4000000 in
theorem s_W_law_B689 {X : Nat → Int32} {L : Nat} {k23 : AS → Option Nat → Option Nat → Option Nat → Int32 → Option (Int32 × AS)} (hk23 : ∀ {S : AS} {x1 : Option Nat} {x2 : Option Nat} {x3 : Option Nat} {x4 : Int32} {r : (Int32 × AS)}, k23 S x1 x2 x3 x4 = some r → kr_AW (m_W_law X L) 15 23 [(0, va_rf (some 2)), (1, va_rf x1), (2, va_rf x2), (3, va_rf x3), (4, .int x4)] [] S (kr_eI r)) {S : AS} {x1 : Option Nat} {x2 : Option Nat} {x3 : Option Nat} {x4 : Int32} {r : (Int32 × AS)} (h : f_W_law_B689 X L k23 S x1 x2 x3 x4 = some r) : kr_AW (m_W_law X L) 15 689 [(0, va_rf (some 2)), (1, va_rf x1), (2, va_rf x2), (3, va_rf x3), (4, .int x4)] [] S (kr_eI r) := by
  unfold f_W_law_B689 at h
  refine r_aload_n (i := 1) (x := x1) 1 rfl d_W_law_689 ?_
  refine r_aload_n (i := 0) (x := (some 2)) 0 rfl d_W_law_690 ?_
  refine r_iload (i := 4) (x := x4) 4 rfl d_W_law_691 ?_
  refine r_iconst (v := (1 : Int32)) (by decide) d_W_law_693 ?_
  refine r_iadd d_W_law_694 ?_
  have h2 := kr_ob h
  clear h
  obtain ⟨v93, ev93, h⟩ := h2
  refine r_sload rfl ev93 d_W_law_695 ?_
  refine r_aload_n (i := 3) (x := x3) 3 rfl d_W_law_696 ?_
  have h2 := kr_ob2 h
  clear h
  obtain ⟨v95, S94, eS94, h⟩ := h2
  refine r_callSX (M1 := m_W_state) (As := [va_rf x1, .int v93, va_rf x3]) (s_W_state eS94) mok_W_state (by decide) w949 w950 (by decide) (kr_c8 kr_c0) d_W_law_697 (kr_k1 ?_) kr_kn
  refine r_istore (i := 5) (lv' := [(5, .int v95), (0, va_rf (some 2)), (1, va_rf x1), (2, va_rf x2), (3, va_rf x3), (4, .int x4)]) (by show (5 : Nat) < 7; decide) rfl d_W_law_700 ?_
  refine r_aload_n (i := 2) (x := x2) 3 rfl d_W_law_702 ?_
  refine r_aload_n (i := 0) (x := (some 2)) 1 rfl d_W_law_703 ?_
  refine r_iload (i := 4) (x := x4) 5 rfl d_W_law_704 ?_
  refine r_iconst (v := (1 : Int32)) (by decide) d_W_law_706 ?_
  refine r_iadd d_W_law_707 ?_
  have h2 := kr_ob h
  clear h
  obtain ⟨v96, ev96, h⟩ := h2
  refine r_sload rfl ev96 d_W_law_708 ?_
  have h2 := kr_ob h
  clear h
  obtain ⟨⟨⟩, eu97, h⟩ := h2
  have h2 := kr_ob2 h
  clear h
  obtain ⟨v99, S98, eS98, h⟩ := h2
  refine r_callV (M1 := m_M_state) (κ := 23) (As := [.int v96]) eu97 (s_M_state eS98) mok_M_state rfl (by decide) rfl w1855 w1856 w1857 (by decide) (kr_c8 kr_c0) d_W_law_709 (kr_k1 ?_) kr_kn
  refine r_istore (i := 6) (lv' := [(6, .int v99), (5, .int v95), (0, va_rf (some 2)), (1, va_rf x1), (2, va_rf x2), (3, va_rf x3), (4, .int x4)]) (by show (6 : Nat) < 7; decide) rfl d_W_law_712 ?_
  refine r_goto (tgt := 2025) d_W_law_714 rfl ?_
  exact kr_sub [2, 3, 4, 5, 6] rfl (s_W_law_B2025 hk23 h)
set_option maxRecDepth 20000 in
set_option maxHeartbeats 4000000 in
theorem s_W_law_B717 {X : Nat → Int32} {L : Nat} {k23 : AS → Option Nat → Option Nat → Option Nat → Int32 → Option (Int32 × AS)} (hk23 : ∀ {S : AS} {x1 : Option Nat} {x2 : Option Nat} {x3 : Option Nat} {x4 : Int32} {r : (Int32 × AS)}, k23 S x1 x2 x3 x4 = some r → kr_AW (m_W_law X L) 15 23 [(0, va_rf (some 2)), (1, va_rf x1), (2, va_rf x2), (3, va_rf x3), (4, .int x4)] [] S (kr_eI r)) {S : AS} {x1 : Option Nat} {x2 : Option Nat} {x3 : Option Nat} {x4 : Int32} {r : (Int32 × AS)} (h : f_W_law_B717 X L k23 S x1 x2 x3 x4 = some r) : kr_AW (m_W_law X L) 15 717 [(0, va_rf (some 2)), (1, va_rf x1), (2, va_rf x2), (3, va_rf x3), (4, .int x4)] [] S (kr_eI r) := by
  unfold f_W_law_B717 at h
  refine r_aload_n (i := 1) (x := x1) 1 rfl d_W_law_717 ?_
  refine r_aload_n (i := 0) (x := (some 2)) 0 rfl d_W_law_718 ?_
  refine r_iload (i := 4) (x := x4) 4 rfl d_W_law_719 ?_
  refine r_iconst (v := (1 : Int32)) (by decide) d_W_law_721 ?_
  refine r_iadd d_W_law_722 ?_
  have h2 := kr_ob h
  clear h
  obtain ⟨v100, ev100, h⟩ := h2
  refine r_sload rfl ev100 d_W_law_723 ?_
  refine r_aload_n (i := 3) (x := x3) 3 rfl d_W_law_724 ?_
  have h2 := kr_ob2 h
  clear h
  obtain ⟨v102, S101, eS101, h⟩ := h2
  refine r_callSX (M1 := m_W_asked) (As := [va_rf x1, .int v100, va_rf x3]) (s_W_asked eS101) mok_W_asked (by decide) w956 w957 (by decide) (kr_c8 kr_c0) d_W_law_725 (kr_k1 ?_) kr_kn
  refine r_istore (i := 5) (lv' := [(5, .int v102), (0, va_rf (some 2)), (1, va_rf x1), (2, va_rf x2), (3, va_rf x3), (4, .int x4)]) (by show (5 : Nat) < 7; decide) rfl d_W_law_728 ?_
  refine r_aload_n (i := 2) (x := x2) 3 rfl d_W_law_730 ?_
  refine r_aload_n (i := 0) (x := (some 2)) 1 rfl d_W_law_731 ?_
  refine r_iload (i := 4) (x := x4) 5 rfl d_W_law_732 ?_
  refine r_iconst (v := (1 : Int32)) (by decide) d_W_law_734 ?_
  refine r_iadd d_W_law_735 ?_
  have h2 := kr_ob h
  clear h
  obtain ⟨v103, ev103, h⟩ := h2
  refine r_sload rfl ev103 d_W_law_736 ?_
  have h2 := kr_ob h
  clear h
  obtain ⟨⟨⟩, eu104, h⟩ := h2
  have h2 := kr_ob2 h
  clear h
  obtain ⟨v106, S105, eS105, h⟩ := h2
  refine r_callV (M1 := m_M_asked) (κ := 23) (As := [.int v103]) eu104 (s_M_asked eS105) mok_M_asked rfl (by decide) rfl w1859 w1860 w1861 (by decide) (kr_c8 kr_c0) d_W_law_737 (kr_k1 ?_) kr_kn
  refine r_istore (i := 6) (lv' := [(6, .int v106), (5, .int v102), (0, va_rf (some 2)), (1, va_rf x1), (2, va_rf x2), (3, va_rf x3), (4, .int x4)]) (by show (6 : Nat) < 7; decide) rfl d_W_law_740 ?_
  refine r_goto (tgt := 2025) d_W_law_742 rfl ?_
  exact kr_sub [2, 3, 4, 5, 6] rfl (s_W_law_B2025 hk23 h)
set_option maxRecDepth 20000 in
set_option maxHeartbeats 4000000 in
theorem s_W_law_B745 {X : Nat → Int32} {L : Nat} {k23 : AS → Option Nat → Option Nat → Option Nat → Int32 → Option (Int32 × AS)} (hk23 : ∀ {S : AS} {x1 : Option Nat} {x2 : Option Nat} {x3 : Option Nat} {x4 : Int32} {r : (Int32 × AS)}, k23 S x1 x2 x3 x4 = some r → kr_AW (m_W_law X L) 15 23 [(0, va_rf (some 2)), (1, va_rf x1), (2, va_rf x2), (3, va_rf x3), (4, .int x4)] [] S (kr_eI r)) {S : AS} {x1 : Option Nat} {x2 : Option Nat} {x3 : Option Nat} {x4 : Int32} {r : (Int32 × AS)} (h : f_W_law_B745 X L k23 S x1 x2 x3 x4 = some r) : kr_AW (m_W_law X L) 15 745 [(0, va_rf (some 2)), (1, va_rf x1), (2, va_rf x2), (3, va_rf x3), (4, .int x4)] [] S (kr_eI r) := by
  unfold f_W_law_B745 at h
  refine r_aload_n (i := 1) (x := x1) 1 rfl d_W_law_745 ?_
  refine r_aload_n (i := 0) (x := (some 2)) 0 rfl d_W_law_746 ?_
  refine r_iload (i := 4) (x := x4) 4 rfl d_W_law_747 ?_
  refine r_iconst (v := (1 : Int32)) (by decide) d_W_law_749 ?_
  refine r_iadd d_W_law_750 ?_
  have h2 := kr_ob h
  clear h
  obtain ⟨v107, ev107, h⟩ := h2
  refine r_sload rfl ev107 d_W_law_751 ?_
  refine r_aload_n (i := 3) (x := x3) 3 rfl d_W_law_752 ?_
  have h2 := kr_ob2 h
  clear h
  obtain ⟨v109, S108, eS108, h⟩ := h2
  refine r_callSX (M1 := m_W_sessionOf) (As := [va_rf x1, .int v107, va_rf x3]) (s_W_sessionOf eS108) mok_W_sessionOf (by decide) w963 w964 (by decide) (kr_c8 kr_c0) d_W_law_753 (kr_k1 ?_) kr_kn
  refine r_istore (i := 5) (lv' := [(5, .int v109), (0, va_rf (some 2)), (1, va_rf x1), (2, va_rf x2), (3, va_rf x3), (4, .int x4)]) (by show (5 : Nat) < 7; decide) rfl d_W_law_756 ?_
  refine r_aload_n (i := 2) (x := x2) 3 rfl d_W_law_758 ?_
  refine r_aload_n (i := 0) (x := (some 2)) 1 rfl d_W_law_759 ?_
  refine r_iload (i := 4) (x := x4) 5 rfl d_W_law_760 ?_
  refine r_iconst (v := (1 : Int32)) (by decide) d_W_law_762 ?_
  refine r_iadd d_W_law_763 ?_
  have h2 := kr_ob h
  clear h
  obtain ⟨v110, ev110, h⟩ := h2
  refine r_sload rfl ev110 d_W_law_764 ?_
  have h2 := kr_ob h
  clear h
  obtain ⟨⟨⟩, eu111, h⟩ := h2
  have h2 := kr_ob2 h
  clear h
  obtain ⟨v113, S112, eS112, h⟩ := h2
  refine r_callV (M1 := m_M_sessionOf) (κ := 23) (As := [.int v110]) eu111 (s_M_sessionOf eS112) mok_M_sessionOf rfl (by decide) rfl w1863 w1864 w1865 (by decide) (kr_c8 kr_c0) d_W_law_765 (kr_k1 ?_) kr_kn
  refine r_istore (i := 6) (lv' := [(6, .int v113), (5, .int v109), (0, va_rf (some 2)), (1, va_rf x1), (2, va_rf x2), (3, va_rf x3), (4, .int x4)]) (by show (6 : Nat) < 7; decide) rfl d_W_law_768 ?_
  refine r_goto (tgt := 2025) d_W_law_770 rfl ?_
  exact kr_sub [2, 3, 4, 5, 6] rfl (s_W_law_B2025 hk23 h)
set_option maxRecDepth 20000 in
set_option maxHeartbeats 4000000 in
theorem s_W_law_B773 {X : Nat → Int32} {L : Nat} {k23 : AS → Option Nat → Option Nat → Option Nat → Int32 → Option (Int32 × AS)} (hk23 : ∀ {S : AS} {x1 : Option Nat} {x2 : Option Nat} {x3 : Option Nat} {x4 : Int32} {r : (Int32 × AS)}, k23 S x1 x2 x3 x4 = some r → kr_AW (m_W_law X L) 15 23 [(0, va_rf (some 2)), (1, va_rf x1), (2, va_rf x2), (3, va_rf x3), (4, .int x4)] [] S (kr_eI r)) {S : AS} {x1 : Option Nat} {x2 : Option Nat} {x3 : Option Nat} {x4 : Int32} {r : (Int32 × AS)} (h : f_W_law_B773 X L k23 S x1 x2 x3 x4 = some r) : kr_AW (m_W_law X L) 15 773 [(0, va_rf (some 2)), (1, va_rf x1), (2, va_rf x2), (3, va_rf x3), (4, .int x4)] [] S (kr_eI r) := by
  unfold f_W_law_B773 at h
  refine r_aload_n (i := 1) (x := x1) 1 rfl d_W_law_773 ?_
  refine r_aload_n (i := 0) (x := (some 2)) 0 rfl d_W_law_774 ?_
  refine r_iload (i := 4) (x := x4) 4 rfl d_W_law_775 ?_
  refine r_iconst (v := (1 : Int32)) (by decide) d_W_law_777 ?_
  refine r_iadd d_W_law_778 ?_
  have h2 := kr_ob h
  clear h
  obtain ⟨v114, ev114, h⟩ := h2
  refine r_sload rfl ev114 d_W_law_779 ?_
  refine r_aload_n (i := 3) (x := x3) 3 rfl d_W_law_780 ?_
  have h2 := kr_ob2 h
  clear h
  obtain ⟨v116, S115, eS115, h⟩ := h2
  refine r_callSX (M1 := m_W_risk) (As := [va_rf x1, .int v114, va_rf x3]) (s_W_risk eS115) mok_W_risk (by decide) w970 w971 (by decide) (kr_c8 kr_c0) d_W_law_781 (kr_k1 ?_) kr_kn
  refine r_istore (i := 5) (lv' := [(5, .int v116), (0, va_rf (some 2)), (1, va_rf x1), (2, va_rf x2), (3, va_rf x3), (4, .int x4)]) (by show (5 : Nat) < 7; decide) rfl d_W_law_784 ?_
  refine r_aload_n (i := 2) (x := x2) 3 rfl d_W_law_786 ?_
  refine r_aload_n (i := 0) (x := (some 2)) 1 rfl d_W_law_787 ?_
  refine r_iload (i := 4) (x := x4) 5 rfl d_W_law_788 ?_
  refine r_iconst (v := (1 : Int32)) (by decide) d_W_law_790 ?_
  refine r_iadd d_W_law_791 ?_
  have h2 := kr_ob h
  clear h
  obtain ⟨v117, ev117, h⟩ := h2
  refine r_sload rfl ev117 d_W_law_792 ?_
  have h2 := kr_ob h
  clear h
  obtain ⟨⟨⟩, eu118, h⟩ := h2
  have h2 := kr_ob2 h
  clear h
  obtain ⟨v120, S119, eS119, h⟩ := h2
  refine r_callV (M1 := m_M_risk) (κ := 23) (As := [.int v117]) eu118 (s_M_risk eS119) mok_M_risk rfl (by decide) rfl w1867 w1868 w1869 (by decide) (kr_c8 kr_c0) d_W_law_793 (kr_k1 ?_) kr_kn
  refine r_istore (i := 6) (lv' := [(6, .int v120), (5, .int v116), (0, va_rf (some 2)), (1, va_rf x1), (2, va_rf x2), (3, va_rf x3), (4, .int x4)]) (by show (6 : Nat) < 7; decide) rfl d_W_law_796 ?_
  refine r_goto (tgt := 2025) d_W_law_798 rfl ?_
  exact kr_sub [2, 3, 4, 5, 6] rfl (s_W_law_B2025 hk23 h)
set_option maxRecDepth 20000 in
set_option maxHeartbeats 4000000 in
theorem s_W_law_B801 {X : Nat → Int32} {L : Nat} {k23 : AS → Option Nat → Option Nat → Option Nat → Int32 → Option (Int32 × AS)} (hk23 : ∀ {S : AS} {x1 : Option Nat} {x2 : Option Nat} {x3 : Option Nat} {x4 : Int32} {r : (Int32 × AS)}, k23 S x1 x2 x3 x4 = some r → kr_AW (m_W_law X L) 15 23 [(0, va_rf (some 2)), (1, va_rf x1), (2, va_rf x2), (3, va_rf x3), (4, .int x4)] [] S (kr_eI r)) {S : AS} {x1 : Option Nat} {x2 : Option Nat} {x3 : Option Nat} {x4 : Int32} {r : (Int32 × AS)} (h : f_W_law_B801 X L k23 S x1 x2 x3 x4 = some r) : kr_AW (m_W_law X L) 15 801 [(0, va_rf (some 2)), (1, va_rf x1), (2, va_rf x2), (3, va_rf x3), (4, .int x4)] [] S (kr_eI r) := by
  unfold f_W_law_B801 at h
  refine r_aload_n (i := 1) (x := x1) 1 rfl d_W_law_801 ?_
  refine r_aload_n (i := 0) (x := (some 2)) 0 rfl d_W_law_802 ?_
  refine r_iload (i := 4) (x := x4) 4 rfl d_W_law_803 ?_
  refine r_iconst (v := (1 : Int32)) (by decide) d_W_law_805 ?_
  refine r_iadd d_W_law_806 ?_
  have h2 := kr_ob h
  clear h
  obtain ⟨v121, ev121, h⟩ := h2
  refine r_sload rfl ev121 d_W_law_807 ?_
  refine r_aload_n (i := 3) (x := x3) 3 rfl d_W_law_808 ?_
  have h2 := kr_ob2 h
  clear h
  obtain ⟨v123, S122, eS122, h⟩ := h2
  refine r_callSX (M1 := m_W_trialRisk) (As := [va_rf x1, .int v121, va_rf x3]) (s_W_trialRisk eS122) mok_W_trialRisk (by decide) w977 w978 (by decide) (kr_c8 kr_c0) d_W_law_809 (kr_k1 ?_) kr_kn
  refine r_istore (i := 5) (lv' := [(5, .int v123), (0, va_rf (some 2)), (1, va_rf x1), (2, va_rf x2), (3, va_rf x3), (4, .int x4)]) (by show (5 : Nat) < 7; decide) rfl d_W_law_812 ?_
  refine r_aload_n (i := 2) (x := x2) 3 rfl d_W_law_814 ?_
  refine r_aload_n (i := 0) (x := (some 2)) 1 rfl d_W_law_815 ?_
  refine r_iload (i := 4) (x := x4) 5 rfl d_W_law_816 ?_
  refine r_iconst (v := (1 : Int32)) (by decide) d_W_law_818 ?_
  refine r_iadd d_W_law_819 ?_
  have h2 := kr_ob h
  clear h
  obtain ⟨v124, ev124, h⟩ := h2
  refine r_sload rfl ev124 d_W_law_820 ?_
  have h2 := kr_ob h
  clear h
  obtain ⟨⟨⟩, eu125, h⟩ := h2
  have h2 := kr_ob2 h
  clear h
  obtain ⟨v127, S126, eS126, h⟩ := h2
  refine r_callV (M1 := m_M_trialRisk) (κ := 23) (As := [.int v124]) eu125 (s_M_trialRisk eS126) mok_M_trialRisk rfl (by decide) rfl w1871 w1872 w1873 (by decide) (kr_c8 kr_c0) d_W_law_821 (kr_k1 ?_) kr_kn
  refine r_istore (i := 6) (lv' := [(6, .int v127), (5, .int v123), (0, va_rf (some 2)), (1, va_rf x1), (2, va_rf x2), (3, va_rf x3), (4, .int x4)]) (by show (6 : Nat) < 7; decide) rfl d_W_law_824 ?_
  refine r_goto (tgt := 2025) d_W_law_826 rfl ?_
  exact kr_sub [2, 3, 4, 5, 6] rfl (s_W_law_B2025 hk23 h)
set_option maxRecDepth 20000 in
set_option maxHeartbeats 4000000 in
theorem s_W_law_B829 {X : Nat → Int32} {L : Nat} {k23 : AS → Option Nat → Option Nat → Option Nat → Int32 → Option (Int32 × AS)} (hk23 : ∀ {S : AS} {x1 : Option Nat} {x2 : Option Nat} {x3 : Option Nat} {x4 : Int32} {r : (Int32 × AS)}, k23 S x1 x2 x3 x4 = some r → kr_AW (m_W_law X L) 15 23 [(0, va_rf (some 2)), (1, va_rf x1), (2, va_rf x2), (3, va_rf x3), (4, .int x4)] [] S (kr_eI r)) {S : AS} {x1 : Option Nat} {x2 : Option Nat} {x3 : Option Nat} {x4 : Int32} {r : (Int32 × AS)} (h : f_W_law_B829 X L k23 S x1 x2 x3 x4 = some r) : kr_AW (m_W_law X L) 15 829 [(0, va_rf (some 2)), (1, va_rf x1), (2, va_rf x2), (3, va_rf x3), (4, .int x4)] [] S (kr_eI r) := by
  unfold f_W_law_B829 at h
  refine r_aload_n (i := 1) (x := x1) 1 rfl d_W_law_829 ?_
  have h2 := kr_ob h
  clear h
  obtain ⟨⟨⟩, eu128, h⟩ := h2
  have h2 := kr_ob2 h
  clear h
  obtain ⟨v130, S129, eS129, h⟩ := h2
  refine r_callV (M1 := m_K_sessions) (κ := 22) (As := []) eu128 (s_K_sessions eS129) mok_K_sessions rfl (by decide) rfl w344 w345 w346 (by decide) (kr_c8 kr_c0) d_W_law_830 (kr_k1 ?_) kr_kn
  refine r_pop rfl d_W_law_833 ?_
  refine r_aload_n (i := 2) (x := x2) 2 rfl d_W_law_834 ?_
  have h2 := kr_ob h
  clear h
  obtain ⟨⟨⟩, eu131, h⟩ := h2
  have h2 := kr_ob2 h
  clear h
  obtain ⟨v133, S132, eS132, h⟩ := h2
  refine r_callV (M1 := m_M_sessions) (κ := 23) (As := []) eu131 (s_M_sessions eS132) mok_M_sessions rfl (by decide) rfl w1875 w1876 w1877 (by decide) (kr_c8 kr_c0) d_W_law_835 (kr_k1 ?_) kr_kn
  refine r_pop rfl d_W_law_838 ?_
  refine r_goto (tgt := 2025) d_W_law_839 rfl ?_
  exact kr_sub [0, 1, 2, 3, 4] rfl (s_W_law_B2025 hk23 h)
set_option maxRecDepth 20000 in
set_option maxHeartbeats 4000000 in
theorem s_W_law_B842 {X : Nat → Int32} {L : Nat} {k23 : AS → Option Nat → Option Nat → Option Nat → Int32 → Option (Int32 × AS)} (hk23 : ∀ {S : AS} {x1 : Option Nat} {x2 : Option Nat} {x3 : Option Nat} {x4 : Int32} {r : (Int32 × AS)}, k23 S x1 x2 x3 x4 = some r → kr_AW (m_W_law X L) 15 23 [(0, va_rf (some 2)), (1, va_rf x1), (2, va_rf x2), (3, va_rf x3), (4, .int x4)] [] S (kr_eI r)) {S : AS} {x1 : Option Nat} {x2 : Option Nat} {x3 : Option Nat} {x4 : Int32} {r : (Int32 × AS)} (h : f_W_law_B842 X L k23 S x1 x2 x3 x4 = some r) : kr_AW (m_W_law X L) 15 842 [(0, va_rf (some 2)), (1, va_rf x1), (2, va_rf x2), (3, va_rf x3), (4, .int x4)] [] S (kr_eI r) := by
  unfold f_W_law_B842 at h
  refine r_aload_n (i := 1) (x := x1) 1 rfl d_W_law_842 ?_
  refine r_aload_n (i := 0) (x := (some 2)) 0 rfl d_W_law_843 ?_
  refine r_iload (i := 4) (x := x4) 4 rfl d_W_law_844 ?_
  refine r_iconst (v := (1 : Int32)) (by decide) d_W_law_846 ?_
  refine r_iadd d_W_law_847 ?_
  have h2 := kr_ob h
  clear h
  obtain ⟨v134, ev134, h⟩ := h2
  refine r_sload rfl ev134 d_W_law_848 ?_
  refine r_aload_n (i := 3) (x := x3) 3 rfl d_W_law_849 ?_
  have h2 := kr_ob2 h
  clear h
  obtain ⟨v136, S135, eS135, h⟩ := h2
  refine r_callSX (M1 := m_W_isLive) (As := [va_rf x1, .int v134, va_rf x3]) (s_W_isLive eS135) mok_W_isLive (by decide) w984 w985 (by decide) (kr_c8 kr_c0) d_W_law_850 (kr_k1 ?_) kr_kn
  refine r_istore (i := 5) (lv' := [(5, .int v136), (0, va_rf (some 2)), (1, va_rf x1), (2, va_rf x2), (3, va_rf x3), (4, .int x4)]) (by show (5 : Nat) < 7; decide) rfl d_W_law_853 ?_
  refine r_aload_n (i := 2) (x := x2) 3 rfl d_W_law_855 ?_
  refine r_aload_n (i := 0) (x := (some 2)) 1 rfl d_W_law_856 ?_
  refine r_iload (i := 4) (x := x4) 5 rfl d_W_law_857 ?_
  refine r_iconst (v := (1 : Int32)) (by decide) d_W_law_859 ?_
  refine r_iadd d_W_law_860 ?_
  have h2 := kr_ob h
  clear h
  obtain ⟨v137, ev137, h⟩ := h2
  refine r_sload rfl ev137 d_W_law_861 ?_
  have h2 := kr_ob h
  clear h
  obtain ⟨⟨⟩, eu138, h⟩ := h2
  have h2 := kr_ob2 h
  clear h
  obtain ⟨v140, S139, eS139, h⟩ := h2
  refine r_callV (M1 := m_M_isLive) (κ := 23) (As := [.int v137]) eu138 (s_M_isLive eS139) mok_M_isLive rfl (by decide) rfl w1879 w1880 w1881 (by decide) (kr_c8 kr_c0) d_W_law_862 (kr_k1 ?_) kr_kn
  refine r_istore (i := 6) (lv' := [(6, .int v140), (5, .int v136), (0, va_rf (some 2)), (1, va_rf x1), (2, va_rf x2), (3, va_rf x3), (4, .int x4)]) (by show (6 : Nat) < 7; decide) rfl d_W_law_865 ?_
  refine r_goto (tgt := 2025) d_W_law_867 rfl ?_
  exact kr_sub [2, 3, 4, 5, 6] rfl (s_W_law_B2025 hk23 h)
set_option maxRecDepth 20000 in
set_option maxHeartbeats 4000000 in
theorem s_W_law_B870 {X : Nat → Int32} {L : Nat} {k23 : AS → Option Nat → Option Nat → Option Nat → Int32 → Option (Int32 × AS)} (hk23 : ∀ {S : AS} {x1 : Option Nat} {x2 : Option Nat} {x3 : Option Nat} {x4 : Int32} {r : (Int32 × AS)}, k23 S x1 x2 x3 x4 = some r → kr_AW (m_W_law X L) 15 23 [(0, va_rf (some 2)), (1, va_rf x1), (2, va_rf x2), (3, va_rf x3), (4, .int x4)] [] S (kr_eI r)) {S : AS} {x1 : Option Nat} {x2 : Option Nat} {x3 : Option Nat} {x4 : Int32} {r : (Int32 × AS)} (h : f_W_law_B870 X L k23 S x1 x2 x3 x4 = some r) : kr_AW (m_W_law X L) 15 870 [(0, va_rf (some 2)), (1, va_rf x1), (2, va_rf x2), (3, va_rf x3), (4, .int x4)] [] S (kr_eI r) := by
  unfold f_W_law_B870 at h
  refine r_aload_n (i := 1) (x := x1) 1 rfl d_W_law_870 ?_
  refine r_aload_n (i := 0) (x := (some 2)) 0 rfl d_W_law_871 ?_
  refine r_iload (i := 4) (x := x4) 4 rfl d_W_law_872 ?_
  refine r_iconst (v := (1 : Int32)) (by decide) d_W_law_874 ?_
  refine r_iadd d_W_law_875 ?_
  have h2 := kr_ob h
  clear h
  obtain ⟨v141, ev141, h⟩ := h2
  refine r_sload rfl ev141 d_W_law_876 ?_
  refine r_aload_n (i := 3) (x := x3) 3 rfl d_W_law_877 ?_
  have h2 := kr_ob2 h
  clear h
  obtain ⟨v143, S142, eS142, h⟩ := h2
  refine r_callSX (M1 := m_W_isLiveByAudit) (As := [va_rf x1, .int v141, va_rf x3]) (s_W_isLiveByAudit eS142) mok_W_isLiveByAudit (by decide) w995 w996 (by decide) (kr_c8 kr_c0) d_W_law_878 (kr_k1 ?_) kr_kn
  refine r_istore (i := 5) (lv' := [(5, .int v143), (0, va_rf (some 2)), (1, va_rf x1), (2, va_rf x2), (3, va_rf x3), (4, .int x4)]) (by show (5 : Nat) < 7; decide) rfl d_W_law_881 ?_
  refine r_aload_n (i := 2) (x := x2) 3 rfl d_W_law_883 ?_
  refine r_aload_n (i := 0) (x := (some 2)) 1 rfl d_W_law_884 ?_
  refine r_iload (i := 4) (x := x4) 5 rfl d_W_law_885 ?_
  refine r_iconst (v := (1 : Int32)) (by decide) d_W_law_887 ?_
  refine r_iadd d_W_law_888 ?_
  have h2 := kr_ob h
  clear h
  obtain ⟨v144, ev144, h⟩ := h2
  refine r_sload rfl ev144 d_W_law_889 ?_
  have h2 := kr_ob h
  clear h
  obtain ⟨⟨⟩, eu145, h⟩ := h2
  have h2 := kr_ob2 h
  clear h
  obtain ⟨v147, S146, eS146, h⟩ := h2
  refine r_callV (M1 := m_M_isLiveByAudit) (κ := 23) (As := [.int v144]) eu145 (s_M_isLiveByAudit eS146) mok_M_isLiveByAudit rfl (by decide) rfl w1887 w1888 w1889 (by decide) (kr_c8 kr_c0) d_W_law_890 (kr_k1 ?_) kr_kn
  refine r_istore (i := 6) (lv' := [(6, .int v147), (5, .int v143), (0, va_rf (some 2)), (1, va_rf x1), (2, va_rf x2), (3, va_rf x3), (4, .int x4)]) (by show (6 : Nat) < 7; decide) rfl d_W_law_893 ?_
  refine r_goto (tgt := 2025) d_W_law_895 rfl ?_
  exact kr_sub [2, 3, 4, 5, 6] rfl (s_W_law_B2025 hk23 h)
set_option maxRecDepth 20000 in
set_option maxHeartbeats 4000000 in
theorem s_W_law_B898 {X : Nat → Int32} {L : Nat} {k23 : AS → Option Nat → Option Nat → Option Nat → Int32 → Option (Int32 × AS)} (hk23 : ∀ {S : AS} {x1 : Option Nat} {x2 : Option Nat} {x3 : Option Nat} {x4 : Int32} {r : (Int32 × AS)}, k23 S x1 x2 x3 x4 = some r → kr_AW (m_W_law X L) 15 23 [(0, va_rf (some 2)), (1, va_rf x1), (2, va_rf x2), (3, va_rf x3), (4, .int x4)] [] S (kr_eI r)) {S : AS} {x1 : Option Nat} {x2 : Option Nat} {x3 : Option Nat} {x4 : Int32} {r : (Int32 × AS)} (h : f_W_law_B898 X L k23 S x1 x2 x3 x4 = some r) : kr_AW (m_W_law X L) 15 898 [(0, va_rf (some 2)), (1, va_rf x1), (2, va_rf x2), (3, va_rf x3), (4, .int x4)] [] S (kr_eI r) := by
  unfold f_W_law_B898 at h
  refine r_aload_n (i := 1) (x := x1) 1 rfl d_W_law_898 ?_
  refine r_aload_n (i := 0) (x := (some 2)) 0 rfl d_W_law_899 ?_
  refine r_iload (i := 4) (x := x4) 4 rfl d_W_law_900 ?_
  refine r_iconst (v := (1 : Int32)) (by decide) d_W_law_902 ?_
  refine r_iadd d_W_law_903 ?_
  have h2 := kr_ob h
  clear h
  obtain ⟨v148, ev148, h⟩ := h2
  refine r_sload rfl ev148 d_W_law_904 ?_
  refine r_aload_n (i := 3) (x := x3) 3 rfl d_W_law_905 ?_
  have h2 := kr_ob2 h
  clear h
  obtain ⟨v150, S149, eS149, h⟩ := h2
  refine r_callSX (M1 := m_W_level) (As := [va_rf x1, .int v148, va_rf x3]) (s_W_level eS149) mok_W_level (by decide) w1010 w1011 (by decide) (kr_c8 kr_c0) d_W_law_906 (kr_k1 ?_) kr_kn
  refine r_istore (i := 5) (lv' := [(5, .int v150), (0, va_rf (some 2)), (1, va_rf x1), (2, va_rf x2), (3, va_rf x3), (4, .int x4)]) (by show (5 : Nat) < 7; decide) rfl d_W_law_909 ?_
  refine r_aload_n (i := 2) (x := x2) 3 rfl d_W_law_911 ?_
  refine r_aload_n (i := 0) (x := (some 2)) 1 rfl d_W_law_912 ?_
  refine r_iload (i := 4) (x := x4) 5 rfl d_W_law_913 ?_
  refine r_iconst (v := (1 : Int32)) (by decide) d_W_law_915 ?_
  refine r_iadd d_W_law_916 ?_
  have h2 := kr_ob h
  clear h
  obtain ⟨v151, ev151, h⟩ := h2
  refine r_sload rfl ev151 d_W_law_917 ?_
  have h2 := kr_ob h
  clear h
  obtain ⟨⟨⟩, eu152, h⟩ := h2
  have h2 := kr_ob2 h
  clear h
  obtain ⟨v154, S153, eS153, h⟩ := h2
  refine r_callV (M1 := m_M_level) (κ := 23) (As := [.int v151]) eu152 (s_M_level eS153) mok_M_level rfl (by decide) rfl w1891 w1892 w1893 (by decide) (kr_c8 kr_c0) d_W_law_918 (kr_k1 ?_) kr_kn
  refine r_istore (i := 6) (lv' := [(6, .int v154), (5, .int v150), (0, va_rf (some 2)), (1, va_rf x1), (2, va_rf x2), (3, va_rf x3), (4, .int x4)]) (by show (6 : Nat) < 7; decide) rfl d_W_law_921 ?_
  refine r_goto (tgt := 2025) d_W_law_923 rfl ?_
  exact kr_sub [2, 3, 4, 5, 6] rfl (s_W_law_B2025 hk23 h)
set_option maxRecDepth 20000 in
set_option maxHeartbeats 4000000 in
theorem s_W_law_B992 {X : Nat → Int32} {L : Nat} {k23 : AS → Option Nat → Option Nat → Option Nat → Int32 → Option (Int32 × AS)} (hk23 : ∀ {S : AS} {x1 : Option Nat} {x2 : Option Nat} {x3 : Option Nat} {x4 : Int32} {r : (Int32 × AS)}, k23 S x1 x2 x3 x4 = some r → kr_AW (m_W_law X L) 15 23 [(0, va_rf (some 2)), (1, va_rf x1), (2, va_rf x2), (3, va_rf x3), (4, .int x4)] [] S (kr_eI r)) {S : AS} {x1 : Option Nat} {x2 : Option Nat} {x3 : Option Nat} {x4 : Int32} {y0 : Option Nat} {y1 : Int32} {y2 : Int32} {y3 : Int32} {r : (Int32 × AS)} (h : f_W_law_B992 X L k23 S x1 x2 x3 x4 y0 y1 y2 y3 = some r) : kr_AW (m_W_law X L) 15 992 [(0, va_rf (some 2)), (1, va_rf x1), (2, va_rf x2), (3, va_rf x3), (4, .int x4)] [.int y3, .int y2, .int y1, va_rf y0] S (kr_eI r) := by
  unfold f_W_law_B992 at h
  refine r_aload_n (i := 0) (x := (some 2)) 0 rfl d_W_law_992 ?_
  refine r_iload (i := 4) (x := x4) 4 rfl d_W_law_993 ?_
  refine r_iconst (v := (4 : Int32)) (by decide) d_W_law_995 ?_
  refine r_iadd d_W_law_996 ?_
  have h2 := kr_ob h
  clear h
  obtain ⟨v155, ev155, h⟩ := h2
  refine r_sload rfl ev155 d_W_law_997 ?_
  have h2 := kr_ob h
  clear h
  obtain ⟨⟨⟩, eu156, h⟩ := h2
  have h2 := kr_ob2 h
  clear h
  obtain ⟨v158, S157, eS157, h⟩ := h2
  refine r_callV (M1 := m_M_stepUp) (κ := 23) (As := [.int y1, .int y2, .int y3, .int v155]) eu156 (s_M_stepUp eS157) mok_M_stepUp rfl (by decide) rfl w1899 w1900 w1901 (by decide) (kr_c8 kr_c0) d_W_law_998 (kr_k1 ?_) kr_kn
  refine r_istore (i := 6) (lv' := [(6, .int v158), (0, va_rf (some 2)), (1, va_rf x1), (2, va_rf x2), (3, va_rf x3), (4, .int x4)]) (by show (6 : Nat) < 7; decide) rfl d_W_law_1001 ?_
  refine r_goto (tgt := 2025) d_W_law_1003 rfl ?_
  exact kr_sub [1, 2, 3, 4, 5] rfl (s_W_law_B2025 hk23 h)
set_option maxRecDepth 20000 in
set_option maxHeartbeats 4000000 in
theorem s_W_law_B953 {X : Nat → Int32} {L : Nat} {k23 : AS → Option Nat → Option Nat → Option Nat → Int32 → Option (Int32 × AS)} (hk23 : ∀ {S : AS} {x1 : Option Nat} {x2 : Option Nat} {x3 : Option Nat} {x4 : Int32} {r : (Int32 × AS)}, k23 S x1 x2 x3 x4 = some r → kr_AW (m_W_law X L) 15 23 [(0, va_rf (some 2)), (1, va_rf x1), (2, va_rf x2), (3, va_rf x3), (4, .int x4)] [] S (kr_eI r)) {S : AS} {x1 : Option Nat} {x2 : Option Nat} {x3 : Option Nat} {x4 : Int32} {y0 : Option Nat} {y1 : Int32} {y2 : Int32} {y3 : Int32} {r : (Int32 × AS)} (h : f_W_law_B953 X L k23 S x1 x2 x3 x4 y0 y1 y2 y3 = some r) : kr_AW (m_W_law X L) 15 953 [(0, va_rf (some 2)), (1, va_rf x1), (2, va_rf x2), (3, va_rf x3), (4, .int x4)] [.int y3, .int y2, .int y1, va_rf y0] S (kr_eI r) := by
  unfold f_W_law_B953 at h
  refine r_aload_n (i := 0) (x := (some 2)) 0 rfl d_W_law_953 ?_
  refine r_iload (i := 4) (x := x4) 4 rfl d_W_law_954 ?_
  refine r_iconst (v := (4 : Int32)) (by decide) d_W_law_956 ?_
  refine r_iadd d_W_law_957 ?_
  have h2 := kr_ob h
  clear h
  obtain ⟨v159, ev159, h⟩ := h2
  refine r_sload rfl ev159 d_W_law_958 ?_
  refine r_aload_n (i := 3) (x := x3) 3 rfl d_W_law_959 ?_
  have h2 := kr_ob2 h
  clear h
  obtain ⟨v161, S160, eS160, h⟩ := h2
  refine r_callSX (M1 := m_W_stepUp) (As := [va_rf y0, .int y1, .int y2, .int y3, .int v159, va_rf x3]) (s_W_stepUp eS160) mok_W_stepUp (by decide) w1022 w1023 (by decide) (kr_c8 kr_c0) d_W_law_960 (kr_k1 ?_) kr_kn
  refine r_istore (i := 5) (lv' := [(5, .int v161), (0, va_rf (some 2)), (1, va_rf x1), (2, va_rf x2), (3, va_rf x3), (4, .int x4)]) (by show (5 : Nat) < 7; decide) rfl d_W_law_963 ?_
  refine r_aload_n (i := 2) (x := x2) 3 rfl d_W_law_965 ?_
  refine r_aload_n (i := 0) (x := (some 2)) 1 rfl d_W_law_966 ?_
  refine r_iload (i := 4) (x := x4) 5 rfl d_W_law_967 ?_
  refine r_iconst (v := (1 : Int32)) (by decide) d_W_law_969 ?_
  refine r_iadd d_W_law_970 ?_
  have h2 := kr_ob h
  clear h
  obtain ⟨v162, ev162, h⟩ := h2
  refine r_sload rfl ev162 d_W_law_971 ?_
  refine r_aload_n (i := 0) (x := (some 2)) 1 rfl d_W_law_972 ?_
  refine r_iload (i := 4) (x := x4) 5 rfl d_W_law_973 ?_
  refine r_iconst (v := (2 : Int32)) (by decide) d_W_law_975 ?_
  refine r_iadd d_W_law_976 ?_
  have h2 := kr_ob h
  clear h
  obtain ⟨v163, ev163, h⟩ := h2
  refine r_sload rfl ev163 d_W_law_977 ?_
  refine r_aload_n (i := 0) (x := (some 2)) 1 rfl d_W_law_978 ?_
  refine r_iload (i := 4) (x := x4) 5 rfl d_W_law_979 ?_
  refine r_iconst (v := (3 : Int32)) (by decide) d_W_law_981 ?_
  refine r_iadd d_W_law_982 ?_
  have h2 := kr_ob h
  clear h
  obtain ⟨v164, ev164, h⟩ := h2
  refine r_sload rfl ev164 d_W_law_983 ?_
  refine r_if_eq (tgt := 991) d_W_law_984 rfl (fun c => ?_) (fun c => ?_)
  · replace h := kr_ip c h
    refine r_iconst (v := (0 : Int32)) (by decide) d_W_law_991 ?_
    exact kr_sub [1, 2, 3, 4, 5] rfl (s_W_law_B992 hk23 h)
  · replace h := kr_in_ c h
    refine r_iconst (v := (1 : Int32)) (by decide) d_W_law_987 ?_
    refine r_goto (tgt := 992) d_W_law_988 rfl ?_
    exact kr_sub [1, 2, 3, 4, 5] rfl (s_W_law_B992 hk23 h)
set_option maxRecDepth 20000 in
set_option maxHeartbeats 4000000 in
theorem s_W_law_B926 {X : Nat → Int32} {L : Nat} {k23 : AS → Option Nat → Option Nat → Option Nat → Int32 → Option (Int32 × AS)} (hk23 : ∀ {S : AS} {x1 : Option Nat} {x2 : Option Nat} {x3 : Option Nat} {x4 : Int32} {r : (Int32 × AS)}, k23 S x1 x2 x3 x4 = some r → kr_AW (m_W_law X L) 15 23 [(0, va_rf (some 2)), (1, va_rf x1), (2, va_rf x2), (3, va_rf x3), (4, .int x4)] [] S (kr_eI r)) {S : AS} {x1 : Option Nat} {x2 : Option Nat} {x3 : Option Nat} {x4 : Int32} {r : (Int32 × AS)} (h : f_W_law_B926 X L k23 S x1 x2 x3 x4 = some r) : kr_AW (m_W_law X L) 15 926 [(0, va_rf (some 2)), (1, va_rf x1), (2, va_rf x2), (3, va_rf x3), (4, .int x4)] [] S (kr_eI r) := by
  unfold f_W_law_B926 at h
  refine r_aload_n (i := 1) (x := x1) 1 rfl d_W_law_926 ?_
  refine r_aload_n (i := 0) (x := (some 2)) 0 rfl d_W_law_927 ?_
  refine r_iload (i := 4) (x := x4) 4 rfl d_W_law_928 ?_
  refine r_iconst (v := (1 : Int32)) (by decide) d_W_law_930 ?_
  refine r_iadd d_W_law_931 ?_
  have h2 := kr_ob h
  clear h
  obtain ⟨v165, ev165, h⟩ := h2
  refine r_sload rfl ev165 d_W_law_932 ?_
  refine r_aload_n (i := 0) (x := (some 2)) 0 rfl d_W_law_933 ?_
  refine r_iload (i := 4) (x := x4) 4 rfl d_W_law_934 ?_
  refine r_iconst (v := (2 : Int32)) (by decide) d_W_law_936 ?_
  refine r_iadd d_W_law_937 ?_
  have h2 := kr_ob h
  clear h
  obtain ⟨v166, ev166, h⟩ := h2
  refine r_sload rfl ev166 d_W_law_938 ?_
  refine r_aload_n (i := 0) (x := (some 2)) 0 rfl d_W_law_939 ?_
  refine r_iload (i := 4) (x := x4) 4 rfl d_W_law_940 ?_
  refine r_iconst (v := (3 : Int32)) (by decide) d_W_law_942 ?_
  refine r_iadd d_W_law_943 ?_
  have h2 := kr_ob h
  clear h
  obtain ⟨v167, ev167, h⟩ := h2
  refine r_sload rfl ev167 d_W_law_944 ?_
  refine r_if_eq (tgt := 952) d_W_law_945 rfl (fun c => ?_) (fun c => ?_)
  · replace h := kr_ip c h
    refine r_iconst (v := (0 : Int32)) (by decide) d_W_law_952 ?_
    exact kr_sub [0, 1, 2, 3, 4] rfl (s_W_law_B953 hk23 h)
  · replace h := kr_in_ c h
    refine r_iconst (v := (1 : Int32)) (by decide) d_W_law_948 ?_
    refine r_goto (tgt := 953) d_W_law_949 rfl ?_
    exact kr_sub [0, 1, 2, 3, 4] rfl (s_W_law_B953 hk23 h)
set_option maxRecDepth 20000 in
set_option maxHeartbeats 4000000 in
theorem s_W_law_B1006 {X : Nat → Int32} {L : Nat} {k23 : AS → Option Nat → Option Nat → Option Nat → Int32 → Option (Int32 × AS)} (hk23 : ∀ {S : AS} {x1 : Option Nat} {x2 : Option Nat} {x3 : Option Nat} {x4 : Int32} {r : (Int32 × AS)}, k23 S x1 x2 x3 x4 = some r → kr_AW (m_W_law X L) 15 23 [(0, va_rf (some 2)), (1, va_rf x1), (2, va_rf x2), (3, va_rf x3), (4, .int x4)] [] S (kr_eI r)) {S : AS} {x1 : Option Nat} {x2 : Option Nat} {x3 : Option Nat} {x4 : Int32} {r : (Int32 × AS)} (h : f_W_law_B1006 X L k23 S x1 x2 x3 x4 = some r) : kr_AW (m_W_law X L) 15 1006 [(0, va_rf (some 2)), (1, va_rf x1), (2, va_rf x2), (3, va_rf x3), (4, .int x4)] [] S (kr_eI r) := by
  unfold f_W_law_B1006 at h
  refine r_aload_n (i := 1) (x := x1) 1 rfl d_W_law_1006 ?_
  refine r_aload_n (i := 0) (x := (some 2)) 0 rfl d_W_law_1007 ?_
  refine r_iload (i := 4) (x := x4) 4 rfl d_W_law_1008 ?_
  refine r_iconst (v := (1 : Int32)) (by decide) d_W_law_1010 ?_
  refine r_iadd d_W_law_1011 ?_
  have h2 := kr_ob h
  clear h
  obtain ⟨v168, ev168, h⟩ := h2
  refine r_sload rfl ev168 d_W_law_1012 ?_
  refine r_aload_n (i := 3) (x := x3) 3 rfl d_W_law_1013 ?_
  have h2 := kr_ob2 h
  clear h
  obtain ⟨v170, S169, eS169, h⟩ := h2
  refine r_callSX (M1 := m_W_signOut) (As := [va_rf x1, .int v168, va_rf x3]) (s_W_signOut eS169) mok_W_signOut (by decide) w1029 w1030 (by decide) (kr_c8 kr_c0) d_W_law_1014 (kr_k1 ?_) kr_kn
  refine r_istore (i := 5) (lv' := [(5, .int v170), (0, va_rf (some 2)), (1, va_rf x1), (2, va_rf x2), (3, va_rf x3), (4, .int x4)]) (by show (5 : Nat) < 7; decide) rfl d_W_law_1017 ?_
  refine r_aload_n (i := 2) (x := x2) 3 rfl d_W_law_1019 ?_
  refine r_aload_n (i := 0) (x := (some 2)) 1 rfl d_W_law_1020 ?_
  refine r_iload (i := 4) (x := x4) 5 rfl d_W_law_1021 ?_
  refine r_iconst (v := (1 : Int32)) (by decide) d_W_law_1023 ?_
  refine r_iadd d_W_law_1024 ?_
  have h2 := kr_ob h
  clear h
  obtain ⟨v171, ev171, h⟩ := h2
  refine r_sload rfl ev171 d_W_law_1025 ?_
  have h2 := kr_ob h
  clear h
  obtain ⟨⟨⟩, eu172, h⟩ := h2
  have h2 := kr_ob2 h
  clear h
  obtain ⟨v174, S173, eS173, h⟩ := h2
  refine r_callV (M1 := m_M_signOut) (κ := 23) (As := [.int v171]) eu172 (s_M_signOut eS173) mok_M_signOut rfl (by decide) rfl w1903 w1904 w1905 (by decide) (kr_c8 kr_c0) d_W_law_1026 (kr_k1 ?_) kr_kn
  refine r_istore (i := 6) (lv' := [(6, .int v174), (5, .int v170), (0, va_rf (some 2)), (1, va_rf x1), (2, va_rf x2), (3, va_rf x3), (4, .int x4)]) (by show (6 : Nat) < 7; decide) rfl d_W_law_1029 ?_
  refine r_goto (tgt := 2025) d_W_law_1031 rfl ?_
  exact kr_sub [2, 3, 4, 5, 6] rfl (s_W_law_B2025 hk23 h)
set_option maxRecDepth 20000 in
set_option maxHeartbeats 4000000 in
theorem s_W_law_B1034 {X : Nat → Int32} {L : Nat} {k23 : AS → Option Nat → Option Nat → Option Nat → Int32 → Option (Int32 × AS)} (hk23 : ∀ {S : AS} {x1 : Option Nat} {x2 : Option Nat} {x3 : Option Nat} {x4 : Int32} {r : (Int32 × AS)}, k23 S x1 x2 x3 x4 = some r → kr_AW (m_W_law X L) 15 23 [(0, va_rf (some 2)), (1, va_rf x1), (2, va_rf x2), (3, va_rf x3), (4, .int x4)] [] S (kr_eI r)) {S : AS} {x1 : Option Nat} {x2 : Option Nat} {x3 : Option Nat} {x4 : Int32} {r : (Int32 × AS)} (h : f_W_law_B1034 X L k23 S x1 x2 x3 x4 = some r) : kr_AW (m_W_law X L) 15 1034 [(0, va_rf (some 2)), (1, va_rf x1), (2, va_rf x2), (3, va_rf x3), (4, .int x4)] [] S (kr_eI r) := by
  unfold f_W_law_B1034 at h
  refine r_aload_n (i := 1) (x := x1) 1 rfl d_W_law_1034 ?_
  refine r_aload_n (i := 0) (x := (some 2)) 0 rfl d_W_law_1035 ?_
  refine r_iload (i := 4) (x := x4) 4 rfl d_W_law_1036 ?_
  refine r_iconst (v := (1 : Int32)) (by decide) d_W_law_1038 ?_
  refine r_iadd d_W_law_1039 ?_
  have h2 := kr_ob h
  clear h
  obtain ⟨v175, ev175, h⟩ := h2
  refine r_sload rfl ev175 d_W_law_1040 ?_
  refine r_aload_n (i := 3) (x := x3) 3 rfl d_W_law_1041 ?_
  have h2 := kr_ob2 h
  clear h
  obtain ⟨v177, S176, eS176, h⟩ := h2
  refine r_callSX (M1 := m_W_helper) (As := [va_rf x1, .int v175, va_rf x3]) (s_W_helper eS176) mok_W_helper (by decide) w1036 w1037 (by decide) (kr_c8 kr_c0) d_W_law_1042 (kr_k1 ?_) kr_kn
  refine r_istore (i := 5) (lv' := [(5, .int v177), (0, va_rf (some 2)), (1, va_rf x1), (2, va_rf x2), (3, va_rf x3), (4, .int x4)]) (by show (5 : Nat) < 7; decide) rfl d_W_law_1045 ?_
  refine r_aload_n (i := 2) (x := x2) 3 rfl d_W_law_1047 ?_
  refine r_aload_n (i := 0) (x := (some 2)) 1 rfl d_W_law_1048 ?_
  refine r_iload (i := 4) (x := x4) 5 rfl d_W_law_1049 ?_
  refine r_iconst (v := (1 : Int32)) (by decide) d_W_law_1051 ?_
  refine r_iadd d_W_law_1052 ?_
  have h2 := kr_ob h
  clear h
  obtain ⟨v178, ev178, h⟩ := h2
  refine r_sload rfl ev178 d_W_law_1053 ?_
  have h2 := kr_ob h
  clear h
  obtain ⟨⟨⟩, eu179, h⟩ := h2
  have h2 := kr_ob2 h
  clear h
  obtain ⟨v181, S180, eS180, h⟩ := h2
  refine r_callV (M1 := m_M_helper) (κ := 23) (As := [.int v178]) eu179 (s_M_helper eS180) mok_M_helper rfl (by decide) rfl w1907 w1908 w1909 (by decide) (kr_c8 kr_c0) d_W_law_1054 (kr_k1 ?_) kr_kn
  refine r_istore (i := 6) (lv' := [(6, .int v181), (5, .int v177), (0, va_rf (some 2)), (1, va_rf x1), (2, va_rf x2), (3, va_rf x3), (4, .int x4)]) (by show (6 : Nat) < 7; decide) rfl d_W_law_1057 ?_
  refine r_goto (tgt := 2025) d_W_law_1059 rfl ?_
  exact kr_sub [2, 3, 4, 5, 6] rfl (s_W_law_B2025 hk23 h)
set_option maxRecDepth 20000 in
set_option maxHeartbeats 4000000 in
theorem s_W_law_B1062 {X : Nat → Int32} {L : Nat} {k23 : AS → Option Nat → Option Nat → Option Nat → Int32 → Option (Int32 × AS)} (hk23 : ∀ {S : AS} {x1 : Option Nat} {x2 : Option Nat} {x3 : Option Nat} {x4 : Int32} {r : (Int32 × AS)}, k23 S x1 x2 x3 x4 = some r → kr_AW (m_W_law X L) 15 23 [(0, va_rf (some 2)), (1, va_rf x1), (2, va_rf x2), (3, va_rf x3), (4, .int x4)] [] S (kr_eI r)) {S : AS} {x1 : Option Nat} {x2 : Option Nat} {x3 : Option Nat} {x4 : Int32} {r : (Int32 × AS)} (h : f_W_law_B1062 X L k23 S x1 x2 x3 x4 = some r) : kr_AW (m_W_law X L) 15 1062 [(0, va_rf (some 2)), (1, va_rf x1), (2, va_rf x2), (3, va_rf x3), (4, .int x4)] [] S (kr_eI r) := by
  unfold f_W_law_B1062 at h
  refine r_aload_n (i := 1) (x := x1) 1 rfl d_W_law_1062 ?_
  refine r_aload_n (i := 0) (x := (some 2)) 0 rfl d_W_law_1063 ?_
  refine r_iload (i := 4) (x := x4) 4 rfl d_W_law_1064 ?_
  refine r_iconst (v := (1 : Int32)) (by decide) d_W_law_1066 ?_
  refine r_iadd d_W_law_1067 ?_
  have h2 := kr_ob h
  clear h
  obtain ⟨v182, ev182, h⟩ := h2
  refine r_sload rfl ev182 d_W_law_1068 ?_
  refine r_aload_n (i := 0) (x := (some 2)) 0 rfl d_W_law_1069 ?_
  refine r_iload (i := 4) (x := x4) 4 rfl d_W_law_1070 ?_
  refine r_iconst (v := (2 : Int32)) (by decide) d_W_law_1072 ?_
  refine r_iadd d_W_law_1073 ?_
  have h2 := kr_ob h
  clear h
  obtain ⟨v183, ev183, h⟩ := h2
  refine r_sload rfl ev183 d_W_law_1074 ?_
  refine r_aload_n (i := 3) (x := x3) 3 rfl d_W_law_1075 ?_
  have h2 := kr_ob2 h
  clear h
  obtain ⟨v185, S184, eS184, h⟩ := h2
  refine r_callSX (M1 := m_W_act) (As := [va_rf x1, .int v182, .int v183, va_rf x3]) (s_W_act eS184) mok_W_act (by decide) w1043 w1044 (by decide) (kr_c8 kr_c0) d_W_law_1076 (kr_k1 ?_) kr_kn
  refine r_istore (i := 5) (lv' := [(5, .int v185), (0, va_rf (some 2)), (1, va_rf x1), (2, va_rf x2), (3, va_rf x3), (4, .int x4)]) (by show (5 : Nat) < 7; decide) rfl d_W_law_1079 ?_
  refine r_aload_n (i := 2) (x := x2) 3 rfl d_W_law_1081 ?_
  refine r_aload_n (i := 0) (x := (some 2)) 1 rfl d_W_law_1082 ?_
  refine r_iload (i := 4) (x := x4) 5 rfl d_W_law_1083 ?_
  refine r_iconst (v := (1 : Int32)) (by decide) d_W_law_1085 ?_
  refine r_iadd d_W_law_1086 ?_
  have h2 := kr_ob h
  clear h
  obtain ⟨v186, ev186, h⟩ := h2
  refine r_sload rfl ev186 d_W_law_1087 ?_
  refine r_aload_n (i := 0) (x := (some 2)) 1 rfl d_W_law_1088 ?_
  refine r_iload (i := 4) (x := x4) 5 rfl d_W_law_1089 ?_
  refine r_iconst (v := (2 : Int32)) (by decide) d_W_law_1091 ?_
  refine r_iadd d_W_law_1092 ?_
  have h2 := kr_ob h
  clear h
  obtain ⟨v187, ev187, h⟩ := h2
  refine r_sload rfl ev187 d_W_law_1093 ?_
  have h2 := kr_ob h
  clear h
  obtain ⟨⟨⟩, eu188, h⟩ := h2
  have h2 := kr_ob2 h
  clear h
  obtain ⟨v190, S189, eS189, h⟩ := h2
  refine r_callV (M1 := m_M_act) (κ := 23) (As := [.int v186, .int v187]) eu188 (s_M_act eS189) mok_M_act rfl (by decide) rfl w1911 w1912 w1913 (by decide) (kr_c8 kr_c0) d_W_law_1094 (kr_k1 ?_) kr_kn
  refine r_istore (i := 6) (lv' := [(6, .int v190), (5, .int v185), (0, va_rf (some 2)), (1, va_rf x1), (2, va_rf x2), (3, va_rf x3), (4, .int x4)]) (by show (6 : Nat) < 7; decide) rfl d_W_law_1097 ?_
  refine r_goto (tgt := 2025) d_W_law_1099 rfl ?_
  exact kr_sub [2, 3, 4, 5, 6] rfl (s_W_law_B2025 hk23 h)
set_option maxRecDepth 20000 in
set_option maxHeartbeats 4000000 in
theorem s_W_law_B1102 {X : Nat → Int32} {L : Nat} {k23 : AS → Option Nat → Option Nat → Option Nat → Int32 → Option (Int32 × AS)} (hk23 : ∀ {S : AS} {x1 : Option Nat} {x2 : Option Nat} {x3 : Option Nat} {x4 : Int32} {r : (Int32 × AS)}, k23 S x1 x2 x3 x4 = some r → kr_AW (m_W_law X L) 15 23 [(0, va_rf (some 2)), (1, va_rf x1), (2, va_rf x2), (3, va_rf x3), (4, .int x4)] [] S (kr_eI r)) {S : AS} {x1 : Option Nat} {x2 : Option Nat} {x3 : Option Nat} {x4 : Int32} {r : (Int32 × AS)} (h : f_W_law_B1102 X L k23 S x1 x2 x3 x4 = some r) : kr_AW (m_W_law X L) 15 1102 [(0, va_rf (some 2)), (1, va_rf x1), (2, va_rf x2), (3, va_rf x3), (4, .int x4)] [] S (kr_eI r) := by
  unfold f_W_law_B1102 at h
  refine r_aload_n (i := 1) (x := x1) 1 rfl d_W_law_1102 ?_
  refine r_aload_n (i := 0) (x := (some 2)) 0 rfl d_W_law_1103 ?_
  refine r_iload (i := 4) (x := x4) 4 rfl d_W_law_1104 ?_
  refine r_iconst (v := (1 : Int32)) (by decide) d_W_law_1106 ?_
  refine r_iadd d_W_law_1107 ?_
  have h2 := kr_ob h
  clear h
  obtain ⟨v191, ev191, h⟩ := h2
  refine r_sload rfl ev191 d_W_law_1108 ?_
  refine r_aload_n (i := 0) (x := (some 2)) 0 rfl d_W_law_1109 ?_
  refine r_iload (i := 4) (x := x4) 4 rfl d_W_law_1110 ?_
  refine r_iconst (v := (2 : Int32)) (by decide) d_W_law_1112 ?_
  refine r_iadd d_W_law_1113 ?_
  have h2 := kr_ob h
  clear h
  obtain ⟨v192, ev192, h⟩ := h2
  refine r_sload rfl ev192 d_W_law_1114 ?_
  refine r_aload_n (i := 0) (x := (some 2)) 0 rfl d_W_law_1115 ?_
  refine r_iload (i := 4) (x := x4) 4 rfl d_W_law_1116 ?_
  refine r_iconst (v := (3 : Int32)) (by decide) d_W_law_1118 ?_
  refine r_iadd d_W_law_1119 ?_
  have h2 := kr_ob h
  clear h
  obtain ⟨v193, ev193, h⟩ := h2
  refine r_sload rfl ev193 d_W_law_1120 ?_
  refine r_aload_n (i := 3) (x := x3) 3 rfl d_W_law_1121 ?_
  have h2 := kr_ob2 h
  clear h
  obtain ⟨v195, S194, eS194, h⟩ := h2
  refine r_callSX (M1 := m_W_consent) (As := [va_rf x1, .int v191, .int v192, .int v193, va_rf x3]) (s_W_consent eS194) mok_W_consent (by decide) w1050 w1051 (by decide) (kr_c8 kr_c0) d_W_law_1122 (kr_k1 ?_) kr_kn
  refine r_istore (i := 5) (lv' := [(5, .int v195), (0, va_rf (some 2)), (1, va_rf x1), (2, va_rf x2), (3, va_rf x3), (4, .int x4)]) (by show (5 : Nat) < 7; decide) rfl d_W_law_1125 ?_
  refine r_aload_n (i := 2) (x := x2) 3 rfl d_W_law_1127 ?_
  refine r_aload_n (i := 0) (x := (some 2)) 1 rfl d_W_law_1128 ?_
  refine r_iload (i := 4) (x := x4) 5 rfl d_W_law_1129 ?_
  refine r_iconst (v := (1 : Int32)) (by decide) d_W_law_1131 ?_
  refine r_iadd d_W_law_1132 ?_
  have h2 := kr_ob h
  clear h
  obtain ⟨v196, ev196, h⟩ := h2
  refine r_sload rfl ev196 d_W_law_1133 ?_
  refine r_aload_n (i := 0) (x := (some 2)) 1 rfl d_W_law_1134 ?_
  refine r_iload (i := 4) (x := x4) 5 rfl d_W_law_1135 ?_
  refine r_iconst (v := (2 : Int32)) (by decide) d_W_law_1137 ?_
  refine r_iadd d_W_law_1138 ?_
  have h2 := kr_ob h
  clear h
  obtain ⟨v197, ev197, h⟩ := h2
  refine r_sload rfl ev197 d_W_law_1139 ?_
  refine r_aload_n (i := 0) (x := (some 2)) 1 rfl d_W_law_1140 ?_
  refine r_iload (i := 4) (x := x4) 5 rfl d_W_law_1141 ?_
  refine r_iconst (v := (3 : Int32)) (by decide) d_W_law_1143 ?_
  refine r_iadd d_W_law_1144 ?_
  have h2 := kr_ob h
  clear h
  obtain ⟨v198, ev198, h⟩ := h2
  refine r_sload rfl ev198 d_W_law_1145 ?_
  have h2 := kr_ob h
  clear h
  obtain ⟨⟨⟩, eu199, h⟩ := h2
  have h2 := kr_ob2 h
  clear h
  obtain ⟨v201, S200, eS200, h⟩ := h2
  refine r_callV (M1 := m_M_consent) (κ := 23) (As := [.int v196, .int v197, .int v198]) eu199 (s_M_consent eS200) mok_M_consent rfl (by decide) rfl w1915 w1916 w1917 (by decide) (kr_c8 kr_c0) d_W_law_1146 (kr_k1 ?_) kr_kn
  refine r_istore (i := 6) (lv' := [(6, .int v201), (5, .int v195), (0, va_rf (some 2)), (1, va_rf x1), (2, va_rf x2), (3, va_rf x3), (4, .int x4)]) (by show (6 : Nat) < 7; decide) rfl d_W_law_1149 ?_
  refine r_goto (tgt := 2025) d_W_law_1151 rfl ?_
  exact kr_sub [2, 3, 4, 5, 6] rfl (s_W_law_B2025 hk23 h)
set_option maxRecDepth 20000 in
set_option maxHeartbeats 4000000 in
theorem s_W_law_B1154 {X : Nat → Int32} {L : Nat} {k23 : AS → Option Nat → Option Nat → Option Nat → Int32 → Option (Int32 × AS)} (hk23 : ∀ {S : AS} {x1 : Option Nat} {x2 : Option Nat} {x3 : Option Nat} {x4 : Int32} {r : (Int32 × AS)}, k23 S x1 x2 x3 x4 = some r → kr_AW (m_W_law X L) 15 23 [(0, va_rf (some 2)), (1, va_rf x1), (2, va_rf x2), (3, va_rf x3), (4, .int x4)] [] S (kr_eI r)) {S : AS} {x1 : Option Nat} {x2 : Option Nat} {x3 : Option Nat} {x4 : Int32} {r : (Int32 × AS)} (h : f_W_law_B1154 X L k23 S x1 x2 x3 x4 = some r) : kr_AW (m_W_law X L) 15 1154 [(0, va_rf (some 2)), (1, va_rf x1), (2, va_rf x2), (3, va_rf x3), (4, .int x4)] [] S (kr_eI r) := by
  unfold f_W_law_B1154 at h
  refine r_aload_n (i := 1) (x := x1) 1 rfl d_W_law_1154 ?_
  refine r_aload_n (i := 0) (x := (some 2)) 0 rfl d_W_law_1155 ?_
  refine r_iload (i := 4) (x := x4) 4 rfl d_W_law_1156 ?_
  refine r_iconst (v := (1 : Int32)) (by decide) d_W_law_1158 ?_
  refine r_iadd d_W_law_1159 ?_
  have h2 := kr_ob h
  clear h
  obtain ⟨v202, ev202, h⟩ := h2
  refine r_sload rfl ev202 d_W_law_1160 ?_
  refine r_aload_n (i := 0) (x := (some 2)) 0 rfl d_W_law_1161 ?_
  refine r_iload (i := 4) (x := x4) 4 rfl d_W_law_1162 ?_
  refine r_iconst (v := (2 : Int32)) (by decide) d_W_law_1164 ?_
  refine r_iadd d_W_law_1165 ?_
  have h2 := kr_ob h
  clear h
  obtain ⟨v203, ev203, h⟩ := h2
  refine r_sload rfl ev203 d_W_law_1166 ?_
  refine r_aload_n (i := 3) (x := x3) 3 rfl d_W_law_1167 ?_
  have h2 := kr_ob2 h
  clear h
  obtain ⟨v205, S204, eS204, h⟩ := h2
  refine r_callSX (M1 := m_W_withdraw) (As := [va_rf x1, .int v202, .int v203, va_rf x3]) (s_W_withdraw eS204) mok_W_withdraw (by decide) w1057 w1058 (by decide) (kr_c8 kr_c0) d_W_law_1168 (kr_k1 ?_) kr_kn
  refine r_istore (i := 5) (lv' := [(5, .int v205), (0, va_rf (some 2)), (1, va_rf x1), (2, va_rf x2), (3, va_rf x3), (4, .int x4)]) (by show (5 : Nat) < 7; decide) rfl d_W_law_1171 ?_
  refine r_aload_n (i := 2) (x := x2) 3 rfl d_W_law_1173 ?_
  refine r_aload_n (i := 0) (x := (some 2)) 1 rfl d_W_law_1174 ?_
  refine r_iload (i := 4) (x := x4) 5 rfl d_W_law_1175 ?_
  refine r_iconst (v := (1 : Int32)) (by decide) d_W_law_1177 ?_
  refine r_iadd d_W_law_1178 ?_
  have h2 := kr_ob h
  clear h
  obtain ⟨v206, ev206, h⟩ := h2
  refine r_sload rfl ev206 d_W_law_1179 ?_
  refine r_aload_n (i := 0) (x := (some 2)) 1 rfl d_W_law_1180 ?_
  refine r_iload (i := 4) (x := x4) 5 rfl d_W_law_1181 ?_
  refine r_iconst (v := (2 : Int32)) (by decide) d_W_law_1183 ?_
  refine r_iadd d_W_law_1184 ?_
  have h2 := kr_ob h
  clear h
  obtain ⟨v207, ev207, h⟩ := h2
  refine r_sload rfl ev207 d_W_law_1185 ?_
  have h2 := kr_ob h
  clear h
  obtain ⟨⟨⟩, eu208, h⟩ := h2
  have h2 := kr_ob2 h
  clear h
  obtain ⟨v210, S209, eS209, h⟩ := h2
  refine r_callV (M1 := m_M_withdraw) (κ := 23) (As := [.int v206, .int v207]) eu208 (s_M_withdraw eS209) mok_M_withdraw rfl (by decide) rfl w1922 w1923 w1924 (by decide) (kr_c8 kr_c0) d_W_law_1186 (kr_k1 ?_) kr_kn
  refine r_istore (i := 6) (lv' := [(6, .int v210), (5, .int v205), (0, va_rf (some 2)), (1, va_rf x1), (2, va_rf x2), (3, va_rf x3), (4, .int x4)]) (by show (6 : Nat) < 7; decide) rfl d_W_law_1189 ?_
  refine r_goto (tgt := 2025) d_W_law_1191 rfl ?_
  exact kr_sub [2, 3, 4, 5, 6] rfl (s_W_law_B2025 hk23 h)
set_option maxRecDepth 20000 in
set_option maxHeartbeats 4000000 in
theorem s_W_law_B1194 {X : Nat → Int32} {L : Nat} {k23 : AS → Option Nat → Option Nat → Option Nat → Int32 → Option (Int32 × AS)} (hk23 : ∀ {S : AS} {x1 : Option Nat} {x2 : Option Nat} {x3 : Option Nat} {x4 : Int32} {r : (Int32 × AS)}, k23 S x1 x2 x3 x4 = some r → kr_AW (m_W_law X L) 15 23 [(0, va_rf (some 2)), (1, va_rf x1), (2, va_rf x2), (3, va_rf x3), (4, .int x4)] [] S (kr_eI r)) {S : AS} {x1 : Option Nat} {x2 : Option Nat} {x3 : Option Nat} {x4 : Int32} {r : (Int32 × AS)} (h : f_W_law_B1194 X L k23 S x1 x2 x3 x4 = some r) : kr_AW (m_W_law X L) 15 1194 [(0, va_rf (some 2)), (1, va_rf x1), (2, va_rf x2), (3, va_rf x3), (4, .int x4)] [] S (kr_eI r) := by
  unfold f_W_law_B1194 at h
  refine r_aload_n (i := 1) (x := x1) 1 rfl d_W_law_1194 ?_
  refine r_aload_n (i := 0) (x := (some 2)) 0 rfl d_W_law_1195 ?_
  refine r_iload (i := 4) (x := x4) 4 rfl d_W_law_1196 ?_
  refine r_iconst (v := (1 : Int32)) (by decide) d_W_law_1198 ?_
  refine r_iadd d_W_law_1199 ?_
  have h2 := kr_ob h
  clear h
  obtain ⟨v211, ev211, h⟩ := h2
  refine r_sload rfl ev211 d_W_law_1200 ?_
  refine r_aload_n (i := 0) (x := (some 2)) 0 rfl d_W_law_1201 ?_
  refine r_iload (i := 4) (x := x4) 4 rfl d_W_law_1202 ?_
  refine r_iconst (v := (2 : Int32)) (by decide) d_W_law_1204 ?_
  refine r_iadd d_W_law_1205 ?_
  have h2 := kr_ob h
  clear h
  obtain ⟨v212, ev212, h⟩ := h2
  refine r_sload rfl ev212 d_W_law_1206 ?_
  refine r_aload_n (i := 3) (x := x3) 3 rfl d_W_law_1207 ?_
  have h2 := kr_ob2 h
  clear h
  obtain ⟨v214, S213, eS213, h⟩ := h2
  refine r_callSX (M1 := m_W_need) (As := [va_rf x1, .int v211, .int v212, va_rf x3]) (s_W_need eS213) mok_W_need (by decide) w1064 w1065 (by decide) (kr_c8 kr_c0) d_W_law_1208 (kr_k1 ?_) kr_kn
  refine r_istore (i := 5) (lv' := [(5, .int v214), (0, va_rf (some 2)), (1, va_rf x1), (2, va_rf x2), (3, va_rf x3), (4, .int x4)]) (by show (5 : Nat) < 7; decide) rfl d_W_law_1211 ?_
  refine r_aload_n (i := 2) (x := x2) 3 rfl d_W_law_1213 ?_
  refine r_aload_n (i := 0) (x := (some 2)) 1 rfl d_W_law_1214 ?_
  refine r_iload (i := 4) (x := x4) 5 rfl d_W_law_1215 ?_
  refine r_iconst (v := (1 : Int32)) (by decide) d_W_law_1217 ?_
  refine r_iadd d_W_law_1218 ?_
  have h2 := kr_ob h
  clear h
  obtain ⟨v215, ev215, h⟩ := h2
  refine r_sload rfl ev215 d_W_law_1219 ?_
  refine r_aload_n (i := 0) (x := (some 2)) 1 rfl d_W_law_1220 ?_
  refine r_iload (i := 4) (x := x4) 5 rfl d_W_law_1221 ?_
  refine r_iconst (v := (2 : Int32)) (by decide) d_W_law_1223 ?_
  refine r_iadd d_W_law_1224 ?_
  have h2 := kr_ob h
  clear h
  obtain ⟨v216, ev216, h⟩ := h2
  refine r_sload rfl ev216 d_W_law_1225 ?_
  have h2 := kr_ob h
  clear h
  obtain ⟨⟨⟩, eu217, h⟩ := h2
  have h2 := kr_ob2 h
  clear h
  obtain ⟨v219, S218, eS218, h⟩ := h2
  refine r_callV (M1 := m_M_need) (κ := 23) (As := [.int v215, .int v216]) eu217 (s_M_need eS218) mok_M_need rfl (by decide) rfl w1926 w1927 w1928 (by decide) (kr_c8 kr_c0) d_W_law_1226 (kr_k1 ?_) kr_kn
  refine r_istore (i := 6) (lv' := [(6, .int v219), (5, .int v214), (0, va_rf (some 2)), (1, va_rf x1), (2, va_rf x2), (3, va_rf x3), (4, .int x4)]) (by show (6 : Nat) < 7; decide) rfl d_W_law_1229 ?_
  refine r_goto (tgt := 2025) d_W_law_1231 rfl ?_
  exact kr_sub [2, 3, 4, 5, 6] rfl (s_W_law_B2025 hk23 h)
set_option maxRecDepth 20000 in
set_option maxHeartbeats 4000000 in
theorem s_W_law_B1234 {X : Nat → Int32} {L : Nat} {k23 : AS → Option Nat → Option Nat → Option Nat → Int32 → Option (Int32 × AS)} (hk23 : ∀ {S : AS} {x1 : Option Nat} {x2 : Option Nat} {x3 : Option Nat} {x4 : Int32} {r : (Int32 × AS)}, k23 S x1 x2 x3 x4 = some r → kr_AW (m_W_law X L) 15 23 [(0, va_rf (some 2)), (1, va_rf x1), (2, va_rf x2), (3, va_rf x3), (4, .int x4)] [] S (kr_eI r)) {S : AS} {x1 : Option Nat} {x2 : Option Nat} {x3 : Option Nat} {x4 : Int32} {r : (Int32 × AS)} (h : f_W_law_B1234 X L k23 S x1 x2 x3 x4 = some r) : kr_AW (m_W_law X L) 15 1234 [(0, va_rf (some 2)), (1, va_rf x1), (2, va_rf x2), (3, va_rf x3), (4, .int x4)] [] S (kr_eI r) := by
  unfold f_W_law_B1234 at h
  refine r_aload_n (i := 1) (x := x1) 1 rfl d_W_law_1234 ?_
  refine r_aload_n (i := 0) (x := (some 2)) 0 rfl d_W_law_1235 ?_
  refine r_iload (i := 4) (x := x4) 4 rfl d_W_law_1236 ?_
  refine r_iconst (v := (1 : Int32)) (by decide) d_W_law_1238 ?_
  refine r_iadd d_W_law_1239 ?_
  have h2 := kr_ob h
  clear h
  obtain ⟨v220, ev220, h⟩ := h2
  refine r_sload rfl ev220 d_W_law_1240 ?_
  refine r_aload_n (i := 0) (x := (some 2)) 0 rfl d_W_law_1241 ?_
  refine r_iload (i := 4) (x := x4) 4 rfl d_W_law_1242 ?_
  refine r_iconst (v := (2 : Int32)) (by decide) d_W_law_1244 ?_
  refine r_iadd d_W_law_1245 ?_
  have h2 := kr_ob h
  clear h
  obtain ⟨v221, ev221, h⟩ := h2
  refine r_sload rfl ev221 d_W_law_1246 ?_
  refine r_aload_n (i := 0) (x := (some 2)) 0 rfl d_W_law_1247 ?_
  refine r_iload (i := 4) (x := x4) 4 rfl d_W_law_1248 ?_
  refine r_iconst (v := (3 : Int32)) (by decide) d_W_law_1250 ?_
  refine r_iadd d_W_law_1251 ?_
  have h2 := kr_ob h
  clear h
  obtain ⟨v222, ev222, h⟩ := h2
  refine r_sload rfl ev222 d_W_law_1252 ?_
  refine r_aload_n (i := 0) (x := (some 2)) 0 rfl d_W_law_1253 ?_
  refine r_iload (i := 4) (x := x4) 4 rfl d_W_law_1254 ?_
  refine r_iconst (v := (4 : Int32)) (by decide) d_W_law_1256 ?_
  refine r_iadd d_W_law_1257 ?_
  have h2 := kr_ob h
  clear h
  obtain ⟨v223, ev223, h⟩ := h2
  refine r_sload rfl ev223 d_W_law_1258 ?_
  refine r_aload_n (i := 3) (x := x3) 3 rfl d_W_law_1259 ?_
  have h2 := kr_ob2 h
  clear h
  obtain ⟨v225, S224, eS224, h⟩ := h2
  refine r_callSX (M1 := m_W_authorize) (As := [va_rf x1, .int v220, .int v221, .int v222, .int v223, va_rf x3]) (s_W_authorize eS224) mok_W_authorize (by decide) w1071 w1072 (by decide) (kr_c8 kr_c0) d_W_law_1260 (kr_k1 ?_) kr_kn
  refine r_istore (i := 5) (lv' := [(5, .int v225), (0, va_rf (some 2)), (1, va_rf x1), (2, va_rf x2), (3, va_rf x3), (4, .int x4)]) (by show (5 : Nat) < 7; decide) rfl d_W_law_1263 ?_
  refine r_aload_n (i := 2) (x := x2) 3 rfl d_W_law_1265 ?_
  refine r_aload_n (i := 0) (x := (some 2)) 1 rfl d_W_law_1266 ?_
  refine r_iload (i := 4) (x := x4) 5 rfl d_W_law_1267 ?_
  refine r_iconst (v := (1 : Int32)) (by decide) d_W_law_1269 ?_
  refine r_iadd d_W_law_1270 ?_
  have h2 := kr_ob h
  clear h
  obtain ⟨v226, ev226, h⟩ := h2
  refine r_sload rfl ev226 d_W_law_1271 ?_
  refine r_aload_n (i := 0) (x := (some 2)) 1 rfl d_W_law_1272 ?_
  refine r_iload (i := 4) (x := x4) 5 rfl d_W_law_1273 ?_
  refine r_iconst (v := (2 : Int32)) (by decide) d_W_law_1275 ?_
  refine r_iadd d_W_law_1276 ?_
  have h2 := kr_ob h
  clear h
  obtain ⟨v227, ev227, h⟩ := h2
  refine r_sload rfl ev227 d_W_law_1277 ?_
  refine r_aload_n (i := 0) (x := (some 2)) 1 rfl d_W_law_1278 ?_
  refine r_iload (i := 4) (x := x4) 5 rfl d_W_law_1279 ?_
  refine r_iconst (v := (3 : Int32)) (by decide) d_W_law_1281 ?_
  refine r_iadd d_W_law_1282 ?_
  have h2 := kr_ob h
  clear h
  obtain ⟨v228, ev228, h⟩ := h2
  refine r_sload rfl ev228 d_W_law_1283 ?_
  refine r_aload_n (i := 0) (x := (some 2)) 1 rfl d_W_law_1284 ?_
  refine r_iload (i := 4) (x := x4) 5 rfl d_W_law_1285 ?_
  refine r_iconst (v := (4 : Int32)) (by decide) d_W_law_1287 ?_
  refine r_iadd d_W_law_1288 ?_
  have h2 := kr_ob h
  clear h
  obtain ⟨v229, ev229, h⟩ := h2
  refine r_sload rfl ev229 d_W_law_1289 ?_
  have h2 := kr_ob h
  clear h
  obtain ⟨⟨⟩, eu230, h⟩ := h2
  have h2 := kr_ob2 h
  clear h
  obtain ⟨v232, S231, eS231, h⟩ := h2
  refine r_callV (M1 := m_M_authorize) (κ := 23) (As := [.int v226, .int v227, .int v228, .int v229]) eu230 (s_M_authorize eS231) mok_M_authorize rfl (by decide) rfl w1930 w1931 w1932 (by decide) (kr_c8 kr_c0) d_W_law_1290 (kr_k1 ?_) kr_kn
  refine r_istore (i := 6) (lv' := [(6, .int v232), (5, .int v225), (0, va_rf (some 2)), (1, va_rf x1), (2, va_rf x2), (3, va_rf x3), (4, .int x4)]) (by show (6 : Nat) < 7; decide) rfl d_W_law_1293 ?_
  refine r_goto (tgt := 2025) d_W_law_1295 rfl ?_
  exact kr_sub [2, 3, 4, 5, 6] rfl (s_W_law_B2025 hk23 h)
set_option maxRecDepth 20000 in
set_option maxHeartbeats 4000000 in
theorem s_W_law_B1298 {X : Nat → Int32} {L : Nat} {k23 : AS → Option Nat → Option Nat → Option Nat → Int32 → Option (Int32 × AS)} (hk23 : ∀ {S : AS} {x1 : Option Nat} {x2 : Option Nat} {x3 : Option Nat} {x4 : Int32} {r : (Int32 × AS)}, k23 S x1 x2 x3 x4 = some r → kr_AW (m_W_law X L) 15 23 [(0, va_rf (some 2)), (1, va_rf x1), (2, va_rf x2), (3, va_rf x3), (4, .int x4)] [] S (kr_eI r)) {S : AS} {x1 : Option Nat} {x2 : Option Nat} {x3 : Option Nat} {x4 : Int32} {r : (Int32 × AS)} (h : f_W_law_B1298 X L k23 S x1 x2 x3 x4 = some r) : kr_AW (m_W_law X L) 15 1298 [(0, va_rf (some 2)), (1, va_rf x1), (2, va_rf x2), (3, va_rf x3), (4, .int x4)] [] S (kr_eI r) := by
  unfold f_W_law_B1298 at h
  refine r_aload_n (i := 1) (x := x1) 1 rfl d_W_law_1298 ?_
  refine r_aload_n (i := 0) (x := (some 2)) 0 rfl d_W_law_1299 ?_
  refine r_iload (i := 4) (x := x4) 4 rfl d_W_law_1300 ?_
  refine r_iconst (v := (1 : Int32)) (by decide) d_W_law_1302 ?_
  refine r_iadd d_W_law_1303 ?_
  have h2 := kr_ob h
  clear h
  obtain ⟨v233, ev233, h⟩ := h2
  refine r_sload rfl ev233 d_W_law_1304 ?_
  refine r_aload_n (i := 3) (x := x3) 3 rfl d_W_law_1305 ?_
  have h2 := kr_ob2 h
  clear h
  obtain ⟨v235, S234, eS234, h⟩ := h2
  refine r_callSX (M1 := m_W_redeem) (As := [va_rf x1, .int v233, va_rf x3]) (s_W_redeem eS234) mok_W_redeem (by decide) w1133 w1134 (by decide) (kr_c8 kr_c0) d_W_law_1306 (kr_k1 ?_) kr_kn
  refine r_istore (i := 5) (lv' := [(5, .int v235), (0, va_rf (some 2)), (1, va_rf x1), (2, va_rf x2), (3, va_rf x3), (4, .int x4)]) (by show (5 : Nat) < 7; decide) rfl d_W_law_1309 ?_
  refine r_aload_n (i := 2) (x := x2) 3 rfl d_W_law_1311 ?_
  refine r_aload_n (i := 0) (x := (some 2)) 1 rfl d_W_law_1312 ?_
  refine r_iload (i := 4) (x := x4) 5 rfl d_W_law_1313 ?_
  refine r_iconst (v := (1 : Int32)) (by decide) d_W_law_1315 ?_
  refine r_iadd d_W_law_1316 ?_
  have h2 := kr_ob h
  clear h
  obtain ⟨v236, ev236, h⟩ := h2
  refine r_sload rfl ev236 d_W_law_1317 ?_
  have h2 := kr_ob h
  clear h
  obtain ⟨⟨⟩, eu237, h⟩ := h2
  have h2 := kr_ob2 h
  clear h
  obtain ⟨v239, S238, eS238, h⟩ := h2
  refine r_callV (M1 := m_M_redeem) (κ := 23) (As := [.int v236]) eu237 (s_M_redeem eS238) mok_M_redeem rfl (by decide) rfl w1934 w1935 w1936 (by decide) (kr_c8 kr_c0) d_W_law_1318 (kr_k1 ?_) kr_kn
  refine r_istore (i := 6) (lv' := [(6, .int v239), (5, .int v235), (0, va_rf (some 2)), (1, va_rf x1), (2, va_rf x2), (3, va_rf x3), (4, .int x4)]) (by show (6 : Nat) < 7; decide) rfl d_W_law_1321 ?_
  refine r_aload_n (i := 2) (x := x2) 4 rfl d_W_law_1323 ?_
  have h2 := kr_ob h
  clear h
  obtain ⟨⟨⟩, eu240, h⟩ := h2
  have h2 := kr_ob2 h
  clear h
  obtain ⟨v242, S241, eS241, h⟩ := h2
  refine r_callV (M1 := m_M_thrown) (κ := 23) (As := []) eu240 (s_M_thrown eS241) mok_M_thrown rfl (by decide) rfl w1688 w1689 w1690 (by decide) (kr_c8 kr_c0) d_W_law_1324 (kr_k1 ?_) kr_kn
  refine r_iload (i := 5) (x := v235) 1 rfl d_W_law_1327 ?_
  refine r_icmp_eq (tgt := 1334) d_W_law_1329 rfl (fun c => ?_) (fun c => ?_)
  · replace h := kr_ip c h
    refine r_iload (i := 5) (x := v235) 1 rfl d_W_law_1334 ?_
    refine r_if_ne (tgt := 1351) d_W_law_1336 rfl (fun c => ?_) (fun c => ?_)
    · replace h := kr_ip c h
      refine r_aload_n (i := 3) (x := x3) 5 rfl d_W_law_1339 ?_
      refine r_iconst (v := (0 : Int32)) (by decide) d_W_law_1340 ?_
      have h2 := kr_ob h
      clear h
      obtain ⟨v243, ev243, h⟩ := h2
      refine r_laload ev243 d_W_law_1341 ?_
      refine r_iload (i := 6) (x := v239) 0 rfl d_W_law_1342 ?_
      refine r_i2l d_W_law_1344 ?_
      refine r_lcmp d_W_law_1345 ?_
      refine r_if_eq (tgt := 1351) d_W_law_1346 rfl (fun c => ?_) (fun c => ?_)
      · replace h := kr_ip c h
        refine r_goto (tgt := 2025) d_W_law_1351 rfl ?_
        exact kr_sub [2, 3, 4, 5, 6] rfl (s_W_law_B2025 hk23 h)
      · replace h := kr_in_ c h
        refine r_iconst (v := (0 : Int32)) (by decide) d_W_law_1349 ?_
        cases h
        exact r_zret rfl rfl d_W_law_1350
    · replace h := kr_in_ c h
      refine r_goto (tgt := 2025) d_W_law_1351 rfl ?_
      exact kr_sub [2, 3, 4, 5, 6] rfl (s_W_law_B2025 hk23 h)
  · replace h := kr_in_ c h
    refine r_iconst (v := (0 : Int32)) (by decide) d_W_law_1332 ?_
    cases h
    exact r_zret rfl rfl d_W_law_1333
set_option maxRecDepth 20000 in
set_option maxHeartbeats 4000000 in
theorem s_W_law_B1354 {X : Nat → Int32} {L : Nat} {k23 : AS → Option Nat → Option Nat → Option Nat → Int32 → Option (Int32 × AS)} (hk23 : ∀ {S : AS} {x1 : Option Nat} {x2 : Option Nat} {x3 : Option Nat} {x4 : Int32} {r : (Int32 × AS)}, k23 S x1 x2 x3 x4 = some r → kr_AW (m_W_law X L) 15 23 [(0, va_rf (some 2)), (1, va_rf x1), (2, va_rf x2), (3, va_rf x3), (4, .int x4)] [] S (kr_eI r)) {S : AS} {x1 : Option Nat} {x2 : Option Nat} {x3 : Option Nat} {x4 : Int32} {r : (Int32 × AS)} (h : f_W_law_B1354 X L k23 S x1 x2 x3 x4 = some r) : kr_AW (m_W_law X L) 15 1354 [(0, va_rf (some 2)), (1, va_rf x1), (2, va_rf x2), (3, va_rf x3), (4, .int x4)] [] S (kr_eI r) := by
  unfold f_W_law_B1354 at h
  refine r_aload_n (i := 1) (x := x1) 1 rfl d_W_law_1354 ?_
  refine r_aload_n (i := 0) (x := (some 2)) 0 rfl d_W_law_1355 ?_
  refine r_iload (i := 4) (x := x4) 4 rfl d_W_law_1356 ?_
  refine r_iconst (v := (1 : Int32)) (by decide) d_W_law_1358 ?_
  refine r_iadd d_W_law_1359 ?_
  have h2 := kr_ob h
  clear h
  obtain ⟨v244, ev244, h⟩ := h2
  refine r_sload rfl ev244 d_W_law_1360 ?_
  refine r_aload_n (i := 0) (x := (some 2)) 0 rfl d_W_law_1361 ?_
  refine r_iload (i := 4) (x := x4) 4 rfl d_W_law_1362 ?_
  refine r_iconst (v := (2 : Int32)) (by decide) d_W_law_1364 ?_
  refine r_iadd d_W_law_1365 ?_
  have h2 := kr_ob h
  clear h
  obtain ⟨v245, ev245, h⟩ := h2
  refine r_sload rfl ev245 d_W_law_1366 ?_
  refine r_aload_n (i := 3) (x := x3) 3 rfl d_W_law_1367 ?_
  have h2 := kr_ob2 h
  clear h
  obtain ⟨v247, S246, eS246, h⟩ := h2
  refine r_callSX (M1 := m_W_refresh) (As := [va_rf x1, .int v244, .int v245, va_rf x3]) (s_W_refresh eS246) mok_W_refresh (by decide) w1187 w1188 (by decide) (kr_c8 kr_c0) d_W_law_1368 (kr_k1 ?_) kr_kn
  refine r_istore (i := 5) (lv' := [(5, .int v247), (0, va_rf (some 2)), (1, va_rf x1), (2, va_rf x2), (3, va_rf x3), (4, .int x4)]) (by show (5 : Nat) < 7; decide) rfl d_W_law_1371 ?_
  refine r_aload_n (i := 2) (x := x2) 3 rfl d_W_law_1373 ?_
  refine r_aload_n (i := 0) (x := (some 2)) 1 rfl d_W_law_1374 ?_
  refine r_iload (i := 4) (x := x4) 5 rfl d_W_law_1375 ?_
  refine r_iconst (v := (1 : Int32)) (by decide) d_W_law_1377 ?_
  refine r_iadd d_W_law_1378 ?_
  have h2 := kr_ob h
  clear h
  obtain ⟨v248, ev248, h⟩ := h2
  refine r_sload rfl ev248 d_W_law_1379 ?_
  refine r_aload_n (i := 0) (x := (some 2)) 1 rfl d_W_law_1380 ?_
  refine r_iload (i := 4) (x := x4) 5 rfl d_W_law_1381 ?_
  refine r_iconst (v := (2 : Int32)) (by decide) d_W_law_1383 ?_
  refine r_iadd d_W_law_1384 ?_
  have h2 := kr_ob h
  clear h
  obtain ⟨v249, ev249, h⟩ := h2
  refine r_sload rfl ev249 d_W_law_1385 ?_
  have h2 := kr_ob h
  clear h
  obtain ⟨⟨⟩, eu250, h⟩ := h2
  have h2 := kr_ob2 h
  clear h
  obtain ⟨v252, S251, eS251, h⟩ := h2
  refine r_callV (M1 := m_M_refresh) (κ := 23) (As := [.int v248, .int v249]) eu250 (s_M_refresh eS251) mok_M_refresh rfl (by decide) rfl w1946 w1947 w1948 (by decide) (kr_c8 kr_c0) d_W_law_1386 (kr_k1 ?_) kr_kn
  refine r_istore (i := 6) (lv' := [(6, .int v252), (5, .int v247), (0, va_rf (some 2)), (1, va_rf x1), (2, va_rf x2), (3, va_rf x3), (4, .int x4)]) (by show (6 : Nat) < 7; decide) rfl d_W_law_1389 ?_
  refine r_goto (tgt := 2025) d_W_law_1391 rfl ?_
  exact kr_sub [2, 3, 4, 5, 6] rfl (s_W_law_B2025 hk23 h)
set_option maxRecDepth 20000 in
set_option maxHeartbeats 4000000 in
theorem s_W_law_B1394 {X : Nat → Int32} {L : Nat} {k23 : AS → Option Nat → Option Nat → Option Nat → Int32 → Option (Int32 × AS)} (hk23 : ∀ {S : AS} {x1 : Option Nat} {x2 : Option Nat} {x3 : Option Nat} {x4 : Int32} {r : (Int32 × AS)}, k23 S x1 x2 x3 x4 = some r → kr_AW (m_W_law X L) 15 23 [(0, va_rf (some 2)), (1, va_rf x1), (2, va_rf x2), (3, va_rf x3), (4, .int x4)] [] S (kr_eI r)) {S : AS} {x1 : Option Nat} {x2 : Option Nat} {x3 : Option Nat} {x4 : Int32} {r : (Int32 × AS)} (h : f_W_law_B1394 X L k23 S x1 x2 x3 x4 = some r) : kr_AW (m_W_law X L) 15 1394 [(0, va_rf (some 2)), (1, va_rf x1), (2, va_rf x2), (3, va_rf x3), (4, .int x4)] [] S (kr_eI r) := by
  unfold f_W_law_B1394 at h
  refine r_aload_n (i := 1) (x := x1) 1 rfl d_W_law_1394 ?_
  refine r_aload_n (i := 0) (x := (some 2)) 0 rfl d_W_law_1395 ?_
  refine r_iload (i := 4) (x := x4) 4 rfl d_W_law_1396 ?_
  refine r_iconst (v := (1 : Int32)) (by decide) d_W_law_1398 ?_
  refine r_iadd d_W_law_1399 ?_
  have h2 := kr_ob h
  clear h
  obtain ⟨v253, ev253, h⟩ := h2
  refine r_sload rfl ev253 d_W_law_1400 ?_
  refine r_aload_n (i := 3) (x := x3) 3 rfl d_W_law_1401 ?_
  have h2 := kr_ob2 h
  clear h
  obtain ⟨v255, S254, eS254, h⟩ := h2
  refine r_callSX (M1 := m_W_isGood) (As := [va_rf x1, .int v253, va_rf x3]) (s_W_isGood eS254) mok_W_isGood (by decide) w1202 w1203 (by decide) (kr_c8 kr_c0) d_W_law_1402 (kr_k1 ?_) kr_kn
  refine r_istore (i := 5) (lv' := [(5, .int v255), (0, va_rf (some 2)), (1, va_rf x1), (2, va_rf x2), (3, va_rf x3), (4, .int x4)]) (by show (5 : Nat) < 7; decide) rfl d_W_law_1405 ?_
  refine r_aload_n (i := 2) (x := x2) 3 rfl d_W_law_1407 ?_
  refine r_aload_n (i := 0) (x := (some 2)) 1 rfl d_W_law_1408 ?_
  refine r_iload (i := 4) (x := x4) 5 rfl d_W_law_1409 ?_
  refine r_iconst (v := (1 : Int32)) (by decide) d_W_law_1411 ?_
  refine r_iadd d_W_law_1412 ?_
  have h2 := kr_ob h
  clear h
  obtain ⟨v256, ev256, h⟩ := h2
  refine r_sload rfl ev256 d_W_law_1413 ?_
  have h2 := kr_ob h
  clear h
  obtain ⟨⟨⟩, eu257, h⟩ := h2
  have h2 := kr_ob2 h
  clear h
  obtain ⟨v259, S258, eS258, h⟩ := h2
  refine r_callV (M1 := m_M_isGood) (κ := 23) (As := [.int v256]) eu257 (s_M_isGood eS258) mok_M_isGood rfl (by decide) rfl w1954 w1955 w1956 (by decide) (kr_c8 kr_c0) d_W_law_1414 (kr_k1 ?_) kr_kn
  refine r_istore (i := 6) (lv' := [(6, .int v259), (5, .int v255), (0, va_rf (some 2)), (1, va_rf x1), (2, va_rf x2), (3, va_rf x3), (4, .int x4)]) (by show (6 : Nat) < 7; decide) rfl d_W_law_1417 ?_
  refine r_goto (tgt := 2025) d_W_law_1419 rfl ?_
  exact kr_sub [2, 3, 4, 5, 6] rfl (s_W_law_B2025 hk23 h)
set_option maxRecDepth 20000 in
set_option maxHeartbeats 4000000 in
theorem s_W_law_B1422 {X : Nat → Int32} {L : Nat} {k23 : AS → Option Nat → Option Nat → Option Nat → Int32 → Option (Int32 × AS)} (hk23 : ∀ {S : AS} {x1 : Option Nat} {x2 : Option Nat} {x3 : Option Nat} {x4 : Int32} {r : (Int32 × AS)}, k23 S x1 x2 x3 x4 = some r → kr_AW (m_W_law X L) 15 23 [(0, va_rf (some 2)), (1, va_rf x1), (2, va_rf x2), (3, va_rf x3), (4, .int x4)] [] S (kr_eI r)) {S : AS} {x1 : Option Nat} {x2 : Option Nat} {x3 : Option Nat} {x4 : Int32} {r : (Int32 × AS)} (h : f_W_law_B1422 X L k23 S x1 x2 x3 x4 = some r) : kr_AW (m_W_law X L) 15 1422 [(0, va_rf (some 2)), (1, va_rf x1), (2, va_rf x2), (3, va_rf x3), (4, .int x4)] [] S (kr_eI r) := by
  unfold f_W_law_B1422 at h
  refine r_aload_n (i := 1) (x := x1) 1 rfl d_W_law_1422 ?_
  refine r_aload_n (i := 0) (x := (some 2)) 0 rfl d_W_law_1423 ?_
  refine r_iload (i := 4) (x := x4) 4 rfl d_W_law_1424 ?_
  refine r_iconst (v := (1 : Int32)) (by decide) d_W_law_1426 ?_
  refine r_iadd d_W_law_1427 ?_
  have h2 := kr_ob h
  clear h
  obtain ⟨v260, ev260, h⟩ := h2
  refine r_sload rfl ev260 d_W_law_1428 ?_
  refine r_aload_n (i := 3) (x := x3) 3 rfl d_W_law_1429 ?_
  have h2 := kr_ob2 h
  clear h
  obtain ⟨v262, S261, eS261, h⟩ := h2
  refine r_callSX (M1 := m_W_tokenOf) (As := [va_rf x1, .int v260, va_rf x3]) (s_W_tokenOf eS261) mok_W_tokenOf (by decide) w1209 w1210 (by decide) (kr_c8 kr_c0) d_W_law_1430 (kr_k1 ?_) kr_kn
  refine r_istore (i := 5) (lv' := [(5, .int v262), (0, va_rf (some 2)), (1, va_rf x1), (2, va_rf x2), (3, va_rf x3), (4, .int x4)]) (by show (5 : Nat) < 7; decide) rfl d_W_law_1433 ?_
  refine r_aload_n (i := 2) (x := x2) 3 rfl d_W_law_1435 ?_
  refine r_aload_n (i := 0) (x := (some 2)) 1 rfl d_W_law_1436 ?_
  refine r_iload (i := 4) (x := x4) 5 rfl d_W_law_1437 ?_
  refine r_iconst (v := (1 : Int32)) (by decide) d_W_law_1439 ?_
  refine r_iadd d_W_law_1440 ?_
  have h2 := kr_ob h
  clear h
  obtain ⟨v263, ev263, h⟩ := h2
  refine r_sload rfl ev263 d_W_law_1441 ?_
  have h2 := kr_ob h
  clear h
  obtain ⟨⟨⟩, eu264, h⟩ := h2
  have h2 := kr_ob2 h
  clear h
  obtain ⟨v266, S265, eS265, h⟩ := h2
  refine r_callV (M1 := m_M_tokenOf) (κ := 23) (As := [.int v263]) eu264 (s_M_tokenOf eS265) mok_M_tokenOf rfl (by decide) rfl w1958 w1959 w1960 (by decide) (kr_c8 kr_c0) d_W_law_1442 (kr_k1 ?_) kr_kn
  refine r_istore (i := 6) (lv' := [(6, .int v266), (5, .int v262), (0, va_rf (some 2)), (1, va_rf x1), (2, va_rf x2), (3, va_rf x3), (4, .int x4)]) (by show (6 : Nat) < 7; decide) rfl d_W_law_1445 ?_
  refine r_goto (tgt := 2025) d_W_law_1447 rfl ?_
  exact kr_sub [2, 3, 4, 5, 6] rfl (s_W_law_B2025 hk23 h)
set_option maxRecDepth 20000 in
set_option maxHeartbeats 4000000 in
theorem s_W_law_B1450 {X : Nat → Int32} {L : Nat} {k23 : AS → Option Nat → Option Nat → Option Nat → Int32 → Option (Int32 × AS)} (hk23 : ∀ {S : AS} {x1 : Option Nat} {x2 : Option Nat} {x3 : Option Nat} {x4 : Int32} {r : (Int32 × AS)}, k23 S x1 x2 x3 x4 = some r → kr_AW (m_W_law X L) 15 23 [(0, va_rf (some 2)), (1, va_rf x1), (2, va_rf x2), (3, va_rf x3), (4, .int x4)] [] S (kr_eI r)) {S : AS} {x1 : Option Nat} {x2 : Option Nat} {x3 : Option Nat} {x4 : Int32} {r : (Int32 × AS)} (h : f_W_law_B1450 X L k23 S x1 x2 x3 x4 = some r) : kr_AW (m_W_law X L) 15 1450 [(0, va_rf (some 2)), (1, va_rf x1), (2, va_rf x2), (3, va_rf x3), (4, .int x4)] [] S (kr_eI r) := by
  unfold f_W_law_B1450 at h
  refine r_aload_n (i := 1) (x := x1) 1 rfl d_W_law_1450 ?_
  refine r_aload_n (i := 0) (x := (some 2)) 0 rfl d_W_law_1451 ?_
  refine r_iload (i := 4) (x := x4) 4 rfl d_W_law_1452 ?_
  refine r_iconst (v := (1 : Int32)) (by decide) d_W_law_1454 ?_
  refine r_iadd d_W_law_1455 ?_
  have h2 := kr_ob h
  clear h
  obtain ⟨v267, ev267, h⟩ := h2
  refine r_sload rfl ev267 d_W_law_1456 ?_
  refine r_aload_n (i := 0) (x := (some 2)) 0 rfl d_W_law_1457 ?_
  refine r_iload (i := 4) (x := x4) 4 rfl d_W_law_1458 ?_
  refine r_iconst (v := (2 : Int32)) (by decide) d_W_law_1460 ?_
  refine r_iadd d_W_law_1461 ?_
  have h2 := kr_ob h
  clear h
  obtain ⟨v268, ev268, h⟩ := h2
  refine r_sload rfl ev268 d_W_law_1462 ?_
  refine r_aload_n (i := 0) (x := (some 2)) 0 rfl d_W_law_1463 ?_
  refine r_iload (i := 4) (x := x4) 4 rfl d_W_law_1464 ?_
  refine r_iconst (v := (3 : Int32)) (by decide) d_W_law_1466 ?_
  refine r_iadd d_W_law_1467 ?_
  have h2 := kr_ob h
  clear h
  obtain ⟨v269, ev269, h⟩ := h2
  refine r_sload rfl ev269 d_W_law_1468 ?_
  refine r_aload_n (i := 3) (x := x3) 3 rfl d_W_law_1469 ?_
  have h2 := kr_ob2 h
  clear h
  obtain ⟨v271, S270, eS270, h⟩ := h2
  refine r_callSX (M1 := m_W_exchange) (As := [va_rf x1, .int v267, .int v268, .int v269, va_rf x3]) (s_W_exchange eS270) mok_W_exchange (by decide) w1216 w1217 (by decide) (kr_c8 kr_c0) d_W_law_1470 (kr_k1 ?_) kr_kn
  refine r_istore (i := 5) (lv' := [(5, .int v271), (0, va_rf (some 2)), (1, va_rf x1), (2, va_rf x2), (3, va_rf x3), (4, .int x4)]) (by show (5 : Nat) < 7; decide) rfl d_W_law_1473 ?_
  refine r_aload_n (i := 2) (x := x2) 3 rfl d_W_law_1475 ?_
  refine r_aload_n (i := 0) (x := (some 2)) 1 rfl d_W_law_1476 ?_
  refine r_iload (i := 4) (x := x4) 5 rfl d_W_law_1477 ?_
  refine r_iconst (v := (1 : Int32)) (by decide) d_W_law_1479 ?_
  refine r_iadd d_W_law_1480 ?_
  have h2 := kr_ob h
  clear h
  obtain ⟨v272, ev272, h⟩ := h2
  refine r_sload rfl ev272 d_W_law_1481 ?_
  refine r_aload_n (i := 0) (x := (some 2)) 1 rfl d_W_law_1482 ?_
  refine r_iload (i := 4) (x := x4) 5 rfl d_W_law_1483 ?_
  refine r_iconst (v := (2 : Int32)) (by decide) d_W_law_1485 ?_
  refine r_iadd d_W_law_1486 ?_
  have h2 := kr_ob h
  clear h
  obtain ⟨v273, ev273, h⟩ := h2
  refine r_sload rfl ev273 d_W_law_1487 ?_
  refine r_aload_n (i := 0) (x := (some 2)) 1 rfl d_W_law_1488 ?_
  refine r_iload (i := 4) (x := x4) 5 rfl d_W_law_1489 ?_
  refine r_iconst (v := (3 : Int32)) (by decide) d_W_law_1491 ?_
  refine r_iadd d_W_law_1492 ?_
  have h2 := kr_ob h
  clear h
  obtain ⟨v274, ev274, h⟩ := h2
  refine r_sload rfl ev274 d_W_law_1493 ?_
  have h2 := kr_ob h
  clear h
  obtain ⟨⟨⟩, eu275, h⟩ := h2
  have h2 := kr_ob2 h
  clear h
  obtain ⟨v277, S276, eS276, h⟩ := h2
  refine r_callV (M1 := m_M_exchange) (κ := 23) (As := [.int v272, .int v273, .int v274]) eu275 (s_M_exchange eS276) mok_M_exchange rfl (by decide) rfl w1962 w1963 w1964 (by decide) (kr_c8 kr_c0) d_W_law_1494 (kr_k1 ?_) kr_kn
  refine r_istore (i := 6) (lv' := [(6, .int v277), (5, .int v271), (0, va_rf (some 2)), (1, va_rf x1), (2, va_rf x2), (3, va_rf x3), (4, .int x4)]) (by show (6 : Nat) < 7; decide) rfl d_W_law_1497 ?_
  refine r_goto (tgt := 2025) d_W_law_1499 rfl ?_
  exact kr_sub [2, 3, 4, 5, 6] rfl (s_W_law_B2025 hk23 h)
set_option maxRecDepth 20000 in
set_option maxHeartbeats 4000000 in
theorem s_W_law_B1502 {X : Nat → Int32} {L : Nat} {k23 : AS → Option Nat → Option Nat → Option Nat → Int32 → Option (Int32 × AS)} (hk23 : ∀ {S : AS} {x1 : Option Nat} {x2 : Option Nat} {x3 : Option Nat} {x4 : Int32} {r : (Int32 × AS)}, k23 S x1 x2 x3 x4 = some r → kr_AW (m_W_law X L) 15 23 [(0, va_rf (some 2)), (1, va_rf x1), (2, va_rf x2), (3, va_rf x3), (4, .int x4)] [] S (kr_eI r)) {S : AS} {x1 : Option Nat} {x2 : Option Nat} {x3 : Option Nat} {x4 : Int32} {r : (Int32 × AS)} (h : f_W_law_B1502 X L k23 S x1 x2 x3 x4 = some r) : kr_AW (m_W_law X L) 15 1502 [(0, va_rf (some 2)), (1, va_rf x1), (2, va_rf x2), (3, va_rf x3), (4, .int x4)] [] S (kr_eI r) := by
  unfold f_W_law_B1502 at h
  refine r_aload_n (i := 1) (x := x1) 1 rfl d_W_law_1502 ?_
  refine r_aload_n (i := 0) (x := (some 2)) 0 rfl d_W_law_1503 ?_
  refine r_iload (i := 4) (x := x4) 4 rfl d_W_law_1504 ?_
  refine r_iconst (v := (1 : Int32)) (by decide) d_W_law_1506 ?_
  refine r_iadd d_W_law_1507 ?_
  have h2 := kr_ob h
  clear h
  obtain ⟨v278, ev278, h⟩ := h2
  refine r_sload rfl ev278 d_W_law_1508 ?_
  refine r_aload_n (i := 3) (x := x3) 3 rfl d_W_law_1509 ?_
  have h2 := kr_ob2 h
  clear h
  obtain ⟨v280, S279, eS279, h⟩ := h2
  refine r_callSX (M1 := m_W_token) (As := [va_rf x1, .int v278, va_rf x3]) (s_W_token eS279) mok_W_token (by decide) w1227 w1228 (by decide) (kr_c8 kr_c0) d_W_law_1510 (kr_k1 ?_) kr_kn
  refine r_istore (i := 5) (lv' := [(5, .int v280), (0, va_rf (some 2)), (1, va_rf x1), (2, va_rf x2), (3, va_rf x3), (4, .int x4)]) (by show (5 : Nat) < 7; decide) rfl d_W_law_1513 ?_
  refine r_aload_n (i := 2) (x := x2) 3 rfl d_W_law_1515 ?_
  refine r_aload_n (i := 0) (x := (some 2)) 1 rfl d_W_law_1516 ?_
  refine r_iload (i := 4) (x := x4) 5 rfl d_W_law_1517 ?_
  refine r_iconst (v := (1 : Int32)) (by decide) d_W_law_1519 ?_
  refine r_iadd d_W_law_1520 ?_
  have h2 := kr_ob h
  clear h
  obtain ⟨v281, ev281, h⟩ := h2
  refine r_sload rfl ev281 d_W_law_1521 ?_
  have h2 := kr_ob h
  clear h
  obtain ⟨⟨⟩, eu282, h⟩ := h2
  have h2 := kr_ob2 h
  clear h
  obtain ⟨v284, S283, eS283, h⟩ := h2
  refine r_callV (M1 := m_M_token) (κ := 23) (As := [.int v281]) eu282 (s_M_token eS283) mok_M_token rfl (by decide) rfl w1970 w1971 w1972 (by decide) (kr_c8 kr_c0) d_W_law_1522 (kr_k1 ?_) kr_kn
  refine r_istore (i := 6) (lv' := [(6, .int v284), (5, .int v280), (0, va_rf (some 2)), (1, va_rf x1), (2, va_rf x2), (3, va_rf x3), (4, .int x4)]) (by show (6 : Nat) < 7; decide) rfl d_W_law_1525 ?_
  refine r_goto (tgt := 2025) d_W_law_1527 rfl ?_
  exact kr_sub [2, 3, 4, 5, 6] rfl (s_W_law_B2025 hk23 h)
set_option maxRecDepth 20000 in
set_option maxHeartbeats 4000000 in
theorem s_W_law_B1530 {X : Nat → Int32} {L : Nat} {k23 : AS → Option Nat → Option Nat → Option Nat → Int32 → Option (Int32 × AS)} (hk23 : ∀ {S : AS} {x1 : Option Nat} {x2 : Option Nat} {x3 : Option Nat} {x4 : Int32} {r : (Int32 × AS)}, k23 S x1 x2 x3 x4 = some r → kr_AW (m_W_law X L) 15 23 [(0, va_rf (some 2)), (1, va_rf x1), (2, va_rf x2), (3, va_rf x3), (4, .int x4)] [] S (kr_eI r)) {S : AS} {x1 : Option Nat} {x2 : Option Nat} {x3 : Option Nat} {x4 : Int32} {r : (Int32 × AS)} (h : f_W_law_B1530 X L k23 S x1 x2 x3 x4 = some r) : kr_AW (m_W_law X L) 15 1530 [(0, va_rf (some 2)), (1, va_rf x1), (2, va_rf x2), (3, va_rf x3), (4, .int x4)] [] S (kr_eI r) := by
  unfold f_W_law_B1530 at h
  refine r_aload_n (i := 1) (x := x1) 1 rfl d_W_law_1530 ?_
  refine r_aload_n (i := 3) (x := x3) 3 rfl d_W_law_1531 ?_
  have h2 := kr_ob2 h
  clear h
  obtain ⟨v286, S285, eS285, h⟩ := h2
  refine r_callSX (M1 := m_W_turn) (As := [va_rf x1, va_rf x3]) (s_W_turn eS285) mok_W_turn (by decide) w1234 w1235 (by decide) (kr_c8 kr_c0) d_W_law_1532 (kr_k1 ?_) kr_kn
  refine r_istore (i := 5) (lv' := [(5, .int v286), (0, va_rf (some 2)), (1, va_rf x1), (2, va_rf x2), (3, va_rf x3), (4, .int x4)]) (by show (5 : Nat) < 7; decide) rfl d_W_law_1535 ?_
  refine r_aload_n (i := 2) (x := x2) 3 rfl d_W_law_1537 ?_
  have h2 := kr_ob h
  clear h
  obtain ⟨⟨⟩, eu287, h⟩ := h2
  have h2 := kr_ob2 h
  clear h
  obtain ⟨v289, S288, eS288, h⟩ := h2
  refine r_callV (M1 := m_M_turn) (κ := 23) (As := []) eu287 (s_M_turn eS288) mok_M_turn rfl (by decide) rfl w1974 w1975 w1976 (by decide) (kr_c8 kr_c0) d_W_law_1538 (kr_k1 ?_) kr_kn
  refine r_istore (i := 6) (lv' := [(6, .int v289), (5, .int v286), (0, va_rf (some 2)), (1, va_rf x1), (2, va_rf x2), (3, va_rf x3), (4, .int x4)]) (by show (6 : Nat) < 7; decide) rfl d_W_law_1541 ?_
  refine r_goto (tgt := 2025) d_W_law_1543 rfl ?_
  exact kr_sub [2, 3, 4, 5, 6] rfl (s_W_law_B2025 hk23 h)
set_option maxRecDepth 20000 in
set_option maxHeartbeats 4000000 in
theorem s_W_law_B1546 {X : Nat → Int32} {L : Nat} {k23 : AS → Option Nat → Option Nat → Option Nat → Int32 → Option (Int32 × AS)} (hk23 : ∀ {S : AS} {x1 : Option Nat} {x2 : Option Nat} {x3 : Option Nat} {x4 : Int32} {r : (Int32 × AS)}, k23 S x1 x2 x3 x4 = some r → kr_AW (m_W_law X L) 15 23 [(0, va_rf (some 2)), (1, va_rf x1), (2, va_rf x2), (3, va_rf x3), (4, .int x4)] [] S (kr_eI r)) {S : AS} {x1 : Option Nat} {x2 : Option Nat} {x3 : Option Nat} {x4 : Int32} {r : (Int32 × AS)} (h : f_W_law_B1546 X L k23 S x1 x2 x3 x4 = some r) : kr_AW (m_W_law X L) 15 1546 [(0, va_rf (some 2)), (1, va_rf x1), (2, va_rf x2), (3, va_rf x3), (4, .int x4)] [] S (kr_eI r) := by
  unfold f_W_law_B1546 at h
  refine r_aload_n (i := 1) (x := x1) 1 rfl d_W_law_1546 ?_
  refine r_aload_n (i := 3) (x := x3) 3 rfl d_W_law_1547 ?_
  have h2 := kr_ob2 h
  clear h
  obtain ⟨v291, S290, eS290, h⟩ := h2
  refine r_callSX (M1 := m_W_emergency) (As := [va_rf x1, va_rf x3]) (s_W_emergency eS290) mok_W_emergency (by decide) w1249 w1250 (by decide) (kr_c8 kr_c0) d_W_law_1548 (kr_k1 ?_) kr_kn
  refine r_istore (i := 5) (lv' := [(5, .int v291), (0, va_rf (some 2)), (1, va_rf x1), (2, va_rf x2), (3, va_rf x3), (4, .int x4)]) (by show (5 : Nat) < 7; decide) rfl d_W_law_1551 ?_
  refine r_aload_n (i := 2) (x := x2) 3 rfl d_W_law_1553 ?_
  have h2 := kr_ob h
  clear h
  obtain ⟨⟨⟩, eu292, h⟩ := h2
  have h2 := kr_ob2 h
  clear h
  obtain ⟨v294, S293, eS293, h⟩ := h2
  refine r_callV (M1 := m_M_emergency) (κ := 23) (As := []) eu292 (s_M_emergency eS293) mok_M_emergency rfl (by decide) rfl w1978 w1979 w1980 (by decide) (kr_c8 kr_c0) d_W_law_1554 (kr_k1 ?_) kr_kn
  refine r_istore (i := 6) (lv' := [(6, .int v294), (5, .int v291), (0, va_rf (some 2)), (1, va_rf x1), (2, va_rf x2), (3, va_rf x3), (4, .int x4)]) (by show (6 : Nat) < 7; decide) rfl d_W_law_1557 ?_
  refine r_goto (tgt := 2025) d_W_law_1559 rfl ?_
  exact kr_sub [2, 3, 4, 5, 6] rfl (s_W_law_B2025 hk23 h)
set_option maxRecDepth 20000 in
set_option maxHeartbeats 4000000 in
theorem s_W_law_B1562 {X : Nat → Int32} {L : Nat} {k23 : AS → Option Nat → Option Nat → Option Nat → Int32 → Option (Int32 × AS)} (hk23 : ∀ {S : AS} {x1 : Option Nat} {x2 : Option Nat} {x3 : Option Nat} {x4 : Int32} {r : (Int32 × AS)}, k23 S x1 x2 x3 x4 = some r → kr_AW (m_W_law X L) 15 23 [(0, va_rf (some 2)), (1, va_rf x1), (2, va_rf x2), (3, va_rf x3), (4, .int x4)] [] S (kr_eI r)) {S : AS} {x1 : Option Nat} {x2 : Option Nat} {x3 : Option Nat} {x4 : Int32} {r : (Int32 × AS)} (h : f_W_law_B1562 X L k23 S x1 x2 x3 x4 = some r) : kr_AW (m_W_law X L) 15 1562 [(0, va_rf (some 2)), (1, va_rf x1), (2, va_rf x2), (3, va_rf x3), (4, .int x4)] [] S (kr_eI r) := by
  unfold f_W_law_B1562 at h
  refine r_aload_n (i := 1) (x := x1) 1 rfl d_W_law_1562 ?_
  have h2 := kr_ob h
  clear h
  obtain ⟨⟨⟩, eu295, h⟩ := h2
  have h2 := kr_ob2 h
  clear h
  obtain ⟨v297, S296, eS296, h⟩ := h2
  refine r_callV (M1 := m_K_signing) (κ := 22) (As := []) eu295 (s_K_signing eS296) mok_K_signing rfl (by decide) rfl w352 w353 w354 (by decide) (kr_c8 kr_c0) d_W_law_1563 (kr_k1 ?_) kr_kn
  refine r_pop rfl d_W_law_1566 ?_
  refine r_aload_n (i := 2) (x := x2) 2 rfl d_W_law_1567 ?_
  have h2 := kr_ob h
  clear h
  obtain ⟨⟨⟩, eu298, h⟩ := h2
  have h2 := kr_ob2 h
  clear h
  obtain ⟨v300, S299, eS299, h⟩ := h2
  refine r_callV (M1 := m_M_signing) (κ := 23) (As := []) eu298 (s_M_signing eS299) mok_M_signing rfl (by decide) rfl w1982 w1983 w1984 (by decide) (kr_c8 kr_c0) d_W_law_1568 (kr_k1 ?_) kr_kn
  refine r_pop rfl d_W_law_1571 ?_
  refine r_goto (tgt := 2025) d_W_law_1572 rfl ?_
  exact kr_sub [0, 1, 2, 3, 4] rfl (s_W_law_B2025 hk23 h)
set_option maxRecDepth 20000 in
set_option maxHeartbeats 4000000 in
theorem s_W_law_B1575 {X : Nat → Int32} {L : Nat} {k23 : AS → Option Nat → Option Nat → Option Nat → Int32 → Option (Int32 × AS)} (hk23 : ∀ {S : AS} {x1 : Option Nat} {x2 : Option Nat} {x3 : Option Nat} {x4 : Int32} {r : (Int32 × AS)}, k23 S x1 x2 x3 x4 = some r → kr_AW (m_W_law X L) 15 23 [(0, va_rf (some 2)), (1, va_rf x1), (2, va_rf x2), (3, va_rf x3), (4, .int x4)] [] S (kr_eI r)) {S : AS} {x1 : Option Nat} {x2 : Option Nat} {x3 : Option Nat} {x4 : Int32} {r : (Int32 × AS)} (h : f_W_law_B1575 X L k23 S x1 x2 x3 x4 = some r) : kr_AW (m_W_law X L) 15 1575 [(0, va_rf (some 2)), (1, va_rf x1), (2, va_rf x2), (3, va_rf x3), (4, .int x4)] [] S (kr_eI r) := by
  unfold f_W_law_B1575 at h
  refine r_aload_n (i := 1) (x := x1) 1 rfl d_W_law_1575 ?_
  refine r_aload_n (i := 0) (x := (some 2)) 0 rfl d_W_law_1576 ?_
  refine r_iload (i := 4) (x := x4) 4 rfl d_W_law_1577 ?_
  refine r_iconst (v := (1 : Int32)) (by decide) d_W_law_1579 ?_
  refine r_iadd d_W_law_1580 ?_
  have h2 := kr_ob h
  clear h
  obtain ⟨v301, ev301, h⟩ := h2
  refine r_sload rfl ev301 d_W_law_1581 ?_
  refine r_aload_n (i := 3) (x := x3) 3 rfl d_W_law_1582 ?_
  have h2 := kr_ob2 h
  clear h
  obtain ⟨v303, S302, eS302, h⟩ := h2
  refine r_callSX (M1 := m_W_isPublished) (As := [va_rf x1, .int v301, va_rf x3]) (s_W_isPublished eS302) mok_W_isPublished (by decide) w1260 w1261 (by decide) (kr_c8 kr_c0) d_W_law_1583 (kr_k1 ?_) kr_kn
  refine r_istore (i := 5) (lv' := [(5, .int v303), (0, va_rf (some 2)), (1, va_rf x1), (2, va_rf x2), (3, va_rf x3), (4, .int x4)]) (by show (5 : Nat) < 7; decide) rfl d_W_law_1586 ?_
  refine r_aload_n (i := 2) (x := x2) 3 rfl d_W_law_1588 ?_
  refine r_aload_n (i := 0) (x := (some 2)) 1 rfl d_W_law_1589 ?_
  refine r_iload (i := 4) (x := x4) 5 rfl d_W_law_1590 ?_
  refine r_iconst (v := (1 : Int32)) (by decide) d_W_law_1592 ?_
  refine r_iadd d_W_law_1593 ?_
  have h2 := kr_ob h
  clear h
  obtain ⟨v304, ev304, h⟩ := h2
  refine r_sload rfl ev304 d_W_law_1594 ?_
  have h2 := kr_ob h
  clear h
  obtain ⟨⟨⟩, eu305, h⟩ := h2
  have h2 := kr_ob2 h
  clear h
  obtain ⟨v307, S306, eS306, h⟩ := h2
  refine r_callV (M1 := m_M_isPublished) (κ := 23) (As := [.int v304]) eu305 (s_M_isPublished eS306) mok_M_isPublished rfl (by decide) rfl w1986 w1987 w1988 (by decide) (kr_c8 kr_c0) d_W_law_1595 (kr_k1 ?_) kr_kn
  refine r_istore (i := 6) (lv' := [(6, .int v307), (5, .int v303), (0, va_rf (some 2)), (1, va_rf x1), (2, va_rf x2), (3, va_rf x3), (4, .int x4)]) (by show (6 : Nat) < 7; decide) rfl d_W_law_1598 ?_
  refine r_goto (tgt := 2025) d_W_law_1600 rfl ?_
  exact kr_sub [2, 3, 4, 5, 6] rfl (s_W_law_B2025 hk23 h)
set_option maxRecDepth 20000 in
set_option maxHeartbeats 4000000 in
theorem s_W_law_B1603 {X : Nat → Int32} {L : Nat} {k23 : AS → Option Nat → Option Nat → Option Nat → Int32 → Option (Int32 × AS)} (hk23 : ∀ {S : AS} {x1 : Option Nat} {x2 : Option Nat} {x3 : Option Nat} {x4 : Int32} {r : (Int32 × AS)}, k23 S x1 x2 x3 x4 = some r → kr_AW (m_W_law X L) 15 23 [(0, va_rf (some 2)), (1, va_rf x1), (2, va_rf x2), (3, va_rf x3), (4, .int x4)] [] S (kr_eI r)) {S : AS} {x1 : Option Nat} {x2 : Option Nat} {x3 : Option Nat} {x4 : Int32} {r : (Int32 × AS)} (h : f_W_law_B1603 X L k23 S x1 x2 x3 x4 = some r) : kr_AW (m_W_law X L) 15 1603 [(0, va_rf (some 2)), (1, va_rf x1), (2, va_rf x2), (3, va_rf x3), (4, .int x4)] [] S (kr_eI r) := by
  unfold f_W_law_B1603 at h
  refine r_aload_n (i := 1) (x := x1) 1 rfl d_W_law_1603 ?_
  refine r_aload_n (i := 0) (x := (some 2)) 0 rfl d_W_law_1604 ?_
  refine r_iload (i := 4) (x := x4) 4 rfl d_W_law_1605 ?_
  refine r_iconst (v := (1 : Int32)) (by decide) d_W_law_1607 ?_
  refine r_iadd d_W_law_1608 ?_
  have h2 := kr_ob h
  clear h
  obtain ⟨v308, ev308, h⟩ := h2
  refine r_sload rfl ev308 d_W_law_1609 ?_
  refine r_aload_n (i := 3) (x := x3) 3 rfl d_W_law_1610 ?_
  have h2 := kr_ob2 h
  clear h
  obtain ⟨v310, S309, eS309, h⟩ := h2
  refine r_callSX (M1 := m_W_line) (As := [va_rf x1, .int v308, va_rf x3]) (s_W_line eS309) mok_W_line (by decide) w1267 w1268 (by decide) (kr_c8 kr_c0) d_W_law_1611 (kr_k1 ?_) kr_kn
  refine r_istore (i := 5) (lv' := [(5, .int v310), (0, va_rf (some 2)), (1, va_rf x1), (2, va_rf x2), (3, va_rf x3), (4, .int x4)]) (by show (5 : Nat) < 7; decide) rfl d_W_law_1614 ?_
  refine r_aload_n (i := 2) (x := x2) 3 rfl d_W_law_1616 ?_
  refine r_aload_n (i := 0) (x := (some 2)) 1 rfl d_W_law_1617 ?_
  refine r_iload (i := 4) (x := x4) 5 rfl d_W_law_1618 ?_
  refine r_iconst (v := (1 : Int32)) (by decide) d_W_law_1620 ?_
  refine r_iadd d_W_law_1621 ?_
  have h2 := kr_ob h
  clear h
  obtain ⟨v311, ev311, h⟩ := h2
  refine r_sload rfl ev311 d_W_law_1622 ?_
  have h2 := kr_ob h
  clear h
  obtain ⟨⟨⟩, eu312, h⟩ := h2
  have h2 := kr_ob2 h
  clear h
  obtain ⟨v314, S313, eS313, h⟩ := h2
  refine r_callV (M1 := m_M_line) (κ := 23) (As := [.int v311]) eu312 (s_M_line eS313) mok_M_line rfl (by decide) rfl w1994 w1995 w1996 (by decide) (kr_c8 kr_c0) d_W_law_1623 (kr_k1 ?_) kr_kn
  refine r_istore (i := 6) (lv' := [(6, .int v314), (5, .int v310), (0, va_rf (some 2)), (1, va_rf x1), (2, va_rf x2), (3, va_rf x3), (4, .int x4)]) (by show (6 : Nat) < 7; decide) rfl d_W_law_1626 ?_
  refine r_goto (tgt := 2025) d_W_law_1628 rfl ?_
  exact kr_sub [2, 3, 4, 5, 6] rfl (s_W_law_B2025 hk23 h)
set_option maxRecDepth 20000 in
set_option maxHeartbeats 4000000 in
theorem s_W_law_B1631 {X : Nat → Int32} {L : Nat} {k23 : AS → Option Nat → Option Nat → Option Nat → Int32 → Option (Int32 × AS)} (hk23 : ∀ {S : AS} {x1 : Option Nat} {x2 : Option Nat} {x3 : Option Nat} {x4 : Int32} {r : (Int32 × AS)}, k23 S x1 x2 x3 x4 = some r → kr_AW (m_W_law X L) 15 23 [(0, va_rf (some 2)), (1, va_rf x1), (2, va_rf x2), (3, va_rf x3), (4, .int x4)] [] S (kr_eI r)) {S : AS} {x1 : Option Nat} {x2 : Option Nat} {x3 : Option Nat} {x4 : Int32} {r : (Int32 × AS)} (h : f_W_law_B1631 X L k23 S x1 x2 x3 x4 = some r) : kr_AW (m_W_law X L) 15 1631 [(0, va_rf (some 2)), (1, va_rf x1), (2, va_rf x2), (3, va_rf x3), (4, .int x4)] [] S (kr_eI r) := by
  unfold f_W_law_B1631 at h
  refine r_aload_n (i := 1) (x := x1) 1 rfl d_W_law_1631 ?_
  refine r_aload_n (i := 0) (x := (some 2)) 0 rfl d_W_law_1632 ?_
  refine r_iload (i := 4) (x := x4) 4 rfl d_W_law_1633 ?_
  refine r_iconst (v := (1 : Int32)) (by decide) d_W_law_1635 ?_
  refine r_iadd d_W_law_1636 ?_
  have h2 := kr_ob h
  clear h
  obtain ⟨v315, ev315, h⟩ := h2
  refine r_sload rfl ev315 d_W_law_1637 ?_
  refine r_aload_n (i := 0) (x := (some 2)) 0 rfl d_W_law_1638 ?_
  refine r_iload (i := 4) (x := x4) 4 rfl d_W_law_1639 ?_
  refine r_iconst (v := (2 : Int32)) (by decide) d_W_law_1641 ?_
  refine r_iadd d_W_law_1642 ?_
  have h2 := kr_ob h
  clear h
  obtain ⟨v316, ev316, h⟩ := h2
  refine r_sload rfl ev316 d_W_law_1643 ?_
  refine r_aload_n (i := 0) (x := (some 2)) 0 rfl d_W_law_1644 ?_
  refine r_iload (i := 4) (x := x4) 4 rfl d_W_law_1645 ?_
  refine r_iconst (v := (3 : Int32)) (by decide) d_W_law_1647 ?_
  refine r_iadd d_W_law_1648 ?_
  have h2 := kr_ob h
  clear h
  obtain ⟨v317, ev317, h⟩ := h2
  refine r_sload rfl ev317 d_W_law_1649 ?_
  refine r_aload_n (i := 3) (x := x3) 3 rfl d_W_law_1650 ?_
  have h2 := kr_ob2 h
  clear h
  obtain ⟨v319, S318, eS318, h⟩ := h2
  refine r_callSX (M1 := m_W_check) (As := [va_rf x1, .int v315, .int v316, .int v317, va_rf x3]) (s_W_check eS318) mok_W_check (by decide) w1278 w1279 (by decide) (kr_c8 kr_c0) d_W_law_1651 (kr_k1 ?_) kr_kn
  refine r_istore (i := 5) (lv' := [(5, .int v319), (0, va_rf (some 2)), (1, va_rf x1), (2, va_rf x2), (3, va_rf x3), (4, .int x4)]) (by show (5 : Nat) < 7; decide) rfl d_W_law_1654 ?_
  refine r_aload_n (i := 2) (x := x2) 3 rfl d_W_law_1656 ?_
  refine r_aload_n (i := 0) (x := (some 2)) 1 rfl d_W_law_1657 ?_
  refine r_iload (i := 4) (x := x4) 5 rfl d_W_law_1658 ?_
  refine r_iconst (v := (1 : Int32)) (by decide) d_W_law_1660 ?_
  refine r_iadd d_W_law_1661 ?_
  have h2 := kr_ob h
  clear h
  obtain ⟨v320, ev320, h⟩ := h2
  refine r_sload rfl ev320 d_W_law_1662 ?_
  refine r_aload_n (i := 0) (x := (some 2)) 1 rfl d_W_law_1663 ?_
  refine r_iload (i := 4) (x := x4) 5 rfl d_W_law_1664 ?_
  refine r_iconst (v := (2 : Int32)) (by decide) d_W_law_1666 ?_
  refine r_iadd d_W_law_1667 ?_
  have h2 := kr_ob h
  clear h
  obtain ⟨v321, ev321, h⟩ := h2
  refine r_sload rfl ev321 d_W_law_1668 ?_
  refine r_aload_n (i := 0) (x := (some 2)) 1 rfl d_W_law_1669 ?_
  refine r_iload (i := 4) (x := x4) 5 rfl d_W_law_1670 ?_
  refine r_iconst (v := (3 : Int32)) (by decide) d_W_law_1672 ?_
  refine r_iadd d_W_law_1673 ?_
  have h2 := kr_ob h
  clear h
  obtain ⟨v322, ev322, h⟩ := h2
  refine r_sload rfl ev322 d_W_law_1674 ?_
  have h2 := kr_ob h
  clear h
  obtain ⟨⟨⟩, eu323, h⟩ := h2
  have h2 := kr_ob2 h
  clear h
  obtain ⟨v325, S324, eS324, h⟩ := h2
  refine r_callV (M1 := m_M_check) (κ := 23) (As := [.int v320, .int v321, .int v322]) eu323 (s_M_check eS324) mok_M_check rfl (by decide) rfl w1998 w1999 w2000 (by decide) (kr_c8 kr_c0) d_W_law_1675 (kr_k1 ?_) kr_kn
  refine r_istore (i := 6) (lv' := [(6, .int v325), (5, .int v319), (0, va_rf (some 2)), (1, va_rf x1), (2, va_rf x2), (3, va_rf x3), (4, .int x4)]) (by show (6 : Nat) < 7; decide) rfl d_W_law_1678 ?_
  refine r_goto (tgt := 2025) d_W_law_1680 rfl ?_
  exact kr_sub [2, 3, 4, 5, 6] rfl (s_W_law_B2025 hk23 h)
set_option maxRecDepth 20000 in
set_option maxHeartbeats 4000000 in
theorem s_W_law_B1683 {X : Nat → Int32} {L : Nat} {k23 : AS → Option Nat → Option Nat → Option Nat → Int32 → Option (Int32 × AS)} (hk23 : ∀ {S : AS} {x1 : Option Nat} {x2 : Option Nat} {x3 : Option Nat} {x4 : Int32} {r : (Int32 × AS)}, k23 S x1 x2 x3 x4 = some r → kr_AW (m_W_law X L) 15 23 [(0, va_rf (some 2)), (1, va_rf x1), (2, va_rf x2), (3, va_rf x3), (4, .int x4)] [] S (kr_eI r)) {S : AS} {x1 : Option Nat} {x2 : Option Nat} {x3 : Option Nat} {x4 : Int32} {r : (Int32 × AS)} (h : f_W_law_B1683 X L k23 S x1 x2 x3 x4 = some r) : kr_AW (m_W_law X L) 15 1683 [(0, va_rf (some 2)), (1, va_rf x1), (2, va_rf x2), (3, va_rf x3), (4, .int x4)] [] S (kr_eI r) := by
  unfold f_W_law_B1683 at h
  refine r_aload_n (i := 1) (x := x1) 1 rfl d_W_law_1683 ?_
  refine r_aload_n (i := 0) (x := (some 2)) 0 rfl d_W_law_1684 ?_
  refine r_iload (i := 4) (x := x4) 4 rfl d_W_law_1685 ?_
  refine r_iconst (v := (1 : Int32)) (by decide) d_W_law_1687 ?_
  refine r_iadd d_W_law_1688 ?_
  have h2 := kr_ob h
  clear h
  obtain ⟨v326, ev326, h⟩ := h2
  refine r_sload rfl ev326 d_W_law_1689 ?_
  refine r_aload_n (i := 3) (x := x3) 3 rfl d_W_law_1690 ?_
  have h2 := kr_ob2 h
  clear h
  obtain ⟨v328, S327, eS327, h⟩ := h2
  refine r_callSX (M1 := m_W_lag) (As := [va_rf x1, .int v326, va_rf x3]) (s_W_lag eS327) mok_W_lag (by decide) w1289 w1290 (by decide) (kr_c8 kr_c0) d_W_law_1691 (kr_k1 ?_) kr_kn
  refine r_istore (i := 5) (lv' := [(5, .int v328), (0, va_rf (some 2)), (1, va_rf x1), (2, va_rf x2), (3, va_rf x3), (4, .int x4)]) (by show (5 : Nat) < 7; decide) rfl d_W_law_1694 ?_
  refine r_aload_n (i := 2) (x := x2) 3 rfl d_W_law_1696 ?_
  refine r_aload_n (i := 0) (x := (some 2)) 1 rfl d_W_law_1697 ?_
  refine r_iload (i := 4) (x := x4) 5 rfl d_W_law_1698 ?_
  refine r_iconst (v := (1 : Int32)) (by decide) d_W_law_1700 ?_
  refine r_iadd d_W_law_1701 ?_
  have h2 := kr_ob h
  clear h
  obtain ⟨v329, ev329, h⟩ := h2
  refine r_sload rfl ev329 d_W_law_1702 ?_
  have h2 := kr_ob h
  clear h
  obtain ⟨⟨⟩, eu330, h⟩ := h2
  have h2 := kr_ob2 h
  clear h
  obtain ⟨v332, S331, eS331, h⟩ := h2
  refine r_callV (M1 := m_M_lag) (κ := 23) (As := [.int v329]) eu330 (s_M_lag eS331) mok_M_lag rfl (by decide) rfl w2002 w2003 w2004 (by decide) (kr_c8 kr_c0) d_W_law_1703 (kr_k1 ?_) kr_kn
  refine r_istore (i := 6) (lv' := [(6, .int v332), (5, .int v328), (0, va_rf (some 2)), (1, va_rf x1), (2, va_rf x2), (3, va_rf x3), (4, .int x4)]) (by show (6 : Nat) < 7; decide) rfl d_W_law_1706 ?_
  refine r_goto (tgt := 2025) d_W_law_1708 rfl ?_
  exact kr_sub [2, 3, 4, 5, 6] rfl (s_W_law_B2025 hk23 h)
set_option maxRecDepth 20000 in
set_option maxHeartbeats 4000000 in
theorem s_W_law_B1711 {X : Nat → Int32} {L : Nat} {k23 : AS → Option Nat → Option Nat → Option Nat → Int32 → Option (Int32 × AS)} (hk23 : ∀ {S : AS} {x1 : Option Nat} {x2 : Option Nat} {x3 : Option Nat} {x4 : Int32} {r : (Int32 × AS)}, k23 S x1 x2 x3 x4 = some r → kr_AW (m_W_law X L) 15 23 [(0, va_rf (some 2)), (1, va_rf x1), (2, va_rf x2), (3, va_rf x3), (4, .int x4)] [] S (kr_eI r)) {S : AS} {x1 : Option Nat} {x2 : Option Nat} {x3 : Option Nat} {x4 : Int32} {r : (Int32 × AS)} (h : f_W_law_B1711 X L k23 S x1 x2 x3 x4 = some r) : kr_AW (m_W_law X L) 15 1711 [(0, va_rf (some 2)), (1, va_rf x1), (2, va_rf x2), (3, va_rf x3), (4, .int x4)] [] S (kr_eI r) := by
  unfold f_W_law_B1711 at h
  refine r_aload_n (i := 1) (x := x1) 1 rfl d_W_law_1711 ?_
  refine r_aload_n (i := 0) (x := (some 2)) 0 rfl d_W_law_1712 ?_
  refine r_iload (i := 4) (x := x4) 4 rfl d_W_law_1713 ?_
  refine r_iconst (v := (1 : Int32)) (by decide) d_W_law_1715 ?_
  refine r_iadd d_W_law_1716 ?_
  have h2 := kr_ob h
  clear h
  obtain ⟨v333, ev333, h⟩ := h2
  refine r_sload rfl ev333 d_W_law_1717 ?_
  refine r_aload_n (i := 3) (x := x3) 3 rfl d_W_law_1718 ?_
  have h2 := kr_ob2 h
  clear h
  obtain ⟨v335, S334, eS334, h⟩ := h2
  refine r_callSX (M1 := m_W_recover) (As := [va_rf x1, .int v333, va_rf x3]) (s_W_recover eS334) mok_W_recover (by decide) w1297 w1298 (by decide) (kr_c8 kr_c0) d_W_law_1719 (kr_k1 ?_) kr_kn
  refine r_istore (i := 5) (lv' := [(5, .int v335), (0, va_rf (some 2)), (1, va_rf x1), (2, va_rf x2), (3, va_rf x3), (4, .int x4)]) (by show (5 : Nat) < 7; decide) rfl d_W_law_1722 ?_
  refine r_aload_n (i := 2) (x := x2) 3 rfl d_W_law_1724 ?_
  refine r_aload_n (i := 0) (x := (some 2)) 1 rfl d_W_law_1725 ?_
  refine r_iload (i := 4) (x := x4) 5 rfl d_W_law_1726 ?_
  refine r_iconst (v := (1 : Int32)) (by decide) d_W_law_1728 ?_
  refine r_iadd d_W_law_1729 ?_
  have h2 := kr_ob h
  clear h
  obtain ⟨v336, ev336, h⟩ := h2
  refine r_sload rfl ev336 d_W_law_1730 ?_
  have h2 := kr_ob h
  clear h
  obtain ⟨⟨⟩, eu337, h⟩ := h2
  have h2 := kr_ob2 h
  clear h
  obtain ⟨v339, S338, eS338, h⟩ := h2
  refine r_callV (M1 := m_M_recover) (κ := 23) (As := [.int v336]) eu337 (s_M_recover eS338) mok_M_recover rfl (by decide) rfl w2006 w2007 w2008 (by decide) (kr_c8 kr_c0) d_W_law_1731 (kr_k1 ?_) kr_kn
  refine r_istore (i := 6) (lv' := [(6, .int v339), (5, .int v335), (0, va_rf (some 2)), (1, va_rf x1), (2, va_rf x2), (3, va_rf x3), (4, .int x4)]) (by show (6 : Nat) < 7; decide) rfl d_W_law_1734 ?_
  refine r_goto (tgt := 2025) d_W_law_1736 rfl ?_
  exact kr_sub [2, 3, 4, 5, 6] rfl (s_W_law_B2025 hk23 h)
set_option maxRecDepth 20000 in
set_option maxHeartbeats 4000000 in
theorem s_W_law_B1739 {X : Nat → Int32} {L : Nat} {k23 : AS → Option Nat → Option Nat → Option Nat → Int32 → Option (Int32 × AS)} (hk23 : ∀ {S : AS} {x1 : Option Nat} {x2 : Option Nat} {x3 : Option Nat} {x4 : Int32} {r : (Int32 × AS)}, k23 S x1 x2 x3 x4 = some r → kr_AW (m_W_law X L) 15 23 [(0, va_rf (some 2)), (1, va_rf x1), (2, va_rf x2), (3, va_rf x3), (4, .int x4)] [] S (kr_eI r)) {S : AS} {x1 : Option Nat} {x2 : Option Nat} {x3 : Option Nat} {x4 : Int32} {r : (Int32 × AS)} (h : f_W_law_B1739 X L k23 S x1 x2 x3 x4 = some r) : kr_AW (m_W_law X L) 15 1739 [(0, va_rf (some 2)), (1, va_rf x1), (2, va_rf x2), (3, va_rf x3), (4, .int x4)] [] S (kr_eI r) := by
  unfold f_W_law_B1739 at h
  refine r_aload_n (i := 1) (x := x1) 1 rfl d_W_law_1739 ?_
  refine r_aload_n (i := 0) (x := (some 2)) 0 rfl d_W_law_1740 ?_
  refine r_iload (i := 4) (x := x4) 4 rfl d_W_law_1741 ?_
  refine r_iconst (v := (1 : Int32)) (by decide) d_W_law_1743 ?_
  refine r_iadd d_W_law_1744 ?_
  have h2 := kr_ob h
  clear h
  obtain ⟨v340, ev340, h⟩ := h2
  refine r_sload rfl ev340 d_W_law_1745 ?_
  refine r_aload_n (i := 0) (x := (some 2)) 0 rfl d_W_law_1746 ?_
  refine r_iload (i := 4) (x := x4) 4 rfl d_W_law_1747 ?_
  refine r_iconst (v := (2 : Int32)) (by decide) d_W_law_1749 ?_
  refine r_iadd d_W_law_1750 ?_
  have h2 := kr_ob h
  clear h
  obtain ⟨v341, ev341, h⟩ := h2
  refine r_sload rfl ev341 d_W_law_1751 ?_
  refine r_aload_n (i := 3) (x := x3) 3 rfl d_W_law_1752 ?_
  have h2 := kr_ob2 h
  clear h
  obtain ⟨v343, S342, eS342, h⟩ := h2
  refine r_callSX (M1 := m_W_vouch) (As := [va_rf x1, .int v340, .int v341, va_rf x3]) (s_W_vouch eS342) mok_W_vouch (by decide) w1334 w1335 (by decide) (kr_c8 kr_c0) d_W_law_1753 (kr_k1 ?_) kr_kn
  refine r_istore (i := 5) (lv' := [(5, .int v343), (0, va_rf (some 2)), (1, va_rf x1), (2, va_rf x2), (3, va_rf x3), (4, .int x4)]) (by show (5 : Nat) < 7; decide) rfl d_W_law_1756 ?_
  refine r_aload_n (i := 2) (x := x2) 3 rfl d_W_law_1758 ?_
  refine r_aload_n (i := 0) (x := (some 2)) 1 rfl d_W_law_1759 ?_
  refine r_iload (i := 4) (x := x4) 5 rfl d_W_law_1760 ?_
  refine r_iconst (v := (1 : Int32)) (by decide) d_W_law_1762 ?_
  refine r_iadd d_W_law_1763 ?_
  have h2 := kr_ob h
  clear h
  obtain ⟨v344, ev344, h⟩ := h2
  refine r_sload rfl ev344 d_W_law_1764 ?_
  refine r_aload_n (i := 0) (x := (some 2)) 1 rfl d_W_law_1765 ?_
  refine r_iload (i := 4) (x := x4) 5 rfl d_W_law_1766 ?_
  refine r_iconst (v := (2 : Int32)) (by decide) d_W_law_1768 ?_
  refine r_iadd d_W_law_1769 ?_
  have h2 := kr_ob h
  clear h
  obtain ⟨v345, ev345, h⟩ := h2
  refine r_sload rfl ev345 d_W_law_1770 ?_
  have h2 := kr_ob h
  clear h
  obtain ⟨⟨⟩, eu346, h⟩ := h2
  have h2 := kr_ob2 h
  clear h
  obtain ⟨v348, S347, eS347, h⟩ := h2
  refine r_callV (M1 := m_M_vouch) (κ := 23) (As := [.int v344, .int v345]) eu346 (s_M_vouch eS347) mok_M_vouch rfl (by decide) rfl w2010 w2011 w2012 (by decide) (kr_c8 kr_c0) d_W_law_1771 (kr_k1 ?_) kr_kn
  refine r_istore (i := 6) (lv' := [(6, .int v348), (5, .int v343), (0, va_rf (some 2)), (1, va_rf x1), (2, va_rf x2), (3, va_rf x3), (4, .int x4)]) (by show (6 : Nat) < 7; decide) rfl d_W_law_1774 ?_
  refine r_goto (tgt := 2025) d_W_law_1776 rfl ?_
  exact kr_sub [2, 3, 4, 5, 6] rfl (s_W_law_B2025 hk23 h)
set_option maxRecDepth 20000 in
set_option maxHeartbeats 4000000 in
theorem s_W_law_B1779 {X : Nat → Int32} {L : Nat} {k23 : AS → Option Nat → Option Nat → Option Nat → Int32 → Option (Int32 × AS)} (hk23 : ∀ {S : AS} {x1 : Option Nat} {x2 : Option Nat} {x3 : Option Nat} {x4 : Int32} {r : (Int32 × AS)}, k23 S x1 x2 x3 x4 = some r → kr_AW (m_W_law X L) 15 23 [(0, va_rf (some 2)), (1, va_rf x1), (2, va_rf x2), (3, va_rf x3), (4, .int x4)] [] S (kr_eI r)) {S : AS} {x1 : Option Nat} {x2 : Option Nat} {x3 : Option Nat} {x4 : Int32} {r : (Int32 × AS)} (h : f_W_law_B1779 X L k23 S x1 x2 x3 x4 = some r) : kr_AW (m_W_law X L) 15 1779 [(0, va_rf (some 2)), (1, va_rf x1), (2, va_rf x2), (3, va_rf x3), (4, .int x4)] [] S (kr_eI r) := by
  unfold f_W_law_B1779 at h
  refine r_aload_n (i := 1) (x := x1) 1 rfl d_W_law_1779 ?_
  refine r_aload_n (i := 0) (x := (some 2)) 0 rfl d_W_law_1780 ?_
  refine r_iload (i := 4) (x := x4) 4 rfl d_W_law_1781 ?_
  refine r_iconst (v := (1 : Int32)) (by decide) d_W_law_1783 ?_
  refine r_iadd d_W_law_1784 ?_
  have h2 := kr_ob h
  clear h
  obtain ⟨v349, ev349, h⟩ := h2
  refine r_sload rfl ev349 d_W_law_1785 ?_
  refine r_aload_n (i := 0) (x := (some 2)) 0 rfl d_W_law_1786 ?_
  refine r_iload (i := 4) (x := x4) 4 rfl d_W_law_1787 ?_
  refine r_iconst (v := (2 : Int32)) (by decide) d_W_law_1789 ?_
  refine r_iadd d_W_law_1790 ?_
  have h2 := kr_ob h
  clear h
  obtain ⟨v350, ev350, h⟩ := h2
  refine r_sload rfl ev350 d_W_law_1791 ?_
  refine r_aload_n (i := 3) (x := x3) 3 rfl d_W_law_1792 ?_
  have h2 := kr_ob2 h
  clear h
  obtain ⟨v352, S351, eS351, h⟩ := h2
  refine r_callSX (M1 := m_W_stop) (As := [va_rf x1, .int v349, .int v350, va_rf x3]) (s_W_stop eS351) mok_W_stop (by decide) w1345 w1346 (by decide) (kr_c8 kr_c0) d_W_law_1793 (kr_k1 ?_) kr_kn
  refine r_istore (i := 5) (lv' := [(5, .int v352), (0, va_rf (some 2)), (1, va_rf x1), (2, va_rf x2), (3, va_rf x3), (4, .int x4)]) (by show (5 : Nat) < 7; decide) rfl d_W_law_1796 ?_
  refine r_aload_n (i := 2) (x := x2) 3 rfl d_W_law_1798 ?_
  refine r_aload_n (i := 0) (x := (some 2)) 1 rfl d_W_law_1799 ?_
  refine r_iload (i := 4) (x := x4) 5 rfl d_W_law_1800 ?_
  refine r_iconst (v := (1 : Int32)) (by decide) d_W_law_1802 ?_
  refine r_iadd d_W_law_1803 ?_
  have h2 := kr_ob h
  clear h
  obtain ⟨v353, ev353, h⟩ := h2
  refine r_sload rfl ev353 d_W_law_1804 ?_
  refine r_aload_n (i := 0) (x := (some 2)) 1 rfl d_W_law_1805 ?_
  refine r_iload (i := 4) (x := x4) 5 rfl d_W_law_1806 ?_
  refine r_iconst (v := (2 : Int32)) (by decide) d_W_law_1808 ?_
  refine r_iadd d_W_law_1809 ?_
  have h2 := kr_ob h
  clear h
  obtain ⟨v354, ev354, h⟩ := h2
  refine r_sload rfl ev354 d_W_law_1810 ?_
  have h2 := kr_ob h
  clear h
  obtain ⟨⟨⟩, eu355, h⟩ := h2
  have h2 := kr_ob2 h
  clear h
  obtain ⟨v357, S356, eS356, h⟩ := h2
  refine r_callV (M1 := m_M_stop) (κ := 23) (As := [.int v353, .int v354]) eu355 (s_M_stop eS356) mok_M_stop rfl (by decide) rfl w2022 w2023 w2024 (by decide) (kr_c8 kr_c0) d_W_law_1811 (kr_k1 ?_) kr_kn
  refine r_istore (i := 6) (lv' := [(6, .int v357), (5, .int v352), (0, va_rf (some 2)), (1, va_rf x1), (2, va_rf x2), (3, va_rf x3), (4, .int x4)]) (by show (6 : Nat) < 7; decide) rfl d_W_law_1814 ?_
  refine r_goto (tgt := 2025) d_W_law_1816 rfl ?_
  exact kr_sub [2, 3, 4, 5, 6] rfl (s_W_law_B2025 hk23 h)
set_option maxRecDepth 20000 in
set_option maxHeartbeats 4000000 in
theorem s_W_law_B1819 {X : Nat → Int32} {L : Nat} {k23 : AS → Option Nat → Option Nat → Option Nat → Int32 → Option (Int32 × AS)} (hk23 : ∀ {S : AS} {x1 : Option Nat} {x2 : Option Nat} {x3 : Option Nat} {x4 : Int32} {r : (Int32 × AS)}, k23 S x1 x2 x3 x4 = some r → kr_AW (m_W_law X L) 15 23 [(0, va_rf (some 2)), (1, va_rf x1), (2, va_rf x2), (3, va_rf x3), (4, .int x4)] [] S (kr_eI r)) {S : AS} {x1 : Option Nat} {x2 : Option Nat} {x3 : Option Nat} {x4 : Int32} {r : (Int32 × AS)} (h : f_W_law_B1819 X L k23 S x1 x2 x3 x4 = some r) : kr_AW (m_W_law X L) 15 1819 [(0, va_rf (some 2)), (1, va_rf x1), (2, va_rf x2), (3, va_rf x3), (4, .int x4)] [] S (kr_eI r) := by
  unfold f_W_law_B1819 at h
  refine r_aload_n (i := 1) (x := x1) 1 rfl d_W_law_1819 ?_
  refine r_aload_n (i := 0) (x := (some 2)) 0 rfl d_W_law_1820 ?_
  refine r_iload (i := 4) (x := x4) 4 rfl d_W_law_1821 ?_
  refine r_iconst (v := (1 : Int32)) (by decide) d_W_law_1823 ?_
  refine r_iadd d_W_law_1824 ?_
  have h2 := kr_ob h
  clear h
  obtain ⟨v358, ev358, h⟩ := h2
  refine r_sload rfl ev358 d_W_law_1825 ?_
  refine r_aload_n (i := 3) (x := x3) 3 rfl d_W_law_1826 ?_
  have h2 := kr_ob2 h
  clear h
  obtain ⟨v360, S359, eS359, h⟩ := h2
  refine r_callSX (M1 := m_W_finish) (As := [va_rf x1, .int v358, va_rf x3]) (s_W_finish eS359) mok_W_finish (by decide) w1362 w1363 (by decide) (kr_c8 kr_c0) d_W_law_1827 (kr_k1 ?_) kr_kn
  refine r_istore (i := 5) (lv' := [(5, .int v360), (0, va_rf (some 2)), (1, va_rf x1), (2, va_rf x2), (3, va_rf x3), (4, .int x4)]) (by show (5 : Nat) < 7; decide) rfl d_W_law_1830 ?_
  refine r_aload_n (i := 2) (x := x2) 3 rfl d_W_law_1832 ?_
  refine r_aload_n (i := 0) (x := (some 2)) 1 rfl d_W_law_1833 ?_
  refine r_iload (i := 4) (x := x4) 5 rfl d_W_law_1834 ?_
  refine r_iconst (v := (1 : Int32)) (by decide) d_W_law_1836 ?_
  refine r_iadd d_W_law_1837 ?_
  have h2 := kr_ob h
  clear h
  obtain ⟨v361, ev361, h⟩ := h2
  refine r_sload rfl ev361 d_W_law_1838 ?_
  have h2 := kr_ob h
  clear h
  obtain ⟨⟨⟩, eu362, h⟩ := h2
  have h2 := kr_ob2 h
  clear h
  obtain ⟨v364, S363, eS363, h⟩ := h2
  refine r_callV (M1 := m_M_finish) (κ := 23) (As := [.int v361]) eu362 (s_M_finish eS363) mok_M_finish rfl (by decide) rfl w2029 w2030 w2031 (by decide) (kr_c8 kr_c0) d_W_law_1839 (kr_k1 ?_) kr_kn
  refine r_istore (i := 6) (lv' := [(6, .int v364), (5, .int v360), (0, va_rf (some 2)), (1, va_rf x1), (2, va_rf x2), (3, va_rf x3), (4, .int x4)]) (by show (6 : Nat) < 7; decide) rfl d_W_law_1842 ?_
  refine r_goto (tgt := 2025) d_W_law_1844 rfl ?_
  exact kr_sub [2, 3, 4, 5, 6] rfl (s_W_law_B2025 hk23 h)
set_option maxRecDepth 20000 in
set_option maxHeartbeats 4000000 in
theorem s_W_law_B1847 {X : Nat → Int32} {L : Nat} {k23 : AS → Option Nat → Option Nat → Option Nat → Int32 → Option (Int32 × AS)} (hk23 : ∀ {S : AS} {x1 : Option Nat} {x2 : Option Nat} {x3 : Option Nat} {x4 : Int32} {r : (Int32 × AS)}, k23 S x1 x2 x3 x4 = some r → kr_AW (m_W_law X L) 15 23 [(0, va_rf (some 2)), (1, va_rf x1), (2, va_rf x2), (3, va_rf x3), (4, .int x4)] [] S (kr_eI r)) {S : AS} {x1 : Option Nat} {x2 : Option Nat} {x3 : Option Nat} {x4 : Int32} {r : (Int32 × AS)} (h : f_W_law_B1847 X L k23 S x1 x2 x3 x4 = some r) : kr_AW (m_W_law X L) 15 1847 [(0, va_rf (some 2)), (1, va_rf x1), (2, va_rf x2), (3, va_rf x3), (4, .int x4)] [] S (kr_eI r) := by
  unfold f_W_law_B1847 at h
  refine r_aload_n (i := 1) (x := x1) 1 rfl d_W_law_1847 ?_
  refine r_aload_n (i := 0) (x := (some 2)) 0 rfl d_W_law_1848 ?_
  refine r_iload (i := 4) (x := x4) 4 rfl d_W_law_1849 ?_
  refine r_iconst (v := (1 : Int32)) (by decide) d_W_law_1851 ?_
  refine r_iadd d_W_law_1852 ?_
  have h2 := kr_ob h
  clear h
  obtain ⟨v365, ev365, h⟩ := h2
  refine r_sload rfl ev365 d_W_law_1853 ?_
  refine r_aload_n (i := 0) (x := (some 2)) 0 rfl d_W_law_1854 ?_
  refine r_iload (i := 4) (x := x4) 4 rfl d_W_law_1855 ?_
  refine r_iconst (v := (2 : Int32)) (by decide) d_W_law_1857 ?_
  refine r_iadd d_W_law_1858 ?_
  have h2 := kr_ob h
  clear h
  obtain ⟨v366, ev366, h⟩ := h2
  refine r_sload rfl ev366 d_W_law_1859 ?_
  refine r_aload_n (i := 3) (x := x3) 3 rfl d_W_law_1860 ?_
  have h2 := kr_ob2 h
  clear h
  obtain ⟨v368, S367, eS367, h⟩ := h2
  refine r_callSX (M1 := m_W_link) (As := [va_rf x1, .int v365, .int v366, va_rf x3]) (s_W_link eS367) mok_W_link (by decide) w1382 w1383 (by decide) (kr_c8 kr_c0) d_W_law_1861 (kr_k1 ?_) kr_kn
  refine r_istore (i := 5) (lv' := [(5, .int v368), (0, va_rf (some 2)), (1, va_rf x1), (2, va_rf x2), (3, va_rf x3), (4, .int x4)]) (by show (5 : Nat) < 7; decide) rfl d_W_law_1864 ?_
  refine r_aload_n (i := 2) (x := x2) 3 rfl d_W_law_1866 ?_
  refine r_aload_n (i := 0) (x := (some 2)) 1 rfl d_W_law_1867 ?_
  refine r_iload (i := 4) (x := x4) 5 rfl d_W_law_1868 ?_
  refine r_iconst (v := (1 : Int32)) (by decide) d_W_law_1870 ?_
  refine r_iadd d_W_law_1871 ?_
  have h2 := kr_ob h
  clear h
  obtain ⟨v369, ev369, h⟩ := h2
  refine r_sload rfl ev369 d_W_law_1872 ?_
  refine r_aload_n (i := 0) (x := (some 2)) 1 rfl d_W_law_1873 ?_
  refine r_iload (i := 4) (x := x4) 5 rfl d_W_law_1874 ?_
  refine r_iconst (v := (2 : Int32)) (by decide) d_W_law_1876 ?_
  refine r_iadd d_W_law_1877 ?_
  have h2 := kr_ob h
  clear h
  obtain ⟨v370, ev370, h⟩ := h2
  refine r_sload rfl ev370 d_W_law_1878 ?_
  have h2 := kr_ob h
  clear h
  obtain ⟨⟨⟩, eu371, h⟩ := h2
  have h2 := kr_ob2 h
  clear h
  obtain ⟨v373, S372, eS372, h⟩ := h2
  refine r_callV (M1 := m_M_link) (κ := 23) (As := [.int v369, .int v370]) eu371 (s_M_link eS372) mok_M_link rfl (by decide) rfl w2040 w2041 w2042 (by decide) (kr_c8 kr_c0) d_W_law_1879 (kr_k1 ?_) kr_kn
  refine r_istore (i := 6) (lv' := [(6, .int v373), (5, .int v368), (0, va_rf (some 2)), (1, va_rf x1), (2, va_rf x2), (3, va_rf x3), (4, .int x4)]) (by show (6 : Nat) < 7; decide) rfl d_W_law_1882 ?_
  refine r_goto (tgt := 2025) d_W_law_1884 rfl ?_
  exact kr_sub [2, 3, 4, 5, 6] rfl (s_W_law_B2025 hk23 h)
set_option maxRecDepth 20000 in
set_option maxHeartbeats 4000000 in
theorem s_W_law_B1887 {X : Nat → Int32} {L : Nat} {k23 : AS → Option Nat → Option Nat → Option Nat → Int32 → Option (Int32 × AS)} (hk23 : ∀ {S : AS} {x1 : Option Nat} {x2 : Option Nat} {x3 : Option Nat} {x4 : Int32} {r : (Int32 × AS)}, k23 S x1 x2 x3 x4 = some r → kr_AW (m_W_law X L) 15 23 [(0, va_rf (some 2)), (1, va_rf x1), (2, va_rf x2), (3, va_rf x3), (4, .int x4)] [] S (kr_eI r)) {S : AS} {x1 : Option Nat} {x2 : Option Nat} {x3 : Option Nat} {x4 : Int32} {r : (Int32 × AS)} (h : f_W_law_B1887 X L k23 S x1 x2 x3 x4 = some r) : kr_AW (m_W_law X L) 15 1887 [(0, va_rf (some 2)), (1, va_rf x1), (2, va_rf x2), (3, va_rf x3), (4, .int x4)] [] S (kr_eI r) := by
  unfold f_W_law_B1887 at h
  refine r_aload_n (i := 1) (x := x1) 1 rfl d_W_law_1887 ?_
  refine r_aload_n (i := 0) (x := (some 2)) 0 rfl d_W_law_1888 ?_
  refine r_iload (i := 4) (x := x4) 4 rfl d_W_law_1889 ?_
  refine r_iconst (v := (1 : Int32)) (by decide) d_W_law_1891 ?_
  refine r_iadd d_W_law_1892 ?_
  have h2 := kr_ob h
  clear h
  obtain ⟨v374, ev374, h⟩ := h2
  refine r_sload rfl ev374 d_W_law_1893 ?_
  refine r_aload_n (i := 3) (x := x3) 3 rfl d_W_law_1894 ?_
  have h2 := kr_ob2 h
  clear h
  obtain ⟨v376, S375, eS375, h⟩ := h2
  refine r_callSX (M1 := m_W_foreign) (As := [va_rf x1, .int v374, va_rf x3]) (s_W_foreign eS375) mok_W_foreign (by decide) w1389 w1390 (by decide) (kr_c8 kr_c0) d_W_law_1895 (kr_k1 ?_) kr_kn
  refine r_istore (i := 5) (lv' := [(5, .int v376), (0, va_rf (some 2)), (1, va_rf x1), (2, va_rf x2), (3, va_rf x3), (4, .int x4)]) (by show (5 : Nat) < 7; decide) rfl d_W_law_1898 ?_
  refine r_aload_n (i := 2) (x := x2) 3 rfl d_W_law_1900 ?_
  refine r_aload_n (i := 0) (x := (some 2)) 1 rfl d_W_law_1901 ?_
  refine r_iload (i := 4) (x := x4) 5 rfl d_W_law_1902 ?_
  refine r_iconst (v := (1 : Int32)) (by decide) d_W_law_1904 ?_
  refine r_iadd d_W_law_1905 ?_
  have h2 := kr_ob h
  clear h
  obtain ⟨v377, ev377, h⟩ := h2
  refine r_sload rfl ev377 d_W_law_1906 ?_
  have h2 := kr_ob h
  clear h
  obtain ⟨⟨⟩, eu378, h⟩ := h2
  have h2 := kr_ob2 h
  clear h
  obtain ⟨v380, S379, eS379, h⟩ := h2
  refine r_callV (M1 := m_M_foreign) (κ := 23) (As := [.int v377]) eu378 (s_M_foreign eS379) mok_M_foreign rfl (by decide) rfl w2044 w2045 w2046 (by decide) (kr_c8 kr_c0) d_W_law_1907 (kr_k1 ?_) kr_kn
  refine r_istore (i := 6) (lv' := [(6, .int v380), (5, .int v376), (0, va_rf (some 2)), (1, va_rf x1), (2, va_rf x2), (3, va_rf x3), (4, .int x4)]) (by show (6 : Nat) < 7; decide) rfl d_W_law_1910 ?_
  refine r_goto (tgt := 2025) d_W_law_1912 rfl ?_
  exact kr_sub [2, 3, 4, 5, 6] rfl (s_W_law_B2025 hk23 h)
set_option maxRecDepth 20000 in
set_option maxHeartbeats 4000000 in
theorem s_W_law_B1915 {X : Nat → Int32} {L : Nat} {k23 : AS → Option Nat → Option Nat → Option Nat → Int32 → Option (Int32 × AS)} (hk23 : ∀ {S : AS} {x1 : Option Nat} {x2 : Option Nat} {x3 : Option Nat} {x4 : Int32} {r : (Int32 × AS)}, k23 S x1 x2 x3 x4 = some r → kr_AW (m_W_law X L) 15 23 [(0, va_rf (some 2)), (1, va_rf x1), (2, va_rf x2), (3, va_rf x3), (4, .int x4)] [] S (kr_eI r)) {S : AS} {x1 : Option Nat} {x2 : Option Nat} {x3 : Option Nat} {x4 : Int32} {r : (Int32 × AS)} (h : f_W_law_B1915 X L k23 S x1 x2 x3 x4 = some r) : kr_AW (m_W_law X L) 15 1915 [(0, va_rf (some 2)), (1, va_rf x1), (2, va_rf x2), (3, va_rf x3), (4, .int x4)] [] S (kr_eI r) := by
  unfold f_W_law_B1915 at h
  refine r_aload_n (i := 1) (x := x1) 1 rfl d_W_law_1915 ?_
  refine r_aload_n (i := 0) (x := (some 2)) 0 rfl d_W_law_1916 ?_
  refine r_iload (i := 4) (x := x4) 4 rfl d_W_law_1917 ?_
  refine r_iconst (v := (1 : Int32)) (by decide) d_W_law_1919 ?_
  refine r_iadd d_W_law_1920 ?_
  have h2 := kr_ob h
  clear h
  obtain ⟨v381, ev381, h⟩ := h2
  refine r_sload rfl ev381 d_W_law_1921 ?_
  refine r_aload_n (i := 3) (x := x3) 3 rfl d_W_law_1922 ?_
  have h2 := kr_ob2 h
  clear h
  obtain ⟨v383, S382, eS382, h⟩ := h2
  refine r_callSX (M1 := m_W_leave) (As := [va_rf x1, .int v381, va_rf x3]) (s_W_leave eS382) mok_W_leave (by decide) w1397 w1398 (by decide) (kr_c8 kr_c0) d_W_law_1923 (kr_k1 ?_) kr_kn
  refine r_istore (i := 5) (lv' := [(5, .int v383), (0, va_rf (some 2)), (1, va_rf x1), (2, va_rf x2), (3, va_rf x3), (4, .int x4)]) (by show (5 : Nat) < 7; decide) rfl d_W_law_1926 ?_
  refine r_aload_n (i := 2) (x := x2) 3 rfl d_W_law_1928 ?_
  refine r_aload_n (i := 0) (x := (some 2)) 1 rfl d_W_law_1929 ?_
  refine r_iload (i := 4) (x := x4) 5 rfl d_W_law_1930 ?_
  refine r_iconst (v := (1 : Int32)) (by decide) d_W_law_1932 ?_
  refine r_iadd d_W_law_1933 ?_
  have h2 := kr_ob h
  clear h
  obtain ⟨v384, ev384, h⟩ := h2
  refine r_sload rfl ev384 d_W_law_1934 ?_
  have h2 := kr_ob h
  clear h
  obtain ⟨⟨⟩, eu385, h⟩ := h2
  have h2 := kr_ob2 h
  clear h
  obtain ⟨v387, S386, eS386, h⟩ := h2
  refine r_callV (M1 := m_M_leave) (κ := 23) (As := [.int v384]) eu385 (s_M_leave eS386) mok_M_leave rfl (by decide) rfl w2048 w2049 w2050 (by decide) (kr_c8 kr_c0) d_W_law_1935 (kr_k1 ?_) kr_kn
  refine r_istore (i := 6) (lv' := [(6, .int v387), (5, .int v383), (0, va_rf (some 2)), (1, va_rf x1), (2, va_rf x2), (3, va_rf x3), (4, .int x4)]) (by show (6 : Nat) < 7; decide) rfl d_W_law_1938 ?_
  refine r_goto (tgt := 2025) d_W_law_1940 rfl ?_
  exact kr_sub [2, 3, 4, 5, 6] rfl (s_W_law_B2025 hk23 h)
set_option maxRecDepth 20000 in
set_option maxHeartbeats 4000000 in
theorem s_W_law_B1943 {X : Nat → Int32} {L : Nat} {k23 : AS → Option Nat → Option Nat → Option Nat → Int32 → Option (Int32 × AS)} (hk23 : ∀ {S : AS} {x1 : Option Nat} {x2 : Option Nat} {x3 : Option Nat} {x4 : Int32} {r : (Int32 × AS)}, k23 S x1 x2 x3 x4 = some r → kr_AW (m_W_law X L) 15 23 [(0, va_rf (some 2)), (1, va_rf x1), (2, va_rf x2), (3, va_rf x3), (4, .int x4)] [] S (kr_eI r)) {S : AS} {x1 : Option Nat} {x2 : Option Nat} {x3 : Option Nat} {x4 : Int32} {r : (Int32 × AS)} (h : f_W_law_B1943 X L k23 S x1 x2 x3 x4 = some r) : kr_AW (m_W_law X L) 15 1943 [(0, va_rf (some 2)), (1, va_rf x1), (2, va_rf x2), (3, va_rf x3), (4, .int x4)] [] S (kr_eI r) := by
  unfold f_W_law_B1943 at h
  refine r_aload_n (i := 1) (x := x1) 1 rfl d_W_law_1943 ?_
  have h2 := kr_ob h
  clear h
  obtain ⟨⟨⟩, eu388, h⟩ := h2
  have h2 := kr_ob2 h
  clear h
  obtain ⟨v390, S389, eS389, h⟩ := h2
  refine r_callV (M1 := m_K_audits) (κ := 22) (As := []) eu388 (s_K_audits eS389) mok_K_audits rfl (by decide) rfl w356 w357 w358 (by decide) (kr_c8 kr_c0) d_W_law_1944 (kr_k1 ?_) kr_kn
  refine r_pop rfl d_W_law_1947 ?_
  refine r_aload_n (i := 2) (x := x2) 2 rfl d_W_law_1948 ?_
  have h2 := kr_ob h
  clear h
  obtain ⟨⟨⟩, eu391, h⟩ := h2
  have h2 := kr_ob2 h
  clear h
  obtain ⟨v393, S392, eS392, h⟩ := h2
  refine r_callV (M1 := m_M_audits) (κ := 23) (As := []) eu391 (s_M_audits eS392) mok_M_audits rfl (by decide) rfl w1692 w1693 w1694 (by decide) (kr_c8 kr_c0) d_W_law_1949 (kr_k1 ?_) kr_kn
  refine r_pop rfl d_W_law_1952 ?_
  refine r_goto (tgt := 2025) d_W_law_1953 rfl ?_
  exact kr_sub [0, 1, 2, 3, 4] rfl (s_W_law_B2025 hk23 h)
set_option maxRecDepth 20000 in
set_option maxHeartbeats 4000000 in
theorem s_W_law_B1956 {X : Nat → Int32} {L : Nat} {k23 : AS → Option Nat → Option Nat → Option Nat → Int32 → Option (Int32 × AS)} (hk23 : ∀ {S : AS} {x1 : Option Nat} {x2 : Option Nat} {x3 : Option Nat} {x4 : Int32} {r : (Int32 × AS)}, k23 S x1 x2 x3 x4 = some r → kr_AW (m_W_law X L) 15 23 [(0, va_rf (some 2)), (1, va_rf x1), (2, va_rf x2), (3, va_rf x3), (4, .int x4)] [] S (kr_eI r)) {S : AS} {x1 : Option Nat} {x2 : Option Nat} {x3 : Option Nat} {x4 : Int32} {r : (Int32 × AS)} (h : f_W_law_B1956 X L k23 S x1 x2 x3 x4 = some r) : kr_AW (m_W_law X L) 15 1956 [(0, va_rf (some 2)), (1, va_rf x1), (2, va_rf x2), (3, va_rf x3), (4, .int x4)] [] S (kr_eI r) := by
  unfold f_W_law_B1956 at h
  refine r_aload_n (i := 1) (x := x1) 1 rfl d_W_law_1956 ?_
  refine r_aload_n (i := 0) (x := (some 2)) 0 rfl d_W_law_1957 ?_
  refine r_iload (i := 4) (x := x4) 4 rfl d_W_law_1958 ?_
  refine r_iconst (v := (1 : Int32)) (by decide) d_W_law_1960 ?_
  refine r_iadd d_W_law_1961 ?_
  have h2 := kr_ob h
  clear h
  obtain ⟨v394, ev394, h⟩ := h2
  refine r_sload rfl ev394 d_W_law_1962 ?_
  refine r_aload_n (i := 3) (x := x3) 3 rfl d_W_law_1963 ?_
  have h2 := kr_ob2 h
  clear h
  obtain ⟨v396, S395, eS395, h⟩ := h2
  refine r_callSX (M1 := m_W_audit) (As := [va_rf x1, .int v394, va_rf x3]) (s_W_audit eS395) mok_W_audit (by decide) w1412 w1413 (by decide) (kr_c8 kr_c0) d_W_law_1964 (kr_k1 ?_) kr_kn
  refine r_istore (i := 5) (lv' := [(5, .int v396), (0, va_rf (some 2)), (1, va_rf x1), (2, va_rf x2), (3, va_rf x3), (4, .int x4)]) (by show (5 : Nat) < 7; decide) rfl d_W_law_1967 ?_
  refine r_aload_n (i := 2) (x := x2) 3 rfl d_W_law_1969 ?_
  refine r_aload_n (i := 0) (x := (some 2)) 1 rfl d_W_law_1970 ?_
  refine r_iload (i := 4) (x := x4) 5 rfl d_W_law_1971 ?_
  refine r_iconst (v := (1 : Int32)) (by decide) d_W_law_1973 ?_
  refine r_iadd d_W_law_1974 ?_
  have h2 := kr_ob h
  clear h
  obtain ⟨v397, ev397, h⟩ := h2
  refine r_sload rfl ev397 d_W_law_1975 ?_
  have h2 := kr_ob h
  clear h
  obtain ⟨⟨⟩, eu398, h⟩ := h2
  have h2 := kr_ob2 h
  clear h
  obtain ⟨v400, S399, eS399, h⟩ := h2
  refine r_callV (M1 := m_M_audit) (κ := 23) (As := [.int v397]) eu398 (s_M_audit eS399) mok_M_audit rfl (by decide) rfl w1696 w1697 w1698 (by decide) (kr_c8 kr_c0) d_W_law_1976 (kr_k1 ?_) kr_kn
  refine r_istore (i := 6) (lv' := [(6, .int v400), (5, .int v396), (0, va_rf (some 2)), (1, va_rf x1), (2, va_rf x2), (3, va_rf x3), (4, .int x4)]) (by show (6 : Nat) < 7; decide) rfl d_W_law_1979 ?_
  refine r_goto (tgt := 2025) d_W_law_1981 rfl ?_
  exact kr_sub [2, 3, 4, 5, 6] rfl (s_W_law_B2025 hk23 h)
set_option maxRecDepth 20000 in
set_option maxHeartbeats 4000000 in
theorem s_W_law_B1984 {X : Nat → Int32} {L : Nat} {k23 : AS → Option Nat → Option Nat → Option Nat → Int32 → Option (Int32 × AS)} (hk23 : ∀ {S : AS} {x1 : Option Nat} {x2 : Option Nat} {x3 : Option Nat} {x4 : Int32} {r : (Int32 × AS)}, k23 S x1 x2 x3 x4 = some r → kr_AW (m_W_law X L) 15 23 [(0, va_rf (some 2)), (1, va_rf x1), (2, va_rf x2), (3, va_rf x3), (4, .int x4)] [] S (kr_eI r)) {S : AS} {x1 : Option Nat} {x2 : Option Nat} {x3 : Option Nat} {x4 : Int32} {r : (Int32 × AS)} (h : f_W_law_B1984 X L k23 S x1 x2 x3 x4 = some r) : kr_AW (m_W_law X L) 15 1984 [(0, va_rf (some 2)), (1, va_rf x1), (2, va_rf x2), (3, va_rf x3), (4, .int x4)] [] S (kr_eI r) := by
  unfold f_W_law_B1984 at h
  refine r_aload_n (i := 1) (x := x1) 1 rfl d_W_law_1984 ?_
  have h2 := kr_ob h
  clear h
  obtain ⟨⟨⟩, eu401, h⟩ := h2
  have h2 := kr_ob2 h
  clear h
  obtain ⟨v403, S402, eS402, h⟩ := h2
  refine r_callV (M1 := m_K_sum) (κ := 22) (As := []) eu401 (s_K_sum eS402) mok_K_sum rfl (by decide) rfl w360 w361 w362 (by decide) (kr_c8 kr_c0) d_W_law_1985 (kr_k1 ?_) kr_kn
  refine r_pop rfl d_W_law_1988 ?_
  refine r_aload_n (i := 2) (x := x2) 2 rfl d_W_law_1989 ?_
  have h2 := kr_ob h
  clear h
  obtain ⟨⟨⟩, eu404, h⟩ := h2
  have h2 := kr_ob2 h
  clear h
  obtain ⟨v406, S405, eS405, h⟩ := h2
  refine r_callV (M1 := m_M_sum) (κ := 23) (As := []) eu404 (s_M_sum eS405) mok_M_sum rfl (by decide) rfl w1707 w1708 w1709 (by decide) (kr_c8 kr_c0) d_W_law_1990 (kr_k1 ?_) kr_kn
  refine r_pop rfl d_W_law_1993 ?_
  refine r_goto (tgt := 2025) d_W_law_1994 rfl ?_
  exact kr_sub [0, 1, 2, 3, 4] rfl (s_W_law_B2025 hk23 h)
set_option maxRecDepth 20000 in
set_option maxHeartbeats 4000000 in
theorem s_W_law_B1997 {X : Nat → Int32} {L : Nat} {k23 : AS → Option Nat → Option Nat → Option Nat → Int32 → Option (Int32 × AS)} (hk23 : ∀ {S : AS} {x1 : Option Nat} {x2 : Option Nat} {x3 : Option Nat} {x4 : Int32} {r : (Int32 × AS)}, k23 S x1 x2 x3 x4 = some r → kr_AW (m_W_law X L) 15 23 [(0, va_rf (some 2)), (1, va_rf x1), (2, va_rf x2), (3, va_rf x3), (4, .int x4)] [] S (kr_eI r)) {S : AS} {x1 : Option Nat} {x2 : Option Nat} {x3 : Option Nat} {x4 : Int32} {r : (Int32 × AS)} (h : f_W_law_B1997 X L k23 S x1 x2 x3 x4 = some r) : kr_AW (m_W_law X L) 15 1997 [(0, va_rf (some 2)), (1, va_rf x1), (2, va_rf x2), (3, va_rf x3), (4, .int x4)] [] S (kr_eI r) := by
  unfold f_W_law_B1997 at h
  refine r_aload_n (i := 1) (x := x1) 1 rfl d_W_law_1997 ?_
  refine r_aload_n (i := 0) (x := (some 2)) 0 rfl d_W_law_1998 ?_
  refine r_iload (i := 4) (x := x4) 4 rfl d_W_law_1999 ?_
  refine r_iconst (v := (1 : Int32)) (by decide) d_W_law_2001 ?_
  refine r_iadd d_W_law_2002 ?_
  have h2 := kr_ob h
  clear h
  obtain ⟨v407, ev407, h⟩ := h2
  refine r_sload rfl ev407 d_W_law_2003 ?_
  refine r_aload_n (i := 3) (x := x3) 3 rfl d_W_law_2004 ?_
  have h2 := kr_ob2 h
  clear h
  obtain ⟨v409, S408, eS408, h⟩ := h2
  refine r_callSX (M1 := m_W_sumAnew) (As := [va_rf x1, .int v407, va_rf x3]) (s_W_sumAnew eS408) mok_W_sumAnew (by decide) w1420 w1421 (by decide) (kr_c8 kr_c0) d_W_law_2005 (kr_k1 ?_) kr_kn
  refine r_istore (i := 5) (lv' := [(5, .int v409), (0, va_rf (some 2)), (1, va_rf x1), (2, va_rf x2), (3, va_rf x3), (4, .int x4)]) (by show (5 : Nat) < 7; decide) rfl d_W_law_2008 ?_
  refine r_aload_n (i := 2) (x := x2) 3 rfl d_W_law_2010 ?_
  refine r_aload_n (i := 0) (x := (some 2)) 1 rfl d_W_law_2011 ?_
  refine r_iload (i := 4) (x := x4) 5 rfl d_W_law_2012 ?_
  refine r_iconst (v := (1 : Int32)) (by decide) d_W_law_2014 ?_
  refine r_iadd d_W_law_2015 ?_
  have h2 := kr_ob h
  clear h
  obtain ⟨v410, ev410, h⟩ := h2
  refine r_sload rfl ev410 d_W_law_2016 ?_
  have h2 := kr_ob h
  clear h
  obtain ⟨⟨⟩, eu411, h⟩ := h2
  have h2 := kr_ob2 h
  clear h
  obtain ⟨v413, S412, eS412, h⟩ := h2
  refine r_callV (M1 := m_M_sumAnew) (κ := 23) (As := [.int v410]) eu411 (s_M_sumAnew eS412) mok_M_sumAnew rfl (by decide) rfl w1711 w1712 w1713 (by decide) (kr_c8 kr_c0) d_W_law_2017 (kr_k1 ?_) kr_kn
  refine r_istore (i := 6) (lv' := [(6, .int v413), (5, .int v409), (0, va_rf (some 2)), (1, va_rf x1), (2, va_rf x2), (3, va_rf x3), (4, .int x4)]) (by show (6 : Nat) < 7; decide) rfl d_W_law_2020 ?_
  refine r_goto (tgt := 2025) d_W_law_2022 rfl ?_
  exact kr_sub [2, 3, 4, 5, 6] rfl (s_W_law_B2025 hk23 h)
set_option maxRecDepth 20000 in
set_option maxHeartbeats 4000000 in
theorem s_W_law_C23 {X : Nat → Int32} {L : Nat} {k23 : AS → Option Nat → Option Nat → Option Nat → Int32 → Option (Int32 × AS)} (hk23 : ∀ {S : AS} {x1 : Option Nat} {x2 : Option Nat} {x3 : Option Nat} {x4 : Int32} {r : (Int32 × AS)}, k23 S x1 x2 x3 x4 = some r → kr_AW (m_W_law X L) 15 23 [(0, va_rf (some 2)), (1, va_rf x1), (2, va_rf x2), (3, va_rf x3), (4, .int x4)] [] S (kr_eI r)) {S : AS} {x1 : Option Nat} {x2 : Option Nat} {x3 : Option Nat} {x4 : Int32} {r : (Int32 × AS)} (h : f_W_law_C23 X L k23 S x1 x2 x3 x4 = some r) : kr_AW (m_W_law X L) 15 23 [(0, va_rf (some 2)), (1, va_rf x1), (2, va_rf x2), (3, va_rf x3), (4, .int x4)] [] S (kr_eI r) := by
  unfold f_W_law_C23 at h
  refine r_iload (i := 4) (x := x4) 4 rfl d_W_law_23 ?_
  refine r_aload_n (i := 0) (x := (some 2)) 0 rfl d_W_law_25 ?_
  refine r_slen rfl d_W_law_26 ?_
  refine r_bipush (v := (6 : Int32)) (by decide) d_W_law_27 ?_
  refine r_isub d_W_law_29 ?_
  refine r_icmp_gt (tgt := 2031) d_W_law_30 rfl (fun c => ?_) (fun c => ?_)
  · replace h := kr_ip c h
    refine r_iconst (v := (1 : Int32)) (by decide) d_W_law_2031 ?_
    cases h
    exact r_zret rfl rfl d_W_law_2032
  · replace h := kr_in_ c h
    refine r_aload_n (i := 0) (x := (some 2)) 0 rfl d_W_law_33 ?_
    refine r_iload (i := 4) (x := x4) 4 rfl d_W_law_34 ?_
    have h2 := kr_ob h
    clear h
    obtain ⟨v414, ev414, h⟩ := h2
    refine r_sload rfl ev414 d_W_law_36 ?_
    refine r_bipush (v := (63 : Int32)) (by decide) d_W_law_37 ?_
    refine r_iand d_W_law_39 ?_
    have h2 := kr_ob h
    clear h
    obtain ⟨i415, ei415, h⟩ := h2
    refine kr_nmI ei415 ?_
    by_cases c0 : i415 = (0 : Int32)
    · replace h := kr_ip c0 h
      refine r_tableIn (x := i415) (tgt := 260) d_W_law_40 (by rw [c0]; decide) (by rw [c0]; decide) (by rw [c0]; rfl) rfl ?_
      exact kr_sub [0, 1, 2, 3, 4] rfl (s_W_law_B260 hk23 h)
    replace h := kr_in_ c0 h
    by_cases c1 : i415 = (1 : Int32)
    · replace h := kr_ip c1 h
      refine r_tableIn (x := i415) (tgt := 288) d_W_law_40 (by rw [c1]; decide) (by rw [c1]; decide) (by rw [c1]; rfl) rfl ?_
      exact kr_sub [0, 1, 2, 3, 4] rfl (s_W_law_B288 hk23 h)
    replace h := kr_in_ c1 h
    by_cases c2 : i415 = (2 : Int32)
    · replace h := kr_ip c2 h
      refine r_tableIn (x := i415) (tgt := 328) d_W_law_40 (by rw [c2]; decide) (by rw [c2]; decide) (by rw [c2]; rfl) rfl ?_
      exact kr_sub [0, 1, 2, 3, 4] rfl (s_W_law_B328 hk23 h)
    replace h := kr_in_ c2 h
    by_cases c3 : i415 = (3 : Int32)
    · replace h := kr_ip c3 h
      refine r_tableIn (x := i415) (tgt := 368) d_W_law_40 (by rw [c3]; decide) (by rw [c3]; decide) (by rw [c3]; rfl) rfl ?_
      exact kr_sub [0, 1, 2, 3, 4] rfl (s_W_law_B368 hk23 h)
    replace h := kr_in_ c3 h
    by_cases c4 : i415 = (4 : Int32)
    · replace h := kr_ip c4 h
      refine r_tableIn (x := i415) (tgt := 444) d_W_law_40 (by rw [c4]; decide) (by rw [c4]; decide) (by rw [c4]; rfl) rfl ?_
      exact kr_sub [0, 1, 2, 3, 4] rfl (s_W_law_B444 hk23 h)
    replace h := kr_in_ c4 h
    by_cases c5 : i415 = (5 : Int32)
    · replace h := kr_ip c5 h
      refine r_tableIn (x := i415) (tgt := 457) d_W_law_40 (by rw [c5]; decide) (by rw [c5]; decide) (by rw [c5]; rfl) rfl ?_
      exact kr_sub [0, 1, 2, 3, 4] rfl (s_W_law_B457 hk23 h)
    replace h := kr_in_ c5 h
    by_cases c6 : i415 = (6 : Int32)
    · replace h := kr_ip c6 h
      refine r_tableIn (x := i415) (tgt := 473) d_W_law_40 (by rw [c6]; decide) (by rw [c6]; decide) (by rw [c6]; rfl) rfl ?_
      exact kr_sub [0, 1, 2, 3, 4] rfl (s_W_law_B473 hk23 h)
    replace h := kr_in_ c6 h
    by_cases c7 : i415 = (7 : Int32)
    · replace h := kr_ip c7 h
      refine r_tableIn (x := i415) (tgt := 501) d_W_law_40 (by rw [c7]; decide) (by rw [c7]; decide) (by rw [c7]; rfl) rfl ?_
      exact kr_sub [0, 1, 2, 3, 4] rfl (s_W_law_B501 hk23 h)
    replace h := kr_in_ c7 h
    by_cases c8 : i415 = (8 : Int32)
    · replace h := kr_ip c8 h
      refine r_tableIn (x := i415) (tgt := 569) d_W_law_40 (by rw [c8]; decide) (by rw [c8]; decide) (by rw [c8]; rfl) rfl ?_
      exact kr_sub [0, 1, 2, 3, 4] rfl (s_W_law_B569 hk23 h)
    replace h := kr_in_ c8 h
    by_cases c9 : i415 = (9 : Int32)
    · replace h := kr_ip c9 h
      refine r_tableIn (x := i415) (tgt := 621) d_W_law_40 (by rw [c9]; decide) (by rw [c9]; decide) (by rw [c9]; rfl) rfl ?_
      exact kr_sub [0, 1, 2, 3, 4] rfl (s_W_law_B621 hk23 h)
    replace h := kr_in_ c9 h
    by_cases c10 : i415 = (10 : Int32)
    · replace h := kr_ip c10 h
      refine r_tableIn (x := i415) (tgt := 689) d_W_law_40 (by rw [c10]; decide) (by rw [c10]; decide) (by rw [c10]; rfl) rfl ?_
      exact kr_sub [0, 1, 2, 3, 4] rfl (s_W_law_B689 hk23 h)
    replace h := kr_in_ c10 h
    by_cases c11 : i415 = (11 : Int32)
    · replace h := kr_ip c11 h
      refine r_tableIn (x := i415) (tgt := 717) d_W_law_40 (by rw [c11]; decide) (by rw [c11]; decide) (by rw [c11]; rfl) rfl ?_
      exact kr_sub [0, 1, 2, 3, 4] rfl (s_W_law_B717 hk23 h)
    replace h := kr_in_ c11 h
    by_cases c12 : i415 = (12 : Int32)
    · replace h := kr_ip c12 h
      refine r_tableIn (x := i415) (tgt := 745) d_W_law_40 (by rw [c12]; decide) (by rw [c12]; decide) (by rw [c12]; rfl) rfl ?_
      exact kr_sub [0, 1, 2, 3, 4] rfl (s_W_law_B745 hk23 h)
    replace h := kr_in_ c12 h
    by_cases c13 : i415 = (13 : Int32)
    · replace h := kr_ip c13 h
      refine r_tableIn (x := i415) (tgt := 773) d_W_law_40 (by rw [c13]; decide) (by rw [c13]; decide) (by rw [c13]; rfl) rfl ?_
      exact kr_sub [0, 1, 2, 3, 4] rfl (s_W_law_B773 hk23 h)
    replace h := kr_in_ c13 h
    by_cases c14 : i415 = (14 : Int32)
    · replace h := kr_ip c14 h
      refine r_tableIn (x := i415) (tgt := 801) d_W_law_40 (by rw [c14]; decide) (by rw [c14]; decide) (by rw [c14]; rfl) rfl ?_
      exact kr_sub [0, 1, 2, 3, 4] rfl (s_W_law_B801 hk23 h)
    replace h := kr_in_ c14 h
    by_cases c15 : i415 = (15 : Int32)
    · replace h := kr_ip c15 h
      refine r_tableIn (x := i415) (tgt := 829) d_W_law_40 (by rw [c15]; decide) (by rw [c15]; decide) (by rw [c15]; rfl) rfl ?_
      exact kr_sub [0, 1, 2, 3, 4] rfl (s_W_law_B829 hk23 h)
    replace h := kr_in_ c15 h
    by_cases c16 : i415 = (16 : Int32)
    · replace h := kr_ip c16 h
      refine r_tableIn (x := i415) (tgt := 842) d_W_law_40 (by rw [c16]; decide) (by rw [c16]; decide) (by rw [c16]; rfl) rfl ?_
      exact kr_sub [0, 1, 2, 3, 4] rfl (s_W_law_B842 hk23 h)
    replace h := kr_in_ c16 h
    by_cases c17 : i415 = (17 : Int32)
    · replace h := kr_ip c17 h
      refine r_tableIn (x := i415) (tgt := 870) d_W_law_40 (by rw [c17]; decide) (by rw [c17]; decide) (by rw [c17]; rfl) rfl ?_
      exact kr_sub [0, 1, 2, 3, 4] rfl (s_W_law_B870 hk23 h)
    replace h := kr_in_ c17 h
    by_cases c18 : i415 = (18 : Int32)
    · replace h := kr_ip c18 h
      refine r_tableIn (x := i415) (tgt := 898) d_W_law_40 (by rw [c18]; decide) (by rw [c18]; decide) (by rw [c18]; rfl) rfl ?_
      exact kr_sub [0, 1, 2, 3, 4] rfl (s_W_law_B898 hk23 h)
    replace h := kr_in_ c18 h
    by_cases c19 : i415 = (19 : Int32)
    · replace h := kr_ip c19 h
      refine r_tableIn (x := i415) (tgt := 926) d_W_law_40 (by rw [c19]; decide) (by rw [c19]; decide) (by rw [c19]; rfl) rfl ?_
      exact kr_sub [0, 1, 2, 3, 4] rfl (s_W_law_B926 hk23 h)
    replace h := kr_in_ c19 h
    by_cases c20 : i415 = (20 : Int32)
    · replace h := kr_ip c20 h
      refine r_tableIn (x := i415) (tgt := 1006) d_W_law_40 (by rw [c20]; decide) (by rw [c20]; decide) (by rw [c20]; rfl) rfl ?_
      exact kr_sub [0, 1, 2, 3, 4] rfl (s_W_law_B1006 hk23 h)
    replace h := kr_in_ c20 h
    by_cases c21 : i415 = (21 : Int32)
    · replace h := kr_ip c21 h
      refine r_tableIn (x := i415) (tgt := 1034) d_W_law_40 (by rw [c21]; decide) (by rw [c21]; decide) (by rw [c21]; rfl) rfl ?_
      exact kr_sub [0, 1, 2, 3, 4] rfl (s_W_law_B1034 hk23 h)
    replace h := kr_in_ c21 h
    by_cases c22 : i415 = (22 : Int32)
    · replace h := kr_ip c22 h
      refine r_tableIn (x := i415) (tgt := 1062) d_W_law_40 (by rw [c22]; decide) (by rw [c22]; decide) (by rw [c22]; rfl) rfl ?_
      exact kr_sub [0, 1, 2, 3, 4] rfl (s_W_law_B1062 hk23 h)
    replace h := kr_in_ c22 h
    by_cases c23 : i415 = (23 : Int32)
    · replace h := kr_ip c23 h
      refine r_tableIn (x := i415) (tgt := 1102) d_W_law_40 (by rw [c23]; decide) (by rw [c23]; decide) (by rw [c23]; rfl) rfl ?_
      exact kr_sub [0, 1, 2, 3, 4] rfl (s_W_law_B1102 hk23 h)
    replace h := kr_in_ c23 h
    by_cases c24 : i415 = (24 : Int32)
    · replace h := kr_ip c24 h
      refine r_tableIn (x := i415) (tgt := 1154) d_W_law_40 (by rw [c24]; decide) (by rw [c24]; decide) (by rw [c24]; rfl) rfl ?_
      exact kr_sub [0, 1, 2, 3, 4] rfl (s_W_law_B1154 hk23 h)
    replace h := kr_in_ c24 h
    by_cases c25 : i415 = (25 : Int32)
    · replace h := kr_ip c25 h
      refine r_tableIn (x := i415) (tgt := 1194) d_W_law_40 (by rw [c25]; decide) (by rw [c25]; decide) (by rw [c25]; rfl) rfl ?_
      exact kr_sub [0, 1, 2, 3, 4] rfl (s_W_law_B1194 hk23 h)
    replace h := kr_in_ c25 h
    by_cases c26 : i415 = (26 : Int32)
    · replace h := kr_ip c26 h
      refine r_tableIn (x := i415) (tgt := 1234) d_W_law_40 (by rw [c26]; decide) (by rw [c26]; decide) (by rw [c26]; rfl) rfl ?_
      exact kr_sub [0, 1, 2, 3, 4] rfl (s_W_law_B1234 hk23 h)
    replace h := kr_in_ c26 h
    by_cases c27 : i415 = (27 : Int32)
    · replace h := kr_ip c27 h
      refine r_tableIn (x := i415) (tgt := 1298) d_W_law_40 (by rw [c27]; decide) (by rw [c27]; decide) (by rw [c27]; rfl) rfl ?_
      exact kr_sub [0, 1, 2, 3, 4] rfl (s_W_law_B1298 hk23 h)
    replace h := kr_in_ c27 h
    by_cases c28 : i415 = (28 : Int32)
    · replace h := kr_ip c28 h
      refine r_tableIn (x := i415) (tgt := 1354) d_W_law_40 (by rw [c28]; decide) (by rw [c28]; decide) (by rw [c28]; rfl) rfl ?_
      exact kr_sub [0, 1, 2, 3, 4] rfl (s_W_law_B1354 hk23 h)
    replace h := kr_in_ c28 h
    by_cases c29 : i415 = (29 : Int32)
    · replace h := kr_ip c29 h
      refine r_tableIn (x := i415) (tgt := 1394) d_W_law_40 (by rw [c29]; decide) (by rw [c29]; decide) (by rw [c29]; rfl) rfl ?_
      exact kr_sub [0, 1, 2, 3, 4] rfl (s_W_law_B1394 hk23 h)
    replace h := kr_in_ c29 h
    by_cases c30 : i415 = (30 : Int32)
    · replace h := kr_ip c30 h
      refine r_tableIn (x := i415) (tgt := 1422) d_W_law_40 (by rw [c30]; decide) (by rw [c30]; decide) (by rw [c30]; rfl) rfl ?_
      exact kr_sub [0, 1, 2, 3, 4] rfl (s_W_law_B1422 hk23 h)
    replace h := kr_in_ c30 h
    by_cases c31 : i415 = (31 : Int32)
    · replace h := kr_ip c31 h
      refine r_tableIn (x := i415) (tgt := 1450) d_W_law_40 (by rw [c31]; decide) (by rw [c31]; decide) (by rw [c31]; rfl) rfl ?_
      exact kr_sub [0, 1, 2, 3, 4] rfl (s_W_law_B1450 hk23 h)
    replace h := kr_in_ c31 h
    by_cases c32 : i415 = (32 : Int32)
    · replace h := kr_ip c32 h
      refine r_tableIn (x := i415) (tgt := 1502) d_W_law_40 (by rw [c32]; decide) (by rw [c32]; decide) (by rw [c32]; rfl) rfl ?_
      exact kr_sub [0, 1, 2, 3, 4] rfl (s_W_law_B1502 hk23 h)
    replace h := kr_in_ c32 h
    by_cases c33 : i415 = (33 : Int32)
    · replace h := kr_ip c33 h
      refine r_tableIn (x := i415) (tgt := 1530) d_W_law_40 (by rw [c33]; decide) (by rw [c33]; decide) (by rw [c33]; rfl) rfl ?_
      exact kr_sub [0, 1, 2, 3, 4] rfl (s_W_law_B1530 hk23 h)
    replace h := kr_in_ c33 h
    by_cases c34 : i415 = (34 : Int32)
    · replace h := kr_ip c34 h
      refine r_tableIn (x := i415) (tgt := 1546) d_W_law_40 (by rw [c34]; decide) (by rw [c34]; decide) (by rw [c34]; rfl) rfl ?_
      exact kr_sub [0, 1, 2, 3, 4] rfl (s_W_law_B1546 hk23 h)
    replace h := kr_in_ c34 h
    by_cases c35 : i415 = (35 : Int32)
    · replace h := kr_ip c35 h
      refine r_tableIn (x := i415) (tgt := 1562) d_W_law_40 (by rw [c35]; decide) (by rw [c35]; decide) (by rw [c35]; rfl) rfl ?_
      exact kr_sub [0, 1, 2, 3, 4] rfl (s_W_law_B1562 hk23 h)
    replace h := kr_in_ c35 h
    by_cases c36 : i415 = (36 : Int32)
    · replace h := kr_ip c36 h
      refine r_tableIn (x := i415) (tgt := 1575) d_W_law_40 (by rw [c36]; decide) (by rw [c36]; decide) (by rw [c36]; rfl) rfl ?_
      exact kr_sub [0, 1, 2, 3, 4] rfl (s_W_law_B1575 hk23 h)
    replace h := kr_in_ c36 h
    by_cases c37 : i415 = (37 : Int32)
    · replace h := kr_ip c37 h
      refine r_tableIn (x := i415) (tgt := 1603) d_W_law_40 (by rw [c37]; decide) (by rw [c37]; decide) (by rw [c37]; rfl) rfl ?_
      exact kr_sub [0, 1, 2, 3, 4] rfl (s_W_law_B1603 hk23 h)
    replace h := kr_in_ c37 h
    by_cases c38 : i415 = (38 : Int32)
    · replace h := kr_ip c38 h
      refine r_tableIn (x := i415) (tgt := 1631) d_W_law_40 (by rw [c38]; decide) (by rw [c38]; decide) (by rw [c38]; rfl) rfl ?_
      exact kr_sub [0, 1, 2, 3, 4] rfl (s_W_law_B1631 hk23 h)
    replace h := kr_in_ c38 h
    by_cases c39 : i415 = (39 : Int32)
    · replace h := kr_ip c39 h
      refine r_tableIn (x := i415) (tgt := 1683) d_W_law_40 (by rw [c39]; decide) (by rw [c39]; decide) (by rw [c39]; rfl) rfl ?_
      exact kr_sub [0, 1, 2, 3, 4] rfl (s_W_law_B1683 hk23 h)
    replace h := kr_in_ c39 h
    by_cases c40 : i415 = (40 : Int32)
    · replace h := kr_ip c40 h
      refine r_tableIn (x := i415) (tgt := 1711) d_W_law_40 (by rw [c40]; decide) (by rw [c40]; decide) (by rw [c40]; rfl) rfl ?_
      exact kr_sub [0, 1, 2, 3, 4] rfl (s_W_law_B1711 hk23 h)
    replace h := kr_in_ c40 h
    by_cases c41 : i415 = (41 : Int32)
    · replace h := kr_ip c41 h
      refine r_tableIn (x := i415) (tgt := 1739) d_W_law_40 (by rw [c41]; decide) (by rw [c41]; decide) (by rw [c41]; rfl) rfl ?_
      exact kr_sub [0, 1, 2, 3, 4] rfl (s_W_law_B1739 hk23 h)
    replace h := kr_in_ c41 h
    by_cases c42 : i415 = (42 : Int32)
    · replace h := kr_ip c42 h
      refine r_tableIn (x := i415) (tgt := 1779) d_W_law_40 (by rw [c42]; decide) (by rw [c42]; decide) (by rw [c42]; rfl) rfl ?_
      exact kr_sub [0, 1, 2, 3, 4] rfl (s_W_law_B1779 hk23 h)
    replace h := kr_in_ c42 h
    by_cases c43 : i415 = (43 : Int32)
    · replace h := kr_ip c43 h
      refine r_tableIn (x := i415) (tgt := 1819) d_W_law_40 (by rw [c43]; decide) (by rw [c43]; decide) (by rw [c43]; rfl) rfl ?_
      exact kr_sub [0, 1, 2, 3, 4] rfl (s_W_law_B1819 hk23 h)
    replace h := kr_in_ c43 h
    by_cases c44 : i415 = (44 : Int32)
    · replace h := kr_ip c44 h
      refine r_tableIn (x := i415) (tgt := 1847) d_W_law_40 (by rw [c44]; decide) (by rw [c44]; decide) (by rw [c44]; rfl) rfl ?_
      exact kr_sub [0, 1, 2, 3, 4] rfl (s_W_law_B1847 hk23 h)
    replace h := kr_in_ c44 h
    by_cases c45 : i415 = (45 : Int32)
    · replace h := kr_ip c45 h
      refine r_tableIn (x := i415) (tgt := 1887) d_W_law_40 (by rw [c45]; decide) (by rw [c45]; decide) (by rw [c45]; rfl) rfl ?_
      exact kr_sub [0, 1, 2, 3, 4] rfl (s_W_law_B1887 hk23 h)
    replace h := kr_in_ c45 h
    by_cases c46 : i415 = (46 : Int32)
    · replace h := kr_ip c46 h
      refine r_tableIn (x := i415) (tgt := 1915) d_W_law_40 (by rw [c46]; decide) (by rw [c46]; decide) (by rw [c46]; rfl) rfl ?_
      exact kr_sub [0, 1, 2, 3, 4] rfl (s_W_law_B1915 hk23 h)
    replace h := kr_in_ c46 h
    by_cases c47 : i415 = (47 : Int32)
    · replace h := kr_ip c47 h
      refine r_tableIn (x := i415) (tgt := 1943) d_W_law_40 (by rw [c47]; decide) (by rw [c47]; decide) (by rw [c47]; rfl) rfl ?_
      exact kr_sub [0, 1, 2, 3, 4] rfl (s_W_law_B1943 hk23 h)
    replace h := kr_in_ c47 h
    by_cases c48 : i415 = (48 : Int32)
    · replace h := kr_ip c48 h
      refine r_tableIn (x := i415) (tgt := 1956) d_W_law_40 (by rw [c48]; decide) (by rw [c48]; decide) (by rw [c48]; rfl) rfl ?_
      exact kr_sub [0, 1, 2, 3, 4] rfl (s_W_law_B1956 hk23 h)
    replace h := kr_in_ c48 h
    by_cases c49 : i415 = (49 : Int32)
    · replace h := kr_ip c49 h
      refine r_tableIn (x := i415) (tgt := 1984) d_W_law_40 (by rw [c49]; decide) (by rw [c49]; decide) (by rw [c49]; rfl) rfl ?_
      exact kr_sub [0, 1, 2, 3, 4] rfl (s_W_law_B1984 hk23 h)
    replace h := kr_in_ c49 h
    by_cases c50 : i415 = (50 : Int32)
    · replace h := kr_ip c50 h
      refine r_tableIn (x := i415) (tgt := 1997) d_W_law_40 (by rw [c50]; decide) (by rw [c50]; decide) (by rw [c50]; rfl) rfl ?_
      exact kr_sub [0, 1, 2, 3, 4] rfl (s_W_law_B1997 hk23 h)
    replace h := kr_in_ c50 h
    refine r_tableOut (x := i415) (tgt := 2025) d_W_law_40 (kr_tab (lo := 0) (n := 51) (by decide) (by intro j hj; rcases (show j = 0 ∨ j = 1 ∨ j = 2 ∨ j = 3 ∨ j = 4 ∨ j = 5 ∨ j = 6 ∨ j = 7 ∨ j = 8 ∨ j = 9 ∨ j = 10 ∨ j = 11 ∨ j = 12 ∨ j = 13 ∨ j = 14 ∨ j = 15 ∨ j = 16 ∨ j = 17 ∨ j = 18 ∨ j = 19 ∨ j = 20 ∨ j = 21 ∨ j = 22 ∨ j = 23 ∨ j = 24 ∨ j = 25 ∨ j = 26 ∨ j = 27 ∨ j = 28 ∨ j = 29 ∨ j = 30 ∨ j = 31 ∨ j = 32 ∨ j = 33 ∨ j = 34 ∨ j = 35 ∨ j = 36 ∨ j = 37 ∨ j = 38 ∨ j = 39 ∨ j = 40 ∨ j = 41 ∨ j = 42 ∨ j = 43 ∨ j = 44 ∨ j = 45 ∨ j = 46 ∨ j = 47 ∨ j = 48 ∨ j = 49 ∨ j = 50 by omega) with rfl | rfl | rfl | rfl | rfl | rfl | rfl | rfl | rfl | rfl | rfl | rfl | rfl | rfl | rfl | rfl | rfl | rfl | rfl | rfl | rfl | rfl | rfl | rfl | rfl | rfl | rfl | rfl | rfl | rfl | rfl | rfl | rfl | rfl | rfl | rfl | rfl | rfl | rfl | rfl | rfl | rfl | rfl | rfl | rfl | rfl | rfl | rfl | rfl | rfl | rfl <;> first | exact c0 | exact c1 | exact c2 | exact c3 | exact c4 | exact c5 | exact c6 | exact c7 | exact c8 | exact c9 | exact c10 | exact c11 | exact c12 | exact c13 | exact c14 | exact c15 | exact c16 | exact c17 | exact c18 | exact c19 | exact c20 | exact c21 | exact c22 | exact c23 | exact c24 | exact c25 | exact c26 | exact c27 | exact c28 | exact c29 | exact c30 | exact c31 | exact c32 | exact c33 | exact c34 | exact c35 | exact c36 | exact c37 | exact c38 | exact c39 | exact c40 | exact c41 | exact c42 | exact c43 | exact c44 | exact c45 | exact c46 | exact c47 | exact c48 | exact c49 | exact c50)) rfl ?_
    exact kr_sub [0, 1, 2, 3, 4] rfl (s_W_law_B2025 hk23 h)
theorem s_W_law_L23 {X : Nat → Int32} {L : Nat} (n : Nat) : ∀ {S : AS} {x1 : Option Nat} {x2 : Option Nat} {x3 : Option Nat} {x4 : Int32} {r : (Int32 × AS)}, f_W_law_L23 X L n S x1 x2 x3 x4 = some r → kr_AW (m_W_law X L) 15 23 [(0, va_rf (some 2)), (1, va_rf x1), (2, va_rf x2), (3, va_rf x3), (4, .int x4)] [] S (kr_eI r) := by
  induction n with
  | zero => intro S x1 x2 x3 x4 r h; cases h
  | succ n ih => intro S x1 x2 x3 x4 r h; exact s_W_law_C23 (fun {_} {_} {_} {_} {_} {_} h => ih h) h
set_option maxRecDepth 20000 in
set_option maxHeartbeats 4000000 in
theorem s_W_law {X : Nat → Int32} {L : Nat} {S : AS} {r : (Int32 × AS)} (h : f_W_law X L S = some r) : kr_AW (m_W_law X L) 15 0 [(0, va_rf (some 2))] [] S (kr_eI r) := by
  unfold f_W_law at h
  have h2 := kr_ob h
  clear h
  obtain ⟨S416, eS416, h⟩ := h2
  refine r_newO_ (κ := 22) eS416 (by decide) w104 w105 w75 d_W_law_0 ?_
  refine r_dup (kr_rfcat _) d_W_law_3 ?_
  have h2 := kr_ob h
  clear h
  obtain ⟨S417, eS417, h⟩ := h2
  refine r_callI (M1 := m_K_init) (As := []) (s_K_init eS417) mok_K_init rfl rfl rfl w106 w107 (by decide) (kr_c8 (kr_cR kr_c0)) d_W_law_4 (kr_k0 ?_) kr_kn
  refine r_astore_n (i := 1) (lv' := [(1, va_rf (some (sN S))), (0, va_rf (some 2))]) (by show (1 : Nat) < 7; decide) (by show kr_st _ 1 _ = _; simp [kr_st, kr_rfcat, kr_icat]) d_W_law_7 ?_
  have h2 := kr_ob h
  clear h
  obtain ⟨S418, eS418, h⟩ := h2
  refine r_newO_ (κ := 23) eS418 (by decide) w1431 w1432 w84 d_W_law_8 ?_
  refine r_dup (kr_rfcat _) d_W_law_11 ?_
  have h2 := kr_ob h
  clear h
  obtain ⟨S419, eS419, h⟩ := h2
  refine r_callI (M1 := m_M_init) (As := []) (s_M_init eS419) mok_M_init rfl rfl rfl w1433 w1434 (by decide) (kr_c8 (kr_cR kr_c0)) d_W_law_12 (kr_k0 ?_) kr_kn
  refine r_astore_n (i := 2) (lv' := [(2, va_rf (some (sN S417))), (1, va_rf (some (sN S))), (0, va_rf (some 2))]) (by show (2 : Nat) < 7; decide) (by show kr_st _ 2 _ = _; simp [kr_st, kr_rfcat, kr_icat]) d_W_law_15 ?_
  refine r_iconst (v := (1 : Int32)) (by decide) d_W_law_16 ?_
  have h2 := kr_ob h
  clear h
  obtain ⟨S420, eS420, h⟩ := h2
  refine r_newJ eS420 w2052 d_W_law_17 ?_
  refine r_astore_n (i := 3) (lv' := [(3, va_rf (some (sN S419))), (2, va_rf (some (sN S417))), (1, va_rf (some (sN S))), (0, va_rf (some 2))]) (by show (3 : Nat) < 7; decide) (by show kr_st _ 3 _ = _; simp [kr_st, kr_rfcat, kr_icat]) d_W_law_19 ?_
  refine r_iconst (v := (0 : Int32)) (by decide) d_W_law_20 ?_
  refine r_istore (i := 4) (lv' := [(4, .int (0 : Int32)), (3, va_rf (some (sN S419))), (2, va_rf (some (sN S417))), (1, va_rf (some (sN S))), (0, va_rf (some 2))]) (by show (4 : Nat) < 7; decide) (by show kr_st _ 4 _ = _; simp [kr_st, kr_rfcat, kr_icat]) d_W_law_21 ?_
  exact kr_sub [4, 3, 2, 1, 0] rfl (s_W_law_L23 kr_FU h)
end
section
/-! ===== the words of the start ===== -/
theorem v_ins0 : Cond.instantiable "java/util/ArrayList" 3 ∈ lw_tbl := kr_tt1 (List.mem_of_getElem? (i := 89) rfl)
theorem v_ins1 : Cond.instantiable "KeyringCourt$Attempt" 10 ∈ lw_tbl := kr_tt3 (List.mem_of_getElem? (i := 222) rfl)
theorem v_ins2 : Cond.instantiable "KeyringCourt$Audit" 4 ∈ lw_tbl := kr_tt1 (List.mem_of_getElem? (i := 39) rfl)
theorem v_ins3 : Cond.instantiable "KeyringCourt$Flow" 6 ∈ lw_tbl := kr_tt1 (List.mem_of_getElem? (i := 63) rfl)
theorem v_ins4 : Cond.instantiable "KeyringCourt$Grant" 12 ∈ lw_tbl := kr_tt5 (List.mem_of_getElem? (i := 48) rfl)
theorem v_ins5 : Cond.instantiable "KeyringCourt$Keyring" 6 ∈ lw_tbl := kr_tt1 (List.mem_of_getElem? (i := 117) rfl)
theorem v_ins6 : Cond.instantiable "KeyringCourt$Person" 12 ∈ lw_tbl := kr_tt1 (List.mem_of_getElem? (i := 145) rfl)
theorem v_ins7 : Cond.instantiable "KeyringCourt$Recovery" 5 ∈ lw_tbl := kr_tt6 (List.mem_of_getElem? (i := 35) rfl)
theorem v_ins8 : Cond.instantiable "KeyringCourt$Service" 4 ∈ lw_tbl := kr_tt1 (List.mem_of_getElem? (i := 191) rfl)
theorem v_ins9 : Cond.instantiable "KeyringCourt$Session" 7 ∈ lw_tbl := kr_tt4 (List.mem_of_getElem? (i := 79) rfl)
theorem v_ins10 : Cond.instantiable "KeyringCourt$Shown" 1 ∈ lw_tbl := kr_tt3 (List.mem_of_getElem? (i := 228) rfl)
theorem v_ins11 : Cond.instantiable "KeyringCourt$Token" 7 ∈ lw_tbl := kr_tt5 (List.mem_of_getElem? (i := 115) rfl)
theorem v_ins12 : Cond.instantiable "KeyringCourt" 18 ∈ lw_tbl := kr_tt1 (List.mem_of_getElem? (i := 31) rfl)
theorem v_ins13 : Cond.instantiable "KeyringCourtModel" 83 ∈ lw_tbl := kr_tt6 (List.mem_of_getElem? (i := 158) rfl)
theorem kr_ins : ∀ c, c < kr_nC → Cond.instantiable (kr_cC c) (kr_cN c) ∈ lw_tbl := by
  intro c hc
  match c, hc with
  | 0, _ => exact v_ins0
  | 1, _ => exact v_ins1
  | 2, _ => exact v_ins2
  | 3, _ => exact v_ins3
  | 4, _ => exact v_ins4
  | 5, _ => exact v_ins5
  | 6, _ => exact v_ins6
  | 7, _ => exact v_ins7
  | 8, _ => exact v_ins8
  | 9, _ => exact v_ins9
  | 10, _ => exact v_ins10
  | 11, _ => exact v_ins11
  | 12, _ => exact v_ins12
  | 13, _ => exact v_ins13
  | n + 14, h => exact absurd (show n + 14 < 14 from h) (by omega)
theorem v_ac_int : Cond.arrayClass ClassFile.FieldType.int ∈ lw_tbl := kr_tt1 (List.mem_of_getElem? (i := 59) rfl)
theorem v_ac_boolean : Cond.arrayClass ClassFile.FieldType.boolean ∈ lw_tbl := kr_tt7 (List.mem_of_getElem? (i := 173) rfl)
theorem v_ac_long : Cond.arrayClass ClassFile.FieldType.long ∈ lw_tbl := kr_tt9 (List.mem_of_getElem? (i := 58) rfl)
theorem v_ao_O : Cond.arrayOver (ClassFile.FieldType.object "java/lang/Object") ∈ lw_tbl := kr_tt3 (List.mem_of_getElem? (i := 142) rfl)
theorem v_ao_P : Cond.arrayOver (ClassFile.FieldType.object "KeyringCourt$Person") ∈ lw_tbl := kr_tt1 (List.mem_of_getElem? (i := 61) rfl)
theorem v_ao_S : Cond.arrayOver (ClassFile.FieldType.object "KeyringCourt$Service") ∈ lw_tbl := kr_tt1 (List.mem_of_getElem? (i := 115) rfl)
theorem v_ls_D : Cond.laysStatic "java/util/ArrayList" "DEFAULTCAPACITY_EMPTY_ELEMENTDATA" "[Ljava/lang/Object;" ∈ lw_tbl := kr_tt1 (List.mem_of_getElem? (i := 101) rfl)
theorem v_ls_W : Cond.laysStatic "KeyringCourt$Shown" "WEIGHTS" "[I" ∈ lw_tbl := kr_tt3 (List.mem_of_getElem? (i := 187) rfl)
theorem v_ls_U : Cond.laysStatic "java/lang/Throwable" "UNASSIGNED_STACK" "[Ljava/lang/StackTraceElement;" ∈ lw_tbl := kr_tt2 (List.mem_of_getElem? (i := 92) rfl)
theorem v_ls_X : Cond.laysStatic "java/lang/Throwable" "SUPPRESSED_SENTINEL" "Ljava/util/List;" ∈ lw_tbl := kr_tt2 (List.mem_of_getElem? (i := 94) rfl)
theorem v_in_D : Cond.initialized "java/util/ArrayList" ∈ lw_tbl := kr_tt1 (List.mem_of_getElem? (i := 6) rfl)
theorem v_in_W : Cond.initialized "KeyringCourt$Shown" ∈ lw_tbl := kr_tt1 (List.mem_of_getElem? (i := 23) rfl)
theorem v_in_T : Cond.initialized "java/lang/Throwable" ∈ lw_tbl := kr_tt1 (List.mem_of_getElem? (i := 11) rfl)
end
section
def R_law : String := "KeyringCourtLaw"
def lw_P (b : Addr) (xs : List Int32) (args : Array Value) (s : State) : Prop := args = #[.ref b] ∧ s.IntsAt b xs ∧ xs.length ≤ 3072 ∧ (Jvm.Cond.and given_1 narrow_1).before args s = true
def lw_Q (_ : Array Value) (s : State) (o : Outcome) (t : State) : Prop := o = .returned (some (.int 1)) ∧ Framed s o t [] 601024 7293034
def lw_Z (below : List Frame) (a : Array Value) (s : State) : State → Prop := fun t => ∃ o, t.status = .running ∧ Ended t below o ∧ lw_Q a s o t
end
section
/-! ===== the start: the machine's tables as the ghosts, the empty world ===== -/
def kr_S0 : AS := (4, (fun k => match k with | 0 => 1 | 1 => 2 | 2 => 3 | 3 => 4 | _ => 0), (fun k => match k with | 1 => 3 | _ => 0), (fun k j => match k with | 1 => kr_wt j | _ => 0), (fun _ _ => none), (fun _ _ => 0), 0, 0)
theorem kr_ok0 (g : GG) : kr_ok g kr_S0 := by
  refine ⟨Nat.le_refl _, ?_, ?_, ⟨rfl, rfl, rfl, rfl⟩, ⟨rfl, rfl⟩, fun j _ => rfl, fun k j a h => by cases h⟩
  · intro k hk
    match k, hk with
    | n + 4, _ => rfl
  · intro k h1 h2
    exact absurd (Nat.lt_of_le_of_lt h1 h2) (Nat.lt_irrefl _)
theorem kr_cl_len : kr_cl.length = kr_nC := by simp [kr_cl]
theorem kr_clsof {s : State} {args : Array Value} (hts : ∀ w ∈ lw_tbl, w.before args s = true) : ∃ D : va_G, ∀ (c : Nat) (q : vw_C), kr_cl[c]? = some q → u_Kn s q.1 q.2.1 q.2.2 (D.1 c) (D.2 c) := by
  have hb : ∀ w ∈ kr_TB, w.before args s = true := fun w hw => hts w (List.mem_filter.mp hw).1
  have h : ∀ c : Nat, ∃ z : va_G, c < kr_nC → u_Kn s (kr_cC c) (kr_cF c) (kr_cN c) (z.1 0) (z.2 0) := by
    intro c
    by_cases hc : c < kr_nC
    · obtain ⟨cC, iS, h⟩ := u_known hb (kr_in c hc) (hts _ (kr_ins c hc))
      exact ⟨(fun _ => cC, fun _ => iS), fun _ => h⟩
    · exact ⟨(fun _ => 0, fun _ _ => 0), fun q => absurd q hc⟩
  obtain ⟨f, hf⟩ := Classical.axiomOfChoice h
  refine ⟨(fun c => (f c).1 0, fun c => (f c).2 0), fun c q hq => ?_⟩
  have hc : c < kr_nC := by
    have := (List.getElem?_eq_some_iff.mp hq).1
    rwa [kr_cl_len] at this
  rw [kr_cl_at hc] at hq
  cases hq
  exact hf c hc
theorem kr_arrP {s : State} {args : Array Value} {ty : FieldType} (h : (Cond.arrayClass ty).before args s = true) (hty : ty = .int ∨ ty = .boolean ∨ ty = .long) : ∃ cA : ClassId, ArrOfT s cA ty ∧ va_RA s cA ty := by
  obtain ⟨cA, kA, comp, h1, h2, h3⟩ := Cond.arrayClass_spec h
  refine ⟨cA, fun n z => ⟨fun k h => (by cases h), kA, h2, comp, h3⟩, ?_⟩
  rcases hty with rfl | rfl | rfl <;> exact h1
theorem kr_arrO {s : State} {args : Array Value} {C : String} (h : (Cond.arrayOver (.object C)).before args s = true) : ∃ cA : ClassId, ArrOfT s cA (.object C) ∧ va_RA s cA (.object C) := by
  obtain ⟨comp, c, k, h1, h2, h3, h4, h5⟩ := Cond.arrayOver_spec h
  exact ⟨c, fun n z => ⟨fun k h => (by cases h), k, h3, comp, h4⟩, k, comp, h3, h4, h1, h5⟩
theorem kr_Kof {s : State} {args : Array Value} (hts : ∀ w ∈ lw_tbl, w.before args s = true) : ∃ (D : va_G) (A : Nat → ClassId), ∀ (b : Nat) (P : Nat → Nat) (X : Nat → Int32) (L : Nat), va_K D kr_cl (kr_tys (D.1, D.2, A, b, P, X, L)) s := by
  obtain ⟨D, hD⟩ := kr_clsof hts
  obtain ⟨a0, h0⟩ := kr_arrP (hts _ v_ac_int) (Or.inl rfl)
  obtain ⟨a1, h1⟩ := kr_arrP (hts _ v_ac_boolean) (Or.inr (Or.inl rfl))
  obtain ⟨a2, h2⟩ := kr_arrP (hts _ v_ac_long) (Or.inr (Or.inr rfl))
  obtain ⟨a3, h3⟩ := kr_arrO (hts _ v_ao_O)
  obtain ⟨a4, h4⟩ := kr_arrO (hts _ v_ao_P)
  obtain ⟨a5, h5⟩ := kr_arrO (hts _ v_ao_S)
  refine ⟨D, fun t => match t with | 0 => a0 | 1 => a1 | 2 => a2 | 3 => a3 | 4 => a4 | _ => a5, fun b P X L => ⟨hD, fun k q hq => ?_⟩⟩
  have hk : k < 6 := by
    have := (List.getElem?_eq_some_iff.mp hq).1
    simpa [kr_tys] using this
  rw [kr_tys_at hk] at hq
  cases hq
  match k, hk with
  | 0, _ => exact h0
  | 1, _ => exact h1
  | 2, _ => exact h2
  | 3, _ => exact h3
  | 4, _ => exact h4
  | 5, _ => exact h5
theorem kr_nb_tab {w : Cond} (h : kr_nb w = true) : w.onTables = true := by
  cases w <;> first
    | rfl
    | (simp [kr_nb] at h)
/-- what is asked of the pure function: true, for every script, within the room -/
def kr_pure : Prop := ∀ (X : Nat → Int32) (L : Nat), L ≤ 3072 → ∃ S' : AS, f_W_law X L kr_S0 = some (1, S') ∧ sC S' ≤ 601024 ∧ sS S' ≤ 7293034
theorem whole_start (hp : kr_pure) {p : Program} {e : Env} {s : State} {m : MethodId} {below : List Frame} {meth : Method} {c : Code} (l : Launch) (hflags : l.flags = flags0) {b L : Nat} {xs : Nat → Int32} (hL : L ≤ 3072)
    (hx : p.tables.exec = Jvm.exec) (hb : c.code = code) (hr : meth.sig.returnType = ret) (hml : c.maxLocals = 7) (hown : s.vm.findClass "KeyringCourtLaw" = some m.cls) (hts : ∀ w ∈ lw_tbl, w.before #[Value.ref b] s = true) (hX : va_X b L xs s s.heap) (hbl : b < s.heap.size) (hlocks : meth.locks = false) (hgv : (Jvm.Cond.and given_1 narrow_1).before #[Value.ref b] s = true)
    (htab : c.exceptionTable.toList = []) (hnm : meth.name = "law") : W p l e room_1 s m #[Value.ref b] below meth c s.heap [] 0 0 (lw_Z below #[Value.ref b] s) (entryFrame m ([Value.ref b] : List Value).toArray 7) := by
  obtain ⟨S', hf, hc1, hs1⟩ := hp xs L hL
  have hfl := flat_of_before _ hgv
  obtain ⟨D, A, hK⟩ := kr_Kof hts
  have hA : ∀ a : Nat, a < s.heap.size → ¬ s.heap.size ≤ a := fun a h => Nat.not_le.mpr h
  obtain ⟨q0, e0, hT0⟩ := va_Tof (tm := .static kr_ddC kr_ddF kr_ddT) (ty := .object "java/lang/Object") (N := 0) (f := fun _ => .null) (A := fun q => s.heap.size ≤ q) (by decide) (hfl _ (by decide +kernel)) (va_eqt (hfl _ (by decide +kernel))) (fun j h => absurd h (Nat.not_lt_zero j)) hA
  obtain ⟨q1, e1, hT1⟩ := va_Tof (tm := .static "KeyringCourt$Shown" "WEIGHTS" "[I") (ty := .int) (N := 3) (f := fun j => .int (kr_wt j)) (A := fun q => s.heap.size ≤ q) (by decide) (hfl _ (by decide +kernel)) (va_eqt (hfl _ (by decide +kernel))) (fun j h => match j, h with
    | 0, _ => va_eqt (hfl _ (by decide +kernel))
    | 1, _ => va_eqt (hfl _ (by decide +kernel))
    | 2, _ => va_eqt (hfl _ (by decide +kernel))) hA
  obtain ⟨q3, hM⟩ := va_Mi.of (C := "[Ljava/lang/Object;") (hfl _ (by decide +kernel))
  have hts' : ∀ w ∈ kr_TB, w.before #[Value.ref b] s = true := fun w hw => hts w (List.mem_filter.mp hw).1
  let P : Nat → Nat := fun i => match i with | 0 => q0 | 1 => q1 | 2 => b | _ => q3
  have hB : Bs (D.1, D.2, A, s.heap.size, P, xs, L) s s.heap := by
    refine ⟨Nat.le_refl _, hK _ _ _ _, fun w hw => va_Nw.of (kr_nb_tab (List.mem_filter.mp hw).2) (hts w (List.mem_filter.mp hw).1), ?_, va_Zof (hts _ v_ls_D) (hts _ v_in_D) e0 hA, hT0, va_Zof (hts _ v_ls_W) (hts _ v_in_W) e1 hA, hT1, hX, hbl, hM, va_AO.of (hts _ v_ao_O), va_AO.of (hts _ v_ao_P), va_AO.of (hts _ v_ao_S), vx_Zqof (hts _ v_ls_U) (hts _ v_in_T) (hfl _ (by decide +kernel)) hA, vx_Zqof (hts _ v_ls_X) (hts _ v_in_T) (hfl _ (by decide +kernel)) hA⟩
    intro q hq
    simp only [kr_ncs, List.mem_cons, List.not_mem_nil, or_false] at hq
    rcases hq with rfl | rfl | rfl | rfl | rfl | rfl <;> exact va_Nc.of (hfl _ (by decide +kernel))
  have hst : l.stackTraces = false := by
    rw [Launch.stackTraces, hflags]
    decide +kernel
  have hle := lv_entry [Value.ref b] (n := 7) (show (1 : Nat) ≤ 7 by decide)
  have key := (s_W_law hf).2 (D.1, D.2, A, s.heap.size, P, xs, L) p l e s m #[Value.ref b] below meth c P 4 0 0 601024 7293034 ⟨hx, hb, hml, hr, hown, hts', hlocks, hst, htab, ⟨hnm, fun X' L' h => by cases h; exact ⟨rfl, rfl⟩⟩, hB⟩ P s.heap [] _ 0 0
    ⟨rfl, rfl, by show sC S' ≤ _; omega, by show sS S' ≤ _; omega, Nat.le_refl _, kr_ext_rf, ⟨kr_ok0 _, fun _ _ => rfl, (fun k q h => nomatch h), ⟨(fun i j p q h => nomatch h), (fun k q h => nomatch h)⟩⟩, va_S.rf, hle, ⟨fun q hq => by
      rw [List.mem_singleton] at hq
      subst hq
      exact (by decide : 2 < 4), fun v hv => by cases hv⟩⟩
  rw [lg_entry_eq]
  intro T hT X
  obtain ⟨t, a1, o, b1, b2, hq⟩ := key T hT X
  refine ⟨t, a1, o, b1, b2, ?_⟩
  rcases hq with ⟨⟨⟨v, ad', h1, h2, -⟩, -⟩, Lc, ⟨e1, e2, e3⟩, e4⟩ | ⟨q, -, E, ce, Lc, ⟨⟨ad', h1, -⟩, -⟩, -⟩
  · cases h1
    refine ⟨h2, ⟨_, h2⟩, e2, e3.weaken (fun x hx hlt => absurd hlt (Nat.not_lt.mpr (e4 x hx))) (Nat.le_refl _) (Nat.le_refl _)⟩
  · cases h1
end
