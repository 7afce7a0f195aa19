/-! KeyringCourtLaw.pass(LKeyringCourt;I[J)I -/
def f_W_pass (S : AS) (a0 : Option Nat) (a1 : Int32) (a2 : Option Nat) : Option (Int32 × AS) :=
  (kr_rv S 22 a0).bind fun u1 =>
  kr_bh (f_K_pass S a0 a1) (fun E S2 => if E = "java/lang/IllegalArgumentException" then
  some ((1 : Int32), S2)
  else if E = "java/lang/IllegalStateException" then
  some ((2 : Int32), S2)
  else none) fun v3 S2 =>
  (bJ S2 a2 (0 : Int32) v3.toInt64).bind fun S4 =>
  some ((0 : Int32), S4)
set_option maxRecDepth 20000 in
set_option maxHeartbeats 4000000 in
theorem s_W_pass {S : AS} {a0 : Option Nat} {a1 : Int32} {a2 : Option Nat} {r : (Int32 × AS)} (h : f_W_pass S a0 a1 a2 = some r) : kr_Con m_W_pass 13 [va_rf a0, .int a1, va_rf a2] S (kr_eI r) := by
  refine kr_conH rfl (by decide) (by decide +kernel) (by simp [lg_sl, kr_rfcat, kr_icat, m_W_pass, mL]) ?_
  rw [show lv_args 0 [va_rf a0, .int a1, va_rf a2] = [(0, va_rf a0), (1, .int a1), (2, va_rf a2)] from by simp [lv_args, kr_rfcat, kr_icat]]
  unfold f_W_pass at h
  refine r_aload_n (i := 2) (x := a2) 2 rfl d_W_pass_0 ?_
  refine r_iconst (v := (0 : Int32)) (by decide) d_W_pass_1 ?_
  refine r_aload_n (i := 0) (x := a0) 0 rfl d_W_pass_2 ?_
  refine r_iload_n (i := 1) (x := a1) 1 rfl d_W_pass_3 ?_
  have h2 := kr_ob h
  clear h
  obtain ⟨⟨⟩, eu1, h⟩ := h2
  rcases kr_obh h with ⟨v3, S2, eS2, h2⟩ | ⟨E, S2, eS2, h2⟩
  · clear h
    have h := h2
    clear h2
    refine r_callV (M1 := m_K_pass) (κ := 22) (As := [.int a1]) eu1 (s_K_pass eS2) mok_K_pass rfl (by decide) rfl w369 w370 w371 (by decide) (kr_c8 (kr_cI (kr_cR kr_c0))) d_W_pass_4 (kr_k1 ?_) kr_kn
    refine r_i2l d_W_pass_7 ?_
    have h2 := kr_ob h
    clear h
    obtain ⟨S4, eS4, h⟩ := h2
    refine r_lastore eS4 d_W_pass_8 ?_
    refine r_goto (tgt := 18) d_W_pass_9 rfl ?_
    refine r_iconst (v := (0 : Int32)) (by decide) d_W_pass_18 ?_
    cases h
    exact r_iret rfl d_W_pass_19
  · by_cases c0 : E = "java/lang/IllegalArgumentException"
    · subst c0
      replace h2 := kr_ip rfl h2
      clear h
      have h := h2
      clear h2
      refine r_callV (M1 := m_K_pass) (κ := 22) (As := [.int a1]) eu1 (s_K_pass eS2) mok_K_pass rfl (by decide) rfl w369 w370 w371 (by decide) (kr_c8 (kr_cI (kr_cR kr_c0))) d_W_pass_4 kr_nk (kr_kx ?_)
      refine r_catch_n (hd := (0, 9, 12, 13)) [] [(0, 9, 15, 15)] ⟨rfl, (fun _ hz => nomatch hz), ⟨by decide, by decide⟩, by decide, w367, w381⟩ (i := 3) (lv' := [(0, va_rf a0), (1, .int a1), (2, va_rf a2)]) (by show List.filter (fun (q : Nat × Value) => !(q.1 == 3) && !(q.1 + 1 == 3 && q.2.category == 2)) _ = _; simp [kr_rfcat, kr_icat]) (by decide) d_W_pass_12 ?_
      refine r_iconst (v := (1 : Int32)) (by decide) d_W_pass_13 ?_
      cases h
      exact r_iret rfl d_W_pass_14
    replace h2 := kr_in_ c0 h2
    by_cases c1 : E = "java/lang/IllegalStateException"
    · subst c1
      replace h2 := kr_ip rfl h2
      clear h
      have h := h2
      clear h2
      refine r_callV (M1 := m_K_pass) (κ := 22) (As := [.int a1]) eu1 (s_K_pass eS2) mok_K_pass rfl (by decide) rfl w369 w370 w371 (by decide) (kr_c8 (kr_cI (kr_cR kr_c0))) d_W_pass_4 kr_nk (kr_kx ?_)
      refine r_catch_n (hd := (0, 9, 15, 15)) [(0, 9, 12, 13)] [] ⟨rfl, (kr_pre ⟨"java/lang/IllegalArgumentException", by decide, w367, by decide⟩ (fun _ hz => nomatch hz)), ⟨by decide, by decide⟩, by decide, w368, w447⟩ (i := 3) (lv' := [(0, va_rf a0), (1, .int a1), (2, va_rf a2)]) (by show List.filter (fun (q : Nat × Value) => !(q.1 == 3) && !(q.1 + 1 == 3 && q.2.category == 2)) _ = _; simp [kr_rfcat, kr_icat]) (by decide) d_W_pass_15 ?_
      refine r_iconst (v := (2 : Int32)) (by decide) d_W_pass_16 ?_
      cases h
      exact r_iret rfl d_W_pass_17
    replace h2 := kr_in_ c1 h2
    cases h2
/-! KeyringCourtLaw.enroll(LKeyringCourt;II[J)I -/
def f_W_enroll (S : AS) (a0 : Option Nat) (a1 : Int32) (a2 : Int32) (a3 : Option Nat) : Option (Int32 × AS) :=
  (kr_rv S 22 a0).bind fun u1 =>
  kr_bh (f_K_enroll S a0 a1 a2) (fun E S2 => if E = "java/lang/IndexOutOfBoundsException" then
  some ((1 : Int32), S2)
  else if E = "java/lang/IllegalArgumentException" then
  some ((2 : Int32), S2)
  else none) fun v3 S2 =>
  (bJ S2 a3 (0 : Int32) v3.toInt64).bind fun S4 =>
  some ((0 : Int32), S4)
set_option maxRecDepth 20000 in
set_option maxHeartbeats 4000000 in
theorem s_W_enroll {S : AS} {a0 : Option Nat} {a1 : Int32} {a2 : Int32} {a3 : Option Nat} {r : (Int32 × AS)} (h : f_W_enroll S a0 a1 a2 a3 = some r) : kr_Con m_W_enroll 9 [va_rf a0, .int a1, .int a2, va_rf a3] S (kr_eI r) := by
  refine kr_conH rfl (by decide) (by decide +kernel) (by simp [lg_sl, kr_rfcat, kr_icat, m_W_enroll, mL]) ?_
  rw [show lv_args 0 [va_rf a0, .int a1, .int a2, va_rf a3] = [(0, va_rf a0), (1, .int a1), (2, .int a2), (3, va_rf a3)] from by simp [lv_args, kr_rfcat, kr_icat]]
  unfold f_W_enroll at h
  refine r_aload_n (i := 3) (x := a3) 3 rfl d_W_enroll_0 ?_
  refine r_iconst (v := (0 : Int32)) (by decide) d_W_enroll_1 ?_
  refine r_aload_n (i := 0) (x := a0) 0 rfl d_W_enroll_2 ?_
  refine r_iload_n (i := 1) (x := a1) 1 rfl d_W_enroll_3 ?_
  refine r_iload_n (i := 2) (x := a2) 2 rfl d_W_enroll_4 ?_
  have h2 := kr_ob h
  clear h
  obtain ⟨⟨⟩, eu1, h⟩ := h2
  rcases kr_obh h with ⟨v3, S2, eS2, h2⟩ | ⟨E, S2, eS2, h2⟩
  · clear h
    have h := h2
    clear h2
    refine r_callV (M1 := m_K_enroll) (κ := 22) (As := [.int a1, .int a2]) eu1 (s_K_enroll eS2) mok_K_enroll rfl (by decide) rfl w555 w556 w557 (by decide) (kr_c8 (kr_cI (kr_cR kr_c0))) d_W_enroll_5 (kr_k1 ?_) kr_kn
    refine r_i2l d_W_enroll_8 ?_
    have h2 := kr_ob h
    clear h
    obtain ⟨S4, eS4, h⟩ := h2
    refine r_lastore eS4 d_W_enroll_9 ?_
    refine r_goto (tgt := 21) d_W_enroll_10 rfl ?_
    refine r_iconst (v := (0 : Int32)) (by decide) d_W_enroll_21 ?_
    cases h
    exact r_iret rfl d_W_enroll_22
  · by_cases c0 : E = "java/lang/IndexOutOfBoundsException"
    · subst c0
      replace h2 := kr_ip rfl h2
      clear h
      have h := h2
      clear h2
      refine r_callV (M1 := m_K_enroll) (κ := 22) (As := [.int a1, .int a2]) eu1 (s_K_enroll eS2) mok_K_enroll rfl (by decide) rfl w555 w556 w557 (by decide) (kr_c8 (kr_cI (kr_cR kr_c0))) d_W_enroll_5 kr_nk (kr_kx ?_)
      refine r_catch (hd := (0, 10, 13, 21)) [] [(0, 10, 17, 13)] ⟨rfl, (fun _ hz => nomatch hz), ⟨by decide, by decide⟩, by decide, w554, w531⟩ (i := 4) (lv' := [(0, va_rf a0), (1, .int a1), (2, .int a2), (3, va_rf a3)]) (by show List.filter (fun (q : Nat × Value) => !(q.1 == 4) && !(q.1 + 1 == 4 && q.2.category == 2)) _ = _; simp [kr_rfcat, kr_icat]) (by decide) d_W_enroll_13 ?_
      refine r_iconst (v := (1 : Int32)) (by decide) d_W_enroll_15 ?_
      cases h
      exact r_iret rfl d_W_enroll_16
    replace h2 := kr_in_ c0 h2
    by_cases c1 : E = "java/lang/IllegalArgumentException"
    · subst c1
      replace h2 := kr_ip rfl h2
      clear h
      have h := h2
      clear h2
      refine r_callV (M1 := m_K_enroll) (κ := 22) (As := [.int a1, .int a2]) eu1 (s_K_enroll eS2) mok_K_enroll rfl (by decide) rfl w555 w556 w557 (by decide) (kr_c8 (kr_cI (kr_cR kr_c0))) d_W_enroll_5 kr_nk (kr_kx ?_)
      refine r_catch (hd := (0, 10, 17, 13)) [(0, 10, 13, 21)] [] ⟨rfl, (kr_pre ⟨"java/lang/IndexOutOfBoundsException", by decide, w554, by decide⟩ (fun _ hz => nomatch hz)), ⟨by decide, by decide⟩, by decide, w367, w381⟩ (i := 4) (lv' := [(0, va_rf a0), (1, .int a1), (2, .int a2), (3, va_rf a3)]) (by show List.filter (fun (q : Nat × Value) => !(q.1 == 4) && !(q.1 + 1 == 4 && q.2.category == 2)) _ = _; simp [kr_rfcat, kr_icat]) (by decide) d_W_enroll_17 ?_
      refine r_iconst (v := (2 : Int32)) (by decide) d_W_enroll_19 ?_
      cases h
      exact r_iret rfl d_W_enroll_20
    replace h2 := kr_in_ c1 h2
    cases h2
/-! KeyringCourtLaw.factor(LKeyringCourt;II[J)I -/
def f_W_factor (S : AS) (a0 : Option Nat) (a1 : Int32) (a2 : Int32) (a3 : Option Nat) : Option (Int32 × AS) :=
  (kr_rv S 22 a0).bind fun u1 =>
  kr_bh (f_K_factor S a0 a1 a2) (fun E S2 => if E = "java/lang/IndexOutOfBoundsException" then
  some ((1 : Int32), S2)
  else if E = "java/lang/IllegalArgumentException" then
  some ((2 : Int32), S2)
  else none) fun v3 S2 =>
  (bJ S2 a3 (0 : Int32) v3.toInt64).bind fun S4 =>
  some ((0 : Int32), S4)
set_option maxRecDepth 20000 in
set_option maxHeartbeats 4000000 in
theorem s_W_factor {S : AS} {a0 : Option Nat} {a1 : Int32} {a2 : Int32} {a3 : Option Nat} {r : (Int32 × AS)} (h : f_W_factor S a0 a1 a2 a3 = some r) : kr_Con m_W_factor 9 [va_rf a0, .int a1, .int a2, va_rf a3] S (kr_eI r) := by
  refine kr_conH rfl (by decide) (by decide +kernel) (by simp [lg_sl, kr_rfcat, kr_icat, m_W_factor, mL]) ?_
  rw [show lv_args 0 [va_rf a0, .int a1, .int a2, va_rf a3] = [(0, va_rf a0), (1, .int a1), (2, .int a2), (3, va_rf a3)] from by simp [lv_args, kr_rfcat, kr_icat]]
  unfold f_W_factor at h
  refine r_aload_n (i := 3) (x := a3) 3 rfl d_W_factor_0 ?_
  refine r_iconst (v := (0 : Int32)) (by decide) d_W_factor_1 ?_
  refine r_aload_n (i := 0) (x := a0) 0 rfl d_W_factor_2 ?_
  refine r_iload_n (i := 1) (x := a1) 1 rfl d_W_factor_3 ?_
  refine r_iload_n (i := 2) (x := a2) 2 rfl d_W_factor_4 ?_
  have h2 := kr_ob h
  clear h
  obtain ⟨⟨⟩, eu1, h⟩ := h2
  rcases kr_obh h with ⟨v3, S2, eS2, h2⟩ | ⟨E, S2, eS2, h2⟩
  · clear h
    have h := h2
    clear h2
    refine r_callV (M1 := m_K_factor) (κ := 22) (As := [.int a1, .int a2]) eu1 (s_K_factor eS2) mok_K_factor rfl (by decide) rfl w578 w579 w580 (by decide) (kr_c8 (kr_cI (kr_cR kr_c0))) d_W_factor_5 (kr_k1 ?_) kr_kn
    refine r_i2l d_W_factor_8 ?_
    have h2 := kr_ob h
    clear h
    obtain ⟨S4, eS4, h⟩ := h2
    refine r_lastore eS4 d_W_factor_9 ?_
    refine r_goto (tgt := 21) d_W_factor_10 rfl ?_
    refine r_iconst (v := (0 : Int32)) (by decide) d_W_factor_21 ?_
    cases h
    exact r_iret rfl d_W_factor_22
  · by_cases c0 : E = "java/lang/IndexOutOfBoundsException"
    · subst c0
      replace h2 := kr_ip rfl h2
      clear h
      have h := h2
      clear h2
      refine r_callV (M1 := m_K_factor) (κ := 22) (As := [.int a1, .int a2]) eu1 (s_K_factor eS2) mok_K_factor rfl (by decide) rfl w578 w579 w580 (by decide) (kr_c8 (kr_cI (kr_cR kr_c0))) d_W_factor_5 kr_nk (kr_kx ?_)
      refine r_catch (hd := (0, 10, 13, 21)) [] [(0, 10, 17, 13)] ⟨rfl, (fun _ hz => nomatch hz), ⟨by decide, by decide⟩, by decide, w554, w531⟩ (i := 4) (lv' := [(0, va_rf a0), (1, .int a1), (2, .int a2), (3, va_rf a3)]) (by show List.filter (fun (q : Nat × Value) => !(q.1 == 4) && !(q.1 + 1 == 4 && q.2.category == 2)) _ = _; simp [kr_rfcat, kr_icat]) (by decide) d_W_factor_13 ?_
      refine r_iconst (v := (1 : Int32)) (by decide) d_W_factor_15 ?_
      cases h
      exact r_iret rfl d_W_factor_16
    replace h2 := kr_in_ c0 h2
    by_cases c1 : E = "java/lang/IllegalArgumentException"
    · subst c1
      replace h2 := kr_ip rfl h2
      clear h
      have h := h2
      clear h2
      refine r_callV (M1 := m_K_factor) (κ := 22) (As := [.int a1, .int a2]) eu1 (s_K_factor eS2) mok_K_factor rfl (by decide) rfl w578 w579 w580 (by decide) (kr_c8 (kr_cI (kr_cR kr_c0))) d_W_factor_5 kr_nk (kr_kx ?_)
      refine r_catch (hd := (0, 10, 17, 13)) [(0, 10, 13, 21)] [] ⟨rfl, (kr_pre ⟨"java/lang/IndexOutOfBoundsException", by decide, w554, by decide⟩ (fun _ hz => nomatch hz)), ⟨by decide, by decide⟩, by decide, w367, w381⟩ (i := 4) (lv' := [(0, va_rf a0), (1, .int a1), (2, .int a2), (3, va_rf a3)]) (by show List.filter (fun (q : Nat × Value) => !(q.1 == 4) && !(q.1 + 1 == 4 && q.2.category == 2)) _ = _; simp [kr_rfcat, kr_icat]) (by decide) d_W_factor_17 ?_
      refine r_iconst (v := (2 : Int32)) (by decide) d_W_factor_19 ?_
      cases h
      exact r_iret rfl d_W_factor_20
    replace h2 := kr_in_ c1 h2
    cases h2
/-! KeyringCourtLaw.step(LKeyringCourt;IIIII[J)I -/
def f_W_step (S : AS) (a0 : Option Nat) (a1 : Int32) (a2 : Int32) (a3 : Int32) (a4 : Int32) (a5 : Int32) (a6 : Option Nat) : Option (Int32 × AS) :=
  (kr_rv S 22 a0).bind fun u1 =>
  kr_bh (f_K_step S a0 a1 a2 a3 a4 a5) (fun E S2 => if E = "java/lang/IllegalArgumentException" then
  some ((1 : Int32), S2)
  else if E = "java/lang/IllegalStateException" then
  some ((2 : Int32), S2)
  else none) fun v3 S2 =>
  (bJ S2 a6 (0 : Int32) v3.toInt64).bind fun S4 =>
  some ((0 : Int32), S4)
set_option maxRecDepth 20000 in
set_option maxHeartbeats 4000000 in
theorem s_W_step {S : AS} {a0 : Option Nat} {a1 : Int32} {a2 : Int32} {a3 : Int32} {a4 : Int32} {a5 : Int32} {a6 : Option Nat} {r : (Int32 × AS)} (h : f_W_step S a0 a1 a2 a3 a4 a5 a6 = some r) : kr_Con m_W_step 9 [va_rf a0, .int a1, .int a2, .int a3, .int a4, .int a5, va_rf a6] S (kr_eI r) := by
  refine kr_conH rfl (by decide) (by decide +kernel) (by simp [lg_sl, kr_rfcat, kr_icat, m_W_step, mL]) ?_
  rw [show lv_args 0 [va_rf a0, .int a1, .int a2, .int a3, .int a4, .int a5, va_rf a6] = [(0, va_rf a0), (1, .int a1), (2, .int a2), (3, .int a3), (4, .int a4), (5, .int a5), (6, va_rf a6)] from by simp [lv_args, kr_rfcat, kr_icat]]
  unfold f_W_step at h
  refine r_aload (i := 6) (x := a6) 6 rfl d_W_step_0 ?_
  refine r_iconst (v := (0 : Int32)) (by decide) d_W_step_2 ?_
  refine r_aload_n (i := 0) (x := a0) 0 rfl d_W_step_3 ?_
  refine r_iload_n (i := 1) (x := a1) 1 rfl d_W_step_4 ?_
  refine r_iload_n (i := 2) (x := a2) 2 rfl d_W_step_5 ?_
  refine r_iload_n (i := 3) (x := a3) 3 rfl d_W_step_6 ?_
  refine r_iload (i := 4) (x := a4) 4 rfl d_W_step_7 ?_
  refine r_iload (i := 5) (x := a5) 5 rfl d_W_step_9 ?_
  have h2 := kr_ob h
  clear h
  obtain ⟨⟨⟩, eu1, h⟩ := h2
  rcases kr_obh h with ⟨v3, S2, eS2, h2⟩ | ⟨E, S2, eS2, h2⟩
  · clear h
    have h := h2
    clear h2
    refine r_callV (M1 := m_K_step) (κ := 22) (As := [.int a1, .int a2, .int a3, .int a4, .int a5]) eu1 (s_K_step eS2) mok_K_step rfl (by decide) rfl w585 w586 w587 (by decide) (kr_c8 (kr_cI (kr_cR kr_c0))) d_W_step_11 (kr_k1 ?_) kr_kn
    refine r_i2l d_W_step_14 ?_
    have h2 := kr_ob h
    clear h
    obtain ⟨S4, eS4, h⟩ := h2
    refine r_lastore eS4 d_W_step_15 ?_
    refine r_goto (tgt := 27) d_W_step_16 rfl ?_
    refine r_iconst (v := (0 : Int32)) (by decide) d_W_step_27 ?_
    cases h
    exact r_iret rfl d_W_step_28
  · by_cases c0 : E = "java/lang/IllegalArgumentException"
    · subst c0
      replace h2 := kr_ip rfl h2
      clear h
      have h := h2
      clear h2
      refine r_callV (M1 := m_K_step) (κ := 22) (As := [.int a1, .int a2, .int a3, .int a4, .int a5]) eu1 (s_K_step eS2) mok_K_step rfl (by decide) rfl w585 w586 w587 (by decide) (kr_c8 (kr_cI (kr_cR kr_c0))) d_W_step_11 kr_nk (kr_kx ?_)
      refine r_catch (hd := (0, 16, 19, 13)) [] [(0, 16, 23, 15)] ⟨rfl, (fun _ hz => nomatch hz), ⟨by decide, by decide⟩, by decide, w367, w381⟩ (i := 7) (lv' := [(0, va_rf a0), (1, .int a1), (2, .int a2), (3, .int a3), (4, .int a4), (5, .int a5), (6, va_rf a6)]) (by show List.filter (fun (q : Nat × Value) => !(q.1 == 7) && !(q.1 + 1 == 7 && q.2.category == 2)) _ = _; simp [kr_rfcat, kr_icat]) (by decide) d_W_step_19 ?_
      refine r_iconst (v := (1 : Int32)) (by decide) d_W_step_21 ?_
      cases h
      exact r_iret rfl d_W_step_22
    replace h2 := kr_in_ c0 h2
    by_cases c1 : E = "java/lang/IllegalStateException"
    · subst c1
      replace h2 := kr_ip rfl h2
      clear h
      have h := h2
      clear h2
      refine r_callV (M1 := m_K_step) (κ := 22) (As := [.int a1, .int a2, .int a3, .int a4, .int a5]) eu1 (s_K_step eS2) mok_K_step rfl (by decide) rfl w585 w586 w587 (by decide) (kr_c8 (kr_cI (kr_cR kr_c0))) d_W_step_11 kr_nk (kr_kx ?_)
      refine r_catch (hd := (0, 16, 23, 15)) [(0, 16, 19, 13)] [] ⟨rfl, (kr_pre ⟨"java/lang/IllegalArgumentException", by decide, w367, by decide⟩ (fun _ hz => nomatch hz)), ⟨by decide, by decide⟩, by decide, w368, w447⟩ (i := 7) (lv' := [(0, va_rf a0), (1, .int a1), (2, .int a2), (3, .int a3), (4, .int a4), (5, .int a5), (6, va_rf a6)]) (by show List.filter (fun (q : Nat × Value) => !(q.1 == 7) && !(q.1 + 1 == 7 && q.2.category == 2)) _ = _; simp [kr_rfcat, kr_icat]) (by decide) d_W_step_23 ?_
      refine r_iconst (v := (2 : Int32)) (by decide) d_W_step_25 ?_
      cases h
      exact r_iret rfl d_W_step_26
    replace h2 := kr_in_ c1 h2
    cases h2
/-! KeyringCourtLaw.publish(LKeyringCourt;[J)I -/
def f_W_publish (S : AS) (a0 : Option Nat) (a1 : Option Nat) : Option (Int32 × AS) :=
  (kr_rv S 22 a0).bind fun u1 =>
  kr_bh (f_K_publish S a0) (fun E S2 => if E = "java/lang/IllegalStateException" then
  some ((1 : Int32), S2)
  else none) fun v3 S2 =>
  (bJ S2 a1 (0 : Int32) v3.toInt64).bind fun S4 =>
  some ((0 : Int32), S4)
set_option maxRecDepth 20000 in
set_option maxHeartbeats 4000000 in
theorem s_W_publish {S : AS} {a0 : Option Nat} {a1 : Option Nat} {r : (Int32 × AS)} (h : f_W_publish S a0 a1 = some r) : kr_Con m_W_publish 9 [va_rf a0, va_rf a1] S (kr_eI r) := by
  refine kr_conH rfl (by decide) (by decide +kernel) (by simp [lg_sl, kr_rfcat, kr_icat, m_W_publish, mL]) ?_
  rw [show lv_args 0 [va_rf a0, va_rf a1] = [(0, va_rf a0), (1, va_rf a1)] from by simp [lv_args, kr_rfcat, kr_icat]]
  unfold f_W_publish at h
  refine r_aload_n (i := 1) (x := a1) 1 rfl d_W_publish_0 ?_
  refine r_iconst (v := (0 : Int32)) (by decide) d_W_publish_1 ?_
  refine r_aload_n (i := 0) (x := a0) 0 rfl d_W_publish_2 ?_
  have h2 := kr_ob h
  clear h
  obtain ⟨⟨⟩, eu1, h⟩ := h2
  rcases kr_obh h with ⟨v3, S2, eS2, h2⟩ | ⟨E, S2, eS2, h2⟩
  · clear h
    have h := h2
    clear h2
    refine r_callV (M1 := m_K_publish) (κ := 22) (As := []) eu1 (s_K_publish eS2) mok_K_publish rfl (by decide) rfl w605 w606 w607 (by decide) (kr_c8 (kr_cI (kr_cR kr_c0))) d_W_publish_3 (kr_k1 ?_) kr_kn
    refine r_i2l d_W_publish_6 ?_
    have h2 := kr_ob h
    clear h
    obtain ⟨S4, eS4, h⟩ := h2
    refine r_lastore eS4 d_W_publish_7 ?_
    refine r_goto (tgt := 14) d_W_publish_8 rfl ?_
    refine r_iconst (v := (0 : Int32)) (by decide) d_W_publish_14 ?_
    cases h
    exact r_iret rfl d_W_publish_15
  · by_cases c0 : E = "java/lang/IllegalStateException"
    · subst c0
      replace h2 := kr_ip rfl h2
      clear h
      have h := h2
      clear h2
      refine r_callV (M1 := m_K_publish) (κ := 22) (As := []) eu1 (s_K_publish eS2) mok_K_publish rfl (by decide) rfl w605 w606 w607 (by decide) (kr_c8 (kr_cI (kr_cR kr_c0))) d_W_publish_3 kr_nk (kr_kx ?_)
      refine r_catch_n (hd := (0, 8, 11, 15)) [] [] ⟨rfl, (fun _ hz => nomatch hz), ⟨by decide, by decide⟩, by decide, w368, w447⟩ (i := 2) (lv' := [(0, va_rf a0), (1, va_rf a1)]) (by show List.filter (fun (q : Nat × Value) => !(q.1 == 2) && !(q.1 + 1 == 2 && q.2.category == 2)) _ = _; simp [kr_rfcat, kr_icat]) (by decide) d_W_publish_11 ?_
      refine r_iconst (v := (1 : Int32)) (by decide) d_W_publish_12 ?_
      cases h
      exact r_iret rfl d_W_publish_13
    replace h2 := kr_in_ c0 h2
    cases h2
/-! KeyringCourtLaw.weakest(LKeyringCourt;I[J)I -/
def f_W_weakest (S : AS) (a0 : Option Nat) (a1 : Int32) (a2 : Option Nat) : Option (Int32 × AS) :=
  (kr_rv S 22 a0).bind fun u1 =>
  kr_bh (f_K_weakest S a0 a1) (fun E S2 => if E = "java/lang/IndexOutOfBoundsException" then
  some ((1 : Int32), S2)
  else none) fun v3 S2 =>
  (bJ S2 a2 (0 : Int32) v3.toInt64).bind fun S4 =>
  some ((0 : Int32), S4)
set_option maxRecDepth 20000 in
set_option maxHeartbeats 4000000 in
theorem s_W_weakest {S : AS} {a0 : Option Nat} {a1 : Int32} {a2 : Option Nat} {r : (Int32 × AS)} (h : f_W_weakest S a0 a1 a2 = some r) : kr_Con m_W_weakest 9 [va_rf a0, .int a1, va_rf a2] S (kr_eI r) := by
  refine kr_conH rfl (by decide) (by decide +kernel) (by simp [lg_sl, kr_rfcat, kr_icat, m_W_weakest, mL]) ?_
  rw [show lv_args 0 [va_rf a0, .int a1, va_rf a2] = [(0, va_rf a0), (1, .int a1), (2, va_rf a2)] from by simp [lv_args, kr_rfcat, kr_icat]]
  unfold f_W_weakest at h
  refine r_aload_n (i := 2) (x := a2) 2 rfl d_W_weakest_0 ?_
  refine r_iconst (v := (0 : Int32)) (by decide) d_W_weakest_1 ?_
  refine r_aload_n (i := 0) (x := a0) 0 rfl d_W_weakest_2 ?_
  refine r_iload_n (i := 1) (x := a1) 1 rfl d_W_weakest_3 ?_
  have h2 := kr_ob h
  clear h
  obtain ⟨⟨⟩, eu1, h⟩ := h2
  rcases kr_obh h with ⟨v3, S2, eS2, h2⟩ | ⟨E, S2, eS2, h2⟩
  · clear h
    have h := h2
    clear h2
    refine r_callV (M1 := m_K_weakest) (κ := 22) (As := [.int a1]) eu1 (s_K_weakest eS2) mok_K_weakest rfl (by decide) rfl w709 w710 w711 (by decide) (kr_c8 (kr_cI (kr_cR kr_c0))) d_W_weakest_4 (kr_k1 ?_) kr_kn
    refine r_i2l d_W_weakest_7 ?_
    have h2 := kr_ob h
    clear h
    obtain ⟨S4, eS4, h⟩ := h2
    refine r_lastore eS4 d_W_weakest_8 ?_
    refine r_goto (tgt := 15) d_W_weakest_9 rfl ?_
    refine r_iconst (v := (0 : Int32)) (by decide) d_W_weakest_15 ?_
    cases h
    exact r_iret rfl d_W_weakest_16
  · by_cases c0 : E = "java/lang/IndexOutOfBoundsException"
    · subst c0
      replace h2 := kr_ip rfl h2
      clear h
      have h := h2
      clear h2
      refine r_callV (M1 := m_K_weakest) (κ := 22) (As := [.int a1]) eu1 (s_K_weakest eS2) mok_K_weakest rfl (by decide) rfl w709 w710 w711 (by decide) (kr_c8 (kr_cI (kr_cR kr_c0))) d_W_weakest_4 kr_nk (kr_kx ?_)
      refine r_catch_n (hd := (0, 9, 12, 21)) [] [] ⟨rfl, (fun _ hz => nomatch hz), ⟨by decide, by decide⟩, by decide, w554, w531⟩ (i := 3) (lv' := [(0, va_rf a0), (1, .int a1), (2, va_rf a2)]) (by show List.filter (fun (q : Nat × Value) => !(q.1 == 3) && !(q.1 + 1 == 3 && q.2.category == 2)) _ = _; simp [kr_rfcat, kr_icat]) (by decide) d_W_weakest_12 ?_
      refine r_iconst (v := (1 : Int32)) (by decide) d_W_weakest_13 ?_
      cases h
      exact r_iret rfl d_W_weakest_14
    replace h2 := kr_in_ c0 h2
    cases h2
/-! KeyringCourtLaw.points(LKeyringCourt;IIZ[J)I -/
def f_W_points (S : AS) (a0 : Option Nat) (a1 : Int32) (a2 : Int32) (a3 : Int32) (a4 : Option Nat) : Option (Int32 × AS) :=
  (kr_rv S 22 a0).bind fun u1 =>
  kr_bh (f_K_points S a0 a1 a2 a3) (fun E S2 => if E = "java/lang/IllegalArgumentException" then
  some ((1 : Int32), S2)
  else none) fun v3 S2 =>
  (bJ S2 a4 (0 : Int32) v3.toInt64).bind fun S4 =>
  some ((0 : Int32), S4)
set_option maxRecDepth 20000 in
set_option maxHeartbeats 4000000 in
theorem s_W_points {S : AS} {a0 : Option Nat} {a1 : Int32} {a2 : Int32} {a3 : Int32} {a4 : Option Nat} {r : (Int32 × AS)} (h : f_W_points S a0 a1 a2 a3 a4 = some r) : kr_Con m_W_points 9 [va_rf a0, .int a1, .int a2, .int a3, va_rf a4] S (kr_eI r) := by
  refine kr_conH rfl (by decide) (by decide +kernel) (by simp [lg_sl, kr_rfcat, kr_icat, m_W_points, mL]) ?_
  rw [show lv_args 0 [va_rf a0, .int a1, .int a2, .int a3, va_rf a4] = [(0, va_rf a0), (1, .int a1), (2, .int a2), (3, .int a3), (4, va_rf a4)] from by simp [lv_args, kr_rfcat, kr_icat]]
  unfold f_W_points at h
  refine r_aload (i := 4) (x := a4) 4 rfl d_W_points_0 ?_
  refine r_iconst (v := (0 : Int32)) (by decide) d_W_points_2 ?_
  refine r_aload_n (i := 0) (x := a0) 0 rfl d_W_points_3 ?_
  refine r_iload_n (i := 1) (x := a1) 1 rfl d_W_points_4 ?_
  refine r_iload_n (i := 2) (x := a2) 2 rfl d_W_points_5 ?_
  refine r_iload_n (i := 3) (x := a3) 3 rfl d_W_points_6 ?_
  have h2 := kr_ob h
  clear h
  obtain ⟨⟨⟩, eu1, h⟩ := h2
  rcases kr_obh h with ⟨v3, S2, eS2, h2⟩ | ⟨E, S2, eS2, h2⟩
  · clear h
    have h := h2
    clear h2
    refine r_callV (M1 := m_K_points) (κ := 22) (As := [.int a1, .int a2, .int a3]) eu1 (s_K_points eS2) mok_K_points rfl (by decide) rfl w760 w761 w762 (by decide) (kr_c8 (kr_cI (kr_cR kr_c0))) d_W_points_7 (kr_k1 ?_) kr_kn
    refine r_i2l d_W_points_10 ?_
    have h2 := kr_ob h
    clear h
    obtain ⟨S4, eS4, h⟩ := h2
    refine r_lastore eS4 d_W_points_11 ?_
    refine r_goto (tgt := 19) d_W_points_12 rfl ?_
    refine r_iconst (v := (0 : Int32)) (by decide) d_W_points_19 ?_
    cases h
    exact r_iret rfl d_W_points_20
  · by_cases c0 : E = "java/lang/IllegalArgumentException"
    · subst c0
      replace h2 := kr_ip rfl h2
      clear h
      have h := h2
      clear h2
      refine r_callV (M1 := m_K_points) (κ := 22) (As := [.int a1, .int a2, .int a3]) eu1 (s_K_points eS2) mok_K_points rfl (by decide) rfl w760 w761 w762 (by decide) (kr_c8 (kr_cI (kr_cR kr_c0))) d_W_points_7 kr_nk (kr_kx ?_)
      refine r_catch (hd := (0, 12, 15, 13)) [] [] ⟨rfl, (fun _ hz => nomatch hz), ⟨by decide, by decide⟩, by decide, w367, w381⟩ (i := 5) (lv' := [(0, va_rf a0), (1, .int a1), (2, .int a2), (3, .int a3), (4, va_rf a4)]) (by show List.filter (fun (q : Nat × Value) => !(q.1 == 5) && !(q.1 + 1 == 5 && q.2.category == 2)) _ = _; simp [kr_rfcat, kr_icat]) (by decide) d_W_points_15 ?_
      refine r_iconst (v := (1 : Int32)) (by decide) d_W_points_17 ?_
      cases h
      exact r_iret rfl d_W_points_18
    replace h2 := kr_in_ c0 h2
    cases h2
/-! KeyringCourtLaw.begin(LKeyringCourt;III[J)I -/
def f_W_begin (S : AS) (a0 : Option Nat) (a1 : Int32) (a2 : Int32) (a3 : Int32) (a4 : Option Nat) : Option (Int32 × AS) :=
  (kr_rv S 22 a0).bind fun u1 =>
  kr_bh (f_K_begin S a0 a1 a2 a3) (fun E S2 => if E = "java/lang/IndexOutOfBoundsException" then
  some ((1 : Int32), S2)
  else if E = "java/lang/IllegalStateException" then
  some ((2 : Int32), S2)
  else none) fun v3 S2 =>
  (bJ S2 a4 (0 : Int32) v3.toInt64).bind fun S4 =>
  some ((0 : Int32), S4)
set_option maxRecDepth 20000 in
set_option maxHeartbeats 4000000 in
theorem s_W_begin {S : AS} {a0 : Option Nat} {a1 : Int32} {a2 : Int32} {a3 : Int32} {a4 : Option Nat} {r : (Int32 × AS)} (h : f_W_begin S a0 a1 a2 a3 a4 = some r) : kr_Con m_W_begin 11 [va_rf a0, .int a1, .int a2, .int a3, va_rf a4] S (kr_eI r) := by
  refine kr_conH rfl (by decide) (by decide +kernel) (by simp [lg_sl, kr_rfcat, kr_icat, m_W_begin, mL]) ?_
  rw [show lv_args 0 [va_rf a0, .int a1, .int a2, .int a3, va_rf a4] = [(0, va_rf a0), (1, .int a1), (2, .int a2), (3, .int a3), (4, va_rf a4)] from by simp [lv_args, kr_rfcat, kr_icat]]
  unfold f_W_begin at h
  refine r_aload (i := 4) (x := a4) 4 rfl d_W_begin_0 ?_
  refine r_iconst (v := (0 : Int32)) (by decide) d_W_begin_2 ?_
  refine r_aload_n (i := 0) (x := a0) 0 rfl d_W_begin_3 ?_
  refine r_iload_n (i := 1) (x := a1) 1 rfl d_W_begin_4 ?_
  refine r_iload_n (i := 2) (x := a2) 2 rfl d_W_begin_5 ?_
  refine r_iload_n (i := 3) (x := a3) 3 rfl d_W_begin_6 ?_
  have h2 := kr_ob h
  clear h
  obtain ⟨⟨⟩, eu1, h⟩ := h2
  rcases kr_obh h with ⟨v3, S2, eS2, h2⟩ | ⟨E, S2, eS2, h2⟩
  · clear h
    have h := h2
    clear h2
    refine r_callV (M1 := m_K_begin) (κ := 22) (As := [.int a1, .int a2, .int a3]) eu1 (s_K_begin eS2) mok_K_begin rfl (by decide) rfl w767 w768 w769 (by decide) (kr_c8 (kr_cI (kr_cR kr_c0))) d_W_begin_7 (kr_k1 ?_) kr_kn
    refine r_i2l d_W_begin_10 ?_
    have h2 := kr_ob h
    clear h
    obtain ⟨S4, eS4, h⟩ := h2
    refine r_lastore eS4 d_W_begin_11 ?_
    refine r_goto (tgt := 23) d_W_begin_12 rfl ?_
    refine r_iconst (v := (0 : Int32)) (by decide) d_W_begin_23 ?_
    cases h
    exact r_iret rfl d_W_begin_24
  · by_cases c0 : E = "java/lang/IndexOutOfBoundsException"
    · subst c0
      replace h2 := kr_ip rfl h2
      clear h
      have h := h2
      clear h2
      refine r_callV (M1 := m_K_begin) (κ := 22) (As := [.int a1, .int a2, .int a3]) eu1 (s_K_begin eS2) mok_K_begin rfl (by decide) rfl w767 w768 w769 (by decide) (kr_c8 (kr_cI (kr_cR kr_c0))) d_W_begin_7 kr_nk (kr_kx ?_)
      refine r_catch (hd := (0, 12, 15, 21)) [] [(0, 12, 19, 15)] ⟨rfl, (fun _ hz => nomatch hz), ⟨by decide, by decide⟩, by decide, w554, w531⟩ (i := 5) (lv' := [(0, va_rf a0), (1, .int a1), (2, .int a2), (3, .int a3), (4, va_rf a4)]) (by show List.filter (fun (q : Nat × Value) => !(q.1 == 5) && !(q.1 + 1 == 5 && q.2.category == 2)) _ = _; simp [kr_rfcat, kr_icat]) (by decide) d_W_begin_15 ?_
      refine r_iconst (v := (1 : Int32)) (by decide) d_W_begin_17 ?_
      cases h
      exact r_iret rfl d_W_begin_18
    replace h2 := kr_in_ c0 h2
    by_cases c1 : E = "java/lang/IllegalStateException"
    · subst c1
      replace h2 := kr_ip rfl h2
      clear h
      have h := h2
      clear h2
      refine r_callV (M1 := m_K_begin) (κ := 22) (As := [.int a1, .int a2, .int a3]) eu1 (s_K_begin eS2) mok_K_begin rfl (by decide) rfl w767 w768 w769 (by decide) (kr_c8 (kr_cI (kr_cR kr_c0))) d_W_begin_7 kr_nk (kr_kx ?_)
      refine r_catch (hd := (0, 12, 19, 15)) [(0, 12, 15, 21)] [] ⟨rfl, (kr_pre ⟨"java/lang/IndexOutOfBoundsException", by decide, w554, by decide⟩ (fun _ hz => nomatch hz)), ⟨by decide, by decide⟩, by decide, w368, w447⟩ (i := 5) (lv' := [(0, va_rf a0), (1, .int a1), (2, .int a2), (3, .int a3), (4, va_rf a4)]) (by show List.filter (fun (q : Nat × Value) => !(q.1 == 5) && !(q.1 + 1 == 5 && q.2.category == 2)) _ = _; simp [kr_rfcat, kr_icat]) (by decide) d_W_begin_19 ?_
      refine r_iconst (v := (2 : Int32)) (by decide) d_W_begin_21 ?_
      cases h
      exact r_iret rfl d_W_begin_22
    replace h2 := kr_in_ c1 h2
    cases h2
/-! KeyringCourtLaw.answer(LKeyringCourt;IZI[J)I -/
def f_W_answer (S : AS) (a0 : Option Nat) (a1 : Int32) (a2 : Int32) (a3 : Int32) (a4 : Option Nat) : Option (Int32 × AS) :=
  (kr_rv S 22 a0).bind fun u1 =>
  kr_bh (f_K_answer S a0 a1 a2 a3) (fun E S2 => if E = "java/lang/IndexOutOfBoundsException" then
  some ((1 : Int32), S2)
  else if E = "java/lang/IllegalArgumentException" then
  some ((2 : Int32), S2)
  else if E = "java/lang/IllegalStateException" then
  some ((3 : Int32), S2)
  else none) fun v3 S2 =>
  (bJ S2 a4 (0 : Int32) v3.toInt64).bind fun S4 =>
  some ((0 : Int32), S4)
set_option maxRecDepth 20000 in
set_option maxHeartbeats 4000000 in
theorem s_W_answer {S : AS} {a0 : Option Nat} {a1 : Int32} {a2 : Int32} {a3 : Int32} {a4 : Option Nat} {r : (Int32 × AS)} (h : f_W_answer S a0 a1 a2 a3 a4 = some r) : kr_Con m_W_answer 12 [va_rf a0, .int a1, .int a2, .int a3, va_rf a4] S (kr_eI r) := by
  refine kr_conH rfl (by decide) (by decide +kernel) (by simp [lg_sl, kr_rfcat, kr_icat, m_W_answer, mL]) ?_
  rw [show lv_args 0 [va_rf a0, .int a1, .int a2, .int a3, va_rf a4] = [(0, va_rf a0), (1, .int a1), (2, .int a2), (3, .int a3), (4, va_rf a4)] from by simp [lv_args, kr_rfcat, kr_icat]]
  unfold f_W_answer at h
  refine r_aload (i := 4) (x := a4) 4 rfl d_W_answer_0 ?_
  refine r_iconst (v := (0 : Int32)) (by decide) d_W_answer_2 ?_
  refine r_aload_n (i := 0) (x := a0) 0 rfl d_W_answer_3 ?_
  refine r_iload_n (i := 1) (x := a1) 1 rfl d_W_answer_4 ?_
  refine r_iload_n (i := 2) (x := a2) 2 rfl d_W_answer_5 ?_
  refine r_iload_n (i := 3) (x := a3) 3 rfl d_W_answer_6 ?_
  have h2 := kr_ob h
  clear h
  obtain ⟨⟨⟩, eu1, h⟩ := h2
  rcases kr_obh h with ⟨v3, S2, eS2, h2⟩ | ⟨E, S2, eS2, h2⟩
  · clear h
    have h := h2
    clear h2
    refine r_callV (M1 := m_K_answer) (κ := 22) (As := [.int a1, .int a2, .int a3]) eu1 (s_K_answer eS2) mok_K_answer rfl (by decide) rfl w917 w918 w919 (by decide) (kr_c8 (kr_cI (kr_cR kr_c0))) d_W_answer_7 (kr_k1 ?_) kr_kn
    refine r_i2l d_W_answer_10 ?_
    have h2 := kr_ob h
    clear h
    obtain ⟨S4, eS4, h⟩ := h2
    refine r_lastore eS4 d_W_answer_11 ?_
    refine r_goto (tgt := 27) d_W_answer_12 rfl ?_
    refine r_iconst (v := (0 : Int32)) (by decide) d_W_answer_27 ?_
    cases h
    exact r_iret rfl d_W_answer_28
  · by_cases c0 : E = "java/lang/IndexOutOfBoundsException"
    · subst c0
      replace h2 := kr_ip rfl h2
      clear h
      have h := h2
      clear h2
      refine r_callV (M1 := m_K_answer) (κ := 22) (As := [.int a1, .int a2, .int a3]) eu1 (s_K_answer eS2) mok_K_answer rfl (by decide) rfl w917 w918 w919 (by decide) (kr_c8 (kr_cI (kr_cR kr_c0))) d_W_answer_7 kr_nk (kr_kx ?_)
      refine r_catch (hd := (0, 12, 15, 21)) [] [(0, 12, 19, 13), (0, 12, 23, 15)] ⟨rfl, (fun _ hz => nomatch hz), ⟨by decide, by decide⟩, by decide, w554, w531⟩ (i := 5) (lv' := [(0, va_rf a0), (1, .int a1), (2, .int a2), (3, .int a3), (4, va_rf a4)]) (by show List.filter (fun (q : Nat × Value) => !(q.1 == 5) && !(q.1 + 1 == 5 && q.2.category == 2)) _ = _; simp [kr_rfcat, kr_icat]) (by decide) d_W_answer_15 ?_
      refine r_iconst (v := (1 : Int32)) (by decide) d_W_answer_17 ?_
      cases h
      exact r_iret rfl d_W_answer_18
    replace h2 := kr_in_ c0 h2
    by_cases c1 : E = "java/lang/IllegalArgumentException"
    · subst c1
      replace h2 := kr_ip rfl h2
      clear h
      have h := h2
      clear h2
      refine r_callV (M1 := m_K_answer) (κ := 22) (As := [.int a1, .int a2, .int a3]) eu1 (s_K_answer eS2) mok_K_answer rfl (by decide) rfl w917 w918 w919 (by decide) (kr_c8 (kr_cI (kr_cR kr_c0))) d_W_answer_7 kr_nk (kr_kx ?_)
      refine r_catch (hd := (0, 12, 19, 13)) [(0, 12, 15, 21)] [(0, 12, 23, 15)] ⟨rfl, (kr_pre ⟨"java/lang/IndexOutOfBoundsException", by decide, w554, by decide⟩ (fun _ hz => nomatch hz)), ⟨by decide, by decide⟩, by decide, w367, w381⟩ (i := 5) (lv' := [(0, va_rf a0), (1, .int a1), (2, .int a2), (3, .int a3), (4, va_rf a4)]) (by show List.filter (fun (q : Nat × Value) => !(q.1 == 5) && !(q.1 + 1 == 5 && q.2.category == 2)) _ = _; simp [kr_rfcat, kr_icat]) (by decide) d_W_answer_19 ?_
      refine r_iconst (v := (2 : Int32)) (by decide) d_W_answer_21 ?_
      cases h
      exact r_iret rfl d_W_answer_22
    replace h2 := kr_in_ c1 h2
    by_cases c2 : E = "java/lang/IllegalStateException"
    · subst c2
      replace h2 := kr_ip rfl h2
      clear h
      have h := h2
      clear h2
      refine r_callV (M1 := m_K_answer) (κ := 22) (As := [.int a1, .int a2, .int a3]) eu1 (s_K_answer eS2) mok_K_answer rfl (by decide) rfl w917 w918 w919 (by decide) (kr_c8 (kr_cI (kr_cR kr_c0))) d_W_answer_7 kr_nk (kr_kx ?_)
      refine r_catch (hd := (0, 12, 23, 15)) [(0, 12, 15, 21), (0, 12, 19, 13)] [] ⟨rfl, (kr_pre ⟨"java/lang/IndexOutOfBoundsException", by decide, w554, by decide⟩ (kr_pre ⟨"java/lang/IllegalArgumentException", by decide, w367, by decide⟩ (fun _ hz => nomatch hz))), ⟨by decide, by decide⟩, by decide, w368, w447⟩ (i := 5) (lv' := [(0, va_rf a0), (1, .int a1), (2, .int a2), (3, .int a3), (4, va_rf a4)]) (by show List.filter (fun (q : Nat × Value) => !(q.1 == 5) && !(q.1 + 1 == 5 && q.2.category == 2)) _ = _; simp [kr_rfcat, kr_icat]) (by decide) d_W_answer_23 ?_
      refine r_iconst (v := (3 : Int32)) (by decide) d_W_answer_25 ?_
      cases h
      exact r_iret rfl d_W_answer_26
    replace h2 := kr_in_ c2 h2
    cases h2
/-! KeyringCourtLaw.state(LKeyringCourt;I[J)I -/
def f_W_state (S : AS) (a0 : Option Nat) (a1 : Int32) (a2 : Option Nat) : Option (Int32 × AS) :=
  (kr_rv S 22 a0).bind fun u1 =>
  kr_bh (f_K_state S a0 a1) (fun E S2 => if E = "java/lang/IndexOutOfBoundsException" then
  some ((1 : Int32), S2)
  else none) fun v3 S2 =>
  (bJ S2 a2 (0 : Int32) v3.toInt64).bind fun S4 =>
  some ((0 : Int32), S4)
set_option maxRecDepth 20000 in
set_option maxHeartbeats 4000000 in
theorem s_W_state {S : AS} {a0 : Option Nat} {a1 : Int32} {a2 : Option Nat} {r : (Int32 × AS)} (h : f_W_state S a0 a1 a2 = some r) : kr_Con m_W_state 10 [va_rf a0, .int a1, va_rf a2] S (kr_eI r) := by
  refine kr_conH rfl (by decide) (by decide +kernel) (by simp [lg_sl, kr_rfcat, kr_icat, m_W_state, mL]) ?_
  rw [show lv_args 0 [va_rf a0, .int a1, va_rf a2] = [(0, va_rf a0), (1, .int a1), (2, va_rf a2)] from by simp [lv_args, kr_rfcat, kr_icat]]
  unfold f_W_state at h
  refine r_aload_n (i := 2) (x := a2) 2 rfl d_W_state_0 ?_
  refine r_iconst (v := (0 : Int32)) (by decide) d_W_state_1 ?_
  refine r_aload_n (i := 0) (x := a0) 0 rfl d_W_state_2 ?_
  refine r_iload_n (i := 1) (x := a1) 1 rfl d_W_state_3 ?_
  have h2 := kr_ob h
  clear h
  obtain ⟨⟨⟩, eu1, h⟩ := h2
  rcases kr_obh h with ⟨v3, S2, eS2, h2⟩ | ⟨E, S2, eS2, h2⟩
  · clear h
    have h := h2
    clear h2
    refine r_callV (M1 := m_K_state) (κ := 22) (As := [.int a1]) eu1 (s_K_state eS2) mok_K_state rfl (by decide) rfl w952 w953 w954 (by decide) (kr_c8 (kr_cI (kr_cR kr_c0))) d_W_state_4 (kr_k1 ?_) kr_kn
    refine r_i2l d_W_state_7 ?_
    have h2 := kr_ob h
    clear h
    obtain ⟨S4, eS4, h⟩ := h2
    refine r_lastore eS4 d_W_state_8 ?_
    refine r_goto (tgt := 15) d_W_state_9 rfl ?_
    refine r_iconst (v := (0 : Int32)) (by decide) d_W_state_15 ?_
    cases h
    exact r_iret rfl d_W_state_16
  · by_cases c0 : E = "java/lang/IndexOutOfBoundsException"
    · subst c0
      replace h2 := kr_ip rfl h2
      clear h
      have h := h2
      clear h2
      refine r_callV (M1 := m_K_state) (κ := 22) (As := [.int a1]) eu1 (s_K_state eS2) mok_K_state rfl (by decide) rfl w952 w953 w954 (by decide) (kr_c8 (kr_cI (kr_cR kr_c0))) d_W_state_4 kr_nk (kr_kx ?_)
      refine r_catch_n (hd := (0, 9, 12, 21)) [] [] ⟨rfl, (fun _ hz => nomatch hz), ⟨by decide, by decide⟩, by decide, w554, w531⟩ (i := 3) (lv' := [(0, va_rf a0), (1, .int a1), (2, va_rf a2)]) (by show List.filter (fun (q : Nat × Value) => !(q.1 == 3) && !(q.1 + 1 == 3 && q.2.category == 2)) _ = _; simp [kr_rfcat, kr_icat]) (by decide) d_W_state_12 ?_
      refine r_iconst (v := (1 : Int32)) (by decide) d_W_state_13 ?_
      cases h
      exact r_iret rfl d_W_state_14
    replace h2 := kr_in_ c0 h2
    cases h2
/-! KeyringCourtLaw.asked(LKeyringCourt;I[J)I -/
def f_W_asked (S : AS) (a0 : Option Nat) (a1 : Int32) (a2 : Option Nat) : Option (Int32 × AS) :=
  (kr_rv S 22 a0).bind fun u1 =>
  kr_bh (f_K_asked S a0 a1) (fun E S2 => if E = "java/lang/IndexOutOfBoundsException" then
  some ((1 : Int32), S2)
  else none) fun v3 S2 =>
  (bJ S2 a2 (0 : Int32) v3.toInt64).bind fun S4 =>
  some ((0 : Int32), S4)
set_option maxRecDepth 20000 in
set_option maxHeartbeats 4000000 in
theorem s_W_asked {S : AS} {a0 : Option Nat} {a1 : Int32} {a2 : Option Nat} {r : (Int32 × AS)} (h : f_W_asked S a0 a1 a2 = some r) : kr_Con m_W_asked 10 [va_rf a0, .int a1, va_rf a2] S (kr_eI r) := by
  refine kr_conH rfl (by decide) (by decide +kernel) (by simp [lg_sl, kr_rfcat, kr_icat, m_W_asked, mL]) ?_
  rw [show lv_args 0 [va_rf a0, .int a1, va_rf a2] = [(0, va_rf a0), (1, .int a1), (2, va_rf a2)] from by simp [lv_args, kr_rfcat, kr_icat]]
  unfold f_W_asked at h
  refine r_aload_n (i := 2) (x := a2) 2 rfl d_W_asked_0 ?_
  refine r_iconst (v := (0 : Int32)) (by decide) d_W_asked_1 ?_
  refine r_aload_n (i := 0) (x := a0) 0 rfl d_W_asked_2 ?_
  refine r_iload_n (i := 1) (x := a1) 1 rfl d_W_asked_3 ?_
  have h2 := kr_ob h
  clear h
  obtain ⟨⟨⟩, eu1, h⟩ := h2
  rcases kr_obh h with ⟨v3, S2, eS2, h2⟩ | ⟨E, S2, eS2, h2⟩
  · clear h
    have h := h2
    clear h2
    refine r_callV (M1 := m_K_asked) (κ := 22) (As := [.int a1]) eu1 (s_K_asked eS2) mok_K_asked rfl (by decide) rfl w959 w960 w961 (by decide) (kr_c8 (kr_cI (kr_cR kr_c0))) d_W_asked_4 (kr_k1 ?_) kr_kn
    refine r_i2l d_W_asked_7 ?_
    have h2 := kr_ob h
    clear h
    obtain ⟨S4, eS4, h⟩ := h2
    refine r_lastore eS4 d_W_asked_8 ?_
    refine r_goto (tgt := 15) d_W_asked_9 rfl ?_
    refine r_iconst (v := (0 : Int32)) (by decide) d_W_asked_15 ?_
    cases h
    exact r_iret rfl d_W_asked_16
  · by_cases c0 : E = "java/lang/IndexOutOfBoundsException"
    · subst c0
      replace h2 := kr_ip rfl h2
      clear h
      have h := h2
      clear h2
      refine r_callV (M1 := m_K_asked) (κ := 22) (As := [.int a1]) eu1 (s_K_asked eS2) mok_K_asked rfl (by decide) rfl w959 w960 w961 (by decide) (kr_c8 (kr_cI (kr_cR kr_c0))) d_W_asked_4 kr_nk (kr_kx ?_)
      refine r_catch_n (hd := (0, 9, 12, 21)) [] [] ⟨rfl, (fun _ hz => nomatch hz), ⟨by decide, by decide⟩, by decide, w554, w531⟩ (i := 3) (lv' := [(0, va_rf a0), (1, .int a1), (2, va_rf a2)]) (by show List.filter (fun (q : Nat × Value) => !(q.1 == 3) && !(q.1 + 1 == 3 && q.2.category == 2)) _ = _; simp [kr_rfcat, kr_icat]) (by decide) d_W_asked_12 ?_
      refine r_iconst (v := (1 : Int32)) (by decide) d_W_asked_13 ?_
      cases h
      exact r_iret rfl d_W_asked_14
    replace h2 := kr_in_ c0 h2
    cases h2
/-! KeyringCourtLaw.sessionOf(LKeyringCourt;I[J)I -/
def f_W_sessionOf (S : AS) (a0 : Option Nat) (a1 : Int32) (a2 : Option Nat) : Option (Int32 × AS) :=
  (kr_rv S 22 a0).bind fun u1 =>
  kr_bh (f_K_sessionOf S a0 a1) (fun E S2 => if E = "java/lang/IndexOutOfBoundsException" then
  some ((1 : Int32), S2)
  else none) fun v3 S2 =>
  (bJ S2 a2 (0 : Int32) v3.toInt64).bind fun S4 =>
  some ((0 : Int32), S4)
set_option maxRecDepth 20000 in
set_option maxHeartbeats 4000000 in
theorem s_W_sessionOf {S : AS} {a0 : Option Nat} {a1 : Int32} {a2 : Option Nat} {r : (Int32 × AS)} (h : f_W_sessionOf S a0 a1 a2 = some r) : kr_Con m_W_sessionOf 10 [va_rf a0, .int a1, va_rf a2] S (kr_eI r) := by
  refine kr_conH rfl (by decide) (by decide +kernel) (by simp [lg_sl, kr_rfcat, kr_icat, m_W_sessionOf, mL]) ?_
  rw [show lv_args 0 [va_rf a0, .int a1, va_rf a2] = [(0, va_rf a0), (1, .int a1), (2, va_rf a2)] from by simp [lv_args, kr_rfcat, kr_icat]]
  unfold f_W_sessionOf at h
  refine r_aload_n (i := 2) (x := a2) 2 rfl d_W_sessionOf_0 ?_
  refine r_iconst (v := (0 : Int32)) (by decide) d_W_sessionOf_1 ?_
  refine r_aload_n (i := 0) (x := a0) 0 rfl d_W_sessionOf_2 ?_
  refine r_iload_n (i := 1) (x := a1) 1 rfl d_W_sessionOf_3 ?_
  have h2 := kr_ob h
  clear h
  obtain ⟨⟨⟩, eu1, h⟩ := h2
  rcases kr_obh h with ⟨v3, S2, eS2, h2⟩ | ⟨E, S2, eS2, h2⟩
  · clear h
    have h := h2
    clear h2
    refine r_callV (M1 := m_K_sessionOf) (κ := 22) (As := [.int a1]) eu1 (s_K_sessionOf eS2) mok_K_sessionOf rfl (by decide) rfl w966 w967 w968 (by decide) (kr_c8 (kr_cI (kr_cR kr_c0))) d_W_sessionOf_4 (kr_k1 ?_) kr_kn
    refine r_i2l d_W_sessionOf_7 ?_
    have h2 := kr_ob h
    clear h
    obtain ⟨S4, eS4, h⟩ := h2
    refine r_lastore eS4 d_W_sessionOf_8 ?_
    refine r_goto (tgt := 15) d_W_sessionOf_9 rfl ?_
    refine r_iconst (v := (0 : Int32)) (by decide) d_W_sessionOf_15 ?_
    cases h
    exact r_iret rfl d_W_sessionOf_16
  · by_cases c0 : E = "java/lang/IndexOutOfBoundsException"
    · subst c0
      replace h2 := kr_ip rfl h2
      clear h
      have h := h2
      clear h2
      refine r_callV (M1 := m_K_sessionOf) (κ := 22) (As := [.int a1]) eu1 (s_K_sessionOf eS2) mok_K_sessionOf rfl (by decide) rfl w966 w967 w968 (by decide) (kr_c8 (kr_cI (kr_cR kr_c0))) d_W_sessionOf_4 kr_nk (kr_kx ?_)
      refine r_catch_n (hd := (0, 9, 12, 21)) [] [] ⟨rfl, (fun _ hz => nomatch hz), ⟨by decide, by decide⟩, by decide, w554, w531⟩ (i := 3) (lv' := [(0, va_rf a0), (1, .int a1), (2, va_rf a2)]) (by show List.filter (fun (q : Nat × Value) => !(q.1 == 3) && !(q.1 + 1 == 3 && q.2.category == 2)) _ = _; simp [kr_rfcat, kr_icat]) (by decide) d_W_sessionOf_12 ?_
      refine r_iconst (v := (1 : Int32)) (by decide) d_W_sessionOf_13 ?_
      cases h
      exact r_iret rfl d_W_sessionOf_14
    replace h2 := kr_in_ c0 h2
    cases h2
/-! KeyringCourtLaw.risk(LKeyringCourt;I[J)I -/
def f_W_risk (S : AS) (a0 : Option Nat) (a1 : Int32) (a2 : Option Nat) : Option (Int32 × AS) :=
  (kr_rv S 22 a0).bind fun u1 =>
  kr_bh (f_K_risk S a0 a1) (fun E S2 => if E = "java/lang/IndexOutOfBoundsException" then
  some ((1 : Int32), S2)
  else none) fun v3 S2 =>
  (bJ S2 a2 (0 : Int32) v3.toInt64).bind fun S4 =>
  some ((0 : Int32), S4)
set_option maxRecDepth 20000 in
set_option maxHeartbeats 4000000 in
theorem s_W_risk {S : AS} {a0 : Option Nat} {a1 : Int32} {a2 : Option Nat} {r : (Int32 × AS)} (h : f_W_risk S a0 a1 a2 = some r) : kr_Con m_W_risk 10 [va_rf a0, .int a1, va_rf a2] S (kr_eI r) := by
  refine kr_conH rfl (by decide) (by decide +kernel) (by simp [lg_sl, kr_rfcat, kr_icat, m_W_risk, mL]) ?_
  rw [show lv_args 0 [va_rf a0, .int a1, va_rf a2] = [(0, va_rf a0), (1, .int a1), (2, va_rf a2)] from by simp [lv_args, kr_rfcat, kr_icat]]
  unfold f_W_risk at h
  refine r_aload_n (i := 2) (x := a2) 2 rfl d_W_risk_0 ?_
  refine r_iconst (v := (0 : Int32)) (by decide) d_W_risk_1 ?_
  refine r_aload_n (i := 0) (x := a0) 0 rfl d_W_risk_2 ?_
  refine r_iload_n (i := 1) (x := a1) 1 rfl d_W_risk_3 ?_
  have h2 := kr_ob h
  clear h
  obtain ⟨⟨⟩, eu1, h⟩ := h2
  rcases kr_obh h with ⟨v3, S2, eS2, h2⟩ | ⟨E, S2, eS2, h2⟩
  · clear h
    have h := h2
    clear h2
    refine r_callV (M1 := m_K_risk) (κ := 22) (As := [.int a1]) eu1 (s_K_risk eS2) mok_K_risk rfl (by decide) rfl w973 w974 w975 (by decide) (kr_c8 (kr_cI (kr_cR kr_c0))) d_W_risk_4 (kr_k1 ?_) kr_kn
    refine r_i2l d_W_risk_7 ?_
    have h2 := kr_ob h
    clear h
    obtain ⟨S4, eS4, h⟩ := h2
    refine r_lastore eS4 d_W_risk_8 ?_
    refine r_goto (tgt := 15) d_W_risk_9 rfl ?_
    refine r_iconst (v := (0 : Int32)) (by decide) d_W_risk_15 ?_
    cases h
    exact r_iret rfl d_W_risk_16
  · by_cases c0 : E = "java/lang/IndexOutOfBoundsException"
    · subst c0
      replace h2 := kr_ip rfl h2
      clear h
      have h := h2
      clear h2
      refine r_callV (M1 := m_K_risk) (κ := 22) (As := [.int a1]) eu1 (s_K_risk eS2) mok_K_risk rfl (by decide) rfl w973 w974 w975 (by decide) (kr_c8 (kr_cI (kr_cR kr_c0))) d_W_risk_4 kr_nk (kr_kx ?_)
      refine r_catch_n (hd := (0, 9, 12, 21)) [] [] ⟨rfl, (fun _ hz => nomatch hz), ⟨by decide, by decide⟩, by decide, w554, w531⟩ (i := 3) (lv' := [(0, va_rf a0), (1, .int a1), (2, va_rf a2)]) (by show List.filter (fun (q : Nat × Value) => !(q.1 == 3) && !(q.1 + 1 == 3 && q.2.category == 2)) _ = _; simp [kr_rfcat, kr_icat]) (by decide) d_W_risk_12 ?_
      refine r_iconst (v := (1 : Int32)) (by decide) d_W_risk_13 ?_
      cases h
      exact r_iret rfl d_W_risk_14
    replace h2 := kr_in_ c0 h2
    cases h2
/-! KeyringCourtLaw.trialRisk(LKeyringCourt;I[J)I -/
def f_W_trialRisk (S : AS) (a0 : Option Nat) (a1 : Int32) (a2 : Option Nat) : Option (Int32 × AS) :=
  (kr_rv S 22 a0).bind fun u1 =>
  kr_bh (f_K_trialRisk S a0 a1) (fun E S2 => if E = "java/lang/IndexOutOfBoundsException" then
  some ((1 : Int32), S2)
  else none) fun v3 S2 =>
  (bJ S2 a2 (0 : Int32) v3.toInt64).bind fun S4 =>
  some ((0 : Int32), S4)
set_option maxRecDepth 20000 in
set_option maxHeartbeats 4000000 in
theorem s_W_trialRisk {S : AS} {a0 : Option Nat} {a1 : Int32} {a2 : Option Nat} {r : (Int32 × AS)} (h : f_W_trialRisk S a0 a1 a2 = some r) : kr_Con m_W_trialRisk 10 [va_rf a0, .int a1, va_rf a2] S (kr_eI r) := by
  refine kr_conH rfl (by decide) (by decide +kernel) (by simp [lg_sl, kr_rfcat, kr_icat, m_W_trialRisk, mL]) ?_
  rw [show lv_args 0 [va_rf a0, .int a1, va_rf a2] = [(0, va_rf a0), (1, .int a1), (2, va_rf a2)] from by simp [lv_args, kr_rfcat, kr_icat]]
  unfold f_W_trialRisk at h
  refine r_aload_n (i := 2) (x := a2) 2 rfl d_W_trialRisk_0 ?_
  refine r_iconst (v := (0 : Int32)) (by decide) d_W_trialRisk_1 ?_
  refine r_aload_n (i := 0) (x := a0) 0 rfl d_W_trialRisk_2 ?_
  refine r_iload_n (i := 1) (x := a1) 1 rfl d_W_trialRisk_3 ?_
  have h2 := kr_ob h
  clear h
  obtain ⟨⟨⟩, eu1, h⟩ := h2
  rcases kr_obh h with ⟨v3, S2, eS2, h2⟩ | ⟨E, S2, eS2, h2⟩
  · clear h
    have h := h2
    clear h2
    refine r_callV (M1 := m_K_trialRisk) (κ := 22) (As := [.int a1]) eu1 (s_K_trialRisk eS2) mok_K_trialRisk rfl (by decide) rfl w980 w981 w982 (by decide) (kr_c8 (kr_cI (kr_cR kr_c0))) d_W_trialRisk_4 (kr_k1 ?_) kr_kn
    refine r_i2l d_W_trialRisk_7 ?_
    have h2 := kr_ob h
    clear h
    obtain ⟨S4, eS4, h⟩ := h2
    refine r_lastore eS4 d_W_trialRisk_8 ?_
    refine r_goto (tgt := 15) d_W_trialRisk_9 rfl ?_
    refine r_iconst (v := (0 : Int32)) (by decide) d_W_trialRisk_15 ?_
    cases h
    exact r_iret rfl d_W_trialRisk_16
  · by_cases c0 : E = "java/lang/IndexOutOfBoundsException"
    · subst c0
      replace h2 := kr_ip rfl h2
      clear h
      have h := h2
      clear h2
      refine r_callV (M1 := m_K_trialRisk) (κ := 22) (As := [.int a1]) eu1 (s_K_trialRisk eS2) mok_K_trialRisk rfl (by decide) rfl w980 w981 w982 (by decide) (kr_c8 (kr_cI (kr_cR kr_c0))) d_W_trialRisk_4 kr_nk (kr_kx ?_)
      refine r_catch_n (hd := (0, 9, 12, 21)) [] [] ⟨rfl, (fun _ hz => nomatch hz), ⟨by decide, by decide⟩, by decide, w554, w531⟩ (i := 3) (lv' := [(0, va_rf a0), (1, .int a1), (2, va_rf a2)]) (by show List.filter (fun (q : Nat × Value) => !(q.1 == 3) && !(q.1 + 1 == 3 && q.2.category == 2)) _ = _; simp [kr_rfcat, kr_icat]) (by decide) d_W_trialRisk_12 ?_
      refine r_iconst (v := (1 : Int32)) (by decide) d_W_trialRisk_13 ?_
      cases h
      exact r_iret rfl d_W_trialRisk_14
    replace h2 := kr_in_ c0 h2
    cases h2
/-! KeyringCourtLaw.isLive(LKeyringCourt;I[J)I -/
def f_W_isLive_B15 (S : AS) (y0 : Option Nat) (y1 : Int32) (y2 : Int64) : Option (Int32 × AS) :=
  (bJ S y0 y1 y2).bind fun S1 =>
  some ((0 : Int32), S1)
def f_W_isLive (S : AS) (a0 : Option Nat) (a1 : Int32) (a2 : Option Nat) : Option (Int32 × AS) :=
  (kr_rv S 22 a0).bind fun u2 =>
  kr_bh (f_K_isLive S a0 a1) (fun E S3 => if E = "java/lang/IndexOutOfBoundsException" then
  some ((1 : Int32), S3)
  else none) fun v4 S3 =>
  if v4 = 0 then
  f_W_isLive_B15 S3 a2 (0 : Int32) (0 : Int64)
  else
  f_W_isLive_B15 S3 a2 (0 : Int32) (1 : Int64)
set_option maxRecDepth 20000 in
set_option maxHeartbeats 4000000 in
theorem s_W_isLive_B15 {S : AS} {y0 : Option Nat} {y1 : Int32} {y2 : Int64} {r : (Int32 × AS)} (h : f_W_isLive_B15 S y0 y1 y2 = some r) : kr_AW m_W_isLive 10 15 [] [.long y2, .int y1, va_rf y0] S (kr_eI r) := by
  unfold f_W_isLive_B15 at h
  have h2 := kr_ob h
  clear h
  obtain ⟨S1, eS1, h⟩ := h2
  refine r_lastore eS1 d_W_isLive_15 ?_
  refine r_goto (tgt := 22) d_W_isLive_16 rfl ?_
  refine r_iconst (v := (0 : Int32)) (by decide) d_W_isLive_22 ?_
  cases h
  exact r_iret rfl d_W_isLive_23
set_option maxRecDepth 20000 in
set_option maxHeartbeats 4000000 in
theorem s_W_isLive {S : AS} {a0 : Option Nat} {a1 : Int32} {a2 : Option Nat} {r : (Int32 × AS)} (h : f_W_isLive S a0 a1 a2 = some r) : kr_Con m_W_isLive 10 [va_rf a0, .int a1, va_rf a2] S (kr_eI r) := by
  refine kr_conH rfl (by decide) (by decide +kernel) (by simp [lg_sl, kr_rfcat, kr_icat, m_W_isLive, mL]) ?_
  rw [show lv_args 0 [va_rf a0, .int a1, va_rf a2] = [(0, va_rf a0), (1, .int a1), (2, va_rf a2)] from by simp [lv_args, kr_rfcat, kr_icat]]
  unfold f_W_isLive at h
  refine r_aload_n (i := 2) (x := a2) 2 rfl d_W_isLive_0 ?_
  refine r_iconst (v := (0 : Int32)) (by decide) d_W_isLive_1 ?_
  refine r_aload_n (i := 0) (x := a0) 0 rfl d_W_isLive_2 ?_
  refine r_iload_n (i := 1) (x := a1) 1 rfl d_W_isLive_3 ?_
  have h2 := kr_ob h
  clear h
  obtain ⟨⟨⟩, eu2, h⟩ := h2
  rcases kr_obh h with ⟨v4, S3, eS3, h2⟩ | ⟨E, S3, eS3, h2⟩
  · clear h
    have h := h2
    clear h2
    refine r_callV (M1 := m_K_isLive) (κ := 22) (As := [.int a1]) eu2 (s_K_isLive eS3) mok_K_isLive rfl (by decide) rfl w987 w988 w989 (by decide) (kr_c8 (kr_cI (kr_cR kr_c0))) d_W_isLive_4 (kr_k1 ?_) kr_kn
    refine r_if_eq (tgt := 14) d_W_isLive_7 rfl (fun c => ?_) (fun c => ?_)
    · replace h := kr_ip c h
      refine r_lconst (v := (0 : Int64)) (by decide) d_W_isLive_14 ?_
      exact kr_sub [] rfl (s_W_isLive_B15 h)
    · replace h := kr_in_ c h
      refine r_lconst (v := (1 : Int64)) (by decide) d_W_isLive_10 ?_
      refine r_goto (tgt := 15) d_W_isLive_11 rfl ?_
      exact kr_sub [] rfl (s_W_isLive_B15 h)
  · by_cases c0 : E = "java/lang/IndexOutOfBoundsException"
    · subst c0
      replace h2 := kr_ip rfl h2
      clear h
      have h := h2
      clear h2
      refine r_callV (M1 := m_K_isLive) (κ := 22) (As := [.int a1]) eu2 (s_K_isLive eS3) mok_K_isLive rfl (by decide) rfl w987 w988 w989 (by decide) (kr_c8 (kr_cI (kr_cR kr_c0))) d_W_isLive_4 kr_nk (kr_kx ?_)
      refine r_catch_n (hd := (0, 16, 19, 21)) [] [] ⟨rfl, (fun _ hz => nomatch hz), ⟨by decide, by decide⟩, by decide, w554, w531⟩ (i := 3) (lv' := [(0, va_rf a0), (1, .int a1), (2, va_rf a2)]) (by show List.filter (fun (q : Nat × Value) => !(q.1 == 3) && !(q.1 + 1 == 3 && q.2.category == 2)) _ = _; simp [kr_rfcat, kr_icat]) (by decide) d_W_isLive_19 ?_
      refine r_iconst (v := (1 : Int32)) (by decide) d_W_isLive_20 ?_
      cases h
      exact r_iret rfl d_W_isLive_21
    replace h2 := kr_in_ c0 h2
    cases h2
/-! KeyringCourtLaw.isLiveByAudit(LKeyringCourt;I[J)I -/
def f_W_isLiveByAudit_B15 (S : AS) (y0 : Option Nat) (y1 : Int32) (y2 : Int64) : Option (Int32 × AS) :=
  (bJ S y0 y1 y2).bind fun S1 =>
  some ((0 : Int32), S1)
def f_W_isLiveByAudit (S : AS) (a0 : Option Nat) (a1 : Int32) (a2 : Option Nat) : Option (Int32 × AS) :=
  (kr_rv S 22 a0).bind fun u2 =>
  kr_bh (f_K_isLiveByAudit S a0 a1) (fun E S3 => if E = "java/lang/IndexOutOfBoundsException" then
  some ((1 : Int32), S3)
  else none) fun v4 S3 =>
  if v4 = 0 then
  f_W_isLiveByAudit_B15 S3 a2 (0 : Int32) (0 : Int64)
  else
  f_W_isLiveByAudit_B15 S3 a2 (0 : Int32) (1 : Int64)
set_option maxRecDepth 20000 in
set_option maxHeartbeats 4000000 in
theorem s_W_isLiveByAudit_B15 {S : AS} {y0 : Option Nat} {y1 : Int32} {y2 : Int64} {r : (Int32 × AS)} (h : f_W_isLiveByAudit_B15 S y0 y1 y2 = some r) : kr_AW m_W_isLiveByAudit 9 15 [] [.long y2, .int y1, va_rf y0] S (kr_eI r) := by
  unfold f_W_isLiveByAudit_B15 at h
  have h2 := kr_ob h
  clear h
  obtain ⟨S1, eS1, h⟩ := h2
  refine r_lastore eS1 d_W_isLiveByAudit_15 ?_
  refine r_goto (tgt := 22) d_W_isLiveByAudit_16 rfl ?_
  refine r_iconst (v := (0 : Int32)) (by decide) d_W_isLiveByAudit_22 ?_
  cases h
  exact r_iret rfl d_W_isLiveByAudit_23
set_option maxRecDepth 20000 in
set_option maxHeartbeats 4000000 in
theorem s_W_isLiveByAudit {S : AS} {a0 : Option Nat} {a1 : Int32} {a2 : Option Nat} {r : (Int32 × AS)} (h : f_W_isLiveByAudit S a0 a1 a2 = some r) : kr_Con m_W_isLiveByAudit 9 [va_rf a0, .int a1, va_rf a2] S (kr_eI r) := by
  refine kr_conH rfl (by decide) (by decide +kernel) (by simp [lg_sl, kr_rfcat, kr_icat, m_W_isLiveByAudit, mL]) ?_
  rw [show lv_args 0 [va_rf a0, .int a1, va_rf a2] = [(0, va_rf a0), (1, .int a1), (2, va_rf a2)] from by simp [lv_args, kr_rfcat, kr_icat]]
  unfold f_W_isLiveByAudit at h
  refine r_aload_n (i := 2) (x := a2) 2 rfl d_W_isLiveByAudit_0 ?_
  refine r_iconst (v := (0 : Int32)) (by decide) d_W_isLiveByAudit_1 ?_
  refine r_aload_n (i := 0) (x := a0) 0 rfl d_W_isLiveByAudit_2 ?_
  refine r_iload_n (i := 1) (x := a1) 1 rfl d_W_isLiveByAudit_3 ?_
  have h2 := kr_ob h
  clear h
  obtain ⟨⟨⟩, eu2, h⟩ := h2
  rcases kr_obh h with ⟨v4, S3, eS3, h2⟩ | ⟨E, S3, eS3, h2⟩
  · clear h
    have h := h2
    clear h2
    refine r_callV (M1 := m_K_isLiveByAudit) (κ := 22) (As := [.int a1]) eu2 (s_K_isLiveByAudit eS3) mok_K_isLiveByAudit rfl (by decide) rfl w998 w999 w1000 (by decide) (kr_c8 (kr_cI (kr_cR kr_c0))) d_W_isLiveByAudit_4 (kr_k1 ?_) kr_kn
    refine r_if_eq (tgt := 14) d_W_isLiveByAudit_7 rfl (fun c => ?_) (fun c => ?_)
    · replace h := kr_ip c h
      refine r_lconst (v := (0 : Int64)) (by decide) d_W_isLiveByAudit_14 ?_
      exact kr_sub [] rfl (s_W_isLiveByAudit_B15 h)
    · replace h := kr_in_ c h
      refine r_lconst (v := (1 : Int64)) (by decide) d_W_isLiveByAudit_10 ?_
      refine r_goto (tgt := 15) d_W_isLiveByAudit_11 rfl ?_
      exact kr_sub [] rfl (s_W_isLiveByAudit_B15 h)
  · by_cases c0 : E = "java/lang/IndexOutOfBoundsException"
    · subst c0
      replace h2 := kr_ip rfl h2
      clear h
      have h := h2
      clear h2
      refine r_callV (M1 := m_K_isLiveByAudit) (κ := 22) (As := [.int a1]) eu2 (s_K_isLiveByAudit eS3) mok_K_isLiveByAudit rfl (by decide) rfl w998 w999 w1000 (by decide) (kr_c8 (kr_cI (kr_cR kr_c0))) d_W_isLiveByAudit_4 kr_nk (kr_kx ?_)
      refine r_catch_n (hd := (0, 16, 19, 21)) [] [] ⟨rfl, (fun _ hz => nomatch hz), ⟨by decide, by decide⟩, by decide, w554, w531⟩ (i := 3) (lv' := [(0, va_rf a0), (1, .int a1), (2, va_rf a2)]) (by show List.filter (fun (q : Nat × Value) => !(q.1 == 3) && !(q.1 + 1 == 3 && q.2.category == 2)) _ = _; simp [kr_rfcat, kr_icat]) (by decide) d_W_isLiveByAudit_19 ?_
      refine r_iconst (v := (1 : Int32)) (by decide) d_W_isLiveByAudit_20 ?_
      cases h
      exact r_iret rfl d_W_isLiveByAudit_21
    replace h2 := kr_in_ c0 h2
    cases h2
/-! KeyringCourtLaw.level(LKeyringCourt;I[J)I -/
def f_W_level (S : AS) (a0 : Option Nat) (a1 : Int32) (a2 : Option Nat) : Option (Int32 × AS) :=
  (kr_rv S 22 a0).bind fun u1 =>
  kr_bh (f_K_level S a0 a1) (fun E S2 => if E = "java/lang/IndexOutOfBoundsException" then
  some ((1 : Int32), S2)
  else none) fun v3 S2 =>
  (bJ S2 a2 (0 : Int32) v3.toInt64).bind fun S4 =>
  some ((0 : Int32), S4)
set_option maxRecDepth 20000 in
set_option maxHeartbeats 4000000 in
theorem s_W_level {S : AS} {a0 : Option Nat} {a1 : Int32} {a2 : Option Nat} {r : (Int32 × AS)} (h : f_W_level S a0 a1 a2 = some r) : kr_Con m_W_level 10 [va_rf a0, .int a1, va_rf a2] S (kr_eI r) := by
  refine kr_conH rfl (by decide) (by decide +kernel) (by simp [lg_sl, kr_rfcat, kr_icat, m_W_level, mL]) ?_
  rw [show lv_args 0 [va_rf a0, .int a1, va_rf a2] = [(0, va_rf a0), (1, .int a1), (2, va_rf a2)] from by simp [lv_args, kr_rfcat, kr_icat]]
  unfold f_W_level at h
  refine r_aload_n (i := 2) (x := a2) 2 rfl d_W_level_0 ?_
  refine r_iconst (v := (0 : Int32)) (by decide) d_W_level_1 ?_
  refine r_aload_n (i := 0) (x := a0) 0 rfl d_W_level_2 ?_
  refine r_iload_n (i := 1) (x := a1) 1 rfl d_W_level_3 ?_
  have h2 := kr_ob h
  clear h
  obtain ⟨⟨⟩, eu1, h⟩ := h2
  rcases kr_obh h with ⟨v3, S2, eS2, h2⟩ | ⟨E, S2, eS2, h2⟩
  · clear h
    have h := h2
    clear h2
    refine r_callV (M1 := m_K_level) (κ := 22) (As := [.int a1]) eu1 (s_K_level eS2) mok_K_level rfl (by decide) rfl w1013 w1014 w1015 (by decide) (kr_c8 (kr_cI (kr_cR kr_c0))) d_W_level_4 (kr_k1 ?_) kr_kn
    refine r_i2l d_W_level_7 ?_
    have h2 := kr_ob h
    clear h
    obtain ⟨S4, eS4, h⟩ := h2
    refine r_lastore eS4 d_W_level_8 ?_
    refine r_goto (tgt := 15) d_W_level_9 rfl ?_
    refine r_iconst (v := (0 : Int32)) (by decide) d_W_level_15 ?_
    cases h
    exact r_iret rfl d_W_level_16
  · by_cases c0 : E = "java/lang/IndexOutOfBoundsException"
    · subst c0
      replace h2 := kr_ip rfl h2
      clear h
      have h := h2
      clear h2
      refine r_callV (M1 := m_K_level) (κ := 22) (As := [.int a1]) eu1 (s_K_level eS2) mok_K_level rfl (by decide) rfl w1013 w1014 w1015 (by decide) (kr_c8 (kr_cI (kr_cR kr_c0))) d_W_level_4 kr_nk (kr_kx ?_)
      refine r_catch_n (hd := (0, 9, 12, 21)) [] [] ⟨rfl, (fun _ hz => nomatch hz), ⟨by decide, by decide⟩, by decide, w554, w531⟩ (i := 3) (lv' := [(0, va_rf a0), (1, .int a1), (2, va_rf a2)]) (by show List.filter (fun (q : Nat × Value) => !(q.1 == 3) && !(q.1 + 1 == 3 && q.2.category == 2)) _ = _; simp [kr_rfcat, kr_icat]) (by decide) d_W_level_12 ?_
      refine r_iconst (v := (1 : Int32)) (by decide) d_W_level_13 ?_
      cases h
      exact r_iret rfl d_W_level_14
    replace h2 := kr_in_ c0 h2
    cases h2
/-! KeyringCourtLaw.stepUp(LKeyringCourt;IIZI[J)I -/
def f_W_stepUp (S : AS) (a0 : Option Nat) (a1 : Int32) (a2 : Int32) (a3 : Int32) (a4 : Int32) (a5 : Option Nat) : Option (Int32 × AS) :=
  (kr_rv S 22 a0).bind fun u1 =>
  kr_bh (f_K_stepUp S a0 a1 a2 a3 a4) (fun E S2 => if E = "java/lang/IndexOutOfBoundsException" then
  some ((1 : Int32), S2)
  else if E = "java/lang/IllegalArgumentException" then
  some ((2 : Int32), S2)
  else if E = "java/lang/IllegalStateException" then
  some ((3 : Int32), S2)
  else none) fun v3 S2 =>
  (bJ S2 a5 (0 : Int32) v3.toInt64).bind fun S4 =>
  some ((0 : Int32), S4)
set_option maxRecDepth 20000 in
set_option maxHeartbeats 4000000 in
theorem s_W_stepUp {S : AS} {a0 : Option Nat} {a1 : Int32} {a2 : Int32} {a3 : Int32} {a4 : Int32} {a5 : Option Nat} {r : (Int32 × AS)} (h : f_W_stepUp S a0 a1 a2 a3 a4 a5 = some r) : kr_Con m_W_stepUp 10 [va_rf a0, .int a1, .int a2, .int a3, .int a4, va_rf a5] S (kr_eI r) := by
  refine kr_conH rfl (by decide) (by decide +kernel) (by simp [lg_sl, kr_rfcat, kr_icat, m_W_stepUp, mL]) ?_
  rw [show lv_args 0 [va_rf a0, .int a1, .int a2, .int a3, .int a4, va_rf a5] = [(0, va_rf a0), (1, .int a1), (2, .int a2), (3, .int a3), (4, .int a4), (5, va_rf a5)] from by simp [lv_args, kr_rfcat, kr_icat]]
  unfold f_W_stepUp at h
  refine r_aload (i := 5) (x := a5) 5 rfl d_W_stepUp_0 ?_
  refine r_iconst (v := (0 : Int32)) (by decide) d_W_stepUp_2 ?_
  refine r_aload_n (i := 0) (x := a0) 0 rfl d_W_stepUp_3 ?_
  refine r_iload_n (i := 1) (x := a1) 1 rfl d_W_stepUp_4 ?_
  refine r_iload_n (i := 2) (x := a2) 2 rfl d_W_stepUp_5 ?_
  refine r_iload_n (i := 3) (x := a3) 3 rfl d_W_stepUp_6 ?_
  refine r_iload (i := 4) (x := a4) 4 rfl d_W_stepUp_7 ?_
  have h2 := kr_ob h
  clear h
  obtain ⟨⟨⟩, eu1, h⟩ := h2
  rcases kr_obh h with ⟨v3, S2, eS2, h2⟩ | ⟨E, S2, eS2, h2⟩
  · clear h
    have h := h2
    clear h2
    refine r_callV (M1 := m_K_stepUp) (κ := 22) (As := [.int a1, .int a2, .int a3, .int a4]) eu1 (s_K_stepUp eS2) mok_K_stepUp rfl (by decide) rfl w1025 w1026 w1027 (by decide) (kr_c8 (kr_cI (kr_cR kr_c0))) d_W_stepUp_9 (kr_k1 ?_) kr_kn
    refine r_i2l d_W_stepUp_12 ?_
    have h2 := kr_ob h
    clear h
    obtain ⟨S4, eS4, h⟩ := h2
    refine r_lastore eS4 d_W_stepUp_13 ?_
    refine r_goto (tgt := 29) d_W_stepUp_14 rfl ?_
    refine r_iconst (v := (0 : Int32)) (by decide) d_W_stepUp_29 ?_
    cases h
    exact r_iret rfl d_W_stepUp_30
  · by_cases c0 : E = "java/lang/IndexOutOfBoundsException"
    · subst c0
      replace h2 := kr_ip rfl h2
      clear h
      have h := h2
      clear h2
      refine r_callV (M1 := m_K_stepUp) (κ := 22) (As := [.int a1, .int a2, .int a3, .int a4]) eu1 (s_K_stepUp eS2) mok_K_stepUp rfl (by decide) rfl w1025 w1026 w1027 (by decide) (kr_c8 (kr_cI (kr_cR kr_c0))) d_W_stepUp_9 kr_nk (kr_kx ?_)
      refine r_catch (hd := (0, 14, 17, 21)) [] [(0, 14, 21, 13), (0, 14, 25, 15)] ⟨rfl, (fun _ hz => nomatch hz), ⟨by decide, by decide⟩, by decide, w554, w531⟩ (i := 6) (lv' := [(0, va_rf a0), (1, .int a1), (2, .int a2), (3, .int a3), (4, .int a4), (5, va_rf a5)]) (by show List.filter (fun (q : Nat × Value) => !(q.1 == 6) && !(q.1 + 1 == 6 && q.2.category == 2)) _ = _; simp [kr_rfcat, kr_icat]) (by decide) d_W_stepUp_17 ?_
      refine r_iconst (v := (1 : Int32)) (by decide) d_W_stepUp_19 ?_
      cases h
      exact r_iret rfl d_W_stepUp_20
    replace h2 := kr_in_ c0 h2
    by_cases c1 : E = "java/lang/IllegalArgumentException"
    · subst c1
      replace h2 := kr_ip rfl h2
      clear h
      have h := h2
      clear h2
      refine r_callV (M1 := m_K_stepUp) (κ := 22) (As := [.int a1, .int a2, .int a3, .int a4]) eu1 (s_K_stepUp eS2) mok_K_stepUp rfl (by decide) rfl w1025 w1026 w1027 (by decide) (kr_c8 (kr_cI (kr_cR kr_c0))) d_W_stepUp_9 kr_nk (kr_kx ?_)
      refine r_catch (hd := (0, 14, 21, 13)) [(0, 14, 17, 21)] [(0, 14, 25, 15)] ⟨rfl, (kr_pre ⟨"java/lang/IndexOutOfBoundsException", by decide, w554, by decide⟩ (fun _ hz => nomatch hz)), ⟨by decide, by decide⟩, by decide, w367, w381⟩ (i := 6) (lv' := [(0, va_rf a0), (1, .int a1), (2, .int a2), (3, .int a3), (4, .int a4), (5, va_rf a5)]) (by show List.filter (fun (q : Nat × Value) => !(q.1 == 6) && !(q.1 + 1 == 6 && q.2.category == 2)) _ = _; simp [kr_rfcat, kr_icat]) (by decide) d_W_stepUp_21 ?_
      refine r_iconst (v := (2 : Int32)) (by decide) d_W_stepUp_23 ?_
      cases h
      exact r_iret rfl d_W_stepUp_24
    replace h2 := kr_in_ c1 h2
    by_cases c2 : E = "java/lang/IllegalStateException"
    · subst c2
      replace h2 := kr_ip rfl h2
      clear h
      have h := h2
      clear h2
      refine r_callV (M1 := m_K_stepUp) (κ := 22) (As := [.int a1, .int a2, .int a3, .int a4]) eu1 (s_K_stepUp eS2) mok_K_stepUp rfl (by decide) rfl w1025 w1026 w1027 (by decide) (kr_c8 (kr_cI (kr_cR kr_c0))) d_W_stepUp_9 kr_nk (kr_kx ?_)
      refine r_catch (hd := (0, 14, 25, 15)) [(0, 14, 17, 21), (0, 14, 21, 13)] [] ⟨rfl, (kr_pre ⟨"java/lang/IndexOutOfBoundsException", by decide, w554, by decide⟩ (kr_pre ⟨"java/lang/IllegalArgumentException", by decide, w367, by decide⟩ (fun _ hz => nomatch hz))), ⟨by decide, by decide⟩, by decide, w368, w447⟩ (i := 6) (lv' := [(0, va_rf a0), (1, .int a1), (2, .int a2), (3, .int a3), (4, .int a4), (5, va_rf a5)]) (by show List.filter (fun (q : Nat × Value) => !(q.1 == 6) && !(q.1 + 1 == 6 && q.2.category == 2)) _ = _; simp [kr_rfcat, kr_icat]) (by decide) d_W_stepUp_25 ?_
      refine r_iconst (v := (3 : Int32)) (by decide) d_W_stepUp_27 ?_
      cases h
      exact r_iret rfl d_W_stepUp_28
    replace h2 := kr_in_ c2 h2
    cases h2
/-! KeyringCourtLaw.signOut(LKeyringCourt;I[J)I -/
def f_W_signOut (S : AS) (a0 : Option Nat) (a1 : Int32) (a2 : Option Nat) : Option (Int32 × AS) :=
  (kr_rv S 22 a0).bind fun u1 =>
  kr_bh (f_K_signOut S a0 a1) (fun E S2 => if E = "java/lang/IndexOutOfBoundsException" then
  some ((1 : Int32), S2)
  else if E = "java/lang/IllegalStateException" then
  some ((2 : Int32), S2)
  else none) fun v3 S2 =>
  (bJ S2 a2 (0 : Int32) v3.toInt64).bind fun S4 =>
  some ((0 : Int32), S4)
set_option maxRecDepth 20000 in
set_option maxHeartbeats 4000000 in
theorem s_W_signOut {S : AS} {a0 : Option Nat} {a1 : Int32} {a2 : Option Nat} {r : (Int32 × AS)} (h : f_W_signOut S a0 a1 a2 = some r) : kr_Con m_W_signOut 12 [va_rf a0, .int a1, va_rf a2] S (kr_eI r) := by
  refine kr_conH rfl (by decide) (by decide +kernel) (by simp [lg_sl, kr_rfcat, kr_icat, m_W_signOut, mL]) ?_
  rw [show lv_args 0 [va_rf a0, .int a1, va_rf a2] = [(0, va_rf a0), (1, .int a1), (2, va_rf a2)] from by simp [lv_args, kr_rfcat, kr_icat]]
  unfold f_W_signOut at h
  refine r_aload_n (i := 2) (x := a2) 2 rfl d_W_signOut_0 ?_
  refine r_iconst (v := (0 : Int32)) (by decide) d_W_signOut_1 ?_
  refine r_aload_n (i := 0) (x := a0) 0 rfl d_W_signOut_2 ?_
  refine r_iload_n (i := 1) (x := a1) 1 rfl d_W_signOut_3 ?_
  have h2 := kr_ob h
  clear h
  obtain ⟨⟨⟩, eu1, h⟩ := h2
  rcases kr_obh h with ⟨v3, S2, eS2, h2⟩ | ⟨E, S2, eS2, h2⟩
  · clear h
    have h := h2
    clear h2
    refine r_callV (M1 := m_K_signOut) (κ := 22) (As := [.int a1]) eu1 (s_K_signOut eS2) mok_K_signOut rfl (by decide) rfl w1032 w1033 w1034 (by decide) (kr_c8 (kr_cI (kr_cR kr_c0))) d_W_signOut_4 (kr_k1 ?_) kr_kn
    refine r_i2l d_W_signOut_7 ?_
    have h2 := kr_ob h
    clear h
    obtain ⟨S4, eS4, h⟩ := h2
    refine r_lastore eS4 d_W_signOut_8 ?_
    refine r_goto (tgt := 18) d_W_signOut_9 rfl ?_
    refine r_iconst (v := (0 : Int32)) (by decide) d_W_signOut_18 ?_
    cases h
    exact r_iret rfl d_W_signOut_19
  · by_cases c0 : E = "java/lang/IndexOutOfBoundsException"
    · subst c0
      replace h2 := kr_ip rfl h2
      clear h
      have h := h2
      clear h2
      refine r_callV (M1 := m_K_signOut) (κ := 22) (As := [.int a1]) eu1 (s_K_signOut eS2) mok_K_signOut rfl (by decide) rfl w1032 w1033 w1034 (by decide) (kr_c8 (kr_cI (kr_cR kr_c0))) d_W_signOut_4 kr_nk (kr_kx ?_)
      refine r_catch_n (hd := (0, 9, 12, 21)) [] [(0, 9, 15, 15)] ⟨rfl, (fun _ hz => nomatch hz), ⟨by decide, by decide⟩, by decide, w554, w531⟩ (i := 3) (lv' := [(0, va_rf a0), (1, .int a1), (2, va_rf a2)]) (by show List.filter (fun (q : Nat × Value) => !(q.1 == 3) && !(q.1 + 1 == 3 && q.2.category == 2)) _ = _; simp [kr_rfcat, kr_icat]) (by decide) d_W_signOut_12 ?_
      refine r_iconst (v := (1 : Int32)) (by decide) d_W_signOut_13 ?_
      cases h
      exact r_iret rfl d_W_signOut_14
    replace h2 := kr_in_ c0 h2
    by_cases c1 : E = "java/lang/IllegalStateException"
    · subst c1
      replace h2 := kr_ip rfl h2
      clear h
      have h := h2
      clear h2
      refine r_callV (M1 := m_K_signOut) (κ := 22) (As := [.int a1]) eu1 (s_K_signOut eS2) mok_K_signOut rfl (by decide) rfl w1032 w1033 w1034 (by decide) (kr_c8 (kr_cI (kr_cR kr_c0))) d_W_signOut_4 kr_nk (kr_kx ?_)
      refine r_catch_n (hd := (0, 9, 15, 15)) [(0, 9, 12, 21)] [] ⟨rfl, (kr_pre ⟨"java/lang/IndexOutOfBoundsException", by decide, w554, by decide⟩ (fun _ hz => nomatch hz)), ⟨by decide, by decide⟩, by decide, w368, w447⟩ (i := 3) (lv' := [(0, va_rf a0), (1, .int a1), (2, va_rf a2)]) (by show List.filter (fun (q : Nat × Value) => !(q.1 == 3) && !(q.1 + 1 == 3 && q.2.category == 2)) _ = _; simp [kr_rfcat, kr_icat]) (by decide) d_W_signOut_15 ?_
      refine r_iconst (v := (2 : Int32)) (by decide) d_W_signOut_16 ?_
      cases h
      exact r_iret rfl d_W_signOut_17
    replace h2 := kr_in_ c1 h2
    cases h2
/-! KeyringCourtLaw.helper(LKeyringCourt;I[J)I -/
def f_W_helper_B15 (S : AS) (y0 : Option Nat) (y1 : Int32) (y2 : Int64) : Option (Int32 × AS) :=
  (bJ S y0 y1 y2).bind fun S1 =>
  some ((0 : Int32), S1)
def f_W_helper (S : AS) (a0 : Option Nat) (a1 : Int32) (a2 : Option Nat) : Option (Int32 × AS) :=
  (kr_rv S 22 a0).bind fun u2 =>
  kr_bh (f_K_helper S a0 a1) (fun E S3 => if E = "java/lang/IndexOutOfBoundsException" then
  some ((1 : Int32), S3)
  else none) fun v4 S3 =>
  if v4 = 0 then
  f_W_helper_B15 S3 a2 (0 : Int32) (0 : Int64)
  else
  f_W_helper_B15 S3 a2 (0 : Int32) (1 : Int64)
set_option maxRecDepth 20000 in
set_option maxHeartbeats 4000000 in
theorem s_W_helper_B15 {S : AS} {y0 : Option Nat} {y1 : Int32} {y2 : Int64} {r : (Int32 × AS)} (h : f_W_helper_B15 S y0 y1 y2 = some r) : kr_AW m_W_helper 9 15 [] [.long y2, .int y1, va_rf y0] S (kr_eI r) := by
  unfold f_W_helper_B15 at h
  have h2 := kr_ob h
  clear h
  obtain ⟨S1, eS1, h⟩ := h2
  refine r_lastore eS1 d_W_helper_15 ?_
  refine r_goto (tgt := 22) d_W_helper_16 rfl ?_
  refine r_iconst (v := (0 : Int32)) (by decide) d_W_helper_22 ?_
  cases h
  exact r_iret rfl d_W_helper_23
set_option maxRecDepth 20000 in
set_option maxHeartbeats 4000000 in
theorem s_W_helper {S : AS} {a0 : Option Nat} {a1 : Int32} {a2 : Option Nat} {r : (Int32 × AS)} (h : f_W_helper S a0 a1 a2 = some r) : kr_Con m_W_helper 9 [va_rf a0, .int a1, va_rf a2] S (kr_eI r) := by
  refine kr_conH rfl (by decide) (by decide +kernel) (by simp [lg_sl, kr_rfcat, kr_icat, m_W_helper, mL]) ?_
  rw [show lv_args 0 [va_rf a0, .int a1, va_rf a2] = [(0, va_rf a0), (1, .int a1), (2, va_rf a2)] from by simp [lv_args, kr_rfcat, kr_icat]]
  unfold f_W_helper at h
  refine r_aload_n (i := 2) (x := a2) 2 rfl d_W_helper_0 ?_
  refine r_iconst (v := (0 : Int32)) (by decide) d_W_helper_1 ?_
  refine r_aload_n (i := 0) (x := a0) 0 rfl d_W_helper_2 ?_
  refine r_iload_n (i := 1) (x := a1) 1 rfl d_W_helper_3 ?_
  have h2 := kr_ob h
  clear h
  obtain ⟨⟨⟩, eu2, h⟩ := h2
  rcases kr_obh h with ⟨v4, S3, eS3, h2⟩ | ⟨E, S3, eS3, h2⟩
  · clear h
    have h := h2
    clear h2
    refine r_callV (M1 := m_K_helper) (κ := 22) (As := [.int a1]) eu2 (s_K_helper eS3) mok_K_helper rfl (by decide) rfl w1039 w1040 w1041 (by decide) (kr_c8 (kr_cI (kr_cR kr_c0))) d_W_helper_4 (kr_k1 ?_) kr_kn
    refine r_if_eq (tgt := 14) d_W_helper_7 rfl (fun c => ?_) (fun c => ?_)
    · replace h := kr_ip c h
      refine r_lconst (v := (0 : Int64)) (by decide) d_W_helper_14 ?_
      exact kr_sub [] rfl (s_W_helper_B15 h)
    · replace h := kr_in_ c h
      refine r_lconst (v := (1 : Int64)) (by decide) d_W_helper_10 ?_
      refine r_goto (tgt := 15) d_W_helper_11 rfl ?_
      exact kr_sub [] rfl (s_W_helper_B15 h)
  · by_cases c0 : E = "java/lang/IndexOutOfBoundsException"
    · subst c0
      replace h2 := kr_ip rfl h2
      clear h
      have h := h2
      clear h2
      refine r_callV (M1 := m_K_helper) (κ := 22) (As := [.int a1]) eu2 (s_K_helper eS3) mok_K_helper rfl (by decide) rfl w1039 w1040 w1041 (by decide) (kr_c8 (kr_cI (kr_cR kr_c0))) d_W_helper_4 kr_nk (kr_kx ?_)
      refine r_catch_n (hd := (0, 16, 19, 21)) [] [] ⟨rfl, (fun _ hz => nomatch hz), ⟨by decide, by decide⟩, by decide, w554, w531⟩ (i := 3) (lv' := [(0, va_rf a0), (1, .int a1), (2, va_rf a2)]) (by show List.filter (fun (q : Nat × Value) => !(q.1 == 3) && !(q.1 + 1 == 3 && q.2.category == 2)) _ = _; simp [kr_rfcat, kr_icat]) (by decide) d_W_helper_19 ?_
      refine r_iconst (v := (1 : Int32)) (by decide) d_W_helper_20 ?_
      cases h
      exact r_iret rfl d_W_helper_21
    replace h2 := kr_in_ c0 h2
    cases h2
/-! KeyringCourtLaw.act(LKeyringCourt;II[J)I -/
def f_W_act (S : AS) (a0 : Option Nat) (a1 : Int32) (a2 : Int32) (a3 : Option Nat) : Option (Int32 × AS) :=
  (kr_rv S 22 a0).bind fun u1 =>
  kr_bh (f_K_act S a0 a1 a2) (fun E S2 => if E = "java/lang/IndexOutOfBoundsException" then
  some ((1 : Int32), S2)
  else if E = "java/lang/IllegalStateException" then
  some ((2 : Int32), S2)
  else none) fun v3 S2 =>
  (bJ S2 a3 (0 : Int32) v3.toInt64).bind fun S4 =>
  some ((0 : Int32), S4)
set_option maxRecDepth 20000 in
set_option maxHeartbeats 4000000 in
theorem s_W_act {S : AS} {a0 : Option Nat} {a1 : Int32} {a2 : Int32} {a3 : Option Nat} {r : (Int32 × AS)} (h : f_W_act S a0 a1 a2 a3 = some r) : kr_Con m_W_act 10 [va_rf a0, .int a1, .int a2, va_rf a3] S (kr_eI r) := by
  refine kr_conH rfl (by decide) (by decide +kernel) (by simp [lg_sl, kr_rfcat, kr_icat, m_W_act, mL]) ?_
  rw [show lv_args 0 [va_rf a0, .int a1, .int a2, va_rf a3] = [(0, va_rf a0), (1, .int a1), (2, .int a2), (3, va_rf a3)] from by simp [lv_args, kr_rfcat, kr_icat]]
  unfold f_W_act at h
  refine r_aload_n (i := 3) (x := a3) 3 rfl d_W_act_0 ?_
  refine r_iconst (v := (0 : Int32)) (by decide) d_W_act_1 ?_
  refine r_aload_n (i := 0) (x := a0) 0 rfl d_W_act_2 ?_
  refine r_iload_n (i := 1) (x := a1) 1 rfl d_W_act_3 ?_
  refine r_iload_n (i := 2) (x := a2) 2 rfl d_W_act_4 ?_
  have h2 := kr_ob h
  clear h
  obtain ⟨⟨⟩, eu1, h⟩ := h2
  rcases kr_obh h with ⟨v3, S2, eS2, h2⟩ | ⟨E, S2, eS2, h2⟩
  · clear h
    have h := h2
    clear h2
    refine r_callV (M1 := m_K_act) (κ := 22) (As := [.int a1, .int a2]) eu1 (s_K_act eS2) mok_K_act rfl (by decide) rfl w1046 w1047 w1048 (by decide) (kr_c8 (kr_cI (kr_cR kr_c0))) d_W_act_5 (kr_k1 ?_) kr_kn
    refine r_i2l d_W_act_8 ?_
    have h2 := kr_ob h
    clear h
    obtain ⟨S4, eS4, h⟩ := h2
    refine r_lastore eS4 d_W_act_9 ?_
    refine r_goto (tgt := 21) d_W_act_10 rfl ?_
    refine r_iconst (v := (0 : Int32)) (by decide) d_W_act_21 ?_
    cases h
    exact r_iret rfl d_W_act_22
  · by_cases c0 : E = "java/lang/IndexOutOfBoundsException"
    · subst c0
      replace h2 := kr_ip rfl h2
      clear h
      have h := h2
      clear h2
      refine r_callV (M1 := m_K_act) (κ := 22) (As := [.int a1, .int a2]) eu1 (s_K_act eS2) mok_K_act rfl (by decide) rfl w1046 w1047 w1048 (by decide) (kr_c8 (kr_cI (kr_cR kr_c0))) d_W_act_5 kr_nk (kr_kx ?_)
      refine r_catch (hd := (0, 10, 13, 21)) [] [(0, 10, 17, 15)] ⟨rfl, (fun _ hz => nomatch hz), ⟨by decide, by decide⟩, by decide, w554, w531⟩ (i := 4) (lv' := [(0, va_rf a0), (1, .int a1), (2, .int a2), (3, va_rf a3)]) (by show List.filter (fun (q : Nat × Value) => !(q.1 == 4) && !(q.1 + 1 == 4 && q.2.category == 2)) _ = _; simp [kr_rfcat, kr_icat]) (by decide) d_W_act_13 ?_
      refine r_iconst (v := (1 : Int32)) (by decide) d_W_act_15 ?_
      cases h
      exact r_iret rfl d_W_act_16
    replace h2 := kr_in_ c0 h2
    by_cases c1 : E = "java/lang/IllegalStateException"
    · subst c1
      replace h2 := kr_ip rfl h2
      clear h
      have h := h2
      clear h2
      refine r_callV (M1 := m_K_act) (κ := 22) (As := [.int a1, .int a2]) eu1 (s_K_act eS2) mok_K_act rfl (by decide) rfl w1046 w1047 w1048 (by decide) (kr_c8 (kr_cI (kr_cR kr_c0))) d_W_act_5 kr_nk (kr_kx ?_)
      refine r_catch (hd := (0, 10, 17, 15)) [(0, 10, 13, 21)] [] ⟨rfl, (kr_pre ⟨"java/lang/IndexOutOfBoundsException", by decide, w554, by decide⟩ (fun _ hz => nomatch hz)), ⟨by decide, by decide⟩, by decide, w368, w447⟩ (i := 4) (lv' := [(0, va_rf a0), (1, .int a1), (2, .int a2), (3, va_rf a3)]) (by show List.filter (fun (q : Nat × Value) => !(q.1 == 4) && !(q.1 + 1 == 4 && q.2.category == 2)) _ = _; simp [kr_rfcat, kr_icat]) (by decide) d_W_act_17 ?_
      refine r_iconst (v := (2 : Int32)) (by decide) d_W_act_19 ?_
      cases h
      exact r_iret rfl d_W_act_20
    replace h2 := kr_in_ c1 h2
    cases h2
/-! KeyringCourtLaw.consent(LKeyringCourt;III[J)I -/
def f_W_consent (S : AS) (a0 : Option Nat) (a1 : Int32) (a2 : Int32) (a3 : Int32) (a4 : Option Nat) : Option (Int32 × AS) :=
  (kr_rv S 22 a0).bind fun u1 =>
  kr_bh (f_K_consent S a0 a1 a2 a3) (fun E S2 => if E = "java/lang/IndexOutOfBoundsException" then
  some ((1 : Int32), S2)
  else if E = "java/lang/IllegalArgumentException" then
  some ((2 : Int32), S2)
  else none) fun v3 S2 =>
  (bJ S2 a4 (0 : Int32) v3.toInt64).bind fun S4 =>
  some ((0 : Int32), S4)
set_option maxRecDepth 20000 in
set_option maxHeartbeats 4000000 in
theorem s_W_consent {S : AS} {a0 : Option Nat} {a1 : Int32} {a2 : Int32} {a3 : Int32} {a4 : Option Nat} {r : (Int32 × AS)} (h : f_W_consent S a0 a1 a2 a3 a4 = some r) : kr_Con m_W_consent 9 [va_rf a0, .int a1, .int a2, .int a3, va_rf a4] S (kr_eI r) := by
  refine kr_conH rfl (by decide) (by decide +kernel) (by simp [lg_sl, kr_rfcat, kr_icat, m_W_consent, mL]) ?_
  rw [show lv_args 0 [va_rf a0, .int a1, .int a2, .int a3, va_rf a4] = [(0, va_rf a0), (1, .int a1), (2, .int a2), (3, .int a3), (4, va_rf a4)] from by simp [lv_args, kr_rfcat, kr_icat]]
  unfold f_W_consent at h
  refine r_aload (i := 4) (x := a4) 4 rfl d_W_consent_0 ?_
  refine r_iconst (v := (0 : Int32)) (by decide) d_W_consent_2 ?_
  refine r_aload_n (i := 0) (x := a0) 0 rfl d_W_consent_3 ?_
  refine r_iload_n (i := 1) (x := a1) 1 rfl d_W_consent_4 ?_
  refine r_iload_n (i := 2) (x := a2) 2 rfl d_W_consent_5 ?_
  refine r_iload_n (i := 3) (x := a3) 3 rfl d_W_consent_6 ?_
  have h2 := kr_ob h
  clear h
  obtain ⟨⟨⟩, eu1, h⟩ := h2
  rcases kr_obh h with ⟨v3, S2, eS2, h2⟩ | ⟨E, S2, eS2, h2⟩
  · clear h
    have h := h2
    clear h2
    refine r_callV (M1 := m_K_consent) (κ := 22) (As := [.int a1, .int a2, .int a3]) eu1 (s_K_consent eS2) mok_K_consent rfl (by decide) rfl w1053 w1054 w1055 (by decide) (kr_c8 (kr_cI (kr_cR kr_c0))) d_W_consent_7 (kr_k1 ?_) kr_kn
    refine r_i2l d_W_consent_10 ?_
    have h2 := kr_ob h
    clear h
    obtain ⟨S4, eS4, h⟩ := h2
    refine r_lastore eS4 d_W_consent_11 ?_
    refine r_goto (tgt := 23) d_W_consent_12 rfl ?_
    refine r_iconst (v := (0 : Int32)) (by decide) d_W_consent_23 ?_
    cases h
    exact r_iret rfl d_W_consent_24
  · by_cases c0 : E = "java/lang/IndexOutOfBoundsException"
    · subst c0
      replace h2 := kr_ip rfl h2
      clear h
      have h := h2
      clear h2
      refine r_callV (M1 := m_K_consent) (κ := 22) (As := [.int a1, .int a2, .int a3]) eu1 (s_K_consent eS2) mok_K_consent rfl (by decide) rfl w1053 w1054 w1055 (by decide) (kr_c8 (kr_cI (kr_cR kr_c0))) d_W_consent_7 kr_nk (kr_kx ?_)
      refine r_catch (hd := (0, 12, 15, 21)) [] [(0, 12, 19, 13)] ⟨rfl, (fun _ hz => nomatch hz), ⟨by decide, by decide⟩, by decide, w554, w531⟩ (i := 5) (lv' := [(0, va_rf a0), (1, .int a1), (2, .int a2), (3, .int a3), (4, va_rf a4)]) (by show List.filter (fun (q : Nat × Value) => !(q.1 == 5) && !(q.1 + 1 == 5 && q.2.category == 2)) _ = _; simp [kr_rfcat, kr_icat]) (by decide) d_W_consent_15 ?_
      refine r_iconst (v := (1 : Int32)) (by decide) d_W_consent_17 ?_
      cases h
      exact r_iret rfl d_W_consent_18
    replace h2 := kr_in_ c0 h2
    by_cases c1 : E = "java/lang/IllegalArgumentException"
    · subst c1
      replace h2 := kr_ip rfl h2
      clear h
      have h := h2
      clear h2
      refine r_callV (M1 := m_K_consent) (κ := 22) (As := [.int a1, .int a2, .int a3]) eu1 (s_K_consent eS2) mok_K_consent rfl (by decide) rfl w1053 w1054 w1055 (by decide) (kr_c8 (kr_cI (kr_cR kr_c0))) d_W_consent_7 kr_nk (kr_kx ?_)
      refine r_catch (hd := (0, 12, 19, 13)) [(0, 12, 15, 21)] [] ⟨rfl, (kr_pre ⟨"java/lang/IndexOutOfBoundsException", by decide, w554, by decide⟩ (fun _ hz => nomatch hz)), ⟨by decide, by decide⟩, by decide, w367, w381⟩ (i := 5) (lv' := [(0, va_rf a0), (1, .int a1), (2, .int a2), (3, .int a3), (4, va_rf a4)]) (by show List.filter (fun (q : Nat × Value) => !(q.1 == 5) && !(q.1 + 1 == 5 && q.2.category == 2)) _ = _; simp [kr_rfcat, kr_icat]) (by decide) d_W_consent_19 ?_
      refine r_iconst (v := (2 : Int32)) (by decide) d_W_consent_21 ?_
      cases h
      exact r_iret rfl d_W_consent_22
    replace h2 := kr_in_ c1 h2
    cases h2
/-! KeyringCourtLaw.withdraw(LKeyringCourt;II[J)I -/
def f_W_withdraw (S : AS) (a0 : Option Nat) (a1 : Int32) (a2 : Int32) (a3 : Option Nat) : Option (Int32 × AS) :=
  (kr_rv S 22 a0).bind fun u1 =>
  kr_bh (f_K_withdraw S a0 a1 a2) (fun E S2 => if E = "java/lang/IndexOutOfBoundsException" then
  some ((1 : Int32), S2)
  else none) fun v3 S2 =>
  (bJ S2 a3 (0 : Int32) v3.toInt64).bind fun S4 =>
  some ((0 : Int32), S4)
set_option maxRecDepth 20000 in
set_option maxHeartbeats 4000000 in
theorem s_W_withdraw {S : AS} {a0 : Option Nat} {a1 : Int32} {a2 : Int32} {a3 : Option Nat} {r : (Int32 × AS)} (h : f_W_withdraw S a0 a1 a2 a3 = some r) : kr_Con m_W_withdraw 10 [va_rf a0, .int a1, .int a2, va_rf a3] S (kr_eI r) := by
  refine kr_conH rfl (by decide) (by decide +kernel) (by simp [lg_sl, kr_rfcat, kr_icat, m_W_withdraw, mL]) ?_
  rw [show lv_args 0 [va_rf a0, .int a1, .int a2, va_rf a3] = [(0, va_rf a0), (1, .int a1), (2, .int a2), (3, va_rf a3)] from by simp [lv_args, kr_rfcat, kr_icat]]
  unfold f_W_withdraw at h
  refine r_aload_n (i := 3) (x := a3) 3 rfl d_W_withdraw_0 ?_
  refine r_iconst (v := (0 : Int32)) (by decide) d_W_withdraw_1 ?_
  refine r_aload_n (i := 0) (x := a0) 0 rfl d_W_withdraw_2 ?_
  refine r_iload_n (i := 1) (x := a1) 1 rfl d_W_withdraw_3 ?_
  refine r_iload_n (i := 2) (x := a2) 2 rfl d_W_withdraw_4 ?_
  have h2 := kr_ob h
  clear h
  obtain ⟨⟨⟩, eu1, h⟩ := h2
  rcases kr_obh h with ⟨v3, S2, eS2, h2⟩ | ⟨E, S2, eS2, h2⟩
  · clear h
    have h := h2
    clear h2
    refine r_callV (M1 := m_K_withdraw) (κ := 22) (As := [.int a1, .int a2]) eu1 (s_K_withdraw eS2) mok_K_withdraw rfl (by decide) rfl w1060 w1061 w1062 (by decide) (kr_c8 (kr_cI (kr_cR kr_c0))) d_W_withdraw_5 (kr_k1 ?_) kr_kn
    refine r_i2l d_W_withdraw_8 ?_
    have h2 := kr_ob h
    clear h
    obtain ⟨S4, eS4, h⟩ := h2
    refine r_lastore eS4 d_W_withdraw_9 ?_
    refine r_goto (tgt := 17) d_W_withdraw_10 rfl ?_
    refine r_iconst (v := (0 : Int32)) (by decide) d_W_withdraw_17 ?_
    cases h
    exact r_iret rfl d_W_withdraw_18
  · by_cases c0 : E = "java/lang/IndexOutOfBoundsException"
    · subst c0
      replace h2 := kr_ip rfl h2
      clear h
      have h := h2
      clear h2
      refine r_callV (M1 := m_K_withdraw) (κ := 22) (As := [.int a1, .int a2]) eu1 (s_K_withdraw eS2) mok_K_withdraw rfl (by decide) rfl w1060 w1061 w1062 (by decide) (kr_c8 (kr_cI (kr_cR kr_c0))) d_W_withdraw_5 kr_nk (kr_kx ?_)
      refine r_catch (hd := (0, 10, 13, 21)) [] [] ⟨rfl, (fun _ hz => nomatch hz), ⟨by decide, by decide⟩, by decide, w554, w531⟩ (i := 4) (lv' := [(0, va_rf a0), (1, .int a1), (2, .int a2), (3, va_rf a3)]) (by show List.filter (fun (q : Nat × Value) => !(q.1 == 4) && !(q.1 + 1 == 4 && q.2.category == 2)) _ = _; simp [kr_rfcat, kr_icat]) (by decide) d_W_withdraw_13 ?_
      refine r_iconst (v := (1 : Int32)) (by decide) d_W_withdraw_15 ?_
      cases h
      exact r_iret rfl d_W_withdraw_16
    replace h2 := kr_in_ c0 h2
    cases h2
/-! KeyringCourtLaw.need(LKeyringCourt;II[J)I -/
def f_W_need (S : AS) (a0 : Option Nat) (a1 : Int32) (a2 : Int32) (a3 : Option Nat) : Option (Int32 × AS) :=
  (kr_rv S 22 a0).bind fun u1 =>
  kr_bh (f_K_need S a0 a1 a2) (fun E S2 => if E = "java/lang/IndexOutOfBoundsException" then
  some ((1 : Int32), S2)
  else if E = "java/lang/IllegalArgumentException" then
  some ((2 : Int32), S2)
  else none) fun v3 S2 =>
  (bJ S2 a3 (0 : Int32) v3.toInt64).bind fun S4 =>
  some ((0 : Int32), S4)
set_option maxRecDepth 20000 in
set_option maxHeartbeats 4000000 in
theorem s_W_need {S : AS} {a0 : Option Nat} {a1 : Int32} {a2 : Int32} {a3 : Option Nat} {r : (Int32 × AS)} (h : f_W_need S a0 a1 a2 a3 = some r) : kr_Con m_W_need 9 [va_rf a0, .int a1, .int a2, va_rf a3] S (kr_eI r) := by
  refine kr_conH rfl (by decide) (by decide +kernel) (by simp [lg_sl, kr_rfcat, kr_icat, m_W_need, mL]) ?_
  rw [show lv_args 0 [va_rf a0, .int a1, .int a2, va_rf a3] = [(0, va_rf a0), (1, .int a1), (2, .int a2), (3, va_rf a3)] from by simp [lv_args, kr_rfcat, kr_icat]]
  unfold f_W_need at h
  refine r_aload_n (i := 3) (x := a3) 3 rfl d_W_need_0 ?_
  refine r_iconst (v := (0 : Int32)) (by decide) d_W_need_1 ?_
  refine r_aload_n (i := 0) (x := a0) 0 rfl d_W_need_2 ?_
  refine r_iload_n (i := 1) (x := a1) 1 rfl d_W_need_3 ?_
  refine r_iload_n (i := 2) (x := a2) 2 rfl d_W_need_4 ?_
  have h2 := kr_ob h
  clear h
  obtain ⟨⟨⟩, eu1, h⟩ := h2
  rcases kr_obh h with ⟨v3, S2, eS2, h2⟩ | ⟨E, S2, eS2, h2⟩
  · clear h
    have h := h2
    clear h2
    refine r_callV (M1 := m_K_need) (κ := 22) (As := [.int a1, .int a2]) eu1 (s_K_need eS2) mok_K_need rfl (by decide) rfl w1067 w1068 w1069 (by decide) (kr_c8 (kr_cI (kr_cR kr_c0))) d_W_need_5 (kr_k1 ?_) kr_kn
    refine r_i2l d_W_need_8 ?_
    have h2 := kr_ob h
    clear h
    obtain ⟨S4, eS4, h⟩ := h2
    refine r_lastore eS4 d_W_need_9 ?_
    refine r_goto (tgt := 21) d_W_need_10 rfl ?_
    refine r_iconst (v := (0 : Int32)) (by decide) d_W_need_21 ?_
    cases h
    exact r_iret rfl d_W_need_22
  · by_cases c0 : E = "java/lang/IndexOutOfBoundsException"
    · subst c0
      replace h2 := kr_ip rfl h2
      clear h
      have h := h2
      clear h2
      refine r_callV (M1 := m_K_need) (κ := 22) (As := [.int a1, .int a2]) eu1 (s_K_need eS2) mok_K_need rfl (by decide) rfl w1067 w1068 w1069 (by decide) (kr_c8 (kr_cI (kr_cR kr_c0))) d_W_need_5 kr_nk (kr_kx ?_)
      refine r_catch (hd := (0, 10, 13, 21)) [] [(0, 10, 17, 13)] ⟨rfl, (fun _ hz => nomatch hz), ⟨by decide, by decide⟩, by decide, w554, w531⟩ (i := 4) (lv' := [(0, va_rf a0), (1, .int a1), (2, .int a2), (3, va_rf a3)]) (by show List.filter (fun (q : Nat × Value) => !(q.1 == 4) && !(q.1 + 1 == 4 && q.2.category == 2)) _ = _; simp [kr_rfcat, kr_icat]) (by decide) d_W_need_13 ?_
      refine r_iconst (v := (1 : Int32)) (by decide) d_W_need_15 ?_
      cases h
      exact r_iret rfl d_W_need_16
    replace h2 := kr_in_ c0 h2
    by_cases c1 : E = "java/lang/IllegalArgumentException"
    · subst c1
      replace h2 := kr_ip rfl h2
      clear h
      have h := h2
      clear h2
      refine r_callV (M1 := m_K_need) (κ := 22) (As := [.int a1, .int a2]) eu1 (s_K_need eS2) mok_K_need rfl (by decide) rfl w1067 w1068 w1069 (by decide) (kr_c8 (kr_cI (kr_cR kr_c0))) d_W_need_5 kr_nk (kr_kx ?_)
      refine r_catch (hd := (0, 10, 17, 13)) [(0, 10, 13, 21)] [] ⟨rfl, (kr_pre ⟨"java/lang/IndexOutOfBoundsException", by decide, w554, by decide⟩ (fun _ hz => nomatch hz)), ⟨by decide, by decide⟩, by decide, w367, w381⟩ (i := 4) (lv' := [(0, va_rf a0), (1, .int a1), (2, .int a2), (3, va_rf a3)]) (by show List.filter (fun (q : Nat × Value) => !(q.1 == 4) && !(q.1 + 1 == 4 && q.2.category == 2)) _ = _; simp [kr_rfcat, kr_icat]) (by decide) d_W_need_17 ?_
      refine r_iconst (v := (2 : Int32)) (by decide) d_W_need_19 ?_
      cases h
      exact r_iret rfl d_W_need_20
    replace h2 := kr_in_ c1 h2
    cases h2
/-! KeyringCourtLaw.authorize(LKeyringCourt;IIII[J)I -/
def f_W_authorize (S : AS) (a0 : Option Nat) (a1 : Int32) (a2 : Int32) (a3 : Int32) (a4 : Int32) (a5 : Option Nat) : Option (Int32 × AS) :=
  (kr_rv S 22 a0).bind fun u1 =>
  kr_bh (f_K_authorize S a0 a1 a2 a3 a4) (fun E S2 => if E = "java/lang/IndexOutOfBoundsException" then
  some ((1 : Int32), S2)
  else if E = "java/lang/IllegalArgumentException" then
  some ((2 : Int32), S2)
  else if E = "java/lang/IllegalStateException" then
  some ((3 : Int32), S2)
  else none) fun v3 S2 =>
  (bJ S2 a5 (0 : Int32) v3.toInt64).bind fun S4 =>
  some ((0 : Int32), S4)
set_option maxRecDepth 20000 in
set_option maxHeartbeats 4000000 in
theorem s_W_authorize {S : AS} {a0 : Option Nat} {a1 : Int32} {a2 : Int32} {a3 : Int32} {a4 : Int32} {a5 : Option Nat} {r : (Int32 × AS)} (h : f_W_authorize S a0 a1 a2 a3 a4 a5 = some r) : kr_Con m_W_authorize 10 [va_rf a0, .int a1, .int a2, .int a3, .int a4, va_rf a5] S (kr_eI r) := by
  refine kr_conH rfl (by decide) (by decide +kernel) (by simp [lg_sl, kr_rfcat, kr_icat, m_W_authorize, mL]) ?_
  rw [show lv_args 0 [va_rf a0, .int a1, .int a2, .int a3, .int a4, va_rf a5] = [(0, va_rf a0), (1, .int a1), (2, .int a2), (3, .int a3), (4, .int a4), (5, va_rf a5)] from by simp [lv_args, kr_rfcat, kr_icat]]
  unfold f_W_authorize at h
  refine r_aload (i := 5) (x := a5) 5 rfl d_W_authorize_0 ?_
  refine r_iconst (v := (0 : Int32)) (by decide) d_W_authorize_2 ?_
  refine r_aload_n (i := 0) (x := a0) 0 rfl d_W_authorize_3 ?_
  refine r_iload_n (i := 1) (x := a1) 1 rfl d_W_authorize_4 ?_
  refine r_iload_n (i := 2) (x := a2) 2 rfl d_W_authorize_5 ?_
  refine r_iload_n (i := 3) (x := a3) 3 rfl d_W_authorize_6 ?_
  refine r_iload (i := 4) (x := a4) 4 rfl d_W_authorize_7 ?_
  have h2 := kr_ob h
  clear h
  obtain ⟨⟨⟩, eu1, h⟩ := h2
  rcases kr_obh h with ⟨v3, S2, eS2, h2⟩ | ⟨E, S2, eS2, h2⟩
  · clear h
    have h := h2
    clear h2
    refine r_callV (M1 := m_K_authorize) (κ := 22) (As := [.int a1, .int a2, .int a3, .int a4]) eu1 (s_K_authorize eS2) mok_K_authorize rfl (by decide) rfl w1074 w1075 w1076 (by decide) (kr_c8 (kr_cI (kr_cR kr_c0))) d_W_authorize_9 (kr_k1 ?_) kr_kn
    refine r_i2l d_W_authorize_12 ?_
    have h2 := kr_ob h
    clear h
    obtain ⟨S4, eS4, h⟩ := h2
    refine r_lastore eS4 d_W_authorize_13 ?_
    refine r_goto (tgt := 29) d_W_authorize_14 rfl ?_
    refine r_iconst (v := (0 : Int32)) (by decide) d_W_authorize_29 ?_
    cases h
    exact r_iret rfl d_W_authorize_30
  · by_cases c0 : E = "java/lang/IndexOutOfBoundsException"
    · subst c0
      replace h2 := kr_ip rfl h2
      clear h
      have h := h2
      clear h2
      refine r_callV (M1 := m_K_authorize) (κ := 22) (As := [.int a1, .int a2, .int a3, .int a4]) eu1 (s_K_authorize eS2) mok_K_authorize rfl (by decide) rfl w1074 w1075 w1076 (by decide) (kr_c8 (kr_cI (kr_cR kr_c0))) d_W_authorize_9 kr_nk (kr_kx ?_)
      refine r_catch (hd := (0, 14, 17, 21)) [] [(0, 14, 21, 13), (0, 14, 25, 15)] ⟨rfl, (fun _ hz => nomatch hz), ⟨by decide, by decide⟩, by decide, w554, w531⟩ (i := 6) (lv' := [(0, va_rf a0), (1, .int a1), (2, .int a2), (3, .int a3), (4, .int a4), (5, va_rf a5)]) (by show List.filter (fun (q : Nat × Value) => !(q.1 == 6) && !(q.1 + 1 == 6 && q.2.category == 2)) _ = _; simp [kr_rfcat, kr_icat]) (by decide) d_W_authorize_17 ?_
      refine r_iconst (v := (1 : Int32)) (by decide) d_W_authorize_19 ?_
      cases h
      exact r_iret rfl d_W_authorize_20
    replace h2 := kr_in_ c0 h2
    by_cases c1 : E = "java/lang/IllegalArgumentException"
    · subst c1
      replace h2 := kr_ip rfl h2
      clear h
      have h := h2
      clear h2
      refine r_callV (M1 := m_K_authorize) (κ := 22) (As := [.int a1, .int a2, .int a3, .int a4]) eu1 (s_K_authorize eS2) mok_K_authorize rfl (by decide) rfl w1074 w1075 w1076 (by decide) (kr_c8 (kr_cI (kr_cR kr_c0))) d_W_authorize_9 kr_nk (kr_kx ?_)
      refine r_catch (hd := (0, 14, 21, 13)) [(0, 14, 17, 21)] [(0, 14, 25, 15)] ⟨rfl, (kr_pre ⟨"java/lang/IndexOutOfBoundsException", by decide, w554, by decide⟩ (fun _ hz => nomatch hz)), ⟨by decide, by decide⟩, by decide, w367, w381⟩ (i := 6) (lv' := [(0, va_rf a0), (1, .int a1), (2, .int a2), (3, .int a3), (4, .int a4), (5, va_rf a5)]) (by show List.filter (fun (q : Nat × Value) => !(q.1 == 6) && !(q.1 + 1 == 6 && q.2.category == 2)) _ = _; simp [kr_rfcat, kr_icat]) (by decide) d_W_authorize_21 ?_
      refine r_iconst (v := (2 : Int32)) (by decide) d_W_authorize_23 ?_
      cases h
      exact r_iret rfl d_W_authorize_24
    replace h2 := kr_in_ c1 h2
    by_cases c2 : E = "java/lang/IllegalStateException"
    · subst c2
      replace h2 := kr_ip rfl h2
      clear h
      have h := h2
      clear h2
      refine r_callV (M1 := m_K_authorize) (κ := 22) (As := [.int a1, .int a2, .int a3, .int a4]) eu1 (s_K_authorize eS2) mok_K_authorize rfl (by decide) rfl w1074 w1075 w1076 (by decide) (kr_c8 (kr_cI (kr_cR kr_c0))) d_W_authorize_9 kr_nk (kr_kx ?_)
      refine r_catch (hd := (0, 14, 25, 15)) [(0, 14, 17, 21), (0, 14, 21, 13)] [] ⟨rfl, (kr_pre ⟨"java/lang/IndexOutOfBoundsException", by decide, w554, by decide⟩ (kr_pre ⟨"java/lang/IllegalArgumentException", by decide, w367, by decide⟩ (fun _ hz => nomatch hz))), ⟨by decide, by decide⟩, by decide, w368, w447⟩ (i := 6) (lv' := [(0, va_rf a0), (1, .int a1), (2, .int a2), (3, .int a3), (4, .int a4), (5, va_rf a5)]) (by show List.filter (fun (q : Nat × Value) => !(q.1 == 6) && !(q.1 + 1 == 6 && q.2.category == 2)) _ = _; simp [kr_rfcat, kr_icat]) (by decide) d_W_authorize_25 ?_
      refine r_iconst (v := (3 : Int32)) (by decide) d_W_authorize_27 ?_
      cases h
      exact r_iret rfl d_W_authorize_28
    replace h2 := kr_in_ c2 h2
    cases h2
/-! KeyringCourtLaw.redeem(LKeyringCourt;I[J)I -/
def f_W_redeem (S : AS) (a0 : Option Nat) (a1 : Int32) (a2 : Option Nat) : Option (Int32 × AS) :=
  (kr_rv S 22 a0).bind fun u1 =>
  kr_bh (f_K_redeem S a0 a1) (fun E S2 => if E = "java/lang/IndexOutOfBoundsException" then
  some ((1 : Int32), S2)
  else if E = "java/lang/IllegalStateException" then
  some ((2 : Int32), S2)
  else none) fun v3 S2 =>
  (bJ S2 a2 (0 : Int32) v3.toInt64).bind fun S4 =>
  some ((0 : Int32), S4)
set_option maxRecDepth 20000 in
set_option maxHeartbeats 4000000 in
theorem s_W_redeem {S : AS} {a0 : Option Nat} {a1 : Int32} {a2 : Option Nat} {r : (Int32 × AS)} (h : f_W_redeem S a0 a1 a2 = some r) : kr_Con m_W_redeem 11 [va_rf a0, .int a1, va_rf a2] S (kr_eI r) := by
  refine kr_conH rfl (by decide) (by decide +kernel) (by simp [lg_sl, kr_rfcat, kr_icat, m_W_redeem, mL]) ?_
  rw [show lv_args 0 [va_rf a0, .int a1, va_rf a2] = [(0, va_rf a0), (1, .int a1), (2, va_rf a2)] from by simp [lv_args, kr_rfcat, kr_icat]]
  unfold f_W_redeem at h
  refine r_aload_n (i := 2) (x := a2) 2 rfl d_W_redeem_0 ?_
  refine r_iconst (v := (0 : Int32)) (by decide) d_W_redeem_1 ?_
  refine r_aload_n (i := 0) (x := a0) 0 rfl d_W_redeem_2 ?_
  refine r_iload_n (i := 1) (x := a1) 1 rfl d_W_redeem_3 ?_
  have h2 := kr_ob h
  clear h
  obtain ⟨⟨⟩, eu1, h⟩ := h2
  rcases kr_obh h with ⟨v3, S2, eS2, h2⟩ | ⟨E, S2, eS2, h2⟩
  · clear h
    have h := h2
    clear h2
    refine r_callV (M1 := m_K_redeem) (κ := 22) (As := [.int a1]) eu1 (s_K_redeem eS2) mok_K_redeem rfl (by decide) rfl w1136 w1137 w1138 (by decide) (kr_c8 (kr_cI (kr_cR kr_c0))) d_W_redeem_4 (kr_k1 ?_) kr_kn
    refine r_i2l d_W_redeem_7 ?_
    have h2 := kr_ob h
    clear h
    obtain ⟨S4, eS4, h⟩ := h2
    refine r_lastore eS4 d_W_redeem_8 ?_
    refine r_goto (tgt := 18) d_W_redeem_9 rfl ?_
    refine r_iconst (v := (0 : Int32)) (by decide) d_W_redeem_18 ?_
    cases h
    exact r_iret rfl d_W_redeem_19
  · by_cases c0 : E = "java/lang/IndexOutOfBoundsException"
    · subst c0
      replace h2 := kr_ip rfl h2
      clear h
      have h := h2
      clear h2
      refine r_callV (M1 := m_K_redeem) (κ := 22) (As := [.int a1]) eu1 (s_K_redeem eS2) mok_K_redeem rfl (by decide) rfl w1136 w1137 w1138 (by decide) (kr_c8 (kr_cI (kr_cR kr_c0))) d_W_redeem_4 kr_nk (kr_kx ?_)
      refine r_catch_n (hd := (0, 9, 12, 21)) [] [(0, 9, 15, 15)] ⟨rfl, (fun _ hz => nomatch hz), ⟨by decide, by decide⟩, by decide, w554, w531⟩ (i := 3) (lv' := [(0, va_rf a0), (1, .int a1), (2, va_rf a2)]) (by show List.filter (fun (q : Nat × Value) => !(q.1 == 3) && !(q.1 + 1 == 3 && q.2.category == 2)) _ = _; simp [kr_rfcat, kr_icat]) (by decide) d_W_redeem_12 ?_
      refine r_iconst (v := (1 : Int32)) (by decide) d_W_redeem_13 ?_
      cases h
      exact r_iret rfl d_W_redeem_14
    replace h2 := kr_in_ c0 h2
    by_cases c1 : E = "java/lang/IllegalStateException"
    · subst c1
      replace h2 := kr_ip rfl h2
      clear h
      have h := h2
      clear h2
      refine r_callV (M1 := m_K_redeem) (κ := 22) (As := [.int a1]) eu1 (s_K_redeem eS2) mok_K_redeem rfl (by decide) rfl w1136 w1137 w1138 (by decide) (kr_c8 (kr_cI (kr_cR kr_c0))) d_W_redeem_4 kr_nk (kr_kx ?_)
      refine r_catch_n (hd := (0, 9, 15, 15)) [(0, 9, 12, 21)] [] ⟨rfl, (kr_pre ⟨"java/lang/IndexOutOfBoundsException", by decide, w554, by decide⟩ (fun _ hz => nomatch hz)), ⟨by decide, by decide⟩, by decide, w368, w447⟩ (i := 3) (lv' := [(0, va_rf a0), (1, .int a1), (2, va_rf a2)]) (by show List.filter (fun (q : Nat × Value) => !(q.1 == 3) && !(q.1 + 1 == 3 && q.2.category == 2)) _ = _; simp [kr_rfcat, kr_icat]) (by decide) d_W_redeem_15 ?_
      refine r_iconst (v := (2 : Int32)) (by decide) d_W_redeem_16 ?_
      cases h
      exact r_iret rfl d_W_redeem_17
    replace h2 := kr_in_ c1 h2
    cases h2
/-! KeyringCourtLaw.refresh(LKeyringCourt;II[J)I -/
def f_W_refresh (S : AS) (a0 : Option Nat) (a1 : Int32) (a2 : Int32) (a3 : Option Nat) : Option (Int32 × AS) :=
  (kr_rv S 22 a0).bind fun u1 =>
  kr_bh (f_K_refresh S a0 a1 a2) (fun E S2 => if E = "java/lang/IndexOutOfBoundsException" then
  some ((1 : Int32), S2)
  else if E = "java/lang/IllegalArgumentException" then
  some ((2 : Int32), S2)
  else if E = "java/lang/IllegalStateException" then
  some ((3 : Int32), S2)
  else none) fun v3 S2 =>
  (bJ S2 a3 (0 : Int32) v3.toInt64).bind fun S4 =>
  some ((0 : Int32), S4)
set_option maxRecDepth 20000 in
set_option maxHeartbeats 4000000 in
theorem s_W_refresh {S : AS} {a0 : Option Nat} {a1 : Int32} {a2 : Int32} {a3 : Option Nat} {r : (Int32 × AS)} (h : f_W_refresh S a0 a1 a2 a3 = some r) : kr_Con m_W_refresh 11 [va_rf a0, .int a1, .int a2, va_rf a3] S (kr_eI r) := by
  refine kr_conH rfl (by decide) (by decide +kernel) (by simp [lg_sl, kr_rfcat, kr_icat, m_W_refresh, mL]) ?_
  rw [show lv_args 0 [va_rf a0, .int a1, .int a2, va_rf a3] = [(0, va_rf a0), (1, .int a1), (2, .int a2), (3, va_rf a3)] from by simp [lv_args, kr_rfcat, kr_icat]]
  unfold f_W_refresh at h
  refine r_aload_n (i := 3) (x := a3) 3 rfl d_W_refresh_0 ?_
  refine r_iconst (v := (0 : Int32)) (by decide) d_W_refresh_1 ?_
  refine r_aload_n (i := 0) (x := a0) 0 rfl d_W_refresh_2 ?_
  refine r_iload_n (i := 1) (x := a1) 1 rfl d_W_refresh_3 ?_
  refine r_iload_n (i := 2) (x := a2) 2 rfl d_W_refresh_4 ?_
  have h2 := kr_ob h
  clear h
  obtain ⟨⟨⟩, eu1, h⟩ := h2
  rcases kr_obh h with ⟨v3, S2, eS2, h2⟩ | ⟨E, S2, eS2, h2⟩
  · clear h
    have h := h2
    clear h2
    refine r_callV (M1 := m_K_refresh) (κ := 22) (As := [.int a1, .int a2]) eu1 (s_K_refresh eS2) mok_K_refresh rfl (by decide) rfl w1190 w1191 w1192 (by decide) (kr_c8 (kr_cI (kr_cR kr_c0))) d_W_refresh_5 (kr_k1 ?_) kr_kn
    refine r_i2l d_W_refresh_8 ?_
    have h2 := kr_ob h
    clear h
    obtain ⟨S4, eS4, h⟩ := h2
    refine r_lastore eS4 d_W_refresh_9 ?_
    refine r_goto (tgt := 25) d_W_refresh_10 rfl ?_
    refine r_iconst (v := (0 : Int32)) (by decide) d_W_refresh_25 ?_
    cases h
    exact r_iret rfl d_W_refresh_26
  · by_cases c0 : E = "java/lang/IndexOutOfBoundsException"
    · subst c0
      replace h2 := kr_ip rfl h2
      clear h
      have h := h2
      clear h2
      refine r_callV (M1 := m_K_refresh) (κ := 22) (As := [.int a1, .int a2]) eu1 (s_K_refresh eS2) mok_K_refresh rfl (by decide) rfl w1190 w1191 w1192 (by decide) (kr_c8 (kr_cI (kr_cR kr_c0))) d_W_refresh_5 kr_nk (kr_kx ?_)
      refine r_catch (hd := (0, 10, 13, 21)) [] [(0, 10, 17, 13), (0, 10, 21, 15)] ⟨rfl, (fun _ hz => nomatch hz), ⟨by decide, by decide⟩, by decide, w554, w531⟩ (i := 4) (lv' := [(0, va_rf a0), (1, .int a1), (2, .int a2), (3, va_rf a3)]) (by show List.filter (fun (q : Nat × Value) => !(q.1 == 4) && !(q.1 + 1 == 4 && q.2.category == 2)) _ = _; simp [kr_rfcat, kr_icat]) (by decide) d_W_refresh_13 ?_
      refine r_iconst (v := (1 : Int32)) (by decide) d_W_refresh_15 ?_
      cases h
      exact r_iret rfl d_W_refresh_16
    replace h2 := kr_in_ c0 h2
    by_cases c1 : E = "java/lang/IllegalArgumentException"
    · subst c1
      replace h2 := kr_ip rfl h2
      clear h
      have h := h2
      clear h2
      refine r_callV (M1 := m_K_refresh) (κ := 22) (As := [.int a1, .int a2]) eu1 (s_K_refresh eS2) mok_K_refresh rfl (by decide) rfl w1190 w1191 w1192 (by decide) (kr_c8 (kr_cI (kr_cR kr_c0))) d_W_refresh_5 kr_nk (kr_kx ?_)
      refine r_catch (hd := (0, 10, 17, 13)) [(0, 10, 13, 21)] [(0, 10, 21, 15)] ⟨rfl, (kr_pre ⟨"java/lang/IndexOutOfBoundsException", by decide, w554, by decide⟩ (fun _ hz => nomatch hz)), ⟨by decide, by decide⟩, by decide, w367, w381⟩ (i := 4) (lv' := [(0, va_rf a0), (1, .int a1), (2, .int a2), (3, va_rf a3)]) (by show List.filter (fun (q : Nat × Value) => !(q.1 == 4) && !(q.1 + 1 == 4 && q.2.category == 2)) _ = _; simp [kr_rfcat, kr_icat]) (by decide) d_W_refresh_17 ?_
      refine r_iconst (v := (2 : Int32)) (by decide) d_W_refresh_19 ?_
      cases h
      exact r_iret rfl d_W_refresh_20
    replace h2 := kr_in_ c1 h2
    by_cases c2 : E = "java/lang/IllegalStateException"
    · subst c2
      replace h2 := kr_ip rfl h2
      clear h
      have h := h2
      clear h2
      refine r_callV (M1 := m_K_refresh) (κ := 22) (As := [.int a1, .int a2]) eu1 (s_K_refresh eS2) mok_K_refresh rfl (by decide) rfl w1190 w1191 w1192 (by decide) (kr_c8 (kr_cI (kr_cR kr_c0))) d_W_refresh_5 kr_nk (kr_kx ?_)
      refine r_catch (hd := (0, 10, 21, 15)) [(0, 10, 13, 21), (0, 10, 17, 13)] [] ⟨rfl, (kr_pre ⟨"java/lang/IndexOutOfBoundsException", by decide, w554, by decide⟩ (kr_pre ⟨"java/lang/IllegalArgumentException", by decide, w367, by decide⟩ (fun _ hz => nomatch hz))), ⟨by decide, by decide⟩, by decide, w368, w447⟩ (i := 4) (lv' := [(0, va_rf a0), (1, .int a1), (2, .int a2), (3, va_rf a3)]) (by show List.filter (fun (q : Nat × Value) => !(q.1 == 4) && !(q.1 + 1 == 4 && q.2.category == 2)) _ = _; simp [kr_rfcat, kr_icat]) (by decide) d_W_refresh_21 ?_
      refine r_iconst (v := (3 : Int32)) (by decide) d_W_refresh_23 ?_
      cases h
      exact r_iret rfl d_W_refresh_24
    replace h2 := kr_in_ c2 h2
    cases h2
/-! KeyringCourtLaw.isGood(LKeyringCourt;I[J)I -/
def f_W_isGood_B15 (S : AS) (y0 : Option Nat) (y1 : Int32) (y2 : Int64) : Option (Int32 × AS) :=
  (bJ S y0 y1 y2).bind fun S1 =>
  some ((0 : Int32), S1)
def f_W_isGood (S : AS) (a0 : Option Nat) (a1 : Int32) (a2 : Option Nat) : Option (Int32 × AS) :=
  (kr_rv S 22 a0).bind fun u2 =>
  kr_bh (f_K_isGood S a0 a1) (fun E S3 => if E = "java/lang/IndexOutOfBoundsException" then
  some ((1 : Int32), S3)
  else none) fun v4 S3 =>
  if v4 = 0 then
  f_W_isGood_B15 S3 a2 (0 : Int32) (0 : Int64)
  else
  f_W_isGood_B15 S3 a2 (0 : Int32) (1 : Int64)
set_option maxRecDepth 20000 in
set_option maxHeartbeats 4000000 in
theorem s_W_isGood_B15 {S : AS} {y0 : Option Nat} {y1 : Int32} {y2 : Int64} {r : (Int32 × AS)} (h : f_W_isGood_B15 S y0 y1 y2 = some r) : kr_AW m_W_isGood 10 15 [] [.long y2, .int y1, va_rf y0] S (kr_eI r) := by
  unfold f_W_isGood_B15 at h
  have h2 := kr_ob h
  clear h
  obtain ⟨S1, eS1, h⟩ := h2
  refine r_lastore eS1 d_W_isGood_15 ?_
  refine r_goto (tgt := 22) d_W_isGood_16 rfl ?_
  refine r_iconst (v := (0 : Int32)) (by decide) d_W_isGood_22 ?_
  cases h
  exact r_iret rfl d_W_isGood_23
set_option maxRecDepth 20000 in
set_option maxHeartbeats 4000000 in
theorem s_W_isGood {S : AS} {a0 : Option Nat} {a1 : Int32} {a2 : Option Nat} {r : (Int32 × AS)} (h : f_W_isGood S a0 a1 a2 = some r) : kr_Con m_W_isGood 10 [va_rf a0, .int a1, va_rf a2] S (kr_eI r) := by
  refine kr_conH rfl (by decide) (by decide +kernel) (by simp [lg_sl, kr_rfcat, kr_icat, m_W_isGood, mL]) ?_
  rw [show lv_args 0 [va_rf a0, .int a1, va_rf a2] = [(0, va_rf a0), (1, .int a1), (2, va_rf a2)] from by simp [lv_args, kr_rfcat, kr_icat]]
  unfold f_W_isGood at h
  refine r_aload_n (i := 2) (x := a2) 2 rfl d_W_isGood_0 ?_
  refine r_iconst (v := (0 : Int32)) (by decide) d_W_isGood_1 ?_
  refine r_aload_n (i := 0) (x := a0) 0 rfl d_W_isGood_2 ?_
  refine r_iload_n (i := 1) (x := a1) 1 rfl d_W_isGood_3 ?_
  have h2 := kr_ob h
  clear h
  obtain ⟨⟨⟩, eu2, h⟩ := h2
  rcases kr_obh h with ⟨v4, S3, eS3, h2⟩ | ⟨E, S3, eS3, h2⟩
  · clear h
    have h := h2
    clear h2
    refine r_callV (M1 := m_K_isGood) (κ := 22) (As := [.int a1]) eu2 (s_K_isGood eS3) mok_K_isGood rfl (by decide) rfl w1205 w1206 w1207 (by decide) (kr_c8 (kr_cI (kr_cR kr_c0))) d_W_isGood_4 (kr_k1 ?_) kr_kn
    refine r_if_eq (tgt := 14) d_W_isGood_7 rfl (fun c => ?_) (fun c => ?_)
    · replace h := kr_ip c h
      refine r_lconst (v := (0 : Int64)) (by decide) d_W_isGood_14 ?_
      exact kr_sub [] rfl (s_W_isGood_B15 h)
    · replace h := kr_in_ c h
      refine r_lconst (v := (1 : Int64)) (by decide) d_W_isGood_10 ?_
      refine r_goto (tgt := 15) d_W_isGood_11 rfl ?_
      exact kr_sub [] rfl (s_W_isGood_B15 h)
  · by_cases c0 : E = "java/lang/IndexOutOfBoundsException"
    · subst c0
      replace h2 := kr_ip rfl h2
      clear h
      have h := h2
      clear h2
      refine r_callV (M1 := m_K_isGood) (κ := 22) (As := [.int a1]) eu2 (s_K_isGood eS3) mok_K_isGood rfl (by decide) rfl w1205 w1206 w1207 (by decide) (kr_c8 (kr_cI (kr_cR kr_c0))) d_W_isGood_4 kr_nk (kr_kx ?_)
      refine r_catch_n (hd := (0, 16, 19, 21)) [] [] ⟨rfl, (fun _ hz => nomatch hz), ⟨by decide, by decide⟩, by decide, w554, w531⟩ (i := 3) (lv' := [(0, va_rf a0), (1, .int a1), (2, va_rf a2)]) (by show List.filter (fun (q : Nat × Value) => !(q.1 == 3) && !(q.1 + 1 == 3 && q.2.category == 2)) _ = _; simp [kr_rfcat, kr_icat]) (by decide) d_W_isGood_19 ?_
      refine r_iconst (v := (1 : Int32)) (by decide) d_W_isGood_20 ?_
      cases h
      exact r_iret rfl d_W_isGood_21
    replace h2 := kr_in_ c0 h2
    cases h2
/-! KeyringCourtLaw.tokenOf(LKeyringCourt;I[J)I -/
def f_W_tokenOf (S : AS) (a0 : Option Nat) (a1 : Int32) (a2 : Option Nat) : Option (Int32 × AS) :=
  (kr_rv S 22 a0).bind fun u1 =>
  kr_bh (f_K_tokenOf S a0 a1) (fun E S2 => if E = "java/lang/IndexOutOfBoundsException" then
  some ((1 : Int32), S2)
  else none) fun v3 S2 =>
  (bJ S2 a2 (0 : Int32) v3.toInt64).bind fun S4 =>
  some ((0 : Int32), S4)
set_option maxRecDepth 20000 in
set_option maxHeartbeats 4000000 in
theorem s_W_tokenOf {S : AS} {a0 : Option Nat} {a1 : Int32} {a2 : Option Nat} {r : (Int32 × AS)} (h : f_W_tokenOf S a0 a1 a2 = some r) : kr_Con m_W_tokenOf 10 [va_rf a0, .int a1, va_rf a2] S (kr_eI r) := by
  refine kr_conH rfl (by decide) (by decide +kernel) (by simp [lg_sl, kr_rfcat, kr_icat, m_W_tokenOf, mL]) ?_
  rw [show lv_args 0 [va_rf a0, .int a1, va_rf a2] = [(0, va_rf a0), (1, .int a1), (2, va_rf a2)] from by simp [lv_args, kr_rfcat, kr_icat]]
  unfold f_W_tokenOf at h
  refine r_aload_n (i := 2) (x := a2) 2 rfl d_W_tokenOf_0 ?_
  refine r_iconst (v := (0 : Int32)) (by decide) d_W_tokenOf_1 ?_
  refine r_aload_n (i := 0) (x := a0) 0 rfl d_W_tokenOf_2 ?_
  refine r_iload_n (i := 1) (x := a1) 1 rfl d_W_tokenOf_3 ?_
  have h2 := kr_ob h
  clear h
  obtain ⟨⟨⟩, eu1, h⟩ := h2
  rcases kr_obh h with ⟨v3, S2, eS2, h2⟩ | ⟨E, S2, eS2, h2⟩
  · clear h
    have h := h2
    clear h2
    refine r_callV (M1 := m_K_tokenOf) (κ := 22) (As := [.int a1]) eu1 (s_K_tokenOf eS2) mok_K_tokenOf rfl (by decide) rfl w1212 w1213 w1214 (by decide) (kr_c8 (kr_cI (kr_cR kr_c0))) d_W_tokenOf_4 (kr_k1 ?_) kr_kn
    refine r_i2l d_W_tokenOf_7 ?_
    have h2 := kr_ob h
    clear h
    obtain ⟨S4, eS4, h⟩ := h2
    refine r_lastore eS4 d_W_tokenOf_8 ?_
    refine r_goto (tgt := 15) d_W_tokenOf_9 rfl ?_
    refine r_iconst (v := (0 : Int32)) (by decide) d_W_tokenOf_15 ?_
    cases h
    exact r_iret rfl d_W_tokenOf_16
  · by_cases c0 : E = "java/lang/IndexOutOfBoundsException"
    · subst c0
      replace h2 := kr_ip rfl h2
      clear h
      have h := h2
      clear h2
      refine r_callV (M1 := m_K_tokenOf) (κ := 22) (As := [.int a1]) eu1 (s_K_tokenOf eS2) mok_K_tokenOf rfl (by decide) rfl w1212 w1213 w1214 (by decide) (kr_c8 (kr_cI (kr_cR kr_c0))) d_W_tokenOf_4 kr_nk (kr_kx ?_)
      refine r_catch_n (hd := (0, 9, 12, 21)) [] [] ⟨rfl, (fun _ hz => nomatch hz), ⟨by decide, by decide⟩, by decide, w554, w531⟩ (i := 3) (lv' := [(0, va_rf a0), (1, .int a1), (2, va_rf a2)]) (by show List.filter (fun (q : Nat × Value) => !(q.1 == 3) && !(q.1 + 1 == 3 && q.2.category == 2)) _ = _; simp [kr_rfcat, kr_icat]) (by decide) d_W_tokenOf_12 ?_
      refine r_iconst (v := (1 : Int32)) (by decide) d_W_tokenOf_13 ?_
      cases h
      exact r_iret rfl d_W_tokenOf_14
    replace h2 := kr_in_ c0 h2
    cases h2
/-! KeyringCourtLaw.exchange(LKeyringCourt;III[J)I -/
def f_W_exchange (S : AS) (a0 : Option Nat) (a1 : Int32) (a2 : Int32) (a3 : Int32) (a4 : Option Nat) : Option (Int32 × AS) :=
  (kr_rv S 22 a0).bind fun u1 =>
  kr_bh (f_K_exchange S a0 a1 a2 a3) (fun E S2 => if E = "java/lang/IndexOutOfBoundsException" then
  some ((1 : Int32), S2)
  else if E = "java/lang/IllegalArgumentException" then
  some ((2 : Int32), S2)
  else if E = "java/lang/IllegalStateException" then
  some ((3 : Int32), S2)
  else none) fun v3 S2 =>
  (bJ S2 a4 (0 : Int32) v3.toInt64).bind fun S4 =>
  some ((0 : Int32), S4)
set_option maxRecDepth 20000 in
set_option maxHeartbeats 4000000 in
theorem s_W_exchange {S : AS} {a0 : Option Nat} {a1 : Int32} {a2 : Int32} {a3 : Int32} {a4 : Option Nat} {r : (Int32 × AS)} (h : f_W_exchange S a0 a1 a2 a3 a4 = some r) : kr_Con m_W_exchange 10 [va_rf a0, .int a1, .int a2, .int a3, va_rf a4] S (kr_eI r) := by
  refine kr_conH rfl (by decide) (by decide +kernel) (by simp [lg_sl, kr_rfcat, kr_icat, m_W_exchange, mL]) ?_
  rw [show lv_args 0 [va_rf a0, .int a1, .int a2, .int a3, va_rf a4] = [(0, va_rf a0), (1, .int a1), (2, .int a2), (3, .int a3), (4, va_rf a4)] from by simp [lv_args, kr_rfcat, kr_icat]]
  unfold f_W_exchange at h
  refine r_aload (i := 4) (x := a4) 4 rfl d_W_exchange_0 ?_
  refine r_iconst (v := (0 : Int32)) (by decide) d_W_exchange_2 ?_
  refine r_aload_n (i := 0) (x := a0) 0 rfl d_W_exchange_3 ?_
  refine r_iload_n (i := 1) (x := a1) 1 rfl d_W_exchange_4 ?_
  refine r_iload_n (i := 2) (x := a2) 2 rfl d_W_exchange_5 ?_
  refine r_iload_n (i := 3) (x := a3) 3 rfl d_W_exchange_6 ?_
  have h2 := kr_ob h
  clear h
  obtain ⟨⟨⟩, eu1, h⟩ := h2
  rcases kr_obh h with ⟨v3, S2, eS2, h2⟩ | ⟨E, S2, eS2, h2⟩
  · clear h
    have h := h2
    clear h2
    refine r_callV (M1 := m_K_exchange) (κ := 22) (As := [.int a1, .int a2, .int a3]) eu1 (s_K_exchange eS2) mok_K_exchange rfl (by decide) rfl w1219 w1220 w1221 (by decide) (kr_c8 (kr_cI (kr_cR kr_c0))) d_W_exchange_7 (kr_k1 ?_) kr_kn
    refine r_i2l d_W_exchange_10 ?_
    have h2 := kr_ob h
    clear h
    obtain ⟨S4, eS4, h⟩ := h2
    refine r_lastore eS4 d_W_exchange_11 ?_
    refine r_goto (tgt := 27) d_W_exchange_12 rfl ?_
    refine r_iconst (v := (0 : Int32)) (by decide) d_W_exchange_27 ?_
    cases h
    exact r_iret rfl d_W_exchange_28
  · by_cases c0 : E = "java/lang/IndexOutOfBoundsException"
    · subst c0
      replace h2 := kr_ip rfl h2
      clear h
      have h := h2
      clear h2
      refine r_callV (M1 := m_K_exchange) (κ := 22) (As := [.int a1, .int a2, .int a3]) eu1 (s_K_exchange eS2) mok_K_exchange rfl (by decide) rfl w1219 w1220 w1221 (by decide) (kr_c8 (kr_cI (kr_cR kr_c0))) d_W_exchange_7 kr_nk (kr_kx ?_)
      refine r_catch (hd := (0, 12, 15, 21)) [] [(0, 12, 19, 13), (0, 12, 23, 15)] ⟨rfl, (fun _ hz => nomatch hz), ⟨by decide, by decide⟩, by decide, w554, w531⟩ (i := 5) (lv' := [(0, va_rf a0), (1, .int a1), (2, .int a2), (3, .int a3), (4, va_rf a4)]) (by show List.filter (fun (q : Nat × Value) => !(q.1 == 5) && !(q.1 + 1 == 5 && q.2.category == 2)) _ = _; simp [kr_rfcat, kr_icat]) (by decide) d_W_exchange_15 ?_
      refine r_iconst (v := (1 : Int32)) (by decide) d_W_exchange_17 ?_
      cases h
      exact r_iret rfl d_W_exchange_18
    replace h2 := kr_in_ c0 h2
    by_cases c1 : E = "java/lang/IllegalArgumentException"
    · subst c1
      replace h2 := kr_ip rfl h2
      clear h
      have h := h2
      clear h2
      refine r_callV (M1 := m_K_exchange) (κ := 22) (As := [.int a1, .int a2, .int a3]) eu1 (s_K_exchange eS2) mok_K_exchange rfl (by decide) rfl w1219 w1220 w1221 (by decide) (kr_c8 (kr_cI (kr_cR kr_c0))) d_W_exchange_7 kr_nk (kr_kx ?_)
      refine r_catch (hd := (0, 12, 19, 13)) [(0, 12, 15, 21)] [(0, 12, 23, 15)] ⟨rfl, (kr_pre ⟨"java/lang/IndexOutOfBoundsException", by decide, w554, by decide⟩ (fun _ hz => nomatch hz)), ⟨by decide, by decide⟩, by decide, w367, w381⟩ (i := 5) (lv' := [(0, va_rf a0), (1, .int a1), (2, .int a2), (3, .int a3), (4, va_rf a4)]) (by show List.filter (fun (q : Nat × Value) => !(q.1 == 5) && !(q.1 + 1 == 5 && q.2.category == 2)) _ = _; simp [kr_rfcat, kr_icat]) (by decide) d_W_exchange_19 ?_
      refine r_iconst (v := (2 : Int32)) (by decide) d_W_exchange_21 ?_
      cases h
      exact r_iret rfl d_W_exchange_22
    replace h2 := kr_in_ c1 h2
    by_cases c2 : E = "java/lang/IllegalStateException"
    · subst c2
      replace h2 := kr_ip rfl h2
      clear h
      have h := h2
      clear h2
      refine r_callV (M1 := m_K_exchange) (κ := 22) (As := [.int a1, .int a2, .int a3]) eu1 (s_K_exchange eS2) mok_K_exchange rfl (by decide) rfl w1219 w1220 w1221 (by decide) (kr_c8 (kr_cI (kr_cR kr_c0))) d_W_exchange_7 kr_nk (kr_kx ?_)
      refine r_catch (hd := (0, 12, 23, 15)) [(0, 12, 15, 21), (0, 12, 19, 13)] [] ⟨rfl, (kr_pre ⟨"java/lang/IndexOutOfBoundsException", by decide, w554, by decide⟩ (kr_pre ⟨"java/lang/IllegalArgumentException", by decide, w367, by decide⟩ (fun _ hz => nomatch hz))), ⟨by decide, by decide⟩, by decide, w368, w447⟩ (i := 5) (lv' := [(0, va_rf a0), (1, .int a1), (2, .int a2), (3, .int a3), (4, va_rf a4)]) (by show List.filter (fun (q : Nat × Value) => !(q.1 == 5) && !(q.1 + 1 == 5 && q.2.category == 2)) _ = _; simp [kr_rfcat, kr_icat]) (by decide) d_W_exchange_23 ?_
      refine r_iconst (v := (3 : Int32)) (by decide) d_W_exchange_25 ?_
      cases h
      exact r_iret rfl d_W_exchange_26
    replace h2 := kr_in_ c2 h2
    cases h2
/-! KeyringCourtLaw.token(LKeyringCourt;I[J)I -/
def f_W_token (S : AS) (a0 : Option Nat) (a1 : Int32) (a2 : Option Nat) : Option (Int32 × AS) :=
  (kr_rv S 22 a0).bind fun u1 =>
  kr_bh (f_K_token S a0 a1) (fun E S2 => if E = "java/lang/IndexOutOfBoundsException" then
  some ((1 : Int32), S2)
  else none) fun v3 S2 =>
  (bJ S2 a2 (0 : Int32) v3.toInt64).bind fun S4 =>
  some ((0 : Int32), S4)
set_option maxRecDepth 20000 in
set_option maxHeartbeats 4000000 in
theorem s_W_token {S : AS} {a0 : Option Nat} {a1 : Int32} {a2 : Option Nat} {r : (Int32 × AS)} (h : f_W_token S a0 a1 a2 = some r) : kr_Con m_W_token 10 [va_rf a0, .int a1, va_rf a2] S (kr_eI r) := by
  refine kr_conH rfl (by decide) (by decide +kernel) (by simp [lg_sl, kr_rfcat, kr_icat, m_W_token, mL]) ?_
  rw [show lv_args 0 [va_rf a0, .int a1, va_rf a2] = [(0, va_rf a0), (1, .int a1), (2, va_rf a2)] from by simp [lv_args, kr_rfcat, kr_icat]]
  unfold f_W_token at h
  refine r_aload_n (i := 2) (x := a2) 2 rfl d_W_token_0 ?_
  refine r_iconst (v := (0 : Int32)) (by decide) d_W_token_1 ?_
  refine r_aload_n (i := 0) (x := a0) 0 rfl d_W_token_2 ?_
  refine r_iload_n (i := 1) (x := a1) 1 rfl d_W_token_3 ?_
  have h2 := kr_ob h
  clear h
  obtain ⟨⟨⟩, eu1, h⟩ := h2
  rcases kr_obh h with ⟨v3, S2, eS2, h2⟩ | ⟨E, S2, eS2, h2⟩
  · clear h
    have h := h2
    clear h2
    refine r_callV (M1 := m_K_token) (κ := 22) (As := [.int a1]) eu1 (s_K_token eS2) mok_K_token rfl (by decide) rfl w1230 w1231 w1232 (by decide) (kr_c8 (kr_cI (kr_cR kr_c0))) d_W_token_4 (kr_k1 ?_) kr_kn
    refine r_i2l d_W_token_7 ?_
    have h2 := kr_ob h
    clear h
    obtain ⟨S4, eS4, h⟩ := h2
    refine r_lastore eS4 d_W_token_8 ?_
    refine r_goto (tgt := 15) d_W_token_9 rfl ?_
    refine r_iconst (v := (0 : Int32)) (by decide) d_W_token_15 ?_
    cases h
    exact r_iret rfl d_W_token_16
  · by_cases c0 : E = "java/lang/IndexOutOfBoundsException"
    · subst c0
      replace h2 := kr_ip rfl h2
      clear h
      have h := h2
      clear h2
      refine r_callV (M1 := m_K_token) (κ := 22) (As := [.int a1]) eu1 (s_K_token eS2) mok_K_token rfl (by decide) rfl w1230 w1231 w1232 (by decide) (kr_c8 (kr_cI (kr_cR kr_c0))) d_W_token_4 kr_nk (kr_kx ?_)
      refine r_catch_n (hd := (0, 9, 12, 21)) [] [] ⟨rfl, (fun _ hz => nomatch hz), ⟨by decide, by decide⟩, by decide, w554, w531⟩ (i := 3) (lv' := [(0, va_rf a0), (1, .int a1), (2, va_rf a2)]) (by show List.filter (fun (q : Nat × Value) => !(q.1 == 3) && !(q.1 + 1 == 3 && q.2.category == 2)) _ = _; simp [kr_rfcat, kr_icat]) (by decide) d_W_token_12 ?_
      refine r_iconst (v := (1 : Int32)) (by decide) d_W_token_13 ?_
      cases h
      exact r_iret rfl d_W_token_14
    replace h2 := kr_in_ c0 h2
    cases h2
/-! KeyringCourtLaw.turn(LKeyringCourt;[J)I -/
def f_W_turn (S : AS) (a0 : Option Nat) (a1 : Option Nat) : Option (Int32 × AS) :=
  (kr_rv S 22 a0).bind fun u1 =>
  kr_bh (f_K_turn S a0) (fun E S2 => if E = "java/lang/IllegalStateException" then
  some ((1 : Int32), S2)
  else none) fun v3 S2 =>
  (bJ S2 a1 (0 : Int32) v3.toInt64).bind fun S4 =>
  some ((0 : Int32), S4)
set_option maxRecDepth 20000 in
set_option maxHeartbeats 4000000 in
theorem s_W_turn {S : AS} {a0 : Option Nat} {a1 : Option Nat} {r : (Int32 × AS)} (h : f_W_turn S a0 a1 = some r) : kr_Con m_W_turn 9 [va_rf a0, va_rf a1] S (kr_eI r) := by
  refine kr_conH rfl (by decide) (by decide +kernel) (by simp [lg_sl, kr_rfcat, kr_icat, m_W_turn, mL]) ?_
  rw [show lv_args 0 [va_rf a0, va_rf a1] = [(0, va_rf a0), (1, va_rf a1)] from by simp [lv_args, kr_rfcat, kr_icat]]
  unfold f_W_turn at h
  refine r_aload_n (i := 1) (x := a1) 1 rfl d_W_turn_0 ?_
  refine r_iconst (v := (0 : Int32)) (by decide) d_W_turn_1 ?_
  refine r_aload_n (i := 0) (x := a0) 0 rfl d_W_turn_2 ?_
  have h2 := kr_ob h
  clear h
  obtain ⟨⟨⟩, eu1, h⟩ := h2
  rcases kr_obh h with ⟨v3, S2, eS2, h2⟩ | ⟨E, S2, eS2, h2⟩
  · clear h
    have h := h2
    clear h2
    refine r_callV (M1 := m_K_turn) (κ := 22) (As := []) eu1 (s_K_turn eS2) mok_K_turn rfl (by decide) rfl w1237 w1238 w1239 (by decide) (kr_c8 (kr_cI (kr_cR kr_c0))) d_W_turn_3 (kr_k1 ?_) kr_kn
    refine r_i2l d_W_turn_6 ?_
    have h2 := kr_ob h
    clear h
    obtain ⟨S4, eS4, h⟩ := h2
    refine r_lastore eS4 d_W_turn_7 ?_
    refine r_goto (tgt := 14) d_W_turn_8 rfl ?_
    refine r_iconst (v := (0 : Int32)) (by decide) d_W_turn_14 ?_
    cases h
    exact r_iret rfl d_W_turn_15
  · by_cases c0 : E = "java/lang/IllegalStateException"
    · subst c0
      replace h2 := kr_ip rfl h2
      clear h
      have h := h2
      clear h2
      refine r_callV (M1 := m_K_turn) (κ := 22) (As := []) eu1 (s_K_turn eS2) mok_K_turn rfl (by decide) rfl w1237 w1238 w1239 (by decide) (kr_c8 (kr_cI (kr_cR kr_c0))) d_W_turn_3 kr_nk (kr_kx ?_)
      refine r_catch_n (hd := (0, 8, 11, 15)) [] [] ⟨rfl, (fun _ hz => nomatch hz), ⟨by decide, by decide⟩, by decide, w368, w447⟩ (i := 2) (lv' := [(0, va_rf a0), (1, va_rf a1)]) (by show List.filter (fun (q : Nat × Value) => !(q.1 == 2) && !(q.1 + 1 == 2 && q.2.category == 2)) _ = _; simp [kr_rfcat, kr_icat]) (by decide) d_W_turn_11 ?_
      refine r_iconst (v := (1 : Int32)) (by decide) d_W_turn_12 ?_
      cases h
      exact r_iret rfl d_W_turn_13
    replace h2 := kr_in_ c0 h2
    cases h2
/-! KeyringCourtLaw.emergency(LKeyringCourt;[J)I -/
def f_W_emergency (S : AS) (a0 : Option Nat) (a1 : Option Nat) : Option (Int32 × AS) :=
  (kr_rv S 22 a0).bind fun u1 =>
  kr_bh (f_K_emergency S a0) (fun E S2 => if E = "java/lang/IllegalStateException" then
  some ((1 : Int32), S2)
  else none) fun v3 S2 =>
  (bJ S2 a1 (0 : Int32) v3.toInt64).bind fun S4 =>
  some ((0 : Int32), S4)
set_option maxRecDepth 20000 in
set_option maxHeartbeats 4000000 in
theorem s_W_emergency {S : AS} {a0 : Option Nat} {a1 : Option Nat} {r : (Int32 × AS)} (h : f_W_emergency S a0 a1 = some r) : kr_Con m_W_emergency 9 [va_rf a0, va_rf a1] S (kr_eI r) := by
  refine kr_conH rfl (by decide) (by decide +kernel) (by simp [lg_sl, kr_rfcat, kr_icat, m_W_emergency, mL]) ?_
  rw [show lv_args 0 [va_rf a0, va_rf a1] = [(0, va_rf a0), (1, va_rf a1)] from by simp [lv_args, kr_rfcat, kr_icat]]
  unfold f_W_emergency at h
  refine r_aload_n (i := 1) (x := a1) 1 rfl d_W_emergency_0 ?_
  refine r_iconst (v := (0 : Int32)) (by decide) d_W_emergency_1 ?_
  refine r_aload_n (i := 0) (x := a0) 0 rfl d_W_emergency_2 ?_
  have h2 := kr_ob h
  clear h
  obtain ⟨⟨⟩, eu1, h⟩ := h2
  rcases kr_obh h with ⟨v3, S2, eS2, h2⟩ | ⟨E, S2, eS2, h2⟩
  · clear h
    have h := h2
    clear h2
    refine r_callV (M1 := m_K_emergency) (κ := 22) (As := []) eu1 (s_K_emergency eS2) mok_K_emergency rfl (by decide) rfl w1252 w1253 w1254 (by decide) (kr_c8 (kr_cI (kr_cR kr_c0))) d_W_emergency_3 (kr_k1 ?_) kr_kn
    refine r_i2l d_W_emergency_6 ?_
    have h2 := kr_ob h
    clear h
    obtain ⟨S4, eS4, h⟩ := h2
    refine r_lastore eS4 d_W_emergency_7 ?_
    refine r_goto (tgt := 14) d_W_emergency_8 rfl ?_
    refine r_iconst (v := (0 : Int32)) (by decide) d_W_emergency_14 ?_
    cases h
    exact r_iret rfl d_W_emergency_15
  · by_cases c0 : E = "java/lang/IllegalStateException"
    · subst c0
      replace h2 := kr_ip rfl h2
      clear h
      have h := h2
      clear h2
      refine r_callV (M1 := m_K_emergency) (κ := 22) (As := []) eu1 (s_K_emergency eS2) mok_K_emergency rfl (by decide) rfl w1252 w1253 w1254 (by decide) (kr_c8 (kr_cI (kr_cR kr_c0))) d_W_emergency_3 kr_nk (kr_kx ?_)
      refine r_catch_n (hd := (0, 8, 11, 15)) [] [] ⟨rfl, (fun _ hz => nomatch hz), ⟨by decide, by decide⟩, by decide, w368, w447⟩ (i := 2) (lv' := [(0, va_rf a0), (1, va_rf a1)]) (by show List.filter (fun (q : Nat × Value) => !(q.1 == 2) && !(q.1 + 1 == 2 && q.2.category == 2)) _ = _; simp [kr_rfcat, kr_icat]) (by decide) d_W_emergency_11 ?_
      refine r_iconst (v := (1 : Int32)) (by decide) d_W_emergency_12 ?_
      cases h
      exact r_iret rfl d_W_emergency_13
    replace h2 := kr_in_ c0 h2
    cases h2
/-! KeyringCourtLaw.isPublished(LKeyringCourt;I[J)I -/
def f_W_isPublished_B15 (S : AS) (y0 : Option Nat) (y1 : Int32) (y2 : Int64) : Option (Int32 × AS) :=
  (bJ S y0 y1 y2).bind fun S1 =>
  some ((0 : Int32), S1)
def f_W_isPublished (S : AS) (a0 : Option Nat) (a1 : Int32) (a2 : Option Nat) : Option (Int32 × AS) :=
  (kr_rv S 22 a0).bind fun u2 =>
  kr_bh (f_K_isPublished S a0 a1) (fun E S3 => if E = "java/lang/IndexOutOfBoundsException" then
  some ((1 : Int32), S3)
  else none) fun v4 S3 =>
  if v4 = 0 then
  f_W_isPublished_B15 S3 a2 (0 : Int32) (0 : Int64)
  else
  f_W_isPublished_B15 S3 a2 (0 : Int32) (1 : Int64)
set_option maxRecDepth 20000 in
set_option maxHeartbeats 4000000 in
theorem s_W_isPublished_B15 {S : AS} {y0 : Option Nat} {y1 : Int32} {y2 : Int64} {r : (Int32 × AS)} (h : f_W_isPublished_B15 S y0 y1 y2 = some r) : kr_AW m_W_isPublished 9 15 [] [.long y2, .int y1, va_rf y0] S (kr_eI r) := by
  unfold f_W_isPublished_B15 at h
  have h2 := kr_ob h
  clear h
  obtain ⟨S1, eS1, h⟩ := h2
  refine r_lastore eS1 d_W_isPublished_15 ?_
  refine r_goto (tgt := 22) d_W_isPublished_16 rfl ?_
  refine r_iconst (v := (0 : Int32)) (by decide) d_W_isPublished_22 ?_
  cases h
  exact r_iret rfl d_W_isPublished_23
set_option maxRecDepth 20000 in
set_option maxHeartbeats 4000000 in
theorem s_W_isPublished {S : AS} {a0 : Option Nat} {a1 : Int32} {a2 : Option Nat} {r : (Int32 × AS)} (h : f_W_isPublished S a0 a1 a2 = some r) : kr_Con m_W_isPublished 9 [va_rf a0, .int a1, va_rf a2] S (kr_eI r) := by
  refine kr_conH rfl (by decide) (by decide +kernel) (by simp [lg_sl, kr_rfcat, kr_icat, m_W_isPublished, mL]) ?_
  rw [show lv_args 0 [va_rf a0, .int a1, va_rf a2] = [(0, va_rf a0), (1, .int a1), (2, va_rf a2)] from by simp [lv_args, kr_rfcat, kr_icat]]
  unfold f_W_isPublished at h
  refine r_aload_n (i := 2) (x := a2) 2 rfl d_W_isPublished_0 ?_
  refine r_iconst (v := (0 : Int32)) (by decide) d_W_isPublished_1 ?_
  refine r_aload_n (i := 0) (x := a0) 0 rfl d_W_isPublished_2 ?_
  refine r_iload_n (i := 1) (x := a1) 1 rfl d_W_isPublished_3 ?_
  have h2 := kr_ob h
  clear h
  obtain ⟨⟨⟩, eu2, h⟩ := h2
  rcases kr_obh h with ⟨v4, S3, eS3, h2⟩ | ⟨E, S3, eS3, h2⟩
  · clear h
    have h := h2
    clear h2
    refine r_callV (M1 := m_K_isPublished) (κ := 22) (As := [.int a1]) eu2 (s_K_isPublished eS3) mok_K_isPublished rfl (by decide) rfl w1263 w1264 w1265 (by decide) (kr_c8 (kr_cI (kr_cR kr_c0))) d_W_isPublished_4 (kr_k1 ?_) kr_kn
    refine r_if_eq (tgt := 14) d_W_isPublished_7 rfl (fun c => ?_) (fun c => ?_)
    · replace h := kr_ip c h
      refine r_lconst (v := (0 : Int64)) (by decide) d_W_isPublished_14 ?_
      exact kr_sub [] rfl (s_W_isPublished_B15 h)
    · replace h := kr_in_ c h
      refine r_lconst (v := (1 : Int64)) (by decide) d_W_isPublished_10 ?_
      refine r_goto (tgt := 15) d_W_isPublished_11 rfl ?_
      exact kr_sub [] rfl (s_W_isPublished_B15 h)
  · by_cases c0 : E = "java/lang/IndexOutOfBoundsException"
    · subst c0
      replace h2 := kr_ip rfl h2
      clear h
      have h := h2
      clear h2
      refine r_callV (M1 := m_K_isPublished) (κ := 22) (As := [.int a1]) eu2 (s_K_isPublished eS3) mok_K_isPublished rfl (by decide) rfl w1263 w1264 w1265 (by decide) (kr_c8 (kr_cI (kr_cR kr_c0))) d_W_isPublished_4 kr_nk (kr_kx ?_)
      refine r_catch_n (hd := (0, 16, 19, 21)) [] [] ⟨rfl, (fun _ hz => nomatch hz), ⟨by decide, by decide⟩, by decide, w554, w531⟩ (i := 3) (lv' := [(0, va_rf a0), (1, .int a1), (2, va_rf a2)]) (by show List.filter (fun (q : Nat × Value) => !(q.1 == 3) && !(q.1 + 1 == 3 && q.2.category == 2)) _ = _; simp [kr_rfcat, kr_icat]) (by decide) d_W_isPublished_19 ?_
      refine r_iconst (v := (1 : Int32)) (by decide) d_W_isPublished_20 ?_
      cases h
      exact r_iret rfl d_W_isPublished_21
    replace h2 := kr_in_ c0 h2
    cases h2
/-! KeyringCourtLaw.line(LKeyringCourt;I[J)I -/
def f_W_line (S : AS) (a0 : Option Nat) (a1 : Int32) (a2 : Option Nat) : Option (Int32 × AS) :=
  (kr_rv S 22 a0).bind fun u1 =>
  kr_bh (f_K_line S a0 a1) (fun E S2 => if E = "java/lang/IndexOutOfBoundsException" then
  some ((1 : Int32), S2)
  else none) fun v3 S2 =>
  (bJ S2 a2 (0 : Int32) v3.toInt64).bind fun S4 =>
  some ((0 : Int32), S4)
set_option maxRecDepth 20000 in
set_option maxHeartbeats 4000000 in
theorem s_W_line {S : AS} {a0 : Option Nat} {a1 : Int32} {a2 : Option Nat} {r : (Int32 × AS)} (h : f_W_line S a0 a1 a2 = some r) : kr_Con m_W_line 9 [va_rf a0, .int a1, va_rf a2] S (kr_eI r) := by
  refine kr_conH rfl (by decide) (by decide +kernel) (by simp [lg_sl, kr_rfcat, kr_icat, m_W_line, mL]) ?_
  rw [show lv_args 0 [va_rf a0, .int a1, va_rf a2] = [(0, va_rf a0), (1, .int a1), (2, va_rf a2)] from by simp [lv_args, kr_rfcat, kr_icat]]
  unfold f_W_line at h
  refine r_aload_n (i := 2) (x := a2) 2 rfl d_W_line_0 ?_
  refine r_iconst (v := (0 : Int32)) (by decide) d_W_line_1 ?_
  refine r_aload_n (i := 0) (x := a0) 0 rfl d_W_line_2 ?_
  refine r_iload_n (i := 1) (x := a1) 1 rfl d_W_line_3 ?_
  have h2 := kr_ob h
  clear h
  obtain ⟨⟨⟩, eu1, h⟩ := h2
  rcases kr_obh h with ⟨v3, S2, eS2, h2⟩ | ⟨E, S2, eS2, h2⟩
  · clear h
    have h := h2
    clear h2
    refine r_callV (M1 := m_K_line) (κ := 22) (As := [.int a1]) eu1 (s_K_line eS2) mok_K_line rfl (by decide) rfl w1270 w1271 w1272 (by decide) (kr_c8 (kr_cI (kr_cR kr_c0))) d_W_line_4 (kr_k1 ?_) kr_kn
    refine r_i2l d_W_line_7 ?_
    have h2 := kr_ob h
    clear h
    obtain ⟨S4, eS4, h⟩ := h2
    refine r_lastore eS4 d_W_line_8 ?_
    refine r_goto (tgt := 15) d_W_line_9 rfl ?_
    refine r_iconst (v := (0 : Int32)) (by decide) d_W_line_15 ?_
    cases h
    exact r_iret rfl d_W_line_16
  · by_cases c0 : E = "java/lang/IndexOutOfBoundsException"
    · subst c0
      replace h2 := kr_ip rfl h2
      clear h
      have h := h2
      clear h2
      refine r_callV (M1 := m_K_line) (κ := 22) (As := [.int a1]) eu1 (s_K_line eS2) mok_K_line rfl (by decide) rfl w1270 w1271 w1272 (by decide) (kr_c8 (kr_cI (kr_cR kr_c0))) d_W_line_4 kr_nk (kr_kx ?_)
      refine r_catch_n (hd := (0, 9, 12, 21)) [] [] ⟨rfl, (fun _ hz => nomatch hz), ⟨by decide, by decide⟩, by decide, w554, w531⟩ (i := 3) (lv' := [(0, va_rf a0), (1, .int a1), (2, va_rf a2)]) (by show List.filter (fun (q : Nat × Value) => !(q.1 == 3) && !(q.1 + 1 == 3 && q.2.category == 2)) _ = _; simp [kr_rfcat, kr_icat]) (by decide) d_W_line_12 ?_
      refine r_iconst (v := (1 : Int32)) (by decide) d_W_line_13 ?_
      cases h
      exact r_iret rfl d_W_line_14
    replace h2 := kr_in_ c0 h2
    cases h2
/-! KeyringCourtLaw.check(LKeyringCourt;III[J)I -/
def f_W_check (S : AS) (a0 : Option Nat) (a1 : Int32) (a2 : Int32) (a3 : Int32) (a4 : Option Nat) : Option (Int32 × AS) :=
  (kr_rv S 22 a0).bind fun u1 =>
  kr_bh (f_K_check S a0 a1 a2 a3) (fun E S2 => if E = "java/lang/IndexOutOfBoundsException" then
  some ((1 : Int32), S2)
  else if E = "java/lang/IllegalArgumentException" then
  some ((2 : Int32), S2)
  else none) fun v3 S2 =>
  (bJ S2 a4 (0 : Int32) v3.toInt64).bind fun S4 =>
  some ((0 : Int32), S4)
set_option maxRecDepth 20000 in
set_option maxHeartbeats 4000000 in
theorem s_W_check {S : AS} {a0 : Option Nat} {a1 : Int32} {a2 : Int32} {a3 : Int32} {a4 : Option Nat} {r : (Int32 × AS)} (h : f_W_check S a0 a1 a2 a3 a4 = some r) : kr_Con m_W_check 10 [va_rf a0, .int a1, .int a2, .int a3, va_rf a4] S (kr_eI r) := by
  refine kr_conH rfl (by decide) (by decide +kernel) (by simp [lg_sl, kr_rfcat, kr_icat, m_W_check, mL]) ?_
  rw [show lv_args 0 [va_rf a0, .int a1, .int a2, .int a3, va_rf a4] = [(0, va_rf a0), (1, .int a1), (2, .int a2), (3, .int a3), (4, va_rf a4)] from by simp [lv_args, kr_rfcat, kr_icat]]
  unfold f_W_check at h
  refine r_aload (i := 4) (x := a4) 4 rfl d_W_check_0 ?_
  refine r_iconst (v := (0 : Int32)) (by decide) d_W_check_2 ?_
  refine r_aload_n (i := 0) (x := a0) 0 rfl d_W_check_3 ?_
  refine r_iload_n (i := 1) (x := a1) 1 rfl d_W_check_4 ?_
  refine r_iload_n (i := 2) (x := a2) 2 rfl d_W_check_5 ?_
  refine r_iload_n (i := 3) (x := a3) 3 rfl d_W_check_6 ?_
  have h2 := kr_ob h
  clear h
  obtain ⟨⟨⟩, eu1, h⟩ := h2
  rcases kr_obh h with ⟨v3, S2, eS2, h2⟩ | ⟨E, S2, eS2, h2⟩
  · clear h
    have h := h2
    clear h2
    refine r_callV (M1 := m_K_check) (κ := 22) (As := [.int a1, .int a2, .int a3]) eu1 (s_K_check eS2) mok_K_check rfl (by decide) rfl w1281 w1282 w1283 (by decide) (kr_c8 (kr_cI (kr_cR kr_c0))) d_W_check_7 (kr_k1 ?_) kr_kn
    refine r_i2l d_W_check_10 ?_
    have h2 := kr_ob h
    clear h
    obtain ⟨S4, eS4, h⟩ := h2
    refine r_lastore eS4 d_W_check_11 ?_
    refine r_goto (tgt := 23) d_W_check_12 rfl ?_
    refine r_iconst (v := (0 : Int32)) (by decide) d_W_check_23 ?_
    cases h
    exact r_iret rfl d_W_check_24
  · by_cases c0 : E = "java/lang/IndexOutOfBoundsException"
    · subst c0
      replace h2 := kr_ip rfl h2
      clear h
      have h := h2
      clear h2
      refine r_callV (M1 := m_K_check) (κ := 22) (As := [.int a1, .int a2, .int a3]) eu1 (s_K_check eS2) mok_K_check rfl (by decide) rfl w1281 w1282 w1283 (by decide) (kr_c8 (kr_cI (kr_cR kr_c0))) d_W_check_7 kr_nk (kr_kx ?_)
      refine r_catch (hd := (0, 12, 15, 21)) [] [(0, 12, 19, 13)] ⟨rfl, (fun _ hz => nomatch hz), ⟨by decide, by decide⟩, by decide, w554, w531⟩ (i := 5) (lv' := [(0, va_rf a0), (1, .int a1), (2, .int a2), (3, .int a3), (4, va_rf a4)]) (by show List.filter (fun (q : Nat × Value) => !(q.1 == 5) && !(q.1 + 1 == 5 && q.2.category == 2)) _ = _; simp [kr_rfcat, kr_icat]) (by decide) d_W_check_15 ?_
      refine r_iconst (v := (1 : Int32)) (by decide) d_W_check_17 ?_
      cases h
      exact r_iret rfl d_W_check_18
    replace h2 := kr_in_ c0 h2
    by_cases c1 : E = "java/lang/IllegalArgumentException"
    · subst c1
      replace h2 := kr_ip rfl h2
      clear h
      have h := h2
      clear h2
      refine r_callV (M1 := m_K_check) (κ := 22) (As := [.int a1, .int a2, .int a3]) eu1 (s_K_check eS2) mok_K_check rfl (by decide) rfl w1281 w1282 w1283 (by decide) (kr_c8 (kr_cI (kr_cR kr_c0))) d_W_check_7 kr_nk (kr_kx ?_)
      refine r_catch (hd := (0, 12, 19, 13)) [(0, 12, 15, 21)] [] ⟨rfl, (kr_pre ⟨"java/lang/IndexOutOfBoundsException", by decide, w554, by decide⟩ (fun _ hz => nomatch hz)), ⟨by decide, by decide⟩, by decide, w367, w381⟩ (i := 5) (lv' := [(0, va_rf a0), (1, .int a1), (2, .int a2), (3, .int a3), (4, va_rf a4)]) (by show List.filter (fun (q : Nat × Value) => !(q.1 == 5) && !(q.1 + 1 == 5 && q.2.category == 2)) _ = _; simp [kr_rfcat, kr_icat]) (by decide) d_W_check_19 ?_
      refine r_iconst (v := (2 : Int32)) (by decide) d_W_check_21 ?_
      cases h
      exact r_iret rfl d_W_check_22
    replace h2 := kr_in_ c1 h2
    cases h2
/-! KeyringCourtLaw.lag(LKeyringCourt;I[J)I -/
def f_W_lag (S : AS) (a0 : Option Nat) (a1 : Int32) (a2 : Option Nat) : Option (Int32 × AS) :=
  (kr_rv S 22 a0).bind fun u1 =>
  kr_bh (f_K_lag S a0 a1) (fun E S2 => if E = "java/lang/IndexOutOfBoundsException" then
  some ((1 : Int32), S2)
  else none) fun v3 S2 =>
  (bJ S2 a2 (0 : Int32) v3.toInt64).bind fun S4 =>
  some ((0 : Int32), S4)
set_option maxRecDepth 20000 in
set_option maxHeartbeats 4000000 in
theorem s_W_lag {S : AS} {a0 : Option Nat} {a1 : Int32} {a2 : Option Nat} {r : (Int32 × AS)} (h : f_W_lag S a0 a1 a2 = some r) : kr_Con m_W_lag 10 [va_rf a0, .int a1, va_rf a2] S (kr_eI r) := by
  refine kr_conH rfl (by decide) (by decide +kernel) (by simp [lg_sl, kr_rfcat, kr_icat, m_W_lag, mL]) ?_
  rw [show lv_args 0 [va_rf a0, .int a1, va_rf a2] = [(0, va_rf a0), (1, .int a1), (2, va_rf a2)] from by simp [lv_args, kr_rfcat, kr_icat]]
  unfold f_W_lag at h
  refine r_aload_n (i := 2) (x := a2) 2 rfl d_W_lag_0 ?_
  refine r_iconst (v := (0 : Int32)) (by decide) d_W_lag_1 ?_
  refine r_aload_n (i := 0) (x := a0) 0 rfl d_W_lag_2 ?_
  refine r_iload_n (i := 1) (x := a1) 1 rfl d_W_lag_3 ?_
  have h2 := kr_ob h
  clear h
  obtain ⟨⟨⟩, eu1, h⟩ := h2
  rcases kr_obh h with ⟨v3, S2, eS2, h2⟩ | ⟨E, S2, eS2, h2⟩
  · clear h
    have h := h2
    clear h2
    refine r_callV (M1 := m_K_lag) (κ := 22) (As := [.int a1]) eu1 (s_K_lag eS2) mok_K_lag rfl (by decide) rfl w1292 w1293 w1294 (by decide) (kr_c8 (kr_cI (kr_cR kr_c0))) d_W_lag_4 (kr_k1 ?_) kr_kn
    refine r_i2l d_W_lag_7 ?_
    have h2 := kr_ob h
    clear h
    obtain ⟨S4, eS4, h⟩ := h2
    refine r_lastore eS4 d_W_lag_8 ?_
    refine r_goto (tgt := 15) d_W_lag_9 rfl ?_
    refine r_iconst (v := (0 : Int32)) (by decide) d_W_lag_15 ?_
    cases h
    exact r_iret rfl d_W_lag_16
  · by_cases c0 : E = "java/lang/IndexOutOfBoundsException"
    · subst c0
      replace h2 := kr_ip rfl h2
      clear h
      have h := h2
      clear h2
      refine r_callV (M1 := m_K_lag) (κ := 22) (As := [.int a1]) eu1 (s_K_lag eS2) mok_K_lag rfl (by decide) rfl w1292 w1293 w1294 (by decide) (kr_c8 (kr_cI (kr_cR kr_c0))) d_W_lag_4 kr_nk (kr_kx ?_)
      refine r_catch_n (hd := (0, 9, 12, 21)) [] [] ⟨rfl, (fun _ hz => nomatch hz), ⟨by decide, by decide⟩, by decide, w554, w531⟩ (i := 3) (lv' := [(0, va_rf a0), (1, .int a1), (2, va_rf a2)]) (by show List.filter (fun (q : Nat × Value) => !(q.1 == 3) && !(q.1 + 1 == 3 && q.2.category == 2)) _ = _; simp [kr_rfcat, kr_icat]) (by decide) d_W_lag_12 ?_
      refine r_iconst (v := (1 : Int32)) (by decide) d_W_lag_13 ?_
      cases h
      exact r_iret rfl d_W_lag_14
    replace h2 := kr_in_ c0 h2
    cases h2
/-! KeyringCourtLaw.recover(LKeyringCourt;I[J)I -/
def f_W_recover (S : AS) (a0 : Option Nat) (a1 : Int32) (a2 : Option Nat) : Option (Int32 × AS) :=
  (kr_rv S 22 a0).bind fun u1 =>
  kr_bh (f_K_recover S a0 a1) (fun E S2 => if E = "java/lang/IndexOutOfBoundsException" then
  some ((1 : Int32), S2)
  else if E = "java/lang/IllegalStateException" then
  some ((2 : Int32), S2)
  else none) fun v3 S2 =>
  (bJ S2 a2 (0 : Int32) v3.toInt64).bind fun S4 =>
  some ((0 : Int32), S4)
set_option maxRecDepth 20000 in
set_option maxHeartbeats 4000000 in
theorem s_W_recover {S : AS} {a0 : Option Nat} {a1 : Int32} {a2 : Option Nat} {r : (Int32 × AS)} (h : f_W_recover S a0 a1 a2 = some r) : kr_Con m_W_recover 9 [va_rf a0, .int a1, va_rf a2] S (kr_eI r) := by
  refine kr_conH rfl (by decide) (by decide +kernel) (by simp [lg_sl, kr_rfcat, kr_icat, m_W_recover, mL]) ?_
  rw [show lv_args 0 [va_rf a0, .int a1, va_rf a2] = [(0, va_rf a0), (1, .int a1), (2, va_rf a2)] from by simp [lv_args, kr_rfcat, kr_icat]]
  unfold f_W_recover at h
  refine r_aload_n (i := 2) (x := a2) 2 rfl d_W_recover_0 ?_
  refine r_iconst (v := (0 : Int32)) (by decide) d_W_recover_1 ?_
  refine r_aload_n (i := 0) (x := a0) 0 rfl d_W_recover_2 ?_
  refine r_iload_n (i := 1) (x := a1) 1 rfl d_W_recover_3 ?_
  have h2 := kr_ob h
  clear h
  obtain ⟨⟨⟩, eu1, h⟩ := h2
  rcases kr_obh h with ⟨v3, S2, eS2, h2⟩ | ⟨E, S2, eS2, h2⟩
  · clear h
    have h := h2
    clear h2
    refine r_callV (M1 := m_K_recover) (κ := 22) (As := [.int a1]) eu1 (s_K_recover eS2) mok_K_recover rfl (by decide) rfl w1300 w1301 w1302 (by decide) (kr_c8 (kr_cI (kr_cR kr_c0))) d_W_recover_4 (kr_k1 ?_) kr_kn
    refine r_i2l d_W_recover_7 ?_
    have h2 := kr_ob h
    clear h
    obtain ⟨S4, eS4, h⟩ := h2
    refine r_lastore eS4 d_W_recover_8 ?_
    refine r_goto (tgt := 18) d_W_recover_9 rfl ?_
    refine r_iconst (v := (0 : Int32)) (by decide) d_W_recover_18 ?_
    cases h
    exact r_iret rfl d_W_recover_19
  · by_cases c0 : E = "java/lang/IndexOutOfBoundsException"
    · subst c0
      replace h2 := kr_ip rfl h2
      clear h
      have h := h2
      clear h2
      refine r_callV (M1 := m_K_recover) (κ := 22) (As := [.int a1]) eu1 (s_K_recover eS2) mok_K_recover rfl (by decide) rfl w1300 w1301 w1302 (by decide) (kr_c8 (kr_cI (kr_cR kr_c0))) d_W_recover_4 kr_nk (kr_kx ?_)
      refine r_catch_n (hd := (0, 9, 12, 21)) [] [(0, 9, 15, 15)] ⟨rfl, (fun _ hz => nomatch hz), ⟨by decide, by decide⟩, by decide, w554, w531⟩ (i := 3) (lv' := [(0, va_rf a0), (1, .int a1), (2, va_rf a2)]) (by show List.filter (fun (q : Nat × Value) => !(q.1 == 3) && !(q.1 + 1 == 3 && q.2.category == 2)) _ = _; simp [kr_rfcat, kr_icat]) (by decide) d_W_recover_12 ?_
      refine r_iconst (v := (1 : Int32)) (by decide) d_W_recover_13 ?_
      cases h
      exact r_iret rfl d_W_recover_14
    replace h2 := kr_in_ c0 h2
    by_cases c1 : E = "java/lang/IllegalStateException"
    · subst c1
      replace h2 := kr_ip rfl h2
      clear h
      have h := h2
      clear h2
      refine r_callV (M1 := m_K_recover) (κ := 22) (As := [.int a1]) eu1 (s_K_recover eS2) mok_K_recover rfl (by decide) rfl w1300 w1301 w1302 (by decide) (kr_c8 (kr_cI (kr_cR kr_c0))) d_W_recover_4 kr_nk (kr_kx ?_)
      refine r_catch_n (hd := (0, 9, 15, 15)) [(0, 9, 12, 21)] [] ⟨rfl, (kr_pre ⟨"java/lang/IndexOutOfBoundsException", by decide, w554, by decide⟩ (fun _ hz => nomatch hz)), ⟨by decide, by decide⟩, by decide, w368, w447⟩ (i := 3) (lv' := [(0, va_rf a0), (1, .int a1), (2, va_rf a2)]) (by show List.filter (fun (q : Nat × Value) => !(q.1 == 3) && !(q.1 + 1 == 3 && q.2.category == 2)) _ = _; simp [kr_rfcat, kr_icat]) (by decide) d_W_recover_15 ?_
      refine r_iconst (v := (2 : Int32)) (by decide) d_W_recover_16 ?_
      cases h
      exact r_iret rfl d_W_recover_17
    replace h2 := kr_in_ c1 h2
    cases h2
/-! KeyringCourtLaw.vouch(LKeyringCourt;II[J)I -/
def f_W_vouch (S : AS) (a0 : Option Nat) (a1 : Int32) (a2 : Int32) (a3 : Option Nat) : Option (Int32 × AS) :=
  (kr_rv S 22 a0).bind fun u1 =>
  kr_bh (f_K_vouch S a0 a1 a2) (fun E S2 => if E = "java/lang/IndexOutOfBoundsException" then
  some ((1 : Int32), S2)
  else if E = "java/lang/IllegalStateException" then
  some ((2 : Int32), S2)
  else none) fun v3 S2 =>
  (bJ S2 a3 (0 : Int32) v3.toInt64).bind fun S4 =>
  some ((0 : Int32), S4)
set_option maxRecDepth 20000 in
set_option maxHeartbeats 4000000 in
theorem s_W_vouch {S : AS} {a0 : Option Nat} {a1 : Int32} {a2 : Int32} {a3 : Option Nat} {r : (Int32 × AS)} (h : f_W_vouch S a0 a1 a2 a3 = some r) : kr_Con m_W_vouch 10 [va_rf a0, .int a1, .int a2, va_rf a3] S (kr_eI r) := by
  refine kr_conH rfl (by decide) (by decide +kernel) (by simp [lg_sl, kr_rfcat, kr_icat, m_W_vouch, mL]) ?_
  rw [show lv_args 0 [va_rf a0, .int a1, .int a2, va_rf a3] = [(0, va_rf a0), (1, .int a1), (2, .int a2), (3, va_rf a3)] from by simp [lv_args, kr_rfcat, kr_icat]]
  unfold f_W_vouch at h
  refine r_aload_n (i := 3) (x := a3) 3 rfl d_W_vouch_0 ?_
  refine r_iconst (v := (0 : Int32)) (by decide) d_W_vouch_1 ?_
  refine r_aload_n (i := 0) (x := a0) 0 rfl d_W_vouch_2 ?_
  refine r_iload_n (i := 1) (x := a1) 1 rfl d_W_vouch_3 ?_
  refine r_iload_n (i := 2) (x := a2) 2 rfl d_W_vouch_4 ?_
  have h2 := kr_ob h
  clear h
  obtain ⟨⟨⟩, eu1, h⟩ := h2
  rcases kr_obh h with ⟨v3, S2, eS2, h2⟩ | ⟨E, S2, eS2, h2⟩
  · clear h
    have h := h2
    clear h2
    refine r_callV (M1 := m_K_vouch) (κ := 22) (As := [.int a1, .int a2]) eu1 (s_K_vouch eS2) mok_K_vouch rfl (by decide) rfl w1337 w1338 w1339 (by decide) (kr_c8 (kr_cI (kr_cR kr_c0))) d_W_vouch_5 (kr_k1 ?_) kr_kn
    refine r_i2l d_W_vouch_8 ?_
    have h2 := kr_ob h
    clear h
    obtain ⟨S4, eS4, h⟩ := h2
    refine r_lastore eS4 d_W_vouch_9 ?_
    refine r_goto (tgt := 21) d_W_vouch_10 rfl ?_
    refine r_iconst (v := (0 : Int32)) (by decide) d_W_vouch_21 ?_
    cases h
    exact r_iret rfl d_W_vouch_22
  · by_cases c0 : E = "java/lang/IndexOutOfBoundsException"
    · subst c0
      replace h2 := kr_ip rfl h2
      clear h
      have h := h2
      clear h2
      refine r_callV (M1 := m_K_vouch) (κ := 22) (As := [.int a1, .int a2]) eu1 (s_K_vouch eS2) mok_K_vouch rfl (by decide) rfl w1337 w1338 w1339 (by decide) (kr_c8 (kr_cI (kr_cR kr_c0))) d_W_vouch_5 kr_nk (kr_kx ?_)
      refine r_catch (hd := (0, 10, 13, 21)) [] [(0, 10, 17, 15)] ⟨rfl, (fun _ hz => nomatch hz), ⟨by decide, by decide⟩, by decide, w554, w531⟩ (i := 4) (lv' := [(0, va_rf a0), (1, .int a1), (2, .int a2), (3, va_rf a3)]) (by show List.filter (fun (q : Nat × Value) => !(q.1 == 4) && !(q.1 + 1 == 4 && q.2.category == 2)) _ = _; simp [kr_rfcat, kr_icat]) (by decide) d_W_vouch_13 ?_
      refine r_iconst (v := (1 : Int32)) (by decide) d_W_vouch_15 ?_
      cases h
      exact r_iret rfl d_W_vouch_16
    replace h2 := kr_in_ c0 h2
    by_cases c1 : E = "java/lang/IllegalStateException"
    · subst c1
      replace h2 := kr_ip rfl h2
      clear h
      have h := h2
      clear h2
      refine r_callV (M1 := m_K_vouch) (κ := 22) (As := [.int a1, .int a2]) eu1 (s_K_vouch eS2) mok_K_vouch rfl (by decide) rfl w1337 w1338 w1339 (by decide) (kr_c8 (kr_cI (kr_cR kr_c0))) d_W_vouch_5 kr_nk (kr_kx ?_)
      refine r_catch (hd := (0, 10, 17, 15)) [(0, 10, 13, 21)] [] ⟨rfl, (kr_pre ⟨"java/lang/IndexOutOfBoundsException", by decide, w554, by decide⟩ (fun _ hz => nomatch hz)), ⟨by decide, by decide⟩, by decide, w368, w447⟩ (i := 4) (lv' := [(0, va_rf a0), (1, .int a1), (2, .int a2), (3, va_rf a3)]) (by show List.filter (fun (q : Nat × Value) => !(q.1 == 4) && !(q.1 + 1 == 4 && q.2.category == 2)) _ = _; simp [kr_rfcat, kr_icat]) (by decide) d_W_vouch_17 ?_
      refine r_iconst (v := (2 : Int32)) (by decide) d_W_vouch_19 ?_
      cases h
      exact r_iret rfl d_W_vouch_20
    replace h2 := kr_in_ c1 h2
    cases h2
/-! KeyringCourtLaw.stop(LKeyringCourt;II[J)I -/
def f_W_stop (S : AS) (a0 : Option Nat) (a1 : Int32) (a2 : Int32) (a3 : Option Nat) : Option (Int32 × AS) :=
  (kr_rv S 22 a0).bind fun u1 =>
  kr_bh (f_K_stop S a0 a1 a2) (fun E S2 => if E = "java/lang/IndexOutOfBoundsException" then
  some ((1 : Int32), S2)
  else if E = "java/lang/IllegalStateException" then
  some ((2 : Int32), S2)
  else none) fun v3 S2 =>
  (bJ S2 a3 (0 : Int32) v3.toInt64).bind fun S4 =>
  some ((0 : Int32), S4)
set_option maxRecDepth 20000 in
set_option maxHeartbeats 4000000 in
theorem s_W_stop {S : AS} {a0 : Option Nat} {a1 : Int32} {a2 : Int32} {a3 : Option Nat} {r : (Int32 × AS)} (h : f_W_stop S a0 a1 a2 a3 = some r) : kr_Con m_W_stop 10 [va_rf a0, .int a1, .int a2, va_rf a3] S (kr_eI r) := by
  refine kr_conH rfl (by decide) (by decide +kernel) (by simp [lg_sl, kr_rfcat, kr_icat, m_W_stop, mL]) ?_
  rw [show lv_args 0 [va_rf a0, .int a1, .int a2, va_rf a3] = [(0, va_rf a0), (1, .int a1), (2, .int a2), (3, va_rf a3)] from by simp [lv_args, kr_rfcat, kr_icat]]
  unfold f_W_stop at h
  refine r_aload_n (i := 3) (x := a3) 3 rfl d_W_stop_0 ?_
  refine r_iconst (v := (0 : Int32)) (by decide) d_W_stop_1 ?_
  refine r_aload_n (i := 0) (x := a0) 0 rfl d_W_stop_2 ?_
  refine r_iload_n (i := 1) (x := a1) 1 rfl d_W_stop_3 ?_
  refine r_iload_n (i := 2) (x := a2) 2 rfl d_W_stop_4 ?_
  have h2 := kr_ob h
  clear h
  obtain ⟨⟨⟩, eu1, h⟩ := h2
  rcases kr_obh h with ⟨v3, S2, eS2, h2⟩ | ⟨E, S2, eS2, h2⟩
  · clear h
    have h := h2
    clear h2
    refine r_callV (M1 := m_K_stop) (κ := 22) (As := [.int a1, .int a2]) eu1 (s_K_stop eS2) mok_K_stop rfl (by decide) rfl w1348 w1349 w1350 (by decide) (kr_c8 (kr_cI (kr_cR kr_c0))) d_W_stop_5 (kr_k1 ?_) kr_kn
    refine r_i2l d_W_stop_8 ?_
    have h2 := kr_ob h
    clear h
    obtain ⟨S4, eS4, h⟩ := h2
    refine r_lastore eS4 d_W_stop_9 ?_
    refine r_goto (tgt := 21) d_W_stop_10 rfl ?_
    refine r_iconst (v := (0 : Int32)) (by decide) d_W_stop_21 ?_
    cases h
    exact r_iret rfl d_W_stop_22
  · by_cases c0 : E = "java/lang/IndexOutOfBoundsException"
    · subst c0
      replace h2 := kr_ip rfl h2
      clear h
      have h := h2
      clear h2
      refine r_callV (M1 := m_K_stop) (κ := 22) (As := [.int a1, .int a2]) eu1 (s_K_stop eS2) mok_K_stop rfl (by decide) rfl w1348 w1349 w1350 (by decide) (kr_c8 (kr_cI (kr_cR kr_c0))) d_W_stop_5 kr_nk (kr_kx ?_)
      refine r_catch (hd := (0, 10, 13, 21)) [] [(0, 10, 17, 15)] ⟨rfl, (fun _ hz => nomatch hz), ⟨by decide, by decide⟩, by decide, w554, w531⟩ (i := 4) (lv' := [(0, va_rf a0), (1, .int a1), (2, .int a2), (3, va_rf a3)]) (by show List.filter (fun (q : Nat × Value) => !(q.1 == 4) && !(q.1 + 1 == 4 && q.2.category == 2)) _ = _; simp [kr_rfcat, kr_icat]) (by decide) d_W_stop_13 ?_
      refine r_iconst (v := (1 : Int32)) (by decide) d_W_stop_15 ?_
      cases h
      exact r_iret rfl d_W_stop_16
    replace h2 := kr_in_ c0 h2
    by_cases c1 : E = "java/lang/IllegalStateException"
    · subst c1
      replace h2 := kr_ip rfl h2
      clear h
      have h := h2
      clear h2
      refine r_callV (M1 := m_K_stop) (κ := 22) (As := [.int a1, .int a2]) eu1 (s_K_stop eS2) mok_K_stop rfl (by decide) rfl w1348 w1349 w1350 (by decide) (kr_c8 (kr_cI (kr_cR kr_c0))) d_W_stop_5 kr_nk (kr_kx ?_)
      refine r_catch (hd := (0, 10, 17, 15)) [(0, 10, 13, 21)] [] ⟨rfl, (kr_pre ⟨"java/lang/IndexOutOfBoundsException", by decide, w554, by decide⟩ (fun _ hz => nomatch hz)), ⟨by decide, by decide⟩, by decide, w368, w447⟩ (i := 4) (lv' := [(0, va_rf a0), (1, .int a1), (2, .int a2), (3, va_rf a3)]) (by show List.filter (fun (q : Nat × Value) => !(q.1 == 4) && !(q.1 + 1 == 4 && q.2.category == 2)) _ = _; simp [kr_rfcat, kr_icat]) (by decide) d_W_stop_17 ?_
      refine r_iconst (v := (2 : Int32)) (by decide) d_W_stop_19 ?_
      cases h
      exact r_iret rfl d_W_stop_20
    replace h2 := kr_in_ c1 h2
    cases h2
/-! KeyringCourtLaw.finish(LKeyringCourt;I[J)I -/
def f_W_finish (S : AS) (a0 : Option Nat) (a1 : Int32) (a2 : Option Nat) : Option (Int32 × AS) :=
  (kr_rv S 22 a0).bind fun u1 =>
  kr_bh (f_K_finish S a0 a1) (fun E S2 => if E = "java/lang/IndexOutOfBoundsException" then
  some ((1 : Int32), S2)
  else if E = "java/lang/IllegalStateException" then
  some ((2 : Int32), S2)
  else none) fun v3 S2 =>
  (bJ S2 a2 (0 : Int32) v3.toInt64).bind fun S4 =>
  some ((0 : Int32), S4)
set_option maxRecDepth 20000 in
set_option maxHeartbeats 4000000 in
theorem s_W_finish {S : AS} {a0 : Option Nat} {a1 : Int32} {a2 : Option Nat} {r : (Int32 × AS)} (h : f_W_finish S a0 a1 a2 = some r) : kr_Con m_W_finish 13 [va_rf a0, .int a1, va_rf a2] S (kr_eI r) := by
  refine kr_conH rfl (by decide) (by decide +kernel) (by simp [lg_sl, kr_rfcat, kr_icat, m_W_finish, mL]) ?_
  rw [show lv_args 0 [va_rf a0, .int a1, va_rf a2] = [(0, va_rf a0), (1, .int a1), (2, va_rf a2)] from by simp [lv_args, kr_rfcat, kr_icat]]
  unfold f_W_finish at h
  refine r_aload_n (i := 2) (x := a2) 2 rfl d_W_finish_0 ?_
  refine r_iconst (v := (0 : Int32)) (by decide) d_W_finish_1 ?_
  refine r_aload_n (i := 0) (x := a0) 0 rfl d_W_finish_2 ?_
  refine r_iload_n (i := 1) (x := a1) 1 rfl d_W_finish_3 ?_
  have h2 := kr_ob h
  clear h
  obtain ⟨⟨⟩, eu1, h⟩ := h2
  rcases kr_obh h with ⟨v3, S2, eS2, h2⟩ | ⟨E, S2, eS2, h2⟩
  · clear h
    have h := h2
    clear h2
    refine r_callV (M1 := m_K_finish) (κ := 22) (As := [.int a1]) eu1 (s_K_finish eS2) mok_K_finish rfl (by decide) rfl w1365 w1366 w1367 (by decide) (kr_c8 (kr_cI (kr_cR kr_c0))) d_W_finish_4 (kr_k1 ?_) kr_kn
    refine r_i2l d_W_finish_7 ?_
    have h2 := kr_ob h
    clear h
    obtain ⟨S4, eS4, h⟩ := h2
    refine r_lastore eS4 d_W_finish_8 ?_
    refine r_goto (tgt := 18) d_W_finish_9 rfl ?_
    refine r_iconst (v := (0 : Int32)) (by decide) d_W_finish_18 ?_
    cases h
    exact r_iret rfl d_W_finish_19
  · by_cases c0 : E = "java/lang/IndexOutOfBoundsException"
    · subst c0
      replace h2 := kr_ip rfl h2
      clear h
      have h := h2
      clear h2
      refine r_callV (M1 := m_K_finish) (κ := 22) (As := [.int a1]) eu1 (s_K_finish eS2) mok_K_finish rfl (by decide) rfl w1365 w1366 w1367 (by decide) (kr_c8 (kr_cI (kr_cR kr_c0))) d_W_finish_4 kr_nk (kr_kx ?_)
      refine r_catch_n (hd := (0, 9, 12, 21)) [] [(0, 9, 15, 15)] ⟨rfl, (fun _ hz => nomatch hz), ⟨by decide, by decide⟩, by decide, w554, w531⟩ (i := 3) (lv' := [(0, va_rf a0), (1, .int a1), (2, va_rf a2)]) (by show List.filter (fun (q : Nat × Value) => !(q.1 == 3) && !(q.1 + 1 == 3 && q.2.category == 2)) _ = _; simp [kr_rfcat, kr_icat]) (by decide) d_W_finish_12 ?_
      refine r_iconst (v := (1 : Int32)) (by decide) d_W_finish_13 ?_
      cases h
      exact r_iret rfl d_W_finish_14
    replace h2 := kr_in_ c0 h2
    by_cases c1 : E = "java/lang/IllegalStateException"
    · subst c1
      replace h2 := kr_ip rfl h2
      clear h
      have h := h2
      clear h2
      refine r_callV (M1 := m_K_finish) (κ := 22) (As := [.int a1]) eu1 (s_K_finish eS2) mok_K_finish rfl (by decide) rfl w1365 w1366 w1367 (by decide) (kr_c8 (kr_cI (kr_cR kr_c0))) d_W_finish_4 kr_nk (kr_kx ?_)
      refine r_catch_n (hd := (0, 9, 15, 15)) [(0, 9, 12, 21)] [] ⟨rfl, (kr_pre ⟨"java/lang/IndexOutOfBoundsException", by decide, w554, by decide⟩ (fun _ hz => nomatch hz)), ⟨by decide, by decide⟩, by decide, w368, w447⟩ (i := 3) (lv' := [(0, va_rf a0), (1, .int a1), (2, va_rf a2)]) (by show List.filter (fun (q : Nat × Value) => !(q.1 == 3) && !(q.1 + 1 == 3 && q.2.category == 2)) _ = _; simp [kr_rfcat, kr_icat]) (by decide) d_W_finish_15 ?_
      refine r_iconst (v := (2 : Int32)) (by decide) d_W_finish_16 ?_
      cases h
      exact r_iret rfl d_W_finish_17
    replace h2 := kr_in_ c1 h2
    cases h2
/-! KeyringCourtLaw.link(LKeyringCourt;II[J)I -/
def f_W_link (S : AS) (a0 : Option Nat) (a1 : Int32) (a2 : Int32) (a3 : Option Nat) : Option (Int32 × AS) :=
  (kr_rv S 22 a0).bind fun u1 =>
  kr_bh (f_K_link S a0 a1 a2) (fun E S2 => if E = "java/lang/IndexOutOfBoundsException" then
  some ((1 : Int32), S2)
  else if E = "java/lang/IllegalStateException" then
  some ((2 : Int32), S2)
  else none) fun v3 S2 =>
  (bJ S2 a3 (0 : Int32) v3.toInt64).bind fun S4 =>
  some ((0 : Int32), S4)
set_option maxRecDepth 20000 in
set_option maxHeartbeats 4000000 in
theorem s_W_link {S : AS} {a0 : Option Nat} {a1 : Int32} {a2 : Int32} {a3 : Option Nat} {r : (Int32 × AS)} (h : f_W_link S a0 a1 a2 a3 = some r) : kr_Con m_W_link 9 [va_rf a0, .int a1, .int a2, va_rf a3] S (kr_eI r) := by
  refine kr_conH rfl (by decide) (by decide +kernel) (by simp [lg_sl, kr_rfcat, kr_icat, m_W_link, mL]) ?_
  rw [show lv_args 0 [va_rf a0, .int a1, .int a2, va_rf a3] = [(0, va_rf a0), (1, .int a1), (2, .int a2), (3, va_rf a3)] from by simp [lv_args, kr_rfcat, kr_icat]]
  unfold f_W_link at h
  refine r_aload_n (i := 3) (x := a3) 3 rfl d_W_link_0 ?_
  refine r_iconst (v := (0 : Int32)) (by decide) d_W_link_1 ?_
  refine r_aload_n (i := 0) (x := a0) 0 rfl d_W_link_2 ?_
  refine r_iload_n (i := 1) (x := a1) 1 rfl d_W_link_3 ?_
  refine r_iload_n (i := 2) (x := a2) 2 rfl d_W_link_4 ?_
  have h2 := kr_ob h
  clear h
  obtain ⟨⟨⟩, eu1, h⟩ := h2
  rcases kr_obh h with ⟨v3, S2, eS2, h2⟩ | ⟨E, S2, eS2, h2⟩
  · clear h
    have h := h2
    clear h2
    refine r_callV (M1 := m_K_link) (κ := 22) (As := [.int a1, .int a2]) eu1 (s_K_link eS2) mok_K_link rfl (by decide) rfl w1385 w1386 w1387 (by decide) (kr_c8 (kr_cI (kr_cR kr_c0))) d_W_link_5 (kr_k1 ?_) kr_kn
    refine r_i2l d_W_link_8 ?_
    have h2 := kr_ob h
    clear h
    obtain ⟨S4, eS4, h⟩ := h2
    refine r_lastore eS4 d_W_link_9 ?_
    refine r_goto (tgt := 21) d_W_link_10 rfl ?_
    refine r_iconst (v := (0 : Int32)) (by decide) d_W_link_21 ?_
    cases h
    exact r_iret rfl d_W_link_22
  · by_cases c0 : E = "java/lang/IndexOutOfBoundsException"
    · subst c0
      replace h2 := kr_ip rfl h2
      clear h
      have h := h2
      clear h2
      refine r_callV (M1 := m_K_link) (κ := 22) (As := [.int a1, .int a2]) eu1 (s_K_link eS2) mok_K_link rfl (by decide) rfl w1385 w1386 w1387 (by decide) (kr_c8 (kr_cI (kr_cR kr_c0))) d_W_link_5 kr_nk (kr_kx ?_)
      refine r_catch (hd := (0, 10, 13, 21)) [] [(0, 10, 17, 15)] ⟨rfl, (fun _ hz => nomatch hz), ⟨by decide, by decide⟩, by decide, w554, w531⟩ (i := 4) (lv' := [(0, va_rf a0), (1, .int a1), (2, .int a2), (3, va_rf a3)]) (by show List.filter (fun (q : Nat × Value) => !(q.1 == 4) && !(q.1 + 1 == 4 && q.2.category == 2)) _ = _; simp [kr_rfcat, kr_icat]) (by decide) d_W_link_13 ?_
      refine r_iconst (v := (1 : Int32)) (by decide) d_W_link_15 ?_
      cases h
      exact r_iret rfl d_W_link_16
    replace h2 := kr_in_ c0 h2
    by_cases c1 : E = "java/lang/IllegalStateException"
    · subst c1
      replace h2 := kr_ip rfl h2
      clear h
      have h := h2
      clear h2
      refine r_callV (M1 := m_K_link) (κ := 22) (As := [.int a1, .int a2]) eu1 (s_K_link eS2) mok_K_link rfl (by decide) rfl w1385 w1386 w1387 (by decide) (kr_c8 (kr_cI (kr_cR kr_c0))) d_W_link_5 kr_nk (kr_kx ?_)
      refine r_catch (hd := (0, 10, 17, 15)) [(0, 10, 13, 21)] [] ⟨rfl, (kr_pre ⟨"java/lang/IndexOutOfBoundsException", by decide, w554, by decide⟩ (fun _ hz => nomatch hz)), ⟨by decide, by decide⟩, by decide, w368, w447⟩ (i := 4) (lv' := [(0, va_rf a0), (1, .int a1), (2, .int a2), (3, va_rf a3)]) (by show List.filter (fun (q : Nat × Value) => !(q.1 == 4) && !(q.1 + 1 == 4 && q.2.category == 2)) _ = _; simp [kr_rfcat, kr_icat]) (by decide) d_W_link_17 ?_
      refine r_iconst (v := (2 : Int32)) (by decide) d_W_link_19 ?_
      cases h
      exact r_iret rfl d_W_link_20
    replace h2 := kr_in_ c1 h2
    cases h2
/-! KeyringCourtLaw.foreign(LKeyringCourt;I[J)I -/
def f_W_foreign (S : AS) (a0 : Option Nat) (a1 : Int32) (a2 : Option Nat) : Option (Int32 × AS) :=
  (kr_rv S 22 a0).bind fun u1 =>
  kr_bh (f_K_foreign S a0 a1) (fun E S2 => if E = "java/lang/IndexOutOfBoundsException" then
  some ((1 : Int32), S2)
  else if E = "java/lang/IllegalStateException" then
  some ((2 : Int32), S2)
  else none) fun v3 S2 =>
  (bJ S2 a2 (0 : Int32) v3.toInt64).bind fun S4 =>
  some ((0 : Int32), S4)
set_option maxRecDepth 20000 in
set_option maxHeartbeats 4000000 in
theorem s_W_foreign {S : AS} {a0 : Option Nat} {a1 : Int32} {a2 : Option Nat} {r : (Int32 × AS)} (h : f_W_foreign S a0 a1 a2 = some r) : kr_Con m_W_foreign 9 [va_rf a0, .int a1, va_rf a2] S (kr_eI r) := by
  refine kr_conH rfl (by decide) (by decide +kernel) (by simp [lg_sl, kr_rfcat, kr_icat, m_W_foreign, mL]) ?_
  rw [show lv_args 0 [va_rf a0, .int a1, va_rf a2] = [(0, va_rf a0), (1, .int a1), (2, va_rf a2)] from by simp [lv_args, kr_rfcat, kr_icat]]
  unfold f_W_foreign at h
  refine r_aload_n (i := 2) (x := a2) 2 rfl d_W_foreign_0 ?_
  refine r_iconst (v := (0 : Int32)) (by decide) d_W_foreign_1 ?_
  refine r_aload_n (i := 0) (x := a0) 0 rfl d_W_foreign_2 ?_
  refine r_iload_n (i := 1) (x := a1) 1 rfl d_W_foreign_3 ?_
  have h2 := kr_ob h
  clear h
  obtain ⟨⟨⟩, eu1, h⟩ := h2
  rcases kr_obh h with ⟨v3, S2, eS2, h2⟩ | ⟨E, S2, eS2, h2⟩
  · clear h
    have h := h2
    clear h2
    refine r_callV (M1 := m_K_foreign) (κ := 22) (As := [.int a1]) eu1 (s_K_foreign eS2) mok_K_foreign rfl (by decide) rfl w1392 w1393 w1394 (by decide) (kr_c8 (kr_cI (kr_cR kr_c0))) d_W_foreign_4 (kr_k1 ?_) kr_kn
    refine r_i2l d_W_foreign_7 ?_
    have h2 := kr_ob h
    clear h
    obtain ⟨S4, eS4, h⟩ := h2
    refine r_lastore eS4 d_W_foreign_8 ?_
    refine r_goto (tgt := 18) d_W_foreign_9 rfl ?_
    refine r_iconst (v := (0 : Int32)) (by decide) d_W_foreign_18 ?_
    cases h
    exact r_iret rfl d_W_foreign_19
  · by_cases c0 : E = "java/lang/IndexOutOfBoundsException"
    · subst c0
      replace h2 := kr_ip rfl h2
      clear h
      have h := h2
      clear h2
      refine r_callV (M1 := m_K_foreign) (κ := 22) (As := [.int a1]) eu1 (s_K_foreign eS2) mok_K_foreign rfl (by decide) rfl w1392 w1393 w1394 (by decide) (kr_c8 (kr_cI (kr_cR kr_c0))) d_W_foreign_4 kr_nk (kr_kx ?_)
      refine r_catch_n (hd := (0, 9, 12, 21)) [] [(0, 9, 15, 15)] ⟨rfl, (fun _ hz => nomatch hz), ⟨by decide, by decide⟩, by decide, w554, w531⟩ (i := 3) (lv' := [(0, va_rf a0), (1, .int a1), (2, va_rf a2)]) (by show List.filter (fun (q : Nat × Value) => !(q.1 == 3) && !(q.1 + 1 == 3 && q.2.category == 2)) _ = _; simp [kr_rfcat, kr_icat]) (by decide) d_W_foreign_12 ?_
      refine r_iconst (v := (1 : Int32)) (by decide) d_W_foreign_13 ?_
      cases h
      exact r_iret rfl d_W_foreign_14
    replace h2 := kr_in_ c0 h2
    by_cases c1 : E = "java/lang/IllegalStateException"
    · subst c1
      replace h2 := kr_ip rfl h2
      clear h
      have h := h2
      clear h2
      refine r_callV (M1 := m_K_foreign) (κ := 22) (As := [.int a1]) eu1 (s_K_foreign eS2) mok_K_foreign rfl (by decide) rfl w1392 w1393 w1394 (by decide) (kr_c8 (kr_cI (kr_cR kr_c0))) d_W_foreign_4 kr_nk (kr_kx ?_)
      refine r_catch_n (hd := (0, 9, 15, 15)) [(0, 9, 12, 21)] [] ⟨rfl, (kr_pre ⟨"java/lang/IndexOutOfBoundsException", by decide, w554, by decide⟩ (fun _ hz => nomatch hz)), ⟨by decide, by decide⟩, by decide, w368, w447⟩ (i := 3) (lv' := [(0, va_rf a0), (1, .int a1), (2, va_rf a2)]) (by show List.filter (fun (q : Nat × Value) => !(q.1 == 3) && !(q.1 + 1 == 3 && q.2.category == 2)) _ = _; simp [kr_rfcat, kr_icat]) (by decide) d_W_foreign_15 ?_
      refine r_iconst (v := (2 : Int32)) (by decide) d_W_foreign_16 ?_
      cases h
      exact r_iret rfl d_W_foreign_17
    replace h2 := kr_in_ c1 h2
    cases h2
/-! KeyringCourtLaw.leave(LKeyringCourt;I[J)I -/
def f_W_leave (S : AS) (a0 : Option Nat) (a1 : Int32) (a2 : Option Nat) : Option (Int32 × AS) :=
  (kr_rv S 22 a0).bind fun u1 =>
  kr_bh (f_K_leave S a0 a1) (fun E S2 => if E = "java/lang/IndexOutOfBoundsException" then
  some ((1 : Int32), S2)
  else none) fun v3 S2 =>
  (bJ S2 a2 (0 : Int32) v3.toInt64).bind fun S4 =>
  some ((0 : Int32), S4)
set_option maxRecDepth 20000 in
set_option maxHeartbeats 4000000 in
theorem s_W_leave {S : AS} {a0 : Option Nat} {a1 : Int32} {a2 : Option Nat} {r : (Int32 × AS)} (h : f_W_leave S a0 a1 a2 = some r) : kr_Con m_W_leave 13 [va_rf a0, .int a1, va_rf a2] S (kr_eI r) := by
  refine kr_conH rfl (by decide) (by decide +kernel) (by simp [lg_sl, kr_rfcat, kr_icat, m_W_leave, mL]) ?_
  rw [show lv_args 0 [va_rf a0, .int a1, va_rf a2] = [(0, va_rf a0), (1, .int a1), (2, va_rf a2)] from by simp [lv_args, kr_rfcat, kr_icat]]
  unfold f_W_leave at h
  refine r_aload_n (i := 2) (x := a2) 2 rfl d_W_leave_0 ?_
  refine r_iconst (v := (0 : Int32)) (by decide) d_W_leave_1 ?_
  refine r_aload_n (i := 0) (x := a0) 0 rfl d_W_leave_2 ?_
  refine r_iload_n (i := 1) (x := a1) 1 rfl d_W_leave_3 ?_
  have h2 := kr_ob h
  clear h
  obtain ⟨⟨⟩, eu1, h⟩ := h2
  rcases kr_obh h with ⟨v3, S2, eS2, h2⟩ | ⟨E, S2, eS2, h2⟩
  · clear h
    have h := h2
    clear h2
    refine r_callV (M1 := m_K_leave) (κ := 22) (As := [.int a1]) eu1 (s_K_leave eS2) mok_K_leave rfl (by decide) rfl w1400 w1401 w1402 (by decide) (kr_c8 (kr_cI (kr_cR kr_c0))) d_W_leave_4 (kr_k1 ?_) kr_kn
    refine r_i2l d_W_leave_7 ?_
    have h2 := kr_ob h
    clear h
    obtain ⟨S4, eS4, h⟩ := h2
    refine r_lastore eS4 d_W_leave_8 ?_
    refine r_goto (tgt := 15) d_W_leave_9 rfl ?_
    refine r_iconst (v := (0 : Int32)) (by decide) d_W_leave_15 ?_
    cases h
    exact r_iret rfl d_W_leave_16
  · by_cases c0 : E = "java/lang/IndexOutOfBoundsException"
    · subst c0
      replace h2 := kr_ip rfl h2
      clear h
      have h := h2
      clear h2
      refine r_callV (M1 := m_K_leave) (κ := 22) (As := [.int a1]) eu1 (s_K_leave eS2) mok_K_leave rfl (by decide) rfl w1400 w1401 w1402 (by decide) (kr_c8 (kr_cI (kr_cR kr_c0))) d_W_leave_4 kr_nk (kr_kx ?_)
      refine r_catch_n (hd := (0, 9, 12, 21)) [] [] ⟨rfl, (fun _ hz => nomatch hz), ⟨by decide, by decide⟩, by decide, w554, w531⟩ (i := 3) (lv' := [(0, va_rf a0), (1, .int a1), (2, va_rf a2)]) (by show List.filter (fun (q : Nat × Value) => !(q.1 == 3) && !(q.1 + 1 == 3 && q.2.category == 2)) _ = _; simp [kr_rfcat, kr_icat]) (by decide) d_W_leave_12 ?_
      refine r_iconst (v := (1 : Int32)) (by decide) d_W_leave_13 ?_
      cases h
      exact r_iret rfl d_W_leave_14
    replace h2 := kr_in_ c0 h2
    cases h2
/-! KeyringCourtLaw.audit(LKeyringCourt;I[J)I -/
def f_W_audit (S : AS) (a0 : Option Nat) (a1 : Int32) (a2 : Option Nat) : Option (Int32 × AS) :=
  (kr_rv S 22 a0).bind fun u1 =>
  kr_bh (f_K_audit S a0 a1) (fun E S2 => if E = "java/lang/IndexOutOfBoundsException" then
  some ((1 : Int32), S2)
  else none) fun v3 S2 =>
  (bJ S2 a2 (0 : Int32) v3.toInt64).bind fun S4 =>
  some ((0 : Int32), S4)
set_option maxRecDepth 20000 in
set_option maxHeartbeats 4000000 in
theorem s_W_audit {S : AS} {a0 : Option Nat} {a1 : Int32} {a2 : Option Nat} {r : (Int32 × AS)} (h : f_W_audit S a0 a1 a2 = some r) : kr_Con m_W_audit 9 [va_rf a0, .int a1, va_rf a2] S (kr_eI r) := by
  refine kr_conH rfl (by decide) (by decide +kernel) (by simp [lg_sl, kr_rfcat, kr_icat, m_W_audit, mL]) ?_
  rw [show lv_args 0 [va_rf a0, .int a1, va_rf a2] = [(0, va_rf a0), (1, .int a1), (2, va_rf a2)] from by simp [lv_args, kr_rfcat, kr_icat]]
  unfold f_W_audit at h
  refine r_aload_n (i := 2) (x := a2) 2 rfl d_W_audit_0 ?_
  refine r_iconst (v := (0 : Int32)) (by decide) d_W_audit_1 ?_
  refine r_aload_n (i := 0) (x := a0) 0 rfl d_W_audit_2 ?_
  refine r_iload_n (i := 1) (x := a1) 1 rfl d_W_audit_3 ?_
  have h2 := kr_ob h
  clear h
  obtain ⟨⟨⟩, eu1, h⟩ := h2
  rcases kr_obh h with ⟨v3, S2, eS2, h2⟩ | ⟨E, S2, eS2, h2⟩
  · clear h
    have h := h2
    clear h2
    refine r_callV (M1 := m_K_audit) (κ := 22) (As := [.int a1]) eu1 (s_K_audit eS2) mok_K_audit rfl (by decide) rfl w1415 w1416 w1417 (by decide) (kr_c8 (kr_cI (kr_cR kr_c0))) d_W_audit_4 (kr_k1 ?_) kr_kn
    refine r_i2l d_W_audit_7 ?_
    have h2 := kr_ob h
    clear h
    obtain ⟨S4, eS4, h⟩ := h2
    refine r_lastore eS4 d_W_audit_8 ?_
    refine r_goto (tgt := 15) d_W_audit_9 rfl ?_
    refine r_iconst (v := (0 : Int32)) (by decide) d_W_audit_15 ?_
    cases h
    exact r_iret rfl d_W_audit_16
  · by_cases c0 : E = "java/lang/IndexOutOfBoundsException"
    · subst c0
      replace h2 := kr_ip rfl h2
      clear h
      have h := h2
      clear h2
      refine r_callV (M1 := m_K_audit) (κ := 22) (As := [.int a1]) eu1 (s_K_audit eS2) mok_K_audit rfl (by decide) rfl w1415 w1416 w1417 (by decide) (kr_c8 (kr_cI (kr_cR kr_c0))) d_W_audit_4 kr_nk (kr_kx ?_)
      refine r_catch_n (hd := (0, 9, 12, 21)) [] [] ⟨rfl, (fun _ hz => nomatch hz), ⟨by decide, by decide⟩, by decide, w554, w531⟩ (i := 3) (lv' := [(0, va_rf a0), (1, .int a1), (2, va_rf a2)]) (by show List.filter (fun (q : Nat × Value) => !(q.1 == 3) && !(q.1 + 1 == 3 && q.2.category == 2)) _ = _; simp [kr_rfcat, kr_icat]) (by decide) d_W_audit_12 ?_
      refine r_iconst (v := (1 : Int32)) (by decide) d_W_audit_13 ?_
      cases h
      exact r_iret rfl d_W_audit_14
    replace h2 := kr_in_ c0 h2
    cases h2
/-! KeyringCourtLaw.sumAnew(LKeyringCourt;I[J)I -/
def f_W_sumAnew (S : AS) (a0 : Option Nat) (a1 : Int32) (a2 : Option Nat) : Option (Int32 × AS) :=
  (kr_rv S 22 a0).bind fun u1 =>
  kr_bh (f_K_sumAnew S a0 a1) (fun E S2 => if E = "java/lang/IndexOutOfBoundsException" then
  some ((1 : Int32), S2)
  else none) fun v3 S2 =>
  (bJ S2 a2 (0 : Int32) v3.toInt64).bind fun S4 =>
  some ((0 : Int32), S4)
set_option maxRecDepth 20000 in
set_option maxHeartbeats 4000000 in
theorem s_W_sumAnew {S : AS} {a0 : Option Nat} {a1 : Int32} {a2 : Option Nat} {r : (Int32 × AS)} (h : f_W_sumAnew S a0 a1 a2 = some r) : kr_Con m_W_sumAnew 9 [va_rf a0, .int a1, va_rf a2] S (kr_eI r) := by
  refine kr_conH rfl (by decide) (by decide +kernel) (by simp [lg_sl, kr_rfcat, kr_icat, m_W_sumAnew, mL]) ?_
  rw [show lv_args 0 [va_rf a0, .int a1, va_rf a2] = [(0, va_rf a0), (1, .int a1), (2, va_rf a2)] from by simp [lv_args, kr_rfcat, kr_icat]]
  unfold f_W_sumAnew at h
  refine r_aload_n (i := 2) (x := a2) 2 rfl d_W_sumAnew_0 ?_
  refine r_iconst (v := (0 : Int32)) (by decide) d_W_sumAnew_1 ?_
  refine r_aload_n (i := 0) (x := a0) 0 rfl d_W_sumAnew_2 ?_
  refine r_iload_n (i := 1) (x := a1) 1 rfl d_W_sumAnew_3 ?_
  have h2 := kr_ob h
  clear h
  obtain ⟨⟨⟩, eu1, h⟩ := h2
  rcases kr_obh h with ⟨v3, S2, eS2, h2⟩ | ⟨E, S2, eS2, h2⟩
  · clear h
    have h := h2
    clear h2
    refine r_callV (M1 := m_K_sumAnew) (κ := 22) (As := [.int a1]) eu1 (s_K_sumAnew eS2) mok_K_sumAnew rfl (by decide) rfl w1423 w1424 w1425 (by decide) (kr_c8 (kr_cI (kr_cR kr_c0))) d_W_sumAnew_4 (kr_k1 ?_) kr_kn
    refine r_i2l d_W_sumAnew_7 ?_
    have h2 := kr_ob h
    clear h
    obtain ⟨S4, eS4, h⟩ := h2
    refine r_lastore eS4 d_W_sumAnew_8 ?_
    refine r_goto (tgt := 15) d_W_sumAnew_9 rfl ?_
    refine r_iconst (v := (0 : Int32)) (by decide) d_W_sumAnew_15 ?_
    cases h
    exact r_iret rfl d_W_sumAnew_16
  · by_cases c0 : E = "java/lang/IndexOutOfBoundsException"
    · subst c0
      replace h2 := kr_ip rfl h2
      clear h
      have h := h2
      clear h2
      refine r_callV (M1 := m_K_sumAnew) (κ := 22) (As := [.int a1]) eu1 (s_K_sumAnew eS2) mok_K_sumAnew rfl (by decide) rfl w1423 w1424 w1425 (by decide) (kr_c8 (kr_cI (kr_cR kr_c0))) d_W_sumAnew_4 kr_nk (kr_kx ?_)
      refine r_catch_n (hd := (0, 9, 12, 21)) [] [] ⟨rfl, (fun _ hz => nomatch hz), ⟨by decide, by decide⟩, by decide, w554, w531⟩ (i := 3) (lv' := [(0, va_rf a0), (1, .int a1), (2, va_rf a2)]) (by show List.filter (fun (q : Nat × Value) => !(q.1 == 3) && !(q.1 + 1 == 3 && q.2.category == 2)) _ = _; simp [kr_rfcat, kr_icat]) (by decide) d_W_sumAnew_12 ?_
      refine r_iconst (v := (1 : Int32)) (by decide) d_W_sumAnew_13 ?_
      cases h
      exact r_iret rfl d_W_sumAnew_14
    replace h2 := kr_in_ c0 h2
    cases h2
