/-! ===== p1: calls whose arguments have a range ===== -/
theorem kr_z70 : gI (wX kr_Z) 23 70 (some 57) = some (0 : Int32) ∧ gI (wX kr_Z) 23 60 (some 57) = some (1 : Int32) ∧ gI (wX kr_Z) 23 77 (some 57) = some (0 : Int32) ∧ gR kr_Z 22 15 (some 4) = some (some 25) ∧ gI kr_Z 15 0 (some 25) = some (1 : Int32) ∧ gR kr_Z 22 1 (some 4) = some (some 5) ∧ gI kr_Z 12 2 (some 5) = some (0 : Int32) := by decide +kernel
theorem k_enroll0 (a b : Int32) (ha : ¬ ((0 : Int32) ≤ a ∧ a ≤ 5)) : f_K_enroll kr_Z (some 4) a b = some (.inr "java/lang/IndexOutOfBoundsException", wX kr_Z) := by
  unfold f_K_enroll
  rw [zrv22, Option.bind_some, kP_bad a ha, kr_bx_r]
theorem w_enroll0 (a b : Int32) (ha : ¬ ((0 : Int32) ≤ a ∧ a ≤ 5)) : f_W_enroll kr_Z (some 4) a b (some 126) = some ((1 : Int32), wX kr_Z) := by
  unfold f_W_enroll
  rw [zrv22, Option.bind_some, k_enroll0 a b ha, kr_bh_r, if_pos rfl]
theorem n_enroll0 (a b : Int32) (ha : ¬ ((0 : Int32) ≤ a ∧ a ≤ 5)) : f_M_enroll (wX kr_Z) (some 57) a b = some ((0 : Int32), kr_M1) := by
  unfold f_M_enroll
  rw [q_M6, kr_b2_s, q_Mf, kr_b2_s, zrvX, Option.bind_some, kr_bi_f ha, mZ_both, kr_b2_s, if_pos rfl]
theorem k_enroll1 (a b : Int32) (ha : (0 : Int32) ≤ a ∧ a ≤ 5) (hb : ¬ ((0 : Int32) ≤ b ∧ b ≤ 2)) : f_K_enroll kr_Z (some 4) a b = some (.inr "java/lang/IllegalArgumentException", wX kr_Z) := by
  obtain ⟨p, q, e, -, -⟩ := kP_ok a ha
  unfold f_K_enroll
  rw [zrv22, Option.bind_some, e, kr_bx_l, q_Kf, kr_b2_s, kr_bi_f hb, q_Kreq, kr_bx_r]
theorem w_enroll1 (a b : Int32) (ha : (0 : Int32) ≤ a ∧ a ≤ 5) (hb : ¬ ((0 : Int32) ≤ b ∧ b ≤ 2)) : f_W_enroll kr_Z (some 4) a b (some 126) = some ((2 : Int32), wX kr_Z) := by
  unfold f_W_enroll
  rw [zrv22, Option.bind_some, k_enroll1 a b ha hb, kr_bh_r, if_neg (by decide), if_pos rfl]
theorem n_enroll1 (a b : Int32) (ha : (0 : Int32) ≤ a ∧ a ≤ 5) (hb : ¬ ((0 : Int32) ≤ b ∧ b ≤ 2)) : f_M_enroll (wX kr_Z) (some 57) a b = some ((0 : Int32), kr_M2) := by
  unfold f_M_enroll
  rw [q_M6, kr_b2_s, q_Mf, kr_b2_s, zrvX, Option.bind_some, kr_bi_t ha, kr_bi_f hb, mZ_both2, kr_b2_s, if_pos rfl]
theorem o_enroll (X : Nat → Int32) : kr_good (f_W_law_B316 X 6 (kr_K6 X) kr_Z (some 4) (some 57) (some 126) (0 : Int32)) = true := by
  simp only [f_W_law_B316, kr_sx1, kr_sx2, kr_sx3, Option.bind_some, kr_tail]
  generalize X 1 = a
  generalize X 2 = b
  by_cases ha : (0 : Int32) ≤ a ∧ a ≤ 5
  · by_cases hb : (0 : Int32) ≤ b ∧ b ≤ 2
    · obtain ⟨na, ma, rfl⟩ := kr_rng ha
      obtain ⟨nb, mb, rfl⟩ := kr_rng hb
      clear ha hb
      revert nb
      revert na
      decide +kernel
    · rw [w_enroll1 a b ha hb, kr_b2_s, zrvX, Option.bind_some, n_enroll1 a b ha hb, kr_b2_s]
      decide +kernel
  · rw [w_enroll0 a b ha, kr_b2_s, zrvX, Option.bind_some, n_enroll0 a b ha, kr_b2_s]
    decide +kernel
theorem k_factor0 (a b : Int32) (ha : ¬ ((0 : Int32) ≤ a ∧ a ≤ 5)) : f_K_factor kr_Z (some 4) a b = some (.inr "java/lang/IndexOutOfBoundsException", wX kr_Z) := by
  unfold f_K_factor
  rw [zrv22, Option.bind_some, kP_bad a ha, kr_bx_r]
theorem w_factor0 (a b : Int32) (ha : ¬ ((0 : Int32) ≤ a ∧ a ≤ 5)) : f_W_factor kr_Z (some 4) a b (some 126) = some ((1 : Int32), wX kr_Z) := by
  unfold f_W_factor
  rw [zrv22, Option.bind_some, k_factor0 a b ha, kr_bh_r, if_pos rfl]
theorem n_factor0 (a b : Int32) (ha : ¬ ((0 : Int32) ≤ a ∧ a ≤ 5)) : f_M_factor (wX kr_Z) (some 57) a b = some ((0 : Int32), kr_M1) := by
  unfold f_M_factor
  rw [q_M6, kr_b2_s, q_Mf, kr_b2_s, zrvX, Option.bind_some, kr_bi_f ha, mZ_both, kr_b2_s, if_pos rfl]
theorem k_factor1 (a b : Int32) (ha : (0 : Int32) ≤ a ∧ a ≤ 5) (hb : ¬ ((0 : Int32) ≤ b ∧ b ≤ 2)) : f_K_factor kr_Z (some 4) a b = some (.inr "java/lang/IllegalArgumentException", wX kr_Z) := by
  obtain ⟨p, q, e, -, -⟩ := kP_ok a ha
  unfold f_K_factor
  rw [zrv22, Option.bind_some, e, kr_bx_l, q_Kf, kr_b2_s, kr_bi_f hb, q_Kreq, kr_bx_r]
theorem w_factor1 (a b : Int32) (ha : (0 : Int32) ≤ a ∧ a ≤ 5) (hb : ¬ ((0 : Int32) ≤ b ∧ b ≤ 2)) : f_W_factor kr_Z (some 4) a b (some 126) = some ((2 : Int32), wX kr_Z) := by
  unfold f_W_factor
  rw [zrv22, Option.bind_some, k_factor1 a b ha hb, kr_bh_r, if_neg (by decide), if_pos rfl]
theorem n_factor1 (a b : Int32) (ha : (0 : Int32) ≤ a ∧ a ≤ 5) (hb : ¬ ((0 : Int32) ≤ b ∧ b ≤ 2)) : f_M_factor (wX kr_Z) (some 57) a b = some ((0 : Int32), kr_M2) := by
  unfold f_M_factor
  rw [q_M6, kr_b2_s, q_Mf, kr_b2_s, zrvX, Option.bind_some, kr_bi_t ha, kr_bi_f hb, mZ_both2, kr_b2_s, if_pos rfl]
theorem o_factor (X : Nat → Int32) : kr_good (f_W_law_B384 X 6 (kr_K6 X) kr_Z (some 4) (some 57) (some 126) (0 : Int32)) = true := by
  simp only [f_W_law_B384, kr_sx1, kr_sx2, kr_sx3, Option.bind_some, kr_tail]
  generalize X 1 = a
  generalize X 2 = b
  by_cases ha : (0 : Int32) ≤ a ∧ a ≤ 5
  · by_cases hb : (0 : Int32) ≤ b ∧ b ≤ 2
    · obtain ⟨na, ma, rfl⟩ := kr_rng ha
      obtain ⟨nb, mb, rfl⟩ := kr_rng hb
      clear ha hb
      revert nb
      revert na
      decide +kernel
    · rw [w_factor1 a b ha hb, kr_b2_s, zrvX, Option.bind_some, n_factor1 a b ha hb, kr_b2_s]
      decide +kernel
  · rw [w_factor0 a b ha, kr_b2_s, zrvX, Option.bind_some, n_factor0 a b ha, kr_b2_s]
    decide +kernel
theorem k_need0 (a b : Int32) (ha : ¬ ((0 : Int32) ≤ a ∧ a ≤ 3)) : f_K_need kr_Z (some 4) a b = some (.inr "java/lang/IndexOutOfBoundsException", wX kr_Z) := by
  unfold f_K_need
  rw [zrv22, Option.bind_some, kS_bad a ha, kr_bx_r]
theorem w_need0 (a b : Int32) (ha : ¬ ((0 : Int32) ≤ a ∧ a ≤ 3)) : f_W_need kr_Z (some 4) a b (some 126) = some ((1 : Int32), wX kr_Z) := by
  unfold f_W_need
  rw [zrv22, Option.bind_some, k_need0 a b ha, kr_bh_r, if_pos rfl]
theorem n_need0 (a b : Int32) (ha : ¬ ((0 : Int32) ≤ a ∧ a ≤ 3)) : f_M_need (wX kr_Z) (some 57) a b = some ((0 : Int32), kr_M1) := by
  unfold f_M_need
  rw [q_M4, kr_b2_s, q_Mi, kr_b2_s, zrvX, Option.bind_some, kr_bi_f ha, mZ_both, kr_b2_s, if_pos rfl]
theorem k_need1 (a b : Int32) (ha : (0 : Int32) ≤ a ∧ a ≤ 3) (hb : ¬ ((0 : Int32) ≤ b ∧ b ≤ 6)) : f_K_need kr_Z (some 4) a b = some (.inr "java/lang/IllegalArgumentException", wX kr_Z) := by
  obtain ⟨p, e⟩ := kS_ok a ha
  unfold f_K_need
  rw [zrv22, Option.bind_some, e, kr_bx_l, q_Kw, kr_b2_s, kr_bi_f hb, q_Kreq, kr_bx_r]
theorem w_need1 (a b : Int32) (ha : (0 : Int32) ≤ a ∧ a ≤ 3) (hb : ¬ ((0 : Int32) ≤ b ∧ b ≤ 6)) : f_W_need kr_Z (some 4) a b (some 126) = some ((2 : Int32), wX kr_Z) := by
  unfold f_W_need
  rw [zrv22, Option.bind_some, k_need1 a b ha hb, kr_bh_r, if_neg (by decide), if_pos rfl]
theorem n_need1 (a b : Int32) (ha : (0 : Int32) ≤ a ∧ a ≤ 3) (hb : ¬ ((0 : Int32) ≤ b ∧ b ≤ 6)) : f_M_need (wX kr_Z) (some 57) a b = some ((0 : Int32), kr_M2) := by
  unfold f_M_need
  rw [q_M4, kr_b2_s, q_Mi, kr_b2_s, zrvX, Option.bind_some, kr_bi_t ha, kr_bi_f hb, mZ_both2, kr_b2_s, if_pos rfl]
theorem o_need (X : Nat → Int32) : kr_good (f_W_law_B1859 X 6 (kr_K6 X) kr_Z (some 4) (some 57) (some 126) (0 : Int32)) = true := by
  simp only [f_W_law_B1859, kr_sx1, kr_sx2, kr_sx3, Option.bind_some, kr_tail]
  generalize X 1 = a
  generalize X 2 = b
  by_cases ha : (0 : Int32) ≤ a ∧ a ≤ 3
  · by_cases hb : (0 : Int32) ≤ b ∧ b ≤ 6
    · obtain ⟨na, ma, rfl⟩ := kr_rng ha
      obtain ⟨nb, mb, rfl⟩ := kr_rng hb
      clear ha hb
      revert nb
      revert na
      decide +kernel
    · rw [w_need1 a b ha hb, kr_b2_s, zrvX, Option.bind_some, n_need1 a b ha hb, kr_b2_s]
      decide +kernel
  · rw [w_need0 a b ha, kr_b2_s, zrvX, Option.bind_some, n_need0 a b ha, kr_b2_s]
    decide +kernel
theorem k_withdraw0 (a b : Int32) (ha : ¬ ((0 : Int32) ≤ a ∧ a ≤ 5)) : f_K_withdraw kr_Z (some 4) a b = some (.inr "java/lang/IndexOutOfBoundsException", wX kr_Z) := by
  unfold f_K_withdraw
  rw [zrv22, Option.bind_some, kP_bad a ha, kr_bx_r]
theorem w_withdraw0 (a b : Int32) (ha : ¬ ((0 : Int32) ≤ a ∧ a ≤ 5)) : f_W_withdraw kr_Z (some 4) a b (some 126) = some ((1 : Int32), wX kr_Z) := by
  unfold f_W_withdraw
  rw [zrv22, Option.bind_some, k_withdraw0 a b ha, kr_bh_r, if_pos rfl]
theorem n_withdraw0 (a b : Int32) (ha : ¬ ((0 : Int32) ≤ a ∧ a ≤ 5)) : f_M_withdraw (wX kr_Z) (some 57) a b = some ((0 : Int32), kr_M1) := by
  unfold f_M_withdraw
  rw [q_M6, kr_b2_s, kr_bi_f ha, if_pos rfl]
  unfold f_M_withdraw_B19 f_M_withdraw_B20
  rw [zrvX, Option.bind_some, mZ_may, kr_b2_s, if_pos rfl]
theorem k_withdraw1 (a b : Int32) (ha : (0 : Int32) ≤ a ∧ a ≤ 5) (hb : ¬ ((0 : Int32) ≤ b ∧ b ≤ 3)) : f_K_withdraw kr_Z (some 4) a b = some (.inr "java/lang/IndexOutOfBoundsException", wX kr_Z) := by
  obtain ⟨p, q, e, e1, e2⟩ := kP_ok a ha
  unfold f_K_withdraw
  rw [zrv22, Option.bind_some, e, kr_bx_l, e1, Option.bind_some, e2, Option.bind_some, q_idx_bad _ b 4 3 (by decide) hb, kr_bx_r]
theorem w_withdraw1 (a b : Int32) (ha : (0 : Int32) ≤ a ∧ a ≤ 5) (hb : ¬ ((0 : Int32) ≤ b ∧ b ≤ 3)) : f_W_withdraw kr_Z (some 4) a b (some 126) = some ((1 : Int32), wX kr_Z) := by
  unfold f_W_withdraw
  rw [zrv22, Option.bind_some, k_withdraw1 a b ha hb, kr_bh_r, if_pos rfl]
theorem n_withdraw1 (a b : Int32) (ha : (0 : Int32) ≤ a ∧ a ≤ 5) (hb : ¬ ((0 : Int32) ≤ b ∧ b ≤ 3)) : f_M_withdraw (wX kr_Z) (some 57) a b = some ((0 : Int32), kr_M1) := by
  unfold f_M_withdraw
  rw [q_M6, kr_b2_s, kr_bi_t ha, if_neg (by decide), q_M4, kr_b2_s, kr_bi_f hb, if_pos rfl]
  unfold f_M_withdraw_B19 f_M_withdraw_B20
  rw [zrvX, Option.bind_some, mZ_may, kr_b2_s, if_pos rfl]
theorem o_withdraw (X : Nat → Int32) : kr_good (f_W_law_B1791 X 6 (kr_K6 X) kr_Z (some 4) (some 57) (some 126) (0 : Int32)) = true := by
  simp only [f_W_law_B1791, kr_sx1, kr_sx2, kr_sx3, Option.bind_some, kr_tail]
  generalize X 1 = a
  generalize X 2 = b
  by_cases ha : (0 : Int32) ≤ a ∧ a ≤ 5
  · by_cases hb : (0 : Int32) ≤ b ∧ b ≤ 3
    · obtain ⟨na, ma, rfl⟩ := kr_rng ha
      obtain ⟨nb, mb, rfl⟩ := kr_rng hb
      clear ha hb
      revert nb
      revert na
      decide +kernel
    · rw [w_withdraw1 a b ha hb, kr_b2_s, zrvX, Option.bind_some, n_withdraw1 a b ha hb, kr_b2_s]
      decide +kernel
  · rw [w_withdraw0 a b ha, kr_b2_s, zrvX, Option.bind_some, n_withdraw0 a b ha, kr_b2_s]
    decide +kernel
theorem k_helper0 (a : Int32) (ha : ¬ ((0 : Int32) ≤ a ∧ a ≤ 5)) : f_K_helper kr_Z (some 4) a = some (.inr "java/lang/IndexOutOfBoundsException", wX kr_Z) := by
  unfold f_K_helper
  rw [zrv22, Option.bind_some, kP_bad a ha, kr_bx_r]
theorem w_helper0 (a : Int32) (ha : ¬ ((0 : Int32) ≤ a ∧ a ≤ 5)) : f_W_helper kr_Z (some 4) a (some 126) = some ((1 : Int32), wX kr_Z) := by
  unfold f_W_helper
  rw [zrv22, Option.bind_some, k_helper0 a ha, kr_bh_r, if_pos rfl]
theorem n_helper0 (a : Int32) (ha : ¬ ((0 : Int32) ≤ a ∧ a ≤ 5)) : f_M_helper (wX kr_Z) (some 57) a = some ((0 : Int32), kr_M1) := by
  unfold f_M_helper
  rw [q_M6, kr_b2_s, zrvX, Option.bind_some, kr_bi_f ha, mZ_may, kr_b2_s, if_pos rfl]
theorem o_helper (X : Nat → Int32) : kr_good (f_W_law_B1580 X 6 (kr_K6 X) kr_Z (some 4) (some 57) (some 126) (0 : Int32)) = true := by
  simp only [f_W_law_B1580, f_W_law_B1634, kr_sx1, kr_sx2, kr_sx3, Option.bind_some, kr_tail]
  generalize X 1 = a
  by_cases ha : (0 : Int32) ≤ a ∧ a ≤ 5
  · obtain ⟨na, ma, rfl⟩ := kr_rng ha
    clear ha
    revert na
    decide +kernel
  · rw [w_helper0 a ha, kr_b2_s, zrvX, Option.bind_some, n_helper0 a ha, kr_b2_s]
    decide +kernel
theorem k_leave0 (a : Int32) (ha : ¬ ((0 : Int32) ≤ a ∧ a ≤ 5)) : f_K_leave kr_Z (some 4) a = some (.inr "java/lang/IndexOutOfBoundsException", wX kr_Z) := by
  unfold f_K_leave
  rw [zrv22, Option.bind_some, kP_bad a ha, kr_bx_r]
theorem w_leave0 (a : Int32) (ha : ¬ ((0 : Int32) ≤ a ∧ a ≤ 5)) : f_W_leave kr_Z (some 4) a (some 126) = some ((1 : Int32), wX kr_Z) := by
  unfold f_W_leave
  rw [zrv22, Option.bind_some, k_leave0 a ha, kr_bh_r, if_pos rfl]
theorem n_leave0 (a : Int32) (ha : ¬ ((0 : Int32) ≤ a ∧ a ≤ 5)) : f_M_leave (wX kr_Z) (some 57) a = some ((0 : Int32), kr_M1) := by
  unfold f_M_leave
  rw [q_M6, kr_b2_s, zrvX, Option.bind_some, kr_bi_f ha, mZ_may, kr_b2_s, if_pos rfl]
theorem o_leave (X : Nat → Int32) : kr_good (f_W_law_B3126 X 6 (kr_K6 X) kr_Z (some 4) (some 57) (some 126) (0 : Int32)) = true := by
  simp only [f_W_law_B3126, kr_sx1, kr_sx2, kr_sx3, Option.bind_some, kr_tail]
  generalize X 1 = a
  by_cases ha : (0 : Int32) ≤ a ∧ a ≤ 5
  · obtain ⟨na, ma, rfl⟩ := kr_rng ha
    clear ha
    revert na
    decide +kernel
  · rw [w_leave0 a ha, kr_b2_s, zrvX, Option.bind_some, n_leave0 a ha, kr_b2_s]
    decide +kernel
theorem k_line0 (a : Int32) (ha : ¬ ((0 : Int32) ≤ a ∧ a ≤ 3)) : f_K_line kr_Z (some 4) a = some (.inr "java/lang/IndexOutOfBoundsException", wX kr_Z) := by
  unfold f_K_line
  rw [zrv22, Option.bind_some, kS_bad a ha, kr_bx_r]
theorem w_line0 (a : Int32) (ha : ¬ ((0 : Int32) ≤ a ∧ a ≤ 3)) : f_W_line kr_Z (some 4) a (some 126) = some ((1 : Int32), wX kr_Z) := by
  unfold f_W_line
  rw [zrv22, Option.bind_some, k_line0 a ha, kr_bh_r, if_pos rfl]
theorem n_line0 (a : Int32) (ha : ¬ ((0 : Int32) ≤ a ∧ a ≤ 3)) : f_M_line (wX kr_Z) (some 57) a = some ((0 : Int32), kr_M1) := by
  unfold f_M_line
  rw [q_M4, kr_b2_s, zrvX, Option.bind_some, kr_bi_f ha, mZ_may, kr_b2_s, if_pos rfl]
theorem o_line (X : Nat → Int32) : kr_good (f_W_law_B2562 X 6 (kr_K6 X) kr_Z (some 4) (some 57) (some 126) (0 : Int32)) = true := by
  simp only [f_W_law_B2562, kr_sx1, kr_sx2, kr_sx3, Option.bind_some, kr_tail]
  generalize X 1 = a
  by_cases ha : (0 : Int32) ≤ a ∧ a ≤ 3
  · obtain ⟨na, ma, rfl⟩ := kr_rng ha
    clear ha
    revert na
    decide +kernel
  · rw [w_line0 a ha, kr_b2_s, zrvX, Option.bind_some, n_line0 a ha, kr_b2_s]
    decide +kernel
theorem k_recover0 (a : Int32) (ha : ¬ ((0 : Int32) ≤ a ∧ a ≤ 5)) : f_K_recover kr_Z (some 4) a = some (.inr "java/lang/IndexOutOfBoundsException", wX kr_Z) := by
  unfold f_K_recover
  rw [zrv22, Option.bind_some, kP_bad a ha, kr_bx_r]
theorem w_recover0 (a : Int32) (ha : ¬ ((0 : Int32) ≤ a ∧ a ≤ 5)) : f_W_recover kr_Z (some 4) a (some 126) = some ((1 : Int32), wX kr_Z) := by
  unfold f_W_recover
  rw [zrv22, Option.bind_some, k_recover0 a ha, kr_bh_r, if_pos rfl]
theorem n_recover0 (a : Int32) (ha : ¬ ((0 : Int32) ≤ a ∧ a ≤ 5)) : f_M_recover (wX kr_Z) (some 57) a = some ((0 : Int32), kr_M1) := by
  unfold f_M_recover
  rw [q_M6, kr_b2_s, kr_bi_f ha, if_pos rfl]
  unfold f_M_recover_B31 f_M_recover_B32
  show f_M_recover_C36 (f_M_recover_L36 1999) (wX kr_Z) (some 57) a 0 0 0 = _
  unfold f_M_recover_C36
  rw [kr_z70.1, Option.bind_some, if_pos (by decide), zrvX, Option.bind_some, mZ_both, kr_b2_s, if_pos rfl]
theorem o_recover (X : Nat → Int32) : kr_good (f_W_law_B2754 X 6 (kr_K6 X) kr_Z (some 4) (some 57) (some 126) (0 : Int32)) = true := by
  simp only [f_W_law_B2754, kr_sx1, kr_sx2, kr_sx3, Option.bind_some, kr_tail]
  generalize X 1 = a
  by_cases ha : (0 : Int32) ≤ a ∧ a ≤ 5
  · obtain ⟨na, ma, rfl⟩ := kr_rng ha
    clear ha
    revert na
    decide +kernel
  · rw [w_recover0 a ha, kr_b2_s, zrvX, Option.bind_some, n_recover0 a ha, kr_b2_s]
    decide +kernel
theorem k_foreign0 (a : Int32) (ha : ¬ ((0 : Int32) ≤ a ∧ a ≤ 5)) : f_K_foreign kr_Z (some 4) a = some (.inr "java/lang/IndexOutOfBoundsException", wX kr_Z) := by
  unfold f_K_foreign
  rw [kr_zP.2.2.2.2.1, Option.bind_some, kr_zP.2.2.2.2.2.1, Option.bind_some, q_idx_bad _ a 6 5 (by decide) ha, kr_bx_r]
theorem w_foreign0 (a : Int32) (ha : ¬ ((0 : Int32) ≤ a ∧ a ≤ 5)) : f_W_foreign kr_Z (some 4) a (some 126) = some ((1 : Int32), wX kr_Z) := by
  unfold f_W_foreign
  rw [zrv22, Option.bind_some, k_foreign0 a ha, kr_bh_r, if_pos rfl]
theorem n_foreign0 (a : Int32) (ha : ¬ ((0 : Int32) ≤ a ∧ a ≤ 5)) : f_M_foreign (wX kr_Z) (some 57) a = some ((0 : Int32), kr_M1) := by
  unfold f_M_foreign
  rw [q_M6, kr_b2_s, kr_bi_f ha, if_pos rfl]
  unfold f_M_foreign_B48 f_M_foreign_B49
  rw [zrvX, Option.bind_some, mZ_both, kr_b2_s, if_pos rfl]
theorem o_foreign (X : Nat → Int32) : kr_good (f_W_law_B3070 X 6 (kr_K6 X) kr_Z (some 4) (some 57) (some 126) (0 : Int32)) = true := by
  simp only [f_W_law_B3070, kr_sx1, kr_sx2, kr_sx3, Option.bind_some, kr_tail]
  generalize X 1 = a
  by_cases ha : (0 : Int32) ≤ a ∧ a ≤ 5
  · obtain ⟨na, ma, rfl⟩ := kr_rng ha
    clear ha
    revert na
    decide +kernel
  · rw [w_foreign0 a ha, kr_b2_s, zrvX, Option.bind_some, n_foreign0 a ha, kr_b2_s]
    decide +kernel
theorem k_link0 (a b : Int32) (ha : ¬ ((0 : Int32) ≤ a ∧ a ≤ 5)) : f_K_link kr_Z (some 4) a b = some (.inr "java/lang/IndexOutOfBoundsException", wX kr_Z) := by
  unfold f_K_link
  rw [kr_zP.2.2.2.2.1, Option.bind_some, kr_zP.2.2.2.2.2.1, Option.bind_some, q_idx_bad _ a 6 5 (by decide) ha, kr_bx_r]
theorem w_link0 (a b : Int32) (ha : ¬ ((0 : Int32) ≤ a ∧ a ≤ 5)) : f_W_link kr_Z (some 4) a b (some 126) = some ((1 : Int32), wX kr_Z) := by
  unfold f_W_link
  rw [zrv22, Option.bind_some, k_link0 a b ha, kr_bh_r, if_pos rfl]
theorem n_link0 (a b : Int32) (ha : ¬ ((0 : Int32) ≤ a ∧ a ≤ 5)) : f_M_link (wX kr_Z) (some 57) a b = some ((0 : Int32), kr_M1) := by
  unfold f_M_link
  rw [q_M6, kr_b2_s, kr_bi_f ha, if_pos rfl]
  unfold f_M_link_B20 f_M_link_B21
  rw [if_pos rfl]
  unfold f_M_link_B57 f_M_link_B58
  rw [zrvX, Option.bind_some, mZ_both, kr_b2_s, if_pos rfl]
theorem k_link1 (a b : Int32) (ha : (0 : Int32) ≤ a ∧ a ≤ 5) (hb : ¬ ((-1 : Int32) ≤ b ∧ b ≤ 5)) : f_K_link kr_Z (some 4) a b = some (.inr "java/lang/IndexOutOfBoundsException", wX kr_Z) := by
  have h1 : ¬ b = -1 := fun q => hb (by rw [q]; decide)
  have h2 : ¬ (0 ≤ b ∧ b ≤ 5) := fun q => hb ⟨Int32.le_trans (show (-1 : Int32) ≤ 0 by decide) q.1, q.2⟩
  unfold f_K_link
  rw [kr_zP.2.2.2.2.1, Option.bind_some, kr_zP.2.2.2.2.2.1, Option.bind_some, q_idx_ok _ a 6 5 (by decide) ha, kr_bx_l, if_neg h1, q_idx_bad _ b 6 5 (by decide) h2, kr_bx_r]
theorem w_link1 (a b : Int32) (ha : (0 : Int32) ≤ a ∧ a ≤ 5) (hb : ¬ ((-1 : Int32) ≤ b ∧ b ≤ 5)) : f_W_link kr_Z (some 4) a b (some 126) = some ((1 : Int32), wX kr_Z) := by
  unfold f_W_link
  rw [zrv22, Option.bind_some, k_link1 a b ha hb, kr_bh_r, if_pos rfl]
theorem n_link1 (a b : Int32) (ha : (0 : Int32) ≤ a ∧ a ≤ 5) (hb : ¬ ((-1 : Int32) ≤ b ∧ b ≤ 5)) : f_M_link (wX kr_Z) (some 57) a b = some ((0 : Int32), kr_M1) := by
  unfold f_M_link
  rw [q_M6, kr_b2_s, kr_bi_t ha, if_neg (by decide), q_Mi, kr_b2_s, kr_bi_f hb, if_pos rfl]
  unfold f_M_link_B20 f_M_link_B21
  rw [if_pos rfl]
  unfold f_M_link_B57 f_M_link_B58
  rw [zrvX, Option.bind_some, mZ_both, kr_b2_s, if_pos rfl]
theorem o_link (X : Nat → Int32) : kr_good (f_W_law_B3002 X 6 (kr_K6 X) kr_Z (some 4) (some 57) (some 126) (0 : Int32)) = true := by
  simp only [f_W_law_B3002, kr_sx1, kr_sx2, kr_sx3, Option.bind_some, kr_tail]
  generalize X 1 = a
  generalize X 2 = b
  by_cases ha : (0 : Int32) ≤ a ∧ a ≤ 5
  · by_cases hb : (-1 : Int32) ≤ b ∧ b ≤ 5
    · obtain ⟨na, ma, rfl⟩ := kr_rng ha
      obtain ⟨nb, mb, rfl⟩ := kr_rng hb
      clear ha hb
      revert nb
      revert na
      decide +kernel
    · rw [w_link1 a b ha hb, kr_b2_s, zrvX, Option.bind_some, n_link1 a b ha hb, kr_b2_s]
      decide +kernel
  · rw [w_link0 a b ha, kr_b2_s, zrvX, Option.bind_some, n_link0 a b ha, kr_b2_s]
    decide +kernel
theorem kr_m1 {a : Int32} (h : (-1 : Int32) ≤ a ∧ a ≤ 5) (h1 : ¬ a = -1) : 0 ≤ a ∧ a ≤ 5 := by
  refine ⟨Int32.le_iff_toInt_le.mpr ?_, h.2⟩
  have h2 : (-1 : Int32).toInt ≤ a.toInt := Int32.le_iff_toInt_le.mp h.1
  have h3 : ¬ a.toInt = (-1 : Int32).toInt := fun q => h1 (Int32.toInt_inj.mp q)
  have h4 : (-1 : Int32).toInt = -1 := by decide
  have h5 : (0 : Int32).toInt = 0 := by decide
  omega
theorem k_consent0 (a b c : Int32) (ha : ¬ ((-1 : Int32) ≤ a ∧ a ≤ 5)) : f_K_consent kr_Z (some 4) a b c = some (.inr "java/lang/IndexOutOfBoundsException", wX kr_Z) := by
  have h1 : ¬ a = -1 := fun q => ha (by rw [q]; decide)
  have h2 : ¬ (0 ≤ a ∧ a ≤ 5) := fun q => ha ⟨Int32.le_trans (show (-1 : Int32) ≤ 0 by decide) q.1, q.2⟩
  unfold f_K_consent
  rw [if_neg h1, zrv22, Option.bind_some, kP_bad a h2, kr_bx_r]
theorem w_consent0 (a b c : Int32) (ha : ¬ ((-1 : Int32) ≤ a ∧ a ≤ 5)) : f_W_consent kr_Z (some 4) a b c (some 126) = some ((1 : Int32), wX kr_Z) := by
  unfold f_W_consent
  rw [zrv22, Option.bind_some, k_consent0 a b c ha, kr_bh_r, if_pos rfl]
theorem n_consent0 (a b c : Int32) (ha : ¬ ((-1 : Int32) ≤ a ∧ a ≤ 5)) : f_M_consent (wX kr_Z) (some 57) a b c = some ((0 : Int32), kr_M1) := by
  unfold f_M_consent
  rw [q_Mi, kr_b2_s, kr_bi_f ha, if_pos rfl]
  unfold f_M_consent_B20 f_M_consent_B21
  rw [q_Mi, kr_b2_s, zrvX, Option.bind_some, mZ_both, kr_b2_s, if_pos rfl]
theorem k_consent1 (a b c : Int32) (ha : (-1 : Int32) ≤ a ∧ a ≤ 5) (hb : ¬ ((0 : Int32) ≤ b ∧ b ≤ 3)) : f_K_consent kr_Z (some 4) a b c = some (.inr "java/lang/IndexOutOfBoundsException", wX kr_Z) := by
  unfold f_K_consent
  by_cases h : a = -1
  · rw [if_pos h, kr_zP.2.2.2.2.2.2.1, Option.bind_some]
    unfold f_K_consent_B20
    rw [kr_zP.2.2.2.2.2.2.2, Option.bind_some, q_idx_bad _ b 4 3 (by decide) hb, kr_bx_r]
  · obtain ⟨p, q, e, e1, e2⟩ := kP_ok a (kr_m1 ha h)
    rw [if_neg h, zrv22, Option.bind_some, e, kr_bx_l, e1, Option.bind_some]
    unfold f_K_consent_B20
    rw [e2, Option.bind_some, q_idx_bad _ b 4 3 (by decide) hb, kr_bx_r]
theorem w_consent1 (a b c : Int32) (ha : (-1 : Int32) ≤ a ∧ a ≤ 5) (hb : ¬ ((0 : Int32) ≤ b ∧ b ≤ 3)) : f_W_consent kr_Z (some 4) a b c (some 126) = some ((1 : Int32), wX kr_Z) := by
  unfold f_W_consent
  rw [zrv22, Option.bind_some, k_consent1 a b c ha hb, kr_bh_r, if_pos rfl]
theorem n_consent1 (a b c : Int32) (ha : (-1 : Int32) ≤ a ∧ a ≤ 5) (hb : ¬ ((0 : Int32) ≤ b ∧ b ≤ 3)) : f_M_consent (wX kr_Z) (some 57) a b c = some ((0 : Int32), kr_M1) := by
  unfold f_M_consent
  rw [q_Mi, kr_b2_s, kr_bi_t ha, if_neg (by decide), q_M4, kr_b2_s, kr_bi_f hb, if_pos rfl]
  unfold f_M_consent_B20 f_M_consent_B21
  rw [q_Mi, kr_b2_s, zrvX, Option.bind_some, mZ_both, kr_b2_s, if_pos rfl]
theorem k_consent2 (a b c : Int32) (ha : (-1 : Int32) ≤ a ∧ a ≤ 5) (hb : (0 : Int32) ≤ b ∧ b ≤ 3) (hc : ¬ ((0 : Int32) ≤ c ∧ c ≤ 15)) : f_K_consent kr_Z (some 4) a b c = some (.inr "java/lang/IllegalArgumentException", wX kr_Z) := by
  unfold f_K_consent
  by_cases h : a = -1
  · rw [if_pos h, kr_zP.2.2.2.2.2.2.1, Option.bind_some]
    unfold f_K_consent_B20
    rw [kr_zP.2.2.2.2.2.2.2, Option.bind_some, q_idx_ok _ b 4 3 (by decide) hb, kr_bx_l, q_Kw, kr_b2_s, kr_bi_f hc, q_Kreq, kr_bx_r]
  · obtain ⟨p, q, e, e1, e2⟩ := kP_ok a (kr_m1 ha h)
    rw [if_neg h, zrv22, Option.bind_some, e, kr_bx_l, e1, Option.bind_some]
    unfold f_K_consent_B20
    rw [e2, Option.bind_some, q_idx_ok _ b 4 3 (by decide) hb, kr_bx_l, q_Kw, kr_b2_s, kr_bi_f hc, q_Kreq, kr_bx_r]
theorem w_consent2 (a b c : Int32) (ha : (-1 : Int32) ≤ a ∧ a ≤ 5) (hb : (0 : Int32) ≤ b ∧ b ≤ 3) (hc : ¬ ((0 : Int32) ≤ c ∧ c ≤ 15)) : f_W_consent kr_Z (some 4) a b c (some 126) = some ((2 : Int32), wX kr_Z) := by
  unfold f_W_consent
  rw [zrv22, Option.bind_some, k_consent2 a b c ha hb hc, kr_bh_r, if_neg (by decide), if_pos rfl]
theorem n_consent2 (a b c : Int32) (ha : (-1 : Int32) ≤ a ∧ a ≤ 5) (hb : (0 : Int32) ≤ b ∧ b ≤ 3) (hc : ¬ ((0 : Int32) ≤ c ∧ c ≤ 15)) : f_M_consent (wX kr_Z) (some 57) a b c = some ((0 : Int32), kr_M2) := by
  unfold f_M_consent
  rw [q_Mi, kr_b2_s, kr_bi_t ha, if_neg (by decide), q_M4, kr_b2_s, kr_bi_t hb, if_neg (by decide)]
  unfold f_M_consent_B21
  rw [q_Mi, kr_b2_s, zrvX, Option.bind_some, kr_bi_f hc, mZ_both2, kr_b2_s, if_pos rfl]
theorem o_consent (X : Nat → Int32) : kr_good (f_W_law_B1711 X 6 (kr_K6 X) kr_Z (some 4) (some 57) (some 126) (0 : Int32)) = true := by
  simp only [f_W_law_B1711, kr_sx1, kr_sx2, kr_sx3, Option.bind_some, kr_tail]
  generalize X 1 = a
  generalize X 2 = b
  generalize X 3 = c
  by_cases ha : (-1 : Int32) ≤ a ∧ a ≤ 5
  · by_cases hb : (0 : Int32) ≤ b ∧ b ≤ 3
    · by_cases hc : (0 : Int32) ≤ c ∧ c ≤ 15
      · obtain ⟨na, ma, rfl⟩ := kr_rng ha
        obtain ⟨nb, mb, rfl⟩ := kr_rng hb
        obtain ⟨nc, mc, rfl⟩ := kr_rng hc
        clear ha hb hc
        revert nc
        revert nb
        revert na
        decide +kernel
      · rw [w_consent2 a b c ha hb hc, kr_b2_s, zrvX, Option.bind_some, n_consent2 a b c ha hb hc, kr_b2_s]
        decide +kernel
    · rw [w_consent1 a b c ha hb, kr_b2_s, zrvX, Option.bind_some, n_consent1 a b c ha hb, kr_b2_s]
      decide +kernel
  · rw [w_consent0 a b c ha, kr_b2_s, zrvX, Option.bind_some, n_consent0 a b c ha, kr_b2_s]
    decide +kernel
theorem k_begin0 (a b c : Int32) (ha : ¬ ((0 : Int32) ≤ a ∧ a ≤ 5)) : f_K_begin kr_Z (some 4) a b c = some (.inr "java/lang/IndexOutOfBoundsException", wX kr_Z) := by
  unfold f_K_begin
  rw [zrv22, Option.bind_some, kP_bad a ha, kr_bx_r]
theorem w_begin0 (a b c : Int32) (ha : ¬ ((0 : Int32) ≤ a ∧ a ≤ 5)) : f_W_begin kr_Z (some 4) a b c (some 126) = some ((1 : Int32), wX kr_Z) := by
  unfold f_W_begin
  rw [zrv22, Option.bind_some, k_begin0 a b c ha, kr_bh_r, if_pos rfl]
theorem n_begin0 (a b c : Int32) (ha : ¬ ((0 : Int32) ≤ a ∧ a ≤ 5)) : f_M_begin (wX kr_Z) (some 57) a b c = some ((0 : Int32), kr_M1) := by
  unfold f_M_begin
  rw [q_M6, kr_b2_s, kr_bi_f ha, if_pos rfl]
  unfold f_M_begin_B25 f_M_begin_B26
  rw [if_pos rfl]
  unfold f_M_begin_B65 f_M_begin_B66
  rw [zrvX, Option.bind_some, mZ_both, kr_b2_s, if_pos rfl]
theorem k_begin1 (a b c : Int32) (ha : (0 : Int32) ≤ a ∧ a ≤ 5) (hb : ¬ ((0 : Int32) ≤ b ∧ b ≤ 5)) : f_K_begin kr_Z (some 4) a b c = some (.inr "java/lang/IndexOutOfBoundsException", wX kr_Z) := by
  obtain ⟨p, q, e, -, -⟩ := kP_ok a ha
  unfold f_K_begin
  rw [zrv22, Option.bind_some, e, kr_bx_l, q_idx_bad _ b 6 5 (by decide) hb, kr_bx_r]
theorem w_begin1 (a b c : Int32) (ha : (0 : Int32) ≤ a ∧ a ≤ 5) (hb : ¬ ((0 : Int32) ≤ b ∧ b ≤ 5)) : f_W_begin kr_Z (some 4) a b c (some 126) = some ((1 : Int32), wX kr_Z) := by
  unfold f_W_begin
  rw [zrv22, Option.bind_some, k_begin1 a b c ha hb, kr_bh_r, if_pos rfl]
theorem n_begin1 (a b c : Int32) (ha : (0 : Int32) ≤ a ∧ a ≤ 5) (hb : ¬ ((0 : Int32) ≤ b ∧ b ≤ 5)) : f_M_begin (wX kr_Z) (some 57) a b c = some ((0 : Int32), kr_M1) := by
  unfold f_M_begin
  rw [q_M6, kr_b2_s, kr_bi_t ha, if_neg (by decide), q_M6, kr_b2_s, kr_bi_f hb, if_pos rfl]
  unfold f_M_begin_B25 f_M_begin_B26
  rw [if_pos rfl]
  unfold f_M_begin_B65 f_M_begin_B66
  rw [zrvX, Option.bind_some, mZ_both, kr_b2_s, if_pos rfl]
theorem k_begin2 (a b c : Int32) (ha : (0 : Int32) ≤ a ∧ a ≤ 5) (hb : (0 : Int32) ≤ b ∧ b ≤ 5) (hc : ¬ ((0 : Int32) ≤ c ∧ c ≤ 5)) : f_K_begin kr_Z (some 4) a b c = some (.inr "java/lang/IndexOutOfBoundsException", wX kr_Z) := by
  obtain ⟨p, q, e, -, -⟩ := kP_ok a ha
  unfold f_K_begin
  rw [zrv22, Option.bind_some, e, kr_bx_l, q_idx_ok _ b 6 5 (by decide) hb, kr_bx_l, q_idx_bad _ c 6 5 (by decide) hc, kr_bx_r]
theorem w_begin2 (a b c : Int32) (ha : (0 : Int32) ≤ a ∧ a ≤ 5) (hb : (0 : Int32) ≤ b ∧ b ≤ 5) (hc : ¬ ((0 : Int32) ≤ c ∧ c ≤ 5)) : f_W_begin kr_Z (some 4) a b c (some 126) = some ((1 : Int32), wX kr_Z) := by
  unfold f_W_begin
  rw [zrv22, Option.bind_some, k_begin2 a b c ha hb hc, kr_bh_r, if_pos rfl]
theorem n_begin2 (a b c : Int32) (ha : (0 : Int32) ≤ a ∧ a ≤ 5) (hb : (0 : Int32) ≤ b ∧ b ≤ 5) (hc : ¬ ((0 : Int32) ≤ c ∧ c ≤ 5)) : f_M_begin (wX kr_Z) (some 57) a b c = some ((0 : Int32), kr_M1) := by
  unfold f_M_begin
  rw [q_M6, kr_b2_s, kr_bi_t ha, if_neg (by decide), q_M6, kr_b2_s, kr_bi_t hb, if_neg (by decide), q_M6, kr_b2_s, kr_bi_f hc, if_pos rfl]
  unfold f_M_begin_B25 f_M_begin_B26
  rw [if_pos rfl]
  unfold f_M_begin_B65 f_M_begin_B66
  rw [zrvX, Option.bind_some, mZ_both, kr_b2_s, if_pos rfl]
theorem o_begin (X : Nat → Int32) : kr_good (f_W_law_B765 X 6 (kr_K6 X) kr_Z (some 4) (some 57) (some 126) (0 : Int32)) = true := by
  simp only [f_W_law_B765, kr_sx1, kr_sx2, kr_sx3, Option.bind_some, kr_tail]
  generalize X 1 = a
  generalize X 2 = b
  generalize X 3 = c
  by_cases ha : (0 : Int32) ≤ a ∧ a ≤ 5
  · by_cases hb : (0 : Int32) ≤ b ∧ b ≤ 5
    · by_cases hc : (0 : Int32) ≤ c ∧ c ≤ 5
      · obtain ⟨na, ma, rfl⟩ := kr_rng ha
        obtain ⟨nb, mb, rfl⟩ := kr_rng hb
        obtain ⟨nc, mc, rfl⟩ := kr_rng hc
        clear ha hb hc
        revert nc
        revert nb
        revert na
        decide +kernel
      · rw [w_begin2 a b c ha hb hc, kr_b2_s, zrvX, Option.bind_some, n_begin2 a b c ha hb hc, kr_b2_s]
        decide +kernel
    · rw [w_begin1 a b c ha hb, kr_b2_s, zrvX, Option.bind_some, n_begin1 a b c ha hb, kr_b2_s]
      decide +kernel
  · rw [w_begin0 a b c ha, kr_b2_s, zrvX, Option.bind_some, n_begin0 a b c ha, kr_b2_s]
    decide +kernel
theorem k_isPublished0 (a : Int32) (ha : ¬ ((0 : Int32) ≤ a ∧ a ≤ 0)) : f_K_isPublished kr_Z (some 4) a = some (.inr "java/lang/IndexOutOfBoundsException", wX kr_Z) := by
  unfold f_K_isPublished
  rw [kr_z70.2.2.2.1, Option.bind_some, kr_z70.2.2.2.2.1, Option.bind_some, q_idx_bad _ a 1 0 (by decide) ha, kr_bx_r]
theorem w_isPublished0 (a : Int32) (ha : ¬ ((0 : Int32) ≤ a ∧ a ≤ 0)) : f_W_isPublished kr_Z (some 4) a (some 126) = some ((1 : Int32), wX kr_Z) := by
  unfold f_W_isPublished
  rw [zrv22, Option.bind_some, k_isPublished0 a ha, kr_bh_r, if_pos rfl]
theorem n_isPublished0 (a : Int32) (ha : ¬ ((0 : Int32) ≤ a ∧ a ≤ 0)) : f_M_isPublished (wX kr_Z) (some 57) a = some ((0 : Int32), kr_M1) := by
  unfold f_M_isPublished
  rw [kr_z70.2.1, Option.bind_some, show (1 : Int32) - 1 = 0 from by decide, q_Mi, kr_b2_s, zrvX, Option.bind_some, kr_bi_f ha, mZ_may, kr_b2_s, if_pos rfl]
theorem o_isPublished (X : Nat → Int32) : kr_good (f_W_law_B2499 X 6 (kr_K6 X) kr_Z (some 4) (some 57) (some 126) (0 : Int32)) = true := by
  simp only [f_W_law_B2499, f_W_law_B2553, kr_sx1, kr_sx2, kr_sx3, Option.bind_some, kr_tail]
  generalize X 1 = a
  by_cases ha : (0 : Int32) ≤ a ∧ a ≤ 0
  · obtain ⟨na, ma, rfl⟩ := kr_rng ha
    clear ha
    revert na
    decide +kernel
  · rw [w_isPublished0 a ha, kr_b2_s, zrvX, Option.bind_some, n_isPublished0 a ha, kr_b2_s]
    decide +kernel
theorem k_sumAnew0 (a : Int32) (ha : ¬ ((0 : Int32) ≤ a ∧ a ≤ 0)) : f_K_sumAnew kr_Z (some 4) a = some (.inr "java/lang/IndexOutOfBoundsException", wX kr_Z) := by
  unfold f_K_sumAnew
  rw [kr_z70.2.2.2.2.2.1, Option.bind_some, kr_z70.2.2.2.2.2.2, Option.bind_some, show (0 : Int32) + 1 = 1 from by decide, q_idx_bad _ a 1 0 (by decide) ha, kr_bx_r]
theorem w_sumAnew0 (a : Int32) (ha : ¬ ((0 : Int32) ≤ a ∧ a ≤ 0)) : f_W_sumAnew kr_Z (some 4) a (some 126) = some ((1 : Int32), wX kr_Z) := by
  unfold f_W_sumAnew
  rw [zrv22, Option.bind_some, k_sumAnew0 a ha, kr_bh_r, if_pos rfl]
theorem n_sumAnew0 (a : Int32) (ha : ¬ ((0 : Int32) ≤ a ∧ a ≤ 0)) : f_M_sumAnew (wX kr_Z) (some 57) a = some ((0 : Int32), kr_M1) := by
  unfold f_M_sumAnew
  rw [kr_z70.2.2.1, Option.bind_some, q_Mi, kr_b2_s, zrvX, Option.bind_some, kr_bi_f ha, mZ_may, kr_b2_s, if_pos rfl]
theorem o_sumAnew (X : Nat → Int32) : kr_good (f_W_law_B3264 X 6 (kr_K6 X) kr_Z (some 4) (some 57) (some 126) (0 : Int32)) = true := by
  simp only [f_W_law_B3264, kr_sx1, kr_sx2, kr_sx3, Option.bind_some, kr_tail]
  generalize X 1 = a
  by_cases ha : (0 : Int32) ≤ a ∧ a ≤ 0
  · obtain ⟨na, ma, rfl⟩ := kr_rng ha
    clear ha
    revert na
    decide +kernel
  · rw [w_sumAnew0 a ha, kr_b2_s, zrvX, Option.bind_some, n_sumAnew0 a ha, kr_b2_s]
    decide +kernel
theorem k_check (a b c : Int32) : f_K_check kr_Z (some 4) a b c = some (.inr "java/lang/IndexOutOfBoundsException", wX kr_Z) := by
  unfold f_K_check
  by_cases ha : 0 ≤ a ∧ a ≤ 3
  · obtain ⟨p, e⟩ := kS_ok a ha
    rw [zrv22, Option.bind_some, e, kr_bx_l, zrv22, Option.bind_some, kf_Token, kr_bx_r]
  · rw [zrv22, Option.bind_some, kS_bad a ha, kr_bx_r]
theorem w_check (a b c : Int32) : f_W_check kr_Z (some 4) a b c (some 126) = some ((1 : Int32), wX kr_Z) := by
  unfold f_W_check
  rw [zrv22, Option.bind_some, k_check, kr_bh_r, if_pos rfl]
theorem n_check (a b c : Int32) : f_M_check (wX kr_Z) (some 57) a b c = some ((0 : Int32), kr_M1) := by
  have h0 : f_M_check_B20 (wX kr_Z) (some 57) a b c 0 = some ((0 : Int32), kr_M1) := by
    unfold f_M_check_B20
    rw [q_Mi, kr_b2_s, zrvX, Option.bind_some, mZ_both, kr_b2_s, if_pos rfl]
  unfold f_M_check f_M_check_B19
  rw [q_M4, kr_b2_s]
  by_cases ha : 0 ≤ a ∧ a ≤ 3
  · rw [kr_bi_t ha, if_neg (by decide), zrvX, Option.bind_some, mf_Token, kr_b2_s, if_pos rfl, h0]
  · rw [kr_bi_f ha, if_pos rfl, h0]
theorem o_check (X : Nat → Int32) : kr_good (f_W_law_B2618 X 6 (kr_K6 X) kr_Z (some 4) (some 57) (some 126) (0 : Int32)) = true := by
  simp only [f_W_law_B2618, kr_sx1, kr_sx2, kr_sx3, Option.bind_some, kr_tail]
  rw [w_check, kr_b2_s, zrvX, Option.bind_some, n_check, kr_b2_s]
  decide +kernel
