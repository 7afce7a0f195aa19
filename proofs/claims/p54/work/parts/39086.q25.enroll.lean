/-! ===== the reference makes a factor ready ===== -/
/-- the reference makes a factor ready -/
theorem p_ready {m : AS} {p f : Nat} (hmf : MF m) (p3 : p < 3) (f3 : f < 3) : Hp (f_M_ready m (some 57) (Int32.ofNat p) (Int32.ofNat f)) (fun m' => (sR m' = sR m ∧ sL m' = sL m ∧ ∀ k j, ¬ ((k = 58 ∨ k = 59) ∧ j = 3 * p + f) → ¬ (k = 60 ∧ j = p) → sI m' k j = sI m k j) ∧ sI m' 58 (3 * p + f) = 1 ∧ sI m' 59 (3 * p + f) = 0 ∧ sI m' 60 p = if f = 2 then 0 else sI m 60 p) := by
  have ix := ix3 p (by omega) f f3
  unfold f_M_ready
  refine p_of (st_gRe (hmf 1 58 rfl)) (p_of (st_bIe ix) (p_of (st_gRe (v := some 59) (hmf 2 59 rfl)) (p_of (st_bIe ix) ?_)))
  by_cases c : f = 2
  · rw [if_pos c]
    refine p_of (st_T (by rw [c]; rfl)) (p_of (st_gRe (v := some 60) (hmf 3 60 rfl)) (p_of (st_bIe (oc (by omega))) (p_ret ⟨⟨rfl, rfl, fun k j z1 z2 => ?_⟩, ?_, ?_, ti_sI_eq _ _ _ _⟩)))
    · rw [ti_sI_ne z2, ti_sI_ne (by omega), ti_sI_ne (by omega)]
    · rw [ti_sI_ne (by omega), ti_sI_ne (by omega), ti_sI_eq]
    · rw [ti_sI_ne (by omega), ti_sI_eq]
  · rw [if_neg c]
    refine p_of (st_F (fun q => c (oinjq (a := f) (b := 2) (by omega) (by omega) q))) (p_ret ⟨⟨rfl, rfl, fun k j z1 z2 => ?_⟩, ?_, ti_sI_eq _ _ _ _, ?_⟩)
    · rw [ti_sI_ne (by omega), ti_sI_ne (by omega)]
    · rw [ti_sI_ne (by omega), ti_sI_eq]
    · rw [ti_sI_ne (by omega), ti_sI_ne (by omega)]
theorem p_enroll {m : AS} {p f : Nat} (hmf : MF m) (p3 : p < 3) (f3 : f < 3) : Hp (f_M_enroll m (some 57) (Int32.ofNat p) (Int32.ofNat f)) (fun q => q.1 = sI m 58 (3 * p + f) ∧ (sR q.2 = sR m ∧ sL q.2 = sL m ∧ ∀ k j, ¬ (k = 57 ∧ j = 82) → ¬ ((k = 58 ∨ k = 59) ∧ j = 3 * p + f) → ¬ (k = 60 ∧ j = p) → sI q.2 k j = sI m k j) ∧ sI q.2 57 82 = 0 ∧ sI q.2 58 (3 * p + f) = 1 ∧ sI q.2 59 (3 * p + f) = 0 ∧ sI q.2 60 p = if f = 2 then 0 else sI m 60 p) := by
  unfold f_M_enroll
  refine p_of (st_b2 (q_six m _)) (p_of (st_b2 (q_fac m _)) (p_of st_rv ?_))
  rw [if_pos ⟨(oleq (a := 0) (by omega) (by omega)).mpr (Nat.zero_le _), (oleq (b := 5) (by omega) (by omega)).mpr (by omega)⟩, if_pos ⟨(oleq (a := 0) (by omega) (by omega)).mpr (Nat.zero_le _), (oleq (b := 2) (by omega) (by omega)).mpr (by omega)⟩]
  refine p_b2 p_mayB (fun v m' q => ?_)
  rw [if_neg one0, if_neg one0] at q
  obtain ⟨q1, q2⟩ := Prod.mk.inj q
  rw [q1]
  obtain ⟨m1, e1⟩ : ∃ m1, m1 = wI m 57 82 0 := ⟨_, rfl⟩
  rw [q2, ← e1]
  have hm1 : MF m1 := by rw [e1]; exact MF_e hmf rfl
  have o : ∀ k j, ¬ (k = 57 ∧ j = 82) → sI m1 k j = sI m k j := fun k j z => by rw [e1, ti_sI_ne z]
  refine p_of (st_F one0) (p_of (st_gRe (hm1 1 58 rfl)) (p_of (st_aIe (ix3 p (by omega) f f3) (o 58 _ (by omega))) (p_of st_rv (p_bd (p_ready hm1 p3 f3) (fun m2 h => p_ret ?_)))))
  obtain ⟨⟨h1, h2, h3⟩, h4, h5, h6⟩ := h
  refine ⟨rfl, ⟨h1.trans (by rw [e1]; rfl), h2.trans (by rw [e1]; rfl), fun k j z1 z2 z3 => (h3 k j z2 z3).trans (o k j z1)⟩, ?_, h4, h5, ?_⟩
  · show sI m2 57 82 = 0
    rw [h3 57 82 (by omega) (by omega), e1, ti_sI_eq]
  · show sI m2 60 p = _
    rw [h6, o 60 p (by omega)]
