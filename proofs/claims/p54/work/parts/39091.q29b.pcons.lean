/-! ===== consenting: the reference ===== -/
theorem or16 : ∀ a, a < 16 → ∀ b, b < 16 → (a ||| b) < 16 ∧ Int32.ofNat a ||| Int32.ofNat b = Int32.ofNat (a ||| b) := by decide +kernel
theorem p_consent {m : AS} {cl sc qi : Nat} {pv : Int32} (hmf : MF m) (c4 : cl < 4) (s16 : sc < 16) (hq : (pv = -1 ∧ qi = 24 + cl) ∨ ∃ p, p < 3 ∧ pv = Int32.ofNat p ∧ qi = 4 * p + cl) : Hp (f_M_consent m (some 57) pv (Int32.ofNat cl) (Int32.ofNat sc)) (fun q => q.1 = sI m 91 qi ||| Int32.ofNat sc ∧ sI q.2 57 82 = 0 ∧ sI q.2 91 qi = sI m 91 qi ||| Int32.ofNat sc ∧ ∀ k j, ¬ (k = 57 ∧ j = 82) → ¬ (k = 91 ∧ j = qi) → sI q.2 k j = sI m k j) := by
  have hin : (-1 : Int32) ≤ pv ∧ pv ≤ (5 : Int32) := by
    rcases hq with ⟨e, -⟩ | ⟨p, p3, e, -⟩
    · rw [e]
      decide
    · rw [e]
      exact ⟨by rw [Int32.le_iff_toInt_le, oiq (by omega)]; exact Int.le_trans (by decide) (Int.natCast_nonneg p), (in5 p3).2⟩
  unfold f_M_consent
  refine p_of (st_b2 (q_isIn m _ _ _)) ?_
  rw [if_pos hin]
  refine p_of (st_F one0) (p_of (st_b2 (q_ser m _)) ?_)
  rw [if_pos (in3 c4)]
  refine p_of (st_F one0) ?_
  unfold f_M_consent_B21
  refine p_of (st_b2 (q_isIn m _ _ _)) ?_
  rw [if_pos (in15 s16)]
  refine p_of st_rv (p_b2 p_mayB (fun v m' q => ?_))
  rw [if_neg one0, if_neg one0] at q
  obtain ⟨q1, q2⟩ := Prod.mk.inj q
  rw [q1]
  obtain ⟨m1, e1⟩ : ∃ m1, m1 = wI m 57 82 0 := ⟨_, rfl⟩
  rw [q2, ← e1]
  have hm1 : MF m1 := by rw [e1]; exact MF_e hmf rfl
  have o : ∀ k j, ¬ (k = 57 ∧ j = 82) → sI m1 k j = sI m k j := fun k j z => by rw [e1, ti_sI_ne z]
  refine p_of (st_F one0) ?_
  have fin : ∀ y1 : Int32, ((4 : Int32) * y1 + Int32.ofNat cl).toNatClampNeg = qi → Hp (f_M_consent_B53 m1 (some 57) (Int32.ofNat cl) (Int32.ofNat sc) (4 : Int32) y1) (fun q => q.1 = sI m 91 qi ||| Int32.ofNat sc ∧ sI q.2 57 82 = 0 ∧ sI q.2 91 qi = sI m 91 qi ||| Int32.ofNat sc ∧ ∀ k j, ¬ (k = 57 ∧ j = 82) → ¬ (k = 91 ∧ j = qi) → sI q.2 k j = sI m k j) := fun y1 ix => by
    unfold f_M_consent_B53
    refine p_of st_val (p_of (st_gRe (hm1 37 91 rfl)) (p_of (st_aIe ix (o 91 qi (by omega))) (p_of (st_bIe ix) (p_of (st_gRe (v := some 91) (hm1 37 91 rfl)) (p_of (st_aIe ix (ti_sI_eq _ _ _ _)) (p_ret ⟨rfl, ?_, ti_sI_eq _ _ _ _, fun k j z1 z2 => ?_⟩))))))
    · show sI (wI m1 91 qi _) 57 82 = 0
      rw [ti_sI_ne (by omega), e1, ti_sI_eq]
    · show sI (wI m1 91 qi _) k j = _
      rw [ti_sI_ne z2, o k j z1]
  rcases hq with ⟨e, eq⟩ | ⟨p, p3, e, eq⟩
  · refine p_of (st_T e) (fin _ ?_)
    rw [eq, show (4 : Int32) * (6 : Int32) + Int32.ofNat cl = Int32.ofNat (24 + cl) from (wadd 24 cl)]
    exact oc (by omega)
  · refine p_of (st_F (fun z => ?_)) (fin _ ?_)
    · have z := e.symm.trans z
      have := congrArg Int32.toInt z
      rw [oiq (by omega), show (-1 : Int32).toInt = -1 from by decide] at this
      omega
    · rw [e, eq, show (4 : Int32) * Int32.ofNat p + Int32.ofNat cl = Int32.ofNat (4 * p + cl) from wix 4 p cl]
      exact oc (by omega)
