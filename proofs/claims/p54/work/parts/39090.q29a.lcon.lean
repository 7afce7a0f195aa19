/-! ===== needing a level, consenting ===== -/
theorem lCon_set {S m S' m' : AS} (h : lCon S m) (i1 i2 : Nat) (oS : ∀ j, j ≠ i1 → sI S' 140 j = sI S 140 j) (o1 : ∀ j, j ≠ i2 → sI m' 91 j = sI m 91 j) (o2 : ∀ j, sI m' 92 j = sI m 92 j) (hi : (∃ p c, p < 3 ∧ c < 4 ∧ i1 = 4 * p + c ∧ i2 = 4 * p + c) ∨ ∃ c, c < 4 ∧ i1 = 12 + c ∧ i2 = 24 + c) (v : sV 16 (sI S' 140 i1) (sI m' 91 i2)) : lCon S' m' := fun c c4 => by
  obtain ⟨h1, h2, h3⟩ := h c c4
  refine ⟨fun p p3 => ?_, ?_, ?_⟩
  · by_cases e : i1 = 4 * p + c
    · have e2 : i2 = 4 * p + c := by rcases hi with ⟨p', c', a, b, d, f⟩ | ⟨c', a, b, d⟩ <;> omega
      rw [← e2]
      rw [show 4 * p + c = i1 from e.symm] at e2
      rw [e2]
      rw [e2] at v
      exact v
    · rw [oS _ (fun q => e q.symm), o1 _ (by rcases hi with ⟨p', c', a, b, d, f⟩ | ⟨c', a, b, d⟩ <;> omega)]
      exact h1 p p3
  · by_cases e : i1 = 12 + c
    · have e2 : i2 = 24 + c := by rcases hi with ⟨p', c', a, b, d, f⟩ | ⟨c', a, b, d⟩ <;> omega
      rw [← e2, ← e]
      exact v
    · rw [oS _ (fun q => e q.symm), o1 _ (by rcases hi with ⟨p', c', a, b, d, f⟩ | ⟨c', a, b, d⟩ <;> omega)]
      exact h2
  · rw [oS _ (by rcases hi with ⟨p', c', a, b, d, f⟩ | ⟨c', a, b, d⟩ <;> omega), o2]
    exact h3
theorem lCon_need {S m S' m' : AS} {cl : Nat} (h : lCon S m) (oS : ∀ j, j ≠ 16 + cl → sI S' 140 j = sI S 140 j) (o1 : ∀ j, sI m' 91 j = sI m 91 j) (o2 : ∀ j, j ≠ cl → sI m' 92 j = sI m 92 j) (v : sV 7 (sI S' 140 (16 + cl)) (sI m' 92 cl)) : lCon S' m' := fun c c4 => by
  obtain ⟨h1, h2, h3⟩ := h c c4
  refine ⟨fun p p3 => ?_, ?_, ?_⟩
  · rw [oS _ (by omega), o1]
    exact h1 p p3
  · rw [oS _ (by omega), o1]
    exact h2
  · by_cases e : c = cl
    · rw [e]
      exact v
    · rw [oS _ (by omega), o2 _ e]
      exact h3
theorem p_need {m : AS} {cl l : Nat} (hmf : MF m) (c4 : cl < 4) (l7 : l ≤ 7) : Hp (f_M_need m (some 57) (Int32.ofNat cl) (Int32.ofNat l)) (fun q => (l < 7 → q.1 = sI m 92 cl ∧ sI q.2 57 82 = 0 ∧ sI q.2 92 cl = Int32.ofNat l ∧ ∀ k j, ¬ (k = 57 ∧ j = 82) → ¬ (k = 92 ∧ j = cl) → sI q.2 k j = sI m k j) ∧ (l = 7 → sI q.2 57 82 = Int32.ofNat 2 ∧ GK m q.2)) := by
  unfold f_M_need
  refine p_of (st_b2 (q_ser m _)) (p_of (st_b2 (q_isIn m _ _ _)) (p_of st_rv ?_))
  rw [if_pos (in3 c4)]
  refine p_b2 p_mayB (fun v m' q => ?_)
  rw [if_neg one0] at q
  by_cases c : l = 7
  · rw [if_neg (c := (0 : Int32) ≤ Int32.ofNat l ∧ Int32.ofNat l ≤ (6 : Int32)) (fun z => by have := (oleq (a := l) (b := 6) (by omega) (by omega)).mp z.2; omega), if_pos rfl] at q
    obtain ⟨q1, q2⟩ := Prod.mk.inj q
    rw [q1, q2]
    exact p_of (st_T rfl) (p_ret ⟨fun z => absurd z (by omega), fun _ => ⟨ti_sI_eq _ _ _ _, GK_82 _ _⟩⟩)
  · rw [if_pos (c := (0 : Int32) ≤ Int32.ofNat l ∧ Int32.ofNat l ≤ (6 : Int32)) ⟨(oleq (a := 0) (by omega) (by omega)).mpr (Nat.zero_le _), (oleq (b := 6) (by omega) (by omega)).mpr (by omega)⟩, if_neg one0] at q
    obtain ⟨q1, q2⟩ := Prod.mk.inj q
    rw [q1]
    obtain ⟨m1, e1⟩ : ∃ m1, m1 = wI m 57 82 0 := ⟨_, rfl⟩
    rw [q2, ← e1]
    have hm1 : MF m1 := by rw [e1]; exact MF_e hmf rfl
    have o : ∀ k j, ¬ (k = 57 ∧ j = 82) → sI m1 k j = sI m k j := fun k j z => by rw [e1, ti_sI_ne z]
    refine p_of (st_F one0) (p_of (st_gRe (hm1 38 92 rfl)) (p_of (st_aIe (oc (by omega)) (o 92 cl (by omega))) (p_of (st_gRe (hm1 38 92 rfl)) (p_of (st_bIe (oc (by omega))) (p_ret ⟨fun _ => ⟨rfl, ?_, ti_sI_eq _ _ _ _, fun k j z1 z2 => ?_⟩, fun z => absurd z c⟩)))))
    · show sI (wI m1 92 cl (Int32.ofNat l)) 57 82 = 0
      rw [ti_sI_ne (by omega), e1, ti_sI_eq]
    · show sI (wI m1 92 cl (Int32.ofNat l)) k j = _
      rw [ti_sI_ne z2, o k j z1]
