/-! ===== consent; keys; services ===== -/
section
variable {T Tm : Nat → Nat} {S m : AS}
theorem h_consent (hT : TV T S) (hm : TI Tm m) (h : FR S m) (p c s : Int32) : H2 (f_K_consent S (some 4) p c s) (f_M_consent m (some 57) p c s) (fun x y => AN [eX, eA] x.1 y.1 (sI y.2 57 82) ∧ cCon x.2 y.2) := by
  have b := FR_BB hT hm h
  have hmf := MF_of (TI_t hm 0)
  have hh := (FR_t hT hm h 0).Con
  have x1 := (FR_X hT (TI_t hm 1) (FR_t hT hm h 1)).Con
  have x2 := (FR_X hT (TI_t hm 2) (FR_t hT hm h 2)).Con
  have t20 := (kt4 hT.1).2.2.2.2.2.2.2.1
  have l20 : sL S 20 = 4 := (hT.1.t1 20 (by rw [t20]; decide)).2.2.2 4 (by rw [t20]; rfl)
  -- the row of the class, its place in the reference
  have core : ∀ (r k : Nat) (pm : Int32), sL S r = 4 → k < 7 → (∀ d, d < 4 → sI S r d = sI (wI m 57 82 0) 91 (4 * k + d)) → (∀ d v, d < 4 → cCon (wI S r d v) (wI (wI m 57 82 0) 91 (4 * k + d) v)) → (-1 ≤ p ∧ p ≤ 5) → ((p = -1 ∧ k = 6) ∨ (p ≠ -1 ∧ p = Int32.ofNat k)) →
      H2 (f_K_consent_B20 S c s (some r)) (if (if 0 ≤ c ∧ c ≤ 3 then (1 : Int32) else 0) = 0 then f_M_consent_B20 m (some 57) p c s else f_M_consent_B21 m (some 57) p c s 1) (fun x y => AN [eX, eA] x.1 y.1 (sI y.2 57 82) ∧ cCon x.2 y.2) := fun r k _ lr hk eq wr hp hpk => by
    unfold f_K_consent_B20
    refine l_of st_aN ?_
    rw [lr]
    refine l_bx (fun v S' e => ?_) (fun v S' e => ?_)
    · rcases p_rI _ e with ⟨h1, h2, e2⟩ | ⟨-, e2⟩
      · cases e2
        rw [oi (by decide)] at h2
        obtain ⟨d, d1, rfl⟩ := (IX_iff (n := 4) (a := c) (by decide)).mpr ⟨h1, by omega⟩
        rw [if_pos ((fou_iff _).mpr ⟨d, d1, rfl⟩)]
        refine m_of (st_F one0) ?_
        unfold f_M_consent_B21
        refine l_of (st_b2 (q_win S s 0 15)) (m_of (st_b2 (q_isIn m s 0 15)) (m_of st_rv ?_))
        by_cases cs : 0 ≤ s ∧ s ≤ 15
        · rw [if_pos cs]
          refine m_p2 p_mayB (fun v m' q => ?_)
          cases q
          refine l_of (st_bx (rA1 S)) (l_of (st_aIe (oc (by omega)) (eq d d1)) (l_of (st_bIe (oc (by omega))) (l_of (st_aIe (oc (by omega)) (ti_sI_eq _ _ _ _)) (m_of (st_F one0) ?_))))
          have go : ∀ y : Int32, ((4 : Int32) * y + Int32.ofNat d).toNatClampNeg = 4 * k + d → H2 (some ((Sum.inl (sI (wI m 57 82 0) 91 (4 * k + d) ||| s) : Int32 ⊕ String), wI S r d (sI (wI m 57 82 0) 91 (4 * k + d) ||| s))) (f_M_consent_B53 (wI m 57 82 0) (some 57) (Int32.ofNat d) s 4 y) (fun x y => AN [eX, eA] x.1 y.1 (sI y.2 57 82) ∧ cCon x.2 y.2) := fun y hy => by
            unfold f_M_consent_B53
            refine m_of st_val (m_of (st_gRe (hmf 37 91 rfl)) (m_of (st_aIe hy rfl) (m_of (st_bIe hy) (m_of (st_gRe (hmf 37 91 rfl)) (m_of (st_aIe hy (ti_sI_eq _ _ _ _)) (h2_ret ⟨AN_v ?_, wr d _ d1⟩))))))
            rw [ti_sI_ne (by omega)]
            exact ti_sI_eq _ _ _ _
          rcases hpk with ⟨q1, q2⟩ | ⟨q1, q2⟩
          · refine m_of (st_T q1) (go 6 ?_)
            rw [q2]
            exact ix4 6 (by decide) d d1
          · refine m_of (st_F q1) (go p ?_)
            rw [q2]
            exact ix4 k hk d d1
        · rw [if_neg cs]
          refine m_p2 p_mayB (fun v m' q => ?_)
          cases q
          exact l_of (st_bxe (rA0 S)) (m_of (st_T rfl) (h2_ret ⟨AN_e 1 rfl (ti_sI_eq _ _ _ _), x2⟩))
      · cases e2
    · rcases p_rI _ e with ⟨h1, h2, e2⟩ | ⟨h1, e2⟩
      · cases e2
      · cases e2
        rw [if_neg (show ¬ (0 ≤ c ∧ c ≤ 3) from fun q => h1 (by have := (IX_iff (n := 4) (by decide)).mp ((fou_iff _).mp q); rw [oi (by decide)]; exact this))]
        refine m_of (st_T rfl) ?_
        unfold f_M_consent_B20 f_M_consent_B21
        refine m_of (st_b2 (q_isIn m s 0 15)) (m_of st_rv (m_p2 p_mayB (fun v m' q => ?_)))
        cases q
        exact m_of (st_T rfl) (h2_ret ⟨AN_e 0 rfl (ti_sI_eq _ _ _ _), x1⟩)
  unfold f_K_consent f_M_consent
  refine m_of (st_b2 (q_isIn m p (-1) 5)) ?_
  by_cases c1 : p = -1
  · rw [if_pos ((min1_iff p).mpr (Or.inl c1))]
    refine l_of (st_T c1) (l_of (st_gRe ((K4F_of hT.1).1 10 20 rfl)) (m_of (st_F one0) (m_of (st_b2 (q_ser m c)) ?_)))
    refine core 20 6 0 l20 (by decide) (fun d hd => (hh d hd).2) (fun d v hd e he => ⟨fun i hi => ?_, ?_⟩) ((min1_iff p).mpr (Or.inl c1)) (Or.inl ⟨c1, rfl⟩)
    · rw [ti_sI_ne (by omega), ti_sI_ne (by omega)]
      exact (hh e he).1 i hi
    · by_cases q : e = d
      · subst q
        rw [ti_sI_eq]
        exact (ti_sI_eq _ _ _ _).symm
      · rw [ti_sI_ne (by omega), ti_sI_ne (by omega)]
        exact (hh e he).2
  · refine l_of (st_F c1) (l_of st_rv (l_bx (fun v S' e => ?_) (fun v S' e => ?_)))
    · rcases x_fp b p _ e with ⟨i, i1, hpi, e2⟩ | ⟨no, e2⟩
      · cases e2
        have hix : IX 6 p := ⟨i, i1, hpi⟩
        rw [if_pos ((min1_iff p).mpr (Or.inr hix))]
        refine l_of (st_gRe (h.PF.1 i i1).2.2.2.1) (m_of (st_F one0) (m_of (st_b2 (q_ser m c)) ?_))
        have t := (kt_P hT.1 h.PF i1).2.2.2
        refine core (32 + 4 * i) i 0 ((hT.1.t1 _ (by rw [t]; decide)).2.2.2 4 (by rw [t]; rfl)) (by omega) (fun d hd => (hh d hd).1 i i1) (fun d v hd e he => ⟨fun j hj => ?_, ?_⟩) ((min1_iff p).mpr (Or.inr hix)) (Or.inr ⟨c1, hpi⟩)
        · by_cases q : e = d ∧ j = i
          · obtain ⟨rfl, rfl⟩ := q
            rw [ti_sI_eq, ti_sI_eq]
          · rw [ti_sI_ne (by omega), ti_sI_ne (by omega)]
            exact (hh e he).1 j hj
        · rw [ti_sI_ne (by omega), ti_sI_ne (by omega)]
          exact (hh e he).2
      · cases e2
    · rcases x_fp b p _ e with ⟨i, i1, hpi, e2⟩ | ⟨no, e2⟩
      · cases e2
      · cases e2
        rw [if_neg (fun q => ((min1_iff p).mp q).elim c1 no)]
        refine m_of (st_T rfl) ?_
        unfold f_M_consent_B20 f_M_consent_B21
        refine m_of (st_b2 (q_isIn m s 0 15)) (m_of st_rv (m_p2 p_mayB (fun v m' q => ?_)))
        cases q
        exact m_of (st_T rfl) (h2_ret ⟨AN_e 0 rfl (ti_sI_eq _ _ _ _), x1⟩)
/-- the keys' calls -/
def P_key (S m : AS) : Prop := cKey S m
theorem h_signing (hT : TV T S) (hm : TI Tm m) (h : FR S m) : H2 (f_K_signing S (some 4)) (f_M_signing m (some 57)) (fun x y => x.1 = y.1 ∧ P0 x.2 y.2) := by
  obtain ⟨c, g, -, -, h3, -⟩ := h.Key
  unfold f_K_signing f_M_signing
  refine l_of (st_gRe ((K4F_of hT.1).1 15 25 rfl)) (l_of st_gI (m_of st_pI (m_of st_gI (h2_ret ⟨?_, trivial⟩))))
  rw [ti_sI_ne (by omega)]
  exact h3.2.1
theorem h_sessions (hT : TV T S) (hm : TI Tm m) (h : FR S m) : H2 (f_K_sessions S (some 4)) (f_M_sessions m (some 57)) (fun x y => x.1 = y.1 ∧ P0 x.2 y.2) := by
  unfold f_K_sessions f_M_sessions
  refine l_of (st_gRe ((K4F_of hT.1).1 8 19 rfl)) (l_of st_rv (l_of st_size (m_of st_pI (m_of st_gI (h2_ret ⟨?_, trivial⟩)))))
  rw [ti_sI_ne (by omega)]
  exact h.Ses.1.2.2
theorem h_audits (hT : TV T S) (hm : TI Tm m) (h : FR S m) (hb : (sI m 57 77).toInt ≤ 1024) : H2 (f_K_audits S (some 4)) (f_M_audits m (some 57)) (fun x y => x.1 = y.1 ∧ P0 x.2 y.2) := by
  obtain ⟨h1, h2, h3, -⟩ := h.AU.1
  unfold f_K_audits f_M_audits
  refine l_of (st_gRe ((K4F_of hT.1).1 1 5 rfl)) (l_of st_gI (m_of st_pI (m_of st_gI (h2_ret ⟨?_, trivial⟩))))
  rw [ti_sI_ne (by omega)]
  show sI S 5 2 = sI m 57 77
  exact Int32.toInt_inj.mp (by rw [h3]; omega)
theorem h_isPublished (hT : TV T S) (hm : TI Tm m) (h : FR S m) (a : Int32) : H2 (f_K_isPublished S (some 4) a) (f_M_isPublished m (some 57) a) (fun x y => AN [eX] x.1 y.1 (sI y.2 57 82) ∧ P0 x.2 y.2) := by
  have hmf := MF_of (TI_t hm 0)
  have r := (K4F_of hT.1).1 15 25 rfl
  obtain ⟨c, g, h1, h2, h3, -, -, h6, -, h8⟩ := h.Key
  unfold f_K_isPublished f_M_isPublished
  refine l_of (st_gRe r) (l_of (st_gIe (h3.1.trans h2.1)) (m_of (st_gIe h2.1) (m_of (st_b2 (q_isIn m a 0 _)) (m_of st_rv ?_))))
  refine l_bx (fun v S' e => ?_) (fun v S' e => ?_)
  · rcases p_rI _ e with ⟨a1, a2, e2⟩ | ⟨-, e2⟩
    · cases e2
      rw [oi (by omega)] at a2
      obtain ⟨k, k1, rfl⟩ := (IX_iff (n := c) (a := a) (by omega)).mpr ⟨a1, a2⟩
      rw [if_pos ((IX_sub (by omega)).mpr ⟨k, k1, rfl⟩)]
      refine m_p2 p_may (fun v m' p => ?_)
      cases p
      refine l_of (st_gRe r) (l_of st_gI (l_of (st_b2 (bt_is20 (by omega) S)) (l_of st_z (m_of (st_F one0) (m_of st_rv ?_)))))
      have kp := h8 k (by omega)
      unfold KP at kp
      rw [h2.1, oi (by omega)] at kp
      unfold f_M_isOpenKey f_M_isOpenKey_B40
      have e1 : sI (wI m 57 82 0) 57 60 = Int32.ofNat c := (lv0 m (by omega) 0).trans h2.1
      have fin : ∀ y : Int32, (y = 1 ↔ bt (sI S 25 4) k = true) → (y = 0 ∨ y = 1) → H2 (some ((Sum.inl (if bt (sI S 25 4) k = true then 1 else 0) : Int32 ⊕ String), S)) (if y = 0 then some ((0 : Int32), wI m 57 82 0) else some ((1 : Int32), wI m 57 82 0)) (fun x y => AN [eX] x.1 y.1 (sI y.2 57 82) ∧ P0 x.2 y.2) := fun y hy h01 => by
        rw [b01_of h01]
        by_cases q : bt (sI S 25 4) k = true
        · rw [if_pos q, hy.mpr q]
          exact h2_ret ⟨AN_v (ti_sI_eq _ _ _ _), trivial⟩
        · rw [if_neg q, h01.resolve_right (fun z => q (hy.mp z))]
          exact h2_ret ⟨AN_v (ti_sI_eq _ _ _ _), trivial⟩
      refine m_p2 (P := fun q => q.2 = wI m 57 82 0 ∧ (q.1 = 0 ∨ q.1 = 1) ∧ (q.1 = 1 ↔ bt (sI S 25 4) k = true)) ?_ (fun y m2 p => ?_)
      · refine p_of (st_gIe e1) (p_of (st_F (fun q => by have := (ole (by omega) (by omega)).mp q; omega)) (p_of (st_gRe (hmf 64 111 rfl)) (p_of (st_aIe (v := sI m 111 k) (oc (by omega)) (lv0 m (by omega) 0)) ?_)))
        refine p_if (fun c1 => ?_) (fun c1 => p_ret ⟨rfl, Or.inl rfl, fun q => absurd (show (0 : Int32) = 1 from q) (by decide), fun q => absurd (kp.mp q).2.1 c1⟩)
        refine p_of (st_gRe (hmf 65 112 rfl)) (p_of (st_aIe (v := sI m 112 k) (oc (by omega)) (lv0 m (by omega) 0)) (p_if (fun c2 => p_ret ⟨rfl, Or.inr rfl, fun _ => kp.mpr ⟨by omega, c1, Or.inl c2⟩, fun _ => rfl⟩) (fun c2 => ?_)))
        refine p_of (st_gIe (v := sI m 57 0) (lv0 m (by omega) 0)) (p_of (st_gRe (hmf 65 112 rfl)) (p_of (st_aIe (v := sI m 112 k) (oc (by omega)) (lv0 m (by omega) 0)) ?_))
        refine p_if (fun c3 => p_ret ⟨rfl, Or.inl rfl, fun q => absurd (show (0 : Int32) = 1 from q) (by decide), fun q => ?_⟩) (fun c3 => p_ret ⟨rfl, Or.inr rfl, fun _ => kp.mpr ⟨by omega, c1, Or.inr ?_⟩, fun _ => rfl⟩)
        · have := (kp.mp q).2.2.resolve_left c2
          have := Int32.le_iff_toInt_le.mp c3
          omega
        · exact Int.not_le.mp (fun q => c3 (Int32.le_iff_toInt_le.mpr q))
      · obtain ⟨p1, p2, p3⟩ := p
        have p1 : m2 = _ := p1
        rw [p1]
        exact fin y p3 p2
    · cases e2
  · rcases p_rI _ e with ⟨a1, a2, e2⟩ | ⟨a1, e2⟩
    · cases e2
    · cases e2
      rw [if_neg (show ¬ (0 ≤ a ∧ a ≤ Int32.ofNat c - 1) from fun q => a1 (by have := (IX_iff (n := c) (by omega)).mp ((IX_sub (by omega)).mp q); rw [oi (by omega)]; exact this))]
      refine m_p2 p_may (fun v m' p => ?_)
      cases p
      exact m_of (st_T rfl) (h2_ret ⟨AN_e 0 rfl (ti_sI_eq _ _ _ _), trivial⟩)
/-- the next key is published -/
theorem h_turn (hT : TV T S) (hm : TI Tm m) (h : FR S m) : H2 (f_K_turn S (some 4)) (f_M_turn m (some 57)) (fun x y => AN [eS] x.1 y.1 (sI y.2 57 82) ∧ cKey x.2 y.2) := by
  have r := (K4F_of hT.1).1 15 25 rfl
  have x1 := (FR_X hT (TI_t hm 1) (FR_t hT hm h 1)).Key
  have n := h.NW
  obtain ⟨c, g, h1, h2, h3, h4, h5, h6, h7, h8⟩ := h.Key
  have bad : H2 (f_K_turn_B27 S (some 4)) (f_M_turn_B22 m (some 57) (some 57)) (fun x y => AN [eS] x.1 y.1 (sI y.2 57 82) ∧ cKey x.2 y.2) := by
    unfold f_K_turn_B27 f_K_turn_B28 f_M_turn_B22 f_M_turn_B23
    refine l_of (st_bxe (rS0 S)) (m_of st_rv (m_p2 p_may (fun v m' q => ?_)))
    cases q
    exact m_of (st_T rfl) (h2_ret ⟨AN_e 0 rfl (ti_sI_eq _ _ _ _), x1⟩)
  unfold f_K_turn f_M_turn
  refine l_of (st_gRe r) (l_of (st_gIe h3.2.2.1) (m_of st_gI ?_))
  by_cases c1 : sI m 57 62 = -1
  · refine l_of (st_T c1) (m_of (st_T c1) (l_of (st_gRe r) (l_of (st_gIe (h3.1.trans h2.1)) (m_of (st_gIe h2.1) ?_))))
    by_cases c2 : (20 : Int32) ≤ Int32.ofNat c
    · exact l_of (st_T c2) (m_of (st_T c2) bad)
    · refine l_of (st_F c2) (m_of (st_F c2) ?_)
      have c20 : c < 20 := Nat.not_le.mp (fun q => c2 ((ole (a := 20) (b := c) (by decide) (by omega)).mpr q))
      unfold f_K_turn_B28 f_M_turn_B23 f_Keyring_publishWaiting f_Keyring_publishNext
      refine l_of (st_bx (rS1 S)) (m_of st_rv (m_p2 p_may (fun v m' q => ?_)))
      cases q
      refine m_of (st_F one0) (l_of (st_gRe r) (l_of (st_gIe n.1) (l_of st_rv ?_)))
      refine l_p2 (P := fun q => q.1 = Int32.ofNat c ∧ q.2 = wI (wI (wI (wI S 25 4 (sI S 25 4 ||| ((1 : Int32) <<< (Int32.ofNat c &&& 31)))) 25 0 (Int32.ofNat c + 1)) 25 2 (Int32.ofNat c)) 25 3 (sI m 57 0 + 5)) ?_ (fun v S' p => ?_)
      · refine p_of st_rv ?_
        refine p_b2 (P := fun q => q.1 = Int32.ofNat c ∧ q.2 = wI (wI S 25 4 (sI S 25 4 ||| ((1 : Int32) <<< (Int32.ofNat c &&& 31)))) 25 0 (Int32.ofNat c + 1)) ?_ (fun v S' p => ?_)
        · refine p_of st_gI (p_of (st_gIe (h3.1.trans h2.1)) (p_of st_pI (p_of (st_gIe (v := Int32.ofNat c) ((ti_sI_ne (by omega)).trans (h3.1.trans h2.1))) (p_of st_pI (p_of (st_gIe (ti_sI_eq _ _ _ _)) (p_ret ⟨?_, rfl⟩))))))
          exact Int32.add_sub_cancel _ _
        · obtain ⟨p1, p2⟩ := p
          have p1 : v = _ := p1
          have p2 : S' = _ := p2
          rw [p1, p2]
          exact p_of st_pI (p_of st_pI (p_of (st_gIe (v := Int32.ofNat c) ((ti_sI_ne (by omega)).trans (ti_sI_eq _ _ _ _))) (p_ret ⟨rfl, rfl⟩)))
      · obtain ⟨p1, p2⟩ := p
        have p1 : v = _ := p1
        have p2 : S' = _ := p2
        rw [p1, p2]
        refine m_of (st_gIe (v := Int32.ofNat c) ((lv0 m (by omega) 0).trans h2.1)) (m_of st_pI (m_of (st_gIe (v := sI m 57 0) ((ti_sI_ne (by omega)).trans (lv0 m (by omega) 0))) (m_of st_pI (m_of (st_gIe (v := Int32.ofNat c) ((ti_sI_ne (by omega)).trans ((ti_sI_ne (by omega)).trans ((lv0 m (by omega) 0).trans h2.1)))) (m_of st_pI (m_of (st_gIe (v := Int32.ofNat c) ?_) (h2_ret ⟨AN_v ?_, ?_⟩)))))))
        · rw [ti_sI_ne (by omega), ti_sI_ne (by omega), ti_sI_eq]
        · rw [ti_sI_ne (by omega), ti_sI_ne (by omega), ti_sI_ne (by omega)]
          exact ti_sI_eq _ _ _ _
        · obtain ⟨M, eM⟩ : ∃ M, M = wI (wI (wI (wI m 57 82 0) 57 62 (Int32.ofNat c)) 57 63 (sI m 57 0 + 5)) 57 60 (Int32.ofNat c + 1) := ⟨_, rfl⟩
          show cKey _ (wI (wI (wI (wI m 57 82 0) 57 62 (Int32.ofNat c)) 57 63 (sI m 57 0 + 5)) 57 60 (Int32.ofNat c + 1))
          rw [← eM]
          have oM : ∀ p j, ¬ (p = 57 ∧ (j = 82 ∨ j = 62 ∨ j = 63 ∨ j = 60)) → sI M p j = sI m p j := fun p j q => by
            rw [eM, ti_sI_ne (by omega), ti_sI_ne (by omega), ti_sI_ne (by omega), ti_sI_ne (by omega)]
          have m60 : sI M 57 60 = Int32.ofNat (c + 1) := by rw [eM, ti_sI_eq, o1]
          have m62 : sI M 57 62 = Int32.ofNat c := by rw [eM, ti_sI_ne (by omega), ti_sI_ne (by omega), ti_sI_eq]
          have m63 : sI M 57 63 = sI m 57 0 + 5 := by rw [eM, ti_sI_ne (by omega), ti_sI_eq]
          unfold cKey
          rw [oM 57 0 (by omega)]
          refine ⟨c + 1, g, by omega, ⟨m60, by rw [oM 57 61 (by omega)]; exact h2.2⟩, ⟨?_, ?_, ?_, ?_⟩, by rw [oM 112 g (by omega)]; exact h4, Or.inr ⟨c, by omega, by omega, m62, by rw [oM 112 c (by omega)]; exact (h7 c c20 (Nat.le_refl _)).2⟩, fun k hk => ?_, fun k hk hk2 => ?_, fun k hk => ?_⟩
          · rw [ti_sI_ne (by omega), ti_sI_ne (by omega), ti_sI_eq, m60, o1]
          · rw [ti_sI_ne (by omega), ti_sI_ne (by omega), ti_sI_ne (by omega), ti_sI_ne (by omega), oM 57 61 (by omega)]
            exact h3.2.1
          · rw [ti_sI_ne (by omega), ti_sI_eq, m62]
          · rw [ti_sI_eq, m63]
          · rw [ti_sI_ne (by omega), ti_sI_ne (by omega), ti_sI_ne (by omega), ti_sI_ne (by omega), oM 112 k (by omega)]
            exact h6 k hk
          · rw [oM 111 k (by omega), oM 112 k (by omega)]
            exact h7 k hk (by omega)
          · rw [ti_sI_ne (by omega), ti_sI_ne (by omega), ti_sI_ne (by omega), ti_sI_eq, bt_sh20 _ c20, h8 k hk]
            unfold KP
            rw [m60, oM 111 k (by omega), oM 112 k (by omega), h2.1, oi (by omega), oi (by omega)]
            constructor
            · rintro (q | q)
              · exact ⟨by have := q.1; omega, q.2⟩
              · rw [q]
                exact ⟨by omega, (h7 c c20 (Nat.le_refl _)).1, Or.inl (h7 c c20 (Nat.le_refl _)).2⟩
            · rintro ⟨q1, q2⟩
              by_cases q : k = c
              · exact Or.inr q
              · exact Or.inl ⟨by omega, q2⟩
  · exact l_of (st_F c1) (m_of (st_F c1) bad)
end
