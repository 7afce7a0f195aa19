/-! ===== signing out; live by the audit ===== -/
theorem oc4 {n : Nat} (h : n ≤ 4000) : (Int32.ofNat n).toNatClampNeg = n := by
  have := natI (i := Int32.ofNat n) (by rw [oi4 h]; omega)
  rw [oi4 h] at this
  omega
theorem k1000' : ∀ s, s < 60 → (1000 : Int32) * 0 + Int32.ofNat s = Int32.ofNat s ∧ (1000 : Int32) * 1 + Int32.ofNat s = Int32.ofNat (1000 + s) := by decide +kernel
theorem p_has_L {S : AS} {k s : Int32} {N : Nat} (h0 : sR S 5 0 = some 6) (hN : (sI S 5 2).toInt = N) (hN2 : N ≤ 1024) : ∀ (d j fu : Nat), j + d = N → Hp (f_Audit_has_L2 fu S (some 5) k s (Int32.ofNat j)) (fun q => q.2 = S ∧ (q.1 = 0 ∨ q.1 = 1) ∧ (q.1 = 1 ↔ ∃ i, j ≤ i ∧ i < N ∧ sI S 6 i = (1000 : Int32) * k + s))
  | _, _, 0, _ => p_0
  | 0, j, fu + 1, hk => by
    unfold f_Audit_has_L2 f_Audit_has_C2
    refine p_of st_gI (p_of (st_T (Int32.le_iff_toInt_le.mpr (by rw [hN, oi4 (by omega)]; omega))) (p_ret ⟨rfl, Or.inl rfl, fun q => absurd (show (0 : Int32) = 1 from q) (by decide), ?_⟩))
    rintro ⟨i, q1, q2, -⟩
    omega
  | d + 1, j, fu + 1, hk => by
    unfold f_Audit_has_L2 f_Audit_has_C2
    refine p_of st_gI (p_of (st_F (fun q => by have := Int32.le_iff_toInt_le.mp q; rw [hN, oi4 (by omega)] at this; omega)) (p_of st_rv ?_))
    refine p_b2 (P := fun q => q = (sI S 6 j, S)) ?_ (fun v S' e => ?_)
    · unfold f_Audit_entryAt
      refine p_of (st_F (fun q => by have := lt0.mp q; rw [oi4 (by omega)] at this; omega)) (p_of (st_F (fun q => ?_)) (p_of (st_gRe h0) (p_of (st_aIe (oc4 (by omega)) rfl) (p_ret rfl))))
      have := (ole4 (a := 1024) (b := j) (by decide) (by omega)).mp q
      omega
    · cases e
      refine p_if (fun c => p_ret ⟨rfl, Or.inr rfl, fun _ => ⟨j, Nat.le_refl _, by omega, c⟩, fun _ => rfl⟩) (fun c => p_of st_val ?_)
      rw [o1]
      refine p_mono (p_has_L h0 hN hN2 d (j + 1) fu (by omega)) (fun q e => ⟨e.1, e.2.1, e.2.2.trans ⟨?_, ?_⟩⟩)
      · rintro ⟨i, q1, q2, q3⟩
        exact ⟨i, by omega, q2, q3⟩
      · rintro ⟨i, q1, q2, q3⟩
        refine ⟨i, ?_, q2, q3⟩
        have : i ≠ j := fun z => c (by rw [← z]; exact q3)
        omega
theorem p_lba_L {m : AS} {s : Int32} {N i0 : Nat} (hmf : MF m) (hN : (sI m 57 77).toInt = N) (hN2 : N ≤ 1200) (h1 : i0 < N) (h2 : sI m 124 i0 = s) (h3 : sI m 123 i0 = 0 ∨ sI m 123 i0 = 1) (h4 : ∀ j : Nat, i0 < j → j < N → sI m 124 j = s → ¬ sI m 123 j < 2) :
    ∀ (d j fu : Nat) (x : Int32), j + d = N → (i0 < j → x = if sI m 123 i0 = 0 then 1 else 0) → Hp (f_M_isLiveByAudit_L18 fu m (some 57) s x (Int32.ofNat j)) (fun q => q = (if sI m 123 i0 = 0 then 1 else 0, m))
  | _, _, 0, _, _, _ => p_0
  | 0, j, fu + 1, x, hk, hx => by
    unfold f_M_isLiveByAudit_L18 f_M_isLiveByAudit_C18
    refine p_of st_gI (p_of (st_T (Int32.le_iff_toInt_le.mpr (by rw [hN, oi4 (by omega)]; omega))) (p_of st_z (p_ret ?_)))
    rw [hx (by omega)]
  | d + 1, j, fu + 1, x, hk, hx => by
    unfold f_M_isLiveByAudit_L18 f_M_isLiveByAudit_C18
    refine p_of st_gI (p_of (st_F (fun q => by have := Int32.le_iff_toInt_le.mp q; rw [hN, oi4 (by omega)] at this; omega)) ?_)
    have go : ∀ y : Int32, (i0 < j + 1 → y = if sI m 123 i0 = 0 then 1 else 0) → Hp (f_M_isLiveByAudit_B64 (f_M_isLiveByAudit_L18 fu) m (some 57) s (Int32.ofNat j) y) (fun q => q = (if sI m 123 i0 = 0 then 1 else 0, m)) := fun y hy => by
      unfold f_M_isLiveByAudit_B64
      refine p_of st_val ?_
      rw [o1]
      exact p_lba_L hmf hN hN2 h1 h2 h3 h4 d (j + 1) fu y (by omega) hy
    have skip : i0 ≠ j → Hp (f_M_isLiveByAudit_B63 (f_M_isLiveByAudit_L18 fu) m (some 57) s x (Int32.ofNat j)) (fun q => q = (if sI m 123 i0 = 0 then 1 else 0, m)) := fun ne => by
      unfold f_M_isLiveByAudit_B63
      exact go x (fun q => hx (by omega))
    refine p_of (st_gRe (hmf 79 124 rfl)) (p_of (st_aIe (v := sI m 124 j) (oc4 (by omega)) rfl) (p_if (fun c => ?_) (fun c => skip (fun z => c (by rw [← z]; exact h2)))))
    refine p_of (st_gRe (hmf 78 123 rfl)) (p_of (st_aIe (v := sI m 123 j) (oc4 (by omega)) rfl) (p_if (fun c2 => ?_) (fun c2 => ?_)))
    · refine skip (fun z => ?_)
      subst z
      rcases h3 with q | q
      · rw [q] at c2
        exact absurd c2 (by decide)
      · rw [q] at c2
        exact absurd c2 (by decide)
    · have lt : sI m 123 j < 2 := Int32.not_le.mp c2
      have ji : ¬ i0 < j := fun q => h4 j q (by omega) c lt
      refine p_of (st_gRe (hmf 78 123 rfl)) (p_of (st_aIe (v := sI m 123 j) (oc4 (by omega)) rfl) (p_if (fun c3 => go 1 (fun q => ?_)) (fun c3 => go 0 (fun q => ?_))))
      · have e : i0 = j := by omega
        rw [e, if_pos c3]
      · have e : i0 = j := by omega
        rw [e, if_neg c3]
section
variable {T Tm : Nat → Nat} {S m : AS}
def P_end (S m : AS) : Prop := cLiv S m ∧ cGod S m ∧ cAU S m
theorem FR_end (h : FR S m) : P_end S m := ⟨h.Liv, h.God, h.AU⟩
theorem EE_P {T : Nat → Nat} {S0 m0 S m : AS} (h : EE 0 T S0 m0 (nS m0) (nF m0) S m) : P_end S m := by
  refine EE_out h.1.1 ?_ ?_ h
  · unfold nS
    rw [h.2.1.2.2 57 30 (by rfl)]
  · unfold nF
    rw [h.2.1.2.2 57 46 (by rfl)]
theorem h_isLiveByAudit (hT : TV T S) (hm : TI Tm m) (h : FR S m) (hb : (sI m 57 77).toInt ≤ 1024) (a : Int32) : H2 (f_K_isLiveByAudit S (some 4) a) (f_M_isLiveByAudit m (some 57) a) (fun x y => AN [eX] x.1 y.1 (sI y.2 57 82) ∧ P0 x.2 y.2) := by
  have b := FR_BB hT hm h
  have k4 := K4F_of hT.1
  obtain ⟨z1, z2, z3⟩ := zS b
  obtain ⟨u1, u2, u3, u4⟩ := h.AU.1
  obtain ⟨g1, g2, g3⟩ := u4 (by omega)
  unfold f_K_isLiveByAudit f_M_isLiveByAudit
  refine l_of (st_gRe (k4.1 8 19 rfl)) (l_of st_rv (l_of st_size (m_of st_rv (m_p2 (x_MS b a) (fun v S2 p => ?_)))))
  rw [z3, show sI m 57 30 = Int32.ofNat (nS m) from z2]
  have n60 : nS m ≤ 60 := z1
  refine l_bx (fun v' S' e => ?_) (fun v' S' e => ?_)
  · rcases p_rI _ e with ⟨a1, a2, e2⟩ | ⟨-, e2⟩
    · cases e2
      rw [oi (by omega)] at a2
      obtain ⟨s, s1, rfl⟩ := (IX_iff (n := nS m) (by omega)).mpr ⟨a1, a2⟩
      rcases p with ⟨-, p2⟩ | ⟨p1, -⟩
      · cases p2
        refine m_of st_rv (m_p2 p_may (fun v m' p => ?_))
        cases p
        refine m_of (st_F one0) ?_
        obtain ⟨N, hN⟩ : ∃ N : Nat, (sI m 57 77).toInt = N := ⟨(sI m 57 77).toInt.toNat, by omega⟩
        have hK : (sI S 5 2).toInt = N := by rw [u3]; omega
        obtain ⟨i0, i1, i2, i3, i4⟩ := g3 s s1
        have lm : ∀ p j, ¬ (p = 57 ∧ j = 82) → sI (wI m 57 82 0) p j = sI m p j := fun p j q => lv0 m q 0
        have ml := p_lba_L (m := wI m 57 82 0) (s := Int32.ofNat s) (N := N) (i0 := i0) (MF_of (TI_t hm 0)) (by rw [lm 57 77 (by omega)]; exact hN) (by omega) (by omega) (by rw [lm 124 i0 (by omega)]; exact i2) (by
          rw [lm 123 i0 (by omega), i3]
          by_cases c : sI m 89 s = 1
          · rw [if_pos c]
            exact Or.inl rfl
          · rw [if_neg c]
            exact Or.inr rfl) (fun j q1 q2 q3 => by
          rw [lm 124 j (by omega)] at q3
          rw [lm 123 j (by omega)]
          exact i4 j q1 (by omega) q3) N 0 kr_FU 0 (by omega) (fun q => absurd q (Nat.not_lt_zero _))
        refine m_hp ml (fun q e => ?_)
        rw [e, lm 123 i0 (by omega), i3]
        have k0 := (k1000' s (by omega)).1
        have k1 := (k1000' s (by omega)).2
        unfold f_Audit_has
        refine l_of (st_gRe (k4.1 1 5 rfl)) (l_of st_rv (l_p2 (p_has_L (k := 0) (s := Int32.ofNat s) k4.2.1 hK (by omega) N 0 kr_FU (by omega)) (fun v S' p => ?_)))
        obtain ⟨p1, p2, p3⟩ := p
        have p1 : S' = S := p1
        have p2 : v = 0 ∨ v = 1 := p2
        have p3 : v = 1 ↔ _ := p3
        have v1 : v = 1 := p3.mpr (by
          obtain ⟨i, q1, q2⟩ := (g1 s (by omega)).mpr s1
          exact ⟨i, Nat.zero_le _, by omega, by rw [k0]; exact q2⟩)
        rw [p1, v1]
        refine l_of (st_F one0) (l_of (st_gRe (k4.1 1 5 rfl)) (l_of st_rv (l_p2 (p_has_L (k := 1) (s := Int32.ofNat s) k4.2.1 hK (by omega) N 0 kr_FU (by omega)) (fun w S' p => ?_))))
        obtain ⟨p1, p2, p3⟩ := p
        have p1 : S' = S := p1
        have p2 : w = 0 ∨ w = 1 := p2
        have p3 : w = 1 ↔ _ := p3
        have w1 : w = 1 ↔ sI m 89 s ≠ 1 := by
          rw [p3]
          constructor
          · rintro ⟨i, -, q2, q3⟩
            exact ((g2 s (by omega)).mp ⟨i, by omega, by rw [← k1]; exact q3⟩).2
          · intro q
            obtain ⟨i, q1, q2⟩ := (g2 s (by omega)).mpr ⟨s1, q⟩
            exact ⟨i, Nat.zero_le _, by omega, by rw [k1]; exact q2⟩
        rw [p1]
        by_cases c : sI m 89 s = 1
        · have w0 : w = 0 := p2.resolve_right (fun q => w1.mp q c)
          rw [if_pos c, if_pos rfl]
          exact l_of (st_T w0) (h2_ret ⟨AN_v (ti_sI_eq _ _ _ _), trivial⟩)
        · rw [if_neg c, if_neg one0]
          exact l_of (st_F (by rw [w1.mpr c]; decide)) (h2_ret ⟨AN_v (ti_sI_eq _ _ _ _), trivial⟩)
      · exact absurd ⟨s, s1, rfl⟩ p1
    · cases e2
  · rcases p_rI _ e with ⟨a1, a2, e2⟩ | ⟨a1, e2⟩
    · cases e2
    · cases e2
      rcases p with ⟨p1, -⟩ | ⟨-, p2⟩
      · rw [oi (by omega)] at a1
        exact absurd ((IX_iff (n := nS m) (by omega)).mp p1) a1
      · cases p2
        refine m_of st_rv (m_p2 p_may (fun v m' p => ?_))
        cases p
        exact m_of (st_T rfl) (h2_ret ⟨AN_e 0 rfl (ti_sI_eq _ _ _ _), trivial⟩)
theorem h_signOut (hT : TV T S) (hm : TI Tm m) (h : FR S m) (a : Int32) : H2 (f_K_signOut S (some 4) a) (f_M_signOut m (some 57) a) (fun x y => AN [eX, eS] x.1 y.1 (sI y.2 57 82) ∧ P_end x.2 y.2) := by
  have b := FR_BB hT hm h
  have hf := FR_t hT hm h 0
  have n60 : nS (wI m 57 82 0) ≤ 60 := hf.Ses.1.1
  unfold f_K_signOut f_M_signOut f_M_signOut_B25 f_M_signOut_B26
  refine l_of st_rv (m_of st_rv (m_p2 (x_MS b a) (fun v S2 p => ?_)))
  refine l_bx (fun v' S' e => ?_) (fun v' S' e => ?_)
  · rcases x_fS b a _ e with ⟨s, s1, rfl, e2⟩ | ⟨no, e2⟩
    · cases e2
      rcases p with ⟨-, p2⟩ | ⟨p1, -⟩
      · cases p2
        obtain ⟨l1, l2⟩ := h.Liv.1 s s1
        have z := h.Ses.1.1
        refine l_of (st_gIe l1) (m_of (st_F one0) (m_of (st_gRe (MF_of hm 35 89 rfl)) (m_of (st_aIe (v := sI m 89 s) (oc (by unfold nS at s1; omega)) rfl) ?_)))
        rcases l2 with q | q
        · rw [q]
          refine l_of (st_bxe (rS0 S)) (m_of (st_T rfl) (m_of st_rv (m_p2 p_mayB (fun v m' p => ?_))))
          cases p
          exact m_of (st_T rfl) (h2_ret ⟨AN_e 1 rfl (ti_sI_eq _ _ _ _), FR_end (FR_X hT (TI_t hm 2) (FR_t hT hm h 2))⟩)
        · rw [q]
          refine l_of (st_bx (rS1 S)) (m_of (st_F one0) (m_of st_rv (m_p2 p_mayB (fun v m' p => ?_))))
          cases p
          refine m_of (st_F one0) (m_of st_rv (l_of (st_gIe hf.Liv.2) (l_of st_rv ?_)))
          refine h2_x2 (h_eS (ST_of hT (TI_t hm 0) hf) (EE_of hf) (s := s) s1 ((lv0 m (by omega) 0).trans q)) (fun v S' u m' p => ?_) (fun v S' u m' p => ?_)
          · obtain ⟨S2, c2, m2, e1, e2, he, hc, -⟩ := p
            cases e1
            cases e2
            refine l_of (st_gIe he.2.2.2.1) (h2_ret ⟨?_, EE_P he⟩)
            have c60 := cnt_le (sI (wI m 57 82 0) 89) (nS (wI m 57 82 0))
            show AN [eX, eS] (.inl (Int32.ofNat (cnt (sI (wI m 57 82 0) 89) (nS (wI m 57 82 0))) - Int32.ofNat (cnt (sI m' 89) (nS (wI m 57 82 0))))) (Int32.ofNat c2) (sI m' 57 82)
            rw [osub _ (by omega) _ (by omega) (by omega), show cnt (sI (wI m 57 82 0) 89) (nS (wI m 57 82 0)) - cnt (sI m' 89) (nS (wI m 57 82 0)) = c2 by omega]
            exact AN_v ((he.2.1.2.2 57 82 (by rfl)).trans (ti_sI_eq _ _ _ _))
          · obtain ⟨S2, c2, m2, e1, -⟩ := p
            cases e1
      · exact absurd ⟨s, s1, rfl⟩ p1
    · cases e2
  · rcases x_fS b a _ e with ⟨s, s1, rfl, e2⟩ | ⟨no, e2⟩
    · cases e2
    · cases e2
      rcases p with ⟨p1, -⟩ | ⟨-, p2⟩
      · exact absurd p1 no
      · cases p2
        refine m_of (st_T rfl) (m_of st_rv (m_p2 p_mayB (fun v m' p => ?_)))
        cases p
        exact m_of (st_T rfl) (h2_ret ⟨AN_e 0 rfl (ti_sI_eq _ _ _ _), FR_end (FR_X hT (TI_t hm 1) (FR_t hT hm h 1))⟩)
end
