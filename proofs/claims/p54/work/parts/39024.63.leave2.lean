section
variable {T Tm : Nat → Nat} {S m : AS}
theorem P_end_cong {S m M : AS} (h : P_end S m) (e : ∀ p j, (p = 57 ∨ p = 89 ∨ p = 103 ∨ p = 116 ∨ p = 123 ∨ p = 124) → sI M p j = sI m p j) : P_end S M := by
  obtain ⟨h1, ⟨h2, h3⟩, h4⟩ := h
  have e1 : nS M = nS m := by
    unfold nS
    rw [e 57 30 (by omega)]
  have e2 : nF M = nF m := by
    unfold nF
    rw [e 57 46 (by omega)]
  have e89 : sI M 89 = sI m 89 := funext fun j => e 89 j (by omega)
  refine ⟨⟨fun s hs => ?_, ?_⟩, ⟨fun x x1 x2 v hv => ?_, fun f hf => ?_⟩, ?_⟩
  · rw [e1] at hs
    rw [e89]
    exact h1.1 s hs
  · rw [e89, e1]
    exact h1.2
  · rw [e2] at x1
    rw [e 116 _ (by omega)]
    exact h2 x x1 x2 v hv
  · rw [e2] at hf
    obtain ⟨g1, g2, g3⟩ := h3 f hf
    rw [e 103 f (by omega)]
    exact ⟨g1, fun v hv => by rw [e 116 _ (by omega)]; exact g2 v hv, fun z v hv => by rw [e 116 _ (by omega)]; exact g3 z v hv⟩
  · unfold cAU
    rw [e89, e1]
    exact AU_cong h4 rfl rfl (e 57 77 (by omega)) (funext fun j => e 123 j (by omega)) (funext fun j => e 124 j (by omega)) rfl rfl rfl (fun z => z.trans (e 57 0 (by omega)).symm) (e 57 81 (by omega)) (funext fun j => e 125 j (by omega))
def P_leave (S m : AS) : Prop := cAwy S m ∧ cAst S m ∧ cRec S m ∧ P_end S m
theorem FR_leave (h : FR S m) : P_leave S m := ⟨h.Awy, h.Ast, h.Rec, FR_end h⟩
theorem leave_go (hT : TV T S) (hm : TI Tm m) (h : FR S m) {i : Nat} (i6 : i < 6) : H2 (f_K_leave_B19 S (some 4) (some (29 + 4 * i)) (some (29 + 4 * i)) 1) (f_M_leave_B32 (wI m 57 82 0) (some 57) (Int32.ofNat i) (some 64) (Int32.ofNat i) 1) (fun x y => AN [eX] x.1 y.1 (sI y.2 57 82) ∧ P_leave x.2 y.2) := by
  have b := FR_BB hT hm h
  have hmf0 := MF_of (TI_t hm 0)
  obtain ⟨tP, -, -, -⟩ := kt_P hT.1 h.PF i6
  obtain ⟨t4, t5, t6, -, -, -, -, -, -, -, -, -⟩ := kt4 hT.1
  unfold f_K_leave_B19 f_M_leave_B32
  refine l_of st_pZ (l_of (st_gIe (v := 1) (ti_sI_eq _ _ _ _)) (l_of (st_F one0) (l_of st_rv ?_)))
  refine m_of (st_bZe (oc (by omega))) (m_of (st_gRe (v := some 64) (hmf0 7 64 rfl)) (m_of (st_aIe (v := 1) (oc (by omega)) (ti_sI_eq _ _ _ _)) (m_of (st_F one0) (m_of st_rv ?_))))
  obtain ⟨S1, eS⟩ : ∃ S1, S1 = wI S (29 + 4 * i) 11 1 := ⟨_, rfl⟩
  obtain ⟨m1, em⟩ : ∃ m1, m1 = wI (wI m 57 82 0) 64 i 1 := ⟨_, rfl⟩
  rw [← eS, ← em]
  have oS : ∀ {p j : Nat}, ¬ (p = 29 + 4 * i ∧ j = 11) → sI S1 p j = sI S p j := fun q => by
    rw [eS]
    exact ti_sI_ne q
  have sS : sI S1 (29 + 4 * i) 11 = 1 := by rw [eS, ti_sI_eq]
  have rS : sR S1 = sR S := by rw [eS, sR_wI]
  have lS : sL S1 = sL S := by rw [eS]; rfl
  have om : ∀ {p j : Nat}, ¬ (p = 57 ∧ j = 82) → ¬ (p = 64 ∧ j = i) → sI m1 p j = sI m p j := fun q1 q2 => by
    rw [em]
    exact (ti_sI_ne q2).trans (ti_sI_ne q1)
  have m82 : sI m1 57 82 = 0 := by rw [em, ti_sI_ne (by omega), ti_sI_eq]
  have m64 : sI m1 64 i = 1 := by rw [em, ti_sI_eq]
  have rm : sR m1 = sR m := by rw [em, sR_wI, sR_wI]
  have lm : sL m1 = sL m := by rw [em]; rfl
  unfold f_K_denyAttemptsOf f_K_stopRecoveriesOf
  refine l_pd (p_deny_L b h.Att i6 (B := S1) (oS (by omega)) (uA m) 0 kr_FU S1 (Nat.zero_add _) rS lS (fun _ _ _ => rfl) (fun a ha => by rw [if_neg (fun q => absurd q.1 (Nat.not_lt_zero _))])) (fun S4 p => ?_)
  obtain ⟨a1, a2, a3, a4⟩ := p
  have t27 : T 27 = 26 := (hT.1.t6 6 (by decide)).1
  have t18 : T 18 = 21 := (hT.1.t6 1 (by decide)).1
  refine l_of st_rv (l_pd (p_stopR_L b h.Rec i6 (B := S4) ((a3 27 2 (by omega)).trans (oS (by omega))) (nR m) 0 kr_FU S4 (Nat.zero_add _) a1 a2 (fun _ _ _ => rfl) (fun a ha => by rw [if_neg (fun q => absurd q.1 (Nat.not_lt_zero _))])) (fun S6 p => ?_))
  obtain ⟨b1, b2, b3, b4⟩ := p
  have o6 : ∀ {p j : Nat}, ¬ (p = 29 + 4 * i ∧ j = 11) → ¬ (j = 5 ∧ T p = 42) → ¬ (j = 2 ∧ T p = 46) → sI S6 p j = sI S p j := fun q1 q2 q3 => (b3 _ _ q3).trans ((a3 _ _ q2).trans (oS q1))
  have st : ST T S6 m1 (nS m) (nF m) (nT m) := ST_cong (ST_of hT hm h) b1 b2 (fun k j q1 q2 q3 => o6 (fun z => by rw [z.1, tP] at q1; omega) (by omega) (by omega)) rm lm (fun p j q => om (by omega) (by omega))
  have tF : ∀ f, f < nF m → T (lel S 23 f) = 44 := fun f hf => tyF b hf
  have tS : ∀ s, s < nS m → T (lel S 19 s) = 43 := fun s hs => tyS b hs
  have nP : ∀ k τ, T k = τ → τ ≠ 13 → k ≠ 29 + 4 * i := fun k τ hk ht q => by
    rw [q, tP] at hk
    exact ht hk.symm
  have he : EE 0 T S6 m1 (nS m) (nF m) S6 m1 := EE_mk h b1 (fun s hs => o6 (fun z => nP _ _ (tS s hs) (by decide) z.1) (by omega) (by omega)) (o6 (by omega) (by omega) (by omega)) (fun f hf => ⟨o6 (fun z => nP _ _ (tF f hf) (by decide) z.1) (by omega) (by omega), o6 (fun z => nP _ _ (tF f hf) (by decide) z.1) (by omega) (by omega)⟩) (fun p j q => om (by omega) (by omega))
    (AU_cong h.AU (o6 (by omega) (by omega) (by omega)) (funext fun j => o6 (by omega) (by omega) (by omega)) (om (by omega) (by omega)) (funext fun j => om (by omega) (by omega)) (funext fun j => om (by omega) (by omega)) rfl (o6 (by omega) (by omega) (by omega)) (funext fun j => o6 (by omega) (by omega) (by omega)) (fun z => (o6 (by omega) (by omega) (by omega)).trans (z.trans (om (by omega) (by omega)).symm)) (om (by omega) (by omega)) (funext fun j => om (by omega) (by omega)))
  refine l_of st_rv (h2_x2 (h_eA st he i6) (fun v S8 u m2 p => ?_) (fun v S8 u m2 p => ?_))
  · obtain ⟨S', c', m', e1, e2, he'⟩ := p
    cases e1
    cases e2
    have pe := EE_out (S0 := S6) (m0 := m1) (n := nS m) (nf := nF m) he'.1.1 (by unfold nS; rw [he'.2.1.2.2 57 30 (by rfl), om (by omega) (by omega)]) (by unfold nF; rw [he'.2.1.2.2 57 46 (by rfl), om (by omega) (by omega)]) he'
    have k8 : ∀ {k j : Nat}, T k ≠ 0 → KW (T k) j = false → sI S8 k j = sI S6 k j := fun q1 q2 => he'.1.2.2 _ _ q1 q2
    have m8 : ∀ {p j : Nat}, MW p j = false → sI m2 p j = sI m1 p j := fun q => he'.2.1.2.2 _ _ q
    have z19 : sI m 57 19 = Int32.ofNat (uA m) := (zA b).2.1
    have z70 : sI m 57 70 = Int32.ofNat (nR m) := (zR b).2.1
    have n60 : uA m ≤ 60 := (zA b).1
    have n20 : nR m ≤ 20 := (zR b).1
    refine m_hp (p_lvA_L (m := m2) (i := Int32.ofNat i) (x := Int32.ofNat c') (n := uA m) (nr := nR m) (MF_e (MF_e (MF_of hm) rm) he'.2.1.1) ((m8 (by rfl)).trans ((om (by omega) (by omega)).trans z19)) n60 ((m8 (by rfl)).trans ((om (by omega) (by omega)).trans z70)) n20 (uA m) 0 kr_FU m2 (Nat.zero_add _) rfl rfl (fun _ _ _ => rfl) (fun a => by rw [if_neg (fun q => absurd q.1 (Nat.not_lt_zero _))])) (fun q p => ?_)
    obtain ⟨v1, M⟩ := q
    obtain ⟨p1, p2, p3, p4, p5, p6⟩ := p
    have p1 : v1 = Int32.ofNat c' := p1
    have p4 : ∀ p c, p ≠ 80 → p ≠ 119 → sI M p c = sI m2 p c := p4
    have p5 : ∀ a, sI M 80 a = if a < uA m ∧ sI m2 75 a = Int32.ofNat i ∧ sI m2 80 a = 0 then 2 else sI m2 80 a := p5
    have p6 : ∀ r, sI M 119 r = if r < nR m then (if sI m2 119 r = 0 ∨ sI m2 117 r = Int32.ofNat i then 0 else 1) else sI m2 119 r := p6
    have oM : ∀ {p j : Nat}, MW p j = false → p ≠ 80 → p ≠ 119 → ¬ (p = 57 ∧ j = 82) → ¬ (p = 64 ∧ j = i) → sI M p j = sI m p j := fun q1 q2 q3 q4 q5 => (p4 _ _ q2 q3).trans ((m8 q1).trans (om q4 q5))
    rw [p1]
    have eR8 : sR S8 = sR S := he'.1.1.trans b1
    have el : ∀ l k, lel S8 l k = lel S l k := fun l k => by
      unfold lel
      rw [eR8]
    have eA' : uA M = uA m := by
      unfold uA
      rw [oM (by rfl) (by omega) (by omega) (by omega) (by omega)]
    have eR' : nR M = nR m := by
      unfold nR
      rw [oM (by rfl) (by omega) (by omega) (by omega) (by omega)]
    refine h2_ret ⟨AN_v ?_, fun j hj => ?_, ⟨fun a ha ha2 => ?_, fun a ha => ?_⟩, ⟨⟨?_, ?_, ?_⟩, fun r r1 r2 => ?_, fun r hr => ?_⟩, P_end_cong pe (fun p j q => p4 p j (by omega) (by omega))⟩
    · show sI M 57 82 = 0
      rw [p4 57 82 (by omega) (by omega), m8 (by rfl), m82]
    · obtain ⟨tj, -⟩ := kt_P hT.1 h.PF hj
      show sI S8 (29 + 4 * j) 11 = sI M 64 j
      rw [k8 (by rw [tj]; decide) (by rw [tj]; rfl), p4 64 j (by omega) (by omega), m8 (by rfl), b3 _ _ (by omega), a3 _ _ (by omega)]
      by_cases c : j = i
      · subst c
        rw [sS, m64]
      · rw [oS (by omega), om (by omega) (by omega)]
        exact h.Awy j hj
    · rw [eA'] at ha
      show sI M 82 a = 0
      rw [oM (by rfl) (by omega) (by omega) (by omega) (by omega)]
      exact h.Ast.1 a ha ha2
    · rw [eA'] at ha
      have ta := tyA b ha
      have nA' := nP _ _ ta (by decide)
      have kA : ∀ {j : Nat}, j ≠ 5 → sI S8 (lel S 18 a) j = sI S (lel S 18 a) j := fun q => (k8 (by rw [ta]; decide) (by rw [ta]; rfl)).trans (o6 (fun z => nA' z.1) (by omega) (by omega))
      have k5 : sI S8 (lel S 18 a) 5 = if sI m 75 a = Int32.ofNat i ∧ sI S (lel S 18 a) 5 = 0 then 2 else sI S (lel S 18 a) 5 := by
        rw [k8 (by rw [ta]; decide) (by rw [ta]; rfl), b3 _ _ (by omega), a4 a ha, oS (fun z => nA' z.1)]
      obtain ⟨w1, w2, w3, w4⟩ := h.Ast.2 a ha
      have e80 : sI M 80 a = if sI m 75 a = Int32.ofNat i ∧ sI m 80 a = 0 then 2 else sI m 80 a := by
        rw [p5 a, m8 (by rfl), m8 (by rfl), om (by omega) (by omega), om (by omega) (by omega)]
        by_cases c : sI m 75 a = Int32.ofNat i ∧ sI m 80 a = 0
        · rw [if_pos c, if_pos ⟨ha, c⟩]
        · rw [if_neg c, if_neg (fun q => c q.2)]
      show sI S8 (lel S8 18 a) 5 = sI M 80 a ∧ sI S8 (lel S8 18 a) 8 = sI M 82 a ∧ sI S8 (lel S8 18 a) 9 = sI M 83 a ∧ (sI M 80 a = 0 → sI S8 (lel S8 18 a) 6 = sI M 79 a ∧ sI S8 (lel S8 18 a) 7 = sI M 81 a ∧ (0 ≤ (sI M 82 a).toInt ∧ (sI M 82 a).toInt ≤ 11) ∧ 0 ≤ (sI M 81 a).toInt ∧ (sI M 81 a).toInt < (sI M 69 (12 * nn (sI M 78 a) + nn (sI M 79 a))).toInt)
      rw [el, k5, e80, w1, kA (by omega), kA (by omega), kA (by omega), kA (by omega), oM (p := 82) (by rfl) (by omega) (by omega) (by omega) (by omega), oM (p := 83) (by rfl) (by omega) (by omega) (by omega) (by omega), oM (p := 79) (by rfl) (by omega) (by omega) (by omega) (by omega), oM (p := 81) (by rfl) (by omega) (by omega) (by omega) (by omega), oM (p := 78) (by rfl) (by omega) (by omega) (by omega) (by omega), oM (p := 69) (by rfl) (by omega) (by omega) (by omega) (by omega)]
      refine ⟨rfl, w2, w3, fun q => w4 ?_⟩
      by_cases c : sI m 75 a = Int32.ofNat i ∧ sI m 80 a = 0
      · exact c.2
      · rw [if_neg c] at q
        exact q
    · show nn (sI M 57 70) ≤ 20
      rw [oM (by rfl) (by omega) (by omega) (by omega) (by omega)]
      exact n20
    · show sI M 57 70 = Int32.ofNat (nn (sI M 57 70))
      rw [oM (by rfl) (by omega) (by omega) (by omega) (by omega)]
      exact z70
    · show sI S8 27 2 = sI M 57 70
      rw [oM (by rfl) (by omega) (by omega) (by omega) (by omega), k8 (by rw [t27]; decide) (by rw [t27]; rfl), o6 (by omega) (by omega) (by omega)]
      exact (zR b).2.2
    · rw [eR'] at r1
      show sI M 120 r = 0 ∧ sI M 121 r = 0
      rw [oM (by rfl) (by omega) (by omega) (by omega) (by omega), oM (by rfl) (by omega) (by omega) (by omega) (by omega)]
      exact h.Rec.2.1 r r1 r2
    · rw [eR'] at hr
      have tr := tyR b hr
      have nA' := nP _ _ tr (by decide)
      have kA : ∀ {j : Nat}, j ≠ 2 → sI S8 (lel S 27 r) j = sI S (lel S 27 r) j := fun q => (k8 (by rw [tr]; decide) (by rw [tr]; rfl)).trans (o6 (fun z => nA' z.1) (by omega) (by omega))
      have k2 : sI S8 (lel S 27 r) 2 = if sI m 117 r = Int32.ofNat i then 0 else sI S (lel S 27 r) 2 := by
        rw [k8 (by rw [tr]; decide) (by rw [tr]; rfl), b4 r hr, a3 _ _ (by omega), oS (fun z => nA' z.1)]
      obtain ⟨w1, w2, w3, w4, w5, w6, w7⟩ := h.Rec.2.2 r hr
      have t01 : sI m 119 r = 0 ∨ sI m 119 r = 1 := by
        obtain ⟨-, tt, -⟩ := md_at hm (j := 73) (p := 119) rfl rfl
        exact In01 (hm.t5 119 r 20 0 1 (by rw [tt]; rfl) (by omega))
      have e119 : sI M 119 r = if sI m 117 r = Int32.ofNat i then 0 else sI m 119 r := by
        rw [p6 r, if_pos hr, m8 (by rfl), m8 (by rfl), om (by omega) (by omega), om (by omega) (by omega)]
        by_cases c : sI m 117 r = Int32.ofNat i
        · rw [if_pos c, if_pos (Or.inr c)]
        · rw [if_neg c]
          rcases t01 with q | q
          · rw [if_pos (Or.inl q), q]
          · rw [if_neg (fun z => z.elim (fun y => by rw [y] at q; exact absurd q (by decide)) c), q]
      show (∀ b, b < nR M → lel S8 27 b = lel S8 27 r → b = r) ∧ (∃ i, i < 6 ∧ sR S8 (lel S8 27 r) 0 = some (29 + 4 * i) ∧ sI M 117 r = Int32.ofNat i) ∧ sI S8 (lel S8 27 r) 1 = sI M 118 r ∧ sI S8 (lel S8 27 r) 2 = sI M 119 r ∧ sI S8 (lel S8 27 r) 3 = sI M 120 r ∧ (0 ≤ (sI M 120 r).toInt ∧ (sI M 120 r).toInt < 64) ∧ sI S8 (lel S8 27 r) 4 = sI M 121 r
      rw [el, k2, e119, w4, kA (by omega), kA (by omega), kA (by omega), eR', eR8, oM (p := 118) (by rfl) (by omega) (by omega) (by omega) (by omega), oM (p := 120) (by rfl) (by omega) (by omega) (by omega) (by omega), oM (p := 121) (by rfl) (by omega) (by omega) (by omega) (by omega), oM (p := 117) (by rfl) (by omega) (by omega) (by omega) (by omega)]
      exact ⟨fun b hb e => w1 b hb (by rw [el] at e; exact e), w2, w3, rfl, w5, w6, w7⟩
  · obtain ⟨S', c', m', e1, -⟩ := p
    cases e1
theorem h_leave (hT : TV T S) (hm : TI Tm m) (h : FR S m) (a : Int32) : H2 (f_K_leave S (some 4) a) (f_M_leave m (some 57) a) (fun x y => AN [eX] x.1 y.1 (sI y.2 57 82) ∧ P_leave x.2 y.2) := by
  have b := FR_BB hT hm h
  have hmf := MF_of (TI_t hm 0)
  unfold f_K_leave f_M_leave
  refine m_of (st_b2 (q_six m a)) (m_of st_rv ?_)
  refine l_of st_rv (l_bx (fun v S' e => ?_) (fun v S' e => ?_))
  · rcases x_fp b a _ e with ⟨i, i1, rfl, e2⟩ | ⟨no, e2⟩
    · cases e2
      rw [if_pos ((six_iff _).mpr ⟨i, i1, rfl⟩)]
      refine m_p2 p_may (fun v m' p => ?_)
      cases p
      refine l_of (st_gIe (h.Awy i i1)) (m_of (st_F one0) (m_of (st_gRe (hmf 7 64 rfl)) (m_of (st_gRe (hmf 7 64 rfl)) (m_of (st_aIe (v := sI m 64 i) (oc (by omega)) (lv0 m (by omega) 0)) ?_))))
      by_cases c : sI m 64 i = 0
      · exact l_of (st_T c) (m_of (st_T c) (leave_go hT hm h i1))
      · refine l_of (st_F c) (m_of (st_F c) ?_)
        unfold f_K_leave_B19 f_M_leave_B32
        refine l_of st_pZ (l_of (st_gIe (v := 0) (ti_sI_eq _ _ _ _)) (l_of (st_T rfl) ?_))
        refine m_of (st_bZe (oc (by omega))) (m_of (st_gRe (v := some 64) (hmf 7 64 rfl)) (m_of (st_aIe (v := 0) (oc (by omega)) (ti_sI_eq _ _ _ _)) (m_of (st_T rfl) ?_)))
        obtain ⟨tP, -, -, -⟩ := kt_P hT.1 h.PF i1
        have h0 := FR_t hT hm h 0
        obtain ⟨S1, eS⟩ : ∃ S1, S1 = wI S (29 + 4 * i) 11 0 := ⟨_, rfl⟩
        obtain ⟨m1, em⟩ : ∃ m1, m1 = wI (wI m 57 82 0) 64 i 0 := ⟨_, rfl⟩
        rw [← eS]
        show H2 (some (Sum.inl (-1), S1)) (some (-1, wI (wI m 57 82 0) 64 i 0)) _
        rw [← em]
        have kS : Kp T T (k_cAst ++ (k_cRec ++ (k_cLiv ++ (k_cGod ++ k_cAU)))) S S1 := ⟨fun _ _ => rfl, fun k j q1 q2 => by
          rw [eS, ti_sI_ne]
          rintro ⟨rfl, rfl⟩
          rw [tP] at q2
          exact absurd q2 (by decide +kernel), fun k j _ _ => by rw [eS, sR_wI]⟩
        have t64 := (md_at hm (j := 7) (p := 64) rfl rfl).2.1
        have kM : Kp Tm Tm (m_cAst ++ (m_cRec ++ (m_cLiv ++ (m_cGod ++ m_cAU)))) (wI m 57 82 0) m1 := ⟨fun _ _ => rfl, fun k j q1 q2 => by
          rw [em, ti_sI_ne]
          rintro ⟨rfl, rfl⟩
          rw [t64, show cl (100 + 7) j = 10700 from if_neg (by decide)] at q2
          exact absurd q2 (by decide +kernel), fun k j _ _ => by rw [em, sR_wI]⟩
        have b0 := FR_BB hT (TI_t hm 0) h0
        have sub : ∀ {ds : List Nat}, ds.all (fun z => (k_cAst ++ (k_cRec ++ (k_cLiv ++ (k_cGod ++ k_cAU)))).contains z) = true → Kp T T ds S S1 := fun hs => Kp_sub kS (fun z hz => List.contains_iff_mem.mp (List.all_eq_true.mp hs z hz))
        have subM : ∀ {ds : List Nat}, ds.all (fun z => (m_cAst ++ (m_cRec ++ (m_cLiv ++ (m_cGod ++ m_cAU)))).contains z) = true → Kp Tm Tm ds (wI m 57 82 0) m1 := fun hs => Kp_sub kM (fun z hz => List.contains_iff_mem.mp (List.all_eq_true.mp hs z hz))
        refine h2_ret ⟨AN_v ?_, fun j hj => ?_, cAst_fr b0 h0.Ast (sub (by decide +kernel)) (subM (by decide +kernel)), cRec_fr b0 h0.Rec (sub (by decide +kernel)) (subM (by decide +kernel)), cLiv_fr b0 h0.Liv (sub (by decide +kernel)) (subM (by decide +kernel)), cGod_fr b0 h0.God (sub (by decide +kernel)) (subM (by decide +kernel)), cAU_fr b0 h0.AU (sub (by decide +kernel)) (subM (by decide +kernel))⟩
        · rw [em, ti_sI_ne (by omega)]
          exact ti_sI_eq _ _ _ _
        · show sI S1 (29 + 4 * j) 11 = sI m1 64 j
          rw [eS, em]
          by_cases q : j = i
          · subst q
            exact (ti_sI_eq _ _ _ _).trans (ti_sI_eq _ _ _ _).symm
          · exact (ti_sI_ne (by omega)).trans ((h0.Awy j hj).trans (ti_sI_ne (by omega)).symm)
    · cases e2
  · rcases x_fp b a _ e with ⟨i, i1, rfl, e2⟩ | ⟨no, e2⟩
    · cases e2
    · cases e2
      rw [if_neg (fun q => no ((six_iff _).mp q))]
      refine m_p2 p_may (fun v m' p => ?_)
      cases p
      exact m_of (st_T rfl) (h2_ret ⟨AN_e 0 rfl (ti_sI_eq _ _ _ _), FR_leave (FR_X hT (TI_t hm 1) (FR_t hT hm h 1))⟩)
end
