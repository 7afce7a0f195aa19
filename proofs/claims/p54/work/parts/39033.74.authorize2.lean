section
variable {T Tm : Nat → Nat} {S m : AS}
theorem au_new (hT : TV T S) (hm : TI Tm m) (h : FR S m) {s c v : Nat} {sc : Int32} (s1 : s < nS m) (c4 : c < 4) (v4 : v < 4) (n59 : nC m < 60) {S4 m6 : AS} (e4 : S4 = wI S (lel S 19 s) 5 (sI m 57 0)) (e6 : m6 = wI (wI m 57 82 0) 87 s (sI m 57 0)) :
    H2 ((gR S4 22 12 (some 4)).bind fun v14 => (some (nO S4 14)).bind fun S15 => (gI S15 22 0 (some 4)).bind fun v16 => (f_Grant_init S15 (some (sN S4)) (some (lel S 19 s)) (Int32.ofNat c) (Int32.ofNat v) sc v16).bind fun S17 => (kr_rv S17 10 v14).bind fun u18 => kr_b2 (f_AL_add1 S17 v14 (some (sN S4))) fun v20 S19 => (gR S19 22 12 (some 4)).bind fun v21 => (kr_rv S19 10 v21).bind fun u22 => kr_b2 (f_AL_size S19 v21) fun v24 S23 => some ((Sum.inl (v24 - (1 : Int32)) : Int32 ⊕ String), S23))
      ((gR m6 39 40 (some 57)).bind fun v19 => (gI m6 39 39 (some 57)).bind fun v20 => (bI m6 v19 v20 (Int32.ofNat s) 46).bind fun S21 => (gR S21 39 41 (some 57)).bind fun v22 => (gI S21 39 39 (some 57)).bind fun v23 => (bI S21 v22 v23 (Int32.ofNat c) 46).bind fun S24 => (gR S24 39 42 (some 57)).bind fun v25 => (gI S24 39 39 (some 57)).bind fun v26 => (bI S24 v25 v26 (Int32.ofNat v) 46).bind fun S27 => (gR S27 39 43 (some 57)).bind fun v28 => (gI S27 39 39 (some 57)).bind fun v29 => (bI S27 v28 v29 sc 46).bind fun S30 => (gR S30 39 44 (some 57)).bind fun v31 => (gI S30 39 39 (some 57)).bind fun v32 => (gI S30 39 0 (some 57)).bind fun v33 => (bI S30 v31 v32 v33 46).bind fun S34 => (gR S34 39 45 (some 57)).bind fun v35 => (gI S34 39 39 (some 57)).bind fun v36 => (bI S34 v35 v36 (-1 : Int32) 46).bind fun S37 => (gI S37 39 39 (some 57)).bind fun v38 => (pI S37 39 39 (some 57) (v38 + (1 : Int32))).bind fun S39 => (gI S39 39 39 (some 57)).bind fun v40 => some (v40 - (1 : Int32), S39)) (fun x y => AN [eX, eA, eS] x.1 y.1 (sI y.2 57 82) ∧ P_auth x.2 y.2) := by
  have b := FR_BB hT hm h
  have k4 := K4F_of hT.1
  have pu := used_P hT hm h s1
  rw [← e4, ← e6] at pu
  have rS4 : sR S4 = sR S := by rw [e4, sR_wI]
  have NS4 : sN S4 = sN S := by rw [e4]; rfl
  have lS4 : sL S4 = sL S := by rw [e4]; rfl
  have rm6 : sR m6 = sR m := by rw [e6, sR_wI, sR_wI]
  have ts := tyS b s1
  have s60 : s < 60 := by
    have := (zS b).1
    unfold nS at s1
    omega
  have t22 : T 22 = 23 := (hT.1.t6 3 (by decide)).1
  obtain ⟨t4, -⟩ := kt4 hT.1
  have oS4 : ∀ {k τ : Nat} (j : Nat), T k = τ → τ ≠ 43 → sI S4 k j = sI S k j := fun j hk ht => by
    rw [e4]
    exact ti_sI_ne (fun q => by
      rw [q.1, ts] at hk
      exact ht hk.symm)
  have om6 : ∀ {p j : Nat}, ¬ (p = 57 ∧ j = 82) → ¬ (p = 87 ∧ j = s) → sI m6 p j = sI m p j := fun a1 a2 => by
    rw [e6]
    exact (ti_sI_ne a2).trans (lv0 m a1 0)
  have m82 : sI m6 57 82 = 0 := by rw [e6, ti_sI_ne (by omega), ti_sI_eq]
  have hm6 : MF m6 := MF_e (MF_of hm) rm6
  obtain ⟨u1, u2, u3⟩ := zC b
  have n39 : sI m 57 39 = Int32.ofNat (nC m) := u2
  have m39 : sI m6 57 39 = Int32.ofNat (nC m) := (om6 (by omega) (by omega)).trans n39
  have s22 : sI S 22 2 = Int32.ofNat (nC m) := u3.trans n39
  obtain ⟨d, d1, d2, d3, d4, d5, d6⟩ := LO_add hT.1 (q := 3) (by decide) s22 (by omega)
  have d1 : sR S 22 1 = some d := d1
  have d3 : 22 < sN S := d3
  have d5 : d ≠ 22 := d5
  have n4 : 4 < sN S := (hT.1.t1 4 (by rw [t4]; decide)).1
  have d4n : 4 ≠ d := d6 4 (by rw [t4]; decide) (by rw [t4]; decide) (by rw [t4]; decide)
  have lt : ∀ {k τ : Nat}, T k = τ → τ ≠ 0 → k < sN S := fun hk h0 => (hT.1.t1 _ (by rw [hk]; exact h0)).1
  refine l_of (st_gRe (v := some 22) (by rw [rS4]; exact k4.1 12 22 rfl)) (l_of st_nO ?_)
  have f5 : ∀ k, k < sN S → sI (nO S4 14) k = sI S4 k ∧ sR (nO S4 14) k = sR S k ∧ sL (nO S4 14) k = sL S k := fun k hk => by
    obtain ⟨a1, a2, a3⟩ := nO_f S4 14 (k := k) (by omega)
    exact ⟨a1, a2.trans (by rw [rS4]), a3.trans (by rw [lS4])⟩
  refine l_of (st_gIe (v := sI m 57 0) (by rw [(f5 4 n4).1, oS4 0 t4 (by decide)]; exact h.NW.1)) (l_pd p_grI (fun S6 eS6 => ?_))
  have eS6 : S6 = _ := eS6
  have N6 : sN S6 = sN S + 1 := by
    rw [eS6]
    show sN S4 + 1 = _
    rw [NS4]
  rw [NS4] at eS6 ⊢
  have z4 : sI (nO S4 14) (sN S) = (fun _ => 0) := by
    have := (nO_0 S4 14).1
    rw [NS4] at this
    exact this
  have f6 : ∀ k, k < sN S → (∀ j, sI S6 k j = sI S4 k j) ∧ (∀ j, sR S6 k j = sR S k j) ∧ sL S6 k = sL S k := fun k hk => by
    obtain ⟨a1, a2, a3⟩ := f5 k hk
    rw [eS6]
    refine ⟨fun j => ?_, fun j => ?_, a3⟩
    · rw [ti_sI_ne (by omega), ti_sI_ne (by omega), ti_sI_ne (by omega), ti_sI_ne (by omega)]
      show sI (wI (wI (nO S4 14) (sN S) 5 (-1)) (sN S) 9 (-1)) k j = _
      rw [ti_sI_ne (by omega), ti_sI_ne (by omega), a1]
    · rw [sR_wI, sR_wI, sR_wI, sR_wI, ti_sR_ne (by omega), sR_wI, sR_wI, a2]
  have zz : ∀ j, j ≠ 1 → j ≠ 2 → j ≠ 3 → j ≠ 4 → sI S6 (sN S) j = sI (wI (wI (nO S4 14) (sN S) 5 (-1)) (sN S) 9 (-1)) (sN S) j := fun j q1 q2 q3 q4 => by
    rw [eS6, ti_sI_ne (by omega), ti_sI_ne (by omega), ti_sI_ne (by omega), ti_sI_ne (by omega)]
    rfl
  have g6 : (sI S6 (sN S) 1 = Int32.ofNat c ∧ sI S6 (sN S) 2 = Int32.ofNat v ∧ sI S6 (sN S) 3 = sc ∧ sI S6 (sN S) 4 = sI m 57 0 ∧ sI S6 (sN S) 5 = -1) ∧ (sI S6 (sN S) 6 = 0 ∧ sI S6 (sN S) 7 = 0 ∧ sI S6 (sN S) 10 = 0 ∧ sI S6 (sN S) 11 = 0) ∧ sR S6 (sN S) 0 = some (lel S 19 s) := by
    refine ⟨⟨?_, ?_, ?_, ?_, ?_⟩, ⟨?_, ?_, ?_, ?_⟩, ?_⟩
    · rw [eS6, ti_sI_ne (by omega), ti_sI_ne (by omega), ti_sI_ne (by omega), ti_sI_eq]
    · rw [eS6, ti_sI_ne (by omega), ti_sI_ne (by omega), ti_sI_eq]
    · rw [eS6, ti_sI_ne (by omega), ti_sI_eq]
    · rw [eS6, ti_sI_eq]
    · rw [zz 5 (by omega) (by omega) (by omega) (by omega), ti_sI_ne (by omega), ti_sI_eq]
    · rw [zz 6 (by omega) (by omega) (by omega) (by omega), ti_sI_ne (by omega), ti_sI_ne (by omega), z4]
    · rw [zz 7 (by omega) (by omega) (by omega) (by omega), ti_sI_ne (by omega), ti_sI_ne (by omega), z4]
    · rw [zz 10 (by omega) (by omega) (by omega) (by omega), ti_sI_ne (by omega), ti_sI_ne (by omega), z4]
    · rw [zz 11 (by omega) (by omega) (by omega) (by omega), ti_sI_ne (by omega), ti_sI_ne (by omega), z4]
    · rw [eS6, sR_wI, sR_wI, sR_wI, sR_wI, ti_sR_eq]
  refine l_of st_rv (l_p2 (p_add (S := S6) (l := 22) (d := d) (x := sN S) (n := nC m) (by rw [(f6 22 d3).2.1]; exact d1) (by rw [(f6 22 d3).1, oS4 2 t22 (by decide)]; exact s22) (by omega) (by rw [(f6 d d4).2.2]; exact d2) (by omega) (by omega) d5) (fun w S8 p => ?_))
  obtain ⟨p1, p2, p3, p4, p5⟩ := p
  have p2 : sI S8 22 2 = Int32.ofNat (nC m + 1) := p2
  have fI : ∀ k j, k < sN S → ¬ (k = 22 ∧ (j = 0 ∨ j = 2)) → sI S8 k j = sI S4 k j := fun k j hk q => (p1 k j (by omega) q).trans ((f6 k hk).1 j)
  have fR : ∀ k j, k < sN S → ¬ (k = 22 ∧ j = 1) → ¬ (k = d ∧ j = nC m) → sR S8 k j = sR S k j := fun k j hk q1 q2 => (p3 k j (by omega) q1 q2).trans ((f6 k hk).2.1 j)
  have r8 : sR S8 4 12 = some 22 := (fR 4 12 n4 (by omega) (by omega)).trans (k4.1 12 22 rfl)
  have elo : ∀ k, k < nC m → lel S8 22 k = lel S 22 k := fun k hk => by
    unfold lel
    rw [p4 k hk, (f6 d d4).2.1, d1]
    rfl
  have eln : lel S8 22 (nC m) = sN S := by
    unfold lel
    rw [p5]
    rfl
  refine l_of (st_gRe r8) (l_of st_rv (l_of st_size ?_))
  rw [p2, show Int32.ofNat (nC m + 1) - 1 = Int32.ofNat (nC m) by rw [← o1]; exact Int32.add_sub_cancel _ _]
  have on : (Int32.ofNat (nC m)).toNatClampNeg = nC m := oc (by omega)
  -- the reference writes its row
  refine m_of (st_gRe (hm6 40 93 rfl)) (m_of (st_gIe m39) (m_of (st_bIe on) ?_))
  refine m_of (st_gRe (v := some 94) (hm6 41 94 rfl)) (m_of (st_gIe (v := Int32.ofNat (nC m)) ((ti_sI_ne (by omega)).trans m39)) (m_of (st_bIe on) ?_))
  refine m_of (st_gRe (v := some 95) (hm6 42 95 rfl)) (m_of (st_gIe (v := Int32.ofNat (nC m)) ((ti_sI_ne (by omega)).trans ((ti_sI_ne (by omega)).trans m39))) (m_of (st_bIe on) ?_))
  refine m_of (st_gRe (v := some 96) (hm6 43 96 rfl)) (m_of (st_gIe (v := Int32.ofNat (nC m)) ((ti_sI_ne (by omega)).trans ((ti_sI_ne (by omega)).trans ((ti_sI_ne (by omega)).trans m39)))) (m_of (st_bIe on) ?_))
  refine m_of (st_gRe (v := some 97) (hm6 44 97 rfl)) (m_of (st_gIe (v := Int32.ofNat (nC m)) ((ti_sI_ne (by omega)).trans ((ti_sI_ne (by omega)).trans ((ti_sI_ne (by omega)).trans ((ti_sI_ne (by omega)).trans m39))))) (m_of (st_gIe (v := sI m 57 0) ((ti_sI_ne (by omega)).trans ((ti_sI_ne (by omega)).trans ((ti_sI_ne (by omega)).trans ((ti_sI_ne (by omega)).trans (om6 (by omega) (by omega))))))) (m_of (st_bIe on) ?_)))
  refine m_of (st_gRe (v := some 98) (hm6 45 98 rfl)) (m_of (st_gIe (v := Int32.ofNat (nC m)) ((ti_sI_ne (by omega)).trans ((ti_sI_ne (by omega)).trans ((ti_sI_ne (by omega)).trans ((ti_sI_ne (by omega)).trans ((ti_sI_ne (by omega)).trans m39)))))) (m_of (st_bIe on) ?_))
  refine m_of (st_gIe (v := Int32.ofNat (nC m)) ((ti_sI_ne (by omega)).trans ((ti_sI_ne (by omega)).trans ((ti_sI_ne (by omega)).trans ((ti_sI_ne (by omega)).trans ((ti_sI_ne (by omega)).trans ((ti_sI_ne (by omega)).trans m39))))))) (m_of st_pI (m_of (st_gIe (ti_sI_eq _ _ _ _)) ?_))
  rw [show Int32.ofNat (nC m) + 1 - 1 = Int32.ofNat (nC m) from Int32.add_sub_cancel _ _, o1]
  obtain ⟨M, eM⟩ : ∃ M, M = wI (wI (wI (wI (wI (wI (wI m6 93 (nC m) (Int32.ofNat s)) 94 (nC m) (Int32.ofNat c)) 95 (nC m) (Int32.ofNat v)) 96 (nC m) sc) 97 (nC m) (sI m 57 0)) 98 (nC m) (-1)) 57 39 (Int32.ofNat (nC m + 1)) := ⟨_, rfl⟩
  rw [← eM]
  have oM : ∀ {p j : Nat}, ¬ (p = 57 ∧ j = 39) → ¬ ((p = 93 ∨ p = 94 ∨ p = 95 ∨ p = 96 ∨ p = 97 ∨ p = 98) ∧ j = nC m) → sI M p j = sI m6 p j := fun q1 q2 => by
    rw [eM, ti_sI_ne (by omega), ti_sI_ne (by omega), ti_sI_ne (by omega), ti_sI_ne (by omega), ti_sI_ne (by omega), ti_sI_ne (by omega), ti_sI_ne (by omega)]
  have M39 : sI M 57 39 = Int32.ofNat (nC m + 1) := by rw [eM, ti_sI_eq]
  have M93 : sI M 93 (nC m) = Int32.ofNat s := by rw [eM, ti_sI_ne (by omega), ti_sI_ne (by omega), ti_sI_ne (by omega), ti_sI_ne (by omega), ti_sI_ne (by omega), ti_sI_ne (by omega), ti_sI_eq]
  have M94 : sI M 94 (nC m) = Int32.ofNat c := by rw [eM, ti_sI_ne (by omega), ti_sI_ne (by omega), ti_sI_ne (by omega), ti_sI_ne (by omega), ti_sI_ne (by omega), ti_sI_eq]
  have M95 : sI M 95 (nC m) = Int32.ofNat v := by rw [eM, ti_sI_ne (by omega), ti_sI_ne (by omega), ti_sI_ne (by omega), ti_sI_ne (by omega), ti_sI_eq]
  have M96 : sI M 96 (nC m) = sc := by rw [eM, ti_sI_ne (by omega), ti_sI_ne (by omega), ti_sI_ne (by omega), ti_sI_eq]
  have M97 : sI M 97 (nC m) = sI m 57 0 := by rw [eM, ti_sI_ne (by omega), ti_sI_ne (by omega), ti_sI_eq]
  have M98 : sI M 98 (nC m) = -1 := by rw [eM, ti_sI_ne (by omega), ti_sI_eq]
  have enC : nC M = nC m + 1 := by
    unfold nC at M39 ⊢
    rw [M39]
    exact nn_o (by unfold nC at n59; omega)
  have enS : nS M = nS m := by
    unfold nS
    rw [oM (by omega) (by omega), om6 (by omega) (by omega)]
  have enF : nF M = nF m := by
    unfold nF
    rw [oM (by omega) (by omega), om6 (by omega) (by omega)]
  have enC6 : nC m6 = nC m := by
    unfold nC
    rw [om6 (by omega) (by omega)]
  have enS6 : nS m6 = nS m := by
    unfold nS
    rw [om6 (by omega) (by omega)]
  have enF6 : nF m6 = nF m := by
    unfold nF
    rw [om6 (by omega) (by omega)]
  have el4 : ∀ l k, lel S4 l k = lel S l k := fun l k => by
    unfold lel
    rw [rS4]
  have lelS : ∀ q, q < nS m → lel S8 19 q = lel S 19 q := fun q hq => lel_othG hT.1 (q := 2) (q0 := 3) (by decide) (by decide) (by decide) d6 fR (SZ_lt (zS b) (by decide) hq)
  have lelF : ∀ q, q < nF m → lel S8 23 q = lel S 23 q := fun q hq => lel_othG hT.1 (q := 4) (q0 := 3) (by decide) (by decide) (by decide) d6 fR (SZ_lt (zF b) (by decide) hq)
  have oI : ∀ {k τ : Nat} (j : Nat), T k = τ → τ ≠ 0 → τ ≠ 23 → sI S8 k j = sI S4 k j := fun j hk h0 h1 => fI _ j (lt hk h0) (fun q => h1 (by rw [← hk, q.1, t22]))
  have gN : ∀ j, sI S8 (sN S) j = sI S6 (sN S) j := fun j => p1 (sN S) j (by omega) (by omega)
  have gR' : sR S8 (sN S) 0 = some (lel S 19 s) := (p3 (sN S) 0 (by omega) (by omega) (by omega)).trans g6.2.2
  have tc : ∀ k, k < nC m → T (lel S 22 k) = 44 := fun k hk => tyC b hk
  obtain ⟨pU, ⟨pC0, pC⟩, pFr, ⟨pF0, pF⟩⟩ := pu
  refine h2_ret ⟨AN_v ((oM (by omega) (by omega)).trans m82), fun q hq => ?_, ⟨⟨?_, ?_, ?_⟩, fun k hk => ?_⟩, fun k hk h98 => ?_, ⟨⟨?_, ?_, ?_⟩, fun f hf => ?_⟩⟩
  · rw [enS] at hq
    rw [lelS q hq, oI 5 (tyS b hq) (by decide) (by decide), oM (by omega) (by omega)]
    have := pU q (by rw [enS6]; exact hq)
    rw [el4] at this
    exact this
  · show nn (sI M 57 39) ≤ 60
    rw [M39, nn_o (by omega)]
    omega
  · show sI M 57 39 = Int32.ofNat (nn (sI M 57 39))
    rw [M39, nn_o (by omega)]
  · rw [M39]
    exact p2
  · rw [enC] at hk
    rw [enC, enS, enF]
    by_cases q : k = nC m
    · subst q
      rw [eln]
      refine ⟨fun x hx e => ?_, ⟨s, s1, by rw [lelS s s1]; exact gR', M93⟩, ⟨c, c4, by rw [gN]; exact g6.1.1, M94⟩, ⟨v, v4, by rw [gN]; exact g6.1.2.1, M95⟩, ?_, ?_, ?_, Or.inl M98⟩
      · by_cases z : x = nC m
        · exact z
        · rw [elo x (by omega)] at e
          have := lt (tc x (by omega)) (by decide)
          omega
      · rw [gN, g6.1.2.2.1, M96]
      · rw [gN, g6.1.2.2.2.1, M97]
      · rw [gN, g6.1.2.2.2.2, M98]
    · have hk : k < nC m := by omega
      have tk := tc k hk
      have ltk := lt tk (by decide)
      obtain ⟨w1, ⟨s', w2, w3, w4⟩, ⟨x, x1, x2, x3⟩, ⟨y, y1, y2, y3⟩, w5, w6, w7, w8⟩ := pC k (by rw [enC6]; exact hk)
      rw [el4] at w3 x2 y2 w5 w6 w7
      rw [enS6] at w2
      rw [enF6] at w8
      have mo : ∀ q, (q = 93 ∨ q = 94 ∨ q = 95 ∨ q = 96 ∨ q = 97 ∨ q = 98) → sI M q k = sI m6 q k := fun q hq => oM (by omega) (by omega)
      rw [elo k hk, mo 93 (by omega), mo 94 (by omega), mo 95 (by omega), mo 96 (by omega), mo 97 (by omega), mo 98 (by omega), oI 1 tk (by decide) (by decide), oI 2 tk (by decide) (by decide), oI 3 tk (by decide) (by decide), oI 4 tk (by decide) (by decide), oI 5 tk (by decide) (by decide)]
      refine ⟨fun z hz e => ?_, ⟨s', w2, ?_, w4⟩, ⟨x, x1, x2, x3⟩, ⟨y, y1, y2, y3⟩, w5, w6, w7, w8⟩
      · by_cases q2 : z = nC m
        · rw [q2, eln] at e
          omega
        · rw [elo z (by omega)] at e
          exact w1 z (by rw [enC6]; omega) (by rw [el4, el4]; exact e)
      · have dk := d6 _ (by rw [tk]; decide) (by rw [tk]; decide) (by rw [tk]; decide)
        rw [fR _ 0 ltk (by omega) (by omega), lelS s' w2]
        rw [rS4, el4] at w3
        exact w3
  · rw [enC] at hk
    by_cases q : k = nC m
    · subst q
      rw [eln, gN, gN, gN, gN]
      exact g6.2.1
    · have hk : k < nC m := by omega
      have tk := tc k hk
      rw [elo k hk, oI 6 tk (by decide) (by decide), oI 7 tk (by decide) (by decide), oI 10 tk (by decide) (by decide), oI 11 tk (by decide) (by decide)]
      rw [oM (by omega) (by omega)] at h98
      have := pFr k (by rw [enC6]; exact hk) h98
      rw [el4] at this
      exact this
  · rw [oM (by omega) (by omega)]
    exact pF0.1
  · rw [oM (by omega) (by omega)]
    exact pF0.2.1
  · rw [oM (by omega) (by omega), oI 2 (show T 23 = 24 from (hT.1.t6 4 (by decide)).1) (by decide) (by decide)]
    exact pF0.2.2
  · rw [enF] at hf
    obtain ⟨x, x1, x2, x3, x4, x5⟩ := pF f (by rw [enF6]; exact hf)
    rw [enC6] at x1 x5
    rw [el4, el4] at x2
    refine ⟨x, by rw [enC]; omega, ?_, (oM (by omega) (by omega)).trans x3, (oM (by omega) (by omega)).trans x4, fun y hy e => ?_⟩
    · rw [lelF f hf, elo x x1]
      exact x2
    · rw [enC] at hy
      by_cases z : y = nC m
      · rw [z, M98] at e
        have nF60 : nF m ≤ 60 := (zF b).1
        exact absurd e (ofNat_ne (by omega))
      · exact x5 y (by omega) ((oM (by omega) (by omega)).symm.trans e)
end
