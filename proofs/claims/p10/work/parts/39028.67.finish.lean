/-! ===== finish ===== -/
section
variable {T Tm : Nat → Nat} {S m : AS}
theorem P_end_mk {T : Nat → Nat} {S0 m0 S1 m1 S' m' : AS} {d n nf : Nat} (he : EE d T S0 m0 n nf S1 m1) (r : sR S' = sR S0) (n1 : nS m' = n) (n2 : nF m' = nf) (o1 : ∀ s, s < n → sI S' (lel S0 19 s) 6 = sI S1 (lel S0 19 s) 6) (o2 : sI S' 4 9 = sI S1 4 9) (o3 : ∀ f, f < nf → sI S' (lel S0 23 f) 6 = sI S1 (lel S0 23 f) 6 ∧ sI S' (lel S0 23 f) 11 = sI S1 (lel S0 23 f) 11)
    (q : ∀ p j, (p = 89 ∨ p = 103 ∨ p = 116) → sI m' p j = sI m1 p j) (ha : AU 0 (sI m1 89) n S' m') : P_end S' m' := by
  obtain ⟨-, -, h3, h4, h5, -, h7⟩ := he
  have el : ∀ l i, lel S' l i = lel S0 l i := fun l i => by
    unfold lel
    rw [r]
  have e89 : sI m' 89 = sI m1 89 := funext fun j => q 89 j (by omega)
  refine ⟨⟨fun s hs => ?_, ?_⟩, ⟨fun x x1 x2 v hv => ?_, fun f hf => ?_⟩, ?_⟩
  · rw [n1] at hs
    rw [el, o1 s hs, e89]
    exact h3 s hs
  · rw [o2, e89, n1]
    exact h4
  · rw [n2] at x1
    rw [q 116 _ (by omega)]
    exact h7 x x1 x2 v hv
  · rw [n2] at hf
    obtain ⟨a1, a2⟩ := o3 f hf
    obtain ⟨b1, b2, b3⟩ := h5 f hf
    rw [el, a1, a2, q 103 f (by omega)]
    exact ⟨b1, fun v hv => by rw [q 116 _ (by omega)]; exact b2 v hv, fun z v hv => by rw [q 116 _ (by omega)]; exact b3 z v hv⟩
  · unfold cAU
    rw [e89, n1]
    exact ha
/-- the level of what a person has -/
def lvG (m : AS) (i : Nat) (f : Nat) : Int32 := if sI m 58 (3 * i + f) = 0 then 0 else Int32.ofNat (f + 1)
theorem p_lvE_L (hp : PF S) (hw : cWgt S m) (hf : cFac S m) {i : Nat} (i6 : i < 6) : ∀ (k j fu : Nat) (a : Int32), j + k = 3 → Hp (f_Person_levelOfEnrolled_L4 fu S (some (29 + 4 * i)) a (Int32.ofNat j)) (fun q => q = (sW (lvG m i) k j a, S))
  | _, _, 0, _, _ => p_0
  | 0, j, fu + 1, a, hk => by
    unfold f_Person_levelOfEnrolled_L4 f_Person_levelOfEnrolled_C4
    have e : j = 3 := by omega
    subst e
    exact p_of (st_T (by decide)) (p_ret rfl)
  | k + 1, j, fu + 1, a, hk => by
    unfold f_Person_levelOfEnrolled_L4 f_Person_levelOfEnrolled_C4 f_Person_levelOfEnrolled_B25
    have e := ((hf i i6).1 j (by omega)).1
    refine p_of (st_F (fun q => by have := (ole (a := 3) (b := j) (by decide) (by omega)).mp q; omega)) (p_of (st_gRe (hp.1 i i6).2.1) (p_of (st_aIe (oc (by omega)) e) ?_))
    have r := p_lvE_L hp hw hf i6 k (j + 1) fu (a + lvG m i j) (by omega)
    by_cases c : sI m 58 (3 * i + j) = 0
    · refine p_of (st_T c) (p_of st_val ?_)
      rw [o1]
      rw [show lvG m i j = 0 from if_pos c, Int32.add_zero] at r
      refine p_mono r (fun q z => ?_)
      rw [z]
      show _ = (sW (lvG m i) k (j + 1) (a + lvG m i j), S)
      rw [show lvG m i j = 0 from if_pos c, Int32.add_zero]
    · refine p_of (st_F c) (p_b2 (p_wgt hw (by omega)) (fun v S' z => ?_))
      cases z
      refine p_of st_val (p_of st_val ?_)
      rw [o1]
      rw [show lvG m i j = Int32.ofNat (j + 1) from if_neg c] at r
      refine p_mono r (fun q z => ?_)
      rw [z]
      show _ = (sW (lvG m i) k (j + 1) (a + lvG m i j), S)
      rw [show lvG m i j = Int32.ofNat (j + 1) from if_neg c]
theorem h_fin60_L {α : Type} {x : Option α} {Q : α → Int32 × AS → Prop} (hmf : MF m) {r i : Nat} (r20 : r < 20) (i6 : i < 6) (e117 : sI m 117 r = Int32.ofNat i) {x3 : Int32} {A : Int32} (H : H2 x (f_M_finish_B109 m (some 57) (Int32.ofNat r) 1 x3 A) Q) : ∀ (k j fu : Nat) (a : Int32), j + k = 3 → A = sW (lvG m i) k j a → H2 x (f_M_finish_L60 fu m (some 57) (Int32.ofNat r) 1 x3 a (Int32.ofNat j)) Q
  | _, _, 0, _, _, _ => h2_m0
  | 0, j, fu + 1, a, hk, hA => by
    unfold f_M_finish_L60 f_M_finish_C60
    have e : j = 3 := by omega
    subst e
    refine m_of (st_T (by decide)) ?_
    rw [hA] at H
    exact H
  | k + 1, j, fu + 1, a, hk, hA => by
    unfold f_M_finish_L60 f_M_finish_C60 f_M_finish_B100
    refine m_of (st_F (fun q => by have := (ole (a := 3) (b := j) (by decide) (by omega)).mp q; omega)) (m_of (st_F one0) ?_)
    refine m_of (st_gRe (hmf 1 58 rfl)) (m_of (st_gRe (hmf 71 117 rfl)) (m_of (st_aIe (v := Int32.ofNat i) (oc (by omega)) e117) (m_of (st_aIe (v := sI m 58 (3 * i + j)) (ix3 i (by omega) j (by omega)) rfl) ?_)))
    have hA : A = sW (lvG m i) k (j + 1) (a + lvG m i j) := hA
    by_cases c : sI m 58 (3 * i + j) = 0
    · refine m_of (st_T c) (m_of st_val (m_of st_val ?_))
      rw [o1]
      rw [show lvG m i j = 0 from if_pos c] at hA
      exact h_fin60_L hmf r20 i6 e117 H k (j + 1) fu (a + 0) (by omega) hA
    · refine m_of (st_F c) (m_of (st_b2 (v := Int32.ofNat j + 1) (S' := m) rfl) (m_of st_val (m_of st_val ?_)))
      rw [o1]
      rw [show lvG m i j = Int32.ofNat (j + 1) from if_neg c] at hA
      exact h_fin60_L hmf r20 i6 e117 H k (j + 1) fu (a + Int32.ofNat (j + 1)) (by omega) hA
/-- factors are lost -/
theorem p_lose_L {i : Nat} (r : sR S (29 + 4 * i) 1 = some (30 + 4 * i)) : ∀ (k j fu : Nat) (S1 : AS), j + k = 3 → sR S1 = sR S → sL S1 = sL S → (∀ p c, ¬ (p = 30 + 4 * i ∧ c < 3) → sI S1 p c = sI S p c) → (∀ c, c < j → sI S1 (30 + 4 * i) c = 0) → Hp (f_Person_loseFactors_L2 fu S1 (some (29 + 4 * i)) (Int32.ofNat j)) (fun S2 => sR S2 = sR S ∧ sL S2 = sL S ∧ (∀ p c, ¬ (p = 30 + 4 * i ∧ c < 3) → sI S2 p c = sI S p c) ∧ (∀ c, c < 3 → sI S2 (30 + 4 * i) c = 0))
  | _, _, 0, _, _, _, _, _, _ => p_0
  | 0, j, fu + 1, S1, hk, r1, r2, r3, r4 => by
    unfold f_Person_loseFactors_L2 f_Person_loseFactors_C2
    have e : j = 3 := by omega
    subst e
    exact p_of (st_T (by decide)) (p_ret ⟨r1, r2, r3, r4⟩)
  | k + 1, j, fu + 1, S1, hk, r1, r2, r3, r4 => by
    unfold f_Person_loseFactors_L2 f_Person_loseFactors_C2
    refine p_of (st_F (fun q => by have := (ole (a := 3) (b := j) (by decide) (by omega)).mp q; omega)) (p_of (st_gRe (v := some (30 + 4 * i)) (by rw [r1]; exact r)) (p_of (st_bIe (oc (by omega))) (p_of st_val ?_)))
    rw [o1]
    refine p_lose_L r k (j + 1) fu _ (by omega) r1 r2 (fun p c z => ?_) (fun c hc => ?_)
    · rw [ti_sI_ne (by omega)]
      exact r3 p c z
    · by_cases z : c = j
      · subst z
        rw [ti_sI_eq]
      · rw [ti_sI_ne (by omega)]
        exact r4 c (by omega)
theorem h_loseM_L {α : Type} {x : Option α} {Q : α → Int32 × AS → Prop} {i : Nat} (i6 : i < 6) (hmf : MF m) {a c0 : Int32} (H : ∀ fu M, sR M = sR m → sL M = sL m → (∀ p c, ¬ (p = 58 ∧ 3 * i ≤ c ∧ c < 3 * i + 3) → sI M p c = sI m p c) → (∀ c, c < 3 → sI M 58 (3 * i + c) = 0) → H2 x (f_M_finish_L165 (fu + 1) M (some 57) a (Int32.ofNat i) c0 (Int32.ofNat 3)) Q) :
    ∀ (k j fu : Nat) (M : AS), j + k = 3 → sR M = sR m → sL M = sL m → (∀ p c, ¬ (p = 58 ∧ 3 * i ≤ c ∧ c < 3 * i + 3) → sI M p c = sI m p c) → (∀ c, c < j → sI M 58 (3 * i + c) = 0) → H2 x (f_M_finish_L165 fu M (some 57) a (Int32.ofNat i) c0 (Int32.ofNat j)) Q
  | _, _, 0, _, _, _, _, _, _ => h2_m0
  | 0, j, fu + 1, M, hk, r1, r2, r3, r4 => by
    have e : j = 3 := by omega
    subst e
    exact H fu M r1 r2 r3 r4
  | k + 1, j, fu + 1, M, hk, r1, r2, r3, r4 => by
    unfold f_M_finish_L165 f_M_finish_C165
    refine m_of (st_F (fun q => by have := (ole (a := 3) (b := j) (by decide) (by omega)).mp q; omega)) (m_of (st_gRe (v := some 58) (MF_e hmf r1 1 58 rfl)) (m_of (st_bIe (ix3 i (by omega) j (by omega))) (m_of st_val ?_)))
    rw [o1]
    refine h_loseM_L i6 hmf H k (j + 1) fu _ (by omega) r1 r2 (fun p c z => ?_) (fun c hc => ?_)
    · rw [ti_sI_ne (by omega)]
      exact r3 p c z
    · by_cases z : c = j
      · subst z
        rw [ti_sI_eq]
      · rw [ti_sI_ne (by omega)]
        exact r4 c (by omega)
def P_fin (S m : AS) : Prop := cFac S m ∧ cRec S m ∧ P_end S m
theorem FR_fin (h : FR S m) : P_fin S m := ⟨h.Fac, h.Rec, FR_end h⟩
theorem fin_go (hT : TV T S) (hm : TI Tm m) (h : FR S m) {r : Nat} (r1 : r < nR m) : H2 (f_K_finish_B70 S (some 4) (Int32.ofNat r) (some (lel S 27 r)) 1) (f_M_finish_B131 m (some 57) (Int32.ofNat r) (some 57) 1 1) (fun x y => AN [eX, eS] x.1 y.1 (sI y.2 57 82) ∧ P_fin x.2 y.2) := by
  have b := FR_BB hT hm h
  have hmf0 := MF_of (TI_t hm 0)
  have k4 := K4F_of hT.1
  have z20 := h.Rec.1.1
  have r20 : r < 20 := by
    unfold nR at r1
    omega
  have n60 : nS m ≤ 60 := h.Ses.1.1
  obtain ⟨-, ⟨i, i6, g1, g2⟩, -⟩ := h.Rec.2.2 r r1
  have tr := tyR b r1
  obtain ⟨t4, t5, t6, t7, -⟩ := kt4 hT.1
  obtain ⟨t29, t30, t31, -⟩ := kt_P hT.1 h.PF i6
  have nX : ∀ {k τ : Nat}, T k = τ → τ ≠ 46 → k ≠ lel S 27 r := fun hk ht q => by
    rw [q, tr] at hk
    exact ht hk.symm
  have x4 := nX t4 (by decide)
  have x5 := nX t5 (by decide)
  have x6 := nX t6 (by decide)
  unfold f_K_finish_B70 f_M_finish_B131
  refine l_of (st_bx (rS1 S)) (l_of st_pZ (l_of (st_gRe (v := some 5) (k4.1 1 5 rfl)) (l_of (st_gIe (v := sI m 57 0) ((ti_sI_ne (by omega)).trans h.NW.1)) (l_of st_rv ?_))))
  refine m_of st_rv (m_p2 p_mayB (fun v m' e => ?_))
  cases e
  refine m_of (st_F one0) (m_of (st_gRe (hmf0 71 117 rfl)) (m_of (st_aIe (v := Int32.ofNat i) (oc (by omega)) ((lv0 m (by omega) 0).trans g2)) (m_of (st_gRe (hmf0 73 119 rfl)) (m_of (st_bZe (oc (by omega))) (m_of st_rv ?_)))))
  obtain ⟨S3, e3⟩ : ∃ S3, S3 = wI S (lel S 27 r) 2 0 := ⟨_, rfl⟩
  obtain ⟨m2, em⟩ : ∃ m2, m2 = wI (wI m 57 82 0) 119 r 0 := ⟨_, rfl⟩
  rw [← e3, ← em]
  have o3 : ∀ {p j : Nat}, ¬ (p = lel S 27 r ∧ j = 2) → sI S3 p j = sI S p j := fun q => by
    rw [e3]
    exact ti_sI_ne q
  have s3 : sI S3 (lel S 27 r) 2 = 0 := by rw [e3, ti_sI_eq]
  have rS3 : sR S3 = sR S := by rw [e3, sR_wI]
  have lS3 : sL S3 = sL S := by rw [e3]; rfl
  have om : ∀ {p j : Nat}, ¬ (p = 57 ∧ j = 82) → ¬ (p = 119 ∧ j = r) → sI m2 p j = sI m p j := fun q1 q2 => by
    rw [em]
    exact (ti_sI_ne q2).trans (ti_sI_ne q1)
  have m82 : sI m2 57 82 = 0 := by rw [em, ti_sI_ne (by omega), ti_sI_eq]
  have m119 : sI m2 119 r = 0 := by rw [em, ti_sI_eq]
  have rm : sR m2 = sR m := by rw [em, sR_wI, sR_wI]
  have lm : sL m2 = sL m := by rw [em]; rfl
  refine l_pd (p_aw (S := S3) (k := Int32.ofNat 6) (nu := Int32.ofNat r) (by rw [rS3]; exact k4.2.1) (by rw [rS3]; exact k4.2.2.1)) (fun S7 a => ?_)
  have a' := a.1.2.2
  have rS7 : sR S7 = sR S := a.1.1.trans rS3
  have lS7 : sL S7 = sL S := a.1.2.1.trans lS3
  have o7 : ∀ {p j : Nat}, p ≠ 5 → p ≠ 6 → p ≠ 7 → ¬ (p = lel S 27 r ∧ j = 2) → sI S7 p j = sI S p j := fun q1 q2 q3 q => (a' _ _ q1 q2 q3).trans (o3 q)
  have ax : ∀ {k τ : Nat}, T k = τ → τ ≠ 2 → τ ≠ 3 → τ ≠ 4 → k ≠ 5 ∧ k ≠ 6 ∧ k ≠ 7 := fun hk h2 h3 h4 => by
    refine ⟨fun z => ?_, fun z => ?_, fun z => ?_⟩ <;> rw [z] at hk
    · exact h2 (hk.symm.trans t5)
    · exact h3 (hk.symm.trans t6)
    · exact h4 (hk.symm.trans t7)
  have oT : ∀ {k τ : Nat} (j : Nat), T k = τ → τ ≠ 2 → τ ≠ 3 → τ ≠ 4 → τ ≠ 46 → sI S7 k j = sI S k j := fun j hk h2 h3 h4 h5 => by
    obtain ⟨y1, y2, y3⟩ := ax hk h2 h3 h4
    have := nX hk h5
    exact o7 y1 y2 y3 (by omega)
  have tF : ∀ f, f < nF m → T (lel S 23 f) = 44 := fun f hf => tyF b hf
  have tS : ∀ s, s < nS m → T (lel S 19 s) = 43 := fun s hs => tyS b hs
  have a3 : AU 0 (sI m 89) (nS m) S3 m2 := AU_cong h.AU (o3 (by omega)) (funext fun j => o3 (by omega)) (om (by omega) (by omega)) (funext fun j => om (by omega) (by omega)) (funext fun j => om (by omega) (by omega)) rfl
  have st : ST T S7 m2 (nS m) (nF m) (nT m) := ST_cong (ST_of hT hm h) rS7 lS7 (fun k j q1 q2 q3 => by
    rcases q1 with q1 | q1 | q1 | q1 | q1
    · exact oT j q1 (by decide) (by decide) (by decide) (by decide)
    · exact oT j q1 (by decide) (by decide) (by decide) (by decide)
    · exact oT j q1 (by decide) (by decide) (by decide) (by decide)
    · exact oT j q1 (by decide) (by decide) (by decide) (by decide)
    · exact oT j q1 (by decide) (by decide) (by decide) (by decide)) rm lm (fun p j q => om (by omega) (by omega))
  have he : EE 1 T S7 m2 (nS m) (nF m) S7 m2 := EE_mk h rS7 (fun s hs => oT 6 (tS s hs) (by decide) (by decide) (by decide) (by decide)) (oT 9 t4 (by decide) (by decide) (by decide) (by decide)) (fun f hf => ⟨oT 6 (tF f hf) (by decide) (by decide) (by decide) (by decide), oT 11 (tF f hf) (by decide) (by decide) (by decide) (by decide)⟩) (fun p j q => om (by omega) (by omega))
    (AU_k a3 (by omega) a)
  refine l_of (st_gRe (v := some (29 + 4 * i)) (by rw [rS7]; exact g1)) (l_of st_rv ?_)
  refine h2_x2 (h_eA st he i6) (fun v S10 u m3 p => ?_) (fun v S10 u m3 p => ?_)
  · obtain ⟨S', c', m', q1, q2, he'⟩ := p
    cases q1
    cases q2
    have rS10 : sR S10 = sR S := he'.1.1.trans rS7
    have lS10 : sL S10 = sL S := he'.1.2.1.trans lS7
    have rm3 : sR m3 = sR m := he'.2.1.1.trans rm
    have k10 : ∀ {k τ : Nat} (j : Nat), T k = τ → τ ≠ 0 → KW τ j = false → sI S10 k j = sI S7 k j := fun j hk h0 hw => KE_ty he'.1 hk h0 hw
    have m10 : ∀ {p j : Nat}, MW p j = false → sI m3 p j = sI m2 p j := fun q => he'.2.1.2.2 _ _ q
    have pf10 : PF S10 := by
      unfold PF
      rw [rS10]
      refine ⟨fun j hj => ⟨(h.PF.1 j hj).1, (h.PF.1 j hj).2.1, (h.PF.1 j hj).2.2.1, (h.PF.1 j hj).2.2.2.1, ?_⟩, h.PF.2⟩
      obtain ⟨tj, -⟩ := kt_P hT.1 h.PF hj
      rw [k10 0 tj (by decide) (by rfl), oT 0 tj (by decide) (by decide) (by decide) (by decide)]
      exact (h.PF.1 j hj).2.2.2.2
    unfold f_Person_loseFactors
    refine l_of (st_gRe (v := some (29 + 4 * i)) (by rw [rS10]; exact g1)) (l_of st_rv (l_pd (p_lose_L (S := S10) (i := i) (pf10.1 i i6).2.1 3 0 kr_FU S10 rfl rfl rfl (fun _ _ _ => rfl) (fun c hc => absurd hc (Nat.not_lt_zero _))) (fun S14 p => ?_)))
    obtain ⟨b1, b2, b3, b4⟩ := p
    refine l_of (st_gRe (v := some (29 + 4 * i)) (by rw [b1, rS10]; exact g1)) (l_of st_rv ?_)
    refine h_loseM_L i6 (MF_e (MF_of hm) rm3) (fun fu M c1 c2 c3 c4 => ?_) 3 0 kr_FU m3 rfl rfl rfl (fun _ _ _ => rfl) (fun c hc => absurd hc (Nat.not_lt_zero _))
    unfold f_M_finish_L165 f_M_finish_C165
    refine m_of (st_T (by decide)) (m_of st_rv ?_)
    have pf14 : PF S14 := by
      unfold PF
      rw [b1]
      refine ⟨fun j hj => ⟨(pf10.1 j hj).1, (pf10.1 j hj).2.1, (pf10.1 j hj).2.2.1, (pf10.1 j hj).2.2.2.1, ?_⟩, pf10.2⟩
      rw [b3 _ _ (by omega)]
      exact (pf10.1 j hj).2.2.2.2
    refine h2_dd (h_ready pf14 (m := M) (MF_e (MF_of hm) (c1.trans rm3)) i6 (g := 0) (by decide)) (fun S17 M4 rd => ?_)
    have rdd := rd
    obtain ⟨⟨d1, d2, d3, d4⟩, ⟨d5, d6, d7, d8⟩, ⟨d9, d10, d11, d12⟩⟩ := rdd
    refine m_of st_rv (m_pd (p_mw (m := M4) (k := Int32.ofNat 6) (nu := Int32.ofNat r) (MF_e (MF_of hm) (d3.trans (c1.trans rm3)))) (fun m6 bb => ?_))
    have b' := bb.1.2.2
    -- the whole way of the other cells
    have oS : ∀ {k τ : Nat} (j : Nat), T k = τ → τ ≠ 14 → τ ≠ 15 → sI S17 k j = sI S10 k j := fun {k τ} j hk h14 h15 => by
      have y1 : k ≠ 30 + 4 * i := fun z => by
        rw [z, t30] at hk
        exact h14 hk.symm
      have y2 : k ≠ 31 + 4 * i := fun z => by
        rw [z, t31] at hk
        exact h15 hk.symm
      rw [d8 _ _ (fun z => y1 z.1) (fun z => y2 z.1) (by omega), b3 _ _ (fun z => y1 z.1)]
    have oM : ∀ {p j : Nat}, p ≠ 58 → p ≠ 59 → p ≠ 123 → p ≠ 124 → p ≠ 125 → ¬ (p = 57 ∧ (j = 77 ∨ j = 81)) → sI m6 p j = sI m3 p j := fun y1 y2 y3 y4 y5 y6 => by
      rw [b' _ _ y3 y4 y5 y6, d12 _ _ (by omega) (by omega) (by omega), c3 _ _ (by omega)]
    have F14 : cFac S17 m6 := by
      have fS : ∀ j, j < 6 → ∀ c, sI S10 (30 + 4 * j) c = sI S (30 + 4 * j) c ∧ sI S10 (31 + 4 * j) c = sI S (31 + 4 * j) c ∧ sI S10 (29 + 4 * j) 3 = sI S (29 + 4 * j) 3 := fun j hj c => by
        obtain ⟨u1, u2, u3, -⟩ := kt_P hT.1 h.PF hj
        exact ⟨(k10 c u2 (by decide) (by rfl)).trans (oT c u2 (by decide) (by decide) (by decide) (by decide)), (k10 c u3 (by decide) (by rfl)).trans (oT c u3 (by decide) (by decide) (by decide) (by decide)), (k10 3 u1 (by decide) (by rfl)).trans (oT 3 u1 (by decide) (by decide) (by decide) (by decide))⟩
      have fM : ∀ q, sI m3 58 q = sI m 58 q ∧ sI m3 59 q = sI m 59 q ∧ sI m3 60 q = sI m 60 q := fun q => ⟨(m10 (by rfl)).trans (om (by omega) (by omega)), (m10 (by rfl)).trans (om (by omega) (by omega)), (m10 (by rfl)).trans (om (by omega) (by omega))⟩
      have f0 : cFac S14 M := fun j hj => by
        obtain ⟨h1, h2⟩ := h.Fac j hj
        refine ⟨fun c hc => ?_, ?_⟩
        · by_cases q : j = i
          · subst q
            rw [b4 c hc, c4 c hc, b3 _ _ (by omega), c3 _ _ (by omega), (fS j hj c).2.1, (fM _).2.1]
            exact ⟨rfl, (h1 c hc).2.1, fun z => absurd z (by decide)⟩
          · rw [b3 _ _ (by omega), c3 _ _ (by omega), b3 _ _ (by omega), c3 _ _ (by omega), (fS j hj c).1, (fS j hj c).2.1, (fM _).1, (fM _).2.1]
            exact h1 c hc
        · rw [b3 _ _ (by omega), c3 _ _ (by omega), (fS j hj 0).2.2, (fM _).2.2]
          exact h2
      exact fac_cong (cFac_ready f0 i6 (by decide) rd) (fun j c hj => ⟨rfl, rfl, rfl⟩) (fun q => ⟨b' _ _ (by omega) (by omega) (by omega) (by omega), b' _ _ (by omega) (by omega) (by omega) (by omega), b' _ _ (by omega) (by omega) (by omega) (by omega)⟩)
    have enS : nS m6 = nS m := by
      unfold nS
      rw [oM (by omega) (by omega) (by omega) (by omega) (by omega) (by omega), m10 (by rfl), om (by omega) (by omega)]
    have enF : nF m6 = nF m := by
      unfold nF
      rw [oM (by omega) (by omega) (by omega) (by omega) (by omega) (by omega), m10 (by rfl), om (by omega) (by omega)]
    have el7 : ∀ l k, lel S7 l k = lel S l k := fun l k => by
      unfold lel
      rw [rS7]
    have AUx : AU 1 (sI m3 89) (nS m) S17 M4 := AU_cong he'.2.2.2.2.2.1 (oS 2 t5 (by decide) (by decide)) (funext fun j => oS j t6 (by decide) (by decide)) ((d12 _ _ (by omega) (by omega) (by omega)).trans (c3 _ _ (by omega))) (funext fun j => (d12 _ _ (by omega) (by omega) (by omega)).trans (c3 _ _ (by omega))) (funext fun j => (d12 _ _ (by omega) (by omega) (by omega)).trans (c3 _ _ (by omega))) rfl
    have L123 : sL M4 123 = 1200 := by
      rw [d4, c2, he'.2.1.2.1, lm]
      exact (ST_of hT hm h).2.2.2.1.2.2.2.2.2.2.2.2
    have pe : P_end S17 m6 := P_end_mk he' (d1.trans (b1.trans he'.1.1)) enS enF (fun s hs => by rw [el7]; exact oS 6 (tS s hs) (by decide) (by decide)) (oS 9 t4 (by decide) (by decide)) (fun f hf => by rw [el7]; exact ⟨oS 6 (tF f hf) (by decide) (by decide), oS 11 (tF f hf) (by decide) (by decide)⟩) (fun p j q => oM (by omega) (by omega) (by omega) (by omega) (by omega) (by omega)) (AU_m AUx n60 L123 (by omega) bb)
    have rc : cRec S17 m6 := by
      obtain ⟨u1, u2, u3⟩ := h.Rec
      have wS : ∀ {k τ : Nat} (j : Nat), T k = τ → τ = 26 ∨ τ = 46 → ¬ (k = lel S 27 r ∧ j = 2) → sI S17 k j = sI S k j := fun j hk h2 hn => by
        obtain ⟨y1, y2, y3⟩ := ax hk (by omega) (by omega) (by omega)
        rw [oS j hk (by omega) (by omega), k10 j hk (by omega) (by rcases h2 with rfl | rfl <;> rfl), o7 y1 y2 y3 hn]
      have wM : ∀ {p j : Nat}, (p = 117 ∨ p = 118 ∨ p = 119 ∨ p = 120 ∨ p = 121 ∨ (p = 57 ∧ j = 70)) → ¬ (p = 119 ∧ j = r) → sI m6 p j = sI m p j := fun hp hn => by
        rw [oM (by omega) (by omega) (by omega) (by omega) (by omega) (by omega), m10 (by
          rcases hp with rfl | rfl | rfl | rfl | rfl | ⟨rfl, rfl⟩ <;> rfl), om (by omega) hn]
      have en : nR m6 = nR m := by
        unfold nR
        rw [wM (by omega) (by omega)]
      have el : ∀ k, lel S17 27 k = lel S 27 k := fun k => by
        unfold lel
        rw [d1, b1, rS10]
      have t27 : T 27 = 26 := (hT.1.t6 6 (by decide)).1
      have n27 := nX t27 (by decide)
      refine ⟨⟨?_, ?_, ?_⟩, fun k k1 k2 => ?_, fun k hk => ?_⟩
      · rw [wM (by omega) (by omega)]
        exact u1.1
      · rw [wM (by omega) (by omega)]
        exact u1.2.1
      · rw [wM (by omega) (by omega), wS 2 t27 (by omega) (by omega)]
        exact u1.2.2
      · rw [en] at k1
        rw [wM (by omega) (by omega), wM (by omega) (by omega)]
        exact u2 k k1 k2
      · rw [en] at hk
        obtain ⟨w1, w2, w3, w4, w5, w6, w7⟩ := u3 k hk
        have tk := tyR b hk
        rw [en, el, d1, b1, rS10]
        refine ⟨fun q hq e => w1 q hq (by rw [el] at e; exact e), ?_, ?_, ?_, ?_, ?_, ?_⟩
        · obtain ⟨x, x1, x2, x3⟩ := w2
          exact ⟨x, x1, x2, (wM (by omega) (by omega)).trans x3⟩
        · rw [wS 1 tk (by omega) (by omega), wM (by omega) (by omega)]
          exact w3
        · by_cases z : k = r
          · subst z
            rw [oS 2 tk (by decide) (by decide), k10 2 tk (by decide) (by rfl), a' _ _ (ax tk (by decide) (by decide) (by decide)).1 (ax tk (by decide) (by decide) (by decide)).2.1 (ax tk (by decide) (by decide) (by decide)).2.2, s3, oM (by omega) (by omega) (by omega) (by omega) (by omega) (by omega), m10 (by rfl), m119]
          · have : lel S 27 k ≠ lel S 27 r := fun q => z (((u3 r r1).1 k hk) q)
            rw [wS 2 tk (by omega) (by omega), wM (by omega) (by omega)]
            exact w4
        · rw [wS 3 tk (by omega) (by omega), wM (by omega) (by omega)]
          exact w5
        · rw [wM (by omega) (by omega)]
          exact w6
        · rw [wS 4 tk (by omega) (by omega), wM (by omega) (by omega)]
          exact w7
    refine h2_ret ⟨AN_v ?_, F14, rc, pe⟩
    show sI m6 57 82 = 0
    rw [oM (by omega) (by omega) (by omega) (by omega) (by omega) (by omega), m10 (by rfl), m82]
  · obtain ⟨S', c', m', q1, -⟩ := p
    cases q1
theorem h_finish (hT : TV T S) (hm : TI Tm m) (h : FR S m) (a : Int32) : H2 (f_K_finish S (some 4) a) (f_M_finish m (some 57) a) (fun x y => AN [eX, eS] x.1 y.1 (sI y.2 57 82) ∧ P_fin x.2 y.2) := by
  have b := FR_BB hT hm h
  have hmf := MF_of hm
  have no1 : H2 (some ((Sum.inr eX : Int32 ⊕ String), wX S)) (f_M_finish_L60 kr_FU m (some 57) a 0 0 0 0) (fun x y => AN [eX, eS] x.1 y.1 (sI y.2 57 82) ∧ P_fin x.2 y.2) := by
    show H2 _ (f_M_finish_C60 (f_M_finish_L60 1999) m (some 57) a 0 0 0 0) _
    unfold f_M_finish_C60 f_M_finish_B109 f_M_finish_B130 f_M_finish_B131
    refine m_of (st_F (by decide)) (m_of (st_T rfl) (m_of (st_T rfl) (m_of st_rv (m_p2 p_mayB (fun v m' p => ?_)))))
    cases p
    exact m_of (st_T rfl) (h2_ret ⟨AN_e 0 rfl (ti_sI_eq _ _ _ _), FR_fin (FR_X hT (TI_t hm 1) (FR_t hT hm h 1))⟩)
  have no2 : H2 (some ((Sum.inr eS : Int32 ⊕ String), wX S)) (f_M_finish_B130 m (some 57) a (some 57) 1) (fun x y => AN [eX, eS] x.1 y.1 (sI y.2 57 82) ∧ P_fin x.2 y.2) := by
    unfold f_M_finish_B130 f_M_finish_B131
    refine m_of st_rv (m_p2 p_mayB (fun v m' p => ?_))
    cases p
    exact m_of (st_T rfl) (h2_ret ⟨AN_e 1 rfl (ti_sI_eq _ _ _ _), FR_fin (FR_X hT (TI_t hm 2) (FR_t hT hm h 2))⟩)
  unfold f_K_finish f_M_finish f_M_finish_B52 f_M_finish_B53
  refine l_of st_rv (m_of st_rv (m_p2 (x_MR b a) (fun v S2 p => ?_)))
  refine l_bx (fun v' S' e => ?_) (fun v' S' e => ?_)
  · rcases x_fR b a _ e with ⟨r, r1, ea, e2⟩ | ⟨no, e2⟩
    · cases e2
      rcases p with ⟨-, p2⟩ | ⟨p1, -⟩
      · cases p2
        have z20 := h.Rec.1.1
        have r20 : r < 20 := by
          unfold nR at r1
          omega
        have ai : a.toNatClampNeg = r := by rw [ea]; exact oc (by omega)
        obtain ⟨-, ⟨i, i6, g1, g2⟩, g3, g4, g5, g6, g7⟩ := h.Rec.2.2 r r1
        -- the reference's level, and its end
        have lev : ∀ {x : Option ((Int32 ⊕ String) × AS)} (x3 : Int32), H2 x (f_M_finish_B109 m (some 57) a 1 x3 (sW (lvG m i) 3 0 0)) (fun x y => AN [eX, eS] x.1 y.1 (sI y.2 57 82) ∧ P_fin x.2 y.2) → H2 x (f_M_finish_L60 kr_FU m (some 57) a 1 x3 0 0) (fun x y => AN [eX, eS] x.1 y.1 (sI y.2 57 82) ∧ P_fin x.2 y.2) := fun x3 hh => by
          rw [ea] at hh ⊢
          exact h_fin60_L hmf r20 i6 g2 hh 3 0 kr_FU 0 rfl rfl
        have bad : H2 (some ((Sum.inr eS : Int32 ⊕ String), wX S)) (f_M_finish_L60 kr_FU m (some 57) a 1 0 0 0) (fun x y => AN [eX, eS] x.1 y.1 (sI y.2 57 82) ∧ P_fin x.2 y.2) := lev 0 (by
          unfold f_M_finish_B109
          exact m_of (st_T rfl) no2)
        have k31 : Le (f_K_finish_B31 S (some 4) a (some (lel S 27 r))) (some ((Sum.inr eS : Int32 ⊕ String), wX S)) := fun q hq => by
          unfold f_K_finish_B31 f_K_finish_B32 at hq
          exact st_bxe (rS0 S) q hq
        refine m_of (st_F one0) (m_of (st_gRe (hmf 73 119 rfl)) (m_of (st_aIe (v := sI m 119 r) ai rfl) (l_of (st_gIe g4) ?_)))
        by_cases c1 : sI m 119 r = 0
        · exact l_of (st_T c1) (m_of (st_T c1) (l_of k31 bad))
        · refine l_of (st_F c1) (m_of (st_F c1) (l_of (st_gIe h.NW.1) (l_of (st_gIe g3) (m_of st_gI (m_of (st_gRe (hmf 72 118 rfl)) (m_of (st_aIe (v := sI m 118 r) ai rfl) ?_))))))
          by_cases c2 : sI m 57 0 - sI m 118 r < 60
          · exact l_of (st_T c2) (m_of (st_T c2) (l_of k31 bad))
          · refine l_of (st_F c2) (m_of (st_F c2) ?_)
            unfold f_K_finish_B32 f_Recovery_countVouchers f_M_many
            refine l_of (st_bx (rS1 S)) (l_of st_rv ?_)
            refine l_p2 (P := fun q => q = (bcv (sI m 120 r), S)) (p_of (st_gIe g5) (p_b2 p_bc (fun v S' e => p_ret e))) (fun v S' e => ?_)
            cases e
            refine m_of (st_gRe (hmf 74 120 rfl)) (m_of (st_aIe (v := sI m 120 r) ai rfl) (m_p2 (p_mn_L 6 0 kr_FU 0 rfl) (fun v S' e => ?_)))
            cases e
            have ev : sI m 120 r = Int32.ofNat (sI m 120 r).toNatClampNeg := Int32.toInt_inj.mp (by rw [oi (by have := natI g6.1; omega)]; exact (natI g6.1).symm)
            have eb : bcv (sI m 120 r) = sW (fun j => (sI m 120 r >>> (Int32.ofNat j &&& 31)) &&& (1 : Int32)) 6 0 0 := by
              rw [ev]
              exact bc_mn _ (by have := natI g6.1; omega)
            rw [eb]
            by_cases c3 : sW (fun j => (sI m 120 r >>> (Int32.ofNat j &&& 31)) &&& (1 : Int32)) 6 0 0 < 2
            · refine l_of (st_T c3) (m_of (st_T c3) ?_)
              unfold f_K_finish_B48
              exact l_of (st_bxe (rS0 S)) bad
            · refine l_of (st_F c3) (m_of (st_F c3) (lev 1 ?_))
              unfold f_K_finish_B48 f_M_finish_B109 f_Person_levelOfEnrolled
              refine l_of (st_bx (rS1 S)) (l_of (st_gIe g7) (l_of (st_gRe g1) (l_of st_rv (l_p2 (p_lvE_L h.PF h.Wgt h.Fac i6 3 0 kr_FU 0 rfl) (fun v S' e => ?_)))))
              cases e
              refine m_of (st_F one0) (m_of (st_gRe (hmf 75 121 rfl)) (m_of (st_aIe (v := sI m 121 r) ai rfl) ?_))
              by_cases c4 : sI m 121 r < sW (lvG m i) 3 0 0
              · refine l_of (st_T c4) (m_of (st_T c4) ?_)
                unfold f_K_finish_B70
                exact l_of (st_bxe (rS0 S)) no2
              · refine l_of (st_F c4) (m_of (st_F c4) ?_)
                rw [ea]
                exact fin_go hT hm h r1
      · exact absurd ⟨r, r1, ea⟩ p1
    · cases e2
  · rcases x_fR b a _ e with ⟨r, r1, ea, e2⟩ | ⟨no, e2⟩
    · cases e2
    · cases e2
      rcases p with ⟨p1, -⟩ | ⟨-, p2⟩
      · exact absurd p1 no
      · cases p2
        exact m_of (st_T rfl) no1
end
