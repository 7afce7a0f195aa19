/-! ===== recover ===== -/
section
variable {T Tm : Nat → Nat} {S m : AS}
/-- a person's open recovery -/
def OPR (m : AS) (i r : Nat) : Prop := sI m 119 r ≠ 0 ∧ sI m 117 r = Int32.ofNat i
theorem p_hasR_L (b : BB T Tm S m) (h : cRec S m) {i : Nat} (i6 : i < 6) : ∀ (k j fu : Nat), j + k = nR m → Hp (f_K_hasOpenRecovery_L2 fu S (some 4) (some (29 + 4 * i)) (Int32.ofNat j)) (fun q => q.2 = S ∧ (q.1 = 0 ∨ q.1 = 1) ∧ (q.1 = 1 ↔ ∃ r, j ≤ r ∧ r < nR m ∧ OPR m i r))
  | _, _, 0, _ => p_0
  | 0, j, fu + 1, hk => by
    unfold f_K_hasOpenRecovery_L2 f_K_hasOpenRecovery_C2
    have r := (K4F_of b.1.1).1 16 27 rfl
    have z := h.1
    have n20 : nR m ≤ 20 := z.1
    refine p_of (st_gRe r) (p_of st_rv (p_of st_size ?_))
    rw [z.2.2, show sI m 57 70 = Int32.ofNat (nR m) from z.2.1]
    refine p_of (st_T ((ole (by omega) (by omega)).mpr (by omega))) (p_ret ⟨rfl, Or.inl rfl, fun q => absurd (show (0 : Int32) = 1 from q) (by decide), ?_⟩)
    rintro ⟨r, q1, q2, -⟩
    omega
  | k + 1, j, fu + 1, hk => by
    unfold f_K_hasOpenRecovery_L2 f_K_hasOpenRecovery_C2 f_K_hasOpenRecovery_B42
    have r := (K4F_of b.1.1).1 16 27 rfl
    have z := h.1
    have n20 : nR m ≤ 20 := z.1
    obtain ⟨-, ⟨x, x6, g1, g2⟩, g3, g4, -⟩ := h.2.2 j (by omega)
    refine p_of (st_gRe r) (p_of st_rv (p_of st_size ?_))
    rw [z.2.2, show sI m 57 70 = Int32.ofNat (nR m) from z.2.1]
    refine p_of (st_F (fun q => by have := (ole (by omega) (by omega)).mp q; omega)) (p_of (st_gRe r) (p_of st_rv (p_of (st_get (oc (by omega)) (atR b (by omega))) (p_of st_cc (p_of (st_gIe g4) ?_)))))
    have go : ¬ OPR m i j → Hp ((some (Int32.ofNat j + (1 : Int32))).bind fun i1 => f_K_hasOpenRecovery_L2 fu S (some 4) (some (29 + 4 * i)) i1) (fun q => q.2 = S ∧ (q.1 = 0 ∨ q.1 = 1) ∧ (q.1 = 1 ↔ ∃ r, j ≤ r ∧ r < nR m ∧ OPR m i r)) := fun no => by
      refine p_of st_val ?_
      rw [o1]
      refine p_mono (p_hasR_L b h i6 k (j + 1) fu (by omega)) (fun q e => ⟨e.1, e.2.1, e.2.2.trans ⟨?_, ?_⟩⟩)
      · rintro ⟨r, q1, q2, q3⟩
        exact ⟨r, by omega, q2, q3⟩
      · rintro ⟨r, q1, q2, q3⟩
        refine ⟨r, ?_, q2, q3⟩
        have : r ≠ j := fun z => no (by rw [← z]; exact q3)
        omega
    refine p_if (fun c => go (fun q => q.1 c)) (fun c => ?_)
    refine p_of (st_gRe g1) (p_of st_ac (p_of st_ac (p_if (fun c2 => ?_) (fun c2 => go (fun q => c2 ?_)))))
    · have e := per_eq.mp c2
      subst e
      exact p_ret ⟨rfl, Or.inr rfl, fun _ => ⟨j, Nat.le_refl _, by omega, c, g2⟩, fun _ => rfl⟩
    · rw [oinj (by omega) (by omega) (g2.symm.trans q.2)]
/-- the reference looks for one -/
theorem p_recM_L (hmf : MF m) (n20 : nR m ≤ 20) (n1 : sI m 57 70 = Int32.ofNat (nR m)) {a x2 : Int32} {P : Int32 × AS → Prop} {y0 : Int32} (hy0 : y0 = 0 ∨ y0 = 1)
    (H : ∀ fu y, (y = 0 ∨ y = 1) → (y = 1 ↔ y0 = 1 ∧ ∀ r, r < nR m → ¬ (sI m 119 r ≠ 0 ∧ sI m 117 r = a)) → Hp (f_M_recover_L36 (fu + 1) m (some 57) a x2 y (Int32.ofNat (nR m))) P) :
    ∀ (k j fu : Nat) (y : Int32), j + k = nR m → (y = 0 ∨ y = 1) → (y = 1 ↔ y0 = 1 ∧ ∀ r, r < j → ¬ (sI m 119 r ≠ 0 ∧ sI m 117 r = a)) → Hp (f_M_recover_L36 fu m (some 57) a x2 y (Int32.ofNat j)) P
  | _, _, 0, _, _, _, _ => p_0
  | 0, j, fu + 1, y, hk, hy, he => by
    have e : j = nR m := by omega
    subst e
    exact H fu y hy he
  | k + 1, j, fu + 1, y, hk, hy, he => by
    unfold f_M_recover_L36 f_M_recover_C36
    refine p_of (st_gIe n1) (p_of (st_F (fun q => by have := (ole (by omega) (by omega)).mp q; omega)) ?_)
    have go : ∀ y', (y' = 0 ∨ y' = 1) → (y' = 1 ↔ y = 1 ∧ ¬ (sI m 119 j ≠ 0 ∧ sI m 117 j = a)) → Hp (f_M_recover_B75 (f_M_recover_L36 fu) m (some 57) a x2 (Int32.ofNat j) y') P := fun y' h01 hh => by
      unfold f_M_recover_B75
      refine p_of st_val ?_
      rw [o1]
      refine p_recM_L hmf n20 n1 hy0 H k (j + 1) fu y' (by omega) h01 ?_
      rw [hh, he]
      constructor
      · rintro ⟨⟨q1, q2⟩, q3⟩
        refine ⟨q1, fun r hr => ?_⟩
        by_cases c : r = j
        · rw [c]
          exact q3
        · exact q2 r (by omega)
      · rintro ⟨q1, q2⟩
        exact ⟨⟨q1, fun r hr => q2 r (by omega)⟩, q2 j (by omega)⟩
    have stay : ¬ (sI m 119 j ≠ 0 ∧ sI m 117 j = a) → y ≠ 0 → Hp (f_M_recover_B70 (f_M_recover_L36 fu) m (some 57) a x2 (Int32.ofNat j)) P := fun q c => by
      unfold f_M_recover_B70
      exact go 1 (Or.inr rfl) ⟨fun _ => ⟨hy.resolve_left c, q⟩, fun _ => rfl⟩
    have drop : (y = 1 → (sI m 119 j ≠ 0 ∧ sI m 117 j = a)) → Hp (f_M_recover_B74 (f_M_recover_L36 fu) m (some 57) a x2 (Int32.ofNat j)) P := fun q => by
      unfold f_M_recover_B74
      exact go 0 (Or.inl rfl) ⟨fun z => absurd z (by decide), fun z => absurd (q z.1) z.2⟩
    refine p_if (fun c => drop (fun q => by rw [c] at q; exact absurd q (by decide))) (fun c => ?_)
    refine p_of (st_gRe (hmf 73 119 rfl)) (p_of (st_aIe (v := sI m 119 j) (oc (by omega)) rfl) (p_if (fun c2 => stay (fun q => q.1 c2) c) (fun c2 => ?_)))
    exact p_of (st_gRe (hmf 71 117 rfl)) (p_of (st_aIe (v := sI m 117 j) (oc (by omega)) rfl) (p_if (fun c3 => drop (fun _ => ⟨c2, c3⟩)) (fun c3 => stay (fun q => c3 q.2) c)))
theorem p_newR {S1 : AS} {z p : Nat} {v : Int32} : Hp (f_Recovery_init S1 (some z) (some p) v) (fun S' => S' = wI (wR (wI S1 z 2 1) z 0 (some p)) z 1 v) := by
  unfold f_Recovery_init
  exact p_of st_val (p_of st_pZ (p_of st_pR (p_of st_pI (p_ret rfl))))
theorem recover_yes (hT : TV T S) (hm : TI Tm m) (h : FR S m) {i fu : Nat} (i6 : i < 6) (n19 : nR m < 20) : H2 (f_K_recover_B38 S (some 4) (some (29 + 4 * i)) 1) (f_M_recover_L36 (fu + 1) m (some 57) (Int32.ofNat i) 1 1 (Int32.ofNat (nR m))) (fun x y => AN [eX, eS] x.1 y.1 (sI y.2 57 82) ∧ cRec x.2 y.2) := by
  have b := FR_BB hT hm h
  have hmf := MF_of hm
  have hmf0 := MF_of (TI_t hm 0)
  have k4 := K4F_of hT.1
  have r := k4.1 16 27 rfl
  obtain ⟨u1, u2, u3⟩ := h.Rec
  have n70 : sI m 57 70 = Int32.ofNat (nR m) := u1.2.1
  have s27 : sI S 27 2 = Int32.ofNat (nR m) := u1.2.2.trans n70
  obtain ⟨d, d1, d2, d3, d4, d5, d6⟩ := LO_add hT.1 (q := 6) (by decide) s27 (by omega)
  have d1 : sR S 27 1 = some d := d1
  have d3 : 27 < sN S := d3
  have d5 : d ≠ 27 := d5
  have t4 := (kt4 hT.1).1
  have n4 : 4 < sN S := (hT.1.t1 4 (by rw [t4]; decide)).1
  have d4n : 4 ≠ d := d6 4 (by rw [t4]; decide) (by rw [t4]; decide) (by rw [t4]; decide)
  unfold f_K_recover_B38
  refine l_of (st_bx (rS1 S)) (l_of (st_gRe r) (l_of st_val ?_))
  obtain ⟨S4, e4⟩ : ∃ S4, S4 = nO S 17 := ⟨_, rfl⟩
  rw [← e4]
  have N4 : sN S4 = sN S + 1 := by rw [e4]; rfl
  have f4 : ∀ k, k < sN S → sI S4 k = sI S k ∧ sR S4 k = sR S k ∧ sL S4 k = sL S k := fun k hk => by
    have := ti_wN (S := S) (κ := 17) (l := 0) (s := kr_cN (17 - 10)) (k := k) (by omega)
    rw [e4]
    exact ⟨this.2.2.1, this.2.2.2.1, this.2.1⟩
  have z4 : sI S4 (sN S) = (fun _ => 0) := by
    rw [e4]
    exact (ti_wN0 S 17 0 (kr_cN (17 - 10))).2.2.1
  refine l_of (st_gIe (v := sI m 57 0) (by rw [(f4 4 n4).1]; exact h.NW.1)) (l_pd p_newR (fun S6 e => ?_))
  have e : S6 = _ := e
  have N6 : sN S6 = sN S + 1 := by
    rw [e]
    exact N4
  have f6 : ∀ k, k < sN S → (∀ j, sI S6 k j = sI S k j) ∧ (∀ j, sR S6 k j = sR S k j) ∧ sL S6 k = sL S k := fun k hk => by
    obtain ⟨a1, a2, a3⟩ := f4 k hk
    rw [e]
    refine ⟨fun j => ?_, fun j => ?_, a3⟩
    · rw [ti_sI_ne (by omega)]
      show sI (wI S4 (sN S) 2 1) k j = _
      rw [ti_sI_ne (by omega), a1]
    · rw [sR_wI, ti_sR_ne (by omega), sR_wI, a2]
  have g6 : sI S6 (sN S) 1 = sI m 57 0 ∧ sI S6 (sN S) 2 = 1 ∧ sI S6 (sN S) 3 = 0 ∧ sI S6 (sN S) 4 = 0 ∧ sR S6 (sN S) 0 = some (29 + 4 * i) := by
    rw [e]
    refine ⟨ti_sI_eq _ _ _ _, ?_, ?_, ?_, ?_⟩
    · rw [ti_sI_ne (by omega)]
      exact ti_sI_eq _ _ _ _
    · rw [ti_sI_ne (by omega)]
      show sI (wI S4 (sN S) 2 1) (sN S) 3 = 0
      rw [ti_sI_ne (by omega), z4]
    · rw [ti_sI_ne (by omega)]
      show sI (wI S4 (sN S) 2 1) (sN S) 4 = 0
      rw [ti_sI_ne (by omega), z4]
    · rw [sR_wI, ti_sR_eq]
  refine l_of st_rv (l_p2 (p_add (S := S6) (l := 27) (d := d) (x := sN S) (n := nR m) (by rw [(f6 27 d3).2.1]; exact d1) (by rw [(f6 27 d3).1]; exact s27) (by omega) (by rw [(f6 d d4).2.2]; exact d2) (by omega) (by omega) d5) (fun v S8 p => ?_))
  obtain ⟨p1, p2, p3, p4, p5⟩ := p
  have p2 : sI S8 27 2 = Int32.ofNat (nR m + 1) := p2
  have fI : ∀ k j, k < sN S → ¬ (k = 27 ∧ (j = 0 ∨ j = 2)) → sI S8 k j = sI S k j := fun k j hk q => (p1 k j (by omega) q).trans ((f6 k hk).1 j)
  have fR : ∀ k j, k < sN S → ¬ (k = 27 ∧ j = 1) → ¬ (k = d ∧ j = nR m) → sR S8 k j = sR S k j := fun k j hk q1 q2 => (p3 k j (by omega) q1 q2).trans ((f6 k hk).2.1 j)
  have r8 : sR S8 4 16 = some 27 := (fR 4 16 n4 (by omega) (by omega)).trans r
  have elo : ∀ k, k < nR m → lel S8 27 k = lel S 27 k := fun k hk => by
    unfold lel
    rw [p4 k hk, (f6 d d4).2.1, d1]
    rfl
  have eln : lel S8 27 (nR m) = sN S := by
    unfold lel
    rw [p5]
    rfl
  have old : ∀ k, k < nR m → lel S 27 k < sN S ∧ lel S 27 k ≠ 27 ∧ lel S 27 k ≠ d := fun k hk => by
    have t := tyR b hk
    refine ⟨(hT.1.t1 _ (by rw [t]; decide)).1, fun q => ?_, d6 _ (by rw [t]; decide) (by rw [t]; decide) (by rw [t]; decide)⟩
    rw [q, show T 27 = 26 from (hT.1.t6 6 (by decide)).1] at t
    exact absurd t (by decide)
  refine l_of (st_gRe r8) (l_of st_rv (l_of st_size ?_))
  rw [p2, show Int32.ofNat (nR m + 1) - 1 = Int32.ofNat (nR m) by rw [← o1]; exact Int32.add_sub_cancel _ _]
  unfold f_M_recover_L36 f_M_recover_C36
  have lv : ∀ {p j : Nat}, ¬ (p = 57 ∧ j = 82) → sI (wI m 57 82 0) p j = sI m p j := fun q => lv0 m q 0
  refine m_of (st_gIe n70) (m_of (st_T ((ole (by omega) (by omega)).mpr (Nat.le_refl _))) (m_of st_rv (m_p2 p_mayB (fun v m' q => ?_))))
  cases q
  refine m_of (st_F one0) (m_of (st_gRe (hmf0 71 117 rfl)) (m_of (st_gIe (v := Int32.ofNat (nR m)) ((lv (by omega)).trans n70)) (m_of (st_bIe (oc (by omega))) ?_)))
  refine m_of (st_gRe (hmf0 72 118 rfl)) (m_of (st_gIe (v := Int32.ofNat (nR m)) ((ti_sI_ne (by omega)).trans ((lv (by omega)).trans n70))) (m_of (st_gIe (v := sI m 57 0) ((ti_sI_ne (by omega)).trans (lv (by omega)))) (m_of (st_bIe (oc (by omega))) ?_)))
  refine m_of (st_gRe (hmf0 73 119 rfl)) (m_of (st_gIe (v := Int32.ofNat (nR m)) ((ti_sI_ne (by omega)).trans ((ti_sI_ne (by omega)).trans ((lv (by omega)).trans n70)))) (m_of (st_bZe (oc (by omega))) ?_))
  refine m_of (st_gIe (v := Int32.ofNat (nR m)) ((ti_sI_ne (by omega)).trans ((ti_sI_ne (by omega)).trans ((ti_sI_ne (by omega)).trans ((lv (by omega)).trans n70))))) (m_of st_pI (m_of (st_gIe (ti_sI_eq _ _ _ _)) ?_))
  rw [show Int32.ofNat (nR m) + 1 - 1 = Int32.ofNat (nR m) from Int32.add_sub_cancel _ _, o1]
  obtain ⟨M, eM⟩ : ∃ M, M = wI (wI (wI (wI (wI m 57 82 0) 117 (nR m) (Int32.ofNat i)) 118 (nR m) (sI m 57 0)) 119 (nR m) 1) 57 70 (Int32.ofNat (nR m + 1)) := ⟨_, rfl⟩
  rw [← eM]
  have m70 : sI M 57 70 = Int32.ofNat (nR m + 1) := by rw [eM, ti_sI_eq]
  have m82 : sI M 57 82 = 0 := by rw [eM, ti_sI_ne (by omega), ti_sI_ne (by omega), ti_sI_ne (by omega), ti_sI_ne (by omega), ti_sI_eq]
  have m117 : sI M 117 (nR m) = Int32.ofNat i := by rw [eM, ti_sI_ne (by omega), ti_sI_ne (by omega), ti_sI_ne (by omega), ti_sI_eq]
  have m118 : sI M 118 (nR m) = sI m 57 0 := by rw [eM, ti_sI_ne (by omega), ti_sI_ne (by omega), ti_sI_eq]
  have m119 : sI M 119 (nR m) = 1 := by rw [eM, ti_sI_ne (by omega), ti_sI_eq]
  have oM : ∀ {p j : Nat}, ¬ (p = 57 ∧ (j = 82 ∨ j = 70)) → ¬ ((p = 117 ∨ p = 118 ∨ p = 119) ∧ j = nR m) → sI M p j = sI m p j := fun q1 q2 => by
    rw [eM, ti_sI_ne (by omega), ti_sI_ne (by omega), ti_sI_ne (by omega), ti_sI_ne (by omega), ti_sI_ne (by omega)]
  have nnn : nn (sI M 57 70) = nR m + 1 := by
    rw [m70]
    exact nn_o (by omega)
  have enn : nR M = nR m + 1 := nnn
  refine h2_ret ⟨AN_v m82, ⟨?_, ?_, ?_⟩, fun k k1 k2 => ?_, fun k hk => ?_⟩
  · rw [nnn]
    omega
  · rw [nnn]
    exact m70
  · rw [m70]
    exact p2
  · rw [enn] at k1
    rw [oM (by omega) (by omega), oM (by omega) (by omega)]
    exact u2 k (by omega) k2
  · rw [enn] at hk
    rw [enn]
    by_cases c : k = nR m
    · subst c
      obtain ⟨v1, v2⟩ := u2 (nR m) (Nat.le_refl _) (by omega)
      rw [eln]
      have gN : ∀ j, sI S8 (sN S) j = sI S6 (sN S) j := fun j => p1 (sN S) j (by omega) (by omega)
      have gR' : sR S8 (sN S) 0 = some (29 + 4 * i) := (p3 (sN S) 0 (by omega) (by omega) (by omega)).trans g6.2.2.2.2
      refine ⟨fun b hb e => ?_, ⟨i, i6, gR', m117⟩, ?_, ?_, ?_, ?_, ?_⟩
      · by_cases q : b = nR m
        · exact q
        · rw [elo b (by omega)] at e
          have := (old b (by omega)).1
          omega
      · rw [gN, g6.1, m118]
      · rw [gN, g6.2.1, m119]
      · rw [gN, g6.2.2.1, oM (by omega) (by omega), v1]
      · rw [oM (by omega) (by omega), v1]
        decide
      · rw [gN, g6.2.2.2.1, oM (by omega) (by omega), v2]
    · have hk : k < nR m := by omega
      obtain ⟨o1', o2, o3⟩ := old k hk
      obtain ⟨w1, w2, w3, w4, w5, w6, w7⟩ := u3 k hk
      have gI' : ∀ j, sI S8 (lel S 27 k) j = sI S (lel S 27 k) j := fun j => fI _ j o1' (by omega)
      rw [elo k hk]
      refine ⟨fun b hb e => ?_, ?_, ?_, ?_, ?_, ?_, ?_⟩
      · by_cases q : b = nR m
        · rw [q, eln] at e
          omega
        · rw [elo b (by omega)] at e
          exact w1 b (by omega) e
      · obtain ⟨x, x1, x2, x3⟩ := w2
        exact ⟨x, x1, (fR _ 0 o1' (by omega) (by omega)).trans x2, (oM (by omega) (by omega)).trans x3⟩
      · rw [gI', oM (by omega) (by omega)]
        exact w3
      · rw [gI', oM (by omega) (by omega)]
        exact w4
      · rw [gI', oM (by omega) (by omega)]
        exact w5
      · rw [oM (by omega) (by omega)]
        exact w6
      · rw [gI', oM (by omega) (by omega)]
        exact w7
theorem h_recover (hT : TV T S) (hm : TI Tm m) (h : FR S m) (a : Int32) : H2 (f_K_recover S (some 4) a) (f_M_recover m (some 57) a) (fun x y => AN [eX, eS] x.1 y.1 (sI y.2 57 82) ∧ cRec x.2 y.2) := by
  have b := FR_BB hT hm h
  have hmf := MF_of hm
  obtain ⟨u1, u2, u3⟩ := h.Rec
  have n20 : nR m ≤ 20 := u1.1
  have n70 : sI m 57 70 = Int32.ofNat (nR m) := u1.2.1
  -- the reference refuses
  have no : ∀ fu x2, (x2 = 0 ∨ x2 = 1) → Hp (f_M_recover_L36 (fu + 1) m (some 57) a x2 0 (Int32.ofNat (nR m))) (fun q => q = (0, wI m 57 82 (if x2 = 0 then 1 else 2))) := fun fu x2 h2 => by
    unfold f_M_recover_L36 f_M_recover_C36
    refine p_of (st_gIe n70) (p_of (st_T ((ole (by omega) (by omega)).mpr (Nat.le_refl _))) (p_of st_rv (p_b2 p_mayB (fun v m' q => ?_))))
    rcases h2 with rfl | rfl
    · cases q
      exact p_of (st_T rfl) (p_ret rfl)
    · cases q
      exact p_of (st_T rfl) (p_ret rfl)
  have any : ∀ x2 y0, (x2 = 0 ∨ x2 = 1) → y0 = 0 → Hp (f_M_recover_L36 kr_FU m (some 57) a x2 y0 0) (fun q => q = (0, wI m 57 82 (if x2 = 0 then 1 else 2))) := fun x2 y0 h2 h0 => by
    subst h0
    refine p_recM_L hmf n20 n70 (y0 := 0) (Or.inl rfl) (fun fu y hy he => ?_) (nR m) 0 kr_FU 0 (Nat.zero_add _) (Or.inl rfl) ⟨fun q => absurd q (by decide), fun q => absurd q.1 (by decide)⟩
    have y0 : y = 0 := hy.resolve_right (fun q => absurd (he.mp q).1 (by decide))
    rw [y0]
    exact no fu x2 h2
  have bad : H2 (some ((Sum.inr eS : Int32 ⊕ String), wX S)) (f_M_recover_L36 kr_FU m (some 57) a 1 0 0) (fun x y => AN [eX, eS] x.1 y.1 (sI y.2 57 82) ∧ cRec x.2 y.2) := m_hp (any 1 0 (Or.inr rfl) rfl) (fun q e => by
    rw [e, if_neg one0]
    exact h2_ret ⟨AN_e 1 rfl (ti_sI_eq _ _ _ _), (FR_X hT (TI_t hm 2) (FR_t hT hm h 2)).Rec⟩)
  have k37 : ∀ x, Le (f_K_recover_B37 S (some 4) x) (some ((Sum.inr eS : Int32 ⊕ String), wX S)) := fun x q hq => by
    unfold f_K_recover_B37 f_K_recover_B38 at hq
    exact st_bxe (rS0 S) q hq
  unfold f_K_recover f_M_recover f_M_recover_B31 f_M_recover_B32
  refine m_of (st_b2 (q_six m a)) (l_of st_rv (l_bx (fun v S' e => ?_) (fun v S' e => ?_)))
  · rcases x_fp b a _ e with ⟨i, i1, ea, e2⟩ | ⟨-, e2⟩
    · cases e2
      rw [if_pos ((six_iff _).mpr ⟨i, i1, ea⟩)]
      have ai : a.toNatClampNeg = i := by rw [ea]; exact oc (by omega)
      refine m_of (st_F one0) (m_of (st_gRe (hmf 7 64 rfl)) (m_of (st_aIe (v := sI m 64 i) ai rfl) (l_of (st_gIe (h.Awy i i1)) ?_)))
      by_cases c1 : sI m 64 i = 0
      · refine l_of (st_T c1) (m_of (st_T c1) (l_of st_rv ?_))
        unfold f_K_hasOpenRecovery
        refine l_p2 (p_hasR_L b h.Rec i1 (nR m) 0 kr_FU (Nat.zero_add _)) (fun w S2 p => ?_)
        obtain ⟨p1, p2, p3⟩ := p
        have p1 : S2 = S := p1
        have p2 : w = 0 ∨ w = 1 := p2
        have p3 : w = 1 ↔ _ := p3
        rw [p1]
        refine m_of (st_gIe n70) ?_
        by_cases c2 : (20 : Int32) ≤ Int32.ofNat (nR m)
        · refine m_of (st_T c2) ?_
          refine l_if (fun c3 => ?_) (fun c3 => l_of (k37 _) bad)
          refine l_of (st_gRe ((K4F_of hT.1).1 16 27 rfl)) (l_of st_rv (l_of st_size ?_))
          rw [u1.2.2, n70]
          exact l_of (st_T c2) (l_of (k37 _) bad)
        · have n19 : nR m < 20 := Nat.not_le.mp (fun q => c2 ((ole (a := 20) (by decide) (by omega)).mpr q))
          refine m_of (st_F c2) ?_
          by_cases c3 : w = 0
          · refine l_of (st_T c3) (l_of (st_gRe ((K4F_of hT.1).1 16 27 rfl)) (l_of st_rv (l_of st_size ?_)))
            rw [u1.2.2, n70]
            refine l_of (st_F c2) (fun x y hx hy => ?_)
            have none' : ∀ r, r < nR m → ¬ (sI m 119 r ≠ 0 ∧ sI m 117 r = a) := fun r hr q => by
              have := p3.mpr ⟨r, Nat.zero_le _, hr, q.1, q.2.trans ea⟩
              rw [c3] at this
              exact absurd this (by decide)
            refine p_recM_L hmf n20 n70 (y0 := 1) (P := fun q => AN [eX, eS] x.1 q.1 (sI q.2 57 82) ∧ cRec x.2 q.2) (Or.inr rfl) (fun fu y' hy' he => ?_) (nR m) 0 kr_FU 1 (Nat.zero_add _) (Or.inr rfl) ⟨fun _ => ⟨rfl, fun r hr => absurd hr (Nat.not_lt_zero _)⟩, fun _ => rfl⟩ y hy
            rw [he.mpr ⟨rfl, none'⟩, ea]
            exact fun q hq => recover_yes hT hm h i1 n19 x q hx hq
          · refine l_of (st_F c3) (l_of (k37 _) ?_)
            obtain ⟨r, -, r1, r2⟩ := p3.mp (p2.resolve_left c3)
            refine m_hp (P := fun q => q = (0, wI m 57 82 2)) ?_ (fun q e => by
              rw [e]
              exact h2_ret ⟨AN_e 1 rfl (ti_sI_eq _ _ _ _), (FR_X hT (TI_t hm 2) (FR_t hT hm h 2)).Rec⟩)
            refine p_recM_L hmf n20 n70 (y0 := 1) (Or.inr rfl) (fun fu y' hy' he => ?_) (nR m) 0 kr_FU 1 (Nat.zero_add _) (Or.inr rfl) ⟨fun _ => ⟨rfl, fun r hr => absurd hr (Nat.not_lt_zero _)⟩, fun _ => rfl⟩
            have y0 : y' = 0 := hy'.resolve_right (fun q => (he.mp q).2 r r1 ⟨r2.1, r2.2.trans ea.symm⟩)
            rw [y0]
            exact no fu 1 (Or.inr rfl)
      · exact l_of (st_F c1) (m_of (st_F c1) (l_of (k37 _) bad))
    · cases e2
  · rcases x_fp b a _ e with ⟨i, i1, rfl, e2⟩ | ⟨no', e2⟩
    · cases e2
    · cases e2
      rw [if_neg (fun q => no' ((six_iff _).mp q))]
      refine m_of (st_T rfl) (m_hp (any 0 0 (Or.inl rfl) rfl) (fun q e => ?_))
      rw [e, if_pos rfl]
      exact h2_ret ⟨AN_e 0 rfl (ti_sI_eq _ _ _ _), (FR_X hT (TI_t hm 1) (FR_t hT hm h 1)).Rec⟩
end
