section
variable {T Tm : Nat → Nat} {S m : AS}
theorem act_yes (hT : TV T S) (hm : TI Tm m) (h : FR S m) {s p : Nat} (s1 : s < nS m) (p6 : p < 6) (n60 : nS m < 60) : H2 (f_K_act_B99 S (some 4) (some (lel S 19 s)) (some (29 + 4 * p)) 1) (f_M_act_B112 m (some 57) (Int32.ofNat s) (Int32.ofNat p) 1 1) (fun x y => AN [eX, eS] x.1 y.1 (sI y.2 57 82) ∧ P_ses x.2 y.2) := by
  have b := FR_BB hT hm h
  have k4 := K4F_of hT.1
  have ts := tyS b s1
  obtain ⟨x, x1, x2, x3, x4⟩ := tyM (j := 3) hT.1 ts rfl
  obtain ⟨d, d1, ds, d2, d3, d4, d5, d6⟩ := LO19 hT h
  obtain ⟨t4, t5, -⟩ := kt4 hT.1
  have lt : ∀ {k τ : Nat}, T k = τ → τ ≠ 0 → k < sN S := fun hk h0 => (hT.1.t1 _ (by rw [hk]; exact h0)).1
  have d4' := d6 4 (by rw [t4]; decide) (by rw [t4]; decide) (by rw [t4]; decide)
  have d5' := d6 5 (by rw [t5]; decide) (by rw [t5]; decide) (by rw [t5]; decide)
  unfold f_K_act_B99 f_M_act_B112
  refine l_of (st_bx (rS1 S)) (l_of (st_gRe x1) (l_of st_rv ?_))
  refine m_of st_rv (m_p2 p_mayB (fun v m' e => ?_))
  cases e
  refine m_of (st_F one0) (m_of st_rv ?_)
  refine l_p2 (p_newK (S := S) (n := nS m) (d := d) (x := x) (px := mn S (lel S 19 s) 3) k4 ds d1 d2 n60 d3 d4 d5 d4'.symm d5'.symm (lt x2 (by decide)) x3 (lt x4 (by decide))) (fun v S5 q => ?_)
  obtain ⟨q1, q2⟩ := q
  have q1 : v = Int32.ofNat (nS m) := q1
  have z30 : sI (wI m 57 82 0) 57 30 = Int32.ofNat (nS m) := (lv0 m (by omega) 0).trans h.Ses.1.2.1
  refine m_p2 (p_newM (m := wI m 57 82 0) (n := nS m) (MF_of (TI_t hm 0)) n60 z30) (fun u m' q => ?_)
  obtain ⟨w1, w2⟩ := q
  have w1 : u = Int32.ofNat (nS m) := w1
  rw [q1, w1]
  have hmf' : MF m' := MF_e (MF_of hm) w2.1.1
  refine m_hp (p_actM_L (m := m') (s := s) (n := nS m) hmf' (by omega) n60 (by omega) 3 0 kr_FU m' rfl rfl (fun _ _ _ => rfl) (fun f hf => absurd hf (Nat.not_lt_zero _))) (fun q e => ?_)
  obtain ⟨v1, M⟩ := q
  obtain ⟨e1, e2, e3⟩ := e
  have e1 : v1 = Int32.ofNat (nS m) := e1
  have e2 : ∀ a c, ¬ (a = 90 ∧ 3 * nS m ≤ c ∧ c < 3 * nS m + 3) → sI M a c = sI m' a c := e2
  have e3 : ∀ f, f < 3 → sI M 90 (3 * nS m + f) = sI m' 90 (3 * s + f) := e3
  rw [e1]
  have m2 := w2.1.2.2
  refine h2_ret ⟨AN_v ?_, NS_fin hT hm h (S := S) (m1 := wI m 57 82 0) (Nat.le_refl _) (fun _ _ _ => rfl) (fun _ _ _ => rfl) d1 d3 d4 d6 n60 p6 (Or.inr ⟨s, s1, rfl, rfl⟩) q2 (fun q j z => lv0 m z 0) rfl w2 e2 (fun f hf => ?_)⟩
  · show sI M 57 82 = 0
    rw [e2 _ _ (by omega), m2 _ _ (by omega) (by omega) (by omega) (by omega) (by omega) (by omega), ti_sI_eq]
  · rw [e3 f hf, m2 _ _ (by omega) (by omega) (by omega) (by omega) (by omega) (by omega), lv0 m (by omega) 0, (h.Ssh s s1 f hf).1]
    exact ⟨rfl, (h.Ssh s s1 f hf).2⟩
theorem h_act (hT : TV T S) (hm : TI Tm m) (h : FR S m) (a c : Int32) : H2 (f_K_act S (some 4) a c) (f_M_act m (some 57) a c) (fun x y => AN [eX, eS] x.1 y.1 (sI y.2 57 82) ∧ P_ses x.2 y.2) := by
  have b := FR_BB hT hm h
  have hmf := MF_of hm
  have no1 : H2 (some ((Sum.inr eX : Int32 ⊕ String), wX S)) (f_M_act_B20 m (some 57) a c 0) (fun x y => AN [eX, eS] x.1 y.1 (sI y.2 57 82) ∧ P_ses x.2 y.2) := by
    unfold f_M_act_B20 f_M_act_B71 f_M_act_B72 f_M_act_B111 f_M_act_B112
    refine m_of (st_T rfl) (m_of (st_T rfl) (m_of st_rv (m_p2 p_mayB (fun v m' p => ?_))))
    cases p
    exact m_of (st_T rfl) (h2_ret ⟨AN_e 0 rfl (ti_sI_eq _ _ _ _), FR_ses (FR_X hT (TI_t hm 1) (FR_t hT hm h 1))⟩)
  have no3 : H2 (some ((Sum.inr eS : Int32 ⊕ String), wX S)) (f_M_act_B111 m (some 57) a c 1) (fun x y => AN [eX, eS] x.1 y.1 (sI y.2 57 82) ∧ P_ses x.2 y.2) := by
    unfold f_M_act_B111 f_M_act_B112
    refine m_of st_rv (m_p2 p_mayB (fun v m' p => ?_))
    cases p
    exact m_of (st_T rfl) (h2_ret ⟨AN_e 1 rfl (ti_sI_eq _ _ _ _), FR_ses (FR_X hT (TI_t hm 2) (FR_t hT hm h 2))⟩)
  have no2 : H2 (some ((Sum.inr eS : Int32 ⊕ String), wX S)) (f_M_act_B71 m (some 57) a c 1) (fun x y => AN [eX, eS] x.1 y.1 (sI y.2 57 82) ∧ P_ses x.2 y.2) := by
    unfold f_M_act_B71 f_M_act_B72
    exact m_of (st_T rfl) no3
  have k43 : ∀ x y, Le (f_K_act_B43 S (some 4) x y) (some ((Sum.inr eS : Int32 ⊕ String), wX S)) := fun x y q hq => by
    unfold f_K_act_B43 f_K_act_B44 at hq
    exact st_bxe (rS0 S) q hq
  have k78 : ∀ x y, Le (f_K_act_B78 S (some 4) x y) (some ((Sum.inr eS : Int32 ⊕ String), wX S)) := fun x y q hq => by
    unfold f_K_act_B78 f_K_act_B79 at hq
    exact st_bxe (rS0 S) q hq
  unfold f_K_act f_M_act f_M_act_B19
  refine l_of st_rv (m_of st_rv (m_p2 (x_MS b a) (fun v S2 p => ?_)))
  refine l_bx (fun v' S' e => ?_) (fun v' S' e => ?_)
  · rcases x_fS b a _ e with ⟨s, s1, ea, e2⟩ | ⟨no, e2⟩
    · cases e2
      rcases p with ⟨-, p2⟩ | ⟨p1, -⟩
      · cases p2
        refine m_of (st_F one0) (m_of (st_b2 (q_six m c)) (l_of st_rv (l_bx (fun v' S' e => ?_) (fun v' S' e => ?_))))
        · rcases x_fp b c _ e with ⟨p, p6, ec, e2⟩ | ⟨-, e2⟩
          · cases e2
            rw [if_pos ((six_iff _).mpr ⟨p, p6, ec⟩)]
            have z60 := h.Ses.1.1
            have s60 : s < 60 := by
              unfold nS at s1
              omega
            have n60 : nS m ≤ 60 := z60
            have ai : a.toNatClampNeg = s := by rw [ea]; exact oc (by omega)
            have ci : c.toNatClampNeg = p := by rw [ec]; exact oc (by omega)
            obtain ⟨l1, -⟩ := h.Liv.1 s s1
            obtain ⟨-, ⟨i, i6, q1, q2⟩, -⟩ := h.Ses.2 s s1
            have q3 := SPK_r h s1
            unfold f_M_act_B20
            refine m_of (st_F one0) (m_of (st_F one0) (m_of (st_gRe (hmf 35 89 rfl)) (m_of (st_aIe (v := sI m 89 s) ai rfl) (l_of (st_gIe l1) ?_))))
            by_cases c1 : sI m 89 s = 0
            · exact l_of (st_T c1) (m_of (st_T c1) (l_of (k43 _ _) no2))
            · refine l_of (st_F c1) (m_of (st_F c1) (m_of (st_gRe (hmf 34 88 rfl)) (m_of (st_aIe (v := sI m 88 s) ai rfl) ?_)))
              by_cases c2 : sI m 88 s = -1
              · refine l_of (st_gRe (q3.mpr c2)) (l_of (st_T rfl) (m_of (st_T c2) (l_of (st_gIe h.NW.1) (l_of st_rv (m_of st_rv ?_)))))
                have lvA := h_levelAt h hmf (fun _ _ _ => rfl) s1
                rw [← ea] at lvA
                refine h2_22 lvA (fun v S' u m' q => ?_)
                obtain ⟨w, w8, e1, e2⟩ := q
                cases e1
                cases e2
                by_cases c3 : lv8 w < 3
                · exact l_of (st_T c3) (m_of (st_T c3) (l_of (k43 _ _) no2))
                · refine l_of (st_F c3) (m_of (st_F c3) ?_)
                  unfold f_K_act_B44
                  refine l_of (st_bx (rS1 S)) (l_of (st_gRe q1) (l_of (st_gIe (h.Hlp i i6)) ?_))
                  refine m_of (st_gRe (hmf 8 65 rfl)) (m_of (st_gRe (hmf 31 85 rfl)) (m_of (st_aIe (v := Int32.ofNat i) ai q2) (m_of (st_aIe (v := sI m 65 i) (oc (by omega)) rfl) ?_)))
                  by_cases c4 : sI m 65 i = 0
                  · exact l_of (st_T c4) (m_of (st_T c4) (l_of (k78 _ _) no2))
                  · refine l_of (st_F c4) (m_of (st_F c4) ?_)
                    unfold f_M_act_B72
                    refine l_of (st_gRe q1) (l_of st_ac (l_of st_ac (m_of (st_F one0) (m_of (st_gRe (hmf 31 85 rfl)) (m_of (st_aIe (v := Int32.ofNat i) ai q2) ?_)))))
                    by_cases c5 : i = p
                    · subst c5
                      exact l_of (st_T rfl) (m_of (st_T ec.symm) (l_of (k78 _ _) no3))
                    · refine l_of (st_F (fun q => c5 (per_eq.mp q))) (m_of (st_F (fun q => c5 (oinj (by omega) (by omega) (q.trans ec)))) (l_of (st_gIe (h.Awy p p6)) (m_of (st_gRe (hmf 7 64 rfl)) (m_of (st_aIe (v := sI m 64 p) ci rfl) ?_))))
                      by_cases c6 : sI m 64 p = 0
                      · refine l_of (st_T c6) (m_of (st_T c6) ?_)
                        unfold f_K_act_B79
                        refine l_of (st_bx (rS1 S)) (l_of (st_gRe ((K4F_of hT.1).1 8 19 rfl)) (l_of st_rv (l_of st_size ?_)))
                        have z := h.Ses.1
                        rw [z.2.2, show sI m 57 30 = Int32.ofNat (nS m) from z.2.1]
                        refine m_of (st_gIe (v := Int32.ofNat (nS m)) z.2.1) ?_
                        by_cases c7 : (60 : Int32) ≤ Int32.ofNat (nS m)
                        · refine l_of (st_T c7) (m_of (st_T c7) ?_)
                          unfold f_K_act_B99
                          exact l_of (st_bxe (rS0 S)) no3
                        · refine l_of (st_F c7) (m_of (st_F c7) ?_)
                          rw [ea, ec]
                          exact act_yes hT hm h s1 p6 (Nat.not_le.mp (fun q => c7 ((ole (a := 60) (by decide) (by omega)).mpr q)))
                      · exact l_of (st_F c6) (m_of (st_F c6) (l_of (k78 _ _) no3))
              · exact l_of st_gR (l_of (st_F (fun q => c2 (q3.mp q))) (m_of (st_F c2) (l_of (k43 _ _) no2)))
          · cases e2
        · rcases x_fp b c _ e with ⟨p, p6, ec, e2⟩ | ⟨no', e2⟩
          · cases e2
          · cases e2
            rw [if_neg (fun q => no' ((six_iff _).mp q))]
            exact m_of (st_T rfl) no1
      · exact absurd ⟨s, s1, ea⟩ p1
    · cases e2
  · rcases x_fS b a _ e with ⟨s, s1, ea, e2⟩ | ⟨no, e2⟩
    · cases e2
    · cases e2
      rcases p with ⟨p1, -⟩ | ⟨-, p2⟩
      · exact absurd p1 no
      · cases p2
        exact m_of (st_T rfl) no1
/-! foreign -/
theorem foreign_yes (hT : TV T S) (hm : TI Tm m) (h : FR S m) {i p : Nat} (i6 : i < 6) (p6 : p < 6) (n60 : nS m < 60) (e122 : sI m 122 i = Int32.ofNat p) : H2 (f_K_foreign_B59 S (some 4) (some (29 + 4 * p)) 1) (f_M_foreign_B49 m (some 57) (Int32.ofNat i) (some 57) 1 1) (fun x y => AN [eX, eS] x.1 y.1 (sI y.2 57 82) ∧ P_ses x.2 y.2) := by
  have k4 := K4F_of hT.1
  obtain ⟨d, d1, ds, d2, d3, d4, d5, d6⟩ := LO19 hT h
  obtain ⟨t4, t5, -, -, -, -, -, -, -, t25, -⟩ := kt4 hT.1
  have lt : ∀ {k τ : Nat}, T k = τ → τ ≠ 0 → k < sN S := fun hk h0 => (hT.1.t1 _ (by rw [hk]; exact h0)).1
  have d4' := d6 4 (by rw [t4]; decide) (by rw [t4]; decide) (by rw [t4]; decide)
  have d5' := d6 5 (by rw [t5]; decide) (by rw [t5]; decide) (by rw [t5]; decide)
  have l4 := lt t4 (by decide)
  have l5 := lt t5 (by decide)
  have l25 := lt t25 (by decide)
  have hmf0 := MF_of (TI_t hm 0)
  unfold f_K_foreign_B59 f_M_foreign_B49
  refine l_of (st_bx (rS1 S)) (l_of st_nO ?_)
  have f3 : ∀ k, k < sN S → sI (nO S 20) k = sI S k ∧ sR (nO S 20) k = sR S k ∧ sL (nO S 20) k = sL S k := fun k hk => nO_f S 20 (by omega)
  have N3 : sN (nO S 20) = sN S + 1 := rfl
  refine l_pd (p_sh1 (S := nO S 20) (y := sN S) (by omega)) (fun S4 sh => ?_)
  obtain ⟨a1, a2, a3, a4, a5, a6⟩ := sh
  have a1 : sN S4 = sN S + 2 := a1
  have a2 : sR S4 (sN S) 0 = some (sN S + 1) := a2
  have oI : ∀ k j, k < sN S → sI S4 k j = sI S k j := fun k j hk => by rw [a4 k j (by omega), (f3 k hk).1]
  have oR : ∀ k j, k < sN S → sR S4 k j = sR S k j := fun k j hk => by rw [a3 k j (by omega) (by omega), (f3 k hk).2.1]
  have oL : ∀ k, k < sN S → sL S4 k = sL S k := fun k hk => by rw [a6 k (by omega), (f3 k hk).2.2]
  have k44 : K4F S4 := ⟨fun j q e => (oR 4 j l4).trans (k4.1 j q e), (oR 5 0 l5).trans k4.2.1, (oR 5 1 l5).trans k4.2.2.1, (oR 25 5 l25).trans k4.2.2.2⟩
  refine l_of st_rv ?_
  refine m_of st_rv (m_p2 p_mayB (fun v m' e => ?_))
  cases e
  refine m_of (st_F one0) (m_of (st_gRe (hmf0 76 122 rfl)) (m_of (st_aIe (v := Int32.ofNat p) (oc (by omega)) ((lv0 m (by omega) 0).trans e122)) (m_of st_rv ?_)))
  refine l_p2 (p_newK (S := S4) (n := nS m) (d := d) (x := sN S) (px := sN S + 1) k44 ((oI 19 2 d3).trans ds) ((oR 19 1 d3).trans d1) (by rw [oL d d4]; exact d2) n60 (by omega) (by omega) d5 d4'.symm d5'.symm (by omega) a2 (by omega)) (fun v S5 q => ?_)
  obtain ⟨q1, q2⟩ := q
  have q1 : v = Int32.ofNat (nS m) := q1
  have z30 : sI (wI m 57 82 0) 57 30 = Int32.ofNat (nS m) := (lv0 m (by omega) 0).trans h.Ses.1.2.1
  refine m_p2 (p_newM (m := wI m 57 82 0) (n := nS m) hmf0 n60 z30) (fun u m' q => ?_)
  obtain ⟨w1, w2⟩ := q
  have w1 : u = Int32.ofNat (nS m) := w1
  rw [q1, w1]
  refine h2_ret ⟨AN_v ?_, NS_fin hT hm h (S := S4) (m1 := wI m 57 82 0) (by omega) oI oR d1 d3 d4 d6 n60 p6 (Or.inl ⟨rfl, rfl⟩) q2 (fun q j z => lv0 m z 0) rfl w2 (fun _ _ _ => rfl) (fun f hf => ?_)⟩
  · show sI m' 57 82 = 0
    rw [w2.1.2.2 _ _ (by omega) (by omega) (by omega) (by omega) (by omega) (by omega), ti_sI_eq]
  · rw [w2.2.1.2.2.2.2.2.1 f hf, show sI S4 (sN S + 1) f = -1 from a5 f hf]
    exact ⟨rfl, Or.inl rfl⟩
theorem h_foreign (hT : TV T S) (hm : TI Tm m) (h : FR S m) (a : Int32) : H2 (f_K_foreign S (some 4) a) (f_M_foreign m (some 57) a) (fun x y => AN [eX, eS] x.1 y.1 (sI y.2 57 82) ∧ P_ses x.2 y.2) := by
  have b := FR_BB hT hm h
  have hmf := MF_of hm
  have k4 := K4F_of hT.1
  have r := k4.1 17 28 rfl
  have t28 := (kt4 hT.1).2.2.2.2.2.2.2.2.2.2.2
  have l28 : sL S 28 = 6 := (hT.1.t1 28 (by rw [t28]; decide)).2.2.2 6 (by rw [t28]; rfl)
  have no1 : H2 (some ((Sum.inr eX : Int32 ⊕ String), wX S)) (f_M_foreign_B48 m (some 57) a (some 57) 0) (fun x y => AN [eX, eS] x.1 y.1 (sI y.2 57 82) ∧ P_ses x.2 y.2) := by
    unfold f_M_foreign_B48 f_M_foreign_B49
    refine m_of st_rv (m_p2 p_mayB (fun v m' p => ?_))
    cases p
    exact m_of (st_T rfl) (h2_ret ⟨AN_e 0 rfl (ti_sI_eq _ _ _ _), FR_ses (FR_X hT (TI_t hm 1) (FR_t hT hm h 1))⟩)
  have no2 : H2 (some ((Sum.inr eS : Int32 ⊕ String), wX S)) (f_M_foreign_B48 m (some 57) a (some 57) 1) (fun x y => AN [eX, eS] x.1 y.1 (sI y.2 57 82) ∧ P_ses x.2 y.2) := by
    unfold f_M_foreign_B48 f_M_foreign_B49
    refine m_of st_rv (m_p2 p_mayB (fun v m' p => ?_))
    cases p
    exact m_of (st_T rfl) (h2_ret ⟨AN_e 1 rfl (ti_sI_eq _ _ _ _), FR_ses (FR_X hT (TI_t hm 2) (FR_t hT hm h 2))⟩)
  have k37 : ∀ x, Le (f_K_foreign_B37 S (some 4) x) (some ((Sum.inr eS : Int32 ⊕ String), wX S)) := fun x q hq => by
    unfold f_K_foreign_B37 f_K_foreign_B38 at hq
    exact st_bxe (rS0 S) q hq
  unfold f_K_foreign f_M_foreign
  refine l_of (st_gRe r) (l_of st_aN ?_)
  rw [l28]
  refine m_of (st_b2 (q_six m a)) (l_bx (fun v S' e => ?_) (fun v S' e => ?_))
  · rcases p_rI _ e with ⟨h1, h2, e2⟩ | ⟨-, e2⟩
    · cases e2
      rw [oi (by decide)] at h2
      obtain ⟨i, i6, rfl⟩ := (IX_iff (n := 6) (a := a) (by decide)).mpr ⟨h1, by omega⟩
      rw [if_pos ((six_iff _).mpr ⟨i, i6, rfl⟩)]
      have lk := h.Lnk i i6
      have z := h.Ses.1
      have n60 : nS m ≤ 60 := z.1
      refine l_of (st_gRe r) (l_of (st_aIe (v := sI m 122 i) (oc (by omega)) lk) (m_of (st_F one0) (m_of (st_gRe (hmf 76 122 rfl)) (m_of (st_aIe (v := sI m 122 i) (oc (by omega)) rfl) ?_))))
      by_cases c1 : sI m 122 i = -1
      · exact l_of (st_T c1) (m_of (st_T c1) (l_of (k37 _) no2))
      · refine l_of (st_F c1) (m_of (st_F c1) (m_of (st_gRe (hmf 7 64 rfl)) (m_of (st_gRe (hmf 76 122 rfl)) (m_of (st_aIe (v := sI m 122 i) (oc (by omega)) rfl) (m_aI (fun b0 b1 => ?_))))))
        have t64 := (md_at hm (j := 7) (p := 64) rfl rfl).2.1
        have l64 : sL m 64 = 6 := (hm.t1 64 (by rw [t64]; decide)).2.2.2 6 (by rw [t64]; rfl)
        rw [l64] at b1
        obtain ⟨p, p6, ep⟩ := (IX_iff (n := 6) (a := sI m 122 i) (by decide)).mpr ⟨b0, by omega⟩
        rw [ep, oc (by omega)]
        refine l_of (st_gRe (k4.1 8 19 rfl)) (l_of st_rv (l_of st_size ?_))
        rw [z.2.2, show sI m 57 30 = Int32.ofNat (nS m) from z.2.1]
        have go : ∀ {y : Option (Int32 × AS)} (w : Int32), (sI S (29 + 4 * p) 11 = 0 → H2 (f_K_foreign_B59 S (some 4) (some (29 + 4 * p)) 1) y (fun x y => AN [eX, eS] x.1 y.1 (sI y.2 57 82) ∧ P_ses x.2 y.2)) → (sI S (29 + 4 * p) 11 ≠ 0 → H2 (some ((Sum.inr eS : Int32 ⊕ String), wX S)) y (fun x y => AN [eX, eS] x.1 y.1 (sI y.2 57 82) ∧ P_ses x.2 y.2)) → H2 (f_K_foreign_B38 S (some 4) (Int32.ofNat p) 1) y (fun x y => AN [eX, eS] x.1 y.1 (sI y.2 57 82) ∧ P_ses x.2 y.2) := fun w hy hn => by
          unfold f_K_foreign_B38
          refine l_of (st_bx (rS1 S)) (l_of st_rv (l_bx (fun v' S' e => ?_) (fun v' S' e => ?_)))
          · rcases x_fp b _ _ e with ⟨p', p6', ec, e2⟩ | ⟨-, e2⟩
            · cases e2
              have := oinj (by omega) (by omega) ec
              subst this
              refine l_of st_gI (l_if (fun c => hy c) (fun c => ?_))
              have := hn c
              unfold f_K_foreign_B59
              exact l_of (st_bxe (rS0 S)) this
            · cases e2
          · rcases x_fp b _ _ e with ⟨p', p6', ec, e2⟩ | ⟨no', e2⟩
            · cases e2
            · exact absurd ⟨p, p6, rfl⟩ no'
        by_cases c2 : sI m 64 p = 0
        · refine m_of (st_T c2) (m_of (st_gIe (v := Int32.ofNat (nS m)) z.2.1) ?_)
          by_cases c3 : (60 : Int32) ≤ Int32.ofNat (nS m)
          · exact l_of (st_T c3) (m_of (st_T c3) (l_of (k37 _) no2))
          · refine l_of (st_F c3) (m_of (st_F c3) (go 0 (fun _ => ?_) (fun q => absurd ((h.Awy p p6).trans c2) q)))
            exact foreign_yes hT hm h i6 p6 (Nat.not_le.mp (fun q => c3 ((ole (a := 60) (by decide) (by omega)).mpr q))) ep
        · refine m_of (st_F c2) (l_if (fun c3 => l_of (k37 _) no2) (fun c3 => go 0 (fun q => absurd ((h.Awy p p6).symm.trans q) c2) (fun _ => no2)))
    · cases e2
  · rcases p_rI _ e with ⟨h1, h2, e2⟩ | ⟨h1, e2⟩
    · cases e2
    · cases e2
      rw [if_neg (show ¬ (0 ≤ a ∧ a ≤ 5) from fun q => h1 (by have := (IX_iff (n := 6) (by decide)).mp ((six_iff _).mp q); rw [oi (by decide)]; exact this))]
      exact m_of (st_T rfl) no1
end
