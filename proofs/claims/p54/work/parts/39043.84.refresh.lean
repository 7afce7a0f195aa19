/-! ===== refresh ===== -/
section
variable {T Tm : Nat → Nat} {S m : AS}
theorem ef_go (hT : TV T S) (hm : TI Tm m) (h : FR S m) (e82 : sI m 57 82 = 0) {f : Nat} (f1 : f < nF m) : H2 (f_K_refresh_B104 S (some 4) (some (lel S 23 f))) (f_M_refresh_B227 m (some 57) (Int32.ofNat f)) (fun x y => AN [eX, eA, eS] x.1 y.1 (sI y.2 57 82) ∧ P_ref x.2 y.2) := by
  have b := FR_BB hT hm h
  unfold f_K_refresh_B104 f_M_refresh_B227
  refine l_of st_rv (m_of st_rv ?_)
  have both : H2 (f_K_endFamily S (some 4) (some (lel S 23 f))) (f_M_endFamily m (some 57) (Int32.ofNat f)) (fun a m' => (∃ S', a = (.inl (), S') ∧ EE 0 T S m (nS m) (nF m) S' m' ∧ sI m' 103 f = 0 ∧ (∀ x, x ≠ f → sI m' 103 x = sI m 103 x) ∧ sI m' 89 = sI m 89 ∧ sI S' 4 9 = sI S 4 9) ∧ FK T S a.2) := fun a m' ha hb => ⟨h_eF (ST_of hT hm h) (EE_of h) f1 a m' ha hb, FK_eF (BF_of hT.1) (FK_rf T S) ⟨f, SZ_lt (zF b) (by decide) f1, rfl⟩ a ha⟩
  refine h2_xd both (fun v S' m' p => ?_) (fun v S' m' p => ?_)
  · obtain ⟨⟨S2, e, he, -⟩, fk⟩ := p
    cases e
    have fk : FK T S S' := fk
    obtain ⟨x1, x2, x3, x4⟩ := EE_rest hT hm h he
    obtain ⟨-, y2, y3⟩ := EE_P he
    have oM : ∀ {p j : Nat}, MW p j = false → sI m' p j = sI m p j := fun q => he.2.1.2.2 _ _ q
    have e3 : nC m' = nC m := by
      unfold nC
      rw [oM (by rfl)]
    exact h2_ret ⟨AN_v ((oM (by rfl)).trans e82), x1, Fre_of hT hm h fk e3 (fun c => oM (by rfl)), x2, y2, x3, x4, y3⟩
  · obtain ⟨⟨S2, e, -⟩, -⟩ := p
    cases e
theorem h_refresh (hT : TV T S) (hm : TI Tm m) (h : FR S m) (a c : Int32) : H2 (f_K_refresh S (some 4) a c) (f_M_refresh m (some 57) a c) (fun x y => AN [eX, eA, eS] x.1 y.1 (sI y.2 57 82) ∧ P_ref x.2 y.2) := by
  have b := FR_BB hT hm h
  have hmf := MF_of hm
  have hmf0 := MF_of (TI_t hm 0)
  have k4 := K4F_of hT.1
  have h0 := FR_t hT hm h 0
  have no1 : H2 (some ((Sum.inr eX : Int32 ⊕ String), wX S)) (f_M_refresh_B28 m (some 57) a c 0) (fun x y => AN [eX, eA, eS] x.1 y.1 (sI y.2 57 82) ∧ P_ref x.2 y.2) := by
    unfold f_M_refresh_B28 f_M_refresh_B29 f_M_refresh_B67 f_M_refresh_B68 f_M_refresh_B94 f_M_refresh_B95 f_M_refresh_B116 f_M_refresh_B121
    refine m_of (st_T rfl) (m_of (st_T rfl) (m_of (st_T rfl) (m_of st_rv (m_p2 p_mayA (fun w m' e => ?_)))))
    rw [if_pos rfl] at e
    cases e
    exact m_of (st_T rfl) (h2_ret ⟨AN_e 0 rfl (ti_sI_eq _ _ _ _), FR_ref (FR_X hT (TI_t hm 1) (FR_t hT hm h 1))⟩)
  have no2 : ∀ y, H2 (some ((Sum.inr eA : Int32 ⊕ String), wX S)) (f_M_refresh_B68 m (some 57) a c 1 0 y) (fun x y => AN [eX, eA, eS] x.1 y.1 (sI y.2 57 82) ∧ P_ref x.2 y.2) := fun y => by
    unfold f_M_refresh_B68 f_M_refresh_B94 f_M_refresh_B95 f_M_refresh_B116 f_M_refresh_B121
    refine m_of (st_T rfl) (m_of (st_T rfl) (m_of st_rv (m_p2 p_mayA (fun w m' e => ?_))))
    rw [if_neg one0, if_pos rfl] at e
    cases e
    exact m_of (st_T rfl) (h2_ret ⟨AN_e 1 rfl (ti_sI_eq _ _ _ _), FR_ref (FR_X hT (TI_t hm 2) (FR_t hT hm h 2))⟩)
  have dead : H2 (some ((Sum.inl (-1) : Int32 ⊕ String), S)) (f_M_refresh_B68 m (some 57) a c 1 1 0) (fun x y => AN [eX, eA, eS] x.1 y.1 (sI y.2 57 82) ∧ P_ref x.2 y.2) := by
    unfold f_M_refresh_B68 f_M_refresh_B94 f_M_refresh_B95 f_M_refresh_B116 f_M_refresh_B121
    refine m_of (st_F one0) (m_of (st_T rfl) (m_of (st_T rfl) (m_of st_rv (m_p2 p_mayA (fun w m' e => ?_)))))
    rw [if_neg one0, if_neg one0, if_neg one0] at e
    cases e
    exact m_of (st_F one0) (m_of (st_T rfl) (h2_ret ⟨AN_v (ti_sI_eq _ _ _ _), FR_ref h0⟩))
  unfold f_K_refresh f_M_refresh
  refine l_of st_rv (m_of st_rv (m_p2 (x_MF b a) (fun w S2 p => ?_)))
  refine l_bx (fun v' S' e => ?_) (fun v' S' e => ?_)
  · rcases x_fF b a _ e with ⟨f, f1, ea, e2⟩ | ⟨no, e2⟩
    · cases e2
      rcases p with ⟨-, p2⟩ | ⟨p1, -⟩
      · cases p2
        have f60 : nF m ≤ 60 := (zF b).1
        have ai : a.toNatClampNeg = f := by rw [ea]; exact oc (by omega)
        obtain ⟨q7, q8, q9⟩ := h.Num f f1
        have gd := (h.God.2 f f1).1
        obtain ⟨cc, c1, ec, c99, c98, -⟩ := h.Fam.2 f f1
        obtain ⟨-, ⟨s, s1, ks, m93⟩, -⟩ := h.Cod.2 cc c1
        rw [← ec] at ks
        have c60 : cc < 60 := by
          have := (zC b).1
          unfold nC at c1
          omega
        have s60 : s < 60 := by
          have := (zS b).1
          unfold nS at s1
          omega
        have lv := (h.Liv.1 s s1).1
        refine l_of (st_gIe q7) (l_of (st_b2 (q_win S c 0 _)) (m_of (st_F one0) (m_of (st_gRe (hmf 48 100 rfl)) (m_of (st_aIe (v := sI m 100 f) ai rfl) (m_of (st_b2 (q_isIn m c 0 _)) ?_)))))
        by_cases d0 : 0 ≤ c ∧ c ≤ sI m 100 f
        · rw [if_pos d0]
          refine l_of (st_bx (rA1 S)) (l_of (st_gIe gd) (m_of (st_F one0) ?_))
          unfold f_M_refresh_B29 f_M_refresh_B67
          refine m_of (st_F one0) (m_of (st_gRe (hmf 51 103 rfl)) (m_of (st_aIe (v := sI m 103 f) ai rfl) ?_))
          by_cases d1 : sI m 103 f = 0
          · exact l_of (st_T d1) (m_of (st_T d1) dead)
          · refine l_of (st_F d1) (m_of (st_F d1) (l_of (st_gRe ks) (l_of (st_gIe lv) ?_)))
            refine m_of (st_gRe (hmf 35 89 rfl)) (m_of (st_gRe (hmf 40 93 rfl)) (m_of (st_gRe (hmf 47 99 rfl)) (m_of (st_aIe (v := Int32.ofNat cc) ai c99) (m_of (st_aIe (v := Int32.ofNat s) (oc (by omega)) m93) (m_of (st_aIe (v := sI m 89 s) (oc (by omega)) rfl) ?_)))))
            by_cases d2 : sI m 89 s = 0
            · exact l_of (st_T d2) (m_of (st_T d2) dead)
            · refine l_of (st_F d2) (m_of (st_F d2) (l_of (st_gIe q7) ?_))
              unfold f_M_refresh_B68
              refine m_of (st_F one0) (m_of (st_F one0) (m_of (st_gRe (hmf 48 100 rfl)) (m_of (st_aIe (v := sI m 100 f) ai rfl) ?_)))
              have zT' := zT b
              have n200 : nT m ≤ 200 := zT'.1
              by_cases d3 : c = sI m 100 f
              · refine l_of (st_T d3) (m_of (st_T d3) (l_of (st_gRe (k4.1 14 24 rfl)) (l_of st_rv (l_of st_size ?_))))
                rw [zT'.2.2, show sI m 57 52 = Int32.ofNat (nT m) from zT'.2.1]
                unfold f_M_refresh_B95
                refine m_of (st_F one0) (m_of (st_gIe (v := Int32.ofNat (nT m)) zT'.2.1) ?_)
                by_cases d4 : (200 : Int32) ≤ Int32.ofNat (nT m)
                · refine l_of (st_T d4) (m_of (st_T d4) ?_)
                  unfold f_K_refresh_B63 f_M_refresh_B121
                  refine l_of (st_bxe (rS0 S)) (m_of st_rv (m_p2 p_mayA (fun w m' e => ?_)))
                  rw [if_neg one0, if_neg one0, if_pos rfl] at e
                  cases e
                  exact m_of (st_T rfl) (h2_ret ⟨AN_e 2 rfl (ti_sI_eq _ _ _ _), FR_ref (FR_X hT (TI_t hm 3) (FR_t hT hm h 3))⟩)
                · refine l_of (st_F d4) (m_of (st_F d4) ?_)
                  unfold f_M_refresh_B116 f_M_refresh_B121
                  refine m_of st_rv (m_p2 p_mayA (fun w m' e => ?_))
                  rw [if_neg one0, if_neg one0, if_neg one0] at e
                  cases e
                  have enT : nT (wI m 57 82 0) = nT m := by
                    unfold nT
                    rw [lv0 m (by omega) 0]
                  have enF : nF (wI m 57 82 0) = nF m := by
                    unfold nF
                    rw [lv0 m (by omega) 0]
                  refine m_of (st_F one0) (m_of (st_F one0) (m_of (st_F one0) ?_))
                  rw [ea]
                  exact rot_go hT (TI_t hm 0) h0 (ti_sI_eq _ _ _ _) (by rw [enF]; exact f1) (by rw [enT]; exact Nat.not_le.mp (fun q => d4 ((ole (a := 200) (by decide) (by omega)).mpr q)))
              · refine l_of (st_F d3) (m_of (st_F d3) (l_of (st_gIe q7) ?_))
                unfold f_M_refresh_B94 f_M_refresh_B95 f_M_refresh_B116 f_M_refresh_B121
                refine m_of (st_T rfl) (m_of st_rv (m_p2 p_mayA (fun w m' e => ?_)))
                rw [if_neg one0, if_neg one0, if_neg one0] at e
                cases e
                have enF : nF (wI m 57 82 0) = nF m := by
                  unfold nF
                  rw [lv0 m (by omega) 0]
                have ends := ef_go hT (TI_t hm 0) h0 (ti_sI_eq _ _ _ _) (f := f) (by rw [enF]; exact f1)
                rw [← ea] at ends
                refine m_of (st_F one0) (m_of (st_F one0) (m_of (st_T rfl) (m_of (st_gRe (hmf0 48 100 rfl)) (m_of (st_aIe (v := sI m 100 f) ai (lv0 m (by omega) 0)) ?_))))
                by_cases d5 : c = sI m 100 f - 1
                · refine l_of (st_T d5) (m_of (st_T d5) (l_of (st_gIe h.NW.1) ?_))
                  have ne : sI m 100 f ≠ 0 := fun z => by
                    rw [z] at d5
                    rw [d5] at d0
                    exact absurd d0.1 (by decide)
                  refine l_of (st_gIe (q8 ne)) (m_of (st_gIe (v := sI m 57 0) (lv0 m (by omega) 0)) (m_of (st_gRe (hmf0 49 101 rfl)) (m_of (st_aIe (v := sI m 101 f) ai (lv0 m (by omega) 0)) ?_)))
                  by_cases d6 : (1 : Int32) < sI m 57 0 - sI m 101 f
                  · exact l_of (st_T d6) (m_of (st_T d6) ends)
                  · exact l_of (st_F d6) (m_of (st_F d6) (l_of (st_gIe q7) (m_of (st_gRe (hmf0 48 100 rfl)) (m_of (st_aIe (v := sI m 100 f) ai (lv0 m (by omega) 0)) (h2_ret ⟨AN_v (ti_sI_eq _ _ _ _), FR_ref h0⟩)))))
                · exact l_of (st_F d5) (m_of (st_F d5) ends)
        · rw [if_neg d0]
          refine l_of (st_bxe (rA0 S)) (m_of (st_T rfl) ?_)
          unfold f_M_refresh_B28 f_M_refresh_B29 f_M_refresh_B67
          refine m_of (st_F one0) (m_of (st_gRe (hmf 51 103 rfl)) (m_of st_aI (m_if (fun _ => no2 0) (fun _ => ?_))))
          exact m_of (st_gRe (hmf 35 89 rfl)) (m_of (st_gRe (hmf 40 93 rfl)) (m_of (st_gRe (hmf 47 99 rfl)) (m_of st_aI (m_of st_aI (m_of st_aI (m_if (fun _ => no2 0) (fun _ => no2 1)))))))
      · exact absurd ⟨f, f1, ea⟩ p1
    · cases e2
  · rcases x_fF b a _ e with ⟨f, f1, ea, e2⟩ | ⟨no, e2⟩
    · cases e2
    · cases e2
      rcases p with ⟨p1, -⟩ | ⟨-, p2⟩
      · exact absurd p1 no
      · cases p2
        exact m_of (st_T rfl) no1
end
