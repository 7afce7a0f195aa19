section
variable {T Tm : Nat → Nat} {S m : AS}
theorem h_redeem (hT : TV T S) (hm : TI Tm m) (h : FR S m) (a : Int32) : H2 (f_K_redeem S (some 4) a) (f_M_redeem m (some 57) a) (fun x y => AN [eX, eS] x.1 y.1 (sI y.2 57 82) ∧ P_red x.2 y.2) := by
  have b := FR_BB hT hm h
  have hmf := MF_of hm
  have hmf0 := MF_of (TI_t hm 0)
  have k4 := K4F_of hT.1
  have h0 := FR_t hT hm h 0
  obtain ⟨zC1, zC2, zC3⟩ := zC b
  have nC60 : nC m ≤ 60 := zC1
  have nT200 : nT m ≤ 200 := (zT b).1
  have nF60 : nF m ≤ 60 := (zF b).1
  have nS60 : nS m ≤ 60 := (zS b).1
  have r22 := k4.1 12 22 rfl
  have sC : sI S 22 2 = Int32.ofNat (nC m) := zC3.trans zC2
  have enC : nC (wI m 57 82 0) = nC m := by
    unfold nC
    rw [lv0 m (by omega) 0]
  have enT : nT (wI m 57 82 0) = nT m := by
    unfold nT
    rw [lv0 m (by omega) 0]
  have enF : nF (wI m 57 82 0) = nF m := by
    unfold nF
    rw [lv0 m (by omega) 0]
  have no1 : ∀ c, H2 (some ((Sum.inr eX : Int32 ⊕ String), wX S)) (f_M_redeem_B59 m (some 57) c 0) (fun x y => AN [eX, eS] x.1 y.1 (sI y.2 57 82) ∧ P_red x.2 y.2) := fun c => by
    unfold f_M_redeem_B59 f_M_redeem_B60 f_M_redeem_B77 f_M_redeem_B82
    refine m_of (st_T rfl) (m_of st_rv (m_p2 p_mayB (fun v m' e => ?_)))
    rw [if_pos rfl] at e
    cases e
    exact m_of (st_T rfl) (h2_ret ⟨AN_e 0 rfl (ti_sI_eq _ _ _ _), FR_red (FR_X hT (TI_t hm 1) (FR_t hT hm h 1))⟩)
  unfold f_K_redeem f_M_redeem
  refine l_of (st_gRe r22) (l_of st_rv (l_of st_size ?_))
  rw [sC]
  refine m_of (st_gIe (v := Int32.ofNat (nC m)) zC2) (m_of (st_b2 (q_isIn m a 0 _)) ?_)
  refine l_bx (fun v' S' e => ?_) (fun v' S' e => ?_)
  · rcases p_rI _ e with ⟨h1, h2, e2⟩ | ⟨-, e2⟩
    · cases e2
      rw [oi (by omega)] at h2
      obtain ⟨c, c1, rfl⟩ := (IX_iff (n := nC m) (by omega)).mpr ⟨h1, h2⟩
      rw [if_pos ((IX_sub (n := nC m) (by omega)).mpr ⟨c, c1, rfl⟩)]
      have ci : (Int32.ofNat c).toNatClampNeg = c := oc (by omega)
      obtain ⟨-, ⟨s, s1, ks, m93⟩, -, -, -, g4, g5, g6⟩ := h.Cod.2 c c1
      have lv := (h.Liv.1 s s1).1
      refine m_of (st_F one0) (m_of (st_gRe (hmf 45 98 rfl)) (m_of (st_aIe (v := sI m 98 c) ci rfl) ?_))
      refine l_of (st_gRe r22) (l_of st_rv (l_of (st_get ci (atC b c1)) (l_of st_cc (l_of (st_gIe g5) ?_))))
      by_cases d0 : sI m 98 c = -1
      · have dead : H2 (some ((Sum.inl (-1) : Int32 ⊕ String), S)) (f_M_redeem_B59 m (some 57) (Int32.ofNat c) 1) (fun x y => AN [eX, eS] x.1 y.1 (sI y.2 57 82) ∧ P_red x.2 y.2) := by
          unfold f_M_redeem_B59 f_M_redeem_B60 f_M_redeem_B77 f_M_redeem_B82
          refine m_of (st_T rfl) (m_of st_rv (m_p2 p_mayB (fun v m' e => ?_)))
          rw [if_neg one0, if_neg one0] at e
          cases e
          exact m_of (st_F one0) (m_of (st_T rfl) (m_of (st_gRe (hmf0 45 98 rfl)) (m_of (st_aIe (v := -1) ci ((lv0 m (by omega) 0).trans d0)) (m_of (st_T rfl) (h2_ret ⟨AN_v (ti_sI_eq _ _ _ _), FR_red h0⟩)))))
        refine l_of (st_T d0) (m_of (st_T d0) (l_of (st_gRe ks) (l_of (st_gIe lv) ?_)))
        refine m_of (st_gIe (v := sI m 57 0) rfl) (m_of (st_gRe (hmf 44 97 rfl)) (m_of (st_aIe (v := sI m 97 c) ci rfl) ?_))
        by_cases d1 : sI m 89 s = 0
        · refine l_of (st_T d1) (m_if (fun _ => dead) (fun _ => ?_))
          exact m_of (st_gRe (hmf 35 89 rfl)) (m_of (st_gRe (hmf 40 93 rfl)) (m_of (st_aIe (v := Int32.ofNat s) ci m93) (m_of (st_aIe (v := sI m 89 s) (oc (by omega)) rfl) (m_of (st_T d1) dead))))
        · refine l_of (st_F d1) (l_of (st_gIe h.NW.1) (l_of (st_gIe g4) ?_))
          by_cases d2 : (5 : Int32) < sI m 57 0 - sI m 97 c
          · exact l_of (st_F (Int32.not_le.mpr d2)) (m_of (st_T d2) dead)
          · refine l_of (st_T (Int32.not_lt.mp d2)) (m_of (st_F d2) ?_)
            refine m_of (st_gRe (hmf 35 89 rfl)) (m_of (st_gRe (hmf 40 93 rfl)) (m_of (st_aIe (v := Int32.ofNat s) ci m93) (m_of (st_aIe (v := sI m 89 s) (oc (by omega)) rfl) (m_of (st_F d1) ?_))))
            refine l_of (st_gRe (k4.1 14 24 rfl)) (l_of st_rv (l_of st_size ?_))
            rw [(zT b).2.2, show sI m 57 52 = Int32.ofNat (nT m) from (zT b).2.1]
            unfold f_M_redeem_B60
            refine m_of (st_F one0) (m_of (st_gIe (v := Int32.ofNat (nT m)) (zT b).2.1) ?_)
            by_cases d4 : (200 : Int32) ≤ Int32.ofNat (nT m)
            · refine l_of (st_T d4) (m_of (st_T d4) ?_)
              unfold f_K_redeem_B81 f_M_redeem_B82
              refine l_of (st_bxe (rS0 S)) (m_of st_rv (m_p2 p_mayB (fun w m' e => ?_)))
              rw [if_neg one0, if_pos rfl] at e
              cases e
              exact m_of (st_T rfl) (h2_ret ⟨AN_e 1 rfl (ti_sI_eq _ _ _ _), FR_red (FR_X hT (TI_t hm 2) (FR_t hT hm h 2))⟩)
            · refine l_of (st_F d4) (m_of (st_F d4) ?_)
              unfold f_M_redeem_B77 f_M_redeem_B82
              refine m_of st_rv (m_p2 p_mayB (fun w m' e => ?_))
              rw [if_neg one0, if_neg one0] at e
              cases e
              refine m_of (st_F one0) (m_of (st_F one0) ?_)
              exact mf_go hT (TI_t hm 0) h0 (ti_sI_eq _ _ _ _) (by rw [enC]; exact c1) ((lv0 m (by omega) 0).trans d0) (by rw [enT]; exact Nat.not_le.mp (fun q => d4 ((ole (a := 200) (by decide) (by omega)).mpr q)))
      · refine l_of (st_F d0) (m_of (st_F d0) (l_of st_rv ?_))
        rcases g6 with g6 | ⟨f, f1, g6⟩
        · exact absurd g6 d0
        · obtain ⟨c', c1', c2, c3, c4, c5⟩ := h.Fam.2 f f1
          have := c5 c c1 g6
          subst this
          rw [← c2]
          unfold f_M_redeem_B59 f_M_redeem_B60 f_M_redeem_B77 f_M_redeem_B82
          refine m_of (st_T rfl) (m_of st_rv (m_p2 p_mayB (fun v m' e => ?_)))
          rw [if_neg one0, if_neg one0] at e
          cases e
          have x98 : sI (wI m 57 82 0) 98 c = Int32.ofNat f := (lv0 m (by omega) 0).trans g6
          refine m_of (st_F one0) (m_of (st_T rfl) (m_of (st_gRe (hmf0 45 98 rfl)) (m_of (st_aIe (v := Int32.ofNat f) ci x98) (m_of (st_F (fun q => d0 (g6.trans q))) (m_of (st_gRe (hmf0 45 98 rfl)) (m_of (st_aIe (v := Int32.ofNat f) ci x98) (m_of st_rv ?_)))))))
          exact ef_red hT (TI_t hm 0) h0 (ti_sI_eq _ _ _ _) (by rw [enF]; exact f1)
    · cases e2
  · rcases p_rI _ e with ⟨h1, h2, e2⟩ | ⟨h1, e2⟩
    · cases e2
    · cases e2
      rw [oi (by omega)] at h1
      rw [if_neg (fun q => h1 ((IX_iff (n := nC m) (by omega)).mp ((IX_sub (n := nC m) (by omega)).mp q)))]
      exact m_of (st_T rfl) (no1 a)
end
