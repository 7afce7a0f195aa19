section
variable {T Tm : Nat → Nat} {S m : AS}
theorem h_exchange (hT : TV T S) (hm : TI Tm m) (h : FR S m) (a c sc : Int32) : H2 (f_K_exchange S (some 4) a c sc) (f_M_exchange m (some 57) a c sc) (fun x y => AN [eX, eA, eS] x.1 y.1 (sI y.2 57 82) ∧ P_tok x.2 y.2) := by
  have b := FR_BB hT hm h
  have hmf := MF_of hm
  have k4 := K4F_of hT.1
  have no1 : H2 (some ((Sum.inr eX : Int32 ⊕ String), wX S)) (f_M_exchange_B20 m (some 57) a c sc 0) (fun x y => AN [eX, eA, eS] x.1 y.1 (sI y.2 57 82) ∧ P_tok x.2 y.2) := by
    unfold f_M_exchange_B20 f_M_exchange_B54 f_M_exchange_B55 f_M_exchange_B113 f_M_exchange_B114
    refine m_of (st_T rfl) (m_of (st_T rfl) (m_of st_rv (m_p2 p_mayA (fun w m' e => ?_))))
    rw [if_pos rfl] at e
    cases e
    exact m_of (st_T rfl) (h2_ret ⟨AN_e 0 rfl (ti_sI_eq _ _ _ _), FR_tok (FR_X hT (TI_t hm 1) (FR_t hT hm h 1))⟩)
  have no2 : ∀ y, H2 (some ((Sum.inr eA : Int32 ⊕ String), wX S)) (f_M_exchange_B114 m (some 57) a c sc 1 0 y) (fun x y => AN [eX, eA, eS] x.1 y.1 (sI y.2 57 82) ∧ P_tok x.2 y.2) := fun y => by
    unfold f_M_exchange_B114
    refine m_of st_rv (m_p2 p_mayA (fun w m' e => ?_))
    rw [if_neg one0, if_pos rfl] at e
    cases e
    exact m_of (st_T rfl) (h2_ret ⟨AN_e 1 rfl (ti_sI_eq _ _ _ _), FR_tok (FR_X hT (TI_t hm 2) (FR_t hT hm h 2))⟩)
  have no2' : H2 (some ((Sum.inr eA : Int32 ⊕ String), wX S)) (f_M_exchange_B54 m (some 57) a c sc 1) (fun x y => AN [eX, eA, eS] x.1 y.1 (sI y.2 57 82) ∧ P_tok x.2 y.2) := by
    unfold f_M_exchange_B54 f_M_exchange_B55 f_M_exchange_B113
    refine m_of (st_F one0) (m_of st_gI (m_of (st_gRe (hmf 59 110 rfl)) (m_of st_aI (m_if (fun _ => no2 0) (fun _ => ?_)))))
    refine m_of (st_gRe (hmf 51 103 rfl)) (m_of (st_gRe (hmf 57 108 rfl)) (m_of st_aI (m_of st_aI (m_if (fun _ => no2 0) (fun _ => ?_)))))
    exact m_of (st_gRe (hmf 56 107 rfl)) (m_of st_aI (m_if (fun _ => no2 0) (fun _ => m_of st_gI (m_if (fun _ => no2 0) (fun _ => no2 1)))))
  have no3 : H2 (some ((Sum.inr eS : Int32 ⊕ String), wX S)) (f_M_exchange_B113 m (some 57) a c sc 1 1) (fun x y => AN [eX, eA, eS] x.1 y.1 (sI y.2 57 82) ∧ P_tok x.2 y.2) := by
    unfold f_M_exchange_B113 f_M_exchange_B114
    refine m_of st_rv (m_p2 p_mayA (fun w m' e => ?_))
    rw [if_neg one0, if_neg one0, if_pos rfl] at e
    cases e
    exact m_of (st_T rfl) (h2_ret ⟨AN_e 2 rfl (ti_sI_eq _ _ _ _), FR_tok (FR_X hT (TI_t hm 3) (FR_t hT hm h 3))⟩)
  have k40 : ∀ x y, Le (f_K_exchange_B40 S (some 4) c sc x y) (some ((Sum.inr eA : Int32 ⊕ String), wX S)) := fun x y q hq => by
    unfold f_K_exchange_B40 f_K_exchange_B41 at hq
    exact st_bxe (rA0 S) q hq
  have k80 : ∀ x y, Le (f_K_exchange_B80 S (some 4) c sc x y) (some ((Sum.inr eS : Int32 ⊕ String), wX S)) := fun x y q hq => by
    unfold f_K_exchange_B80 f_K_exchange_B81 at hq
    exact st_bxe (rS0 S) q hq
  unfold f_K_exchange f_M_exchange f_M_exchange_B19
  refine l_of st_rv (m_of st_rv (m_p2 (x_MT b a) (fun w S2 p => ?_)))
  refine l_bx (fun v' S' e => ?_) (fun v' S' e => ?_)
  · rcases x_fT b a _ e with ⟨t, t1, ea, e2⟩ | ⟨no, e2⟩
    · cases e2
      rcases p with ⟨-, p2⟩ | ⟨p1, -⟩
      · cases p2
        refine m_of (st_F one0) (m_of (st_b2 (q_ser m c)) (l_of st_rv (l_bx (fun v' S' e => ?_) (fun v' S' e => ?_))))
        · rcases x_fV b c _ e with ⟨v, v4, ec, e2⟩ | ⟨-, e2⟩
          · cases e2
            rw [if_pos ((fou_iff _).mpr ⟨v, v4, ec⟩)]
            refine m_of (st_F one0) ?_
            unfold f_M_exchange_B20
            have zT' := zT b
            have n200 : nT m ≤ 200 := zT'.1
            have ai : a.toNatClampNeg = t := by rw [ea]; exact oc (by omega)
            obtain ⟨⟨f, f1, f2, f3⟩, -, -, g3, g4, -, g6, -⟩ := h.Tok.2 t t1
            have f60 : nF m ≤ 60 := (zF b).1
            have gd := (h.God.2 f f1).1
            refine l_of (st_b2 (q_win S sc 1 15)) (m_of (st_F one0) (m_of (st_b2 (q_isIn m sc 1 15)) ?_))
            by_cases cs : 1 ≤ sc ∧ sc ≤ 15
            · rw [if_pos cs]
              refine l_of (st_F one0) (m_of (st_F one0) (l_of (st_gIe g3) (m_of (st_gRe (hmf 55 106 rfl)) (m_of (st_aIe (v := sI m 106 t) ai rfl) ?_))))
              by_cases d1 : (sc &&& (sI m 106 t ^^^ (-1 : Int32))) = 0
              · refine l_of (st_T d1) (m_of (st_T d1) ?_)
                unfold f_K_exchange_B41 f_M_exchange_B55
                refine l_of (st_bx (rA1 S)) (l_of (st_gIe h.NW.1) (l_of (st_gIe g6) (m_of (st_F one0) (m_of st_gI (m_of (st_gRe (hmf 59 110 rfl)) (m_of (st_aIe (v := sI m 110 t) ai rfl) ?_))))))
                by_cases c1 : sI m 110 t < sI m 57 0
                · exact l_of (st_T c1) (m_of (st_T c1) (l_of (k80 _ _) no3))
                · refine l_of (st_F c1) (m_of (st_F c1) (l_of (st_gRe f2) (l_of (st_gIe gd) ?_)))
                  refine m_of (st_gRe (hmf 51 103 rfl)) (m_of (st_gRe (hmf 57 108 rfl)) (m_of (st_aIe (v := Int32.ofNat f) ai f3) (m_of (st_aIe (v := sI m 103 f) (oc (by omega)) rfl) ?_)))
                  by_cases c2 : sI m 103 f = 0
                  · exact l_of (st_T c2) (m_of (st_T c2) (l_of (k80 _ _) no3))
                  · refine l_of (st_F c2) (m_of (st_F c2) (l_of (st_gIe g4) (m_of (st_gRe (hmf 56 107 rfl)) (m_of (st_aIe (v := sI m 107 t) ai rfl) ?_))))
                    by_cases c3 : (3 : Int32) ≤ sI m 107 t
                    · exact l_of (st_T c3) (m_of (st_T c3) (l_of (k80 _ _) no3))
                    · refine l_of (st_F c3) (m_of (st_F c3) ?_)
                      unfold f_K_exchange_B81
                      refine l_of (st_bx (rS1 S)) (l_of (st_gRe (k4.1 14 24 rfl)) (l_of st_rv (l_of st_size ?_)))
                      rw [zT'.2.2, show sI m 57 52 = Int32.ofNat (nT m) from zT'.2.1]
                      refine m_of (st_gIe (v := Int32.ofNat (nT m)) zT'.2.1) ?_
                      by_cases c4 : (200 : Int32) ≤ Int32.ofNat (nT m)
                      · refine l_of (st_T c4) (m_of (st_T c4) ?_)
                        unfold f_K_exchange_B102
                        exact l_of (st_bxe (rS0 S)) no3
                      · refine l_of (st_F c4) (m_of (st_F c4) ?_)
                        have lt200 : nT m < 200 := Nat.not_le.mp (fun q => c4 ((ole (a := 200) (by decide) (by omega)).mpr q))
                        unfold f_M_exchange_B114
                        refine m_of st_rv (m_p2 p_mayA (fun w m' e => ?_))
                        rw [if_neg one0, if_neg one0, if_neg one0] at e
                        cases e
                        have enT : nT (wI m 57 82 0) = nT m := by
                          unfold nT
                          rw [lv0 m (by omega) 0]
                        rw [ea, ec]
                        exact m_of (st_F one0) (ex_go hT (TI_t hm 0) (FR_t hT hm h 0) (ti_sI_eq _ _ _ _) (by rw [enT]; exact t1) v4 (by rw [enT]; exact lt200))
              · exact l_of (st_F d1) (m_of (st_F d1) (l_of (k40 _ _) no2'))
            · rw [if_neg cs]
              exact l_of (st_T rfl) (m_of (st_T rfl) (l_of (k40 _ _) no2'))
          · cases e2
        · rcases x_fV b c _ e with ⟨v, v4, ec, e2⟩ | ⟨no', e2⟩
          · cases e2
          · cases e2
            rw [if_neg (fun q => no' ((fou_iff _).mp q))]
            exact m_of (st_T rfl) no1
      · exact absurd ⟨t, t1, ea⟩ p1
    · cases e2
  · rcases x_fT b a _ e with ⟨t, t1, ea, e2⟩ | ⟨no, e2⟩
    · cases e2
    · cases e2
      rcases p with ⟨p1, -⟩ | ⟨-, p2⟩
      · exact absurd p1 no
      · cases p2
        exact m_of (st_T rfl) no1
end
