section
variable {T Tm : Nat → Nat} {S m : AS}
theorem h_answer (hT : TV T S) (hm : TI Tm m) (hM : MI m) (hph : Ph m ≤ 1100) (h : FR S m) (a r v : Int32) : H2 (f_K_answer S (some 4) a r v) (f_M_answer m (some 57) a r v) (fun x y => AN [eX, eA, eS] x.1 y.1 (sI y.2 57 82) ∧ P_ans x.2 y.2) := by
  have b := FR_BB hT hm h
  have hmf := MF_of hm
  have no1 : ∀ y2 y3, H2 (some ((Sum.inr eX : Int32 ⊕ String), wX S)) (f_M_answer_B37 m (some 57) a r v (some 57) 0 y2 y3) (fun x y => AN [eX, eA, eS] x.1 y.1 (sI y.2 57 82) ∧ P_ans x.2 y.2) := fun y2 y3 => by
    unfold f_M_answer_B37
    refine m_of st_rv (m_p2 p_mayA (fun w m' e => ?_))
    rw [if_pos rfl] at e
    cases e
    exact m_of (st_T rfl) (h2_ret ⟨AN_e 0 rfl (ti_sI_eq _ _ _ _), FR_ans (FR_X hT (TI_t hm 1) (FR_t hT hm h 1))⟩)
  have no2 : ∀ y3, H2 (some ((Sum.inr eA : Int32 ⊕ String), wX S)) (f_M_answer_B37 m (some 57) a r v (some 57) 1 0 y3) (fun x y => AN [eX, eA, eS] x.1 y.1 (sI y.2 57 82) ∧ P_ans x.2 y.2) := fun y3 => by
    unfold f_M_answer_B37
    refine m_of st_rv (m_p2 p_mayA (fun w m' e => ?_))
    rw [if_neg one0, if_pos rfl] at e
    cases e
    exact m_of (st_T rfl) (h2_ret ⟨AN_e 1 rfl (ti_sI_eq _ _ _ _), FR_ans (FR_X hT (TI_t hm 2) (FR_t hT hm h 2))⟩)
  have no3 : H2 (some ((Sum.inr eS : Int32 ⊕ String), wX S)) (f_M_answer_B37 m (some 57) a r v (some 57) 1 1 0) (fun x y => AN [eX, eA, eS] x.1 y.1 (sI y.2 57 82) ∧ P_ans x.2 y.2) := by
    unfold f_M_answer_B37
    refine m_of st_rv (m_p2 p_mayA (fun w m' e => ?_))
    rw [if_neg one0, if_neg one0, if_pos rfl] at e
    cases e
    exact m_of (st_T rfl) (h2_ret ⟨AN_e 2 rfl (ti_sI_eq _ _ _ _), FR_ans (FR_X hT (TI_t hm 3) (FR_t hT hm h 3))⟩)
  unfold f_K_answer f_M_answer
  refine l_of st_rv (m_of st_rv (m_p2 (x_MA b a) (fun w S2 p => ?_)))
  refine l_bx (fun v' S' e => ?_) (fun v' S' e => ?_)
  · rcases x_fA b a _ e with ⟨s, s1, ea, e2⟩ | ⟨no, e2⟩
    · cases e2
      rcases p with ⟨-, p2⟩ | ⟨p1, -⟩
      · cases p2
        have h60 : uA m ≤ 60 := (zA b).1
        have ai : a.toNatClampNeg = s := by rw [ea]; exact oc (by omega)
        have c5 := (h.Ast.2 s s1).1
        refine l_of (st_b2 (q_win S v 0 9999)) (m_of (st_b2 (q_isIn m v 0 9999)) (m_of (st_F one0) (m_of (st_gRe (hmf 25 80 rfl)) (m_of (st_aIe (v := sI m 80 s) ai rfl) ?_))))
        by_cases c : 0 ≤ v ∧ v ≤ 9999
        · rw [if_pos c]
          refine l_of (st_bx (rA1 S)) (l_of (st_gIe c5) ?_)
          by_cases d : sI m 80 s = 0
          · refine l_of (st_T d) (m_of (st_T d) ?_)
            unfold f_M_answer_B37
            refine m_of st_rv (m_p2 p_mayA (fun w m' e => ?_))
            rw [if_neg one0, if_neg one0, if_neg one0] at e
            cases e
            refine m_of (st_F one0) ?_
            have uA0 : uA (wI m 57 82 0) = uA m := by
              unfold uA
              rw [lv0 m (by omega) 0]
            rw [ea]
            exact an_go hT (TI_t hm 0) (MI_t hm hM 0) (by rw [Ph_wI hm.t9 hm.t9.1 (by unfold phc; omega)]; exact hph) (FR_t hT hm h 0) (ti_sI_eq _ _ _ _) (by rw [uA0]; exact s1) ((lv0 m (by omega) 0).trans d) r v
          · refine l_of (st_F d) (m_of (st_F d) ?_)
            unfold f_K_answer_B31 f_M_answer_B36
            exact l_of (st_bxe (rS0 S)) no3
        · rw [if_neg c]
          refine l_of (st_bxe (rA0 S)) ?_
          unfold f_M_answer_B36
          exact m_if (fun _ => no2 1) (fun _ => no2 0)
      · exact absurd ⟨s, s1, ea⟩ p1
    · cases e2
  · rcases x_fA b a _ e with ⟨s, s1, ea, e2⟩ | ⟨no, e2⟩
    · cases e2
    · cases e2
      rcases p with ⟨p1, -⟩ | ⟨-, p2⟩
      · exact absurd p1 no
      · cases p2
        unfold f_M_answer_B36
        exact m_of (st_b2 (q_isIn m v 0 9999)) (m_of (st_T rfl) (no1 _ 0))
end
