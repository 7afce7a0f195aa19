section
variable {T Tm : Nat → Nat} {S m : AS}
theorem MI_t (hm : TI Tm m) (hM : MI m) (v : Int32) : MI (wI m 57 82 v) := MI_fr hM (thr_Rl hm (x := some 57) ⟨_, rfl, hm.t9.1, by decide⟩ v) (x := some 57) ⟨_, rfl, hm.t9.1, by decide⟩ (by decide)
theorem h_begin (hT : TV T S) (hm : TI Tm m) (hM : MI m) (h : FR S m) (a c e : Int32) : H2 (f_K_begin S (some 4) a c e) (f_M_begin m (some 57) a c e) (fun x y => AN [eX, eS] x.1 y.1 (sI y.2 57 82) ∧ P_beg x.2 y.2) := by
  have b := FR_BB hT hm h
  have hmf := MF_of hm
  have k4 := K4F_of hT.1
  have no1 : H2 (some ((Sum.inr eX : Int32 ⊕ String), wX S)) (f_M_begin_B25 m (some 57) a c e) (fun x y => AN [eX, eS] x.1 y.1 (sI y.2 57 82) ∧ P_beg x.2 y.2) := by
    unfold f_M_begin_B25 f_M_begin_B26 f_M_begin_B65 f_M_begin_B66
    refine m_of (st_T rfl) (m_of st_rv (m_p2 p_mayB (fun v m' p => ?_)))
    rw [if_pos rfl] at p
    cases p
    exact m_of (st_T rfl) (h2_ret ⟨AN_e 0 rfl (ti_sI_eq _ _ _ _), FR_beg (FR_X hT (TI_t hm 1) (FR_t hT hm h 1))⟩)
  have no2 : H2 (some ((Sum.inr eS : Int32 ⊕ String), wX S)) (f_M_begin_B65 m (some 57) a c e (some 57) 1) (fun x y => AN [eX, eS] x.1 y.1 (sI y.2 57 82) ∧ P_beg x.2 y.2) := by
    unfold f_M_begin_B65 f_M_begin_B66
    refine m_of st_rv (m_p2 p_mayB (fun v m' p => ?_))
    rw [if_neg one0, if_pos rfl] at p
    cases p
    exact m_of (st_T rfl) (h2_ret ⟨AN_e 1 rfl (ti_sI_eq _ _ _ _), FR_beg (FR_X hT (TI_t hm 2) (FR_t hT hm h 2))⟩)
  have k53 : ∀ x, Le (f_K_begin_B53 S (some 4) c e x) (some ((Sum.inr eS : Int32 ⊕ String), wX S)) := fun x q hq => by
    unfold f_K_begin_B53 f_K_begin_B54 at hq
    exact st_bxe (rS0 S) q hq
  have six : ∀ z : Int32, (0 ≤ z ∧ z ≤ 5) ↔ ∃ j, j < 6 ∧ z = Int32.ofNat j := fun z => six_iff z
  unfold f_K_begin f_M_begin
  refine m_of (st_b2 (q_six m a)) (l_of st_rv (l_bx (fun v' S' ee => ?_) (fun v' S' ee => ?_)))
  · rcases x_fp b a _ ee with ⟨i, i6, ea, e2⟩ | ⟨-, e2⟩
    · cases e2
      rw [if_pos ((six_iff _).mpr ⟨i, i6, ea⟩)]
      refine m_of (st_F one0) (m_of (st_b2 (q_six m c)) (l_bx (fun v' S' ee => ?_) (fun v' S' ee => ?_)))
      · rcases p_rI _ ee with ⟨h1, h2, e2⟩ | ⟨-, e2⟩
        · cases e2
          obtain ⟨d1, l1, ec⟩ := (IX_iff (n := 6) (a := c) (by decide)).mpr ⟨h1, h2⟩
          rw [if_pos ((six_iff _).mpr ⟨d1, l1, ec⟩)]
          refine m_of (st_F one0) (m_of (st_b2 (q_six m e)) (l_bx (fun v' S' ee => ?_) (fun v' S' ee => ?_)))
          · rcases p_rI _ ee with ⟨h1, h2, e2⟩ | ⟨-, e2⟩
            · cases e2
              obtain ⟨d2, l2, e3⟩ := (IX_iff (n := 6) (a := e) (by decide)).mpr ⟨h1, h2⟩
              rw [if_pos ((six_iff _).mpr ⟨d2, l2, e3⟩)]
              refine m_of (st_F one0) ?_
              obtain ⟨zV1, zV2, zV3⟩ := zV b
              obtain ⟨zA1, zA2, zA3⟩ := zA b
              have n8 : nV m ≤ 8 := zV1
              have n60 : uA m ≤ 60 := zA1
              have m9 : sI m 57 9 = Int32.ofNat (nV m) := zV2
              have m19 : sI m 57 19 = Int32.ofNat (uA m) := zA2
              have s17 : sI S 17 2 = Int32.ofNat (nV m) := zV3.trans zV2
              have s18 : sI S 18 2 = Int32.ofNat (uA m) := zA3.trans zA2
              have ai : a.toNatClampNeg = i := by rw [ea]; exact oc (by omega)
              unfold f_M_begin_B26
              refine m_of (st_F one0) (m_of (st_gIe m9) (l_of (st_gRe (k4.1 6 17 rfl)) (l_of st_rv ?_)))
              refine l_p2 (P := fun q => q = (if Int32.ofNat (nV m) = 0 then (1 : Int32) else 0, S)) ?_ (fun v S' q => ?_)
              · unfold f_AL_isEmpty
                refine p_of (st_gIe s17) ?_
                by_cases z : Int32.ofNat (nV m) = 0
                · rw [if_pos z, if_pos z]
                  exact p_ret rfl
                · rw [if_neg z, if_neg z]
                  exact p_ret rfl
              cases q
              by_cases c1 : nV m = 0
              · rw [c1]
                rw [if_pos (show Int32.ofNat 0 = 0 from rfl)]
                exact l_of (st_F one0) (m_of (st_T (by decide)) (l_of (k53 _) no2))
              · have z0 : ¬ Int32.ofNat (nV m) = 0 := fun z => c1 (oinj (by omega) (by decide) z)
                rw [if_neg z0]
                refine l_of (st_T rfl) (m_of (st_F (fun z => by
                  have := Int32.le_iff_toInt_le.mp z
                  rw [oi (by omega), show (0 : Int32).toInt = 0 from by decide] at this
                  omega)) (l_of (st_gIe (h.Awy i i6)) (m_of (st_gRe (hmf 7 64 rfl)) (m_of (st_aIe (v := sI m 64 i) ai rfl) ?_))))
                by_cases c2 : sI m 64 i = 0
                · refine l_of (st_T c2) (m_of (st_T c2) (l_of (st_gRe (k4.1 7 18 rfl)) (l_of st_rv (l_of st_size ?_))))
                  rw [s18]
                  refine m_of (st_gIe m19) ?_
                  by_cases c3 : (60 : Int32) ≤ Int32.ofNat (uA m)
                  · exact l_of (st_T c3) (m_of (st_T c3) (l_of (k53 _) no2))
                  · refine l_of (st_F c3) (m_of (st_F c3) ?_)
                    have nA60 : uA m < 60 := Nat.not_le.mp (fun q => c3 ((ole (a := 60) (by decide) (by omega)).mpr q))
                    unfold f_M_begin_B66
                    refine m_of st_rv (m_p2 p_mayB (fun w m' p => ?_))
                    rw [if_neg one0, if_neg one0] at p
                    cases p
                    refine m_of (st_F one0) ?_
                    have hM0 := MI_t hm hM 0
                    have uA0 : uA (wI m 57 82 0) = uA m := by
                      unfold uA
                      rw [lv0 m (by omega) 0]
                    have nV0 : nV (wI m 57 82 0) = nV m := by
                      unfold nV
                      rw [lv0 m (by omega) 0]
                    rw [ea, ec, e3]
                    exact bg_go hT (TI_t hm 0) (FR_t hT hm h 0) hM0.1 hM0.2.1 (ti_sI_eq _ _ _ _) i6 l1 l2 (by rw [uA0]; exact nA60) (by rw [nV0]; omega)
                · exact l_of (st_F c2) (m_of (st_F c2) (l_of (k53 _) no2))
            · cases e2
          · rcases p_rI _ ee with ⟨h1, h2, e2⟩ | ⟨h1, e2⟩
            · cases e2
            · cases e2
              rw [if_neg (fun q => h1 ((IX_iff (n := 6) (by decide)).mp ((six_iff _).mp q)))]
              exact m_of (st_T rfl) no1
        · cases e2
      · rcases p_rI _ ee with ⟨h1, h2, e2⟩ | ⟨h1, e2⟩
        · cases e2
        · cases e2
          rw [if_neg (fun q => h1 ((IX_iff (n := 6) (by decide)).mp ((six_iff _).mp q)))]
          exact m_of (st_T rfl) no1
    · cases e2
  · rcases x_fp b a _ ee with ⟨i, i6, ea, e2⟩ | ⟨no, e2⟩
    · cases e2
    · cases e2
      rw [if_neg (fun q => no ((six_iff _).mp q))]
      exact m_of (st_T rfl) no1
end
