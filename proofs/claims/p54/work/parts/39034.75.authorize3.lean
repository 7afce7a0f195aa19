section
variable {T Tm : Nat → Nat} {S m : AS}
theorem au_go (hT : TV T S) (hm : TI Tm m) (h : FR S m) {s c v : Nat} {sc : Int32} (s1 : s < nS m) (c4 : c < 4) (v4 : v < 4) (n59 : nC m < 60) :
    H2 (f_K_authorize_B55 S (some 4) (Int32.ofNat c) (Int32.ofNat v) sc (some (lel S 19 s)) (some (53 + v)) 1) (f_M_authorize_B68 m (some 57) (Int32.ofNat s) (Int32.ofNat c) (Int32.ofNat v) sc (some 57) 1 1 1) (fun x y => AN [eX, eA, eS] x.1 y.1 (sI y.2 57 82) ∧ P_auth x.2 y.2) := by
  have b := FR_BB hT hm h
  have k4 := K4F_of hT.1
  have hmf0 := MF_of (TI_t hm 0)
  have pu := used_P hT hm h s1
  have ts := tyS b s1
  have s60 : s < 60 := by
    have := (zS b).1
    unfold nS at s1
    omega
  obtain ⟨n0, n1, n2⟩ := h.NW
  obtain ⟨-, ⟨p, p6, q1, q2⟩, -⟩ := h.Ses.2 s s1
  obtain ⟨t4, -, -, -, -, -, -, t20, -⟩ := kt4 hT.1
  obtain ⟨-, -, -, t32⟩ := kt_P hT.1 h.PF p6
  have t53 := kt_S hT.1 h.PF v4
  obtain ⟨x, x1, x2, x3, x4⟩ := tyM (j := 3) hT.1 ts rfl
  unfold f_K_authorize_B55 f_M_authorize_B68
  refine l_of (st_bx (rS1 S)) (l_of (st_gIe n0) (l_of st_pI ?_))
  refine m_of st_rv (m_p2 p_mayA (fun w m' e => ?_))
  cases e
  refine m_of (st_F one0) (m_of (st_gRe (hmf0 33 87 rfl)) (m_of (st_gIe (v := sI m 57 0) (lv0 m (by omega) 0)) (m_of (st_bIe (oc (by omega))) ?_)))
  obtain ⟨S4, e4⟩ : ∃ S4, S4 = wI S (lel S 19 s) 5 (sI m 57 0) := ⟨_, rfl⟩
  obtain ⟨m6, e6⟩ : ∃ m6, m6 = wI (wI m 57 82 0) 87 s (sI m 57 0) := ⟨_, rfl⟩
  show H2 _ ((gR (wI (wI m 57 82 0) 87 s (sI m 57 0)) 39 37 (some 57)).bind _) _
  rw [← e4, ← e6]
  rw [← e4, ← e6] at pu
  have rS4 : sR S4 = sR S := by rw [e4, sR_wI]
  have lS4 : sL S4 = sL S := by rw [e4]; rfl
  have rm6 : sR m6 = sR m := by rw [e6, sR_wI, sR_wI]
  have oS4 : ∀ {k τ : Nat} (j : Nat), T k = τ → τ ≠ 43 → sI S4 k j = sI S k j := fun j hk ht => by
    rw [e4]
    exact ti_sI_ne (fun q => by
      rw [q.1, ts] at hk
      exact ht hk.symm)
  have om6 : ∀ {p j : Nat}, ¬ (p = 57 ∧ j = 82) → ¬ (p = 87 ∧ j = s) → sI m6 p j = sI m p j := fun a1 a2 => by
    rw [e6]
    exact (ti_sI_ne a2).trans (lv0 m a1 0)
  have m82 : sI m6 57 82 = 0 := by rw [e6, ti_sI_ne (by omega), ti_sI_eq]
  have hm6 : MF m6 := MF_e (MF_of hm) rm6
  obtain ⟨cp, c20⟩ := h.Con c c4
  refine l_of (st_gRe (v := some (29 + 4 * p)) (by rw [rS4]; exact q1)) (l_of st_rv (l_p2 (p_cons b p6 c4 rS4 lS4 (oS4 c t20 (by decide)) (oS4 c t32 (by decide))) (fun w S7 e => ?_)))
  cases e
  refine m_of (st_gRe (hm6 37 91 rfl)) (m_of (st_gRe (hm6 31 85 rfl)) (m_of (st_aIe (v := Int32.ofNat p) (oc (by omega)) ((om6 (by omega) (by omega)).trans q2)) (m_of (st_aIe (v := sI m 91 (4 * p + c)) (ix4 p (by omega) c c4) (om6 (by omega) (by omega))) (m_of (st_gRe (hm6 37 91 rfl)) (m_of (st_aIe (v := sI m 91 (24 + c)) (ix24 c c4) (om6 (by omega) (by omega))) (m_of st_val ?_))))))
  rw [c20, cp p p6, Int32.or_comm (sI m 91 (24 + c))]
  by_cases d1 : (sc &&& ((sI m 91 (4 * p + c) ||| sI m 91 (24 + c)) ^^^ (-1 : Int32))) = 0
  · refine l_of (st_T d1) (m_of (st_T d1) (l_of (st_gIe (v := sI m 57 0) ((oS4 0 t4 (by decide)).trans n0)) (l_of st_rv (m_of st_rv ?_))))
    refine h2_22 (h_levelAt3 h (S' := S4) (m' := m6) rS4 ⟨(oS4 0 hT.2 (by decide)).trans h.Wgt.1, (oS4 1 hT.2 (by decide)).trans h.Wgt.2.1, (oS4 2 hT.2 (by decide)).trans h.Wgt.2.2⟩ hm6 s1 (fun f hf => by rw [oS4 f x4 (by decide), om6 (by omega) (by omega)]; exact h.Ssh s s1 f hf) (om6 (by omega) (by omega))) (fun w S11 u m15 q => ?_)
    obtain ⟨y, y8, e1, e2⟩ := q
    cases e1
    cases e2
    refine l_of (st_gIe (v := sI m 92 v) ((oS4 0 t53 (by decide)).trans (h.Ned v v4))) (m_of (st_gRe (hm6 38 92 rfl)) (m_of (st_aIe (v := sI m 92 v) (oc (by omega)) (om6 (by omega) (by omega))) ?_))
    by_cases d2 : sI m 92 v ≤ lv8 y
    · exact l_of (st_T d2) (m_of (st_T d2) (au_new hT hm h s1 c4 v4 n59 e4 e6))
    · exact l_of (st_F d2) (m_of (st_F d2) (h2_ret ⟨AN_v m82, pu⟩))
  · exact l_of (st_F d1) (m_of (st_F d1) (h2_ret ⟨AN_v m82, pu⟩))
theorem h_authorize (hT : TV T S) (hm : TI Tm m) (h : FR S m) (a c v sc : Int32) : H2 (f_K_authorize S (some 4) a c v sc) (f_M_authorize m (some 57) a c v sc) (fun x y => AN [eX, eA, eS] x.1 y.1 (sI y.2 57 82) ∧ P_auth x.2 y.2) := by
  have b := FR_BB hT hm h
  have hmf := MF_of hm
  have k4 := K4F_of hT.1
  have no1 : H2 (some ((Sum.inr eX : Int32 ⊕ String), wX S)) (f_M_authorize_B27 m (some 57) a c v sc 0) (fun x y => AN [eX, eA, eS] x.1 y.1 (sI y.2 57 82) ∧ P_auth x.2 y.2) := by
    unfold f_M_authorize_B27 f_M_authorize_B67 f_M_authorize_B68
    refine m_of (st_b2 (q_isIn m sc 1 15)) (m_of (st_T rfl) (m_of st_rv (m_p2 p_mayA (fun w m' e => ?_))))
    rw [if_pos rfl] at e
    cases e
    exact m_of (st_T rfl) (h2_ret ⟨AN_e 0 rfl (ti_sI_eq _ _ _ _), FR_auth (FR_X hT (TI_t hm 1) (FR_t hT hm h 1))⟩)
  have no2 : ∀ y3, H2 (some ((Sum.inr eA : Int32 ⊕ String), wX S)) (f_M_authorize_B68 m (some 57) a c v sc (some 57) 1 0 y3) (fun x y => AN [eX, eA, eS] x.1 y.1 (sI y.2 57 82) ∧ P_auth x.2 y.2) := fun y3 => by
    unfold f_M_authorize_B68
    refine m_of st_rv (m_p2 p_mayA (fun w m' e => ?_))
    rw [if_neg one0, if_pos rfl] at e
    cases e
    exact m_of (st_T rfl) (h2_ret ⟨AN_e 1 rfl (ti_sI_eq _ _ _ _), FR_auth (FR_X hT (TI_t hm 2) (FR_t hT hm h 2))⟩)
  have no3 : H2 (some ((Sum.inr eS : Int32 ⊕ String), wX S)) (f_M_authorize_B67 m (some 57) a c v sc (some 57) 1 1) (fun x y => AN [eX, eA, eS] x.1 y.1 (sI y.2 57 82) ∧ P_auth x.2 y.2) := by
    unfold f_M_authorize_B67 f_M_authorize_B68
    refine m_of st_rv (m_p2 p_mayA (fun w m' e => ?_))
    rw [if_neg one0, if_neg one0, if_pos rfl] at e
    cases e
    exact m_of (st_T rfl) (h2_ret ⟨AN_e 2 rfl (ti_sI_eq _ _ _ _), FR_auth (FR_X hT (TI_t hm 3) (FR_t hT hm h 3))⟩)
  have k54 : ∀ x y, Le (f_K_authorize_B54 S (some 4) c v sc x y) (some ((Sum.inr eS : Int32 ⊕ String), wX S)) := fun x y q hq => by
    unfold f_K_authorize_B54 f_K_authorize_B55 at hq
    exact st_bxe (rS0 S) q hq
  unfold f_K_authorize f_M_authorize f_M_authorize_B26
  refine l_of st_rv (m_of st_rv (m_p2 (x_MS b a) (fun w S2 p => ?_)))
  refine l_bx (fun v' S' e => ?_) (fun v' S' e => ?_)
  · rcases x_fS b a _ e with ⟨s, s1, ea, e2⟩ | ⟨no, e2⟩
    · cases e2
      rcases p with ⟨-, p2⟩ | ⟨p1, -⟩
      · cases p2
        refine m_of (st_F one0) (m_of (st_b2 (q_ser m c)) (l_bx (fun v' S' e => ?_) (fun v' S' e => ?_)))
        · rcases p_rI _ e with ⟨h1, h2, e2⟩ | ⟨-, e2⟩
          · cases e2
            obtain ⟨cc, c4, ec⟩ := (IX_iff (n := 4) (a := c) (by decide)).mpr ⟨h1, h2⟩
            rw [if_pos ((fou_iff _).mpr ⟨cc, c4, ec⟩)]
            refine m_of (st_F one0) (m_of (st_b2 (q_ser m v)) (l_of st_rv (l_bx (fun v' S' e => ?_) (fun v' S' e => ?_))))
            · rcases x_fV b v _ e with ⟨vv, v4, ev, e2⟩ | ⟨-, e2⟩
              · cases e2
                rw [if_pos ((fou_iff _).mpr ⟨vv, v4, ev⟩)]
                refine m_of (st_F one0) ?_
                unfold f_M_authorize_B27
                have ai : a.toNatClampNeg = s := by
                  rw [ea]
                  have := (zS b).1
                  unfold nS at s1
                  exact oc (by omega)
                have l1 := (h.Liv.1 s s1).1
                have zC' := zC b
                have n60 : nC m ≤ 60 := zC'.1
                refine l_of (st_b2 (q_win S sc 1 15)) (m_of (st_b2 (q_isIn m sc 1 15)) (m_of (st_F one0) (m_of (st_gRe (hmf 35 89 rfl)) (m_of (st_aIe (v := sI m 89 s) ai rfl) ?_))))
                by_cases cs : 1 ≤ sc ∧ sc ≤ 15
                · rw [if_pos cs]
                  refine l_of (st_bx (rA1 S)) (l_of (st_gIe l1) ?_)
                  by_cases c1 : sI m 89 s = 0
                  · exact l_of (st_T c1) (m_of (st_T c1) (l_of (k54 _ _) no3))
                  · refine l_of (st_F c1) (m_of (st_F c1) (l_of (st_gRe (k4.1 12 22 rfl)) (l_of st_rv (l_of st_size ?_))))
                    rw [zC'.2.2, show sI m 57 39 = Int32.ofNat (nC m) from zC'.2.1]
                    refine m_of (st_gIe (v := Int32.ofNat (nC m)) zC'.2.1) ?_
                    by_cases c2 : (60 : Int32) ≤ Int32.ofNat (nC m)
                    · exact l_of (st_T c2) (m_of (st_T c2) (l_of (k54 _ _) no3))
                    · refine l_of (st_F c2) (m_of (st_F c2) ?_)
                      rw [ea, ec, ev]
                      exact au_go hT hm h s1 c4 v4 (Nat.not_le.mp (fun q => c2 ((ole (a := 60) (by decide) (by omega)).mpr q)))
                · rw [if_neg cs]
                  refine l_of (st_bxe (rA0 S)) ?_
                  unfold f_M_authorize_B67
                  exact m_if (fun _ => no2 0) (fun _ => m_of st_gI (m_if (fun _ => no2 0) (fun _ => no2 1)))
              · cases e2
            · rcases x_fV b v _ e with ⟨vv, v4, ev, e2⟩ | ⟨no', e2⟩
              · cases e2
              · cases e2
                rw [if_neg (fun q => no' ((fou_iff _).mp q))]
                exact m_of (st_T rfl) no1
          · cases e2
        · rcases p_rI _ e with ⟨h1, h2, e2⟩ | ⟨h1, e2⟩
          · cases e2
          · cases e2
            rw [if_neg (show ¬ (0 ≤ c ∧ c ≤ 3) from fun q => h1 ((IX_iff (n := 4) (by decide)).mp ((fou_iff _).mp q)))]
            exact m_of (st_T rfl) no1
      · exact absurd ⟨s, s1, ea⟩ p1
    · cases e2
  · rcases x_fS b a _ e with ⟨s, s1, ea, e2⟩ | ⟨no, e2⟩
    · cases e2
    · cases e2
      rcases p with ⟨p1, -⟩ | ⟨-, p2⟩
      · exact absurd p1 no
      · cases p2
        exact m_of (st_T rfl) no1
end
