/-! ===== calls that write few cells ===== -/
section
variable {T Tm : Nat → Nat} {S m : AS}
theorem ix4 : ∀ i, i < 7 → ∀ c, c < 4 → ((4 : Int32) * Int32.ofNat i + Int32.ofNat c).toNatClampNeg = 4 * i + c := by decide +kernel
/-- a factor is ready on both sides -/
def RD2 (i g : Nat) (S m S' m' : AS) : Prop := (sR S' = sR S ∧ sL S' = sL S ∧ sR m' = sR m ∧ sL m' = sL m) ∧ (sI S' (30 + 4 * i) g = 1 ∧ sI S' (31 + 4 * i) g = 0 ∧ (g = 2 → sI S' (29 + 4 * i) 3 = 0) ∧ ∀ p j, ¬ (p = 30 + 4 * i ∧ j = g) → ¬ (p = 31 + 4 * i ∧ j = g) → ¬ (p = 29 + 4 * i ∧ j = 3 ∧ g = 2) → sI S' p j = sI S p j) ∧
  (sI m' 58 (3 * i + g) = 1 ∧ sI m' 59 (3 * i + g) = 0 ∧ (g = 2 → sI m' 60 i = 0) ∧ ∀ p j, ¬ (p = 58 ∧ j = 3 * i + g) → ¬ (p = 59 ∧ j = 3 * i + g) → ¬ (p = 60 ∧ j = i ∧ g = 2) → sI m' p j = sI m p j)
theorem h_ready (hp : PF S) (hmf : MF m) {i g : Nat} (hi : i < 6) (hg : g < 3) : H2 (f_Person_makeReady S (some (29 + 4 * i)) (Int32.ofNat g)) (f_M_ready m (some 57) (Int32.ofNat i) (Int32.ofNat g)) (fun S' m' => RD2 i g S m S' m') := by
  have i3 := ix3 i (by omega) g hg
  obtain ⟨-, h1, h2, -⟩ := hp.1 i hi
  unfold f_Person_makeReady f_M_ready
  refine l_of (st_b2 (q_Kfac S _)) ?_
  rw [if_pos ((thr_iff _).mpr ⟨g, hg, rfl⟩)]
  refine l_of (st_F one0) (l_of (st_gRe h1) (l_of (st_bIe (oc (by omega))) (l_of (st_gRe h2) (l_of (st_bIe (oc (by omega))) ?_))))
  refine m_of (st_gRe (hmf 1 58 rfl)) (m_of (st_bIe i3) (m_of (st_gRe (hmf 2 59 rfl)) (m_of (st_bIe i3) ?_)))
  by_cases c : g = 2
  · have c' : Int32.ofNat g = 2 := by rw [c]; rfl
    refine l_of (st_T c') (l_of st_pI (m_of (st_T c') (m_of (st_gRe (hmf 3 60 rfl)) (m_of (st_bIe (oc (by omega))) (h2_ret ?_)))))
    refine ⟨⟨rfl, rfl, rfl, rfl⟩, ⟨?_, ?_, fun _ => ti_sI_eq _ _ _ _, fun p j a1 a2 a3 => ?_⟩, ⟨?_, ?_, fun _ => ti_sI_eq _ _ _ _, fun p j a1 a2 a3 => ?_⟩⟩
    · rw [ti_sI_ne (by omega), ti_sI_ne (by omega), ti_sI_eq]
    · rw [ti_sI_ne (by omega), ti_sI_eq]
    · rw [ti_sI_ne (fun q => a3 ⟨q.1, q.2, c⟩), ti_sI_ne a2, ti_sI_ne a1]
    · rw [ti_sI_ne (by omega), ti_sI_ne (by omega), ti_sI_eq]
    · rw [ti_sI_ne (by omega), ti_sI_eq]
    · rw [ti_sI_ne (fun q => a3 ⟨q.1, q.2, c⟩), ti_sI_ne a2, ti_sI_ne a1]
  · have c' : ¬ Int32.ofNat g = 2 := fun q => c (oinj (by omega) (by omega) (q.trans (show (2 : Int32) = Int32.ofNat 2 from rfl)))
    refine l_of (st_F c') (m_of (st_F c') (h2_ret ?_))
    refine ⟨⟨rfl, rfl, rfl, rfl⟩, ⟨?_, ti_sI_eq _ _ _ _, fun q => absurd q c, fun p j a1 a2 a3 => ?_⟩, ⟨?_, ti_sI_eq _ _ _ _, fun q => absurd q c, fun p j a1 a2 a3 => ?_⟩⟩
    · rw [ti_sI_ne (by omega), ti_sI_eq]
    · rw [ti_sI_ne a2, ti_sI_ne a1]
    · rw [ti_sI_ne (by omega), ti_sI_eq]
    · rw [ti_sI_ne a2, ti_sI_ne a1]
theorem cFac_ready {S' m' : AS} {i g : Nat} (h : cFac S m) (hi : i < 6) (hg : g < 3) (r : RD2 i g S m S' m') : cFac S' m' := by
  obtain ⟨-, ⟨a1, a2, a3, a4⟩, ⟨b1, b2, b3, b4⟩⟩ := r
  intro j hj
  refine ⟨fun f hf => ?_, ?_⟩
  · by_cases c : j = i ∧ f = g
    · obtain ⟨rfl, rfl⟩ := c
      rw [a1, a2, b1, b2]
      exact ⟨rfl, rfl, fun _ => by decide⟩
    · rw [a4 _ _ (by omega) (by omega) (by omega), a4 _ _ (by omega) (by omega) (by omega), b4 _ _ (by omega) (by omega) (by omega), b4 _ _ (by omega) (by omega) (by omega)]
      exact (h j hj).1 f hf
  · by_cases c : j = i ∧ g = 2
    · obtain ⟨rfl, c⟩ := c
      rw [a3 c, b3 c]
    · rw [a4 _ _ (by omega) (by omega) (by omega), b4 _ _ (by omega) (by omega) (by omega)]
      exact (h j hj).2
theorem h_enroll (hT : TV T S) (hm : TI Tm m) (h : FR S m) (a f : Int32) : H2 (f_K_enroll S (some 4) a f) (f_M_enroll m (some 57) a f) (fun x y => AN [eX, eA] x.1 y.1 (sI y.2 57 82) ∧ cFac x.2 y.2) := by
  have b := FR_BB hT hm h
  have hmf := MF_of (TI_t hm 0)
  unfold f_K_enroll f_M_enroll
  refine m_of (st_b2 (q_six m a)) (m_of (st_b2 (q_fac m f)) (m_of st_rv ?_))
  refine l_of st_rv (l_bx (fun v S' e => ?_) (fun v S' e => ?_))
  · rcases x_fp b a _ e with ⟨i, i1, rfl, e2⟩ | ⟨no, e2⟩
    · cases e2
      rw [if_pos ((six_iff _).mpr ⟨i, i1, rfl⟩)]
      refine l_of (st_b2 (q_Kfac S f)) ?_
      by_cases c : 0 ≤ f ∧ f ≤ 2
      · rw [if_pos c]
        obtain ⟨g, g1, rfl⟩ := (thr_iff f).mp c
        refine m_p2 p_mayB (fun v m' p => ?_)
        cases p
        refine l_of (st_bx (rA1 S)) (l_of st_rv (l_p2 (p_stateOf h.PF i1 g1) (fun w S2 p => ?_)))
        cases p
        refine l_of st_rv (m_of (st_F one0) (m_of (st_gRe (hmf 1 58 rfl)) (m_of (st_aIe (ix3 i (by omega) g g1) rfl) (m_of st_rv ?_))))
        refine h2_dd (h_ready h.PF hmf i1 g1) (fun S3 m3 r => h2_ret ⟨?_, cFac_ready (FR_t hT hm h 0).Fac i1 g1 r⟩)
        rw [lv0 m (by omega), ← ((h.Fac i i1).1 g g1).1]
        refine AN_v ?_
        show sI m3 57 82 = 0
        rw [r.2.2.2.2.2 57 82 (by omega) (by omega) (by omega), ti_sI_eq]
      · rw [if_neg c]
        refine m_p2 p_mayB (fun v m' p => ?_)
        cases p
        exact l_of (st_bxe (rA0 S)) (m_of (st_T rfl) (h2_ret ⟨AN_e 1 rfl (ti_sI_eq _ _ _ _), (FR_X hT (TI_t hm 2) (FR_t hT hm h 2)).Fac⟩))
    · cases e2
  · rcases x_fp b a _ e with ⟨i, i1, rfl, e2⟩ | ⟨no, e2⟩
    · cases e2
    · cases e2
      rw [if_neg (fun q => no ((six_iff _).mp q))]
      refine m_p2 p_mayB (fun v m' p => ?_)
      cases p
      exact m_of (st_T rfl) (h2_ret ⟨AN_e 0 rfl (ti_sI_eq _ _ _ _), (FR_X hT (TI_t hm 1) (FR_t hT hm h 1)).Fac⟩)
/-- helper -/
theorem h_helper (hT : TV T S) (hm : TI Tm m) (h : FR S m) (a : Int32) : H2 (f_K_helper S (some 4) a) (f_M_helper m (some 57) a) (fun x y => AN [eX] x.1 y.1 (sI y.2 57 82) ∧ cHlp x.2 y.2) := by
  have b := FR_BB hT hm h
  have hmf := MF_of (TI_t hm 0)
  unfold f_K_helper f_M_helper
  refine m_of (st_b2 (q_six m a)) (m_of st_rv ?_)
  refine l_of st_rv (l_bx (fun v S' e => ?_) (fun v S' e => ?_))
  · rcases x_fp b a _ e with ⟨i, i1, rfl, e2⟩ | ⟨no, e2⟩
    · cases e2
      rw [if_pos ((six_iff _).mpr ⟨i, i1, rfl⟩)]
      refine m_p2 p_may (fun v m' p => ?_)
      cases p
      have hh := (FR_t hT hm h 0).Hlp
      have h10 : sI S (29 + 4 * i) 10 = sI (wI m 57 82 0) 65 i := hh i i1
      have fin : ∀ x : Int32, cHlp (wI S (29 + 4 * i) 10 x) (wI (wI m 57 82 0) 65 i x) := fun x j hj => by
        by_cases c : j = i
        · subst c
          rw [ti_sI_eq, ti_sI_eq]
        · rw [ti_sI_ne (by omega), ti_sI_ne (by omega)]
          exact hh j hj
      refine l_of (st_gIe h10) (m_of (st_F one0) (m_of (st_gRe (hmf 8 65 rfl)) (m_of (st_gRe (hmf 8 65 rfl)) (m_of (st_aIe (oc (by omega)) rfl) (l_if (fun c => ?_) (fun c => ?_))))))
      · refine l_of st_pZ (l_of (st_gIe (ti_sI_eq _ _ _ _)) (l_of st_z (m_of (st_T c) ?_)))
        unfold f_M_helper_B32
        refine m_of (st_bZe (oc (by omega))) (m_of (st_gRe (hmf 8 65 rfl)) (m_of (st_aIe (oc (by omega)) (ti_sI_eq _ _ _ _)) (m_of st_z (h2_ret ⟨AN_v ?_, fin 1⟩))))
        rw [ti_sI_ne (by omega)]
        exact ti_sI_eq _ _ _ _
      · refine l_of st_pZ (l_of (st_gIe (ti_sI_eq _ _ _ _)) (l_of st_z (m_of (st_F c) ?_)))
        unfold f_M_helper_B32
        refine m_of (st_bZe (oc (by omega))) (m_of (st_gRe (hmf 8 65 rfl)) (m_of (st_aIe (oc (by omega)) (ti_sI_eq _ _ _ _)) (m_of st_z (h2_ret ⟨AN_v ?_, fin 0⟩))))
        rw [ti_sI_ne (by omega)]
        exact ti_sI_eq _ _ _ _
    · cases e2
  · rcases x_fp b a _ e with ⟨i, i1, rfl, e2⟩ | ⟨no, e2⟩
    · cases e2
    · cases e2
      rw [if_neg (fun q => no ((six_iff _).mp q))]
      refine m_p2 p_may (fun v m' p => ?_)
      cases p
      exact m_of (st_T rfl) (h2_ret ⟨AN_e 0 rfl (ti_sI_eq _ _ _ _), (FR_X hT (TI_t hm 1) (FR_t hT hm h 1)).Hlp⟩)
/-- need -/
theorem h_need (hT : TV T S) (hm : TI Tm m) (h : FR S m) (a l : Int32) : H2 (f_K_need S (some 4) a l) (f_M_need m (some 57) a l) (fun x y => AN [eX, eA] x.1 y.1 (sI y.2 57 82) ∧ cNed x.2 y.2) := by
  have b := FR_BB hT hm h
  have hmf := MF_of (TI_t hm 0)
  unfold f_K_need f_M_need
  refine m_of (st_b2 (q_ser m a)) (m_of (st_b2 (q_isIn m l 0 6)) (m_of st_rv ?_))
  refine l_of st_rv (l_bx (fun v S' e => ?_) (fun v S' e => ?_))
  · rcases x_fV b a _ e with ⟨i, i1, rfl, e2⟩ | ⟨no, e2⟩
    · cases e2
      rw [if_pos ((fou_iff _).mpr ⟨i, i1, rfl⟩)]
      refine l_of (st_b2 (q_win S l 0 6)) ?_
      by_cases c : 0 ≤ l ∧ l ≤ 6
      · rw [if_pos c]
        refine m_p2 p_mayB (fun v m' p => ?_)
        cases p
        have hh := (FR_t hT hm h 0).Ned
        refine l_of (st_bx (rA1 S)) (l_of (st_gIe (hh i i1)) (l_of st_pI (m_of (st_F one0) (m_of (st_gRe (hmf 38 92 rfl)) (m_of (st_aIe (oc (by omega)) rfl) (m_of (st_gRe (hmf 38 92 rfl)) (m_of (st_bIe (oc (by omega))) (h2_ret ⟨AN_v ?_, fun j hj => ?_⟩))))))))
        · rw [ti_sI_ne (by omega)]
          exact ti_sI_eq _ _ _ _
        · by_cases q : j = i
          · subst q
            rw [ti_sI_eq, ti_sI_eq]
          · rw [ti_sI_ne (by omega), ti_sI_ne (by omega)]
            exact hh j hj
      · rw [if_neg c]
        refine m_p2 p_mayB (fun v m' p => ?_)
        cases p
        exact l_of (st_bxe (rA0 S)) (m_of (st_T rfl) (h2_ret ⟨AN_e 1 rfl (ti_sI_eq _ _ _ _), (FR_X hT (TI_t hm 2) (FR_t hT hm h 2)).Ned⟩))
    · cases e2
  · rcases x_fV b a _ e with ⟨i, i1, rfl, e2⟩ | ⟨no, e2⟩
    · cases e2
    · cases e2
      rw [if_neg (fun q => no ((fou_iff _).mp q))]
      refine m_p2 p_mayB (fun v m' p => ?_)
      cases p
      exact m_of (st_T rfl) (h2_ret ⟨AN_e 0 rfl (ti_sI_eq _ _ _ _), (FR_X hT (TI_t hm 1) (FR_t hT hm h 1)).Ned⟩)
/-- link -/
theorem min1_iff (a : Int32) : (-1 ≤ a ∧ a ≤ 5) ↔ a = -1 ∨ IX 6 a := by
  rw [IX_iff (by decide), Int32.le_iff_toInt_le, Int32.le_iff_toInt_le, show (-1 : Int32).toInt = -1 from by decide, show (5 : Int32).toInt = 5 from by decide]
  constructor
  · intro h
    by_cases c : a.toInt = -1
    · exact Or.inl (Int32.toInt_inj.mp c)
    · exact Or.inr (by omega)
  · rintro (rfl | h)
    · decide
    · omega
theorem h_link (hT : TV T S) (hm : TI Tm m) (h : FR S m) (a p : Int32) : H2 (f_K_link S (some 4) a p) (f_M_link m (some 57) a p) (fun x y => AN [eX, eS] x.1 y.1 (sI y.2 57 82) ∧ cLnk x.2 y.2) := by
  have b := FR_BB hT hm h
  have hmf := MF_of hm
  have r := (K4F_of hT.1).1 17 28 rfl
  have t28 := (kt4 hT.1).2.2.2.2.2.2.2.2.2.2.2
  have l28 : sL S 28 = 6 := (hT.1.t1 28 (by rw [t28]; decide)).2.2.2 6 (by rw [t28]; rfl)
  have bad : H2 (some ((Sum.inr eX : Int32 ⊕ String), wX S)) (f_M_link_B20 m (some 57) a p) (fun x y => AN [eX, eS] x.1 y.1 (sI y.2 57 82) ∧ cLnk x.2 y.2) := by
    unfold f_M_link_B20 f_M_link_B21 f_M_link_B57 f_M_link_B58
    refine m_of (st_T rfl) (m_of st_rv (m_p2 p_mayB (fun v m' q => ?_)))
    cases q
    exact m_of (st_T rfl) (h2_ret ⟨AN_e 0 rfl (ti_sI_eq _ _ _ _), (FR_X hT (TI_t hm 1) (FR_t hT hm h 1)).Lnk⟩)
  unfold f_K_link f_M_link
  refine l_of (st_gRe r) (l_of st_aN ?_)
  rw [l28]
  refine m_of (st_b2 (q_six m a)) (l_bx (fun v S' e => ?_) (fun v S' e => ?_))
  · rcases p_rI _ e with ⟨h1, h2, e2⟩ | ⟨-, e2⟩
    · cases e2
      rw [oi (by decide)] at h2
      obtain ⟨i, i1, rfl⟩ := (IX_iff (n := 6) (a := a) (by decide)).mpr ⟨h1, by omega⟩
      rw [if_pos ((six_iff _).mpr ⟨i, i1, rfl⟩)]
      refine m_of (st_F one0) (m_of (st_b2 (q_isIn m p (-1) 5)) ?_)
      have ok : (p = -1 ∨ IX 6 p) → H2 (f_K_link_B20 S (some 4) (Int32.ofNat i) p) (if (if -1 ≤ p ∧ p ≤ 5 then (1 : Int32) else 0) = 0 then f_M_link_B20 m (some 57) (Int32.ofNat i) p else f_M_link_B21 m (some 57) (Int32.ofNat i) p 1) (fun x y => AN [eX, eS] x.1 y.1 (sI y.2 57 82) ∧ cLnk x.2 y.2) := fun hp => by
        rw [if_pos ((min1_iff p).mpr hp)]
        refine m_of (st_F one0) ?_
        have lk := h.Lnk i i1
        have yes : H2 (f_K_link_B42 S (some 4) (Int32.ofNat i) p (sI m 122 i)) (f_M_link_B53 m (some 57) (Int32.ofNat i) p (some 57) 1) (fun x y => AN [eX, eS] x.1 y.1 (sI y.2 57 82) ∧ cLnk x.2 y.2) := by
          have hmf := MF_of (TI_t hm 0)
          have hh := (FR_t hT hm h 0).Lnk
          unfold f_K_link_B42 f_K_link_B47 f_M_link_B53 f_M_link_B58
          refine l_of (st_bx (rS1 S)) (m_of st_rv (m_p2 p_mayB (fun v m' q => ?_)))
          cases q
          refine m_of (st_F one0) (m_of (st_gRe (hmf 76 122 rfl)) (m_of (st_aIe (v := sI m 122 i) (oc (by omega)) (lv0 m (by omega) 0)) (m_of (st_gRe (hmf 76 122 rfl)) (m_of (st_bIe (oc (by omega))) (l_of (st_gRe r) (l_of (st_bIe (oc (by omega))) (h2_ret ⟨AN_v ?_, fun j hj => ?_⟩)))))))
          · rw [ti_sI_ne (by omega)]
            exact ti_sI_eq _ _ _ _
          · by_cases q : j = i
            · subst q
              rw [ti_sI_eq, ti_sI_eq]
            · rw [ti_sI_ne (by omega), ti_sI_ne (by omega)]
              exact hh j hj
        have no : H2 (f_K_link_B47 S (some 4) (Int32.ofNat i) p (sI m 122 i) 0) (f_M_link_B57 m (some 57) (Int32.ofNat i) p (some 57) 1) (fun x y => AN [eX, eS] x.1 y.1 (sI y.2 57 82) ∧ cLnk x.2 y.2) := by
          unfold f_K_link_B47 f_M_link_B57 f_M_link_B58
          refine l_of (st_bxe (rS0 S)) (m_of st_rv (m_p2 p_mayB (fun v m' q => ?_)))
          cases q
          exact m_of (st_T rfl) (h2_ret ⟨AN_e 1 rfl (ti_sI_eq _ _ _ _), (FR_X hT (TI_t hm 2) (FR_t hT hm h 2)).Lnk⟩)
        unfold f_K_link_B20 f_M_link_B21
        refine m_of (st_F one0) (l_of (st_gRe r) (l_of (st_aIe (oc (by omega)) lk) ?_))
        by_cases c1 : p = -1
        · exact l_of (st_T c1) (m_of (st_T c1) yes)
        · refine l_of (st_F c1) (m_of (st_F c1) (m_of (st_gRe (hmf 76 122 rfl)) (m_of (st_aIe (oc (by omega)) rfl) ?_)))
          by_cases c2 : sI m 122 i = -1
          · exact l_of (st_T c2) (m_of (st_T c2) yes)
          · refine l_of (st_F c2) (m_of (st_F c2) (m_of (st_gRe (hmf 76 122 rfl)) (m_of (st_aIe (oc (by omega)) rfl) ?_)))
            by_cases c3 : sI m 122 i = p
            · exact l_of (st_T c3) (m_of (st_T c3) yes)
            · exact l_of (st_F c3) (m_of (st_F c3) no)
      by_cases c : p = -1
      · exact l_of (st_T c) (ok (Or.inl c))
      · refine l_of (st_F c) (l_bx (fun v S' e => ?_) (fun v S' e => ?_))
        · rcases p_rI _ e with ⟨h3, h4, e2⟩ | ⟨-, e2⟩
          · cases e2
            exact ok (Or.inr ((IX_iff (by decide)).mpr ⟨h3, h4⟩))
          · cases e2
        · rcases p_rI _ e with ⟨h3, h4, e2⟩ | ⟨h3, e2⟩
          · cases e2
          · cases e2
            rw [if_neg (fun q => ((min1_iff p).mp q).elim c (fun z => h3 ((IX_iff (n := 6) (by decide)).mp z)))]
            exact m_of (st_T rfl) bad
    · cases e2
  · rcases p_rI _ e with ⟨h1, h2, e2⟩ | ⟨h1, e2⟩
    · cases e2
    · cases e2
      rw [if_neg (show ¬ (0 ≤ a ∧ a ≤ 5) from fun q => h1 (by have := (IX_iff (n := 6) (by decide)).mp ((six_iff _).mp q); rw [oi (by decide)]; exact this))]
      exact m_of (st_T rfl) bad
end
