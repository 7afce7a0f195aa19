/-! ===== calls that only tell ===== -/
def P0 (_S _m : AS) : Prop := True
theorem ix3 : ∀ i, i < 60 → ∀ f, f < 3 → ((3 : Int32) * Int32.ofNat i + Int32.ofNat f).toNatClampNeg = 3 * i + f := by decide +kernel
theorem ix6 : ∀ i, i < 6 → ∀ f, f < 6 → ((6 : Int32) * Int32.ofNat i + Int32.ofNat f).toNatClampNeg = 6 * i + f := by decide +kernel
theorem ix12 : ∀ i, i < 9 → ∀ f, f < 12 → ((12 : Int32) * Int32.ofNat i + Int32.ofNat f).toNatClampNeg = 12 * i + f := by decide +kernel
section
variable {T Tm : Nat → Nat} {S m : AS}
theorem lv0 (m : AS) {p j : Nat} (h : ¬ (p = 57 ∧ j = 82)) (v : Int32) : sI (wI m 57 82 v) p j = sI m p j := ti_sI_ne h
/-- a person's factor -/
theorem p_stateOf (hp : PF S) {i f : Nat} (hi : i < 6) (hf : f < 3) : Hp (f_Person_stateOf S (some (29 + 4 * i)) (Int32.ofNat f)) (fun q => q = (sI S (30 + 4 * i) f, S)) := by
  unfold f_Person_stateOf
  refine p_of (st_b2 (q_Kfac S _)) ?_
  rw [if_pos ((thr_iff _).mpr ⟨f, hf, rfl⟩)]
  exact p_of (st_F one0) (p_of (st_gRe (hp.1 i hi).2.1) (p_of (st_aIe (oc (by omega)) rfl) (p_ret rfl)))
theorem h_factor (hT : TV T S) (hm : TI Tm m) (h : FR S m) (a f : Int32) : H2 (f_K_factor S (some 4) a f) (f_M_factor m (some 57) a f) (fun x y => AN [eX, eA] x.1 y.1 (sI y.2 57 82) ∧ P0 x.2 y.2) := by
  have b := FR_BB hT hm h
  have hmf := MF_of (TI_t hm 0)
  unfold f_K_factor f_M_factor
  refine m_of (st_b2 (q_six m a)) (m_of (st_b2 (q_fac m f)) (m_of st_rv ?_))
  refine l_of st_rv (l_bx (fun v S' e => ?_) (fun v S' e => ?_))
  · rcases x_fp b a _ e with ⟨i, i1, rfl, e2⟩ | ⟨no, e2⟩
    · cases e2
      rw [if_pos ((six_iff _).mpr ⟨i, i1, rfl⟩)]
      refine l_of (st_b2 (q_Kfac S f)) ?_
      by_cases c : 0 ≤ f ∧ f ≤ 2
      · rw [if_pos c]
        obtain ⟨g, g1, rfl⟩ := (thr_iff f).mp c
        refine m_p2 p_mayB (fun v m' p => ?_)
        cases p
        refine l_of (st_bx (rA1 S)) (l_of st_rv (l_p2 (p_stateOf h.PF i1 g1) (fun w S2 p => ?_)))
        cases p
        refine m_of (st_F one0) (m_of (st_gRe (hmf 1 58 rfl)) (m_of (st_aIe (ix3 i (by omega) g g1) rfl) (h2_ret ⟨?_, trivial⟩)))
        rw [lv0 m (by omega), ← ((h.Fac i i1).1 g g1).1]
        exact AN_v (ti_sI_eq _ _ _ _)
      · rw [if_neg c]
        refine m_p2 p_mayB (fun v m' p => ?_)
        cases p
        exact l_of (st_bxe (rA0 S)) (m_of (st_T rfl) (h2_ret ⟨AN_e 1 rfl (ti_sI_eq _ _ _ _), trivial⟩))
    · cases e2
  · rcases x_fp b a _ e with ⟨i, i1, rfl, e2⟩ | ⟨no, e2⟩
    · cases e2
    · cases e2
      rw [if_neg (fun q => no ((six_iff _).mp q))]
      refine m_p2 p_mayB (fun v m' p => ?_)
      cases p
      exact m_of (st_T rfl) (h2_ret ⟨AN_e 0 rfl (ti_sI_eq _ _ _ _), trivial⟩)
theorem h_state (hT : TV T S) (hm : TI Tm m) (h : FR S m) (a : Int32) : H2 (f_K_state S (some 4) a) (f_M_state m (some 57) a) (fun x y => AN [eX] x.1 y.1 (sI y.2 57 82) ∧ P0 x.2 y.2) := by
  have b := FR_BB hT hm h
  have hmf := MF_of (TI_t hm 0)
  unfold f_K_state f_M_state
  refine h_fA b a (fun s hs e => ?_) ⟨AN_e 0 rfl (ti_sI_eq _ _ _ _), trivial⟩
  have z := h.Att.1.1
  refine l_of st_gI (m_of (st_gRe (hmf 25 80 rfl)) (m_of (st_aIe (n := s) (by rw [e]; exact oc (by unfold uA at hs; omega)) rfl) (h2_ret ⟨?_, trivial⟩)))
  rw [lv0 m (by omega), (h.Ast.2 s hs).1]
  exact AN_v (ti_sI_eq _ _ _ _)
theorem h_sessionOf (hT : TV T S) (hm : TI Tm m) (h : FR S m) (a : Int32) : H2 (f_K_sessionOf S (some 4) a) (f_M_sessionOf m (some 57) a) (fun x y => AN [eX] x.1 y.1 (sI y.2 57 82) ∧ P0 x.2 y.2) := by
  have b := FR_BB hT hm h
  have hmf := MF_of (TI_t hm 0)
  unfold f_K_sessionOf f_M_sessionOf
  refine h_fA b a (fun s hs e => ?_) ⟨AN_e 0 rfl (ti_sI_eq _ _ _ _), trivial⟩
  have z := h.Att.1.1
  refine l_of st_gI (m_of (st_gRe (hmf 28 83 rfl)) (m_of (st_aIe (n := s) (by rw [e]; exact oc (by unfold uA at hs; omega)) rfl) (h2_ret ⟨?_, trivial⟩)))
  rw [lv0 m (by omega), (h.Ast.2 s hs).2.2.1]
  exact AN_v (ti_sI_eq _ _ _ _)
theorem b01_of {v : Int32} (h : v = 0 ∨ v = 1) (m : AS) : (if v = 0 then some ((0 : Int32), m) else some ((1 : Int32), m)) = some (v, m) := by
  rcases h with rfl | rfl
  · rfl
  · rfl
theorem h_isLive (hT : TV T S) (hm : TI Tm m) (h : FR S m) (a : Int32) : H2 (f_K_isLive S (some 4) a) (f_M_isLive m (some 57) a) (fun x y => AN [eX] x.1 y.1 (sI y.2 57 82) ∧ P0 x.2 y.2) := by
  have b := FR_BB hT hm h
  have hmf := MF_of (TI_t hm 0)
  unfold f_K_isLive f_M_isLive
  refine h_fS b a (fun s hs e => ?_) ⟨AN_e 0 rfl (ti_sI_eq _ _ _ _), trivial⟩
  have z := h.Ses.1.1
  obtain ⟨l1, l2⟩ := h.Liv.1 s hs
  refine l_of st_gI (l_of st_z (m_of (st_gRe (hmf 35 89 rfl)) (m_of (st_aIe (n := s) (v := sI m 89 s) (by rw [e]; exact oc (by unfold nS at hs; omega)) (lv0 m (by omega) 0)) ?_)))
  rw [b01_of l2, l1]
  exact h2_ret ⟨AN_v (ti_sI_eq _ _ _ _), trivial⟩
theorem h_isGood (hT : TV T S) (hm : TI Tm m) (h : FR S m) (a : Int32) : H2 (f_K_isGood S (some 4) a) (f_M_isGood m (some 57) a) (fun x y => AN [eX] x.1 y.1 (sI y.2 57 82) ∧ P0 x.2 y.2) := by
  have b := FR_BB hT hm h
  have hmf := MF_of (TI_t hm 0)
  unfold f_K_isGood f_M_isGood
  refine h_fF b a (fun s hs e => ?_) ⟨AN_e 0 rfl (ti_sI_eq _ _ _ _), trivial⟩
  have z := h.Fam.1.1
  have l1 := (h.God.2 s hs).1
  have l2 : sI m 103 s = 0 ∨ sI m 103 s = 1 := by
    obtain ⟨-, t, -⟩ := md_at hm (j := 51) (p := 103) rfl rfl
    exact In01 (hm.t5 103 s 60 0 1 (by rw [t]; rfl) (by unfold nF at hs; omega))
  refine l_of st_gI (l_of st_z (m_of (st_gRe (hmf 51 103 rfl)) (m_of (st_aIe (n := s) (v := sI m 103 s) (by rw [e]; exact oc (by unfold nF at hs; omega)) (lv0 m (by omega) 0)) ?_)))
  rw [b01_of l2, l1]
  exact h2_ret ⟨AN_v (ti_sI_eq _ _ _ _), trivial⟩
theorem h_tokenOf (hT : TV T S) (hm : TI Tm m) (h : FR S m) (a : Int32) : H2 (f_K_tokenOf S (some 4) a) (f_M_tokenOf m (some 57) a) (fun x y => AN [eX] x.1 y.1 (sI y.2 57 82) ∧ P0 x.2 y.2) := by
  have b := FR_BB hT hm h
  have hmf := MF_of (TI_t hm 0)
  unfold f_K_tokenOf f_M_tokenOf
  refine h_fF b a (fun s hs e => ?_) ⟨AN_e 0 rfl (ti_sI_eq _ _ _ _), trivial⟩
  have z := h.Fam.1.1
  refine l_of st_gI (m_of (st_gRe (hmf 50 102 rfl)) (m_of (st_aIe (n := s) (by rw [e]; exact oc (by unfold nF at hs; omega)) rfl) (h2_ret ⟨?_, trivial⟩)))
  rw [lv0 m (by omega), (h.Num s hs).2.2]
  exact AN_v (ti_sI_eq _ _ _ _)
theorem h_token (hT : TV T S) (hm : TI Tm m) (h : FR S m) (a : Int32) : H2 (f_K_token S (some 4) a) (f_M_token m (some 57) a) (fun x y => AN [eX] x.1 y.1 (sI y.2 57 82) ∧ P0 x.2 y.2) := by
  have b := FR_BB hT hm h
  have hmf := MF_of (TI_t hm 0)
  unfold f_K_token f_M_token
  refine h_fT b a (fun s hs e => ?_) ⟨AN_e 0 rfl (ti_sI_eq _ _ _ _), trivial⟩
  have z := h.Tok.1.1
  have ea : a.toNatClampNeg = s := by rw [e]; exact oc (by unfold nT at hs; omega)
  obtain ⟨-, h1, ⟨v, v1, v2, v3⟩, -, h4, -, h6, -⟩ := h.Tok.2 s hs
  refine l_of (st_gIe h6) (l_of (st_gIe h1) (l_of (st_gIe (v2.trans v3.symm)) (l_of (st_gIe h4) ?_)))
  refine m_of (st_gRe (hmf 59 110 rfl)) (m_of (st_aIe ea rfl) (m_of (st_gRe (hmf 53 104 rfl)) (m_of (st_aIe ea rfl) (m_of (st_gRe (hmf 54 105 rfl)) (m_of (st_aIe ea rfl) (m_of (st_gRe (hmf 56 107 rfl)) (m_of (st_aIe ea rfl) (h2_ret ⟨?_, trivial⟩))))))))
  rw [lv0 m (by omega), lv0 m (by omega), lv0 m (by omega), lv0 m (by omega)]
  exact AN_v (ti_sI_eq _ _ _ _)
/-- the level of a session -/
def lvl (f : Nat → Prop) [DecidablePred f] : Int32 := (if f 0 then 1 else 0) + (if f 1 then 2 else 0) + (if f 2 then 3 else 0)
theorem m120 {now v : Int32} (h0 : 0 ≤ now.toInt) (h1 : now.toInt ≤ 30000) (hv : mok v) : (v ≠ -1 ∧ ¬ v < now - 120) ↔ (v ≠ -1 ∧ ¬ 120 < now - v) := by
  have e : (now - 120).toInt = now.toInt - 120 := by
    rw [Int32.toInt_sub, show (120 : Int32).toInt = 120 from by decide]
    exact bm (by omega) (by omega)
  rcases hv with hv | ⟨v0, v1⟩
  · exact ⟨fun q => absurd hv q.1, fun q => absurd hv q.1⟩
  · have e2 : (now - v).toInt = now.toInt - v.toInt := by
      rw [Int32.toInt_sub]
      exact bm (by omega) (by omega)
    rw [Int32.lt_iff_toInt_lt, Int32.lt_iff_toInt_lt, e, e2, show (120 : Int32).toInt = 120 from by decide]
    constructor
    · rintro ⟨q1, q2⟩
      exact ⟨q1, by omega⟩
    · rintro ⟨q1, q2⟩
      exact ⟨q1, by omega⟩
theorem p_weight {f : Nat} (hf : f < 3) (hw : sR S 1 0 = sR S 1 0) : Hp (f_Shown_weightOf S (Int32.ofNat f)) (fun q => q.2 = S) := by
  unfold f_Shown_weightOf
  refine p_of (st_b2 (q_Kfac S _)) ?_
  rw [if_pos ((thr_iff _).mpr ⟨f, hf, rfl⟩)]
  exact p_of (st_F one0) (p_of st_aI (p_ret rfl))
end
