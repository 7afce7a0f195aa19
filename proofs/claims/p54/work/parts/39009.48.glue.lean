/-! ===== between the two calls of a case ===== -/
theorem m_FR_in : m_FR.all (fun z => decide (10000 ≤ z ∧ z < 50000)) = true := by decide +kernel
theorem k_FR_in : k_FR.all (fun z => decide ((z < 10000 ∨ 50000 ≤ z) ∧ z ≠ 99999)) = true := by decide +kernel
theorem FR_K {T T' : Nat → Nat} {w : List Nat} {S S' : AS} {c s : Nat} (hT : TV T S) (h : FR S S) (hR : Rl T (99999 :: w) S c s T' S') (hw : ∀ z ∈ w, z < 10000 ∨ 50000 ≤ z) : FR S S' :=
  FR_fr hT hT.1 h (Kp_rf T _ S) (Kp_off hR (fun z hz q => by
    have := of_decide_eq_true (List.all_eq_true.mp m_FR_in z q)
    rcases List.mem_cons.mp hz with rfl | hz
    · omega
    · have := hw z hz
      omega))
theorem FR_M {T T' : Nat → Nat} {w : List Nat} {S S' : AS} {c s : Nat} (hT : TV T S) (hm : TI T' S') (h : FR S S') (hR : Rl T w S c s T' S') (hw : ∀ z ∈ w, 10000 ≤ z ∧ z < 50000) : FR S' S' :=
  FR_fr hT hm h (Kp_off hR (fun z hz q => by
    have := of_decide_eq_true (List.all_eq_true.mp k_FR_in z q)
    have := hw z hz
    omega)) (Kp_rf T' _ S')
theorem m_FR_82 : ¬ 10082 ∈ m_FR := by decide +kernel
/-- what the reference says of its latest call counts for nothing -/
theorem FR_t {T Tm : Nat → Nat} {S m : AS} (hT : TV T S) (hm : TI Tm m) (h : FR S m) (v : Int32) : FR S (wI m 57 82 v) :=
  FR_fr hT hm h (Kp_rf T _ S) ⟨fun _ _ => rfl, fun k j h1 h2 => by
    rw [ti_sI_ne]
    rintro ⟨rfl, rfl⟩
    rw [hm.t9.1] at h2
    exact m_FR_82 h2, fun _ _ _ _ => rfl⟩
theorem FR_X {T Tm : Nat → Nat} {S m : AS} (hT : TV T S) (hm : TI Tm m) (h : FR S m) : FR (wX S) m := FR_fr hT hm h ⟨fun _ _ => rfl, fun _ _ _ _ => rfl, fun _ _ _ _ => rfl⟩ (Kp_rf Tm _ m) (T' := T)
/-- a new exception changes no cell -/
theorem sL_wX (S : AS) : sL (wX S) = sL S := rfl
/-! ===== the endings' bundle out of the relation, and back ===== -/
theorem ofNat_ne {o : Nat} (h : o < 301) : ¬ (-1 : Int32) = Int32.ofNat o := fun q => by
  have := congrArg Int32.toInt q
  rw [oi h, show (-1 : Int32).toInt = -1 from by decide] at this
  omega
theorem ses_inj {S m : AS} (h : FR S m) {a b : Nat} (ha : a < nS m) (hb : b < nS m) (e : lel S 19 a = lel S 19 b) : a = b := by
  have h1 := (h.Ses.2 a ha).1
  have z := h.Ses.1.1
  unfold nS at ha hb
  rw [e, (h.Ses.2 b hb).1] at h1
  exact (oinj (by omega) (by omega) h1).symm
theorem ST_of {T Tm : Nat → Nat} {S m : AS} (hT : TV T S) (hm : TI Tm m) (h : FR S m) : ST T S m (nS m) (nF m) (nT m) := by
  obtain ⟨a1, a2, a3⟩ := h.Ses.1
  obtain ⟨b1, b2, b3⟩ := h.Fam.1
  obtain ⟨c1, c2, c3⟩ := h.Tok.1
  have n60 : nS m ≤ 60 := a1
  have nf60 : nF m ≤ 60 := b1
  refine ⟨SJ_of hT.1 h.PF a1 b1 (a3.trans a2) (b3.trans b2), h.PF.2, MF_of hm, ⟨a1, b1, c1, a3.trans a2, a2, b3.trans b2, b2, c2, ?_⟩, fun s hs => ?_, fun f hf => ?_, h.Srv⟩
  · obtain ⟨-, t, -⟩ := md_at hm (j := 78) (p := 123) rfl rfl
    exact (hm.t1 123 (by rw [t]; decide)).2.2.2 1200 (by rw [t]; rfl)
  · obtain ⟨h1, h2, h3, -⟩ := h.Ses.2 s hs
    refine ⟨h1, h2, fun o ho => ?_⟩
    rcases h3 with ⟨q1, q2⟩ | ⟨o', q0, q1, q2⟩
    · rw [q1, q2]
      exact ⟨fun z => (nomatch z), fun z => absurd z (ofNat_ne (by omega))⟩
    · rw [q1, q2]
      constructor
      · intro z
        rw [ses_inj h (by omega) ho (Option.some.inj z)]
      · intro z
        rw [oinj (by omega) (by omega) z]
  · obtain ⟨c, h1, h2, h3, h4, -⟩ := h.Fam.2 f hf
    obtain ⟨-, ⟨s, s1, s2, s3⟩, -, -, -, -, h5, -⟩ := h.Cod.2 c h1
    have n60 := h.Cod.1.1
    refine ⟨by rw [h2, h5, h4], ⟨c, s, by unfold nC at h1; omega, s1, h3, s3, by rw [h2]; exact s2⟩, h.Aud f hf⟩
theorem EE_of {T : Nat → Nat} {S m : AS} (h : FR S m) : EE 0 T S m (nS m) (nF m) S m := ⟨KE_rf T S, ME_rf m, h.Liv.1, h.Liv.2, h.God.2, h.AU, h.God.1⟩
theorem EE_out {T : Nat → Nat} {S0 m0 S m : AS} {n nf : Nat} (hr : sR S = sR S0) (e1 : nS m = n) (e2 : nF m = nf) (h : EE 0 T S0 m0 n nf S m) : cLiv S m ∧ cGod S m ∧ cAU S m := by
  obtain ⟨-, -, h3, h4, h5, h6, h7⟩ := h
  have e : ∀ l i, lel S l i = lel S0 l i := fun l i => by
    unfold lel
    rw [hr]
  unfold cLiv cGod cAU
  rw [e1, e2]
  exact ⟨⟨fun s hs => by rw [e]; exact h3 s hs, h4⟩, ⟨h7, fun f hf => by rw [e]; exact h5 f hf⟩, h6⟩
/-! ===== pass ===== -/
theorem PI_of {T Tm : Nat → Nat} {S m : AS} (hT : TV T S) (hm : TI Tm m) (h : FR S m) : PI T (nS m) (nF m) (nT m) S m := by
  obtain ⟨-, -, -, -, -, -, -, -, -, t25, t26, -⟩ := kt4 hT.1
  exact ⟨ST_of hT hm h, EE_of h, ⟨t25, t26⟩, h.Key, ⟨h.NW.1, h.NW.2.1⟩, fun s hs => ⟨h.Usd s hs, (h.Ses.2 s hs).2.2.2.2⟩⟩
def P_pass (S m : AS) : Prop := cNW S m ∧ cLiv S m ∧ cGod S m ∧ cKey S m ∧ cAU S m
theorem FR_pass {S m : AS} (h : FR S m) : P_pass S m := ⟨h.NW, h.Liv, h.God, h.Key, h.AU⟩
theorem TI_t {T : Nat → Nat} {m : AS} (hm : TI T m) (v : Int32) : TI T (wI m 57 82 v) := TIwI hm hm.t9.1 (fun lo hi e => by cases e) (fun n lo hi e => by cases e) (by omega)
theorem h_pass {T Tm : Nat → Nat} {S m : AS} (hT : TV T S) (hm : TI Tm m) (h : FR S m) (a : Int32) : H2 (f_K_pass S (some 4) a) (f_M_pass m (some 57) a) (fun x y => AN [eA, eS] x.1 y.1 (sI y.2 57 82) ∧ P_pass x.2 y.2) := by
  unfold f_K_pass f_M_pass
  refine l_of (st_b2 (q_win S a 1 600)) (m_of (st_b2 (q_isIn m a 1 600)) ?_)
  by_cases c : (1 : Int32) ≤ a ∧ a ≤ 600
  · rw [if_pos c]
    refine l_of (st_bx (rA1 S)) (l_of (st_gIe h.NW.1) (m_of (st_F one0) (m_of st_gI ?_)))
    by_cases d : 30000 < sI m 57 0 + a
    · refine l_of (st_T d) (m_of (st_T d) ?_)
      unfold f_K_pass_B28 f_M_pass_B31 f_M_pass_B32
      refine l_of (st_bxe (rS0 S)) (m_of st_rv (m_p2 p_mayB (fun v m' p => ?_)))
      cases p
      refine m_of (st_T rfl) (h2_ret ⟨AN_e 1 rfl (ti_sI_eq _ _ _ _), FR_pass (FR_X hT (TI_t hm 2) (FR_t hT hm h 2))⟩)
    · refine l_of (st_F d) (m_of (st_F d) ?_)
      unfold f_K_pass_B28 f_M_pass_B32
      refine l_of (st_bx (rS1 S)) (m_of st_rv (m_p2 p_mayB (fun v m' p => ?_)))
      cases p
      refine m_of (st_F one0) ?_
      have a1 := Int32.le_iff_toInt_le.mp c.1
      have a2 := Int32.le_iff_toInt_le.mp c.2
      rw [show (1 : Int32).toInt = 1 from by decide] at a1
      rw [show (600 : Int32).toInt = 600 from by decide] at a2
      have an := natI (i := a) (by omega)
      have ea : a = Int32.ofNat a.toNatClampNeg := Int32.toInt_inj.mp (by rw [oi4 (by omega)]; exact an.symm)
      have hf := FR_t hT hm h 0
      have hp := PI_of hT (TI_t hm 0) hf
      have n60 : nS (wI m 57 82 0) ≤ 60 := hf.Ses.1.1
      have c60 := cnt_le (sI (wI m 57 82 0) 89) (nS (wI m 57 82 0))
      have nw : sI (wI m 57 82 0) 57 0 = sI m 57 0 := ti_sI_ne (by omega)
      have le : (sI m 57 0).toInt + a.toInt ≤ 30000 := by
        have e : (sI m 57 0 + a).toInt = (sI m 57 0).toInt + a.toInt := by
          rw [Int32.toInt_add]
          have := h.NW.2
          exact bm (by omega) (by omega)
        have := fun q => d (Int32.lt_iff_toInt_lt.mpr q)
        rw [e, show (30000 : Int32).toInt = 30000 from by decide] at this
        exact Int.not_lt.mp this
      refine l_of (st_gIe hf.Liv.2) ?_
      rw [ea]
      refine h2_mono (h_pass_L (mm := a.toNatClampNeg) (by omega) (Nat.le_trans c60 n60) a.toNatClampNeg 0 kr_FU kr_FU 0 S (wI m 57 82 0) (by omega) hp (by rw [nw]; omega) (Nat.zero_add _)) (fun x y p => ?_)
      obtain ⟨S', c', m', rfl, rfl, hp', x, ht⟩ := p
      have es : nS m' = nS (wI m 57 82 0) := by
        unfold nS
        rw [x.m (p := 57) (j := 30) (by rfl)]
      have ef : nF m' = nF (wI m 57 82 0) := by
        unfold nF
        rw [x.m (p := 57) (j := 46) (by rfl)]
      obtain ⟨o1, o2, o3⟩ := EE_out rfl es ef hp'.2.1
      refine ⟨AN_v ?_, ⟨hp'.2.2.2.2.1.1, hp'.2.2.2.2.1.2, by rw [ht, nw]; omega⟩, o1, o2, hp'.2.2.2.1, o3⟩
      show sI m' 57 82 = 0
      rw [x.m (p := 57) (j := 82) (by rfl), ti_sI_eq]
  · rw [if_neg c]
    refine l_of (st_bxe (rA0 S)) (m_of (st_T rfl) ?_)
    unfold f_M_pass_B31 f_M_pass_B32
    refine m_of st_rv (m_p2 p_mayB (fun v m' p => ?_))
    cases p
    exact m_of (st_T rfl) (h2_ret ⟨AN_e 0 rfl (ti_sI_eq _ _ _ _), FR_pass (FR_X hT (TI_t hm 1) (FR_t hT hm h 1))⟩)
