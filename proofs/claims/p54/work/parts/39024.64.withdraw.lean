/-! ===== withdraw ===== -/
/-- whose family, of which service -/
def WDF (S m : AS) (n f : Nat) : Prop := ∃ c s p v, (c < 60 ∧ s < n ∧ p < 6 ∧ v < 4) ∧ (sI m 99 f = Int32.ofNat c ∧ sI m 93 c = Int32.ofNat s ∧ sI m 94 c = Int32.ofNat v ∧ sI m 85 s = Int32.ofNat p) ∧ (sR S (lel S 23 f) 0 = some (lel S 19 s) ∧ sR S (lel S 19 s) 1 = some (29 + 4 * p) ∧ sI S (lel S 23 f) 1 = Int32.ofNat v)
theorem WDF_of {S m : AS} (h : FR S m) {f : Nat} (hf : f < nF m) : WDF S m (nS m) f := by
  obtain ⟨c, c1, c2, c3, c4, -⟩ := h.Fam.2 f hf
  obtain ⟨-, ⟨s, s1, s2, s3⟩, ⟨v, v1, v2, v3⟩, -⟩ := h.Cod.2 c c1
  obtain ⟨-, ⟨p, p1, p2, p3⟩, -⟩ := h.Ses.2 s s1
  have zc := h.Cod.1.1
  refine ⟨c, s, p, v, ⟨by unfold nC at c1; omega, s1, p1, v1⟩, ⟨c3, s3, v3, p3⟩, ?_, p2, ?_⟩
  · rw [c2]
    exact s2
  · rw [c2]
    exact v2
theorem h_wd_L {T : Nat → Nat} {S0 m0 : AS} {n nf nt p0 v0 : Nat} (st : ST T S0 m0 n nf nt) (wd : ∀ f, f < nf → WDF S0 m0 n f) (hp : p0 < 6) (hv : v0 < 4) : ∀ (k i fu fu' : Nat) (c : Int32) (S m : AS), i + k = nf → EE 0 T S0 m0 n nf S m →
    H2 (f_K_withdraw_L28 fu S (some 4) (Int32.ofNat v0) (some (29 + 4 * p0)) c (Int32.ofNat i)) (f_M_withdraw_L44 fu' m (some 57) (Int32.ofNat p0) (Int32.ofNat v0) c (Int32.ofNat i)) (fun a b => ∃ S' c' m', a = (.inl c', S') ∧ b = (c', m') ∧ EE 0 T S0 m0 n nf S' m')
  | _, _, 0, _, _, _, _, _, _ => h2_l0
  | _, _, _ + 1, 0, _, _, _, _, _ => h2_m0
  | 0, i, fu + 1, fu' + 1, c, S, m, hk, he => by
    unfold f_K_withdraw_L28 f_K_withdraw_C28 f_M_withdraw_L44 f_M_withdraw_C44
    have hkf := st.1.2.1
    obtain ⟨-, -, e23, e46⟩ := ET st he
    obtain ⟨n60, nf60, -⟩ := st.2.2.2.1
    have le : Int32.ofNat nf ≤ Int32.ofNat i := (ole (by omega) (by omega)).mpr (by omega)
    refine l_of (st_gRe (show sR S 4 13 = some 23 by rw [he.1.1]; exact hkf.1 13 23 rfl)) (l_of st_rv (l_of st_size (l_of (st_T (by rw [e23]; exact le)) ?_)))
    exact m_of (st_gIe e46) (m_of (st_T le) (h2_ret ⟨S, c, m, rfl, rfl, he⟩))
  | k + 1, i, fu + 1, fu' + 1, c, S, m, hk, he => by
    unfold f_K_withdraw_L28 f_K_withdraw_C28 f_M_withdraw_L44 f_M_withdraw_C44
    have hkf := st.1.2.1
    have hm := MF_e st.2.2.1 he.2.1.1
    obtain ⟨-, -, e23, e46⟩ := ET st he
    obtain ⟨n60, nf60, -⟩ := st.2.2.2.1
    have le : ¬ Int32.ofNat nf ≤ Int32.ofNat i := fun q => by
      have := (ole (by omega) (by omega)).mp q
      omega
    have r13 : sR S 4 13 = some 23 := by rw [he.1.1]; exact hkf.1 13 23 rfl
    have hi : i < nf := by omega
    obtain ⟨cc, s, p, v, ⟨c60, s1, p6, v4⟩, ⟨m99, m93, m94, m85⟩, ⟨k0, k1, k2⟩⟩ := wd i hi
    obtain ⟨g1, g2, g3⟩ := he.2.2.2.2.1 i hi
    have tg := (ST_f st hi).1
    refine l_of (st_gRe r13) (l_of st_rv (l_of st_size (l_of (st_F (by rw [e23]; exact le)) ?_)))
    refine l_of (st_gRe r13) (l_of st_rv (l_of (st_get (oc (by omega)) (EE_get he (ST_f st hi).2)) (l_of st_cc (l_of (st_gIe g1) ?_))))
    refine m_of (st_gIe e46) (m_of (st_F le) (m_of (st_gRe (hm 51 103 rfl)) (m_of (st_aIe (v := sI m 103 i) (oc (by omega)) rfl) ?_)))
    have skip : H2 (f_K_withdraw_B92 (f_K_withdraw_L28 fu) S (some 4) (Int32.ofNat v0) (some (29 + 4 * p0)) c (Int32.ofNat i)) (f_M_withdraw_B104 (f_M_withdraw_L44 fu') m (some 57) (Int32.ofNat p0) (Int32.ofNat v0) c (Int32.ofNat i)) (fun a b => ∃ S' c' m', a = (.inl c', S') ∧ b = (c', m') ∧ EE 0 T S0 m0 n nf S' m') := by
      unfold f_K_withdraw_B92 f_M_withdraw_B104 f_M_withdraw_B105 f_M_withdraw_B118 f_M_withdraw_B131
      refine l_of st_val (m_of (st_T rfl) (m_of st_val (m_of (st_T rfl) (m_of st_val ?_))))
      rw [o1, Int32.add_zero]
      exact h_wd_L st wd hp hv k (i + 1) fu fu' c S m (by omega) he
    by_cases c1 : sI m 103 i = 0
    · exact l_of (st_T c1) (m_of (st_T c1) skip)
    · have eM : ∀ {q j : Nat}, MW q j = false → sI m q j = sI m0 q j := fun q => he.2.1.2.2 _ _ q
      refine l_of (st_F c1) (m_of (st_F c1) (l_of (st_gRe (v := some (lel S0 19 s)) (by rw [he.1.1]; exact k0)) (l_of (st_gRe (v := some (29 + 4 * p)) (by rw [he.1.1]; exact k1)) (l_of st_ac (l_of st_ac ?_)))))
      refine m_of (st_gRe (hm 31 85 rfl)) (m_of (st_gRe (hm 40 93 rfl)) (m_of (st_gRe (hm 47 99 rfl)) (m_of (st_aIe (v := Int32.ofNat cc) (oc (by omega)) ((eM (by rfl)).trans m99)) (m_of (st_aIe (v := Int32.ofNat s) (oc (by omega)) ((eM (by rfl)).trans m93)) (m_of (st_aIe (v := Int32.ofNat p) (oc (by omega)) ((eM (by rfl)).trans m85)) ?_)))))
      by_cases c2 : p = p0
      · subst c2
        refine l_of (st_T rfl) (m_of (st_T rfl) (l_of (st_gIe (v := Int32.ofNat v) ((KE_ty he.1 tg (by decide) (by decide)).trans k2)) ?_))
        refine m_of (st_gRe (hm 41 94 rfl)) (m_of (st_gRe (hm 47 99 rfl)) (m_of (st_aIe (v := Int32.ofNat cc) (oc (by omega)) ((eM (by rfl)).trans m99)) (m_of (st_aIe (v := Int32.ofNat v) (oc (by omega)) ((eM (by rfl)).trans m94)) ?_)))
        by_cases c3 : Int32.ofNat v = Int32.ofNat v0
        · refine l_of (st_T c3) (m_of (st_T c3) (l_of st_rv ?_))
          unfold f_K_withdraw_B92 f_M_withdraw_B105 f_M_withdraw_B118 f_M_withdraw_B131
          refine m_of (st_F one0) (m_of st_val (m_of (st_F one0) (m_of st_rv ?_)))
          refine h2_xd (h_eF st he hi) (fun w S' m' q => ?_) (fun w S' m' q => ?_)
          · obtain ⟨S2, e, he', -⟩ := q
            cases e
            refine l_of st_val (l_of st_val (m_of st_val ?_))
            rw [o1]
            exact h_wd_L st wd hp hv k (i + 1) fu fu' (c + 1) S' m' (by omega) he'
          · obtain ⟨S2, e, -⟩ := q
            cases e
        · exact l_of (st_F c3) (m_of (st_F c3) skip)
      · exact l_of (st_F (fun q => c2 (per_eq.mp q))) (m_of (st_F (fun q => c2 (oinj (by omega) (by omega) q))) skip)
section
variable {T Tm : Nat → Nat} {S m : AS}
def P_wd (S m : AS) : Prop := cCon S m ∧ P_end S m
theorem FR_wd (h : FR S m) : P_wd S m := ⟨h.Con, FR_end h⟩
theorem wd_go (hT : TV T S) (hm : TI Tm m) (h : FR S m) {i v : Nat} (i6 : i < 6) (v4 : v < 4) : H2 (f_K_withdraw_L28 kr_FU (wI S (32 + 4 * i) v 0) (some 4) (Int32.ofNat v) (some (29 + 4 * i)) 0 0) (f_M_withdraw_L44 kr_FU (wI (wI m 57 82 0) 91 (4 * i + v) 0) (some 57) (Int32.ofNat i) (Int32.ofNat v) 0 0) (fun x y => AN [eX] x.1 y.1 (sI y.2 57 82) ∧ P_wd x.2 y.2) := by
  obtain ⟨tP, -, -, t16⟩ := kt_P hT.1 h.PF i6
  obtain ⟨S1, eS⟩ : ∃ S1, S1 = wI S (32 + 4 * i) v 0 := ⟨_, rfl⟩
  obtain ⟨m1, em⟩ : ∃ m1, m1 = wI (wI m 57 82 0) 91 (4 * i + v) 0 := ⟨_, rfl⟩
  rw [← eS, ← em]
  have oS : ∀ {p j : Nat}, ¬ (p = 32 + 4 * i ∧ j = v) → sI S1 p j = sI S p j := fun q => by
    rw [eS]
    exact ti_sI_ne q
  have sS : sI S1 (32 + 4 * i) v = 0 := by rw [eS, ti_sI_eq]
  have rS : sR S1 = sR S := by rw [eS, sR_wI]
  have lS : sL S1 = sL S := by rw [eS]; rfl
  have om : ∀ {p j : Nat}, ¬ (p = 57 ∧ j = 82) → ¬ (p = 91 ∧ j = 4 * i + v) → sI m1 p j = sI m p j := fun q1 q2 => by
    rw [em]
    exact (ti_sI_ne q2).trans (ti_sI_ne q1)
  have m82 : sI m1 57 82 = 0 := by rw [em, ti_sI_ne (by omega), ti_sI_eq]
  have m91 : sI m1 91 (4 * i + v) = 0 := by rw [em, ti_sI_eq]
  have rm : sR m1 = sR m := by rw [em, sR_wI, sR_wI]
  have lm : sL m1 = sL m := by rw [em]; rfl
  have nP : ∀ k τ, T k = τ → τ ≠ 16 → k ≠ 32 + 4 * i := fun k τ hk ht q => by
    rw [q, t16] at hk
    exact ht hk.symm
  obtain ⟨t4, t5, t6, -⟩ := kt4 hT.1
  have b := FR_BB hT hm h
  have tF : ∀ f, f < nF m → T (lel S 23 f) = 44 := fun f hf => tyF b hf
  have tS : ∀ s, s < nS m → T (lel S 19 s) = 43 := fun s hs => tyS b hs
  have el : ∀ l k, lel S1 l k = lel S l k := fun l k => by
    unfold lel
    rw [rS]
  have st : ST T S1 m1 (nS m) (nF m) (nT m) := ST_cong (ST_of hT hm h) rS lS (fun k j q1 q2 q3 => oS (fun z => by rw [z.1, t16] at q1; omega)) rm lm (fun p j q => om (by omega) (by omega))
  have he : EE 0 T S1 m1 (nS m) (nF m) S1 m1 := EE_mk h rS (fun s hs => oS (fun z => nP _ _ (tS s hs) (by decide) z.1)) (oS (by omega)) (fun f hf => ⟨oS (fun z => nP _ _ (tF f hf) (by decide) z.1), oS (fun z => nP _ _ (tF f hf) (by decide) z.1)⟩) (fun p j q => om (by omega) (by omega))
    (AU_cong h.AU (oS (by omega)) (funext fun j => oS (by omega)) (om (by omega) (by omega)) (funext fun j => om (by omega) (by omega)) (funext fun j => om (by omega) (by omega)) rfl (oS (by omega)) (funext fun j => oS (by omega)) (fun z => (oS (by omega)).trans (z.trans (om (by omega) (by omega)).symm)) (om (by omega) (by omega)) (funext fun j => om (by omega) (by omega)))
  have wd : ∀ f, f < nF m → WDF S1 m1 (nS m) f := fun f hf => by
    obtain ⟨c, s, p, u, h1, ⟨a1, a2, a3, a4⟩, b1, b2, b3⟩ := WDF_of h hf
    refine ⟨c, s, p, u, h1, ⟨(om (by omega) (by omega)).trans a1, (om (by omega) (by omega)).trans a2, (om (by omega) (by omega)).trans a3, (om (by omega) (by omega)).trans a4⟩, ?_, ?_, ?_⟩
    · rw [rS, el, el]
      exact b1
    · rw [rS, el]
      exact b2
    · rw [el, oS (fun z => nP _ _ (tF f hf) (by decide) z.1)]
      exact b3
  refine h2_mono (h_wd_L st wd i6 v4 (nF m) 0 kr_FU kr_FU 0 S1 m1 (Nat.zero_add _) he) (fun x y p => ?_)
  obtain ⟨S', c', m', rfl, rfl, he'⟩ := p
  have pe := EE_out (S0 := S1) (m0 := m1) (n := nS m) (nf := nF m) he'.1.1 (by unfold nS; rw [he'.2.1.2.2 57 30 (by rfl), om (by omega) (by omega)]) (by unfold nF; rw [he'.2.1.2.2 57 46 (by rfl), om (by omega) (by omega)]) he'
  refine ⟨AN_v ((he'.2.1.2.2 57 82 (by rfl)).trans m82), fun c hc => ⟨fun j hj => ?_, ?_⟩, pe⟩
  · obtain ⟨-, -, -, tj⟩ := kt_P hT.1 h.PF hj
    rw [KE_ty he'.1 tj (by decide) (by rfl), he'.2.1.2.2 91 _ (by rfl)]
    by_cases q : j = i ∧ c = v
    · obtain ⟨rfl, rfl⟩ := q
      rw [sS, m91]
    · rw [oS (by omega), om (by omega) (by omega)]
      exact (h.Con c hc).1 j hj
  · have t20 := (kt4 hT.1).2.2.2.2.2.2.2.1
    rw [KE_ty he'.1 t20 (by decide) (by rfl), he'.2.1.2.2 91 _ (by rfl), oS (by omega), om (by omega) (by omega)]
    exact (h.Con c hc).2
theorem h_withdraw (hT : TV T S) (hm : TI Tm m) (h : FR S m) (a c : Int32) : H2 (f_K_withdraw S (some 4) a c) (f_M_withdraw m (some 57) a c) (fun x y => AN [eX] x.1 y.1 (sI y.2 57 82) ∧ P_wd x.2 y.2) := by
  have b := FR_BB hT hm h
  have hmf := MF_of (TI_t hm 0)
  have bad : H2 (some ((Sum.inr eX : Int32 ⊕ String), wX S)) (f_M_withdraw_B20 m (some 57) a c (some 57) 0) (fun x y => AN [eX] x.1 y.1 (sI y.2 57 82) ∧ P_wd x.2 y.2) := by
    unfold f_M_withdraw_B20
    refine m_of st_rv (m_p2 p_may (fun v m' p => ?_))
    cases p
    exact m_of (st_T rfl) (h2_ret ⟨AN_e 0 rfl (ti_sI_eq _ _ _ _), FR_wd (FR_X hT (TI_t hm 1) (FR_t hT hm h 1))⟩)
  unfold f_K_withdraw f_M_withdraw f_M_withdraw_B19
  refine m_of (st_b2 (q_six m a)) ?_
  refine l_of st_rv (l_bx (fun v S' e => ?_) (fun v S' e => ?_))
  · rcases x_fp b a _ e with ⟨i, i1, rfl, e2⟩ | ⟨no, e2⟩
    · cases e2
      rw [if_pos ((six_iff _).mpr ⟨i, i1, rfl⟩)]
      obtain ⟨-, -, -, t16⟩ := kt_P hT.1 h.PF i1
      have l16 : sL S (32 + 4 * i) = 4 := (hT.1.t1 _ (by rw [t16]; decide)).2.2.2 4 (by rw [t16]; rfl)
      have r9 := (h.PF.1 i i1).2.2.2.1
      refine m_of (st_F one0) (m_of (st_b2 (q_ser m c)) (l_of (st_gRe r9) (l_of st_aN ?_)))
      rw [l16]
      refine l_bx (fun v S' e => ?_) (fun v S' e => ?_)
      · rcases p_rI _ e with ⟨h1, h2, e2⟩ | ⟨-, e2⟩
        · cases e2
          rw [oi (by decide)] at h2
          obtain ⟨s, s1, rfl⟩ := (IX_iff (n := 4) (a := c) (by decide)).mpr ⟨h1, by omega⟩
          rw [if_pos ((fou_iff _).mpr ⟨s, s1, rfl⟩)]
          refine m_of (st_F one0) ?_
          unfold f_M_withdraw_B20
          refine m_of st_rv (m_p2 p_may (fun v m' p => ?_))
          cases p
          refine m_of (st_F one0) (m_of (st_gRe (hmf 37 91 rfl)) (m_of (st_bIe (ix4 i (by omega) s s1)) ?_))
          refine l_of (st_gRe r9) (l_of (st_bIe (oc (by omega))) ?_)
          exact wd_go hT hm h i1 s1
        · cases e2
      · rcases p_rI _ e with ⟨h1, h2, e2⟩ | ⟨h1, e2⟩
        · cases e2
        · cases e2
          rw [if_neg (show ¬ (0 ≤ c ∧ c ≤ 3) from fun q => h1 (by have := (IX_iff (n := 4) (by decide)).mp ((fou_iff _).mp q); rw [oi (by decide)]; exact this))]
          exact m_of (st_T rfl) bad
    · cases e2
  · rcases x_fp b a _ e with ⟨i, i1, rfl, e2⟩ | ⟨no, e2⟩
    · cases e2
    · cases e2
      rw [if_neg (fun q => no ((six_iff _).mp q))]
      exact m_of (st_T rfl) bad
end
