/-! ===== recoveries: recover, stop, vouch ===== -/
def bcv (a : Int32) : Int32 :=
  let i1 := a - (((a.toUInt32 >>> ((1 : Int32).toUInt32 &&& Int32.toUInt32 31)).toInt32) &&& (1431655765 : Int32))
  let i2 := (i1 &&& (858993459 : Int32)) + (((i1.toUInt32 >>> ((2 : Int32).toUInt32 &&& Int32.toUInt32 31)).toInt32) &&& (858993459 : Int32))
  let i3 := (i2 + ((i2.toUInt32 >>> ((4 : Int32).toUInt32 &&& Int32.toUInt32 31)).toInt32)) &&& (252645135 : Int32)
  let i4 := i3 + ((i3.toUInt32 >>> ((8 : Int32).toUInt32 &&& Int32.toUInt32 31)).toInt32)
  let i5 := i4 + ((i4.toUInt32 >>> ((16 : Int32).toUInt32 &&& Int32.toUInt32 31)).toInt32)
  i5 &&& (63 : Int32)
def mnv (a : Int32) : Int32 := sW (fun j => (a >>> (Int32.ofNat j &&& 31)) &&& (1 : Int32)) 6 0 0
theorem bc_mn : ∀ k, k < 64 → bcv (Int32.ofNat k) = mnv (Int32.ofNat k) := by decide +kernel
theorem p_bc {S : AS} {a : Int32} : Hp (f_IN_bitCount S a) (fun q => q = (bcv a, S)) := by
  unfold f_IN_bitCount
  exact p_of st_val (p_of st_val (p_of st_val (p_of st_val (p_of st_val (p_ret rfl)))))
theorem p_mn_L {S : AS} {a : Int32} : ∀ (k j fu : Nat) (x : Int32), j + k = 6 → Hp (f_M_many_L4 fu S a x (Int32.ofNat j)) (fun q => q = (sW (fun j => (a >>> (Int32.ofNat j &&& 31)) &&& (1 : Int32)) k j x, S))
  | _, _, 0, _, _ => p_0
  | 0, j, fu + 1, x, hk => by
    unfold f_M_many_L4 f_M_many_C4
    have e : j = 6 := by omega
    subst e
    exact p_of (st_T (by decide)) (p_ret rfl)
  | k + 1, j, fu + 1, x, hk => by
    unfold f_M_many_L4 f_M_many_C4
    refine p_of (st_F (fun q => by have := (ole (a := 6) (b := j) (by decide) (by omega)).mp q; omega)) (p_of st_val (p_of st_val ?_))
    rw [o1]
    exact p_mn_L k (j + 1) fu _ (by omega)
section
variable {T Tm : Nat → Nat} {S m : AS}
/-- a session speaks for its person -/
def SPK (m : AS) (s : Nat) : Prop := sI m 89 s ≠ 0 ∧ sI m 88 s = -1
theorem p_speaks (hmf : MF m) {s : Nat} (hs : s < 60) : Hp (f_M_speaks m (some 57) (Int32.ofNat s)) (fun q => (SPK m s ∧ q = (1, m)) ∨ (¬ SPK m s ∧ q = (0, m))) := by
  unfold f_M_speaks
  refine p_of (st_gRe (hmf 35 89 rfl)) (p_of (st_aIe (v := sI m 89 s) (oc (by omega)) rfl) (p_if (fun c => p_ret (Or.inr ⟨fun q => q.1 c, rfl⟩)) (fun c => ?_)))
  refine p_of (st_gRe (hmf 34 88 rfl)) (p_of (st_aIe (v := sI m 88 s) (oc (by omega)) rfl) (p_if (fun c2 => p_ret (Or.inl ⟨⟨c, c2⟩, rfl⟩)) (fun c2 => p_ret (Or.inr ⟨fun q => c2 q.2, rfl⟩))))
theorem SPK_r (h : FR S m) {s : Nat} (hs : s < nS m) : sR S (lel S 19 s) 2 = none ↔ sI m 88 s = -1 := by
  rcases (h.Ses.2 s hs).2.2.1 with ⟨q1, q2⟩ | ⟨o, o1, q1, q2⟩
  · rw [q1, q2]
    exact ⟨fun _ => rfl, fun _ => rfl⟩
  · rw [q1, q2]
    have := h.Ses.1.1
    unfold nS at hs
    exact ⟨fun q => (nomatch q), fun q => absurd q.symm (ofNat_ne (by omega))⟩
theorem per_eq {i j : Nat} : some (29 + 4 * i) = some (29 + 4 * j) ↔ i = j := ⟨fun q => by have := Option.some.inj q; omega, fun q => by rw [q]⟩
theorem h_stop (hT : TV T S) (hm : TI Tm m) (h : FR S m) (a c : Int32) : H2 (f_K_stop S (some 4) a c) (f_M_stop m (some 57) a c) (fun x y => AN [eX, eS] x.1 y.1 (sI y.2 57 82) ∧ cRec x.2 y.2) := by
  have b := FR_BB hT hm h
  have hmf := MF_of hm
  have no1 : H2 (some ((Sum.inr eX : Int32 ⊕ String), wX S)) (f_M_stop_B21 m (some 57) a c 0) (fun x y => AN [eX, eS] x.1 y.1 (sI y.2 57 82) ∧ cRec x.2 y.2) := by
    unfold f_M_stop_B21 f_M_stop_B64 f_M_stop_B65
    refine m_of (st_T rfl) (m_of st_rv (m_p2 p_mayB (fun v m' p => ?_)))
    cases p
    exact m_of (st_T rfl) (h2_ret ⟨AN_e 0 rfl (ti_sI_eq _ _ _ _), (FR_X hT (TI_t hm 1) (FR_t hT hm h 1)).Rec⟩)
  have no2 : ∀ x, H2 (f_K_stop_B52 S (some x)) (f_M_stop_B64 m (some 57) a (some 57) 1) (fun x y => AN [eX, eS] x.1 y.1 (sI y.2 57 82) ∧ cRec x.2 y.2) := fun x => by
    unfold f_K_stop_B52 f_K_stop_B53 f_M_stop_B64 f_M_stop_B65
    refine l_of (st_bxe (rS0 S)) (m_of st_rv (m_p2 p_mayB (fun v m' p => ?_)))
    cases p
    exact m_of (st_T rfl) (h2_ret ⟨AN_e 1 rfl (ti_sI_eq _ _ _ _), (FR_X hT (TI_t hm 2) (FR_t hT hm h 2)).Rec⟩)
  unfold f_K_stop f_M_stop f_M_stop_B20
  refine l_of st_rv (m_of st_rv (m_p2 (x_MR b a) (fun v S2 p => ?_)))
  refine l_bx (fun v' S' e => ?_) (fun v' S' e => ?_)
  · rcases x_fR b a _ e with ⟨r, r1, ea, e2⟩ | ⟨no, e2⟩
    · cases e2
      rcases p with ⟨-, p2⟩ | ⟨p1, -⟩
      · cases p2
        refine m_of (st_F one0) (m_of st_rv (m_p2 (x_MS b c) (fun v S2 p => ?_)))
        refine l_of st_rv (l_bx (fun v' S' e => ?_) (fun v' S' e => ?_))
        · rcases x_fS b c _ e with ⟨s, s1, ec, e2⟩ | ⟨no, e2⟩
          · cases e2
            rcases p with ⟨-, p2⟩ | ⟨p1, -⟩
            · cases p2
              subst ea
              subst ec
              unfold f_M_stop_B21
              have z20 := h.Rec.1.1
              have r20 : r < 20 := by
                unfold nR at r1
                omega
              have z60 := h.Ses.1.1
              have s60 : s < 60 := by
                unfold nS at s1
                omega
              obtain ⟨-, ⟨i, i6, g1, g2⟩, g3, g4, g5, g6, g7⟩ := h.Rec.2.2 r r1
              obtain ⟨l1, l2⟩ := h.Liv.1 s s1
              obtain ⟨-, ⟨p, p6, q1, q2⟩, -⟩ := h.Ses.2 s s1
              have q3 := SPK_r h s1
              refine m_of (st_F one0) (m_of (st_F one0) (m_of (st_gRe (hmf 73 119 rfl)) (m_of (st_aIe (v := sI m 119 r) (oc (by omega)) rfl) (l_of (st_gIe g4) ?_))))
              by_cases c1 : sI m 119 r = 0
              · exact l_of (st_T c1) (m_of (st_T c1) (no2 _))
              · refine l_of (st_F c1) (m_of (st_F c1) (m_of st_rv (m_p2 (p_speaks hmf s60) (fun v S2 p => ?_))))
                refine l_of (st_gIe l1) ?_
                rcases p with ⟨sp, e⟩ | ⟨sp, e⟩
                · cases e
                  refine l_of (st_F sp.1) (l_of (st_gRe (q3.mpr sp.2)) (l_of (st_T rfl) (l_of (st_gRe q1) (l_of (st_gRe g1) (l_of st_ac (l_of st_ac ?_))))))
                  refine m_of (st_F one0) (m_of (st_gRe (hmf 31 85 rfl)) (m_of (st_aIe (oc (by omega)) q2) (m_of (st_gRe (hmf 71 117 rfl)) (m_of (st_aIe (oc (by omega)) g2) ?_))))
                  by_cases c2 : p = i
                  · subst c2
                    refine l_of (st_T rfl) (m_of (st_T rfl) ?_)
                    unfold f_K_stop_B53 f_M_stop_B65 f_Recovery_countVouchers f_M_many
                    have hmf0 := MF_of (TI_t hm 0)
                    have h0 := (FR_t hT hm h 0).Rec
                    refine l_of (st_bx (rS1 S)) (m_of st_rv (m_p2 p_mayB (fun v m' p => ?_)))
                    cases p
                    refine m_of (st_F one0) (m_of (st_gRe (hmf0 73 119 rfl)) (m_of (st_bZe (oc (by omega))) (m_of (st_gRe (hmf0 74 120 rfl)) (m_of (st_aIe (v := sI m 120 r) (oc (by omega)) ((ti_sI_ne (by omega)).trans (lv0 m (by omega) 0))) ?_))))
                    refine l_of st_pZ (l_of st_rv ?_)
                    refine l_p2 (P := fun q => q = (bcv (sI m 120 r), wI S (lel S 27 r) 2 0)) (p_of (st_gIe (v := sI m 120 r) ((ti_sI_ne (by omega)).trans g5)) (p_b2 p_bc (fun v S' e => p_ret e))) (fun v S' e => ?_)
                    cases e
                    refine m_p2 (p_mn_L 6 0 kr_FU 0 rfl) (fun v S' e => ?_)
                    cases e
                    have ev : sI m 120 r = Int32.ofNat (sI m 120 r).toNatClampNeg := Int32.toInt_inj.mp (by rw [oi (by have := natI g6.1; omega)]; exact (natI g6.1).symm)
                    have eb : bcv (sI m 120 r) = sW (fun j => (sI m 120 r >>> (Int32.ofNat j &&& 31)) &&& (1 : Int32)) 6 0 0 := by
                      rw [ev]
                      exact bc_mn _ (by have := natI g6.1; omega)
                    rw [eb]
                    refine h2_ret ⟨AN_v ?_, ?_⟩
                    · rw [ti_sI_ne (by omega)]
                      exact ti_sI_eq _ _ _ _
                    · obtain ⟨u1, u2, u3⟩ := h0
                      have nn : nR (wI (wI m 57 82 0) 119 r 0) = nR (wI m 57 82 0) := by
                        unfold nR
                        rw [ti_sI_ne (by omega)]
                      have tr : ∀ k, k < nR (wI m 57 82 0) → T (lel S 27 k) = 46 := fun k hk => tyR b hk
                      refine ⟨⟨?_, ?_, ?_⟩, fun k k1 k2 => ?_, fun k hk => ?_⟩
                      · rw [ti_sI_ne (by omega)]
                        exact u1.1
                      · rw [ti_sI_ne (by omega)]
                        exact u1.2.1
                      · refine (ti_sI_ne (fun q => ?_)).trans (u1.2.2.trans (ti_sI_ne (by omega)).symm)
                        have := tr r r1
                        rw [← q.1, show T 27 = 26 from (hT.1.t6 6 (by decide)).1] at this
                        exact absurd this (by decide)
                      · rw [nn] at k1
                        have := u2 k k1 k2
                        exact ⟨(ti_sI_ne (by omega)).trans this.1, (ti_sI_ne (by omega)).trans this.2⟩
                      · rw [nn] at hk
                        obtain ⟨w1, w2, w3, w4, w5, w6, w7⟩ := u3 k hk
                        rw [nn]
                        refine ⟨w1, ?_, ?_, ?_, ?_, ?_, ?_⟩
                        · obtain ⟨x, x1, x2, x3⟩ := w2
                          exact ⟨x, x1, x2, (ti_sI_ne (by omega)).trans x3⟩
                        · exact (ti_sI_ne (by omega)).trans (w3.trans (ti_sI_ne (by omega)).symm)
                        · by_cases y : k = r
                          · subst y
                            exact (ti_sI_eq _ _ _ _).trans (ti_sI_eq _ _ _ _).symm
                          · refine (ti_sI_ne (fun q => y ?_)).trans (w4.trans (ti_sI_ne (by omega)).symm)
                            exact ((u3 r r1).1 k hk q.1)
                        · exact (ti_sI_ne (by omega)).trans (w5.trans (ti_sI_ne (by omega)).symm)
                        · rw [ti_sI_ne (by omega)]
                          exact w6
                        · exact (ti_sI_ne (by omega)).trans (w7.trans (ti_sI_ne (by omega)).symm)
                  · exact l_of (st_F (fun q => c2 (per_eq.mp q))) (m_of (st_F (fun q => c2 (oinj (by omega) (by omega) q))) (no2 _))
                · cases e
                  refine m_of (st_T rfl) ?_
                  by_cases c3 : sI m 89 s = 0
                  · exact l_of (st_T c3) (no2 _)
                  · refine l_of (st_F c3) (l_of (st_gR) (l_of (st_F (fun q => sp ⟨c3, q3.mp q⟩)) (no2 _)))
            · exact absurd ⟨s, s1, ec⟩ p1
          · cases e2
        · rcases x_fS b c _ e with ⟨s, s1, ec, e2⟩ | ⟨no, e2⟩
          · cases e2
          · cases e2
            rcases p with ⟨p1, -⟩ | ⟨-, p2⟩
            · exact absurd p1 no
            · cases p2
              exact m_of (st_T rfl) no1
      · exact absurd ⟨r, r1, ea⟩ p1
    · cases e2
  · rcases x_fR b a _ e with ⟨r, r1, ea, e2⟩ | ⟨no, e2⟩
    · cases e2
    · cases e2
      rcases p with ⟨p1, -⟩ | ⟨-, p2⟩
      · exact absurd p1 no
      · cases p2
        exact m_of (st_T rfl) no1
end
