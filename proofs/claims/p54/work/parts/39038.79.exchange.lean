/-! ===== exchange ===== -/
section
variable {T Tm : Nat → Nat} {S m : AS}
def P_tok (S m : AS) : Prop := cFre S m ∧ cNum S m ∧ cTok S m ∧ cAud S m
theorem FR_tok (h : FR S m) : P_tok S m := ⟨h.Fre, h.Num, h.Tok, h.Aud⟩
theorem ex_go (hT : TV T S) (hm : TI Tm m) (h : FR S m) (e82 : sI m 57 82 = 0) {t v : Nat} {sc : Int32} (t1 : t < nT m) (v4 : v < 4) (n200 : nT m < 200) :
    H2 (f_K_exchange_B102 S (some 4) (Int32.ofNat v) sc (some (lel S 24 t)) (some (53 + v)) 1) ((gR m 39 57 (some 57)).bind fun v4 => (aI m 46 v4 (Int32.ofNat t)).bind fun v5 => (gR m 39 40 (some 57)).bind fun v6 => (gR m 39 47 (some 57)).bind fun v7 => (aI m 46 v7 v5).bind fun v8 => (aI m 46 v6 v8).bind fun v9 => (kr_rv m 39 (some 57)).bind fun u10 => kr_b2 (f_M_levelNow m (some 57) v9) fun v12 S11 => (gR S11 39 38 (some 57)).bind fun v13 => (aI S11 46 v13 (Int32.ofNat v)).bind fun v14 => if v14 ≤ v12 then (gR S11 39 54 (some 57)).bind fun v15 => (aI S11 46 v15 (Int32.ofNat t)).bind fun v16 => (gR S11 39 56 (some 57)).bind fun v17 => (aI S11 46 v17 (Int32.ofNat t)).bind fun v18 => (gR S11 39 59 (some 57)).bind fun v19 => (aI S11 46 v19 (Int32.ofNat t)).bind fun v20 => (kr_rv S11 39 (some 57)).bind fun u21 => kr_b2 (f_M_newToken S11 (some 57) v5 v16 (Int32.ofNat v) sc (v18 + (1 : Int32)) v20) fun v23 S22 => some (v23, S22) else some ((-2 : Int32), S11)) (fun x y => AN [eX, eA, eS] x.1 y.1 (sI y.2 57 82) ∧ P_tok x.2 y.2) := by
  have b := FR_BB hT hm h
  have k4 := K4F_of hT.1
  have hmf := MF_of hm
  have st := ST_of hT hm h
  obtain ⟨zT1, zT2, zT3⟩ := zT b
  have s24 : sI S 24 2 = Int32.ofNat (nT m) := zT3.trans zT2
  obtain ⟨d, d1, d2, d3, d4, d5, d6⟩ := LO_add hT.1 (q := 5) (by decide) s24 (by omega)
  have d1 : sR S 24 1 = some d := d1
  have d3 : 24 < sN S := d3
  have d5 : d ≠ 24 := d5
  obtain ⟨t4, -, -, -, -, -, -, -, -, t25, -⟩ := kt4 hT.1
  have lt : ∀ {k τ : Nat}, T k = τ → τ ≠ 0 → k < sN S := fun hk h0 => (hT.1.t1 _ (by rw [hk]; exact h0)).1
  have n4 := lt t4 (by decide)
  have d4n : 4 ≠ d := d6 4 (by rw [t4]; decide) (by rw [t4]; decide) (by rw [t4]; decide)
  have t24 : T 24 = 25 := (hT.1.t6 5 (by decide)).1
  obtain ⟨⟨f, f1, f2, f3⟩, -, ⟨v0, v01, v02, v03⟩, -, h4, -, h6, h7, h8⟩ := h.Tok.2 t t1
  have tt := tyT b t1
  have tF := fun q (hq : q < nF m) => tyF b hq
  have f60 : nF m ≤ 60 := (zF b).1
  obtain ⟨-, ⟨c, s, c60, s1, m99, m93, ks⟩, -⟩ := st.2.2.2.2.2.1 f f1
  have s60 : s < 60 := by
    have := (zS b).1
    unfold nS at s1
    omega
  obtain ⟨kc, kg, kb, ka1, ka2, -⟩ := h.Key
  have tn : ∀ q, q < nT m → T (lel S 24 q) = 45 := fun q hq => tyT b hq
  unfold f_K_exchange_B102
  refine l_of (st_bx (rS1 S)) (l_of (st_gRe f2) (l_of (st_gRe ks) (l_of (st_gIe h.NW.1) (l_of st_rv ?_))))
  have ti : (Int32.ofNat t).toNatClampNeg = t := oc (by omega)
  refine m_of (st_gRe (hmf 57 108 rfl)) (m_of (st_aIe ti f3) (m_of (st_gRe (hmf 40 93 rfl)) (m_of (st_gRe (hmf 47 99 rfl)) (m_of (st_aIe (oc (by omega)) m99) (m_of (st_aIe (oc (by omega)) m93) (m_of st_rv ?_))))))
  refine h2_22 (h_levelAt h hmf (fun _ _ _ => rfl) s1) (fun w S7 u m11 q => ?_)
  obtain ⟨y, y8, e1, e2⟩ := q
  cases e1
  cases e2
  refine l_of (st_gIe (h.Ned v v4)) (m_of (st_gRe (hmf 38 92 rfl)) (m_of (st_aIe (v := sI m 92 v) (oc (by omega)) rfl) ?_))
  by_cases d2' : sI m 92 v ≤ lv8 y
  · refine l_of (st_T d2') (m_of (st_T d2') (l_of st_nO ?_))
    have fo : ∀ {k τ : Nat}, T k = τ → τ ≠ 0 → sI (nO S 21) k = sI S k ∧ sR (nO S 21) k = sR S k := fun hk h0 => by
      have := lt hk h0
      obtain ⟨a1, a2, -⟩ := nO_f S 21 (k := _) (Nat.ne_of_lt this)
      exact ⟨a1, a2⟩
    have ft := fo tt (by decide)
    refine l_of (st_gRe (v := some (lel S 23 f)) (by rw [ft.2]; exact f2)) (l_of (st_gIe (v := Int32.ofNat v0) (by rw [ft.1]; exact v02)) (l_of (st_gIe (v := sI m 107 t) (by rw [ft.1]; exact h4)) ?_))
    refine l_of (st_gRe (v := some 25) (by rw [(fo t4 (by decide)).2]; exact k4.1 15 25 rfl)) (l_of (st_gIe (v := sI m 57 61) (by rw [(fo t25 (by decide)).1]; exact ka2.2.1)) (l_of (st_gIe (v := sI m 110 t) (by rw [ft.1]; exact h6)) ?_))
    refine m_of (st_gRe (hmf 54 105 rfl)) (m_of (st_aIe ti v03) (m_of (st_gRe (hmf 56 107 rfl)) (m_of (st_aIe (v := sI m 107 t) ti rfl) (m_of (st_gRe (hmf 59 110 rfl)) (m_of (st_aIe (v := sI m 110 t) ti rfl) (m_of st_rv ?_))))))
    have gF := tF f f1
    have gs := lt gF (by decide)
    have g24 : lel S 23 f ≠ 24 := fun z => by
      rw [z, t24] at gF
      exact absurd gF (by decide)
    refine l_tok (n := nT m) (d := d) (k4.1 14 24 rfl) s24 d1 (by omega) d2 n4 d3 d4 d5 d4n.symm gs g24 (fun S19 tk => ?_)
    refine m_p2 (p_tokM (n := nT m) hmf n200 (by omega) zT2) (fun w m' p => ?_)
    obtain ⟨p1, tm⟩ := p
    have p1 : w = Int32.ofNat (nT m) := p1
    rw [p1]
    have tkk := tk
    obtain ⟨q1, q2, q3, -⟩ := tkk
    refine l_of (st_gRe (v := some 24) ((q2 4 14 n4 (by omega) (by omega)).trans (k4.1 14 24 rfl))) (l_of st_rv (l_of st_size ?_))
    rw [q3, show Int32.ofNat (nT m + 1) - 1 = Int32.ofNat (nT m) by rw [← o1]; exact Int32.add_sub_cancel _ _]
    have fin := TK_fin tk tm h.Tok h.Num h.Aud h.Fre f1 f60 rfl v4 n200 rfl ⟨kg, by omega, ka1.2⟩ h7 h8
      (fun q hq => lel_othG hT.1 (q := 4) (q0 := 5) (by decide) (by decide) (by decide) d6 q2 (SZ_lt (zF b) (by decide) hq))
      (fun q hq => lel_othG hT.1 (q := 3) (q0 := 5) (by decide) (by decide) (by decide) d6 q2 (SZ_lt (zC b) (by decide) hq))
      (fun q hq => ⟨lt (tF q hq) (by decide), fun z => by
        have := tF q hq
        rw [z, t24] at this
        exact absurd this (by decide)⟩)
      (fun a c ha hc e => ST_fi st ha hc e)
      (fun q hq => ⟨lt (tn q hq) (by decide), fun z => by
        have := tn q hq
        rw [z, t24] at this
        exact absurd this (by decide), d6 _ (by rw [tn q hq]; decide) (by rw [tn q hq]; decide) (by rw [tn q hq]; decide), fun a ha z => by
        have := tn q hq
        rw [z, tF a ha] at this
        exact absurd this (by decide)⟩)
      (fun c hc h98 => ⟨lt (tyC b hc) (by decide), fun z => by
        have := tyC b hc
        rw [z, t24] at this
        exact absurd this (by decide), fun z => by
        obtain ⟨c', c1, c2, c3, c4, -⟩ := h.Fam.2 f f1
        have := (h.Cod.2 c hc).1 c' c1 (by rw [z, c2])
        subst this
        rw [h98] at c4
        exact ofNat_ne (by omega) c4⟩)
    obtain ⟨g1, g2, g3, g4⟩ := fin
    exact h2_ret ⟨AN_v ((tm.1.2.2 57 82 (by omega) (by omega) (by omega)).trans e82), g4, g2, g1, g3⟩
  · exact l_of (st_F d2') (m_of (st_F d2') (h2_ret ⟨AN_v e82, FR_tok h⟩))
end
