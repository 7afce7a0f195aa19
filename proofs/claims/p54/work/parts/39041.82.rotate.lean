/-! ===== a family's number goes up ===== -/
section
variable {T Tm : Nat → Nat} {S m : AS}
def P_ref (S m : AS) : Prop := cUsd S m ∧ cFre S m ∧ cNum S m ∧ cGod S m ∧ cTok S m ∧ cAud S m ∧ cAU S m
theorem FR_ref (h : FR S m) : P_ref S m := ⟨h.Usd, h.Fre, h.Num, h.God, h.Tok, h.Aud, h.AU⟩
theorem rot_go (hT : TV T S) (hm : TI Tm m) (h : FR S m) (e82 : sI m 57 82 = 0) {f : Nat} (f1 : f < nF m) (n200 : nT m < 200) :
    H2 (f_K_refresh_B63 S (some 4) (some (lel S 23 f)) 1) ((gR m 39 48 (some 57)).bind fun v13 => (aI m 46 v13 (Int32.ofNat f)).bind fun v14 => (bI m v13 (Int32.ofNat f) (v14 + (1 : Int32)) 46).bind fun S15 => (gR S15 39 49 (some 57)).bind fun v16 => (gI S15 39 0 (some 57)).bind fun v17 => (bI S15 v16 (Int32.ofNat f) v17 46).bind fun S18 => (kr_rv S18 39 (some 57)).bind fun u19 => (f_M_firstToken S18 (some 57) (Int32.ofNat f)).bind fun S20 => (gR S20 39 33 (some 57)).bind fun v21 => (gR S20 39 40 (some 57)).bind fun v22 => (gR S20 39 47 (some 57)).bind fun v23 => (aI S20 46 v23 (Int32.ofNat f)).bind fun v24 => (aI S20 46 v22 v24).bind fun v25 => (gI S20 39 0 (some 57)).bind fun v26 => (bI S20 v21 v25 v26 46).bind fun S27 => (gR S27 39 48 (some 57)).bind fun v28 => (aI S27 46 v28 (Int32.ofNat f)).bind fun v29 => some (v29, S27)) (fun x y => AN [eX, eA, eS] x.1 y.1 (sI y.2 57 82) ∧ P_ref x.2 y.2) := by
  have b := FR_BB hT hm h
  have k4 := K4F_of hT.1
  have hmf := MF_of hm
  have st := ST_of hT hm h
  obtain ⟨zT1, zT2, zT3⟩ := zT b
  have s24 : sI S 24 2 = Int32.ofNat (nT m) := zT3.trans zT2
  obtain ⟨d, d1, d2, d3, d4, d5, d6⟩ := LO_add hT.1 (q := 5) (by decide) s24 (by omega)
  have d1 : sR S 24 1 = some d := d1
  have d3 : 24 < sN S := d3
  have d5 : d ≠ 24 := d5
  obtain ⟨t4, t5, t6, t7, -, -, -, -, -, t25, -⟩ := kt4 hT.1
  have lt : ∀ {k τ : Nat}, T k = τ → τ ≠ 0 → k < sN S := fun hk h0 => (hT.1.t1 _ (by rw [hk]; exact h0)).1
  have n4 := lt t4 (by decide)
  have d4n : 4 ≠ d := d6 4 (by rw [t4]; decide) (by rw [t4]; decide) (by rw [t4]; decide)
  have t24 : T 24 = 25 := (hT.1.t6 5 (by decide)).1
  have f60 : nF m ≤ 60 := (zF b).1
  obtain ⟨c, c1, ec, c99, c98, -⟩ := h.Fam.2 f f1
  obtain ⟨-, ⟨s, s1, ks, m93⟩, ⟨vf, vf4, g1, e94⟩, ⟨to, to4, g2, e95⟩, g3, -⟩ := h.Cod.2 c c1
  rw [← ec] at ks g1 g2 g3
  have c60 : c < 60 := by
    have := (zC b).1
    unfold nC at c1
    omega
  have s60 : s < 60 := by
    have := (zS b).1
    unfold nS at s1
    omega
  obtain ⟨kc, kg, kb, ka1, ka2, -⟩ := h.Key
  have tF := fun q (hq : q < nF m) => tyF b hq
  have tn : ∀ q, q < nT m → T (lel S 24 q) = 45 := fun q hq => tyT b hq
  have ts := tyS b s1
  have gF := tF f f1
  obtain ⟨nw0, nw1, nw2⟩ := h.NW
  obtain ⟨q7, q8, q9⟩ := h.Num f f1
  have n4g : (4 : Nat) ≠ lel S 23 f := fun z => by
    rw [← z, t4] at gF
    exact absurd gF (by decide)
  have gs : lel S 23 f ≠ lel S 19 s := fun z => by
    rw [z, ts] at gF
    exact absurd gF (by decide)
  have n4s : (4 : Nat) ≠ lel S 19 s := fun z => by
    rw [← z, t4] at ts
    exact absurd ts (by decide)
  unfold f_K_refresh_B63
  refine l_of (st_bx (rS1 S)) (l_of st_rv ?_)
  have now : ∀ {p : Nat} {v : Int32}, sI (wI S (lel S 23 f) p v) 4 0 = sI m 57 0 := (ti_sI_ne (by omega)).trans nw0
  obtain ⟨S7, e7⟩ : ∃ S7, S7 = wI (wI (wI S (lel S 23 f) 7 (sI m 100 f + 1)) (lel S 23 f) 8 (sI m 57 0)) (lel S 19 s) 5 (sI m 57 0) := ⟨_, rfl⟩
  have r7 : sR S7 = sR S := by rw [e7, sR_wI, sR_wI, sR_wI]
  have N7 : sN S7 = sN S := by rw [e7]; rfl
  have L7 : sL S7 = sL S := by rw [e7]; rfl
  have o7 : ∀ {k j : Nat}, ¬ (k = lel S 23 f ∧ (j = 7 ∨ j = 8)) → ¬ (k = lel S 19 s ∧ j = 5) → sI S7 k j = sI S k j := fun z1 z2 => by
    rw [e7, ti_sI_ne (by omega), ti_sI_ne (by omega), ti_sI_ne (by omega)]
  have s77 : sI S7 (lel S 23 f) 7 = sI m 100 f + 1 := by rw [e7, ti_sI_ne (by omega), ti_sI_ne (by omega), ti_sI_eq]
  have s78 : sI S7 (lel S 23 f) 8 = sI m 57 0 := by rw [e7, ti_sI_ne (by omega), ti_sI_eq]
  have s75 : sI S7 (lel S 19 s) 5 = sI m 57 0 := by rw [e7, ti_sI_eq]
  have el7 : ∀ l k, lel S7 l k = lel S l k := fun l k => by
    unfold lel
    rw [r7]
  have n24 : (24 : Nat) ≠ lel S 23 f ∧ (24 : Nat) ≠ lel S 19 s := ⟨fun z => by
    rw [← z, t24] at gF
    exact absurd gF (by decide), fun z => by
    rw [← z, t24] at ts
    exact absurd ts (by decide)⟩
  have n25 : (25 : Nat) ≠ lel S 23 f ∧ (25 : Nat) ≠ lel S 19 s := ⟨fun z => by
    rw [← z, t25] at gF
    exact absurd gF (by decide), fun z => by
    rw [← z, t25] at ts
    exact absurd ts (by decide)⟩
  refine l_pd (P := fun S' => TKK S7 S' (lel S 23 f) d (nT m) to (Int32.ofNat vf) (sI m 96 c) 0 (sI m 57 61) (sI m 57 0 + 10)) ?_ (fun S9 tk => ?_)
  · unfold f_K_rotate
    refine p_of (st_gIe q7) (p_of st_pI (p_of (st_gIe now) (p_of st_pI (p_of (st_gRe (v := some (lel S 19 s)) ks) (p_of (st_gIe (v := sI m 57 0) ((ti_sI_ne (by omega)).trans now)) (p_of st_pI (p_of st_rv ?_)))))))
    rw [← e7]
    refine p_bd (p_fht (n := nT m) (d := d) (to := to) (frm := Int32.ofNat vf) (sc := sI m 96 c) (key := sI m 57 61) (now := sI m 57 0) (by unfold K4F; rw [r7]; exact k4) ((o7 (by omega) (by omega)).trans s24) (by rw [r7]; exact d1) (by omega) (by rw [L7]; exact d2) (by rw [N7]; exact n4) (by rw [N7]; exact d3) (by rw [N7]; exact lt t25 (by decide)) (by rw [N7]; exact d4) d5 d4n.symm (by rw [N7]; exact lt gF (by decide)) (fun z => n24.1 z.symm)
      ((o7 (by omega) (by omega)).trans g1) ((o7 (by omega) (by omega)).trans g2) ((o7 (by omega) (by omega)).trans g3) ((o7 (by omega) (by omega)).trans ka2.2.1) ((o7 (by omega) (by omega)).trans nw0)) (fun S' p => p_ret p)
  · have fi : (Int32.ofNat f).toNatClampNeg = f := oc (by omega)
    refine m_of (st_gRe (hmf 48 100 rfl)) (m_of (st_aIe (v := sI m 100 f) fi rfl) (m_of (st_bIe fi) (m_of (st_gRe (v := some 101) (hmf 49 101 rfl)) (m_of (st_gIe (v := sI m 57 0) (ti_sI_ne (by omega))) (m_of (st_bIe fi) (m_of st_rv ?_))))))
    obtain ⟨m2, e2⟩ : ∃ m2, m2 = wI (wI m 100 f (sI m 100 f + 1)) 101 f (sI m 57 0) := ⟨_, rfl⟩
    rw [← e2]
    have r2 : sR m2 = sR m := by rw [e2]; rfl
    have o2 : ∀ {k j : Nat}, ¬ (k = 100 ∧ j = f) → ¬ (k = 101 ∧ j = f) → sI m2 k j = sI m k j := fun z1 z2 => by
      rw [e2, ti_sI_ne z2, ti_sI_ne z1]
    have m100 : sI m2 100 f = sI m 100 f + 1 := by rw [e2, ti_sI_ne (by omega), ti_sI_eq]
    have m101 : sI m2 101 f = sI m 57 0 := by rw [e2, ti_sI_eq]
    have hm2 := MF_e hmf r2
    refine m_pd (p_ftM (m := m2) (f := f) (c := c) (n := nT m) (to := to) (frm := Int32.ofNat vf) (sc := sI m 96 c) hm2 n200 (by omega) c60 ((o2 (by omega) (by omega)).trans zT2) ((o2 (by omega) (by omega)).trans c99) ((o2 (by omega) (by omega)).trans e94) ((o2 (by omega) (by omega)).trans e95) (o2 (by omega) (by omega))) (fun m3 tm => ?_)
    rw [o2 (by omega) (by omega)] at tm
    have hm3 := MF_e hm2 tm.1.1
    have o3 := tm.1.2.2
    refine m_of (st_gRe (hm3 33 87 rfl)) (m_of (st_gRe (hm3 40 93 rfl)) (m_of (st_gRe (hm3 47 99 rfl)) (m_of (st_aIe (v := Int32.ofNat c) fi ((o3 _ _ (by omega) (by omega) (by omega)).trans ((o2 (by omega) (by omega)).trans c99))) (m_of (st_aIe (v := Int32.ofNat s) (oc (by omega)) ((o3 _ _ (by omega) (by omega) (by omega)).trans ((o2 (by omega) (by omega)).trans m93))) (m_of (st_gIe (v := sI m 57 0) ((o3 _ _ (by omega) (by omega) (by omega)).trans (o2 (by omega) (by omega)))) (m_of (st_bIe (oc (by omega))) ?_))))))
    refine m_of (st_gRe (v := some 100) (hm3 48 100 rfl)) (m_of (st_aIe (v := sI m 100 f + 1) fi ((ti_sI_ne (by omega)).trans ((o3 _ _ (by omega) (by omega) (by omega)).trans m100))) ?_)
    have enT : nT m2 = nT m := by
      unfold nT
      rw [o2 (by omega) (by omega)]
    have enF : nF m2 = nF m := by
      unfold nF
      rw [o2 (by omega) (by omega)]
    have enC : nC m2 = nC m := by
      unfold nC
      rw [o2 (by omega) (by omega)]
    have injF : ∀ a c, a < nF m → c < nF m → lel S 23 a = lel S 23 c → a = c := fun a c ha hc e => ST_fi st ha hc e
    have nFs : ∀ q, q < nF m → lel S 23 q ≠ lel S 19 s := fun q hq z => by
      have := tF q hq
      rw [z, ts] at this
      exact absurd this (by decide)
    have nTx : ∀ q, q < nT m → lel S 24 q ≠ lel S 23 f ∧ lel S 24 q ≠ lel S 19 s := fun q hq => ⟨fun z => by
      have := tn q hq
      rw [z, gF] at this
      exact absurd this (by decide), fun z => by
      have := tn q hq
      rw [z, ts] at this
      exact absurd this (by decide)⟩
    have nCf : ∀ q, q < nC m → sI m 98 q = -1 → lel S 22 q ≠ lel S 23 f := fun q hq h98 z => by
      have := (h.Cod.2 q hq).1 c c1 (by rw [z, ec])
      subst this
      rw [h98] at c98
      exact ofNat_ne (by omega) c98
    have tok7 : cTok S7 m2 := by
      refine ⟨⟨?_, ?_, ?_⟩, fun t ht => ?_⟩
      · rw [o2 (by omega) (by omega)]
        exact zT1
      · rw [o2 (by omega) (by omega)]
        exact zT2
      · rw [o2 (by omega) (by omega), o7 (by omega) (by omega)]
        exact zT3
      · rw [enT] at ht
        obtain ⟨y1, y2⟩ := nTx t ht
        have := h.Tok.2 t ht
        rw [enF, el7, r7, o7 (j := 1) (by omega) (by omega), o7 (j := 2) (by omega) (by omega), o7 (j := 3) (by omega) (by omega), o7 (j := 4) (by omega) (by omega), o7 (j := 5) (by omega) (by omega), o7 (j := 6) (by omega) (by omega), o2 (k := 104) (by omega) (by omega), o2 (k := 105) (by omega) (by omega), o2 (k := 106) (by omega) (by omega), o2 (k := 107) (by omega) (by omega), o2 (k := 108) (by omega) (by omega), o2 (k := 109) (by omega) (by omega), o2 (k := 110) (by omega) (by omega)]
        obtain ⟨⟨q, y3, y4, y5⟩, y6⟩ := this
        exact ⟨⟨q, y3, by rw [el7]; exact y4, y5⟩, y6⟩
    have num7 : cNum S7 m2 := fun q hq => by
      rw [enF] at hq
      rw [el7]
      by_cases z : q = f
      · subst z
        rw [s77, s78, m100, m101, o7 (j := 9) (by omega) (by omega), o2 (k := 102) (by omega) (by omega)]
        exact ⟨rfl, fun _ => rfl, q9⟩
      · have y1 : lel S 23 q ≠ lel S 23 f := fun y => z (injF q f hq f1 y)
        have y2 := nFs q hq
        rw [o7 (j := 7) (by omega) (by omega), o7 (j := 8) (by omega) (by omega), o7 (j := 9) (by omega) (by omega), o2 (k := 100) (by omega) (by omega), o2 (k := 101) (by omega) (by omega), o2 (k := 102) (by omega) (by omega)]
        exact h.Num q hq
    have aud7 : cAud S7 m2 := fun q hq v hv => by
      rw [enF] at hq
      have y2 := nFs q hq
      rw [el7, enT, o7 (j := 10) (by omega) (by omega), h.Aud q hq v hv]
      constructor
      · rintro ⟨t, a1, a2, a3⟩
        exact ⟨t, a1, (o2 (by omega) (by omega)).trans a2, (o2 (by omega) (by omega)).trans a3⟩
      · rintro ⟨t, a1, a2, a3⟩
        exact ⟨t, a1, (o2 (by omega) (by omega)).symm.trans a2, (o2 (by omega) (by omega)).symm.trans a3⟩
    have fre7 : cFre S7 m2 := fun q hq h98 => by
      rw [enC] at hq
      rw [o2 (by omega) (by omega)] at h98
      have y1 := nCf q hq h98
      have y2 : lel S 22 q ≠ lel S 19 s := fun z => by
        have := tyC b hq
        rw [z, ts] at this
        exact absurd this (by decide)
      rw [el7, o7 (j := 6) (by omega) (by omega), o7 (j := 7) (by omega) (by omega), o7 (j := 10) (by omega) (by omega), o7 (j := 11) (by omega) (by omega)]
      exact h.Fre q hq h98
    rw [← enT] at tk tm
    have tkk := tk
    obtain ⟨k1, k2, -⟩ := tkk
    have k2S : ∀ k j, k < sN S → ¬ (k = 24 ∧ j = 1) → ¬ (k = d ∧ j = nT m2) → sR S9 k j = sR S k j := fun k j hk z1 z2 => (k2 k j (by rw [N7]; exact hk) z1 z2).trans (by rw [r7])
    have lF : ∀ q, q < nF m → lel S9 23 q = lel S 23 q := fun q hq => lel_othG hT.1 (q := 4) (q0 := 5) (by decide) (by decide) (by decide) d6 k2S (SZ_lt (zF b) (by decide) hq)
    have lC : ∀ q, q < nC m → lel S9 22 q = lel S 22 q := fun q hq => lel_othG hT.1 (q := 3) (q0 := 5) (by decide) (by decide) (by decide) d6 k2S (SZ_lt (zC b) (by decide) hq)
    have lS : ∀ q, q < nS m → lel S9 19 q = lel S 19 q := fun q hq => lel_othG hT.1 (q := 2) (q0 := 5) (by decide) (by decide) (by decide) d6 k2S (SZ_lt (zS b) (by decide) hq)
    obtain ⟨x1, x2, x3, x4⟩ := TK_fin tk tm tok7 num7 aud7 fre7 (by rw [enF]; exact f1) (by rw [enF]; exact f60) (el7 23 f).symm to4 (by rw [enT]; exact n200) (o2 (by omega) (by omega)) ⟨kg, by omega, ka1.2⟩ (by
        rw [Int32.toInt_add, show (10 : Int32).toInt = 10 from by decide, bm (by omega) (by omega)]
        omega) (by
        rw [Int32.toInt_add, show (10 : Int32).toInt = 10 from by decide, bm (by omega) (by omega)]
        omega)
      (fun q hq => by rw [el7]; exact lF q (by rw [← enF]; exact hq)) (fun q hq => by rw [el7]; exact lC q (by rw [← enC]; exact hq))
      (fun q hq => by
        rw [enF] at hq
        rw [el7, N7]
        exact ⟨lt (tF q hq) (by decide), fun z => by
          have := tF q hq
          rw [z, t24] at this
          exact absurd this (by decide)⟩)
      (fun a c ha hc e => by
        rw [enF] at ha hc
        rw [el7, el7] at e
        exact injF a c ha hc e)
      (fun q hq => by
        rw [enT] at hq
        rw [el7, N7]
        exact ⟨lt (tn q hq) (by decide), fun z => by
          have := tn q hq
          rw [z, t24] at this
          exact absurd this (by decide), d6 _ (by rw [tn q hq]; decide) (by rw [tn q hq]; decide) (by rw [tn q hq]; decide), fun a ha z => by
          rw [enF] at ha
          rw [el7] at z
          have := tn q hq
          rw [z, tF a ha] at this
          exact absurd this (by decide)⟩)
      (fun q hq h98 => by
        rw [enC] at hq
        rw [o2 (by omega) (by omega)] at h98
        rw [el7, N7]
        exact ⟨lt (tyC b hq) (by decide), fun z => by
          have := tyC b hq
          rw [z, t24] at this
          exact absurd this (by decide), nCf q hq h98⟩)
    have nT3 : nT m3 = nT m + 1 := by
      unfold nT
      rw [tm.2.2.2.2.2.2.2.2.2, enT]
      exact nn_o (by omega)
    -- the session's use, last in the reference
    have oM : ∀ {k j : Nat}, ¬ (k = 87 ∧ j = s) → sI (wI m3 87 s (sI m 57 0)) k j = sI m3 k j := fun z => ti_sI_ne z
    have w3 : ∀ {k j : Nat}, ¬ (k = 100 ∧ j = f) → ¬ (k = 101 ∧ j = f) → ¬ ((k = 104 ∨ k = 105 ∨ k = 106 ∨ k = 107 ∨ k = 108 ∨ k = 109 ∨ k = 110) ∧ j = nT m2) → ¬ (k = 102 ∧ j = f) → ¬ (k = 57 ∧ j = 52) → sI m3 k j = sI m k j := fun z1 z2 z3 z4 z5 => (o3 _ _ (by rw [← enT]; exact z3) z4 z5).trans (o2 z1 z2)
    have w9 : ∀ {k τ : Nat} (j : Nat), T k = τ → τ ≠ 0 → τ ≠ 25 → ¬ (k = lel S 23 f ∧ (j = 7 ∨ j = 8 ∨ j = 9 ∨ j = 10)) → ¬ (k = lel S 19 s ∧ j = 5) → sI S9 k j = sI S k j := fun {k τ} j hk h0 h25 z1 z2 => (k1 k j (by rw [N7]; exact lt hk h0) (fun z => h25 (by rw [← hk, z.1, t24])) (by omega)).trans (o7 (by omega) (by omega))
    have enF' : nF (wI m3 87 s (sI m 57 0)) = nF m := by
      unfold nF
      rw [oM (by omega), w3 (by omega) (by omega) (by omega) (by omega) (by omega)]
    have enS' : nS (wI m3 87 s (sI m 57 0)) = nS m := by
      unfold nS
      rw [oM (by omega), w3 (by omega) (by omega) (by omega) (by omega) (by omega)]
    refine l_of (st_gIe (v := sI m 100 f + 1) ((k1 _ 7 (by rw [N7]; exact lt gF (by decide)) (by omega) (by omega)).trans s77)) ?_
    refine h2_ret ⟨AN_v ?_, fun q hq => ?_, x4, x2, ⟨fun x hx hx2 v hv => ?_, fun q hq => ?_⟩, x1, x3, ?_⟩
    · exact (oM (by omega)).trans ((w3 (by omega) (by omega) (by omega) (by omega) (by omega)).trans e82)
    · rw [enS'] at hq
      show sI S9 (lel S9 19 q) 5 = sI (wI m3 87 s (sI m 57 0)) 87 q
      rw [lS q hq]
      by_cases z : q = s
      · subst z
        rw [ti_sI_eq, k1 _ 5 (by rw [N7]; exact lt ts (by decide)) (by omega) (by omega), s75]
      · have y : lel S 19 q ≠ lel S 19 s := fun y => z (ses_inj h hq s1 y)
        rw [w9 5 (tyS b hq) (by decide) (by decide) (by omega) (by omega), oM (by omega), w3 (by omega) (by omega) (by omega) (by omega) (by omega)]
        exact h.Usd q hq
    · rw [enF'] at hx
      show sI (wI m3 87 s (sI m 57 0)) 116 (60 * v + x) = 0
      rw [oM (by omega), w3 (by omega) (by omega) (by omega) (by omega) (by omega)]
      exact h.God.1 x hx hx2 v hv
    · rw [enF'] at hq
      obtain ⟨y1, y2, y3⟩ := h.God.2 q hq
      have y4 := nFs q hq
      show sI S9 (lel S9 23 q) 6 = sI (wI m3 87 s (sI m 57 0)) 103 q ∧ (∀ v, v < 4 → (bt (sI S9 (lel S9 23 q) 11) v = true ↔ sI (wI m3 87 s (sI m 57 0)) 116 (60 * v + q) = 1)) ∧ (sI (wI m3 87 s (sI m 57 0)) 103 q ≠ 0 → ∀ v, v < 4 → sI (wI m3 87 s (sI m 57 0)) 116 (60 * v + q) = 0)
      rw [lF q hq, w9 6 (tF q hq) (by decide) (by decide) (by omega) (by omega), w9 11 (tF q hq) (by decide) (by decide) (by omega) (by omega), oM (k := 103) (by omega), w3 (k := 103) (by omega) (by omega) (by omega) (by omega) (by omega)]
      exact ⟨y1, fun v hv => by rw [oM (by omega), w3 (by omega) (by omega) (by omega) (by omega) (by omega)]; exact y2 v hv, fun z v hv => by rw [oM (by omega), w3 (by omega) (by omega) (by omega) (by omega) (by omega)]; exact y3 z v hv⟩
    · unfold cAU
      rw [enS']
      exact AU_cong h.AU (w9 2 t5 (by decide) (by decide) (by omega) (by omega)) (funext fun j => w9 j t6 (by decide) (by decide) (fun z => by
        have := gF
        rw [← z.1, t6] at this
        exact absurd this (by decide)) (fun z => by
        have := ts
        rw [← z.1, t6] at this
        exact absurd this (by decide))) ((oM (by omega)).trans (w3 (by omega) (by omega) (by omega) (by omega) (by omega))) (funext fun j => (oM (by omega)).trans (w3 (by omega) (by omega) (by omega) (by omega) (by omega))) (funext fun j => (oM (by omega)).trans (w3 (by omega) (by omega) (by omega) (by omega) (by omega))) (funext fun j => (oM (by omega)).trans (w3 (by omega) (by omega) (by omega) (by omega) (by omega))) (w9 3 t5 (by decide) (by decide) (by omega) (by omega)) (funext fun j => w9 j t7 (by decide) (by decide) (fun z => by
        have := gF
        rw [← z.1, t7] at this
        exact absurd this (by decide)) (fun z => by
        have := ts
        rw [← z.1, t7] at this
        exact absurd this (by decide))) (fun z => (w9 0 t4 (by decide) (by decide) (by omega) (by omega)).trans (z.trans ((oM (by omega)).trans (w3 (by omega) (by omega) (by omega) (by omega) (by omega))).symm)) ((oM (by omega)).trans (w3 (by omega) (by omega) (by omega) (by omega) (by omega))) (funext fun j => (oM (by omega)).trans (w3 (by omega) (by omega) (by omega) (by omega) (by omega)))
end
