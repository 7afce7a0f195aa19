/-! ===== redeem ===== -/
section
variable {T Tm : Nat → Nat} {S m : AS}
theorem EE_rest2 (hT : TV T S) (hm : TI Tm m) (h : FR S m) {S' m' : AS} {d : Nat} (he : EE d T S m (nS m) (nF m) S' m') : cCod S' m' ∧ cFam S' m' := by
  have b := FR_BB hT hm h
  have r : sR S' = sR S := he.1.1
  have el : ∀ l i, lel S' l i = lel S l i := fun l i => by
    unfold lel
    rw [r]
  have oK : ∀ {k τ : Nat} (j : Nat), T k = τ → τ ≠ 0 → KW τ j = false → sI S' k j = sI S k j := fun j hk h0 hw => KE_ty he.1 hk h0 hw
  have oM : ∀ {p j : Nat}, MW p j = false → sI m' p j = sI m p j := fun q => he.2.1.2.2 _ _ q
  have e1 : nS m' = nS m := by
    unfold nS
    rw [oM (by rfl)]
  have e2 : nF m' = nF m := by
    unfold nF
    rw [oM (by rfl)]
  have e3 : nC m' = nC m := by
    unfold nC
    rw [oM (by rfl)]
  have t22 : T 22 = 23 := (hT.1.t6 3 (by decide)).1
  have t23 : T 23 = 24 := (hT.1.t6 4 (by decide)).1
  refine ⟨⟨⟨?_, ?_, ?_⟩, fun c hc => ?_⟩, ⟨⟨?_, ?_, ?_⟩, fun f hf => ?_⟩⟩
  · rw [oM (by rfl)]
    exact (zC b).1
  · rw [oM (by rfl)]
    exact (zC b).2.1
  · rw [oM (by rfl), oK 2 t22 (by decide) (by rfl)]
    exact (zC b).2.2
  · rw [e3] at hc
    have tc := tyC b hc
    obtain ⟨w1, ⟨s, w2, w3, w4⟩, w⟩ := h.Cod.2 c hc
    rw [e3, e1, e2, el, r, oK 1 tc (by decide) (by rfl), oK 2 tc (by decide) (by rfl), oK 3 tc (by decide) (by rfl), oK 4 tc (by decide) (by rfl), oK 5 tc (by decide) (by rfl), oM (p := 93) (by rfl), oM (p := 94) (by rfl), oM (p := 95) (by rfl), oM (p := 96) (by rfl), oM (p := 97) (by rfl), oM (p := 98) (by rfl)]
    exact ⟨fun x hx e => w1 x hx (by rw [← el]; exact e), ⟨s, w2, by rw [el]; exact w3, w4⟩, w⟩
  · rw [oM (by rfl)]
    exact (zF b).1
  · rw [oM (by rfl)]
    exact (zF b).2.1
  · rw [oM (by rfl), oK 2 t23 (by decide) (by rfl)]
    exact (zF b).2.2
  · rw [e2] at hf
    obtain ⟨c, c1, c2, c3, c4, c5⟩ := h.Fam.2 f hf
    exact ⟨c, by rw [e3]; exact c1, by rw [el, el]; exact c2, (oM (by rfl)).trans c3, (oM (by rfl)).trans c4, fun x hx e => c5 x (by rw [← e3]; exact hx) ((oM (p := 98) (by rfl)).symm.trans e)⟩
theorem ef_red (hT : TV T S) (hm : TI Tm m) (h : FR S m) (e82 : sI m 57 82 = 0) {f : Nat} (f1 : f < nF m) : H2 (kr_bx (f_K_endFamily S (some 4) (some (lel S 23 f))) fun z28 S27 => some (.inl (-1 : Int32), S27)) ((f_M_endFamily m (some 57) (Int32.ofNat f)).bind fun S9 => some ((-1 : Int32), S9)) (fun x y => AN [eX, eS] x.1 y.1 (sI y.2 57 82) ∧ P_red x.2 y.2) := by
  have both : H2 (f_K_endFamily S (some 4) (some (lel S 23 f))) (f_M_endFamily m (some 57) (Int32.ofNat f)) (fun a m' => (∃ S', a = (.inl (), S') ∧ EE 0 T S m (nS m) (nF m) S' m' ∧ sI m' 103 f = 0 ∧ (∀ x, x ≠ f → sI m' 103 x = sI m 103 x) ∧ sI m' 89 = sI m 89 ∧ sI S' 4 9 = sI S 4 9) ∧ FK T S a.2) := fun a m' ha hb => ⟨h_eF (ST_of hT hm h) (EE_of h) f1 a m' ha hb, FK_eF (BF_of hT.1) (FK_rf T S) ⟨f, SZ_lt (zF (FR_BB hT hm h)) (by decide) f1, rfl⟩ a ha⟩
  refine h2_xd both (fun v S' m' p => ?_) (fun v S' m' p => ?_)
  · obtain ⟨⟨S2, e, he, -⟩, fk⟩ := p
    cases e
    have fk : FK T S S' := fk
    obtain ⟨x1, x2, x3, x4⟩ := EE_rest hT hm h he
    obtain ⟨u1, u2⟩ := EE_rest2 hT hm h he
    obtain ⟨-, y2, y3⟩ := EE_P he
    have oM : ∀ {p j : Nat}, MW p j = false → sI m' p j = sI m p j := fun q => he.2.1.2.2 _ _ q
    have e3 : nC m' = nC m := by
      unfold nC
      rw [oM (by rfl)]
    exact h2_ret ⟨AN_v ((oM (by rfl)).trans e82), u1, Fre_of hT hm h fk e3 (fun c => oM (by rfl)), u2, x2, y2, x3, x4, y3⟩
  · obtain ⟨⟨S2, e, -⟩, -⟩ := p
    cases e
theorem mf_go (hT : TV T S) (hm : TI Tm m) (h : FR S m) (e82 : sI m 57 82 = 0) {c : Nat} (c1 : c < nC m) (h98 : sI m 98 c = -1) (n200 : nT m < 200) :
    H2 (f_K_redeem_B81 S (some 4) (some (lel S 22 c)) 1) ((gI m 39 46 (some 57)).bind fun v10 => (gR m 39 47 (some 57)).bind fun v11 => (bI m v11 v10 (Int32.ofNat c) 46).bind fun S12 => (gR S12 39 48 (some 57)).bind fun v13 => (bI S12 v13 v10 (0 : Int32) 46).bind fun S14 => (gR S14 39 49 (some 57)).bind fun v15 => (gI S14 39 0 (some 57)).bind fun v16 => (bI S14 v15 v10 v16 46).bind fun S17 => (gR S17 39 51 (some 57)).bind fun v18 => (bZ S17 v18 v10 (1 : Int32) 47).bind fun S19 => (gR S19 39 45 (some 57)).bind fun v20 => (bI S19 v20 (Int32.ofNat c) v10 46).bind fun S21 => (gI S21 39 46 (some 57)).bind fun v22 => (pI S21 39 46 (some 57) (v22 + (1 : Int32))).bind fun S23 => (kr_rv S23 39 (some 57)).bind fun u24 => (f_M_write S23 (some 57) (2 : Int32) v10).bind fun S25 => (kr_rv S25 39 (some 57)).bind fun u26 => (f_M_firstToken S25 (some 57) v10).bind fun S27 => some (v10, S27)) (fun x y => AN [eX, eS] x.1 y.1 (sI y.2 57 82) ∧ P_red x.2 y.2) := by
  have b := FR_BB hT hm h
  have k4 := K4F_of hT.1
  have hmf := MF_of hm
  obtain ⟨zT1, zT2, zT3⟩ := zT b
  obtain ⟨zF1, zF2, zF3⟩ := zF b
  obtain ⟨zC1, zC2, zC3⟩ := zC b
  have nT200 : nT m ≤ 200 := zT1
  have nF60 : nF m ≤ 60 := zF1
  have nC60 : nC m ≤ 60 := zC1
  have nS60 : nS m ≤ 60 := (zS b).1
  have m52 : sI m 57 52 = Int32.ofNat (nT m) := zT2
  have m46 : sI m 57 46 = Int32.ofNat (nF m) := zF2
  have s24 : sI S 24 2 = Int32.ofNat (nT m) := zT3.trans zT2
  have s23 : sI S 23 2 = Int32.ofNat (nF m) := zF3.trans zF2
  obtain ⟨d2, a1, a2, a3, a4, a5, a6⟩ := LO_add hT.1 (q := 5) (by decide) s24 (by omega)
  obtain ⟨d, d1, d2', d3, d4, d5, d6⟩ := LO_add hT.1 (q := 4) (by decide) s23 (by omega)
  have a1 : sR S 24 1 = some d2 := a1
  have a3 : 24 < sN S := a3
  have a5 : d2 ≠ 24 := a5
  have d1 : sR S 23 1 = some d := d1
  have d3 : 23 < sN S := d3
  have d5 : d ≠ 23 := d5
  obtain ⟨t4, t5, t6, t7, -, -, -, -, -, t25, -⟩ := kt4 hT.1
  have lt : ∀ {k τ : Nat}, T k = τ → τ ≠ 0 → k < sN S := fun hk h0 => (hT.1.t1 _ (by rw [hk]; exact h0)).1
  have t22 : T 22 = 23 := (hT.1.t6 3 (by decide)).1
  have t23 : T 23 = 24 := (hT.1.t6 4 (by decide)).1
  have t24 : T 24 = 25 := (hT.1.t6 5 (by decide)).1
  have dne : ∀ {k τ : Nat}, T k = τ → τ ≠ 0 → kd τ ≠ 1 → τ ≠ 34 → k ≠ d := fun hk h0 h1 h2 => d6 _ (by rw [hk]; exact h0) (by rw [hk]; exact h1) (by rw [hk]; exact h2)
  have ane : ∀ {k τ : Nat}, T k = τ → τ ≠ 0 → kd τ ≠ 1 → τ ≠ 35 → k ≠ d2 := fun hk h0 h1 h2 => a6 _ (by rw [hk]; exact h0) (by rw [hk]; exact h1) (by rw [hk]; exact h2)
  have gT := tyC b c1
  have gne : ∀ {x τ : Nat}, T x = τ → τ ≠ 44 → lel S 22 c ≠ x := fun hx ht z => by
    rw [z, hx] at gT
    exact ht gT
  obtain ⟨ci, ⟨s, s1, ks, m93⟩, ⟨vf, vf4, g1, e94⟩, ⟨to, to4, g2, e95⟩, g3, g4, g5, -⟩ := h.Cod.2 c c1
  obtain ⟨f6, f7, f10, f11⟩ := h.Fre c c1 h98
  obtain ⟨kc, kg, kb, ka1, ka2, -⟩ := h.Key
  obtain ⟨nw0, nw1, nw2⟩ := h.NW
  have n4 := lt t4 (by decide)
  have gl := lt gT (by decide)
  have l99 : sL m 99 = 60 := by
    obtain ⟨-, t, -⟩ := md_at hm (j := 47) (p := 99) rfl rfl
    exact (hm.t1 99 (by rw [t]; decide)).2.2.2 60 (by rw [t]; rfl)
  have hL : sL m 123 = 1200 := by
    obtain ⟨-, t, -⟩ := md_at hm (j := 78) (p := 123) rfl rfl
    exact (hm.t1 123 (by rw [t]; decide)).2.2.2 1200 (by rw [t]; rfl)
  unfold f_K_redeem_B81
  refine l_of (st_bx (rS1 S)) (l_of st_rv (l_pd (p_mf (S := S) (g := lel S 22 c) (d := d) (nf := nF m) (d2 := d2) (nt := nT m) (to := to) (frm := Int32.ofNat vf) (sc := sI m 96 c) (key := sI m 57 61) (now := sI m 57 0) k4 n4 (lt t5 (by decide)) (lt t25 (by decide)) d3 a3 gl (gne t4 (by decide)) ⟨gne t5 (by decide), gne t6 (by decide), gne t7 (by decide)⟩ (gne t23 (by decide)) (gne t24 (by decide)) (gne t25 (by decide))
    s23 d1 (by omega) d2' d4 ⟨d5, (dne t4 (by decide) (by decide) (by decide)).symm, (dne t5 (by decide) (by decide) (by decide)).symm, (dne t24 (by decide) (by decide) (by decide)).symm, (dne t25 (by decide) (by decide) (by decide)).symm⟩
    s24 a1 (by omega) a2 a4 ⟨a5, (ane t4 (by decide) (by decide) (by decide)).symm⟩ g1 g2 g3 ka2.2.1 nw0) (fun S17 p => ?_)))
  obtain ⟨S15, mf, tk⟩ := p
  refine m_mf hmf (by omega) l99 m46 (by omega) n200 m52 e94 e95 rfl (fun n60 m1 m2 mm tm => ?_)
  obtain ⟨⟨N15, L15, d', q3, q4, q5⟩, I15, R15, ⟨z5, z6, z23⟩, ⟨el1, el2⟩, Sa, sa1, sa2, aw⟩ := mf
  obtain ⟨⟨mr, ml, o1'⟩, ⟨y99, y100, y103, y98, y46⟩, ma, ma1, ma2, ma3, ma4, mw⟩ := mm
  have gA : lel S 22 c ≠ 5 ∧ lel S 22 c ≠ 6 ∧ lel S 22 c ≠ 7 := ⟨gne t5 (by decide), gne t6 (by decide), gne t7 (by decide)⟩
  have g23 := gne t23 (by decide)
  have g24 := gne t24 (by decide)
  -- the state before the token, its last field as the reference has it
  obtain ⟨S', e'⟩ : ∃ S', S' = wI S15 (lel S 22 c) 9 (sI m1 102 (nF m)) := ⟨_, rfl⟩
  have r' : sR S' = sR S15 := by rw [e', sR_wI]
  have N' : sN S' = sN S15 := by rw [e']; rfl
  have el' : ∀ l i, lel S' l i = lel S15 l i := fun l i => by
    unfold lel
    rw [r']
  have o' : ∀ {k j : Nat}, ¬ (k = lel S 22 c ∧ j = 9) → sI S' k j = sI S15 k j := fun z => by
    rw [e']
    exact ti_sI_ne z
  have s9 : sI S' (lel S 22 c) 9 = sI m1 102 (nF m) := by rw [e', ti_sI_eq]
  obtain ⟨k1, k2, k3, ⟨k41, k42⟩, k5, k6, k7⟩ := tk
  have tk' : TKK S' S17 (lel S 22 c) d2 (nT m) to (Int32.ofNat vf) (sI m 96 c) 0 (sI m 57 61) (sI m 57 0 + 10) := by
    refine ⟨fun k j hk z1 z2 => ?_, fun k j hk z1 z2 => ?_, k3, ⟨fun i hi => ?_, ?_⟩, ?_, k6, ?_⟩
    · rw [o' (by omega)]
      exact k1 k j (by rw [← N']; exact hk) z1 z2
    · rw [r']
      exact k2 k j (by rw [← N']; exact hk) z1 z2
    · rw [el']
      exact k41 i hi
    · rw [N']
      exact k42
    · rw [N']
      exact k5
    · rw [o' (by omega)]
      exact k7
  -- frames
  have oW : ∀ {k τ : Nat} (j : Nat), T k = τ → τ ≠ 0 → τ ≠ 24 → τ ≠ 2 → τ ≠ 3 → τ ≠ 4 → ¬ (k = lel S 22 c ∧ (j = 5 ∨ j = 6 ∨ j = 9)) → sI S' k j = sI S k j := fun {k τ} j hk h0 h1 h2 h3 h4 z => by
    rw [o' (by omega)]
    exact I15 k j (lt hk h0) (fun q => h1 (by rw [← hk, q.1, t23])) (by omega) (fun q => h2 (by rw [← hk, q, t5])) (fun q => h3 (by rw [← hk, q, t6])) (fun q => h4 (by rw [← hk, q, t7]))
  have oF : ∀ {k τ : Nat} (j : Nat), T k = τ → τ ≠ 0 → τ ≠ 24 → τ ≠ 25 → τ ≠ 2 → τ ≠ 3 → τ ≠ 4 → ¬ (k = lel S 22 c ∧ (j = 5 ∨ j = 6 ∨ j = 9 ∨ j = 10)) → sI S17 k j = sI S k j := fun {k τ} j hk h0 h1 h1' h2 h3 h4 z => by
    have := lt hk h0
    rw [tk'.1 k j (by omega) (fun q => h1' (by rw [← hk, q.1, t24])) (by omega)]
    exact oW j hk h0 h1 h2 h3 h4 (by omega)
  have rF : ∀ {k τ : Nat} (j : Nat), T k = τ → τ ≠ 0 → kd τ ≠ 1 → τ ≠ 24 → τ ≠ 25 → τ ≠ 34 → τ ≠ 35 → sR S17 k j = sR S k j := fun {k τ} j hk h0 h1 h2 h3 h4 h5 => by
    have := lt hk h0
    have x1 := dne hk h0 h1 h4
    have x2 := ane hk h0 h1 h5
    rw [k2 k j (by omega) (fun q => h3 (by rw [← hk, q.1, t24])) (fun q => x2 q.1)]
    exact R15 k j this (fun q => h2 (by rw [← hk, q.1, t23])) (fun q => x1 q.1)
  have w1 : ∀ {q j : Nat}, ¬ ((q = 99 ∨ q = 100 ∨ q = 101 ∨ q = 103) ∧ j = nF m) → ¬ (q = 98 ∧ j = c) → ¬ (q = 57 ∧ (j = 46 ∨ j = 77 ∨ j = 81)) → q ≠ 123 → q ≠ 124 → q ≠ 125 → sI m1 q j = sI m q j := fun x1 x2 x3 x4 x5 x6 => o1' _ _ x1 x2 x3 x4 x5 x6
  have w2 := tm.1.2.2
  have enT : nT m1 = nT m := by
    unfold nT
    rw [w1 (by omega) (by omega) (by omega) (by omega) (by omega) (by omega)]
  have enC : nC m1 = nC m := by
    unfold nC
    rw [w1 (by omega) (by omega) (by omega) (by omega) (by omega) (by omega)]
  have enF : nF m1 = nF m + 1 := by
    have : nn (sI m1 57 46) = nF m + 1 := by
      rw [y46]
      exact nn_o (by omega)
    exact this
  have e2F : nF m2 = nF m + 1 := by
    rw [← enF]
    unfold nF
    rw [w2 _ _ (by omega) (by omega) (by omega)]
  have e2C : nC m2 = nC m := by
    rw [← enC]
    unfold nC
    rw [w2 _ _ (by omega) (by omega) (by omega)]
  have e2S : nS m2 = nS m := by
    unfold nS
    rw [w2 _ _ (by omega) (by omega) (by omega), w1 (by omega) (by omega) (by omega) (by omega) (by omega) (by omega)]
  -- lists
  have tF := fun q (hq : q < nF m) => tyF b hq
  have tn : ∀ q, q < nT m → T (lel S 24 q) = 45 := fun q hq => tyT b hq
  have fne : ∀ f, f < nF m → lel S 23 f ≠ lel S 22 c := fun f hf z => by
    obtain ⟨x, x1, x2, x3, x4, -⟩ := h.Fam.2 f hf
    have := ci x x1 (by rw [← x2]; exact z)
    rw [this, h98] at x4
    exact ofNat_ne (by omega) x4
  have cne : ∀ x, x < nC m → x ≠ c → lel S 22 x ≠ lel S 22 c := fun x hx z y => z (ci x hx y)
  have l15C : ∀ q, q < nC m → lel S15 22 q = lel S 22 q := fun q hq => lel_othG hT.1 (q := 3) (q0 := 4) (by decide) (by decide) (by decide) d6 R15 (SZ_lt (zC b) (by decide) hq)
  have l15T : ∀ q, q < nT m → lel S15 24 q = lel S 24 q := fun q hq => lel_othG hT.1 (q := 5) (q0 := 4) (by decide) (by decide) (by decide) d6 R15 (SZ_lt (zT b) (by decide) hq)
  have l15S : ∀ q, q < nS m → lel S15 19 q = lel S 19 q := fun q hq => lel_othG hT.1 (q := 2) (q0 := 4) (by decide) (by decide) (by decide) d6 R15 (SZ_lt (zS b) (by decide) hq)
  have l17 : ∀ l e i, sR S15 l 1 = some e → l < sN S15 → e < sN S15 → l ≠ 24 → l ≠ d2 → e ≠ 24 → e ≠ d2 → lel S17 l i = lel S15 l i := fun l e i he h1 h2 h3 h4 h5 h6 => by
    unfold lel
    rw [k2 l 1 h1 (by omega) (by omega), he]
    show (sR S17 e i).getD 0 = (sR S15 e i).getD 0
    rw [k2 e i h2 (by omega) (by omega)]
  have l17C : ∀ q, q < nC m → lel S17 22 q = lel S15 22 q := fun q hq => by
    obtain ⟨e, e1, e2⟩ := lrow hT.1 (q := 3) (by decide) (SZ_lt (zC b) (by decide) hq)
    have e1 : sR S 22 1 = some e := e1
    have x1 := lt e2 (by decide)
    have x2 := lt t22 (by decide)
    have x3 := dne t22 (by decide) (by decide) (by decide)
    exact l17 22 e q ((R15 22 1 x2 (by omega) (by omega)).trans e1) (by omega) (by omega) (by decide) (ane t22 (by decide) (by decide) (by decide)) (fun z => by
      rw [z, t24] at e2
      exact absurd e2 (by decide)) (ane e2 (by decide) (by decide) (by decide))
  have l17S : ∀ q, q < nS m → lel S17 19 q = lel S15 19 q := fun q hq => by
    obtain ⟨e, e1, e2⟩ := lrow hT.1 (q := 2) (by decide) (SZ_lt (zS b) (by decide) hq)
    have e1 : sR S 19 1 = some e := e1
    have t19 : T 19 = 22 := (hT.1.t6 2 (by decide)).1
    have x1 := lt e2 (by decide)
    have x2 := lt t19 (by decide)
    have x3 := dne t19 (by decide) (by decide) (by decide)
    exact l17 19 e q ((R15 19 1 x2 (by omega) (by omega)).trans e1) (by omega) (by omega) (by decide) (ane t19 (by decide) (by decide) (by decide)) (fun z => by
      rw [z, t24] at e2
      exact absurd e2 (by decide)) (ane e2 (by decide) (by decide) (by decide))
  have d'n : d' ≠ 24 ∧ d' ≠ d2 := by
    rcases q4 with ⟨x1, x2⟩ | x1
    · rw [x1]
      refine ⟨(dne t24 (by decide) (by decide) (by decide)).symm, ?_⟩
      obtain ⟨y1, e, y2, y3, -⟩ := hT.1.t6 4 (by decide)
      have y2 : sR S 23 1 = some e := y2
      rw [d1] at y2
      cases y2
      rcases y3 with y3 | y3
      · exact ane y3 (by decide) (by decide) (by decide)
      · rw [y3, hT.1.t8.2.2.2.2.2.1] at x2
        omega
    · omega
  have l17F : ∀ q, lel S17 23 q = lel S15 23 q := fun q => l17 23 d' q q3 (by omega) q5 (by decide) (ane t23 (by decide) (by decide) (by decide)) d'n.1 d'n.2
  -- what holds before the token
  have tok7 : cTok S' m1 := by
    refine ⟨⟨?_, ?_, ?_⟩, fun t ht => ?_⟩
    · rw [w1 (by omega) (by omega) (by omega) (by omega) (by omega) (by omega)]
      exact zT1
    · rw [w1 (by omega) (by omega) (by omega) (by omega) (by omega) (by omega)]
      exact zT2
    · rw [w1 (by omega) (by omega) (by omega) (by omega) (by omega) (by omega), oW 2 t24 (by decide) (by decide) (by decide) (by decide) (by decide) (by omega)]
      exact zT3
    · rw [enT] at ht
      have tt := tn t ht
      have tg : lel S 24 t ≠ lel S 22 c := fun z => by
        rw [z, gT] at tt
        exact absurd tt (by decide)
      have oT : ∀ j, sI S' (lel S 24 t) j = sI S (lel S 24 t) j := fun j => oW j tt (by decide) (by decide) (by decide) (by decide) (by decide) (fun q => tg q.1)
      have oM : ∀ a, (a = 104 ∨ a = 105 ∨ a = 106 ∨ a = 107 ∨ a = 108 ∨ a = 109 ∨ a = 110) → sI m1 a t = sI m a t := fun a ha => w1 (by omega) (by omega) (by omega) (by omega) (by omega) (by omega)
      obtain ⟨⟨f, x1, x2, x3⟩, x4⟩ := h.Tok.2 t ht
      rw [el', l15T t ht, enF, oT, oT, oT, oT, oT, oT, oM 104 (by omega), oM 105 (by omega), oM 106 (by omega), oM 107 (by omega), oM 108 (by omega), oM 109 (by omega), oM 110 (by omega)]
      refine ⟨⟨f, by omega, ?_, x3⟩, x4⟩
      rw [r', R15 _ 0 (lt tt (by decide)) (fun z => by
        rw [z.1, t23] at tt
        exact absurd tt (by decide)) (fun z => dne tt (by decide) (by decide) (by decide) z.1), el', el1 f x1]
      exact x2
  have num7 : cNum S' m1 := fun q hq => by
    rw [enF] at hq
    rw [el']
    by_cases z : q = nF m
    · subst z
      rw [el2, oW 7 gT (by decide) (by decide) (by decide) (by decide) (by decide) (by omega), y100]
      exact ⟨f7, fun x => absurd rfl x, s9⟩
    · have hq : q < nF m := by omega
      have tq := tF q hq
      have nq := fne q hq
      rw [el1 q hq, oW 7 tq (by decide) (by decide) (by decide) (by decide) (by decide) (by omega), oW 8 tq (by decide) (by decide) (by decide) (by decide) (by decide) (by omega), oW 9 tq (by decide) (by decide) (by decide) (by decide) (by decide) (by omega), w1 (q := 100) (by omega) (by omega) (by omega) (by omega) (by omega) (by omega), w1 (q := 101) (by omega) (by omega) (by omega) (by omega) (by omega) (by omega), w1 (q := 102) (by omega) (by omega) (by omega) (by omega) (by omega) (by omega)]
      exact h.Num q hq
  have bt0 : ∀ v, ¬ bt 0 v = true := fun v z => by
    unfold bt at z
    simp at z
  have aud7 : cAud S' m1 := fun q hq v hv => by
    rw [enF] at hq
    rw [el', enT]
    have mT : ∀ t, sI m1 108 t = sI m 108 t ∧ sI m1 105 t = sI m 105 t := fun t => ⟨w1 (by omega) (by omega) (by omega) (by omega) (by omega) (by omega), w1 (by omega) (by omega) (by omega) (by omega) (by omega) (by omega)⟩
    have ex : ∀ q, (∃ t, t < nT m ∧ sI m1 108 t = Int32.ofNat q ∧ sI m1 105 t = Int32.ofNat v) ↔ (∃ t, t < nT m ∧ sI m 108 t = Int32.ofNat q ∧ sI m 105 t = Int32.ofNat v) := fun q => by
      constructor
      · rintro ⟨t, x1, x2, x3⟩
        exact ⟨t, x1, (mT t).1.symm.trans x2, (mT t).2.symm.trans x3⟩
      · rintro ⟨t, x1, x2, x3⟩
        exact ⟨t, x1, (mT t).1.trans x2, (mT t).2.trans x3⟩
    rw [ex]
    by_cases z : q = nF m
    · subst z
      rw [el2, oW 10 gT (by decide) (by decide) (by decide) (by decide) (by decide) (by omega), f10]
      refine ⟨fun x => absurd x (bt0 v), ?_⟩
      rintro ⟨t, x1, x2, -⟩
      obtain ⟨⟨f, y1, -, y3⟩, -⟩ := h.Tok.2 t x1
      rw [y3] at x2
      have := oinj (by omega) (by omega) x2
      omega
    · have hq : q < nF m := by omega
      have nq := fne q hq
      rw [el1 q hq, oW 10 (tF q hq) (by decide) (by decide) (by decide) (by decide) (by decide) (by omega)]
      exact h.Aud q hq v hv
  have n98 : ∀ q, q ≠ c → sI m1 98 q = sI m 98 q := fun q hq => w1 (by omega) (by omega) (by omega) (by omega) (by omega) (by omega)
  have notc : ∀ q, sI m1 98 q = -1 → q ≠ c := fun q hq z => by
    rw [z, y98] at hq
    exact ofNat_ne (by omega) hq.symm
  have fre7 : cFre S' m1 := fun q hq x98 => by
    rw [enC] at hq
    have z := notc q x98
    rw [n98 q z] at x98
    have tq := tyC b hq
    have nq := cne q hq z
    rw [el', l15C q hq, oW 6 tq (by decide) (by decide) (by decide) (by decide) (by decide) (by omega), oW 7 tq (by decide) (by decide) (by decide) (by decide) (by decide) (by omega), oW 10 tq (by decide) (by decide) (by decide) (by decide) (by decide) (by omega), oW 11 tq (by decide) (by decide) (by decide) (by decide) (by decide) (by omega)]
    exact h.Fre q hq x98
  have tkT := tk'
  have tmT := tm
  rw [← enT] at tkT tmT
  have u10 : (sI m 57 0 + 10).toInt = (sI m 57 0).toInt + 10 := by
    rw [Int32.toInt_add, show (10 : Int32).toInt = 10 from by decide, bm (by omega) (by omega)]
  have lF15 : ∀ q, q < nF m + 1 → lel S15 23 q = if q = nF m then lel S 22 c else lel S 23 q := fun q hq => by
    by_cases z : q = nF m
    · rw [if_pos z, z]
      exact el2
    · rw [if_neg z]
      exact el1 q (by omega)
  have tF15 : ∀ q, q < nF m + 1 → T (lel S15 23 q) = 44 := fun q hq => by
    rw [lF15 q hq]
    by_cases z : q = nF m
    · rw [if_pos z]
      exact gT
    · rw [if_neg z]
      exact tF q (by omega)
  obtain ⟨x1, x2, x3, x4⟩ := TK_fin tkT tmT tok7 num7 aud7 fre7 (by rw [enF]; omega) (by rw [enF]; omega) ((el' 23 _).trans el2).symm to4 (by rw [enT]; exact n200) (w1 (by omega) (by omega) (by omega) (by omega) (by omega) (by omega)) ⟨kg, by omega, ka1.2⟩ (by omega) (by omega)
    (fun q _ => by rw [el']; exact l17F q) (fun q hq => by rw [el']; exact l17C q (by rw [← enC]; exact hq))
    (fun q hq => by
      rw [enF] at hq
      rw [el', N']
      have y := tF15 q hq
      have y1 := lt y (by decide)
      exact ⟨by omega, fun z => by
        rw [z, t24] at y
        exact absurd y (by decide)⟩)
    (fun p q hp hq e => by
      rw [enF] at hp hq
      rw [el', el', lF15 p hp, lF15 q hq] at e
      by_cases z1 : p = nF m
      · by_cases z2 : q = nF m
        · omega
        · rw [if_pos z1, if_neg z2] at e
          exact absurd e.symm (fne q (by omega))
      · by_cases z2 : q = nF m
        · rw [if_neg z1, if_pos z2] at e
          exact absurd e (fne p (by omega))
        · rw [if_neg z1, if_neg z2] at e
          exact ST_fi (ST_of hT hm h) (by omega) (by omega) e)
    (fun t ht => by
      rw [enT] at ht
      rw [el', l15T t ht, N']
      have y := tn t ht
      have y1 := lt y (by decide)
      refine ⟨by omega, fun z => by
        rw [z, t24] at y
        exact absurd y (by decide), ane y (by decide) (by decide) (by decide), fun q hq z => ?_⟩
      rw [enF] at hq
      rw [el'] at z
      have := tF15 q hq
      rw [← z, y] at this
      exact absurd this (by decide))
    (fun q hq x98 => by
      rw [enC] at hq
      have z := notc q x98
      rw [el', l15C q hq, N']
      have y := tyC b hq
      have y1 := lt y (by decide)
      exact ⟨by omega, fun z => by
        rw [z, t24] at y
        exact absurd y (by decide), cne q hq z⟩)
  -- the rest
  have m2o : ∀ {q j : Nat}, ¬ ((q = 104 ∨ q = 105 ∨ q = 106 ∨ q = 107 ∨ q = 108 ∨ q = 109 ∨ q = 110) ∧ j = nT m) → ¬ (q = 102 ∧ j = nF m) → ¬ (q = 57 ∧ j = 52) → sI m2 q j = sI m1 q j := fun y1 y2 y3 => w2 _ _ y1 y2 y3
  have g55 : sI S17 (lel S 22 c) 5 = Int32.ofNat (nF m) := (k1 _ 5 (by omega) (by omega) (by omega)).trans z5
  have g66 : sI S17 (lel S 22 c) 6 = 1 := (k1 _ 6 (by omega) (by omega) (by omega)).trans z6
  have mC : ∀ {q j : Nat}, (q = 93 ∨ q = 94 ∨ q = 95 ∨ q = 96 ∨ q = 97) → sI m2 q j = sI m q j := fun y => (m2o (by omega) (by omega) (by omega)).trans (w1 (by omega) (by omega) (by omega) (by omega) (by omega) (by omega))
  have m116 : ∀ j, sI m2 116 j = sI m 116 j := fun j => (m2o (by omega) (by omega) (by omega)).trans (w1 (by omega) (by omega) (by omega) (by omega) (by omega) (by omega))
  refine l_of (st_gIe g55) (h2_ret ⟨AN_v ?_, ⟨⟨?_, ?_, ?_⟩, fun k hk => ?_⟩, x4, ⟨⟨?_, ?_, ?_⟩, fun f hf => ?_⟩, x2, ⟨fun x hx hx2 v hv => ?_, fun f hf => ?_⟩, x1, x3, ?_⟩)
  · exact (m2o (by omega) (by omega) (by omega)).trans ((w1 (by omega) (by omega) (by omega) (by omega) (by omega) (by omega)).trans e82)
  · show nn (sI m2 57 39) ≤ 60
    rw [m2o (by omega) (by omega) (by omega), w1 (by omega) (by omega) (by omega) (by omega) (by omega) (by omega)]
    exact zC1
  · show sI m2 57 39 = Int32.ofNat (nn (sI m2 57 39))
    rw [m2o (by omega) (by omega) (by omega), w1 (by omega) (by omega) (by omega) (by omega) (by omega) (by omega)]
    exact zC2
  · show sI S17 22 2 = sI m2 57 39
    rw [m2o (by omega) (by omega) (by omega), w1 (by omega) (by omega) (by omega) (by omega) (by omega) (by omega), oF 2 t22 (by decide) (by decide) (by decide) (by decide) (by decide) (by decide) (by omega)]
    exact zC3
  · rw [e2C] at hk
    have tk := tyC b hk
    obtain ⟨v1, ⟨s', v2, v3, v4⟩, ⟨p, p1, p2, p3⟩, ⟨q, r1, r2, r3⟩, v5, v6, v7, v8⟩ := h.Cod.2 k hk
    show (∀ x, x < nC m2 → lel S17 22 x = lel S17 22 k → x = k) ∧ (∃ s, s < nS m2 ∧ sR S17 (lel S17 22 k) 0 = some (lel S17 19 s) ∧ sI m2 93 k = Int32.ofNat s) ∧ (∃ v, v < 4 ∧ sI S17 (lel S17 22 k) 1 = Int32.ofNat v ∧ sI m2 94 k = Int32.ofNat v) ∧ (∃ v, v < 4 ∧ sI S17 (lel S17 22 k) 2 = Int32.ofNat v ∧ sI m2 95 k = Int32.ofNat v) ∧ sI S17 (lel S17 22 k) 3 = sI m2 96 k ∧ sI S17 (lel S17 22 k) 4 = sI m2 97 k ∧ sI S17 (lel S17 22 k) 5 = sI m2 98 k ∧ (sI m2 98 k = -1 ∨ ∃ f, f < nF m2 ∧ sI m2 98 k = Int32.ofNat f)
    rw [e2C, e2S, e2F, l17C k hk, l15C k hk, mC (q := 93) (by omega), mC (q := 94) (by omega), mC (q := 95) (by omega), mC (q := 96) (by omega), mC (q := 97) (by omega), oF 1 tk (by decide) (by decide) (by decide) (by decide) (by decide) (by decide) (by omega), oF 2 tk (by decide) (by decide) (by decide) (by decide) (by decide) (by decide) (by omega), oF 3 tk (by decide) (by decide) (by decide) (by decide) (by decide) (by decide) (by omega), oF 4 tk (by decide) (by decide) (by decide) (by decide) (by decide) (by decide) (by omega)]
    refine ⟨fun x hx e => ?_, ⟨s', v2, ?_, v4⟩, ⟨p, p1, p2, p3⟩, ⟨q, r1, r2, r3⟩, v5, v6, ?_, ?_⟩
    · rw [l17C x hx, l15C x hx] at e
      exact v1 x hx e
    · rw [rF 0 tk (by decide) (by decide) (by decide) (by decide) (by decide) (by decide), l17S s' v2, l15S s' v2]
      exact v3
    · by_cases z : k = c
      · subst z
        rw [g55, m2o (by omega) (by omega) (by omega), y98]
      · have nk := cne k hk z
        rw [oF 5 tk (by decide) (by decide) (by decide) (by decide) (by decide) (by decide) (by omega), m2o (by omega) (by omega) (by omega), n98 k z]
        exact v7
    · by_cases z : k = c
      · subst z
        exact Or.inr ⟨nF m, by omega, by rw [m2o (by omega) (by omega) (by omega), y98]⟩
      · rw [m2o (by omega) (by omega) (by omega), n98 k z]
        rcases v8 with v8 | ⟨f, f1, f2⟩
        · exact Or.inl v8
        · exact Or.inr ⟨f, by omega, f2⟩
  · show nn (sI m2 57 46) ≤ 60
    rw [m2o (by omega) (by omega) (by omega), y46, nn_o (by omega)]
    omega
  · show sI m2 57 46 = Int32.ofNat (nn (sI m2 57 46))
    rw [m2o (by omega) (by omega) (by omega), y46, nn_o (by omega)]
  · show sI S17 23 2 = sI m2 57 46
    rw [m2o (by omega) (by omega) (by omega), y46, k1 23 2 (by omega) (by omega) (by omega)]
    exact z23
  · rw [e2F] at hf
    show ∃ x, x < nC m2 ∧ lel S17 23 f = lel S17 22 x ∧ sI m2 99 f = Int32.ofNat x ∧ sI m2 98 x = Int32.ofNat f ∧ ∀ y, y < nC m2 → sI m2 98 y = Int32.ofNat f → y = x
    have m98 : ∀ q, q ≠ c → sI m2 98 q = sI m 98 q := fun q hq => (m2o (by omega) (by omega) (by omega)).trans (n98 q hq)
    have m98c : sI m2 98 c = Int32.ofNat (nF m) := (m2o (by omega) (by omega) (by omega)).trans y98
    rw [l17F, e2C]
    by_cases z : f = nF m
    · subst z
      refine ⟨c, c1, by rw [el2, l17C c c1, l15C c c1], (m2o (by omega) (by omega) (by omega)).trans y99, m98c, fun y hy e => ?_⟩
      by_cases z2 : y = c
      · exact z2
      · rw [m98 y z2] at e
        rcases (h.Cod.2 y hy).2.2.2.2.2.2.2 with v | ⟨f, f1, f2⟩
        · rw [v] at e
          exact absurd e (ofNat_ne (by omega))
        · rw [f2] at e
          have := oinj (by omega) (by omega) e
          omega
    · have hf : f < nF m := by omega
      obtain ⟨x, v1, v2, v3, v4, v5⟩ := h.Fam.2 f hf
      have xc : x ≠ c := fun y => by
        rw [y, h98] at v4
        exact ofNat_ne (by omega) v4
      refine ⟨x, v1, by rw [el1 f hf, l17C x v1, l15C x v1]; exact v2, (m2o (by omega) (by omega) (by omega)).trans ((w1 (by omega) (by omega) (by omega) (by omega) (by omega) (by omega)).trans v3), (m98 x xc).trans v4, fun y hy e => ?_⟩
      by_cases z2 : y = c
      · rw [z2, m98c] at e
        have := oinj (by omega) (by omega) e
        omega
      · rw [m98 y z2] at e
        exact v5 y hy e
  · rw [e2F] at hx
    show sI m2 116 (60 * v + x) = 0
    rw [m116]
    exact h.God.1 x (by omega) hx2 v hv
  · rw [e2F] at hf
    show sI S17 (lel S17 23 f) 6 = sI m2 103 f ∧ (∀ v, v < 4 → (bt (sI S17 (lel S17 23 f) 11) v = true ↔ sI m2 116 (60 * v + f) = 1)) ∧ (sI m2 103 f ≠ 0 → ∀ v, v < 4 → sI m2 116 (60 * v + f) = 0)
    rw [l17F]
    by_cases z : f = nF m
    · subst z
      have z116 : ∀ v, v < 4 → sI m2 116 (60 * v + nF m) = 0 := fun v hv => (m116 _).trans (h.God.1 _ (Nat.le_refl _) n60 v hv)
      rw [el2, g66, m2o (by omega) (by omega) (by omega), y103, oF 11 gT (by decide) (by decide) (by decide) (by decide) (by decide) (by decide) (by omega), f11]
      refine ⟨rfl, fun v hv => ⟨fun x => absurd x (bt0 v), fun x => ?_⟩, fun _ v hv => z116 v hv⟩
      rw [z116 v hv] at x
      exact absurd x (by decide)
    · have hf : f < nF m := by omega
      have tf := tF f hf
      have nf := fne f hf
      obtain ⟨v1, v2, v3⟩ := h.God.2 f hf
      rw [el1 f hf, oF 6 tf (by decide) (by decide) (by decide) (by decide) (by decide) (by decide) (by omega), oF 11 tf (by decide) (by decide) (by decide) (by decide) (by decide) (by decide) (by omega), m2o (q := 103) (by omega) (by omega) (by omega), w1 (q := 103) (by omega) (by omega) (by omega) (by omega) (by omega) (by omega)]
      exact ⟨v1, fun v hv => by rw [m116]; exact v2 v hv, fun q v hv => by rw [m116]; exact v3 q v hv⟩
  · have a15 : AU 0 (sI m 89) (nS m) S15 m1 := AU_w (lv := sI m 89) (n := nS m) (AU_cong h.AU sa1 sa2.1 ma1 ma2 ma3.1 rfl sa2.2.1 sa2.2.2.1 (fun z => sa2.2.2.2.trans (z.trans ma3.2.2.2.symm)) ma3.2.1 ma3.2.2.1) (by rw [ma4]; exact hL) nS60 nS60 (by decide) (by omega) aw mw (fun s _ => by omega) (fun s _ => ⟨Or.inl, fun q => q.elim id (fun z => absurd z.1 (by decide))⟩) (fun s h => Or.inl ⟨rfl, h, Or.inl (by omega)⟩)
    unfold cAU
    rw [e2S]
    have l5 := lt t5 (by decide)
    have l6 := lt t6 (by decide)
    exact AU_cong a15 (k1 5 2 (by omega) (by omega) (by omega)) (funext fun j => k1 6 j (by omega) (by omega) (by omega)) (m2o (by omega) (by omega) (by omega)) (funext fun j => m2o (by omega) (by omega) (by omega)) (funext fun j => m2o (by omega) (by omega) (by omega)) (funext fun j => (m2o (by omega) (by omega) (by omega)).trans (w1 (by omega) (by omega) (by omega) (by omega) (by omega) (by omega))) (k1 5 3 (by omega) (by omega) (by omega)) (funext fun j => k1 7 j (by omega) (by omega) (by omega)) (fun z => (k1 4 0 (by omega) (by omega) (by omega)).trans (z.trans (m2o (by omega) (by omega) (by omega)).symm)) (m2o (by omega) (by omega) (by omega)) (funext fun j => m2o (by omega) (by omega) (by omega))
end
