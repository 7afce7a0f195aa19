theorem px_step {n : Nat} {T T1 : Nat → Nat} {S S1 S2 : AS} {k : Int32 ⊕ String} {v a b c y z : Int32} (hI : IV n T S) (hr : RPF T S) (e1 : f_K_step S (some 4) a b c y z = some (k, S1)) (g1 : Rl T (99999 :: kw_K13) S 10 700 T1 S1) (e2 : f_M_step S1 (some 57) a b c y z = some (v, S2)) (g2 : Rl T1 kw_st S1 1 0 T1 S2) : AN [eA, eS] k v (sI S2 57 82) ∧ RPF T1 S2 := by
  obtain ⟨⟨f, m, r, dr⟩, t1, h⟩ := hr
  have hT : TV T S := ⟨hI.1, t1⟩
  have t57 : Tx T 100 (some 57) := ⟨_, rfl, hI.1.t9.1, by decide⟩
  have t57' : Tx T1 100 (some 57) := ⟨_, rfl, g1.1.t9.1, by decide⟩
  have t1' : T1 1 = 52 := (g1.ty 1 (by rw [t1]; decide)).trans t1
  obtain ⟨K4, Kf, Kr, f57, k6, r57⟩ := DR_K hI.1 dr
  have m12 := dr.2.2.1
  obtain ⟨k57, kk⟩ := k_keeps hI.1 g1 t57 (by decide +kernel)
  have hs8 : (sI S1 66 8).toInt = (m : Int) := by
    rw [kk 10 110 66 rfl rfl (by decide) (by decide) (by decide) 8, dr.2.2.2.2.1]
    exact oi (by omega)
  obtain ⟨q, hq, p⟩ := x_K_step hI.1 dr a b c y z
  rw [e1] at hq
  cases hq
  obtain ⟨q2, hq2, -, p2⟩ := t_M_stepX (k := a) (a := b) (b := c) (y := y) (z := z) g1.1 t57' m12 hs8
  rw [e2] at hq2
  cases hq2
  rcases p with ⟨no, p⟩ | ⟨ok, m13, p⟩ | ⟨ok, m13, p⟩
  · obtain ⟨rfl, rfl⟩ := Prod.mk.inj p
    rcases p2 with ⟨-, p2⟩ | ⟨ok2, -⟩ | ⟨ok2, -⟩
    · obtain ⟨rfl, rfl⟩ := Prod.mk.inj p2
      exact ⟨AN_e 0 rfl (ti_sI_eq _ _ _ _), ⟨f, m, r, DR_no dr g1.ty g1.1 1⟩, t1', FR_no hT h 1⟩
    · exact absurd ok2 no
    · exact absurd ok2 no
  · obtain ⟨rfl, rfl⟩ := Prod.mk.inj p
    rcases p2 with ⟨no, p2⟩ | ⟨-, -, p2⟩ | ⟨-, m2, -⟩
    · exact absurd ok no
    · obtain ⟨rfl, rfl⟩ := Prod.mk.inj p2
      exact ⟨AN_e 1 rfl (ti_sI_eq _ _ _ _), ⟨f, m, r, DR_no dr g1.ty g1.1 2⟩, t1', FR_no hT h 2⟩
    · omega
  · obtain ⟨ek, eS⟩ := Prod.mk.inj p
    rcases p2 with ⟨no, -⟩ | ⟨-, m2, -⟩ | ⟨-, -, ev, st⟩
    · exact absurd ok no
    · omega
    · have ev : v = Int32.ofNat m := ev
      have st : STP S1 S2 m a b c y z := st
      have kst : KST S S1 f m r a b c y z := by
        have k0 := KST_of (S := S) (n := m) (k := a) (a := b) (b := c) (y := y) (z := z) (fun j hj => (Kr j hj).2.2) dr.2.2.2.2.2.2.1 (0 : Int64)
        obtain ⟨X, eX⟩ : ∃ X, X = KS S f m r a b c y z := ⟨_, rfl⟩
        rw [← eX] at eS k0
        rw [eS]
        exact k0
      obtain ⟨b1, b2, b3, b4⟩ := kst
      have o2 : ∀ p i, p ≠ 57 → (∀ q, 66 ≤ q → q ≤ 71 → p ≠ q) → sI S2 p i = sI S1 p i := fun p i h1 h2 => by
        rw [st p i, if_neg (fun q => h1 q.1), if_neg (fun q => h2 66 (by decide) (by decide) q.1), if_neg (fun q => h2 p (by omega) (by omega) rfl)]
      have bb := FR_BB hT hI.1 h
      have kS : ∀ {cs : List Nat}, cs.all (fun z => !(99999 :: kw_K13).contains z) = true → cs.all (fun z => !kw_st.contains z) = true → Kp T T1 cs S S2 := fun h1 h2 => Kp_tr (Kp_of g1 h1) (Kp_of g2 h2)
      have kA := kS (cs := ka_STP) (by decide +kernel) (by decide +kernel)
      have mA := kS (cs := ma_STP) (by decide +kernel) (by decide +kernel)
      have kR := kS (cs := [52001, 53000, 50105, 54000, 54001, 54002, 54003, 54004, 10009, 2002, 52101, 53100, 10019]) (by decide +kernel) (by decide +kernel)
      have fD : fa S 4 5 = f := by
        unfold fa
        rw [dr.1]
        rfl
      have rD : ∀ j, j < 5 → fa S f j = r j := fun j hj => by
        unfold fa
        rw [(dr.2.2.2.2.2.1 j hj).1]
        rfl
      have eV : nV S2 = nV S := enV bb kR (by decide)
      have eA' : uA S2 = uA S := enA bb kR (by decide)
      have nV8 : nV S ≤ 8 := h.Ver.1.1
      have m67 : ∀ j i, j < 6 → (i < 96 ∧ ¬ (j = 0 ∧ i = 8)) → sI S2 (66 + j) i = sI S (66 + j) i := fun j i hj hi => by
        rw [st (66 + j) i, if_neg (by omega), if_neg (by omega), if_neg (by omega)]
        exact b3 (66 + j) (k6 (66 + j) (by omega) (by omega)).1 (k6 (66 + j) (by omega) (by omega)).2 i
      refine ⟨?_, ⟨f, m + 1, r, DR_step hI.1 dr m13 ⟨b1, b2, b3, b4⟩ g1.ty g2 (by decide +kernel) st⟩, t1', FA_STP hT hI.1 h kA mA ?_ (fun i hi hz => ?_) ?_⟩
      · rw [ek, ev]
        exact AN_v (by rw [st 57 82, if_pos ⟨rfl, rfl⟩])
      · refine ver_same (T := T) h.Ver (fzV bb kR kR (by decide) (by decide)) eV (fun w hw => lV bb kR (by decide) (by decide) hw) (faD_k hI.1 kR (by decide)) (fun w j hw hj => fa_k (tyV bb hw) hj kR (by decide)) (fun j hj => fa_k (tyD hI.1).2 hj kR (by decide)) (fun w hw => ?_) (fun w j i hw hj => ?_) (fun w hw => m67 0 w (by omega) (by omega)) (fun j i hj hi => ?_)
        · have tw := tyV bb hw
          have ne : lel S 17 w ≠ f := by
            rw [← fD]
            exact (h.Ver.2 w hw).2.2.1
          rw [o2 _ 5 (fun q => by
            rw [q, hI.1.t9.1] at tw
            exact absurd tw (by decide)) (fun q h1 h2 e => by
            have : T q = 44 + q := by
              have : q = 66 ∨ q = 67 ∨ q = 68 ∨ q = 69 ∨ q = 70 ∨ q = 71 := by omega
              rcases this with rfl | rfl | rfl | rfl | rfl | rfl
              · exact (md_ty hI.1 (j := 10) rfl rfl).1
              · exact (md_ty hI.1 (j := 11) rfl rfl).1
              · exact (md_ty hI.1 (j := 12) rfl rfl).1
              · exact (md_ty hI.1 (j := 13) rfl rfl).1
              · exact (md_ty hI.1 (j := 14) rfl rfl).1
              · exact (md_ty hI.1 (j := 15) rfl rfl).1
            rw [← e, tw] at this
            omega)]
          exact b3 _ ne (fun j hj q => by
            have := (dr.2.2.2.2.2.1 j hj).2
            rw [q, tw] at this
            exact absurd this (by decide)) 5
        · have tw := (tyW hI.1 (tyV bb hw) hj).2
          have ne : fa S (lel S 17 w) j ≠ f := fun q => by
            rw [q, dr.2.1] at tw
            exact absurd tw (by decide)
          rw [o2 _ i (fun q => by
            rw [q, hI.1.t9.1] at tw
            exact absurd tw (by decide)) (fun q h1 h2 e => by
            have : T q = 44 + q := by
              have : q = 66 ∨ q = 67 ∨ q = 68 ∨ q = 69 ∨ q = 70 ∨ q = 71 := by omega
              rcases this with rfl | rfl | rfl | rfl | rfl | rfl
              · exact (md_ty hI.1 (j := 10) rfl rfl).1
              · exact (md_ty hI.1 (j := 11) rfl rfl).1
              · exact (md_ty hI.1 (j := 12) rfl rfl).1
              · exact (md_ty hI.1 (j := 13) rfl rfl).1
              · exact (md_ty hI.1 (j := 14) rfl rfl).1
              · exact (md_ty hI.1 (j := 15) rfl rfl).1
            rw [← e, tw] at this
            omega)]
          refine b3 _ ne (fun i' hi' q => ?_) i
          have := (h.Ver.2 w hw).2.2.2.1 j i' hj hi'
          rw [fD, rD i' hi'] at this
          exact this q.symm
        · have := m67 (j + 1) i (by omega) (by omega)
          rw [show 66 + (j + 1) = 67 + j by omega] at this
          exact this
      · have c66 : (sI S2 66 8).toInt = (m + 1 : Int) := by
          rw [st 66 8, if_neg (by decide), if_pos ⟨rfl, rfl⟩, oi (by omega)]
          omega
        rw [c66] at hi
        rw [st 67 (96 + i), if_neg (by omega), if_neg (by omega)] at hz
        rw [st 69 (96 + i), if_neg (by omega), if_neg (by omega)]
        by_cases ci : i = m
        · rw [if_pos (by omega)] at hz ⊢
          have hz : a = 0 := hz
          obtain ⟨-, -, o3, -⟩ := ok
          rw [if_pos hz] at o3
          exact o3.1
        · rw [if_neg (by omega)] at hz ⊢
          rw [b3 67 (k6 67 (by omega) (by omega)).1 (k6 67 (by omega) (by omega)).2] at hz
          rw [b3 69 (k6 69 (by omega) (by omega)).1 (k6 69 (by omega) (by omega)).2]
          exact h.DrB i (by rw [dr.2.2.2.2.1, oi (by omega)]; omega) hz
      · have kT := kS (cs := [4205, 4206, 4207, 4208, 4209, 12300, 12400, 12500, 12600, 12700, 12800]) (by decide +kernel) (by decide +kernel)
        refine ⟨fun w hw hw2 => ?_, fun w hw => ?_⟩
        · rw [eA'] at hw
          rw [kT.M hI.1 (j := 27) (p := 82) rfl (by decide) (by decide)]
          exact h.Ast.1 w hw hw2
        · rw [eA'] at hw
          have tw := tyA bb hw
          have i69 : sI S2 69 (12 * nn (sI S 78 w) + nn (sI S 79 w)) = sI S 69 (12 * nn (sI S 78 w) + nn (sI S 79 w)) := m67 3 _ (by omega) ⟨ast_idx hI.1 h hw, by omega⟩
          rw [lA bb kR (by decide) (by decide) hw, kT.O (j := 5) tw (by decide) (by decide), kT.O (j := 6) tw (by decide) (by decide), kT.O (j := 7) tw (by decide) (by decide), kT.O (j := 8) tw (by decide) (by decide), kT.O (j := 9) tw (by decide) (by decide), kT.M hI.1 (j := 23) (p := 78) rfl (by decide) (by decide), kT.M hI.1 (j := 24) (p := 79) rfl (by decide) (by decide), kT.M hI.1 (j := 25) (p := 80) rfl (by decide) (by decide), kT.M hI.1 (j := 26) (p := 81) rfl (by decide) (by decide), kT.M hI.1 (j := 27) (p := 82) rfl (by decide) (by decide), kT.M hI.1 (j := 28) (p := 83) rfl (by decide) (by decide), i69]
          exact h.Ast.2 w hw
theorem px_publish {n : Nat} {T T1 : Nat → Nat} {S S1 S2 : AS} {k : Int32 ⊕ String} {v : Int32} (hI : IV n T S) (hr : RPF T S) (e1 : f_K_publish S (some 4) = some (k, S1)) (g1 : Rl T (99999 :: kw_K44) S 10 700 T1 S1) (e2 : f_M_publish S1 (some 57) = some (v, S2)) (g2 : Rl T1 (10082 :: kw_pub) S1 1 0 T1 S2) : AN [eS] k v (sI S2 57 82) ∧ RPF T1 S2 := by
  obtain ⟨⟨f, m, r, dr⟩, t1, h⟩ := hr
  have hT : TV T S := ⟨hI.1, t1⟩
  have t4' : Tx T 1 (some 4) := ⟨_, rfl, hI.1.t9.2.2.2.2.1, by decide⟩
  have t57 : Tx T 100 (some 57) := ⟨_, rfl, hI.1.t9.1, by decide⟩
  have t57' : Tx T1 100 (some 57) := ⟨_, rfl, g1.1.t9.1, by decide⟩
  have t1' : T1 1 = 52 := (g1.ty 1 (by rw [t1]; decide)).trans t1
  have sr := hI.2.1.1
  have bb := FR_BB hT hI.1 h
  obtain ⟨K4, Kf, Kr, f57, k6, r57⟩ := DR_K hI.1 dr
  have m12 := dr.2.2.1
  obtain ⟨zV1, zV2, zV3⟩ := h.Ver.1
  have n8 : nV S ≤ 8 := zV1
  have s9 : sI S 57 9 = Int32.ofNat (nV S) := zV2
  have s17 : sI S 17 2 = Int32.ofNat (nV S) := zV3.trans zV2
  obtain ⟨k57, kk⟩ := k_keeps hI.1 g1 t57 (by decide +kernel)
  have mS : ∀ j i, j < 6 → sI S1 (66 + j) i = sI S (66 + j) i := fun j i hj => by
    match j, hj with
    | 0, _ => exact kk 10 110 66 rfl rfl (by decide) (by decide) (by decide) i
    | 1, _ => exact kk 11 111 67 rfl rfl (by decide) (by decide) (by decide) i
    | 2, _ => exact kk 12 112 68 rfl rfl (by decide) (by decide) (by decide) i
    | 3, _ => exact kk 13 113 69 rfl rfl (by decide) (by decide) (by decide) i
    | 4, _ => exact kk 14 114 70 rfl rfl (by decide) (by decide) (by decide) i
    | 5, _ => exact kk 15 115 71 rfl rfl (by decide) (by decide) (by decide) i
  have e66 : sI S1 66 = sI S 66 := funext fun i => mS 0 i (by decide)
  have e67 : sI S1 67 = sI S 67 := funext fun i => mS 1 i (by decide)
  have e70 : sI S1 70 = sI S 70 := funext fun i => mS 4 i (by decide)
  have e71 : sI S1 71 = sI S 71 := funext fun i => mS 5 i (by decide)
  have hs8 : (sI S1 66 8).toInt = (m : Int) := by
    rw [e66, dr.2.2.2.2.1]
    exact oi (by omega)
  have hPK : PK S m ↔ PUB S1 m := by
    unfold PK PUB nxin rnk te nx
    rw [e67, e70, e71, k57 9 (by decide), s17, s9]
  have i1 := IV_K hI g1 t57 (by decide +kernel)
  obtain ⟨q, hq, p⟩ := x_K_publish hI.1 t4' dr sr
  rw [e1] at hq
  cases hq
  obtain ⟨q2, hq2, -, p2⟩ := t_M_publish g1.1 t57' i1.1.1 m12 hs8 (v := nV S) ((k57 9 (by decide)).trans s9) n8
  rw [e2] at hq2
  cases hq2
  rcases p with ⟨np, p⟩ | ⟨yp, p0, new⟩
  · obtain ⟨rfl, rfl⟩ := Prod.mk.inj p
    rcases p2 with ⟨yp2, -⟩ | ⟨-, p2⟩
    · exact absurd (hPK.mpr yp2) np
    · obtain ⟨rfl, rfl⟩ := Prod.mk.inj p2
      exact ⟨AN_e 0 rfl (ti_sI_eq _ _ _ _), ⟨f, m, r, DR_no dr g1.ty g1.1 1⟩, t1', FR_no hT h 1⟩
  · have p0 : k = .inl (sI S 17 2) := p0
    rcases p2 with ⟨yp2, ev, hp⟩ | ⟨np2, -⟩
    · have ev : v = Int32.ofNat (nV S) := ev
      have hp : PUBS (wI S1 57 82 0) S2 (nV S) m := hp
      have v8 : nV S < 8 := by
        have := yp.2.1
        rw [s17, oi (by omega)] at this
        omega
      have m0 : 0 < m := yp.1
      -- the class, place by place
      have t17 : T 17 = 20 := (hI.1.t6 0 (by decide)).1
      obtain ⟨t4, -⟩ := kt4 hI.1
      have lt : ∀ {k τ : Nat}, T k = τ → τ ≠ 0 → k < sN S := fun hk h0 => (hI.1.t1 _ (by rw [hk]; exact h0)).1
      have n4 := lt t4 (by decide)
      have n17 := lt t17 (by decide)
      obtain ⟨d, w1, w2, w3, w4, w5, w6⟩ := LO_add hI.1 (q := 0) (by decide) s17 (by omega)
      have w1 : sR S 17 1 = some d := w1
      have w5 : d ≠ 17 := w5
      have dne : ∀ {k τ : Nat}, T k = τ → τ ≠ 0 → kd τ ≠ 1 → τ ≠ 30 → k ≠ d := fun hk h0 h1 h2 => w6 _ (by rw [hk]; exact h0) (by rw [hk]; exact h1) (by rw [hk]; exact h2)
      obtain ⟨z, z0, zI, zR, z17, z45, zr, zl, zn⟩ := ((p_pubK hI.1 dr sr s17 w1 (by omega) w2 n4 n17 w4 w5 (dne t4 (by decide) (by decide) (by decide)).symm) _ e1).resolve_left (by
        rintro ⟨e, q⟩
        have q : k = .inr e := q
        rw [p0] at q
        cases q)
      have z17 : sI S1 17 2 = Int32.ofNat (nV S + 1) := z17
      have z45 : sR S1 4 5 = some z := z45
      have zr : ∀ j, j < 5 → sR S1 z j = some (z + 1 + j) := zr
      have zl : ∀ i, i < nV S → lel S1 17 i = lel S 17 i := zl
      have zn : lel S1 17 (nV S) = f := zn
      have zI : ∀ p i, p < sN S → ¬ (p = 17 ∧ (i = 0 ∨ i = 2)) → sI S1 p i = sI S p i := zI
      have zR : ∀ p i, p < sN S → ¬ (p = 17 ∧ i = 1) → ¬ (p = d ∧ i = nV S) → ¬ (p = 4 ∧ i = 5) → sR S1 p i = sR S p i := zR
      -- the reference, place by place
      have nm : ∀ z, 50000 ≤ z → ¬ z ∈ 10082 :: kw_pub := fun z h q => by
        unfold kw_pub at q
        simp only [List.mem_cons, List.mem_nil_iff, or_false] at q
        omega
      have o2 : ∀ p i, p ≠ 57 → (∀ q, 66 ≤ q → q ≤ 71 → p ≠ q) → sI S2 p i = sI S1 p i := fun p i h1 h2 => by
        rw [hp p i, if_neg (fun q => h1 q.1), if_neg (fun q => h2 66 (by decide) (by decide) q.1), if_neg (fun q => h2 66 (by decide) (by decide) q.1), if_neg (fun q => h2 p (by omega) (by omega) rfl), ti_sI_ne (fun q => h1 q.1)]
      have tM : ∀ q, 66 ≤ q → q ≤ 71 → T q = 44 + q := fun q h1 h2 => by
        have : q = 66 ∨ q = 67 ∨ q = 68 ∨ q = 69 ∨ q = 70 ∨ q = 71 := by omega
        rcases this with rfl | rfl | rfl | rfl | rfl | rfl
        · exact (md_ty hI.1 (j := 10) rfl rfl).1
        · exact (md_ty hI.1 (j := 11) rfl rfl).1
        · exact (md_ty hI.1 (j := 12) rfl rfl).1
        · exact (md_ty hI.1 (j := 13) rfl rfl).1
        · exact (md_ty hI.1 (j := 14) rfl rfl).1
        · exact (md_ty hI.1 (j := 15) rfl rfl).1
      have tf := dr.2.1
      -- typed places of the class that are no list: as they were, in both runs
      have I2 : ∀ {p τ : Nat} (i : Nat), T p = τ → τ ≠ 0 → τ < 100 → τ ≠ 20 → sI S2 p i = sI S p i := fun {p τ} i hp h0 h1 h2 => by
        rw [o2 p i (fun q => by rw [q, hI.1.t9.1] at hp; omega) (fun q h3 h4 e => by rw [e, tM q h3 h4] at hp; omega)]
        exact zI p i (lt hp h0) (fun q => h2 (by rw [← hp, q.1, t17]))
      have R2 : ∀ {p τ : Nat} (i : Nat), T1 p = τ → τ ≠ 0 → sR S2 p i = sR S1 p i := fun {p τ} i hp h0 => g2.fR p i (by rw [hp]; exact h0) (by
        rw [hp]
        exact nm _ (by unfold cr; omega))
      have ty : ∀ {p τ : Nat}, T p = τ → τ ≠ 0 → T1 p = τ := fun {p τ} hp h0 => (g1.ty p (by rw [hp]; exact h0)).trans hp
      have R02 : ∀ {p τ : Nat} (i : Nat), T p = τ → τ ≠ 0 → kd τ ≠ 1 → τ ≠ 30 → τ ≠ 20 → ¬ (p = 4 ∧ i = 5) → sR S2 p i = sR S p i := fun {p τ} i hp h0 h1 h2 h3 h4 => by
        rw [R2 i (ty hp h0) h0]
        exact zR p i (lt hp h0) (fun q => h3 (by rw [← hp, q.1, t17])) (fun q => dne hp h0 h1 h2 q.1) h4
      have el2 : ∀ i, i < nV S + 1 → lel S2 17 i = lel S1 17 i := fun i hi => lV (T' := T1) (cs := [52001, 53000]) (m := wI (wI S1 57 82 0) 57 9 (Int32.ofNat (nV S + 1))) (T := T1) (Tm := T1) ⟨⟨g1.1, t1'⟩, by
        have hpf := cPF_fr bb h.PF (Kp_of g1 (by decide +kernel)) (Kp_rf T _ S)
        exact hpf, TIwI (TIwI g1.1 g1.1.t9.1 (fun lo hi e => by cases e) (fun n lo hi e => by cases e) (by omega)) g1.1.t9.1 (fun lo hi e => by cases e; exact ⟨by rw [oi (by omega)]; omega, by rw [oi (by omega)]; omega⟩) (fun n lo hi e => by cases e) (by omega), ⟨by rw [ti_sI_eq, nn_o (by omega)]; omega, by rw [ti_sI_eq, nn_o (by omega)], by rw [ti_sI_eq]; exact z17⟩, by
        have kq : ∀ {cs : List Nat}, cs.all (fun z => !(99999 :: kw_K44).contains z) = true → ¬ 10082 ∈ cs → ¬ 10009 ∈ cs → Kp T T1 cs S (wI (wI S1 57 82 0) 57 9 (Int32.ofNat (nV S + 1))) := fun q1 q2 q3 => Kp_tr (Kp_of g1 q1) (Kp_tr (Kp_wI _ g1.1.t9.1 (by rw [show cl 100 82 = 10082 by decide]; exact q2)) (Kp_wI _ g1.1.t9.1 (by rw [show cl 100 9 = 10009 by decide]; exact q3)))
        have kk' : ∀ {cs : List Nat}, cs.all (fun z => !(99999 :: kw_K44).contains z) = true → Kp T T1 cs S S1 := fun q1 => Kp_of g1 q1
        exact ⟨fzA bb (kk' (cs := [2102]) (by decide +kernel)) (kq (cs := [10019]) (by decide +kernel) (by decide) (by decide)) (by decide) (by decide), fzS bb (kk' (cs := [2202]) (by decide +kernel)) (kq (cs := [10030]) (by decide +kernel) (by decide) (by decide)) (by decide) (by decide), fzC bb (kk' (cs := [2302]) (by decide +kernel)) (kq (cs := [10039]) (by decide +kernel) (by decide) (by decide)) (by decide) (by decide), fzF bb (kk' (cs := [2402]) (by decide +kernel)) (kq (cs := [10046]) (by decide +kernel) (by decide) (by decide)) (by decide) (by decide), fzT bb (kk' (cs := [2502]) (by decide +kernel)) (kq (cs := [10052]) (by decide +kernel) (by decide) (by decide)) (by decide) (by decide), fzR bb (kk' (cs := [2602]) (by decide +kernel)) (kq (cs := [10070]) (by decide +kernel) (by decide) (by decide)) (by decide) (by decide)⟩⟩ (Kp_of g2 (by decide +kernel)) (by decide) (by decide) (by
        show i < nn (sI (wI (wI S1 57 82 0) 57 9 (Int32.ofNat (nV S + 1))) 57 9)
        rw [ti_sI_eq, nn_o (by omega)]
        exact hi)
      have elo : ∀ i, i < nV S → lel S2 17 i = lel S 17 i := fun i hi => (el2 i (by omega)).trans (zl i hi)
      have eln : lel S2 17 (nV S) = f := (el2 _ (by omega)).trans zn
      have s9' : sI S2 57 9 = Int32.ofNat (nV S + 1) := by rw [hp 57 9, if_pos ⟨rfl, rfl⟩]
      have eV : nV S2 = nV S + 1 := by
        unfold nV at s9' ⊢
        rw [s9']
        exact nn_o (by unfold nV at v8; omega)
      have s172 : sI S2 17 2 = Int32.ofNat (nV S + 1) := by
        rw [o2 17 2 (by decide) (fun q h1 h2 => by omega)]
        exact z17
      have m66 : ∀ w, w < nV S → sI S2 66 w = sI S 66 w := fun w hw => by
        rw [hp 66 w, if_neg (by omega), if_neg (by omega), if_neg (by omega), if_neg (by omega), ti_sI_ne (by omega), e66]
      have m66n : sI S2 66 (nV S) = Int32.ofNat m := by rw [hp 66 (nV S), if_neg (by omega), if_neg (by omega), if_pos ⟨rfl, rfl⟩]
      have m668 : sI S2 66 8 = 0 := by rw [hp 66 8, if_neg (by omega), if_pos ⟨rfl, rfl⟩]
      have mlo : ∀ j i, j < 5 → i < 12 * nV S → sI S2 (67 + j) i = sI S (67 + j) i := fun j i hj hi => by
        rw [hp (67 + j) i, if_neg (by omega), if_neg (by omega), if_neg (by omega), if_neg (by omega), ti_sI_ne (by omega)]
        have := mS (j + 1) i (by omega)
        rw [show 66 + (j + 1) = 67 + j by omega] at this
        exact this
      have mnw : ∀ j i, j < 5 → i < m → sI S2 (67 + j) (12 * nV S + i) = sI S (67 + j) (96 + i) := fun j i hj hi => by
        rw [hp (67 + j) (12 * nV S + i), if_neg (by omega), if_neg (by omega), if_neg (by omega), if_pos ⟨by omega, by omega, by omega⟩, ti_sI_ne (by omega), show 12 * nV S + i - 12 * nV S = i by omega]
        have := mS (j + 1) (96 + i) (by omega)
        rw [show 66 + (j + 1) = 67 + j by omega] at this
        exact this
      have fD : fa S 4 5 = f := by
        unfold fa
        rw [dr.1]
        rfl
      have rD : ∀ j, j < 5 → fa S f j = r j := fun j hj => by
        unfold fa
        rw [(dr.2.2.2.2.2.1 j hj).1]
        rfl
      have tz1 : T1 z = 40 := by
        obtain ⟨a, b, c, -⟩ := g1.1.t2 4 5 40 (by rw [g1.1.t9.2.2.2.2.1]; rfl)
        rw [z45] at b
        cases b
        exact c
      have fD2 : fa S2 4 5 = z := by
        unfold fa
        rw [R2 5 (g1.1.t9.2.2.2.2.1) (by decide), z45]
        rfl
      have fZ2 : ∀ j, j < 5 → fa S2 z j = z + 1 + j := fun j hj => by
        unfold fa
        rw [R2 j tz1 (by decide), zr j hj]
        rfl
      have ffa : ∀ {p : Nat} (j : Nat), T p = 40 → fa S2 p j = fa S p j := fun {p} j hp => by
        unfold fa
        rw [R02 j hp (by decide) (by decide) (by decide) (by decide) (fun q => by
          rw [q.1, t4] at hp
          exact absurd hp (by decide))]
      have sz : SZ 17 9 8 S2 S2 := by
        refine ⟨?_, ?_, ?_⟩
        · rw [s9', nn_o (by omega)]
          omega
        · rw [s9', nn_o (by omega)]
        · rw [s9', s172]
      have rT : ∀ j, j < 5 → T (r j) = 41 := fun j hj => (dr.2.2.2.2.2.1 j hj).2
      have kS : ∀ {cs : List Nat}, cs.all (fun z => !(99999 :: kw_K44).contains z) = true → cs.all (fun z => !(10082 :: kw_pub).contains z) = true → Kp T T1 cs S S2 := fun h1 h2 => Kp_tr (Kp_of g1 h1) (Kp_of g2 h2)
      refine ⟨?_, ⟨z, 0, fun j => z + 1 + j, ?_, tz1, by omega, ?_, m668, fun j hj => ⟨?_, ?_⟩, fun i j _ _ e => by dsimp only at e; omega, fun j i _ hi => absurd hi (Nat.not_lt_zero _)⟩, t1', FA_PUB hT hI.1 h (kS (by decide +kernel) (by decide +kernel)) (kS (by decide +kernel) (by decide +kernel)) ⟨sz, fun w hw => ?_⟩ (fun i hi => ?_) ?_ ?_⟩
      · rw [p0, ev, s17]
        exact AN_v (by rw [hp 57 82, if_neg (by decide), if_neg (by decide), if_neg (by omega), if_neg (by omega), ti_sI_eq])
      · rw [R2 5 (g1.1.t9.2.2.2.2.1) (by decide)]
        exact z45
      · have := new
        obtain ⟨-, f', r', a1, a2, -, -⟩ := new
        have a1 : sR S1 4 5 = some f' := a1
        rw [z45] at a1
        cases a1
        have tM' : ∀ q, 66 ≤ q → q ≤ 71 → T1 q = 44 + q := fun q h1 h2 => ty (tM q h1 h2) (by omega)
        rw [o2 z 5 (fun q => by rw [q, g1.1.t9.1] at tz1; omega) (fun q h1 h2 e => by rw [e, tM' q h1 h2] at tz1; omega)]
        exact a2
      · rw [R2 j tz1 (by decide)]
        exact zr j hj
      · have q : ft 40 j = some 41 := by
          match j, hj with
          | 0, _ => rfl
          | 1, _ => rfl
          | 2, _ => rfl
          | 3, _ => rfl
          | 4, _ => rfl
        obtain ⟨a, b, c, -⟩ := g1.1.t2 z j 41 (by rw [tz1]; exact q)
        rw [zr j hj] at b
        cases b
        exact c
      · -- the versions
        rw [eV] at hw
        rw [fD2]
        by_cases cw : w = nV S
        · subst cw
          rw [eln]
          have nlt := lt tf (by decide)
          refine ⟨⟨m, by omega, m12, (I2 5 tf (by decide) (by decide) (by decide)).trans dr.2.2.2.1, m66n, fun j i hj hi => ?_⟩, fun i hi hz => ?_, by omega, fun j i hj hi => ?_, fun u hu e => ?_⟩
          · rw [ffa j tf, rD j hj, I2 i (rT j hj) (by decide) (by decide) (by decide), mnw j i hj hi]
            exact dr.2.2.2.2.2.2.2 j i hj hi
          · rw [m66n, oi (by omega)] at hi
            have e0 : sI S2 67 (12 * nV S + i) = sI S 67 (96 + i) := mnw 0 i (by omega) (by omega)
            have e2 : sI S2 69 (12 * nV S + i) = sI S 69 (96 + i) := mnw 2 i (by omega) (by omega)
            rw [e0] at hz
            rw [e2]
            exact h.DrB i (by rw [dr.2.2.2.2.1, oi (by omega)]; exact hi) hz
          · rw [ffa j tf, rD j hj, fZ2 i hi]
            have := lt (rT j hj) (by decide)
            omega
          · rw [eV] at hu
            by_cases cu : u = nV S
            · exact cu
            · have hu : u < nV S := by omega
              rw [elo u hu] at e
              exact absurd (by rw [fD]; exact e) (h.Ver.2 u hu).2.2.1
        · have hw : w < nV S := by omega
          have tw := tyV bb hw
          have nlt := lt tw (by decide)
          obtain ⟨⟨n', g1', g2', g3, g4, g5⟩, h2, h3, h4, h5⟩ := h.Ver.2 w hw
          rw [elo w hw]
          refine ⟨⟨n', g1', g2', (I2 5 tw (by decide) (by decide) (by decide)).trans g3, (m66 w hw).trans g4, fun j i hj hi => ?_⟩, fun i hi hz => ?_, by omega, fun j i hj hi => ?_, fun u hu e => ?_⟩
          · rw [ffa j tw, I2 i (tyW hI.1 tw hj).2 (by decide) (by decide) (by decide), mlo j _ hj (by omega)]
            exact g5 j i hj hi
          · rw [m66 w hw, g4, oi (by omega)] at hi
            have e0 : sI S2 67 (12 * w + i) = sI S 67 (12 * w + i) := mlo 0 _ (by omega) (by omega)
            have e2 : sI S2 69 (12 * w + i) = sI S 69 (12 * w + i) := mlo 2 _ (by omega) (by omega)
            rw [e0] at hz
            rw [e2]
            exact h2 i (by rw [g4, oi (by omega)]; exact hi) hz
          · rw [ffa j tw, fZ2 i hi]
            have := lt (tyW hI.1 tw hj).2 (by decide)
            omega
          · rw [eV] at hu
            by_cases cu : u = nV S
            · rw [cu, eln] at e
              exact absurd (by rw [fD]; exact e.symm) h3
            · have hu : u < nV S := by omega
              rw [elo u hu] at e
              exact h5 u hu e
      · rw [m668, show (0 : Int32).toInt = 0 from by decide] at hi
        omega
      · -- attempts
        have kT := kS (cs := [2102, 52101, 53100, 54200, 4201, 4202, 54203, 54204, 10019, 12000, 12100, 12200, 12300]) (by decide +kernel) (by decide +kernel)
        refine ⟨fzA bb kT kT (by decide) (by decide), fun a ha => ?_⟩
        rw [enA bb kT (by decide)] at ha
        have ta := tyA bb ha
        obtain ⟨y1, y2, y3, y4, ⟨w, y5, y6, y7⟩, y8⟩ := h.Att.2 a ha
        rw [lA bb kT (by decide) (by decide) ha, kT.R (j := 0) ta (by decide) (by decide), kT.O (j := 1) ta (by decide) (by decide), kT.O (j := 2) ta (by decide) (by decide), kT.R (j := 3) ta (by decide) (by decide), kT.R (j := 4) ta (by decide) (by decide), kT.M hI.1 (j := 20) (p := 75) rfl (by decide) (by decide), kT.M hI.1 (j := 21) (p := 76) rfl (by decide) (by decide), kT.M hI.1 (j := 22) (p := 77) rfl (by decide) (by decide), kT.M hI.1 (j := 23) (p := 78) rfl (by decide) (by decide), enA bb kT (by decide), eV]
        refine ⟨fun c hc e => ?_, y2, y3, y4, ⟨w, by omega, by rw [elo w y5]; exact y6, y7⟩, y8⟩
        rw [lA bb kT (by decide) (by decide) hc] at e
        exact y1 c hc e
      · have kT := kS (cs := [2102, 52101, 53100, 4205, 4206, 4207, 4208, 4209, 10019, 12300, 12400, 12500, 12600, 12700, 12800]) (by decide +kernel) (by decide +kernel)
        refine ⟨fun w hw hw2 => ?_, fun w hw => ?_⟩
        · rw [enA bb kT (by decide)] at hw
          rw [kT.M hI.1 (j := 27) (p := 82) rfl (by decide) (by decide)]
          exact h.Ast.1 w hw hw2
        · rw [enA bb kT (by decide)] at hw
          have tw := tyA bb hw
          have lowi : 12 * nn (sI S 78 w) + nn (sI S 79 w) < 12 * nV S := by
            obtain ⟨-, -, -, -, ⟨u, u1, -, u3⟩, -⟩ := h.Att.2 w hw
            have a60 : w < 60 := by
              have := h.Att.1.1
              unfold uA at hw
              omega
            obtain ⟨-, t79, -⟩ := md_at hI.1 (j := 24) (p := 79) rfl rfl
            obtain ⟨g1, g2⟩ := hI.1.t5 79 w 60 (-1) 11 (by rw [t79]; rfl) a60
            rw [u3, nn_o (by omega)]
            have : nn (sI S 79 w) ≤ 11 := by
              unfold nn
              by_cases c : 0 ≤ (sI S 79 w).toInt
              · have := natI c
                omega
              · have e : (sI S 79 w).toInt = -1 := by omega
                have : sI S 79 w = -1 := Int32.toInt_inj.mp (by rw [e]; decide)
                rw [this]
                decide
            omega
          have i69 : sI S2 69 (12 * nn (sI S 78 w) + nn (sI S 79 w)) = sI S 69 (12 * nn (sI S 78 w) + nn (sI S 79 w)) := mlo 2 _ (by omega) lowi
          rw [lA bb kT (by decide) (by decide) hw, kT.O (j := 5) tw (by decide) (by decide), kT.O (j := 6) tw (by decide) (by decide), kT.O (j := 7) tw (by decide) (by decide), kT.O (j := 8) tw (by decide) (by decide), kT.O (j := 9) tw (by decide) (by decide), kT.M hI.1 (j := 23) (p := 78) rfl (by decide) (by decide), kT.M hI.1 (j := 24) (p := 79) rfl (by decide) (by decide), kT.M hI.1 (j := 25) (p := 80) rfl (by decide) (by decide), kT.M hI.1 (j := 26) (p := 81) rfl (by decide) (by decide), kT.M hI.1 (j := 27) (p := 82) rfl (by decide) (by decide), kT.M hI.1 (j := 28) (p := 83) rfl (by decide) (by decide), i69]
          exact h.Ast.2 w hw
    · exact absurd (hPK.mp yp) np2
