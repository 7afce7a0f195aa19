section
variable {T Tm : Nat → Nat} {S m : AS}
theorem FLR_k {S' m : AS} {p v n : Nat} (f : FLR S m p v n) (hT : TI T S) (tp : T p = 40) (r : sR S' = sR S) (o : ∀ k j, (T k = 40 ∨ T k = 41) → sI S' k j = sI S k j) : FLR S' m p v n := by
  refine ⟨f.1, f.2.1, by rw [o p 5 (Or.inl tp)]; exact f.2.2.1, fun j k hj hk => ?_⟩
  have e : fa S' p j = fa S p j := by
    unfold fa
    rw [r]
  rw [e, o _ k (Or.inr (tyW hT tp hj).2)]
  exact f.2.2.2 j k hj hk
theorem lt1 {a b : Int32} (h0 : 0 ≤ a.toInt) (h : a.toInt < b.toInt) : (a + 1).toInt = a.toInt + 1 ∧ ((a + 1 < b) ↔ ¬ a + 1 = b) := by
  have b1 : b.toInt ≤ 2147483647 := Int32.toInt_le b
  have e : (a + 1).toInt = a.toInt + 1 := by
    rw [Int32.toInt_add, show (1 : Int32).toInt = 1 from by decide]
    exact bm (by omega) (by omega)
  refine ⟨e, ?_⟩
  rw [Int32.lt_iff_toInt_lt, e]
  constructor
  · intro q z
    rw [← z, e] at q
    omega
  · intro q
    have : ¬ a.toInt + 1 = b.toInt := fun z => q (Int32.toInt_inj.mp (e.trans z))
    omega
theorem an_go (hT : TV T S) (hm : TI Tm m) (hM : MI m) (hph : Ph m ≤ 1100) (h : FR S m) (e82 : sI m 57 82 = 0) {a : Nat} (ha : a < uA m) (e80 : sI m 80 a = 0) (r v : Int32) :
    H2 (f_K_answer_B31 S (some 4) r v (some (lel S 18 a)) 1) ((gR m 39 23 (some 57)).bind fun v12 => (aI m 46 v12 (Int32.ofNat a)).bind fun v13 => (gR m 39 24 (some 57)).bind fun v14 => (aI m 46 v14 (Int32.ofNat a)).bind fun v15 => (some (((12 : Int32) * v13) + v15)).bind fun i16 => (gR m 39 27 (some 57)).bind fun v17 => (aI m 46 v17 (Int32.ofNat a)).bind fun v18 => (bI m v17 (Int32.ofNat a) (v18 + (1 : Int32)) 46).bind fun S19 => (gR S19 39 20 (some 57)).bind fun v20 => (aI S19 46 v20 (Int32.ofNat a)).bind fun v21 => (gR S19 39 12 (some 57)).bind fun v22 => (aI S19 46 v22 i16).bind fun v23 => (kr_rv S19 39 (some 57)).bind fun u24 => kr_b2 (f_M_answers S19 (some 57) v21 v23 r v) fun v26 S25 => if v26 = 0 then (gR S25 39 26 (some 57)).bind fun v27 => (aI S25 46 v27 (Int32.ofNat a)).bind fun v28 => (bI S25 v27 (Int32.ofNat a) (v28 + (1 : Int32)) 46).bind fun S29 => (gR S29 39 26 (some 57)).bind fun v30 => (aI S29 46 v30 (Int32.ofNat a)).bind fun v31 => (gR S29 39 13 (some 57)).bind fun v32 => (aI S29 46 v32 i16).bind fun v33 => if v31 = v33 then (gR S29 39 15 (some 57)).bind fun v34 => (aI S29 46 v34 i16).bind fun v35 => (kr_rv S29 39 (some 57)).bind fun u36 => (f_M_go S29 (some 57) (Int32.ofNat a) v35).bind fun S37 => f_M_answer_B168 S37 (some 57) (Int32.ofNat a) else f_M_answer_B168 S29 (some 57) (Int32.ofNat a) else (gR S25 39 29 (some 57)).bind fun v38 => (gR S25 39 12 (some 57)).bind fun v39 => (aI S25 46 v39 i16).bind fun v40 => (gI S25 39 0 (some 57)).bind fun v41 => (bI S25 v38 (((3 : Int32) * Int32.ofNat a) + v40) v41 46).bind fun S42 => (gR S42 39 14 (some 57)).bind fun v43 => (aI S42 46 v43 i16).bind fun v44 => (kr_rv S42 39 (some 57)).bind fun u45 => (f_M_go S42 (some 57) (Int32.ofNat a) v44).bind fun S46 => f_M_answer_B168 S46 (some 57) (Int32.ofNat a)) (fun x y => AN [eX, eA, eS] x.1 y.1 (sI y.2 57 82) ∧ P_ans x.2 y.2) := by
  have b := FR_BB hT hm h
  have k4 := K4F_of hT.1
  have hmf := MF_of hm
  have h60 : uA m ≤ 60 := (zA b).1
  have n8 : nV m ≤ 8 := (zV b).1
  have m9 : sI m 57 9 = Int32.ofNat (nV m) := (zV b).2.1
  have nS60 : nS m ≤ 60 := (zS b).1
  have tx := tyA b ha
  have ai : (Int32.ofNat a).toNatClampNeg = a := oc (by omega)
  obtain ⟨vv, n, y, v1, v8, n1, n12, r3, m78, r5, r66, rr, r4, rk⟩ := AS_at hM h ha
  obtain ⟨k, hk, m79, m67⟩ := rk e80
  have f : FLR S m (lel S 17 vv) vv n := ⟨⟨n1, n12⟩, v8, r5, rr⟩
  have tv := tyV b v1
  have ix : (Int32.ofNat (12 * vv + k)).toNatClampNeg = 12 * vv + k := oc (by omega)
  obtain ⟨sr, ac, -, -⟩ := hM
  obtain ⟨g0, g2⟩ := (sr (12 * vv + k) (by omega)).1 (Or.inl m67)
  obtain ⟨ff, f3, e68⟩ := ofNat_In (n := 2) (v := sI m 68 (12 * vv + k)) ⟨g0, g2⟩
  have f3 : ff < 3 := by omega
  have k5 : (sI m 67 (12 * vv + k)).toInt < 5 := by
    rw [m67]
    decide
  obtain ⟨in70, in71⟩ := (sr (12 * vv + k) (by omega)).2 k5
  have hV : (vv : Int) < (sI m 57 9).toInt := by
    rw [m9, oi (by omega)]
    omega
  have hN : (sI m 66 vv).toInt = (n : Int) := by rw [r66, oi (by omega)]
  obtain ⟨-, hnx, -⟩ := ac vv n hV hN
  have nxt : ∀ z : Int32, In (-1) 11 z → (∀ t : Nat, z.toInt = (t : Int) → nx m (12 * vv) k t) → z = -1 ∨ ∃ t, t < n ∧ z = Int32.ofNat t := fun z hz hzt => by
    by_cases c : z.toInt < 0
    · exact Or.inl (Int32.toInt_inj.mp (by rw [show (-1 : Int32).toInt = -1 from by decide]; have := hz.1; omega))
    · obtain ⟨t', ht', rfl⟩ := ofNat_In (n := 11) (v := z) ⟨by omega, hz.2⟩
      exact Or.inr ⟨t', nxin_t hnx hk k5 (hzt t' (oi (by omega))), rfl⟩
  obtain ⟨cinj, ⟨i, i6, q0, e75⟩, -, -, -, -⟩ := h.Att.2 a ha
  obtain ⟨c5, c8, c9, c6⟩ := h.Ast.2 a ha
  obtain ⟨x6, x7, ⟨r820, r8211⟩, r810, r811⟩ := c6 e80
  have x6 : sI S (lel S 18 a) 6 = Int32.ofNat k := x6.trans m79
  have c5 : sI S (lel S 18 a) 5 = 0 := c5.trans e80
  rw [m78, m79, nn_o (by omega), nn_o (by omega)] at r811
  obtain ⟨y', y1, y2, y3, y4⟩ := tyM (j := 4) hT.1 tx rfl
  obtain ⟨tP, -, -, -⟩ := kt_P hT.1 h.PF i6
  obtain ⟨t4, -⟩ := kt4 hT.1
  have e821 : (sI m 82 a + 1).toInt = (sI m 82 a).toInt + 1 := by
    rw [Int32.toInt_add, show (1 : Int32).toInt = 1 from by decide]
    exact bm (by omega) (by omega)
  obtain ⟨-, t79, -⟩ := md_at hm (j := 24) (p := 79) rfl rfl
  obtain ⟨-, t81, -⟩ := md_at hm (j := 26) (p := 81) rfl rfl
  obtain ⟨-, t82, -⟩ := md_at hm (j := 27) (p := 82) rfl rfl
  obtain ⟨-, t84, -⟩ := md_at hm (j := 29) (p := 84) rfl rfl
  have hL : sL m 123 = 1200 := by
    obtain ⟨-, t, -⟩ := md_at hm (j := 78) (p := 123) rfl rfl
    exact (hm.t1 123 (by rw [t]; decide)).2.2.2 1200 (by rw [t]; rfl)
  have xne : ∀ {k τ : Nat}, T k = τ → τ ≠ 42 → k ≠ lel S 18 a := fun hk ht z => by
    rw [z, tx] at hk
    exact ht hk.symm
  -- the first steps
  unfold f_K_answer_B31
  refine l_of (st_bx (rS1 S)) (l_of st_rv ?_)
  unfold f_K_takeAnswer
  refine l_of (st_in (st_gRe r3)) (l_of (st_in (st_gIe x6)) (l_of (st_in st_rv) (l_of (st_in (st_hp2 (p_first f hk))) ?_)))
  refine l_of (st_in (st_gIe c8)) (l_of (st_in st_pI) ?_)
  rw [e68]
  obtain ⟨S10, e10⟩ : ∃ S10, S10 = wI S (lel S 18 a) 8 (sI m 82 a + 1) := ⟨_, rfl⟩
  rw [← e10]
  have r10 : sR S10 = sR S := by rw [e10, sR_wI]
  refine l_of (st_in (st_gRe (v := some (29 + 4 * i)) (by rw [r10]; exact q0))) (l_of (st_in st_rv) (l_of (st_eq (b2_as _ _ _)) ?_))
  refine m_of (st_gRe (hmf 23 78 rfl)) (m_of (st_aIe ai m78) (m_of (st_gRe (hmf 24 79 rfl)) (m_of (st_aIe ai m79) (m_of st_val ?_))))
  rw [mulv vv v8 k (by omega)]
  refine m_of (st_gRe (hmf 27 82 rfl)) (m_of (st_aIe (v := sI m 82 a) ai rfl) (m_of (st_bIe ai) ?_))
  obtain ⟨m19, e19⟩ : ∃ m19, m19 = wI m 82 a (sI m 82 a + 1) := ⟨_, rfl⟩
  rw [← e19]
  have rm19 : sR m19 = sR m := by rw [e19, sR_wI]
  have hmf19 := MF_e hmf rm19
  have o19 : ∀ {q j : Nat}, ¬ (q = 82 ∧ j = a) → sI m19 q j = sI m q j := fun z => by
    rw [e19]
    exact ti_sI_ne z
  refine m_of (st_gRe (hmf19 20 75 rfl)) (m_of (st_aIe (v := Int32.ofNat i) ai ((o19 (by omega)).trans e75)) (m_of (st_gRe (hmf19 12 68 rfl)) (m_of (st_aIe (v := Int32.ofNat ff) ix ((o19 (by omega)).trans e68)) (m_of st_rv ?_))))
  -- the answer itself
  have k10 : ∀ {cs : List Nat}, ¬ 4208 ∈ cs → Kp T T cs S S10 := fun q => by
    rw [e10]
    exact Kp_wI _ tx (by rw [show cl 42 8 = 4208 by decide]; exact q)
  have k19 : ∀ {cs : List Nat}, ¬ 12700 ∈ cs → Kp Tm Tm cs m m19 := fun q => by
    rw [e19]
    exact Kp_wA _ t82 (by decide) q
  have hT10 : TI T S10 := by
    rw [e10]
    exact TIwI hT.1 tx (fun lo hi e => by cases e) (fun n lo hi e => by cases e) (by omega)
  have hm19 : TI Tm m19 := by
    rw [e19]
    exact TIwI hm t82 (fun lo hi e => by cases e) (fun n lo hi e => by cases e) (by omega)
  have ph19 : Ph m19 = Ph m := by
    rw [e19]
    exact Ph_wI hm.t9 t82 (by unfold phc; omega)
  have nS19 : nS m19 = nS m := by
    unfold nS
    rw [o19 (by omega)]
  have both : H2 (f_K_isAnsweredRight S10 (some 4) (some (29 + 4 * i)) (Int32.ofNat ff) r v) (f_M_answers m19 (some 57) (Int32.ofNat i) (Int32.ofNat ff) r v) (fun x y => (∃ w, (w = 0 ∨ w = 1) ∧ x.1 = w ∧ y.1 = w ∧ RT T (sI m19 89) (nS m19) S10 m19 x.2 y.2) ∧ Rl T kw_K59 S10 0 0 T x.2 ∧ Rl Tm kw_M44 m19 1 0 Tm y.2) := fun x y hx hy => by
    refine ⟨h_right hT10 (cPF_fr b h.PF (k10 (by decide)) (Kp_rf Tm _ m)) hmf19 (cFac_fr b h.Fac (k10 (by decide)) (k19 (by decide))) (cWrg_fr b h.Wrg (k10 (by decide)) (k19 (by decide))) (cNW_fr b h.NW (k10 (by decide)) (k19 (by decide))) (cAU_fr b h.AU (k10 (by decide)) (k19 (by decide))) (by rw [nS19]; exact nS60) (by rw [e19]; exact hL) i6 f3 r v x y hx hy, ?_, ?_⟩
    · obtain ⟨q, hq, g, -⟩ := t_K_isAnsweredRight hT10 (a0 := some 4) (a1 := some (29 + 4 * i)) (a2 := Int32.ofNat ff) (a3 := r) (a4 := v) ⟨_, rfl, hT10.t9.2.2.2.2.1, by decide⟩ ⟨_, rfl, tP, by decide⟩
      rw [hx] at hq
      cases hq
      exact g
    · obtain ⟨q, hq, g, -⟩ := t_M_answers hm19 (a0 := some 57) (a1 := Int32.ofNat i) (a2 := Int32.ofNat ff) (a3 := r) (a4 := v) ⟨_, rfl, hm19.t9.1, by decide⟩ ⟨by rw [oi (by omega)]; omega, by rw [oi (by omega)]; omega⟩ ⟨by rw [oi (by omega)]; omega, by rw [oi (by omega)]; omega⟩ (by omega)
      rw [hy] at hq
      cases hq
      exact g
  refine h2_22 both (fun w S13 w' m25 p => ?_)
  obtain ⟨⟨w0, w01, e1, e2, rt⟩, g13, gm⟩ := p
  have e1 : w = w0 := e1
  have e2 : w' = w0 := e2
  have g13 : Rl T kw_K59 S10 0 0 T S13 := g13
  have gm : Rl Tm kw_M44 m19 1 0 Tm m25 := gm
  rw [e1, e2]
  obtain ⟨⟨rs, ls, oS⟩, ⟨rm, lm, oM⟩, fac13, wrg13, au13⟩ := rt
  have rs : sR S13 = sR S10 := rs
  have rm : sR m25 = sR m19 := rm
  have r13 : sR S13 = sR S := rs.trans r10
  have rm25 : sR m25 = sR m := rm.trans rm19
  have hmf25 := MF_e hmf rm25
  have hT13 : TV T S13 := ⟨g13.1, hT.2⟩
  have hm25 : TI Tm m25 := gm.1
  have o13 : ∀ {k τ : Nat} (j : Nat), T k = τ → τ ≠ 0 → ¬ RW τ j → ¬ (k = lel S 18 a ∧ j = 8) → sI S13 k j = sI S k j := fun {k τ} j hk h0 hw z => by
    have e : sI S13 k j = sI S10 k j := oS k j (by rw [hk]; exact h0) (by rw [hk]; exact hw)
    rw [e, e10, ti_sI_ne z]
  have om25 : ∀ {q j : Nat}, ¬ RWm q j → ¬ (q = 82 ∧ j = a) → sI m25 q j = sI m q j := fun hw z => by
    have e : sI m25 _ _ = sI m19 _ _ := oM _ _ hw
    rw [e, o19 z]
  have rwA : ∀ j, ¬ RW 42 j := fun j => by unfold RW; omega
  have rwm : ∀ {q j : Nat}, ¬ (q = 58 ∨ q = 59 ∨ q = 60 ∨ q = 61 ∨ q = 123 ∨ q = 124 ∨ q = 125 ∨ q = 57) → ¬ RWm q j := fun z => by unfold RWm; omega
  have s8 : sI S13 (lel S 18 a) 8 = sI m 82 a + 1 := by
    have e : sI S13 (lel S 18 a) 8 = sI S10 (lel S 18 a) 8 := oS _ _ (by rw [tx]; decide) (by rw [tx]; exact rwA 8)
    rw [e, e10, ti_sI_eq]
  have m82 : sI m25 82 a = sI m 82 a + 1 := by
    have e : sI m25 82 a = sI m19 82 a := oM _ _ (rwm (by omega))
    rw [e, e19, ti_sI_eq]
  have kS13 : ∀ {cs : List Nat}, ¬ 4208 ∈ cs → cs.all (fun z => !kw_K59.contains z) = true → Kp T T cs S S13 := fun q1 q2 => Kp_tr (k10 q1) (Kp_of g13 q2)
  have kM25 : ∀ {cs : List Nat}, ¬ 12700 ∈ cs → cs.all (fun z => !kw_M44.contains z) = true → Kp Tm Tm cs m m25 := fun q1 q2 => Kp_tr (k19 q1) (Kp_of gm q2)
  have bb13 : BB T Tm S13 m25 := BB_fr b hT13 hm25 (kS13 (by decide) (by decide +kernel)) (kM25 (by decide) (by decide +kernel))
  have nS25 : nS m25 = nS m19 := by
    unfold nS
    rw [show sI m25 57 30 = sI m19 57 30 from oM _ _ (by unfold RWm; omega)]
  have fac13 : cFac S13 m25 := fac13
  have wrg13 : cWrg S13 m25 := wrg13
  have cAU13 : cAU S13 m25 := by
    unfold cAU
    rw [nS25]
    exact AU_cong au13 rfl rfl rfl rfl rfl (funext fun j => oM 89 j (rwm (by omega))) rfl rfl id rfl rfl
  have uA25 : uA m25 = uA m := by
    unfold uA
    rw [om25 (by unfold RWm; omega) (by omega)]
  have nV25 : nV m25 = nV m := by
    unfold nV
    rw [om25 (by unfold RWm; omega) (by omega)]
  have ph25 : Ph m25 ≤ 1101 := by
    have := gm.2.2.2.1.2.2.1
    omega
  have el13 : ∀ l j, lel S13 l j = lel S l j := fun l j => by
    unfold lel
    rw [r13]
  have n82 : sI m25 57 82 = 0 := (om25 (by unfold RWm; omega) (by omega)).trans e82
  rcases w01 with rfl | rfl
  · -- wrong
    refine l_of (st_in (st_T rfl)) (m_of (st_T rfl) ?_)
    have x7' : sI S13 (lel S 18 a) 7 = sI m 81 a := (o13 7 tx (by decide) (rwA 7) (by omega)).trans x7
    have y81 : sI m25 81 a = sI m 81 a := om25 (rwm (by omega)) (by omega)
    obtain ⟨e811, lt69⟩ := lt1 r810 r811
    refine l_of (st_in (st_gIe x7')) (l_of (st_in st_pI) ?_)
    refine m_of (st_gRe (hmf25 26 81 rfl)) (m_of (st_aIe ai y81) (m_of (st_bIe ai) ?_))
    obtain ⟨S16, e16⟩ : ∃ S16, S16 = wI S13 (lel S 18 a) 7 (sI m 81 a + 1) := ⟨_, rfl⟩
    obtain ⟨m29, e29⟩ : ∃ m29, m29 = wI m25 81 a (sI m 81 a + 1) := ⟨_, rfl⟩
    rw [← e16, ← e29]
    have r16 : sR S16 = sR S := by rw [e16, sR_wI, r13]
    have rm29 : sR m29 = sR m := by rw [e29, sR_wI, rm25]
    have hmf29 := MF_e hmf rm29
    have o16 : ∀ {k τ : Nat} (j : Nat), T k = τ → τ ≠ 0 → ¬ RW τ j → ¬ (k = lel S 18 a ∧ (j = 7 ∨ j = 8)) → sI S16 k j = sI S k j := fun {k τ} j hk h0 hw z => by
      rw [e16, ti_sI_ne (by omega), o13 j hk h0 hw (by omega)]
    have o29 : ∀ {q j : Nat}, ¬ RWm q j → ¬ ((q = 82 ∨ q = 81) ∧ j = a) → sI m29 q j = sI m q j := fun hw z => by
      rw [e29, ti_sI_ne (by omega), om25 hw (by omega)]
    have x16 : sI S16 (lel S 18 a) 7 = sI m 81 a + 1 := by rw [e16, ti_sI_eq]
    have y29 : sI m29 81 a = sI m 81 a + 1 := by rw [e29, ti_sI_eq]
    have s816 : sI S16 (lel S 18 a) 8 = sI m29 82 a := by rw [e16, ti_sI_ne (by omega), s8, e29, ti_sI_ne (by omega), m82]
    have m8229 : sI m29 82 a = sI m 82 a + 1 := by rw [e29, ti_sI_ne (by omega), m82]
    have s616 : sI S16 (lel S 18 a) 6 = Int32.ofNat k := (o16 6 tx (by decide) (rwA 6) (by omega)).trans x6
    have f16 : FLR S16 m (lel S 17 vv) vv n := FLR_k f hT.1 tv r16 (fun k' j' hk' => by
      rcases hk' with hk' | hk'
      · exact o16 j' hk' (by decide) (by unfold RW; omega) (fun z => xne hk' (by decide) z.1)
      · exact o16 j' hk' (by decide) (by unfold RW; omega) (fun z => xne hk' (by decide) z.1))
    have kS16 : ∀ {cs : List Nat}, ¬ 4207 ∈ cs → Kp T T cs S13 S16 := fun q => by
      rw [e16]
      exact Kp_wI _ tx (by rw [show cl 42 7 = 4207 by decide]; exact q)
    have kM29 : ∀ {cs : List Nat}, ¬ 12600 ∈ cs → Kp Tm Tm cs m25 m29 := fun q => by
      rw [e29]
      exact Kp_wA _ t81 (by decide) q
    have hT16 : TV T S16 := ⟨by
      rw [e16]
      exact TIwI hT13.1 tx (fun lo hi e => by cases e) (fun n lo hi e => by cases e) (by omega), hT.2⟩
    have hm29 : TI Tm m29 := by
      rw [e29]
      exact TIwI hm25 t81 (fun lo hi e => by cases e) (fun n lo hi e => by cases e) (by omega)
    have bb16 : BB T Tm S16 m29 := BB_fr bb13 hT16 hm29 (kS16 (by decide)) (kM29 (by decide))
    have fac16 := cFac_fr bb13 fac13 (kS16 (by decide)) (kM29 (by decide))
    have wrg16 := cWrg_fr bb13 wrg13 (kS16 (by decide)) (kM29 (by decide))
    have oSb : ∀ c j, c < uA m → c ≠ a → sI S16 (lel S 18 c) j = sI S (lel S 18 c) j := fun c j hc hca => o16 j (tyA b hc) (by decide) (rwA j) (fun z => hca (cinj c hc z.1))
    have oMb : ∀ q j, (q = 79 ∨ q = 80 ∨ q = 81 ∨ q = 82 ∨ q = 83) → j ≠ a → sI m29 q j = sI m q j := fun q j hq hj => o29 (rwm (by omega)) (by omega)
    have x916 : sI S16 (lel S 18 a) 9 = sI m29 83 a := (o16 9 tx (by decide) (rwA 9) (by omega)).trans (c9.trans (o29 (rwm (by omega)) (by omega)).symm)
    have hF16 : FR (wI S16 (lel S 18 a) 5 2) (wI m29 80 a 2) := an_mask hT hm h ha bb16 (Kp_tr (kS13 (by decide) (by decide +kernel)) (kS16 (by decide))) (Kp_tr (kM25 (by decide) (by decide +kernel)) (kM29 (by decide))) fac16 wrg16
      (cAsh_fr bb13 (cAsh_fr b h.Ash (kS13 (by decide) (by decide +kernel)) (kM25 (by decide) (by decide +kernel))) (kS16 (by decide)) (kM29 (by decide))) (cSsh_fr bb13 (cSsh_fr b h.Ssh (kS13 (by decide) (by decide +kernel)) (kM25 (by decide) (by decide +kernel))) (kS16 (by decide)) (kM29 (by decide))) (cAU_fr bb13 cAU13 (kS16 (by decide)) (kM29 (by decide))) oSb oMb s816 x916
    have s516 : sI S16 (lel S 18 a) 5 = 0 := (o16 5 tx (by decide) (rwA 5) (by omega)).trans c5
    have m8029 : sI m29 80 a = 0 := (o29 (rwm (by omega)) (by omega)).trans e80
    have uA29 : uA m29 = uA m := by
      unfold uA
      rw [o29 (by unfold RWm; omega) (by omega)]
    have nV29 : nV m29 = nV m := by
      unfold nV
      rw [o29 (by unfold RWm; omega) (by omega)]
    have el16 : ∀ l j, lel S16 l j = lel S l j := fun l j => by
      unfold lel
      rw [r16]
    have same : same5 m m29 := fun p i hp => o29 (by unfold RWm; omega) (by omega)
    have ph29 : Ph m29 ≤ 1150 := by
      rw [e29, Ph_wI hm25.t9 t81 (by unfold phc; omega)]
      omega
    have r8229 : 0 ≤ (sI m29 82 a).toInt ∧ (sI m29 82 a).toInt ≤ 12 := by
      rw [m8229, e821]
      omega
    have n8229 : sI m29 57 82 = 0 := (o29 (by unfold RWm; omega) (by omega)).trans e82
    refine l_of (st_in (st_gIe x16)) (l_of (st_in (st_gIe s616)) (l_of (st_in st_rv) (l_of (st_in (st_hp2 (p_second f16 hk))) ?_)))
    refine m_of (st_gRe (hmf29 26 81 rfl)) (m_of (st_aIe ai y29) (m_of (st_gRe (hmf29 13 69 rfl)) (m_of (st_aIe (v := sI m 69 (12 * vv + k)) ix (o29 (rwm (by omega)) (by omega))) ?_)))
    by_cases c : sI m 81 a + 1 < sI m 69 (12 * vv + k)
    · refine l_of (st_in (st_T c)) (m_of (st_F (lt69.mp c)) ?_)
      obtain ⟨-, t80, -⟩ := md_at hm (j := 25) (p := 80) rfl rfl
      have bbm := FR_BB (T := T) (Tm := Tm) ⟨TIwI hT16.1 tx (fun lo hi e => by cases e) (fun n lo hi e => by cases e) (by omega), hT.2⟩ (TIwI hm29 t80 (fun lo hi e => by cases e) (fun n lo hi e => by cases e; decide) (by omega)) hF16
      obtain ⟨-, -, kn16, ses16⟩ := FP_AN bbm ⟨hF16.Fac, hF16.Wrg, hF16.Kn, FR_ses hF16⟩ (Kp_rev (Kp_wI (2 : Int32) tx (by decide +kernel))) (Kp_rev (Kp_wA (2 : Int32) t80 (by decide) (by decide +kernel)))
      have tail := an_tail bb16 (a := a) (by rw [uA29]; exact ha) (asm_mk (Asm_of h.Ast) uA29 ha (fun c _ => el16 18 c) oSb oMb (fun j => o29 (rwm (by omega)) (by omega)) (fun j => o29 (rwm (by omega)) (by omega)) ⟨s516.trans m8029.symm, s816, x916, fun _ => ⟨?_, x16.trans y29.symm, ?_, ?_⟩⟩) (fun c hc e => by
        rw [uA29] at hc
        rw [el16, el16] at e
        exact cinj c hc e) fac16 wrg16 kn16 ses16 n8229 r8229
      · rw [el16] at tail
        exact tail
      · rw [s616, o29 (rwm (by omega)) (by omega), m79]
      · rw [y29, e811]
        omega
      · rw [y29, o29 (q := 79) (rwm (by omega)) (by omega), o29 (q := 78) (rwm (by omega)) (by omega), o29 (q := 69) (rwm (by omega)) (by omega), m78, m79, nn_o (by omega), nn_o (by omega)]
        exact Int32.lt_iff_toInt_lt.mp c
    · have ce : sI m 81 a + 1 = sI m 69 (12 * vv + k) := Decidable.not_not.mp (fun z => c (lt69.mpr z))
      refine l_of (st_in (st_F c)) (m_of (st_T ce) ?_)
      refine l_of (st_in (st_gIe s616)) (l_of (st_in st_rv) (l_of (st_in (st_hp2 (p_next f16 hk 0))) (l_of (st_in st_rv) (l_of (st_eq (Option.bind_assoc _ _ _)) ?_))))
      rw [if_pos rfl]
      refine m_of (st_gRe (hmf29 15 71 rfl)) (m_of (st_aIe (v := sI m 71 (12 * vv + k)) ix (o29 (rwm (by omega)) (by omega))) (m_of st_rv ?_))
      have way := an_way bb16 (a := a) (by rw [uA29]; exact ha) (by rw [el16]; exact hF16) (by rw [el16]; exact s516) m8029 (SR_same sr same) (AC_same ac same) ph29 (v := vv) (n := n) ((o29 (rwm (by omega)) (by omega)).trans m78) (by rw [nV29]; exact v1) ((o29 (rwm (by omega)) (by omega)).trans r66) n12 fac16 wrg16 n8229 r8229 (nxt _ in71 (fun t ht => Or.inr ht))
      rw [el16] at way
      exact way
  · -- right
    refine l_of (st_in (st_F one0)) (m_of (st_F one0) ?_)
    have now : sI S13 4 0 = sI m 57 0 := (o13 0 t4 (by decide) (by unfold RW; omega) (fun z => xne t4 (by decide) z.1)).trans h.NW.1
    have pq : T (mn S (lel S 18 a) 4) = 48 := y4
    refine l_of (st_in (st_gRe (v := some y') (by rw [r13]; exact y1))) (l_of (st_in (st_gIe now)) (l_of (st_in st_rv) (l_of (st_in (st_hp (p_show (p := mn S (lel S 18 a) 4) (by rw [r13]; exact y3) f3))) ?_)))
    refine m_of (st_gRe (hmf25 29 84 rfl)) (m_of (st_gRe (hmf25 12 68 rfl)) (m_of (st_aIe (v := Int32.ofNat ff) ix ((om25 (rwm (by omega)) (by omega)).trans e68)) (m_of (st_gIe (v := sI m 57 0) (om25 (by unfold RWm; omega) (by omega))) (m_of (st_bIe (ix3 a (by omega) ff f3)) ?_))))
    obtain ⟨S31, e31⟩ : ∃ S31, S31 = wI S13 (mn S (lel S 18 a) 4) ff (sI m 57 0) := ⟨_, rfl⟩
    obtain ⟨m42, e42⟩ : ∃ m42, m42 = wI m25 84 (3 * a + ff) (sI m 57 0) := ⟨_, rfl⟩
    rw [← e31, ← e42]
    have r31 : sR S31 = sR S := by rw [e31, sR_wI, r13]
    have rm42 : sR m42 = sR m := by rw [e42, sR_wI, rm25]
    have hmf42 := MF_e hmf rm42
    have o31 : ∀ {k τ : Nat} (j : Nat), T k = τ → τ ≠ 0 → τ ≠ 48 → ¬ RW τ j → ¬ (k = lel S 18 a ∧ j = 8) → sI S31 k j = sI S k j := fun {k τ} j hk h0 h48 hw z => by
      rw [e31, ti_sI_ne (fun y => h48 (by rw [← hk, y.1, pq])), o13 j hk h0 hw z]
    have o42 : ∀ {q j : Nat}, ¬ RWm q j → ¬ (q = 82 ∧ j = a) → q ≠ 84 → sI m42 q j = sI m q j := fun hw z z2 => by
      rw [e42, ti_sI_ne (by omega), om25 hw z]
    have s831 : sI S31 (lel S 18 a) 8 = sI m42 82 a := by
      rw [e31, ti_sI_ne (fun z => xne pq (by decide) z.1.symm), s8, e42, ti_sI_ne (by omega), m82]
    have m8242 : sI m42 82 a = sI m 82 a + 1 := by rw [e42, ti_sI_ne (by omega), m82]
    have s631 : sI S31 (lel S 18 a) 6 = Int32.ofNat k := (o31 6 tx (by decide) (by decide) (rwA 6) (by omega)).trans x6
    have f31 : FLR S31 m (lel S 17 vv) vv n := FLR_k f hT.1 tv r31 (fun k' j' hk' => by
      rcases hk' with hk' | hk'
      · exact o31 j' hk' (by decide) (by decide) (by unfold RW; omega) (fun z => xne hk' (by decide) z.1)
      · exact o31 j' hk' (by decide) (by decide) (by unfold RW; omega) (fun z => xne hk' (by decide) z.1))
    have kS31 : ∀ {cs : List Nat}, ¬ 4800 ∈ cs → Kp T T cs S13 S31 := fun q => by
      rw [e31]
      exact Kp_wA _ pq (by decide) q
    have kM42 : ∀ {cs : List Nat}, ¬ 12900 ∈ cs → Kp Tm Tm cs m25 m42 := fun q => by
      rw [e42]
      exact Kp_wA _ t84 (by decide) q
    have hT31 : TV T S31 := ⟨by
      rw [e31]
      exact TIwI hT13.1 pq (fun lo hi e => by cases e) (fun n lo hi e => by cases e) (by omega), hT.2⟩
    have hm42 : TI Tm m42 := by
      rw [e42]
      exact TIwI hm25 t84 (fun lo hi e => by cases e) (fun n lo hi e => by cases e) (by omega)
    have bb31 : BB T Tm S31 m42 := BB_fr bb13 hT31 hm42 (kS31 (by decide)) (kM42 (by decide))
    have fac31 := cFac_fr bb13 fac13 (kS31 (by decide)) (kM42 (by decide))
    have wrg31 := cWrg_fr bb13 wrg13 (kS31 (by decide)) (kM42 (by decide))
    have el31 : ∀ l j, lel S31 l j = lel S l j := fun l j => by
      unfold lel
      rw [r31]
    have em31 : ∀ p j, mn S31 p j = mn S p j := fun p j => by
      unfold mn
      rw [r31]
    have uA42 : uA m42 = uA m := by
      unfold uA
      rw [o42 (by unfold RWm; omega) (by omega) (by omega)]
    have nV42 : nV m42 = nV m := by
      unfold nV
      rw [o42 (by unfold RWm; omega) (by omega) (by omega)]
    have nS42 : nS m42 = nS m := by
      unfold nS
      rw [o42 (by unfold RWm; omega) (by omega) (by omega)]
    have w48 : ∀ {k : Nat} (j : Nat), T k = 48 → k ≠ mn S (lel S 18 a) 4 → sI S31 k j = sI S k j := fun {k} j hk hne => by
      rw [e31, ti_sI_ne (fun z => hne z.1), o13 j hk (by decide) (by unfold RW; omega) (fun z => xne hk (by decide) z.1)]
    have ash31 : cAsh S31 m42 := fun c hc j hj => by
      rw [uA42] at hc
      obtain ⟨z', z1, z2, z3, z4⟩ := tyM (j := 4) hT.1 (tyA b hc) rfl
      rw [el31, em31]
      by_cases ca : c = a
      · subst ca
        by_cases cj : j = ff
        · subst cj
          rw [e31, e42, ti_sI_eq, ti_sI_eq]
          exact ⟨rfl, Or.inr h.NW.2⟩
        · rw [e31, ti_sI_ne (by omega), e42, ti_sI_ne (by omega), o13 j z4 (by decide) (by unfold RW; omega) (fun z => xne z4 (by decide) z.1), om25 (rwm (by omega)) (by omega)]
          exact h.Ash c hc j hj
      · rw [w48 j z4 (fun z => ca (h.Min.1 c a hc ha z)), e42, ti_sI_ne (by omega), om25 (rwm (by omega)) (by omega)]
        exact h.Ash c hc j hj
    have ssh31 : cSsh S31 m42 := fun c hc j hj => by
      rw [nS42] at hc
      obtain ⟨z', z1, z2, z3, z4⟩ := tyM (j := 3) hT.1 (tyS b hc) rfl
      rw [el31, em31, w48 j z4 (fun z => h.Min.2.2 a c ha hc z.symm), o42 (rwm (by omega)) (by omega) (by omega)]
      exact h.Ssh c hc j hj
    have oSb : ∀ c j, c < uA m → c ≠ a → sI S31 (lel S 18 c) j = sI S (lel S 18 c) j := fun c j hc hca => o31 j (tyA b hc) (by decide) (by decide) (rwA j) (fun z => hca (cinj c hc z.1))
    have oMb : ∀ q j, (q = 79 ∨ q = 80 ∨ q = 81 ∨ q = 82 ∨ q = 83) → j ≠ a → sI m42 q j = sI m q j := fun q j hq hj => o42 (rwm (by omega)) (by omega) (by omega)
    have x931 : sI S31 (lel S 18 a) 9 = sI m42 83 a := (o31 9 tx (by decide) (by decide) (rwA 9) (by omega)).trans (c9.trans (o42 (rwm (by omega)) (by omega) (by omega)).symm)
    have hF31 : FR (wI S31 (lel S 18 a) 5 2) (wI m42 80 a 2) := an_mask hT hm h ha bb31 (Kp_tr (kS13 (by decide) (by decide +kernel)) (kS31 (by decide))) (Kp_tr (kM25 (by decide) (by decide +kernel)) (kM42 (by decide))) fac31 wrg31 ash31 ssh31 (cAU_fr bb13 cAU13 (kS31 (by decide)) (kM42 (by decide))) oSb oMb s831 x931
    have s531 : sI S31 (lel S 18 a) 5 = 0 := (o31 5 tx (by decide) (by decide) (rwA 5) (by omega)).trans c5
    have m8042 : sI m42 80 a = 0 := (o42 (rwm (by omega)) (by omega) (by omega)).trans e80
    have same : same5 m m42 := fun p i hp => o42 (by unfold RWm; omega) (by omega) (by omega)
    have ph42 : Ph m42 ≤ 1150 := by
      rw [e42, Ph_wI hm25.t9 t84 (by unfold phc; omega)]
      omega
    have r8242 : 0 ≤ (sI m42 82 a).toInt ∧ (sI m42 82 a).toInt ≤ 12 := by
      rw [m8242, e821]
      omega
    have n8242 : sI m42 57 82 = 0 := (o42 (by unfold RWm; omega) (by omega) (by omega)).trans e82
    refine l_of (st_in (st_gIe s631)) (l_of (st_in st_rv) (l_of (st_in (st_hp2 (p_next f31 hk 1))) (l_of (st_in st_rv) (l_of (st_eq (Option.bind_assoc _ _ _)) ?_))))
    rw [if_neg one0]
    refine m_of (st_gRe (hmf42 14 70 rfl)) (m_of (st_aIe (v := sI m 70 (12 * vv + k)) ix (o42 (rwm (by omega)) (by omega) (by omega))) (m_of st_rv ?_))
    have way := an_way bb31 (a := a) (by rw [uA42]; exact ha) (by rw [el31]; exact hF31) (by rw [el31]; exact s531) m8042 (SR_same sr same) (AC_same ac same) ph42 (v := vv) (n := n) ((o42 (rwm (by omega)) (by omega) (by omega)).trans m78) (by rw [nV42]; exact v1) ((o42 (rwm (by omega)) (by omega) (by omega)).trans r66) n12 fac31 wrg31 n8242 r8242 (nxt _ in70 (fun t ht => Or.inl ht))
    rw [el31] at way
    exact way
end
