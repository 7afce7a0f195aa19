/-! ===== begin ===== -/
theorem sI_wR' (S : AS) (k j : Nat) (v : Option Nat) : sI (wR S k j v) = sI S := rfl
theorem sN_wR' (S : AS) (k j : Nat) (v : Option Nat) : sN (wR S k j v) = sN S := rfl
theorem sL_wR' (S : AS) (k j : Nat) (v : Option Nat) : sL (wR S k j v) = sL S := rfl
/-- a new attempt in the class -/
def ATK (S S' : AS) (z : Nat) (pn fl : Option Nat) (d1 d2 : Int32) : Prop := sN S' = sN S + 2 ∧ (∀ k j, k < sN S → k ≠ z → sI S' k j = sI S k j ∧ sR S' k j = sR S k j) ∧ (∀ k, k < sN S → sL S' k = sL S k) ∧ (sR S' z 0 = pn ∧ sI S' z 1 = d1 ∧ sI S' z 2 = d2 ∧ sR S' z 3 = fl ∧ sR S' z 4 = some (sN S)) ∧ (sI S' z 5 = 0 ∧ sI S' z 8 = sI S z 8 ∧ sI S' z 9 = -1) ∧ sR S' (sN S) 0 = some (sN S + 1) ∧ ∀ f, f < 3 → sI S' (sN S + 1) f = -1
theorem p_atI {S : AS} {z : Nat} {pn fl : Option Nat} {d1 d2 : Int32} (hz : z < sN S) : Hp (f_Attempt_init S (some z) pn d1 d2 fl) (fun S' => ATK S S' z pn fl d1 d2) := by
  unfold f_Attempt_init
  refine p_of st_val (p_of st_nO (p_bd (p_sh1 (S := nO S 20) (y := sN S) (by rw [nO_N]; omega)) (fun S3 h3 => ?_)))
  obtain ⟨a1, a2, a3, a4, a5, a6⟩ := h3
  rw [nO_N] at a1 a2 a3 a4 a5 a6
  have o3 : ∀ k j, k < sN S → sI S3 k j = sI S k j ∧ sR S3 k j = sR S k j := fun k j hk => by
    obtain ⟨b1, b2, -⟩ := nO_f S 20 (k := k) (by omega)
    exact ⟨(a4 k j (by omega)).trans (by rw [b1]), (a3 k j (by omega) (by omega)).trans (by rw [b2])⟩
  refine p_of st_pR (p_of st_pI (p_of st_pI (p_of st_pI (p_of st_pR (p_of st_pI (p_of st_pI (p_of st_pR (p_ret ?_))))))))
  obtain ⟨S4, e4⟩ : ∃ S4, S4 = wR S3 z 4 (some (sN S)) := ⟨_, rfl⟩
  rw [← e4]
  obtain ⟨S7, e7⟩ : ∃ S7, S7 = wI (wI (wI S4 z 5 0) z 6 (-1)) z 9 (-1) := ⟨_, rfl⟩
  rw [← e7]
  obtain ⟨S8, e8⟩ : ∃ S8, S8 = wR S7 z 0 pn := ⟨_, rfl⟩
  rw [← e8]
  obtain ⟨S10, e10⟩ : ∃ S10, S10 = wI (wI S8 z 1 d1) z 2 d2 := ⟨_, rfl⟩
  rw [← e10]
  have I : ∀ k j, ¬ (k = z ∧ (j = 1 ∨ j = 2 ∨ j = 5 ∨ j = 6 ∨ j = 9)) → sI (wR S10 z 3 fl) k j = sI S3 k j := fun k j q => by
    rw [sI_wR', e10, ti_sI_ne (by omega), ti_sI_ne (by omega), e8, sI_wR', e7, ti_sI_ne (by omega), ti_sI_ne (by omega), ti_sI_ne (by omega), e4, sI_wR']
  have R : ∀ k j, ¬ (k = z ∧ (j = 0 ∨ j = 3 ∨ j = 4)) → sR (wR S10 z 3 fl) k j = sR S3 k j := fun k j q => by
    rw [ti_sR_ne (by omega), e10, sR_wI, sR_wI, e8, ti_sR_ne (by omega), e7, sR_wI, sR_wI, sR_wI, e4, ti_sR_ne (by omega)]
  have L : sL (wR S10 z 3 fl) = sL S3 := by
    rw [sL_wR', e10]
    show sL S8 = _
    rw [e8, sL_wR', e7]
    show sL S4 = _
    rw [e4, sL_wR']
  have N : sN (wR S10 z 3 fl) = sN S3 := by
    rw [sN_wR', e10]
    show sN S8 = _
    rw [e8, sN_wR', e7]
    show sN S4 = _
    rw [e4, sN_wR']
  refine ⟨N.trans (a1.trans (by omega)), fun k j hk hkz => ⟨(I k j (by omega)).trans (o3 k j hk).1, (R k j (by omega)).trans (o3 k j hk).2⟩, fun k hk => by rw [L, a6 k (by omega), (nO_f S 20 (k := k) (by omega)).2.2], ⟨?_, ?_, ?_, ti_sR_eq _ _ _ _, ?_⟩, ⟨?_, ?_, ?_⟩, ?_, fun f hf => ?_⟩
  · rw [ti_sR_ne (by omega), e10, sR_wI, sR_wI, e8, ti_sR_eq]
  · rw [sI_wR', e10, ti_sI_ne (by omega), ti_sI_eq]
  · rw [sI_wR', e10, ti_sI_eq]
  · rw [ti_sR_ne (by omega), e10, sR_wI, sR_wI, e8, ti_sR_ne (by omega), e7, sR_wI, sR_wI, sR_wI, e4, ti_sR_eq]
  · rw [sI_wR', e10, ti_sI_ne (by omega), ti_sI_ne (by omega), e8, sI_wR', e7, ti_sI_ne (by omega), ti_sI_ne (by omega), ti_sI_eq]
  · exact (I z 8 (by omega)).trans (o3 z 8 hz).1
  · rw [sI_wR', e10, ti_sI_ne (by omega), ti_sI_ne (by omega), e8, sI_wR', e7, ti_sI_eq]
  · exact (R (sN S) 0 (by omega)).trans a2
  · exact (I (sN S + 1) f (by omega)).trans (a5 f hf)
section
variable {T Tm : Nat → Nat} {S m : AS}
/-- the reference's loop: nothing shown yet -/
theorem h_bgM_L {α : Type} {x : Option α} {Q : α → Int32 × AS → Prop} {a : Nat} (hmf : MF m) (a60 : a < 60) (t84 : Tm 84 = 129)
    (H : ∀ M, TI Tm M → sR M = sR m → (∀ q c, ¬ (q = 84 ∧ 3 * a ≤ c ∧ c < 3 * a + 3) → sI M q c = sI m q c) → (∀ f, f < 3 → sI M 84 (3 * a + f) = -1) → H2 x ((gI M 39 19 (some 57)).bind fun v1 => (pI M 39 19 (some 57) (v1 + (1 : Int32))).bind fun S2 => (kr_rv S2 39 (some 57)).bind fun u3 => (f_M_go S2 (some 57) (Int32.ofNat a) (0 : Int32)).bind fun S4 => some (Int32.ofNat a, S4)) Q) :
    ∀ (k j fu : Nat) (M : AS), j + k = 3 → TI Tm M → sR M = sR m → (∀ q c, ¬ (q = 84 ∧ 3 * a ≤ c ∧ c < 3 * a + 3) → sI M q c = sI m q c) → (∀ f, f < j → sI M 84 (3 * a + f) = -1) → H2 x (f_M_begin_L136 fu M (some 57) (Int32.ofNat a) (Int32.ofNat j)) Q
  | _, _, 0, _, _, _, _, _, _ => h2_m0
  | 0, j, fu + 1, M, hk, r0, r1, r3, r4 => by
    unfold f_M_begin_L136 f_M_begin_C136
    have e : j = 3 := by omega
    subst e
    exact m_of (st_T (by decide)) (H M r0 r1 r3 r4)
  | k + 1, j, fu + 1, M, hk, r0, r1, r3, r4 => by
    unfold f_M_begin_L136 f_M_begin_C136
    refine m_of (st_F (fun q => by have := (ole (a := 3) (b := j) (by decide) (by omega)).mp q; omega)) (m_of (st_gRe (v := some 84) (MF_e hmf r1 29 84 rfl)) (m_of (st_bIe (ix3 a a60 j (by omega))) (m_of st_val ?_)))
    rw [o1]
    refine h_bgM_L hmf a60 t84 H k (j + 1) fu _ (by omega) (TIwI r0 t84 (fun lo hi e => by cases e) (fun n lo hi e => by cases e) (by omega)) r1 (fun q c z => ?_) (fun f hf => ?_)
    · rw [ti_sI_ne (by omega)]
      exact r3 q c z
    · by_cases z : f = j
      · subst z
        rw [ti_sI_eq]
      · rw [ti_sI_ne (by omega)]
        exact r4 f (by omega)
def P_beg (S m : AS) : Prop := cKn S m ∧ cAtt S m ∧ cAst S m ∧ P_ses S m
theorem FR_beg (h : FR S m) : P_beg S m := ⟨h.Kn, h.Att, h.Ast, FR_ses h⟩
theorem sub1 : ∀ n, n < 9 → 0 < n → Int32.ofNat n - (1 : Int32) = Int32.ofNat (n - 1) := by decide +kernel
theorem bg_go (hT : TV T S) (hm : TI Tm m) (h : FR S m) (sr : SR m) (ac : AC m) (e82 : sI m 57 82 = 0) {i d1 d2 : Nat} (i6 : i < 6) (l1 : d1 < 6) (l2 : d2 < 6) (nA60 : uA m < 60) (nV0 : 0 < nV m) :
    H2 (f_K_begin_B54 S (some 4) (Int32.ofNat d1) (Int32.ofNat d2) (some (29 + 4 * i)) 1) ((gI m 39 19 (some 57)).bind fun v11 => (gR m 39 20 (some 57)).bind fun v12 => (bI m v12 v11 (Int32.ofNat i) 46).bind fun S13 => (gR S13 39 21 (some 57)).bind fun v14 => (bI S13 v14 v11 (Int32.ofNat d1) 46).bind fun S15 => (gR S15 39 22 (some 57)).bind fun v16 => (bI S15 v16 v11 (Int32.ofNat d2) 46).bind fun S17 => (gR S17 39 23 (some 57)).bind fun v18 => (gI S17 39 9 (some 57)).bind fun v19 => (bI S17 v18 v11 (v19 - (1 : Int32)) 46).bind fun S20 => (gR S20 39 25 (some 57)).bind fun v21 => (bI S20 v21 v11 (0 : Int32) 46).bind fun S22 => (gR S22 39 28 (some 57)).bind fun v23 => (bI S22 v23 v11 (-1 : Int32) 46).bind fun S24 => f_M_begin_L136 kr_FU S24 (some 57) v11 (0 : Int32)) (fun x y => AN [eX, eS] x.1 y.1 (sI y.2 57 82) ∧ P_beg x.2 y.2) := by
  have b := FR_BB hT hm h
  have k4 := K4F_of hT.1
  have hmf := MF_of hm
  obtain ⟨zA1, zA2, zA3⟩ := zA b
  obtain ⟨zV1, zV2, zV3⟩ := zV b
  have n8 : nV m ≤ 8 := zV1
  have s18 : sI S 18 2 = Int32.ofNat (uA m) := zA3.trans zA2
  have s17 : sI S 17 2 = Int32.ofNat (nV m) := zV3.trans zV2
  have m19 : sI m 57 19 = Int32.ofNat (uA m) := zA2
  have m9 : sI m 57 9 = Int32.ofNat (nV m) := zV2
  obtain ⟨vn, evn⟩ : ∃ vn, vn = nV m - 1 := ⟨_, rfl⟩
  have vlt : vn < nV m := by omega
  have esub : Int32.ofNat (nV m) - (1 : Int32) = Int32.ofNat vn := by
    rw [evn]
    exact sub1 _ (by omega) nV0
  obtain ⟨t4, -⟩ := kt4 hT.1
  have lt : ∀ {k τ : Nat}, T k = τ → τ ≠ 0 → k < sN S := fun hk h0 => (hT.1.t1 _ (by rw [hk]; exact h0)).1
  have t17 : T 17 = 20 := (hT.1.t6 0 (by decide)).1
  have t18 : T 18 = 21 := (hT.1.t6 1 (by decide)).1
  have n4 := lt t4 (by decide)
  have n17 := lt t17 (by decide)
  have n18 := lt t18 (by decide)
  obtain ⟨d, w1, w2, w3, w4, w5, w6⟩ := LO_add hT.1 (q := 1) (by decide) s18 (by omega)
  have w1 : sR S 18 1 = some d := w1
  have w5 : d ≠ 18 := w5
  have dne : ∀ {k τ : Nat}, T k = τ → τ ≠ 0 → kd τ ≠ 1 → τ ≠ 31 → k ≠ d := fun hk h0 h1 h2 => w6 _ (by rw [hk]; exact h0) (by rw [hk]; exact h1) (by rw [hk]; exact h2)
  obtain ⟨tP, -, -, -⟩ := kt_P hT.1 h.PF i6
  have tf := tyV b vlt
  -- the new attempt: its type, its cells
  obtain ⟨S3', e3', g3, raw⟩ : Ho ((some (nO S 11)).bind fun S3 => some S3) (fun S3 => Rl T [] S (0 + 1) (0 + 20) T S3 ∧ RawP S T S3 11 (sN S)) := r_nO (Rlrf hT.1) (by decide) (fun S' a c _ => r_some ⟨a, c⟩)
  have e3' : nO S 11 = S3' := Option.some.inj e3'
  rw [← e3'] at g3 raw
  have f3 : ∀ k, k < sN S → sI (nO S 11) k = sI S k ∧ sR (nO S 11) k = sR S k ∧ sL (nO S 11) k = sL S k := fun k hk => nO_f S 11 (by omega)
  have z3 := nO_0 S 11
  have N3 : sN (nO S 11) = sN S + 1 := rfl
  unfold f_K_begin_B54
  refine l_of (st_bx (rS1 S)) (l_of st_nO ?_)
  refine l_of (st_gRe (v := some 17) (by rw [(f3 4 n4).2.1]; exact k4.1 6 17 rfl)) (l_of (st_gRe (v := some 17) (by rw [(f3 4 n4).2.1]; exact k4.1 6 17 rfl)) (l_of st_rv (l_of st_size (l_of st_rv ?_))))
  rw [(f3 17 n17).1, s17, esub]
  obtain ⟨r17, r1, r2⟩ := lrow hT.1 (q := 0) (i := vn) (by decide) (SZ_lt (zV b) (by decide) vlt)
  have r1 : sR S 17 1 = some r17 := r1
  have a17 := atV b vlt
  rw [r1] at a17
  refine l_of (st_get (p := lel S 17 vn) (oc (by omega)) (by
    rw [(f3 17 n17).2.1, r1]
    show sR (nO S 11) r17 vn = _
    rw [(f3 r17 (lt r2 (by decide))).2.1]
    exact a17)) (l_of st_cc (l_bd (fun S13 e13 => ?_)))
  obtain ⟨at1, at2, at3, ⟨at40, at41, at42, at43, at44⟩, ⟨at5, at8, at9⟩, at6, at7⟩ := p_atI (by rw [N3]; omega) _ e13
  rw [N3] at at1 at2 at3 at44 at6 at7
  obtain ⟨S13', h13, T14, g14, mk⟩ := ho_Attempt (a2 := Int32.ofNat d1) (a3 := Int32.ofNat d2) g3 raw (p := some (29 + 4 * i)) (f := some (lel S 17 vn)) ⟨_, rfl, tP, by decide⟩ ⟨_, rfl, tf, by decide⟩
  rw [e13] at h13
  cases h13
  have o13 : ∀ k j, k < sN S → sI S13 k j = sI S k j ∧ sR S13 k j = sR S k j := fun k j hk => by
    obtain ⟨x1, x2⟩ := at2 k j (by omega) (by omega)
    exact ⟨x1.trans (by rw [(f3 k hk).1]), x2.trans (by rw [(f3 k hk).2.1])⟩
  refine l_of (st_gRe (v := some 18) ((o13 4 7 n4).2.trans (k4.1 7 18 rfl))) (l_of st_rv (l_b2 (fun v17 S16 e16 => ?_)))
  obtain ⟨p1, p2, p3, p4, p5⟩ := p_add (S := S13) (l := 18) (d := d) (x := sN S) (n := uA m) ((o13 18 1 n18).2.trans w1) ((o13 18 2 n18).1.trans s18) (by omega) (by rw [at3 d (by omega), (f3 d w4).2.2]; exact w2) (by omega) (by omega) w5 _ e16
  have p1 : ∀ p j, p < sN S13 → ¬ (p = 18 ∧ (j = 0 ∨ j = 2)) → sI S16 p j = sI S13 p j := p1
  have p2 : sI S16 18 2 = Int32.ofNat (uA m + 1) := p2
  have p3 : ∀ p j, p < sN S13 → ¬ (p = 18 ∧ j = 1) → ¬ (p = d ∧ j = uA m) → sR S16 p j = sR S13 p j := p3
  have p4 : ∀ k, k < uA m → sR S16 ((sR S16 18 1).getD 0) k = sR S13 d k := p4
  have p5 : sR S16 ((sR S16 18 1).getD 0) (uA m) = some (sN S) := p5
  obtain ⟨q16, h16, T25, g25, ty25, -⟩ := ho_add (w' := [53100, 2102, 52101, 2100]) (hi := 60) 1 g14 (x := some 18) (v := some (sN S)) ⟨_, rfl, (mk.2.1 18 (by rw [t18]; decide)).trans t18, by decide⟩ (by decide) ⟨_, rfl, mk.1, by decide⟩ rfl (by
    show (sI S13 18 2).toInt < 60
    rw [(o13 18 2 n18).1, s18, oi (by omega)]
    omega) (by decide) (by decide +kernel)
  rw [e16] at h16
  cases h16
  have g25 : Rl T [53100, 2102, 52101, 2100] S _ _ T25 S16 := g25
  have tz : T25 (sN S) = 42 := (ty25 _ (by rw [mk.1]; decide)).trans mk.1
  have hT25 : TV T25 S16 := ⟨g25.1, (g25.ty 1 (by rw [hT.2]; decide)).trans hT.2⟩
  have fI : ∀ k j, k < sN S → ¬ (k = 18 ∧ (j = 0 ∨ j = 2)) → sI S16 k j = sI S k j := fun k j hk q => (p1 k j (by omega) q).trans (o13 k j hk).1
  have fR : ∀ k j, k < sN S → ¬ (k = 18 ∧ j = 1) → ¬ (k = d ∧ j = uA m) → sR S16 k j = sR S k j := fun k j hk q1 q2 => (p3 k j (by omega) q1 q2).trans (o13 k j hk).2
  have gI' : ∀ j, sI S16 (sN S) j = sI S13 (sN S) j := fun j => p1 _ j (by omega) (by omega)
  have gR' : ∀ j, sR S16 (sN S) j = sR S13 (sN S) j := fun j => p3 _ j (by omega) (by omega) (by omega)
  have gR1 : sR S16 (sN S + 1) 0 = some (sN S + 2) := (p3 _ 0 (by omega) (by omega) (by omega)).trans at6
  have gI2 : ∀ f, f < 3 → sI S16 (sN S + 2) f = -1 := fun f hf => (p1 _ f (by omega) (by omega)).trans (at7 f hf)
  have elo : ∀ k, k < uA m → lel S16 18 k = lel S 18 k := fun k hk => by
    unfold lel
    rw [p4 k hk, (o13 d k w4).2, w1]
    rfl
  have eln : lel S16 18 (uA m) = sN S := by
    unfold lel
    rw [p5]
    rfl
  have elS : ∀ k, k < nS m → lel S16 19 k = lel S 19 k := fun k hk => lel_othG hT.1 (q := 2) (q0 := 1) (by decide) (by decide) (by decide) w6 fR (SZ_lt (zS b) (by decide) hk)
  have elV : ∀ k, k < nV m → lel S16 17 k = lel S 17 k := fun k hk => lel_othG hT.1 (q := 0) (q0 := 1) (by decide) (by decide) (by decide) w6 fR (SZ_lt (zV b) (by decide) hk)
  -- the reference
  obtain ⟨-, t75, -⟩ := md_at hm (j := 20) (p := 75) rfl rfl
  obtain ⟨-, t76, -⟩ := md_at hm (j := 21) (p := 76) rfl rfl
  obtain ⟨-, t77, -⟩ := md_at hm (j := 22) (p := 77) rfl rfl
  obtain ⟨-, t78, -⟩ := md_at hm (j := 23) (p := 78) rfl rfl
  obtain ⟨-, t80, -⟩ := md_at hm (j := 25) (p := 80) rfl rfl
  obtain ⟨-, t83, -⟩ := md_at hm (j := 28) (p := 83) rfl rfl
  obtain ⟨-, t84, -⟩ := md_at hm (j := 29) (p := 84) rfl rfl
  have t57 := hm.t9.1
  have ai : (Int32.ofNat (uA m)).toNatClampNeg = uA m := oc (by omega)
  refine m_of (st_gIe m19) (m_of (st_gRe (hmf 20 75 rfl)) (m_of (st_bIe ai) (m_of (st_gRe (v := some 76) (hmf 21 76 rfl)) (m_of (st_bIe ai) (m_of (st_gRe (v := some 77) (hmf 22 77 rfl)) (m_of (st_bIe ai) ?_))))))
  refine m_of (st_gRe (v := some 78) (hmf 23 78 rfl)) (m_of (st_gIe (v := Int32.ofNat (nV m)) ((ti_sI_ne (by omega)).trans ((ti_sI_ne (by omega)).trans ((ti_sI_ne (by omega)).trans m9)))) (m_of (st_bIe ai) ?_))
  rw [esub]
  refine m_of (st_gRe (v := some 80) (hmf 25 80 rfl)) (m_of (st_bIe ai) (m_of (st_gRe (v := some 83) (hmf 28 83 rfl)) (m_of (st_bIe ai) ?_)))
  obtain ⟨m24, e24⟩ : ∃ m24, m24 = wI (wI (wI (wI (wI (wI m 75 (uA m) (Int32.ofNat i)) 76 (uA m) (Int32.ofNat d1)) 77 (uA m) (Int32.ofNat d2)) 78 (uA m) (Int32.ofNat vn)) 80 (uA m) 0) 83 (uA m) (-1) := ⟨_, rfl⟩
  rw [← e24]
  have r24 : sR m24 = sR m := by rw [e24]; rfl
  have o24 : ∀ {q j : Nat}, ¬ ((q = 75 ∨ q = 76 ∨ q = 77 ∨ q = 78 ∨ q = 80 ∨ q = 83) ∧ j = uA m) → sI m24 q j = sI m q j := fun z => by
    rw [e24, ti_sI_ne (by omega), ti_sI_ne (by omega), ti_sI_ne (by omega), ti_sI_ne (by omega), ti_sI_ne (by omega), ti_sI_ne (by omega)]
  have rn : ∀ (n : Nat) (hi : Int), n < 300 → (n : Int) ≤ hi → In 0 hi (Int32.ofNat n) := fun n hi h1 h2 => ⟨by rw [oi (by omega)]; omega, by rw [oi (by omega)]; exact h2⟩
  have ti24 : TI Tm m24 := by
    rw [e24]
    exact TIwI (TIwI (TIwI (TIwI (TIwI (TIwI hm t75 (fun lo hi e => by cases e) (fun n lo hi e => by cases e; exact rn _ _ (by omega) (by omega)) (by omega)) t76 (fun lo hi e => by cases e) (fun n lo hi e => by cases e; exact rn _ _ (by omega) (by omega)) (by omega)) t77 (fun lo hi e => by cases e) (fun n lo hi e => by cases e; exact rn _ _ (by omega) (by omega)) (by omega)) t78 (fun lo hi e => by cases e) (fun n lo hi e => by cases e; exact rn _ _ (by omega) (by omega)) (by omega)) t80 (fun lo hi e => by cases e) (fun n lo hi e => by cases e; decide) (by omega)) t83 (fun lo hi e => by cases e) (fun n lo hi e => by cases e; decide) (by omega)
  refine h_bgM_L (Tm := Tm) (m := m24) (a := uA m) (MF_e hmf r24) nA60 t84 (fun M ti rM oM shM => ?_) 3 0 kr_FU m24 rfl ti24 rfl (fun _ _ _ => rfl) (fun f hf => absurd hf (Nat.not_lt_zero _))
  refine m_of (st_gIe (v := Int32.ofNat (uA m)) ((oM _ _ (by omega)).trans ((o24 (by omega)).trans m19))) (m_of st_pI (m_of st_rv ?_))
  rw [o1]
  obtain ⟨m2, e2⟩ : ∃ m2, m2 = wI M 57 19 (Int32.ofNat (uA m + 1)) := ⟨_, rfl⟩
  rw [← e2]
  have o2 : ∀ {q j : Nat}, ¬ ((q = 75 ∨ q = 76 ∨ q = 77 ∨ q = 78 ∨ q = 80 ∨ q = 83) ∧ j = uA m) → ¬ (q = 84 ∧ 3 * uA m ≤ j ∧ j < 3 * uA m + 3) → ¬ (q = 57 ∧ j = 19) → sI m2 q j = sI m q j := fun z1 z2 z3 => by
    rw [e2, ti_sI_ne z3, oM _ _ z2, o24 z1]
  have n24 : ∀ {q : Nat}, q ≠ 84 → q ≠ 57 → sI m2 q (uA m) = sI m24 q (uA m) := fun z1 z2 => by
    rw [e2, ti_sI_ne (by omega), oM _ _ (by omega)]
  have v75 : sI m2 75 (uA m) = Int32.ofNat i := by rw [n24 (by omega) (by omega), e24, ti_sI_ne (by omega), ti_sI_ne (by omega), ti_sI_ne (by omega), ti_sI_ne (by omega), ti_sI_ne (by omega), ti_sI_eq]
  have v76 : sI m2 76 (uA m) = Int32.ofNat d1 := by rw [n24 (by omega) (by omega), e24, ti_sI_ne (by omega), ti_sI_ne (by omega), ti_sI_ne (by omega), ti_sI_ne (by omega), ti_sI_eq]
  have v77 : sI m2 77 (uA m) = Int32.ofNat d2 := by rw [n24 (by omega) (by omega), e24, ti_sI_ne (by omega), ti_sI_ne (by omega), ti_sI_ne (by omega), ti_sI_eq]
  have v78 : sI m2 78 (uA m) = Int32.ofNat vn := by rw [n24 (by omega) (by omega), e24, ti_sI_ne (by omega), ti_sI_ne (by omega), ti_sI_eq]
  have v80 : sI m2 80 (uA m) = 0 := by rw [n24 (by omega) (by omega), e24, ti_sI_ne (by omega), ti_sI_eq]
  have v83 : sI m2 83 (uA m) = -1 := by rw [n24 (by omega) (by omega), e24, ti_sI_eq]
  have v84 : ∀ f, f < 3 → sI m2 84 (3 * uA m + f) = -1 := fun f hf => by
    rw [e2, ti_sI_ne (by omega)]
    exact shM f hf
  have v19 : sI m2 57 19 = Int32.ofNat (uA m + 1) := by rw [e2, ti_sI_eq]
  have ti2 : TI Tm m2 := by
    rw [e2]
    exact TIwI ti t57 (fun lo hi e => by cases e; exact rn _ _ (by omega) (by omega)) (fun n lo hi e => by cases e) (by omega)
  have uA2 : uA m2 = uA m + 1 := by
    have : nn (sI m2 57 19) = uA m + 1 := by
      rw [v19]
      exact nn_o (by omega)
    exact this
  have nV2 : nV m2 = nV m := by
    unfold nV
    rw [o2 (by omega) (by omega) (by omega)]
  have nS2 : nS m2 = nS m := by
    unfold nS
    rw [o2 (by omega) (by omega) (by omega)]
  -- the full relation, the new attempt masked
  obtain ⟨St, est⟩ : ∃ St, St = wI S16 (sN S) 5 2 := ⟨_, rfl⟩
  obtain ⟨mt, emt⟩ : ∃ mt, mt = wI m2 80 (uA m) 2 := ⟨_, rfl⟩
  have oSt : ∀ {k j : Nat}, ¬ (k = sN S ∧ j = 5) → sI St k j = sI S16 k j := fun z => by
    rw [est]
    exact ti_sI_ne z
  have omt : ∀ {q j : Nat}, ¬ (q = 80 ∧ j = uA m) → sI mt q j = sI m2 q j := fun z => by
    rw [emt]
    exact ti_sI_ne z
  have rSt : sR St = sR S16 := by rw [est, sR_wI]
  have elt : ∀ l k, lel St l k = lel S16 l k := fun l k => by
    unfold lel
    rw [rSt]
  have uAt : uA mt = uA m + 1 := by
    rw [← uA2]
    unfold uA
    rw [omt (by omega)]
  have nVt : nV mt = nV m := by
    rw [← nV2]
    unfold nV
    rw [omt (by omega)]
  have nSt : nS mt = nS m := by
    rw [← nS2]
    unfold nS
    rw [omt (by omega)]
  have kS : ∀ {cs : List Nat}, cs.all (fun z => !([53100, 2102, 52101, 2100] : List Nat).contains z) = true → ¬ 4205 ∈ cs → Kp T T25 cs S St := fun h1 h2 => by
    rw [est]
    exact Kp_tr (Kp_of g25 h1) (Kp_wI _ tz (by rw [show cl 42 5 = 4205 by decide]; exact h2))
  have kM : Kp Tm Tm ma_BEG m mt := by
    have k24 : Kp Tm Tm ma_BEG m m24 := by
      rw [e24]
      exact Kp_tr (Kp_wA _ t75 (by decide) (by decide)) (Kp_tr (Kp_wA _ t76 (by decide) (by decide)) (Kp_tr (Kp_wA _ t77 (by decide) (by decide)) (Kp_tr (Kp_wA _ t78 (by decide) (by decide)) (Kp_tr (Kp_wA _ t80 (by decide) (by decide)) (Kp_wA _ t83 (by decide) (by decide))))))
    have kM' : Kp Tm Tm ma_BEG m24 M := ⟨fun _ _ => rfl, fun k j h1 h2 => oM k j (fun z => by
      rw [z.1, t84, show cl 129 j = 12900 from if_neg (by decide)] at h2
      exact absurd h2 (by decide)), fun k j h1 h2 => by rw [rM]⟩
    rw [emt, e2]
    exact Kp_tr k24 (Kp_tr kM' (Kp_tr (Kp_wI _ t57 (by decide)) (Kp_wA _ t80 (by decide) (by decide))))
  have ltA : ∀ a, a < uA m → lel S 18 a < sN S := fun a ha => lt (tyA b ha) (by decide)
  have tA : ∀ a, a < uA m → T (lel S 18 a) = 42 := fun a ha => tyA b ha
  have IA : ∀ a j, a < uA m → sI St (lel S 18 a) j = sI S (lel S 18 a) j := fun a j ha => by
    have := ltA a ha
    rw [oSt (by omega)]
    exact fI _ j this (fun z => by
      have := tA a ha
      rw [z.1, t18] at this
      exact absurd this (by decide))
  have RT' : ∀ {k τ : Nat} (j : Nat), T k = τ → τ ≠ 0 → kd τ ≠ 1 → τ ≠ 31 → τ ≠ 21 → sR St k j = sR S k j := fun {k τ} j hk h0 h1 h2 h3 => by
    rw [rSt]
    exact fR k j (lt hk h0) (fun z => h3 (by rw [← hk, z.1, t18])) (fun z => dne hk h0 h1 h2 z.1)
  have mnA : ∀ a, a < uA m → mn St (lel S 18 a) 4 = mn S (lel S 18 a) 4 ∧ T (mn S (lel S 18 a) 4) = 48 := fun a ha => by
    obtain ⟨x, x1, x2, x3, x4⟩ := tyM (j := 4) hT.1 (tA a ha) rfl
    refine ⟨?_, x4⟩
    unfold mn
    rw [RT' 4 (tA a ha) (by decide) (by decide) (by decide) (by decide), x1]
    show (sR St x 0).getD 0 = (sR S x 0).getD 0
    rw [RT' 0 x2 (by decide) (by decide) (by decide) (by decide)]
  have mnS : ∀ s, s < nS m → mn St (lel S 19 s) 3 = mn S (lel S 19 s) 3 ∧ T (mn S (lel S 19 s) 3) = 48 := fun s hs => by
    obtain ⟨x, x1, x2, x3, x4⟩ := tyM (j := 3) hT.1 (tyS b hs) rfl
    refine ⟨?_, x4⟩
    unfold mn
    rw [RT' 3 (tyS b hs) (by decide) (by decide) (by decide) (by decide), x1]
    show (sR St x 0).getD 0 = (sR S x 0).getD 0
    rw [RT' 0 x2 (by decide) (by decide) (by decide) (by decide)]
  have mnN : mn St (sN S) 4 = sN S + 2 := by
    unfold mn
    rw [rSt, gR' 4, at44]
    show (sR S16 (sN S + 1) 0).getD 0 = _
    rw [gR1]
    rfl
  have elt' : ∀ a, a < uA m → lel St 18 a = lel S 18 a := fun a ha => (elt 18 a).trans (elo a ha)
  have eltn : lel St 18 (uA m) = sN S := (elt 18 _).trans eln
  have cAtt' : cAtt St mt := by
    refine ⟨⟨?_, ?_, ?_⟩, fun a ha => ?_⟩
    · rw [omt (by omega), v19, nn_o (by omega)]
      omega
    · rw [omt (by omega), v19, nn_o (by omega)]
    · rw [omt (by omega), v19, oSt (by omega)]
      exact p2
    · rw [uAt] at ha
      rw [uAt, nVt]
      by_cases c : a = uA m
      · subst c
        rw [eltn]
        refine ⟨fun x hx e => ?_, ⟨i, i6, ?_, (omt (by omega)).trans v75⟩, ⟨d1, l1, ?_, (omt (by omega)).trans v76⟩, ⟨d2, l2, ?_, (omt (by omega)).trans v77⟩, ⟨vn, vlt, ?_, (omt (by omega)).trans v78⟩, ⟨sN S + 1, ?_⟩⟩
        · by_cases z : x = uA m
          · exact z
          · rw [elt' x (by omega)] at e
            have := ltA x (by omega)
            omega
        · rw [rSt, gR' 0]
          exact at40
        · rw [oSt (by omega), gI' 1]
          exact at41
        · rw [oSt (by omega), gI' 2]
          exact at42
        · rw [rSt, gR' 3, at43, elt, elV vn vlt]
        · rw [rSt, gR' 4]
          exact at44
      · have ha : a < uA m := by omega
        obtain ⟨y1, ⟨i', y2, y3, y4⟩, ⟨x1, y5, y6, y7⟩, ⟨x2, y8, y9, y10⟩, ⟨v, y11, y12, y13⟩, ⟨x, y14⟩⟩ := h.Att.2 a ha
        rw [elt' a ha, IA a 1 ha, IA a 2 ha, RT' 0 (tA a ha) (by decide) (by decide) (by decide) (by decide), RT' 3 (tA a ha) (by decide) (by decide) (by decide) (by decide), RT' 4 (tA a ha) (by decide) (by decide) (by decide) (by decide), omt (by omega), omt (by omega), omt (by omega), omt (by omega), o2 (by omega) (by omega) (by omega), o2 (by omega) (by omega) (by omega), o2 (by omega) (by omega) (by omega), o2 (by omega) (by omega) (by omega)]
        refine ⟨fun q hq e => ?_, ⟨i', y2, y3, y4⟩, ⟨x1, y5, y6, y7⟩, ⟨x2, y8, y9, y10⟩, ⟨v, y11, by rw [elt, elV v y11]; exact y12, y13⟩, ⟨x, y14⟩⟩
        by_cases z : q = uA m
        · rw [z, eltn] at e
          have := ltA a ha
          omega
        · rw [elt' q (by omega)] at e
          exact y1 q (by omega) e
  have cAst' : cAst St mt := by
    refine ⟨fun a ha ha2 => ?_, fun a ha => ?_⟩
    · rw [uAt] at ha
      rw [omt (by omega), o2 (by omega) (by omega) (by omega)]
      exact h.Ast.1 a (by omega) ha2
    · rw [uAt] at ha
      by_cases c : a = uA m
      · subst c
        rw [eltn]
        have m80 : sI mt 80 (uA m) = 2 := by rw [emt, ti_sI_eq]
        refine ⟨?_, ?_, ?_, fun q => ?_⟩
        · rw [m80, est, ti_sI_eq]
        · rw [oSt (by omega), gI' 8, at8, z3.1, omt (by omega), o2 (by omega) (by omega) (by omega)]
          exact (h.Ast.1 _ (Nat.le_refl _) nA60).symm
        · rw [oSt (by omega), gI' 9, at9, omt (by omega), v83]
        · rw [m80] at q
          exact absurd q (by decide)
      · have ha : a < uA m := by omega
        rw [elt' a ha, IA a 5 ha, IA a 6 ha, IA a 7 ha, IA a 8 ha, IA a 9 ha, omt (q := 80) (by omega), omt (q := 82) (by omega), omt (q := 83) (by omega), omt (q := 79) (by omega), omt (q := 81) (by omega), omt (q := 78) (by omega), omt (q := 69) (by omega), o2 (q := 80) (by omega) (by omega) (by omega), o2 (q := 82) (by omega) (by omega) (by omega), o2 (q := 83) (by omega) (by omega) (by omega), o2 (q := 79) (by omega) (by omega) (by omega), o2 (q := 81) (by omega) (by omega) (by omega), o2 (q := 78) (by omega) (by omega) (by omega), o2 (q := 69) (by omega) (by omega) (by omega)]
        exact h.Ast.2 a ha
  have wI48 : ∀ {k : Nat} (f : Nat), T k = 48 → sI St k f = sI S k f := fun {k} f hk => by
    have := lt hk (by decide)
    rw [oSt (by omega)]
    exact fI _ f this (fun z => by
      rw [z.1, t18] at hk
      exact absurd hk (by decide))
  have cAsh' : cAsh St mt := fun a ha f hf => by
    rw [uAt] at ha
    by_cases c : a = uA m
    · subst c
      rw [eltn, mnN, oSt (by omega), gI2 f hf, omt (by omega), v84 f hf]
      exact ⟨rfl, Or.inl rfl⟩
    · have ha : a < uA m := by omega
      rw [elt' a ha, (mnA a ha).1, wI48 f (mnA a ha).2, omt (by omega), o2 (by omega) (by omega) (by omega)]
      exact h.Ash a ha f hf
  have lt48 : ∀ {k : Nat}, T k = 48 → k < sN S := fun hk => lt hk (by decide)
  have cMin' : cMin St mt := by
    refine ⟨fun a c ha hc e => ?_, fun a c ha hc e => ?_, fun a c ha hc => ?_⟩
    · rw [uAt] at ha hc
      by_cases z1 : a = uA m
      · by_cases z2 : c = uA m
        · omega
        · have hc : c < uA m := by omega
          have := lt48 (mnA c hc).2
          rw [z1, eltn, mnN, elt' c hc, (mnA c hc).1] at e
          omega
      · have ha : a < uA m := by omega
        by_cases z2 : c = uA m
        · have := lt48 (mnA a ha).2
          rw [z2, eltn, mnN, elt' a ha, (mnA a ha).1] at e
          omega
        · have hc : c < uA m := by omega
          rw [elt' a ha, elt' c hc, (mnA a ha).1, (mnA c hc).1] at e
          exact h.Min.1 a c ha hc e
    · rw [nSt] at ha hc
      rw [elt, elt, elS a ha, elS c hc, (mnS a ha).1, (mnS c hc).1] at e
      exact h.Min.2.1 a c ha hc e
    · rw [uAt] at ha
      rw [nSt] at hc
      rw [elt 19, elS c hc, (mnS c hc).1]
      by_cases z1 : a = uA m
      · have := lt48 (mnS c hc).2
        rw [z1, eltn, mnN]
        omega
      · have ha : a < uA m := by omega
        rw [elt' a ha, (mnA a ha).1]
        exact h.Min.2.2 a c ha hc
  have hFt : FR St mt := FA_BEG hT hm h (kS (by decide +kernel) (by decide)) kM cAtt' cAst' cAsh' cMin'
  have s5 : same5 m m2 := fun p j hp => o2 (by omega) (by omega) (by omega)
  have way := h_way hT25 ti2 (a := uA m) (by rw [uA2]; omega) (by rw [eln, ← est, ← emt]; exact hFt) (by rw [eln, gI' 5]; exact at5) v80 (SR_same sr s5) (AC_same ac s5) (st := 0) (fun v n _ n1 _ _ _ => Or.inr ⟨0, by omega, rfl⟩)
  rw [eln] at way
  refine l_of st_rv (l_bd (fun S19 e19 => m_bd (fun m4 f4 => ?_)))
  obtain ⟨⟨pA, pK, pS⟩, gf⟩ := way _ _ e19 f4
  obtain ⟨S19', h19, T39, g39⟩ := t_K_goOn hT25.1 (a0 := some 4) (a1 := some (sN S)) (a2 := 0) ⟨_, rfl, hT25.1.t9.2.2.2.2.1, by decide⟩ ⟨_, rfl, tz, by decide⟩
  rw [e19] at h19
  cases h19
  have k19 := K4F_of g39.1
  have s19 : sI S19 18 2 = Int32.ofNat (uA m + 1) := by
    have t18' : T25 18 = 21 := (hT25.1.t6 1 (by decide)).1
    rw [g39.fI 18 2 (by rw [t18']; decide) (by rw [t18']; decide +kernel)]
    exact p2
  refine l_of (st_gRe (k19.1 7 18 rfl)) (l_of st_rv (l_of st_size ?_))
  rw [s19, show Int32.ofNat (uA m + 1) - 1 = Int32.ofNat (uA m) by rw [← o1]; exact Int32.add_sub_cancel _ _]
  have bt' : BB T25 Tm St mt := FR_BB ⟨by
    rw [est]
    exact TIwI hT25.1 tz (fun lo hi e => by cases e) (fun n lo hi e => by cases e) (by omega), hT25.2⟩ (by
    rw [emt]
    exact TIwI ti2 t80 (fun lo hi e => by cases e) (fun n lo hi e => by cases e; decide) (by omega)) hFt
  have kS2 : Kp T25 T39 k_cAtt St S19 := by
    rw [est]
    exact Kp_tr (Kp_rev (Kp_wI _ tz (by decide))) (Kp_of g39 (by decide +kernel))
  have cA1 := cAtt_fr bt' cAtt' kS2 (Kp_rf Tm _ mt)
  refine h2_ret ⟨AN_v ((gf _ _ (by omega) (by omega)).trans ((o2 (by omega) (by omega) (by omega)).trans e82)), pK, ?_, Ast_of pA (fun _ => ?_), pS⟩
  · have gq : ∀ q j, (q = 75 ∨ q = 76 ∨ q = 77 ∨ q = 78 ∨ (q = 57 ∧ (j = 9 ∨ j = 19))) → sI m4 q j = sI mt q j := fun q j hq => (gf q j (by omega) (by omega)).trans (omt (by omega)).symm
    have uA4 : uA m4 = uA mt := by
      unfold uA
      rw [gq 57 19 (by omega)]
    have nV4 : nV m4 = nV mt := by
      unfold nV
      rw [gq 57 9 (by omega)]
    refine ⟨⟨?_, ?_, ?_⟩, fun a ha => ?_⟩
    · rw [gq 57 19 (by omega)]
      exact cA1.1.1
    · rw [gq 57 19 (by omega)]
      exact cA1.1.2.1
    · rw [gq 57 19 (by omega)]
      exact cA1.1.2.2
    · rw [uA4] at ha
      rw [uA4, nV4, gq 75 a (by omega), gq 76 a (by omega), gq 77 a (by omega), gq 78 a (by omega)]
      exact cA1.2 a ha
  · rw [gf 82 _ (by omega) (by omega), o2 (by omega) (by omega) (by omega), h.Ast.1 _ (Nat.le_refl _) nA60]
    decide
end
