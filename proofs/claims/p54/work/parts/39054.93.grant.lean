/-! ===== where the way ends: denied, asked, granted ===== -/
theorem Kp_wA {T : Nat → Nat} {cs : List Nat} {S : AS} {p j τ : Nat} (v : Int32) (hp : T p = τ) (hd : 40 ≤ kd τ) (hc : ¬ 100 * τ ∈ cs) : Kp T T cs S (wI S p j v) := Kp_wI v hp (by rw [show cl τ j = 100 * τ from if_neg (by omega)]; exact hc)
theorem Kp_rev {T : Nat → Nat} {cs : List Nat} {S S' : AS} (h : Kp T T cs S S') : Kp T T cs S' S := ⟨fun _ _ => rfl, fun k j h1 h2 => (h.2.1 k j h1 h2).symm, fun k j h1 h2 => (h.2.2 k j h1 h2).symm⟩
def cAsm (a : Nat) (S m : AS) : Prop := (∀ b, uA m ≤ b → b < 60 → sI m 82 b = 0) ∧ ∀ b, b < uA m → sI S (lel S 18 b) 5 = sI m 80 b ∧ sI S (lel S 18 b) 8 = sI m 82 b ∧ sI S (lel S 18 b) 9 = sI m 83 b ∧ (sI m 80 b = 0 → sI S (lel S 18 b) 6 = sI m 79 b ∧ sI S (lel S 18 b) 7 = sI m 81 b ∧ (b ≠ a → 0 ≤ (sI m 82 b).toInt ∧ (sI m 82 b).toInt ≤ 11) ∧ 0 ≤ (sI m 81 b).toInt ∧ (sI m 81 b).toInt < (sI m 69 (12 * nn (sI m 78 b) + nn (sI m 79 b))).toInt)
theorem Asm_of {S m : AS} {a : Nat} (h : cAst S m) : cAsm a S m := ⟨h.1, fun b hb => by
  obtain ⟨h1, h2, h3, h4⟩ := h.2 b hb
  exact ⟨h1, h2, h3, fun q => ⟨(h4 q).1, (h4 q).2.1, fun _ => (h4 q).2.2.1, (h4 q).2.2.2⟩⟩⟩
theorem Ast_of {S m : AS} {a : Nat} (h : cAsm a S m) (h82 : sI m 80 a = 0 → 0 ≤ (sI m 82 a).toInt ∧ (sI m 82 a).toInt ≤ 11) : cAst S m := ⟨h.1, fun b hb => by
  obtain ⟨h1, h2, h3, h4⟩ := h.2 b hb
  refine ⟨h1, h2, h3, fun q => ⟨(h4 q).1, (h4 q).2.1, ?_, (h4 q).2.2.2⟩⟩
  by_cases c : b = a
  · subst c
    exact h82 q
  · exact (h4 q).2.2.1 c⟩
/-- what of the reference is as it was -/
def GFm (m m' : AS) : Prop := ∀ q j, (q < 62 ∨ (63 < q ∧ q < 79) ∨ q = 82 ∨ q = 84) → ¬ (q = 57 ∧ (j = 30 ∨ j = 77 ∨ j = 81)) → sI m' q j = sI m q j
def P_go (a : Nat) (S m : AS) : Prop := cAsm a S m ∧ cKn S m ∧ P_ses S m
theorem FR_go {S m : AS} (a : Nat) (h : FR S m) : P_go a S m := ⟨Asm_of h.Ast, h.Kn, FR_ses h⟩
/-- the clause of the attempt itself -/
def ASO (S m : AS) (x a : Nat) : Prop := sI S x 5 = sI m 80 a ∧ sI S x 8 = sI m 82 a ∧ sI S x 9 = sI m 83 a ∧ (sI m 80 a = 0 → sI S x 6 = sI m 79 a ∧ sI S x 7 = sI m 81 a ∧ 0 ≤ (sI m 81 a).toInt ∧ (sI m 81 a).toInt < (sI m 69 (12 * nn (sI m 78 a) + nn (sI m 79 a))).toInt)
theorem asm_mk {S m S' m' : AS} {a : Nat} (hA : cAsm a S m) (en : uA m' = uA m) (ha : a < uA m) (el : ∀ b, b < uA m → lel S' 18 b = lel S 18 b) (oS : ∀ b j, b < uA m → b ≠ a → sI S' (lel S 18 b) j = sI S (lel S 18 b) j) (oM : ∀ q j, (q = 79 ∨ q = 80 ∨ q = 81 ∨ q = 82 ∨ q = 83) → j ≠ a → sI m' q j = sI m q j) (o78 : ∀ j, sI m' 78 j = sI m 78 j) (o69 : ∀ j, sI m' 69 j = sI m 69 j) (own : ASO S' m' (lel S 18 a) a) : cAsm a S' m' := by
  refine ⟨fun b hb hb2 => ?_, fun b hb => ?_⟩
  · rw [en] at hb
    rw [oM 82 b (by omega) (by omega)]
    exact hA.1 b hb hb2
  · rw [en] at hb
    rw [el b hb]
    by_cases c : b = a
    · subst c
      obtain ⟨o1, o2, o3, o4⟩ := own
      exact ⟨o1, o2, o3, fun q => ⟨(o4 q).1, (o4 q).2.1, fun z => absurd rfl z, (o4 q).2.2⟩⟩
    · rw [oS b 5 hb c, oS b 8 hb c, oS b 9 hb c, oS b 6 hb c, oS b 7 hb c, oM 80 b (by omega) c, oM 82 b (by omega) c, oM 83 b (by omega) c, oM 79 b (by omega) c, oM 81 b (by omega) c, o78, o69]
      exact hA.2 b hb
theorem ast_same {S m S' m' : AS} (hA : cAst S m) (en : uA m' = uA m) (el : ∀ b, b < uA m → lel S' 18 b = lel S 18 b) (oS : ∀ b j, b < uA m → sI S' (lel S 18 b) j = sI S (lel S 18 b) j) (oM : ∀ q j, (q = 79 ∨ q = 80 ∨ q = 81 ∨ q = 82 ∨ q = 83 ∨ q = 78 ∨ q = 69) → sI m' q j = sI m q j) : cAst S' m' := by
  refine ⟨fun b hb hb2 => ?_, fun b hb => ?_⟩
  · rw [en] at hb
    rw [oM 82 b (by omega)]
    exact hA.1 b hb hb2
  · rw [en] at hb
    rw [el b hb, oS b 5 hb, oS b 8 hb, oS b 9 hb, oS b 6 hb, oS b 7 hb, oM 80 b (by omega), oM 82 b (by omega), oM 83 b (by omega), oM 79 b (by omega), oM 81 b (by omega), oM 78 b (by omega), oM 69 _ (by omega)]
    exact hA.2 b hb
section
variable {T Tm : Nat → Nat} {S m : AS}
/-- the attempt's own cells are written (and what is known of persons, if so): the full relation again -/
theorem FR_own {S' m' : AS} {a : Nat} (hT : TV T S) (hm : TI Tm m) (hF : FR S m) (ha : a < uA m) (kS : Kp T T ka_AK S S') (kM : Kp Tm Tm ma_AK m m') (xKn : cKn S' m') (oS : ∀ j b, b < uA m → b ≠ a → sI S' (lel S 18 b) j = sI S (lel S 18 b) j) (oM : ∀ q j, (q = 79 ∨ q = 80 ∨ q = 81 ∨ q = 82 ∨ q = 83) → j ≠ a → sI m' q j = sI m q j) (own : ASO S' m' (lel S 18 a) a) (h82 : sI m' 80 a = 0 → 0 ≤ (sI m' 82 a).toInt ∧ (sI m' 82 a).toInt ≤ 11) : FR S' m' := by
  have b := FR_BB hT hm hF
  refine FA_AK hT hm hF kS kM xKn (Ast_of (a := a) (asm_mk (Asm_of hF.Ast) (enA b kM (by decide)) ha (fun x hx => lA b kS (by decide) (by decide) hx) (fun x j hx hxa => oS j x hx hxa) oM (fun j => kM.M hm (j := 23) (p := 78) rfl (by decide) (by decide) j) (fun j => kM.M hm (j := 13) (p := 69) rfl (by decide) (by decide) j) own) h82)
/-- the reference's loop: what was shown is the session's, device and place are known -/
theorem p_grM_L {m : AS} {a n i d1 d2 : Nat} (hmf : MF m) (ha : a < 60) (hn : n < 60) (hi : i < 6) (h1 : d1 < 6) (h2 : d2 < 6) (e83 : sI m 83 a = Int32.ofNat n) (e76 : sI m 76 a = Int32.ofNat d1) (e77 : sI m 77 a = Int32.ofNat d2) : ∀ (k j fu : Nat) (M : AS), j + k = 3 → sR M = sR m → (∀ q c, ¬ (q = 90 ∧ 3 * n ≤ c ∧ c < 3 * n + 3) → sI M q c = sI m q c) → (∀ f, f < j → sI M 90 (3 * n + f) = sI m 84 (3 * a + f)) →
    Hp (f_M_grant_L45 fu M (some 57) (Int32.ofNat a) (Int32.ofNat i) (Int32.ofNat j)) (fun q => ∃ M', (∀ q c, ¬ (q = 90 ∧ 3 * n ≤ c ∧ c < 3 * n + 3) → sI M' q c = sI m q c) ∧ (∀ f, f < 3 → sI M' 90 (3 * n + f) = sI m 84 (3 * a + f)) ∧ q = wI (wI M' 62 (6 * i + d1) 1) 63 (6 * i + d2) 1)
  | _, _, 0, _, _, _, _, _ => p_0
  | 0, j, fu + 1, M, hk, r1, r3, r4 => by
    unfold f_M_grant_L45 f_M_grant_C45
    have e : j = 3 := by omega
    subst e
    have hM := MF_e hmf r1
    have ai : (Int32.ofNat a).toNatClampNeg = a := oc (by omega)
    refine p_of (st_T (by decide)) (p_of (st_gRe (hM 5 62 rfl)) (p_of (st_gRe (hM 21 76 rfl)) (p_of (st_aIe ai ((r3 _ _ (by omega)).trans e76)) (p_of (st_bZe (ix6 i hi d1 h1)) (p_of (st_gRe (v := some 63) (hM 6 63 rfl)) (p_of (st_gRe (v := some 77) (hM 22 77 rfl)) (p_of (st_aIe (v := Int32.ofNat d2) ai ((ti_sI_ne (by omega)).trans ((r3 _ _ (by omega)).trans e77))) (p_of (st_bZe (ix6 i hi d2 h2)) (p_ret ⟨M, r3, r4, rfl⟩)))))))))
  | k + 1, j, fu + 1, M, hk, r1, r3, r4 => by
    unfold f_M_grant_L45 f_M_grant_C45
    have hM := MF_e hmf r1
    have ai : (Int32.ofNat a).toNatClampNeg = a := oc (by omega)
    refine p_of (st_F (fun q => by have := (ole (a := 3) (b := j) (by decide) (by omega)).mp q; omega)) (p_of (st_gRe (hM 36 90 rfl)) (p_of (st_gRe (hM 28 83 rfl)) (p_of (st_aIe ai ((r3 _ _ (by omega)).trans e83)) (p_of (st_gRe (hM 29 84 rfl)) (p_of (st_aIe (v := sI m 84 (3 * a + j)) (ix3 a ha j (by omega)) (r3 _ _ (by omega))) (p_of (st_bIe (ix3 n hn j (by omega))) (p_of st_val ?_)))))))
    rw [o1]
    refine p_grM_L hmf ha hn hi h1 h2 e83 e76 e77 k (j + 1) fu _ (by omega) r1 (fun q c z => ?_) (fun f hf => ?_)
    · rw [ti_sI_ne (by omega)]
      exact r3 q c z
    · by_cases z : f = j
      · subst z
        rw [ti_sI_eq]
      · rw [ti_sI_ne (by omega)]
        exact r4 f (by omega)
theorem h_gfin (hT : TV T S) (hm : TI Tm m) {a p v n : Nat} (ha : a < uA m) (hF : FR (wI S (lel S 18 a) 5 2) (wI m 80 a 2)) (e5 : sI S (lel S 18 a) 5 = 0) (e80 : sI m 80 a = 0) (m78 : sI m 78 a = Int32.ofNat v) (f : FLR S m p v n) (r3 : sR S (lel S 18 a) 3 = some p) (hB : ∀ k, k < n → sI m 67 (12 * v + k) = 0 → 1 ≤ (sI m 69 (12 * v + k)).toInt)
    {st at' : Int32} (hst : STP2 m v n st at') : H2 (f_K_goOn_B44 S (some 4) (some (lel S 18 a)) st) (f_M_go_B77 m (some 57) (Int32.ofNat a) st at') (fun S' m' => P_go a S' m' ∧ GFm m m') := by
  obtain ⟨x, ex⟩ : ∃ x, x = lel S 18 a := ⟨_, rfl⟩
  rw [← ex] at hF e5 r3 ⊢
  obtain ⟨St, est⟩ : ∃ St, St = wI S x 5 2 := ⟨_, rfl⟩
  obtain ⟨mt, emt⟩ : ∃ mt, mt = wI m 80 a 2 := ⟨_, rfl⟩
  rw [← est, ← emt] at hF
  have k4 := K4F_of hT.1
  have hmf := MF_of hm
  have f12 := f.1.2
  have v8 := f.2.1
  have oSt : ∀ {k j : Nat}, ¬ (k = x ∧ j = 5) → sI St k j = sI S k j := fun z => by
    rw [est]
    exact ti_sI_ne z
  have omt : ∀ {q j : Nat}, ¬ (q = 80 ∧ j = a) → sI mt q j = sI m q j := fun z => by
    rw [emt]
    exact ti_sI_ne z
  have rSt : sR St = sR S := by rw [est, sR_wI]
  have rmt : sR mt = sR m := by rw [emt, sR_wI]
  have elt : ∀ l i, lel St l i = lel S l i := fun l i => by
    unfold lel
    rw [rSt]
  have s5 : sI St x 5 = 2 := by rw [est, ti_sI_eq]
  have m80 : sI mt 80 a = 2 := by rw [emt, ti_sI_eq]
  have uAt : uA mt = uA m := by
    unfold uA
    rw [omt (by omega)]
  have nSt : nS mt = nS m := by
    unfold nS
    rw [omt (by omega)]
  have a60 : a < 60 := by
    have := hF.Att.1.1
    rw [omt (by omega)] at this
    unfold uA at ha
    omega
  have ai : (Int32.ofNat a).toNatClampNeg = a := oc (by omega)
  have s18 : sI S 18 2 = Int32.ofNat (uA m) := by
    obtain ⟨z1, z2, z3⟩ := hF.Att.1
    rw [oSt (by omega), omt (by omega)] at z3
    rw [omt (by omega)] at z2
    exact z3.trans z2
  have tx : T x = 42 := by
    have := (lel_at hT.1 (q := 1) (i := a) (by decide) (by
      show (a : Int) < (sI S 18 2).toInt
      have := hF.Att.1.1
      rw [omt (by omega)] at this
      have h60 : uA m ≤ 60 := this
      rw [s18, oi (by omega)]
      omega)).1
    rw [ex]
    exact this
  have hTt : TV T St := ⟨by
    rw [est]
    exact TIwI hT.1 tx (fun lo hi e => by cases e) (fun n lo hi e => by cases e) (by omega), hT.2⟩
  obtain ⟨-, t79, -⟩ := md_at hm (j := 24) (p := 79) rfl rfl
  obtain ⟨-, t80, -⟩ := md_at hm (j := 25) (p := 80) rfl rfl
  obtain ⟨-, t81, -⟩ := md_at hm (j := 26) (p := 81) rfl rfl
  obtain ⟨-, t83, -⟩ := md_at hm (j := 28) (p := 83) rfl rfl
  obtain ⟨-, t62, -⟩ := md_at hm (j := 5) (p := 62) rfl rfl
  obtain ⟨-, t63, -⟩ := md_at hm (j := 6) (p := 63) rfl rfl
  obtain ⟨-, t67, -⟩ := md_at hm (j := 11) (p := 67) rfl rfl
  have hmt : TI Tm mt := by
    rw [emt]
    exact TIwI hm t80 (fun lo hi e => by cases e) (fun n lo hi e => by cases e; decide) (by omega)
  have bt' := FR_BB hTt hmt hF
  obtain ⟨inj, ⟨i, i6, r0, e75⟩, ⟨d1, l1, r1, e76⟩, ⟨d2, l2, r2, e77⟩, -, -⟩ := hF.Att.2 a (by rw [uAt]; exact ha)
  rw [elt, ← ex, rSt] at r0
  rw [elt, ← ex, oSt (by omega)] at r1 r2
  rw [omt (by omega)] at e75 e76 e77
  obtain ⟨y, y1, y2, y3, y4⟩ := tyM (j := 4) hT.1 tx rfl
  have xb : ∀ b, b < uA m → b ≠ a → lel S 18 b ≠ x := fun b hb hba z => hba (inj b (by rw [uAt]; exact hb) (by rw [elt, elt, ← ex]; exact z))
  have rst : In (-1) 11 st := by
    rcases hst with rfl | ⟨k, k1, rfl, -⟩
    · decide
    · exact ⟨by rw [oi (by omega)]; omega, by rw [oi (by omega)]; omega⟩
  -- the reference's first two writes
  obtain ⟨m1, em1⟩ : ∃ m1, m1 = wI (wI m 79 a st) 81 a 0 := ⟨_, rfl⟩
  have om1 : ∀ {q j : Nat}, ¬ ((q = 79 ∨ q = 81) ∧ j = a) → sI m1 q j = sI m q j := fun z => by
    rw [em1, ti_sI_ne (by omega), ti_sI_ne (by omega)]
  have m179 : sI m1 79 a = st := by rw [em1, ti_sI_ne (by omega), ti_sI_eq]
  have m181 : sI m1 81 a = 0 := by rw [em1, ti_sI_eq]
  have rm1 : sR m1 = sR m := by rw [em1, sR_wI, sR_wI]
  have lm1 : sL m1 = sL m := by rw [em1]; rfl
  have hm1 : MF m1 := MF_e hmf rm1
  have tm1 : TI Tm m1 := by
    rw [em1]
    exact TIwI (TIwI hm t79 (fun lo hi e => by cases e) (fun n lo hi e => by cases e; exact rst) (by omega)) t81 (fun lo hi e => by cases e) (fun n lo hi e => by cases e) (by omega)
  have kMt : ∀ {cs : List Nat}, ¬ 12500 ∈ cs → Kp Tm Tm cs mt m := fun h => by
    rw [emt]
    exact Kp_rev (Kp_wA _ t80 (by decide) h)
  have kM1 : ∀ {cs : List Nat}, ¬ 12400 ∈ cs → ¬ 12600 ∈ cs → Kp Tm Tm cs m m1 := fun h1 h2 => by
    rw [em1]
    exact Kp_tr (Kp_wA _ t79 (by decide) h1) (Kp_wA _ t81 (by decide) h2)
  have kSt : ∀ {cs : List Nat}, ¬ 4205 ∈ cs → Kp T T cs St S := fun h => by
    rw [est]
    exact Kp_rev (Kp_wI _ tx (by rw [show cl 42 5 = 4205 by decide]; exact h))
  have o8 : sI S x 8 = sI m 82 a ∧ sI S x 9 = sI m 83 a := by
    obtain ⟨-, z2, z3, -⟩ := hF.Ast.2 a (by rw [uAt]; exact ha)
    rw [elt, ← ex, oSt (by omega), omt (by omega)] at z2 z3
    exact ⟨z2, z3⟩
  -- denied
  have deny : H2 (some (wI S x 5 2)) ((gR m1 39 25 (some 57)).bind fun v4 => (bI m1 v4 (Int32.ofNat a) (2 : Int32) 46).bind fun S5 => some S5) (fun S' m' => P_go a S' m' ∧ GFm m m') := by
    refine m_of (st_gRe (hm1 25 80 rfl)) (m_of (st_bIe ai) (h2_ret ⟨?_, fun q j z1 z2 => ?_⟩))
    · rw [← est]
      have kq : Kp Tm Tm ma_AK mt (wI m1 80 a 2) := Kp_tr (kMt (by decide)) (Kp_tr (kM1 (by decide) (by decide)) (Kp_wA _ t80 (by decide) (by decide)))
      refine FR_go a (FR_own (a := a) hTt hmt hF (by rw [uAt]; exact ha) (Kp_rf T _ St) kq (cKn_fr bt' hF.Kn (Kp_rf T _ St) (Kp_tr (kMt (by decide)) (Kp_tr (kM1 (by decide) (by decide)) (Kp_wA _ t80 (by decide) (by decide))))) (fun j b _ _ => rfl) (fun q j hq hj => ?_) ?_ (fun q => ?_))
      · rw [ti_sI_ne (by omega), om1 (by omega), omt (by omega)]
      · rw [elt, ← ex]
        refine ⟨s5.trans (ti_sI_eq _ _ _ _).symm, ?_, ?_, fun q => ?_⟩
        · rw [oSt (by omega), ti_sI_ne (by omega), om1 (by omega)]
          exact o8.1
        · rw [oSt (by omega), ti_sI_ne (by omega), om1 (by omega)]
          exact o8.2
        · rw [ti_sI_eq] at q
          exact absurd q (by decide)
      · rw [ti_sI_eq] at q
        exact absurd q (by decide)
    · rw [ti_sI_ne (by omega), om1 (by omega)]
  unfold f_K_goOn_B44 f_M_go_B77
  refine l_of (st_gRe r3) (l_of st_rv ?_)
  refine m_of (st_gRe (hmf 24 79 rfl)) (m_of (st_bIe ai) (m_of (st_gRe (v := some 81) (hmf 26 81 rfl)) (m_of (st_bIe ai) ?_)))
  rw [← em1]
  rcases hst with rfl | ⟨k, hk, rfl, rfl, hnt⟩
  · refine l_p2 p_kindN (fun u S' e => ?_)
    cases e
    refine l_of (st_F (by decide)) (l_of (st_F (by decide)) (l_of st_pI (m_of (st_T rfl) ?_)))
    unfold f_M_go_B108
    exact deny
  · have ix : (Int32.ofNat (12 * v + k)).toNatClampNeg = 12 * v + k := oc (by omega)
    refine l_p2 (p_kind f hk) (fun u S' e => ?_)
    cases e
    have k67 : In 0 6 (sI m 67 (12 * v + k)) := hm.t5 67 (12 * v + k) 108 0 6 (by rw [t67]; rfl) (by omega)
    have x67 : sI m1 67 (12 * v + k) = sI m 67 (12 * v + k) := om1 (by omega)
    refine m_of (st_F (fun q => ofNat_ne (o := k) (by omega) q.symm)) (m_of (st_gRe (hm1 11 67 rfl)) (m_of (st_aIe ix x67) ?_))
    by_cases c6 : sI m 67 (12 * v + k) = 6
    · rw [c6]
      refine l_of (st_F (by decide)) (l_of (st_F (by decide)) (l_of st_pI (m_of (st_T rfl) ?_)))
      unfold f_M_go_B108
      exact deny
    · refine m_of (st_F c6) (m_of (st_gRe (hm1 11 67 rfl)) (m_of (st_aIe ix x67) ?_))
      by_cases c5 : sI m 67 (12 * v + k) = 5
      · -- granted, if there is room
        refine l_of (st_F (by rw [c5]; decide)) (l_of (st_T c5) (m_of (st_T c5) ?_))
        obtain ⟨zS1, zS2, zS3⟩ := hF.Ses.1
        rw [omt (by omega)] at zS1 zS2
        rw [oSt (by omega), omt (by omega)] at zS3
        have N60 : nS m ≤ 60 := zS1
        have s19 : sI S 19 2 = Int32.ofNat (nS m) := zS3.trans zS2
        have m30 : sI m 57 30 = Int32.ofNat (nS m) := zS2
        have back : ∀ z : Option AS, (z.bind fun S15 => some S15) = z := fun z => by cases z <;> rfl
        refine l_of (st_gRe (k4.1 8 19 rfl)) (l_of st_rv (l_of st_size (m_of st_rv (m_of (st_eq (back _)) ?_))))
        rw [s19]
        unfold f_M_grant
        refine m_of (st_gIe (v := Int32.ofNat (nS m)) ((om1 (by omega)).trans m30)) ?_
        by_cases cN : nS m = 60
        · exact l_of (st_T (by rw [cN]; decide)) (l_of st_pI (m_of (st_T (by rw [cN]; decide)) deny))
        · have n60 : nS m < 60 := by omega
          refine l_of (st_F (fun q => by have := (ole (a := 60) (b := nS m) (by decide) (by omega)).mp q; omega)) (l_of st_rv (l_of (st_eq (back _)) (m_of (st_F (fun q => cN (oinj (by omega) (by decide) q))) ?_)))
          have PFS : PF S := by
            have := hF.PF
            unfold cPF PF at this
            rw [rSt] at this
            exact ⟨fun j hj => by
              obtain ⟨z1, z2, z3, z4, z5⟩ := this.1 j hj
              exact ⟨z1, z2, z3, z4, by rw [← z5]; exact (oSt (by omega)).symm⟩, this.2⟩
          have tPj : ∀ j, j < 6 → T (29 + 4 * j) = 13 := fun j hj => (kt_P hT.1 PFS hj).1
          have tP := tPj i i6
          have lt : ∀ {k τ : Nat}, T k = τ → τ ≠ 0 → k < sN S := fun hk h0 => (hT.1.t1 _ (by rw [hk]; exact h0)).1
          have t19 : T 19 = 22 := (hT.1.t6 2 (by decide)).1
          obtain ⟨t4, t5, t6, t7, -⟩ := kt4 hT.1
          have xne : ∀ {k τ : Nat}, T k = τ → τ ≠ 42 → x ≠ k := fun hk ht z => by
            rw [← z, tx] at hk
            exact ht hk.symm
          have xn := lt tx (by decide)
          have Pn := lt tP (by decide)
          have xP : x ≠ 29 + 4 * i := xne tP (by decide)
          have pxx : x ≠ mn S x 4 := xne y4 (by decide)
          have pxP : 29 + 4 * i ≠ mn S x 4 := fun z => by
            rw [← z, tP] at y4
            exact absurd y4 (by decide)
          obtain ⟨S1, eS1⟩ : ∃ S1, S1 = wI S x 5 1 := ⟨_, rfl⟩
          obtain ⟨u7, eu7⟩ : ∃ u7, u7 = sI S (29 + 4 * i) 7 ||| ((1 : Int32) <<< (Int32.ofNat d1 &&& 31)) := ⟨_, rfl⟩
          obtain ⟨u8, eu8⟩ : ∃ u8, u8 = sI S (29 + 4 * i) 8 ||| ((1 : Int32) <<< (Int32.ofNat d2 &&& 31)) := ⟨_, rfl⟩
          obtain ⟨S0, eS0⟩ : ∃ S0, S0 = wI (wI (wI S1 x 9 (Int32.ofNat (nS m))) (29 + 4 * i) 7 u7) (29 + 4 * i) 8 u8 := ⟨_, rfl⟩
          obtain ⟨m2, em2⟩ : ∃ m2, m2 = wI m1 80 a 1 := ⟨_, rfl⟩
          obtain ⟨m0, em0⟩ : ∃ m0, m0 = wI (wI (wI m2 83 a (Int32.ofNat (nS m))) 62 (6 * i + d1) 1) 63 (6 * i + d2) 1 := ⟨_, rfl⟩
          have oS1 : ∀ {k j : Nat}, ¬ (k = x ∧ j = 5) → sI S1 k j = sI S k j := fun z => by
            rw [eS1]
            exact ti_sI_ne z
          have oS0 : ∀ {k j : Nat}, ¬ (k = x ∧ (j = 5 ∨ j = 9)) → ¬ (k = 29 + 4 * i ∧ (j = 7 ∨ j = 8)) → sI S0 k j = sI S k j := fun z1 z2 => by
            rw [eS0, ti_sI_ne (by omega), ti_sI_ne (by omega), ti_sI_ne (by omega), oS1 (by omega)]
          have om2 : ∀ {q j : Nat}, ¬ ((q = 79 ∨ q = 80 ∨ q = 81) ∧ j = a) → sI m2 q j = sI m q j := fun z => by
            rw [em2, ti_sI_ne (by omega), om1 (by omega)]
          have om0 : ∀ {q j : Nat}, ¬ ((q = 79 ∨ q = 80 ∨ q = 81 ∨ q = 83) ∧ j = a) → ¬ (q = 62 ∧ j = 6 * i + d1) → ¬ (q = 63 ∧ j = 6 * i + d2) → sI m0 q j = sI m q j := fun z1 z2 z3 => by
            rw [em0, ti_sI_ne (by omega), ti_sI_ne (by omega), ti_sI_ne (by omega), om2 (by omega)]
          have r1' : sR S1 = sR S := by rw [eS1, sR_wI]
          have r0' : sR S0 = sR S := by rw [eS0, sR_wI, sR_wI, sR_wI, r1']
          have N1 : sN S1 = sN S := by rw [eS1]; rfl
          have N0 : sN S0 = sN S := by
            rw [eS0]
            exact N1
          have L1 : sL S1 = sL S := by rw [eS1]; rfl
          have L0 : sL S0 = sL S := by
            rw [eS0]
            exact L1
          have el0 : ∀ l j, lel S0 l j = lel S l j := fun l j => by
            unfold lel
            rw [r0']
          have m2r : sR m2 = sR m := by rw [em2, sR_wI, rm1]
          have hm2 : MF m2 := MF_e hmf m2r
          have x5 : sI S0 x 5 = 1 := by rw [eS0, ti_sI_ne (by omega), ti_sI_ne (by omega), ti_sI_ne (by omega), eS1, ti_sI_eq]
          have x9 : sI S0 x 9 = Int32.ofNat (nS m) := by rw [eS0, ti_sI_ne (by omega), ti_sI_ne (by omega), ti_sI_eq]
          have p7 : sI S0 (29 + 4 * i) 7 = u7 := by rw [eS0, ti_sI_ne (by omega), ti_sI_eq]
          have p8 : sI S0 (29 + 4 * i) 8 = u8 := by rw [eS0, ti_sI_eq]
          have y80 : sI m0 80 a = 1 := by rw [em0, ti_sI_ne (by omega), ti_sI_ne (by omega), ti_sI_ne (by omega), em2, ti_sI_eq]
          have y83 : sI m0 83 a = Int32.ofNat (nS m) := by rw [em0, ti_sI_ne (by omega), ti_sI_ne (by omega), ti_sI_eq]
          have y62 : sI m0 62 (6 * i + d1) = 1 := by rw [em0, ti_sI_ne (by omega), ti_sI_eq]
          have y63 : sI m0 63 (6 * i + d2) = 1 := by rw [em0, ti_sI_eq]
          have hT0 : TV T S0 := ⟨by
            rw [eS0, eS1]
            exact TIwI (TIwI (TIwI (TIwI hT.1 tx (fun lo hi e => by cases e) (fun n lo hi e => by cases e) (by omega)) tx (fun lo hi e => by cases e) (fun n lo hi e => by cases e) (by omega)) tP (fun lo hi e => by cases e) (fun n lo hi e => by cases e) (by omega)) tP (fun lo hi e => by cases e) (fun n lo hi e => by cases e) (by omega), hT.2⟩
          have hm0 : TI Tm m0 := by
            rw [em0, em2]
            have rN : In (-1) 59 (Int32.ofNat (nS m)) := ⟨by rw [oi (by omega)]; omega, by rw [oi (by omega)]; omega⟩
            refine TIwI (TIwI (TIwI (TIwI tm1 t80 (fun lo hi e => by cases e) (fun n lo hi e => by cases e; decide) (by omega)) t83 (fun lo hi e => by cases e) (fun n lo hi e => by cases e; exact rN) (by omega)) t62 (fun lo hi e => by cases e) (fun n lo hi e => by cases e; decide) (by omega)) t63 (fun lo hi e => by cases e) (fun n lo hi e => by cases e; decide) (by omega)
          have kS0 : Kp T T ka_AK St S0 := by
            rw [eS0, eS1]
            exact Kp_tr (kSt (by decide)) (Kp_tr (Kp_wI _ tx (by decide)) (Kp_tr (Kp_wI _ tx (by decide)) (Kp_tr (Kp_wI _ tP (by decide)) (Kp_wI _ tP (by decide)))))
          have kM0 : Kp Tm Tm ma_AK mt m0 := by
            rw [em0, em2]
            exact Kp_tr (kMt (by decide)) (Kp_tr (kM1 (by decide) (by decide)) (Kp_tr (Kp_wA _ t80 (by decide) (by decide)) (Kp_tr (Kp_wA _ t83 (by decide) (by decide)) (Kp_tr (Kp_wA _ t62 (by decide) (by decide)) (Kp_wA _ t63 (by decide) (by decide))))))
          have kn0 : cKn S0 m0 := fun j hj d hd => by
            have base := hF.Kn j hj d hd
            have njx : x ≠ 29 + 4 * j := xne (tPj j hj) (by decide)
            rw [oSt (by omega), oSt (by omega), omt (by omega), omt (by omega)] at base
            by_cases c : j = i
            · subst c
              rw [p7, p8, eu7, eu8, bt_sh _ (by omega), bt_sh _ (by omega), base.1, base.2]
              refine ⟨?_, ?_⟩
              · by_cases z : d = d1
                · subst z
                  rw [y62]
                  exact ⟨fun _ => by decide, fun _ => Or.inr rfl⟩
                · rw [om0 (by omega) (by omega) (by omega)]
                  exact ⟨fun q => q.elim id (fun q => absurd q z), Or.inl⟩
              · by_cases z : d = d2
                · subst z
                  rw [y63]
                  exact ⟨fun _ => by decide, fun _ => Or.inr rfl⟩
                · rw [om0 (by omega) (by omega) (by omega)]
                  exact ⟨fun q => q.elim id (fun q => absurd q z), Or.inl⟩
            · rw [oS0 (by omega) (by omega), oS0 (by omega) (by omega), om0 (by omega) (by omega) (by omega), om0 (by omega) (by omega) (by omega)]
              exact base
          have hF0 : FR S0 m0 := FR_own (a := a) hTt hmt hF (by rw [uAt]; exact ha) kS0 kM0 kn0 (fun j b hb hba => by
              rw [elt]
              have nb := xb b (by rw [← uAt]; exact hb) hba
              have tb : T (lel S 18 b) = 42 := by rw [← elt]; exact tyA bt' hb
              have nP : lel S 18 b ≠ 29 + 4 * i := fun z => by
                rw [z, tP] at tb
                exact absurd tb (by decide)
              rw [oS0 (by omega) (by omega), oSt (by omega)]) (fun q j hq hj => by rw [om0 (by omega) (by omega) (by omega), omt (by omega)]) (by
              rw [elt, ← ex]
              refine ⟨x5.trans y80.symm, ?_, x9.trans y83.symm, fun q => ?_⟩
              · rw [oS0 (by omega) (by omega), om0 (by omega) (by omega) (by omega)]
                exact o8.1
              · rw [y80] at q
                exact absurd q (by decide)) (fun q => by
              rw [y80] at q
              exact absurd q (by decide))
          have eN : nS m0 = nS m := by
            unfold nS
            rw [om0 (by omega) (by omega) (by omega)]
          obtain ⟨d, w1, w2, w3, w4, w5, w6, w7⟩ := LO19 hT0 hF0
          rw [eN] at w2
          have dne : ∀ {k τ : Nat}, T k = τ → τ ≠ 0 → kd τ ≠ 1 → τ ≠ 32 → k ≠ d := fun hk h0 h1 h2 => w7 _ (by rw [hk]; exact h0) (by rw [hk]; exact h1) (by rw [hk]; exact h2)
          have k41 : K4F S1 := by
            unfold K4F
            rw [r1']
            exact k4
          have x19 : x ≠ 19 := xne t19 (by decide)
          unfold f_K_grant
          refine l_of st_pI ?_
          rw [← eS1]
          refine l_of (st_gRe (v := some (29 + 4 * i)) (by rw [r1']; exact r0)) (l_of (st_gRe (v := some y) (by rw [r1']; exact y1)) (l_of st_rv ?_))
          refine l_p2 (p_newK (S := S1) (n := nS m) (d := d) (x := y) (px := mn S x 4) k41 ((oS1 (by omega)).trans s19) (by rw [r1', ← r0']; exact w1) (by rw [L1, ← L0]; exact w3) n60 (by rw [N1, ← N0]; exact w4) (by rw [N1, ← N0]; exact w5) w6 (dne t4 (by decide) (by decide) (by decide)).symm (dne t5 (by decide) (by decide) (by decide)).symm (by rw [N1]; exact lt y2 (by decide)) (by rw [r1']; exact y3) (by rw [N1]; exact lt y4 (by decide))) (fun u S5 q => ?_)
          obtain ⟨q1, nk⟩ := q
          have q1 : u = Int32.ofNat (nS m) := q1
          have nk : NSK S1 S5 (nS m) d (mn S x 4) (some (29 + 4 * i)) none := nk
          rw [q1]
          have i5 : ∀ {k τ : Nat} (j : Nat), T k = τ → τ ≠ 0 → τ ≠ 22 → τ ≠ 1 → τ ≠ 2 → τ ≠ 3 → τ ≠ 4 → sI S5 k j = sI S1 k j := fun {k τ} j hk h0 h1 h2 h3 h5 h6 => nk.1 k j (by rw [N1]; exact lt hk h0) (fun z => h1 (by rw [← hk, z.1, t19])) (fun z => h2 (by rw [← hk, z.1, t4])) (fun z => h3 (by rw [← hk, z, t5])) (fun z => h5 (by rw [← hk, z, t6])) (fun z => h6 (by rw [← hk, z, t7]))
          have rx5 : sR S5 x 0 = some (29 + 4 * i) := (nk.2.1 x 0 (by rw [N1]; exact xn) (by omega) (fun z => dne tx (by decide) (by decide) (by decide) z.1)).trans (by rw [r1']; exact r0)
          refine l_of st_pI (l_of (st_gRe (v := some (29 + 4 * i)) (by rw [sR_wI]; exact rx5)) (l_of (st_gIe (v := Int32.ofNat d1) ?_) (l_of (st_gIe (v := Int32.ofNat d2) ?_) (l_of st_rv ?_))))
          · rw [ti_sI_ne (by omega), i5 1 tx (by decide) (by decide) (by decide) (by decide) (by decide) (by decide), oS1 (by omega)]
            exact r1
          · rw [ti_sI_ne (by omega), i5 2 tx (by decide) (by decide) (by decide) (by decide) (by decide) (by decide), oS1 (by omega)]
            exact r2
          refine l_pd (P := fun S' => S' = wI (wI (wI S5 x 9 (Int32.ofNat (nS m))) (29 + 4 * i) 7 u7) (29 + 4 * i) 8 u8) ?_ (fun S6 eS6 => ?_)
          · unfold f_Person_learn
            have v7 : sI (wI S5 x 9 (Int32.ofNat (nS m))) (29 + 4 * i) 7 = sI S (29 + 4 * i) 7 := by rw [ti_sI_ne (by omega), i5 7 tP (by decide) (by decide) (by decide) (by decide) (by decide) (by decide), oS1 (by omega)]
            have v8 : sI (wI S5 x 9 (Int32.ofNat (nS m))) (29 + 4 * i) 8 = sI S (29 + 4 * i) 8 := by rw [ti_sI_ne (by omega), i5 8 tP (by decide) (by decide) (by decide) (by decide) (by decide) (by decide), oS1 (by omega)]
            refine p_of (st_gIe v7) (p_of st_pI ?_)
            rw [← eu7]
            refine p_of (st_gIe (v := sI S (29 + 4 * i) 8) ((ti_sI_ne (by omega)).trans v8)) (p_of st_pI ?_)
            rw [← eu8]
            exact p_ret rfl
          have eS6 : S6 = _ := eS6
          -- the reference
          refine m_of (st_gRe (hm1 20 75 rfl)) (m_of (st_aIe ai ((om1 (by omega)).trans e75)) (m_of (st_gRe (hm1 25 80 rfl)) (m_of (st_bIe ai) ?_)))
          rw [← em2]
          refine m_of (st_gRe (hm2 28 83 rfl)) (m_of st_rv (m_p2 (p_newM (m := m2) (n := nS m) hm2 n60 ((om2 (by omega)).trans m30)) (fun u' m3 q => ?_)))
          obtain ⟨q2, nm⟩ := q
          have q2 : u' = Int32.ofNat (nS m) := q2
          have nm : NSM m2 m3 (nS m) (Int32.ofNat i) (-1) := nm
          rw [q2]
          refine m_of (st_bIe ai) ?_
          obtain ⟨m4, em4⟩ : ∃ m4, m4 = wI m3 83 a (Int32.ofNat (nS m)) := ⟨_, rfl⟩
          rw [← em4]
          have o3 := nm.1.2.2
          have om4 : ∀ {q j : Nat}, ¬ ((q = 79 ∨ q = 80 ∨ q = 81 ∨ q = 83) ∧ j = a) → ¬ (q = 85 ∨ q = 86 ∨ q = 87 ∨ q = 88 ∨ q = 89 ∨ q = 90) → ¬ (q = 57 ∧ (j = 30 ∨ j = 77 ∨ j = 81)) → q ≠ 123 → q ≠ 124 → q ≠ 125 → sI m4 q j = sI m q j := fun z1 z2 z3 z4 z5 z6 => by
            rw [em4, ti_sI_ne (by omega), o3 _ _ (by omega) (by omega) z3 z4 z5 z6, om2 (by omega)]
          have hm4 : MF m4 := MF_e hm2 (by rw [em4, sR_wI]; exact nm.1.1)
          refine m_hp (p_grM_L (m := m4) (a := a) (n := nS m) (i := i) (d1 := d1) (d2 := d2) hm4 a60 n60 i6 l1 l2 (by rw [em4, ti_sI_eq]) ((om4 (by omega) (by omega) (by omega) (by omega) (by omega) (by omega)).trans e76) ((om4 (by omega) (by omega) (by omega) (by omega) (by omega) (by omega)).trans e77) 3 0 kr_FU m4 rfl rfl (fun _ _ _ => rfl) (fun f hf => absurd hf (Nat.not_lt_zero _))) (fun M e => ?_)
          obtain ⟨M', f1, f2, eM⟩ := e
          -- all together
          have nk0 : NSK S0 S6 (nS m) d (mn S x 4) (some (29 + 4 * i)) none := by
            rw [eS6, eS0]
            have h4 : 4 < sN S := lt t4 (by decide)
            have nP4 : 29 + 4 * i ≠ 4 ∧ 29 + 4 * i ≠ 5 ∧ 29 + 4 * i ≠ 6 ∧ 29 + 4 * i ≠ 7 ∧ 29 + 4 * i ≠ 19 := by omega
            refine NSK_w (NSK_w (NSK_w nk (by rw [N1]; exact xn) (xne t4 (by decide)) (xne t5 (by decide)) (xne t6 (by decide)) (xne t7 (by decide)) x19 pxx (by rw [N1]; exact h4)) ?_ nP4.1 nP4.2.1 nP4.2.2.1 nP4.2.2.2.1 nP4.2.2.2.2 pxP ?_) ?_ nP4.1 nP4.2.1 nP4.2.2.1 nP4.2.2.2.1 nP4.2.2.2.2 pxP ?_
            · show 29 + 4 * i < sN S1
              rw [N1]
              exact Pn
            · show 4 < sN S1
              rw [N1]
              exact h4
            · show 29 + 4 * i < sN S1
              rw [N1]
              exact Pn
            · show 4 < sN S1
              rw [N1]
              exact h4
          have nm0 : NSM m0 (wI (wI (wI m3 83 a (Int32.ofNat (nS m))) 62 (6 * i + d1) 1) 63 (6 * i + d2) 1) (nS m) (Int32.ofNat i) (-1) := by
            rw [em0]
            exact NSM_w (NSM_w (NSM_w nm (by decide) (by decide)) (by decide) (by decide)) (by decide) (by decide)
          have hM : ∀ q j, ¬ (q = 90 ∧ 3 * nS m ≤ j ∧ j < 3 * nS m + 3) → sI M q j = sI (wI (wI (wI m3 83 a (Int32.ofNat (nS m))) 62 (6 * i + d1) 1) 63 (6 * i + d2) 1) q j := fun q j z => by
            rw [eM, ← em4]
            by_cases z1 : q = 63 ∧ j = 6 * i + d2
            · rw [z1.1, z1.2, ti_sI_eq, ti_sI_eq]
            · rw [ti_sI_ne z1, ti_sI_ne z1]
              by_cases z2 : q = 62 ∧ j = 6 * i + d1
              · rw [z2.1, z2.2, ti_sI_eq, ti_sI_eq]
              · rw [ti_sI_ne z2, ti_sI_ne z2]
                exact f1 q j z
          have hM0 : ∀ {q j : Nat}, ¬ (q = 85 ∨ q = 86 ∨ q = 87 ∨ q = 88 ∨ q = 89 ∨ q = 90) → ¬ (q = 57 ∧ (j = 30 ∨ j = 77 ∨ j = 81)) → q ≠ 123 → q ≠ 124 → q ≠ 125 → sI M q j = sI m0 q j := fun z1 z2 z3 z4 z5 => by
            rw [hM _ _ (by omega)]
            exact nm0.1.2.2 _ _ (by omega) (by omega) z2 z3 z4 z5
          have h90 : ∀ f, f < 3 → sI M 90 (3 * nS m + f) = sI S0 (mn S x 4) f ∧ mok (sI S0 (mn S x 4) f) := fun f hf => by
            have base := hF.Ash a (by rw [uAt]; exact ha) f hf
            have emn : mn St (lel St 18 a) 4 = mn S x 4 := by
              rw [elt, ← ex]
              unfold mn
              rw [rSt]
            rw [emn, oSt (fun z => pxx z.1.symm), omt (by omega)] at base
            rw [oS0 (fun z => pxx z.1.symm) (fun z => pxP z.1.symm), eM, ti_sI_ne (by omega), ti_sI_ne (by omega), f2 f hf, om4 (by omega) (by omega) (by omega) (by omega) (by omega) (by omega), base.1]
            exact ⟨rfl, base.2⟩
          have ses : P_ses S6 M := NS_fin hT0 hm0 hF0 (S := S0) (S' := S6) (m1 := m0) (m' := wI (wI (wI m3 83 a (Int32.ofNat (nS m))) 62 (6 * i + d1) 1) 63 (6 * i + d2) 1) (M := M) (d := d) (px := mn S x 4) (p := i) (ow := none) (owi := -1) (Nat.le_refl _) (fun _ _ _ => rfl) (fun _ _ _ => rfl) w1 w4 w5 w7 (by rw [eN]; exact n60) i6 (Or.inl ⟨rfl, rfl⟩) (by rw [eN]; exact nk0) (fun _ _ _ => rfl) rfl (by rw [eN]; exact nm0) (by rw [eN]; exact hM) (by rw [eN]; exact h90)
          have b0 := FR_BB hT0 hm0 hF0
          have lt0' : ∀ {k τ : Nat}, T k = τ → τ ≠ 0 → k < sN S0 := fun hk h0 => (hT0.1.t1 _ (by rw [hk]; exact h0)).1
          have eA : uA M = uA m0 := by
            unfold uA
            rw [hM0 (by omega) (by omega) (by omega) (by omega) (by omega)]
          have k06 : ∀ {k τ : Nat} (j : Nat), T k = τ → τ ≠ 0 → τ ≠ 22 → τ ≠ 1 → τ ≠ 2 → τ ≠ 3 → τ ≠ 4 → sI S6 k j = sI S0 k j := fun {k τ} j hk h0 h1 h2 h3 h5 h6 => nk0.1 k j (lt0' hk h0) (fun z => h1 (by rw [← hk, z.1, t19])) (fun z => h2 (by rw [← hk, z.1, t4])) (fun z => h3 (by rw [← hk, z, t5])) (fun z => h5 (by rw [← hk, z, t6])) (fun z => h6 (by rw [← hk, z, t7]))
          refine h2_ret ⟨⟨Asm_of (ast_same hF0.Ast eA (fun b hb => lel_oth hT0.1 (q := 1) (by decide) (by decide) w7 (fun k j hk z1 z2 => nk0.2.1 k j hk z1 z2) (SZ_lt (zA b0) (by decide) hb)) (fun b j hb => k06 j (tyA b0 hb) (by decide) (by decide) (by decide) (by decide) (by decide) (by decide)) (fun q j hq => hM0 (by omega) (by omega) (by omega) (by omega) (by omega))), fun j hj d hd => ?_, ses⟩, fun q j z1 z2 => ?_⟩
          · rw [k06 7 (tPj j hj) (by decide) (by decide) (by decide) (by decide) (by decide) (by decide), k06 8 (tPj j hj) (by decide) (by decide) (by decide) (by decide) (by decide) (by decide), hM0 (by omega) (by omega) (by omega) (by omega) (by omega), hM0 (by omega) (by omega) (by omega) (by omega) (by omega)]
            exact kn0 j hj d hd
          · rw [hM0 (by omega) z2 (by omega) (by omega) (by omega), om0 (by omega) (by omega) (by omega)]
      · -- asked
        have c0 : sI m 67 (12 * v + k) = 0 := by
          refine Int32.toInt_inj.mp ?_
          rw [show (0 : Int32).toInt = 0 from by decide]
          have n6 : ¬ (sI m 67 (12 * v + k)).toInt = 6 := fun z => c6 (Int32.toInt_inj.mp (by rw [z]; decide))
          have n5 : ¬ (sI m 67 (12 * v + k)).toInt = 5 := fun z => c5 (Int32.toInt_inj.mp (by rw [z]; decide))
          obtain ⟨g1, g2⟩ := k67
          have := te_iff (S := m) (b := 12 * v) (k := k)
          have nt : ¬ te m (12 * v) k := fun q => hnt (te_iff.mp q)
          by_cases c : 1 ≤ (sI m 67 (12 * v + k)).toInt
          · exact absurd ⟨c, by omega⟩ nt
          · omega
        refine l_of (st_T c0) (m_of (st_F c5) (l_of st_rv ?_))
        unfold f_Attempt_waitAt
        refine l_of (st_eq (show ((((pI S 11 6 (some x) (Int32.ofNat k)).bind fun S1 => (pI S1 11 7 (some x) (0 : Int32)).bind fun S2 => some S2) : Option AS).bind fun S6 => some S6) = ((pI S 11 6 (some x) (Int32.ofNat k)).bind fun S1 => (pI S1 11 7 (some x) (0 : Int32)).bind fun S2 => some S2) from ?_)) (l_of st_pI (l_of st_pI ?_))
        · cases ((pI S 11 6 (some x) (Int32.ofNat k)).bind fun S1 => (pI S1 11 7 (some x) (0 : Int32)).bind fun S2 => some S2) <;> rfl
        obtain ⟨S2, eS2⟩ : ∃ S2, S2 = wI (wI S x 6 (Int32.ofNat k)) x 7 0 := ⟨_, rfl⟩
        rw [← eS2]
        have oS2 : ∀ {k' j : Nat}, ¬ (k' = x ∧ (j = 6 ∨ j = 7)) → sI S2 k' j = sI S k' j := fun z => by
          rw [eS2, ti_sI_ne (by omega), ti_sI_ne (by omega)]
        have rS2 : sR S2 = sR S := by rw [eS2, sR_wI, sR_wI]
        have kS2 : ∀ {cs : List Nat}, ¬ 4205 ∈ cs → ¬ 4206 ∈ cs → ¬ 4207 ∈ cs → Kp T T cs St S2 := fun h1 h2 h3 => by
          rw [eS2]
          exact Kp_tr (kSt h1) (Kp_tr (Kp_wI _ tx (by rw [show cl 42 6 = 4206 by decide]; exact h2)) (Kp_wI _ tx (by rw [show cl 42 7 = 4207 by decide]; exact h3)))
        have rest := FP_KS bt' ⟨hF.Kn, FR_ses hF⟩ (kS2 (by decide) (by decide) (by decide)) (Kp_tr (kMt (by decide)) (kM1 (by decide) (by decide)))
        refine h2_ret ⟨⟨asm_mk (Asm_of (a := a) hF.Ast) ?_ (by rw [uAt]; exact ha) (fun b _ => ?_) (fun b j hb hba => ?_) (fun q j hq hj => ?_) (fun j => ?_) (fun j => ?_) ?_, rest.1, rest.2⟩, fun q j z1 z2 => om1 (by omega)⟩
        · rw [uAt]
          unfold uA
          rw [om1 (by omega)]
        · rw [elt]
          unfold lel
          rw [rS2]
        · rw [elt]
          have nb := xb b (by rw [← uAt]; exact hb) hba
          rw [oS2 (by omega), oSt (by omega)]
        · rw [om1 (by omega), omt (by omega)]
        · rw [om1 (by omega), omt (by omega)]
        · rw [om1 (by omega), omt (by omega)]
        · rw [elt, ← ex]
          refine ⟨?_, ?_, ?_, fun _ => ⟨?_, ?_, ?_, ?_⟩⟩
          · rw [oS2 (by omega), om1 (by omega), e5, e80]
          · rw [oS2 (by omega), om1 (by omega)]
            exact o8.1
          · rw [oS2 (by omega), om1 (by omega)]
            exact o8.2
          · rw [m179, eS2, ti_sI_ne (by omega), ti_sI_eq]
          · rw [m181, eS2, ti_sI_eq]
          · rw [m181]
            decide
          · rw [m181, m179, om1 (by omega), om1 (by omega), m78, nn_o (by omega), nn_o (by omega)]
            have := hB k hk c0
            rw [show (0 : Int32).toInt = 0 from by decide]
            omega
end
