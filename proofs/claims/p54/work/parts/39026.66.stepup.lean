/-! ===== step up ===== -/
theorem p_mayA {m : AS} {a b c : Int32} : Hp (f_M_mayAll m (some 57) a b c) (fun q => q = if a = 0 then (0, wI m 57 82 1) else if b = 0 then (0, wI m 57 82 2) else if c = 0 then (0, wI m 57 82 3) else (1, wI m 57 82 0)) := by
  unfold f_M_mayAll
  have go : ∀ v : Int32, Hp (f_M_mayAll_B26 m (some 57) (some 57) v) (fun q => q = (if v = 0 then 1 else 0, wI m 57 82 v)) := fun v => by
    unfold f_M_mayAll_B26
    refine p_of st_pI (p_of (st_gIe (ti_sI_eq _ _ _ _)) (p_if (fun c => p_ret ?_) (fun c => p_ret ?_)))
    · rw [if_pos c]
    · rw [if_neg c]
  refine p_if (fun c1 => ?_) (fun c1 => p_if (fun c2 => ?_) (fun c2 => p_if (fun c3 => ?_) (fun c3 => ?_)))
  · rw [if_pos c1]; exact go 1
  · rw [if_neg c1, if_pos c2]; exact go 2
  · rw [if_neg c1, if_neg c2, if_pos c3]; exact go 3
  · rw [if_neg c1, if_neg c2, if_neg c3]; exact go 0
section
variable {T Tm : Nat → Nat} {S m : AS}
theorem h_levelAt3 (h : FR S m) {S' m' : AS} (rs : sR S' = sR S) (ws : cWgt S' m') (hmf : MF m') {s : Nat} (hs : s < nS m) (hr : ∀ f, f < 3 → sI S' (mn S (lel S 19 s) 3) f = sI m' 90 (3 * s + f) ∧ mok (sI m' 90 (3 * s + f))) (e0 : sI m' 57 0 = sI m 57 0) : H2 (f_Session_levelAt S' (some (lel S 19 s)) (sI m 57 0)) (f_M_levelNow m' (some 57) (Int32.ofNat s)) (fun a b => ∃ w, w < 8 ∧ a = (lv8 w, S') ∧ b = (lv8 w, m')) := by
  have z := h.Ses.1.1
  obtain ⟨x, ex⟩ := (h.Ses.2 s hs).2.2.2.1
  unfold f_Session_levelAt f_Shown_levelSince f_M_levelNow
  refine l_of (st_gRe (v := some x) (by rw [rs]; exact ex)) (l_of st_rv (l_b2 (fun v S2 e1 => ?_)))
  have key : H2 (f_Shown_levelSince_L4 kr_FU S' (some x) (sI m 57 0 - 120) 0 0) (f_M_levelNow_L4 kr_FU m' (some 57) (Int32.ofNat s) 0 0) (fun a b => ∃ w, w < 8 ∧ a = (lv8 w, S') ∧ b = (lv8 w, m')) := by
    cases c : sR S' x 0 with
    | none =>
      show H2 (f_Shown_levelSince_C4 (f_Shown_levelSince_L4 1999) S' (some x) (sI m 57 0 - 120) 0 0) _ _
      unfold f_Shown_levelSince_C4
      refine l_of (st_F (by decide)) (l_of (st_gRe c) (fun a b ha hb => nomatch ha))
    | some p =>
      have ep : mn S (lel S 19 s) 3 = p := by
        unfold mn
        rw [ex]
        show (sR S x 0).getD 0 = p
        rw [← rs, c]
        rfl
      have z8 : lv8 0 = 0 := by decide +kernel
      have q := h_lvl_L (S := S') (p := p) (m := m') (s := s) ws hmf c (by unfold nS at hs; omega) e0 h.NW.2.1 h.NW.2.2 (fun f hf => by
        rw [← ep]
        exact hr f hf) 3 0 kr_FU kr_FU 0 rfl (by decide)
      rw [z8] at q
      exact q
  exact fun a b ha hb => by
    obtain ⟨w, w1, w2, w3⟩ := key _ _ e1 hb
    cases ha
    cases w2
    exact ⟨w, w1, rfl, w3⟩
def P_up (S m : AS) : Prop := cFac S m ∧ cWrg S m ∧ cAsh S m ∧ cUsd S m ∧ cSsh S m ∧ cAU S m
theorem FR_up (h : FR S m) : P_up S m := ⟨h.Fac, h.Wrg, h.Ash, h.Usd, h.Ssh, h.AU⟩
/-- a minute is shown -/
theorem p_show {S1 : AS} {x p f : Nat} {now : Int32} (hx : sR S1 x 0 = some p) (hf : f < 3) : Hp (f_Shown_show S1 (some x) (Int32.ofNat f) now) (fun S' => S' = wI S1 p f now) := by
  unfold f_Shown_show
  refine p_of (st_b2 (q_Kfac S1 _)) ?_
  rw [if_pos ((thr_iff _).mpr ⟨f, hf, rfl⟩)]
  exact p_of (st_F one0) (p_of (st_gRe hx) (p_of (st_bIe (oc (by omega))) (p_ret rfl)))
/-- the end of a stepping up -/
theorem up_fin (hT : TV T S) (hm : TI Tm m) (h : FR S m) {s : Nat} (s1 : s < nS m) {S' m' : AS} (rS : sR S' = sR S) (rm : sR m' = sR m) (hf : cFac S' m') (hw : cWrg S' m') (ha : AU 0 (sI m 89) (nS m) S' m')
    (e1 : sI S' 4 0 = sI S 4 0 ∧ sI S' 1 = sI S 1) (e2 : sI S' (lel S 19 s) 5 = sI m' 87 s) (e3 : ∀ q, q < nS m → q ≠ s → sI S' (lel S 19 q) 5 = sI S (lel S 19 q) 5 ∧ sI m' 87 q = sI m 87 q)
    (e4 : ∀ f, f < 3 → sI S' (mn S (lel S 19 s) 3) f = sI m' 90 (3 * s + f) ∧ mok (sI m' 90 (3 * s + f))) (e5 : ∀ k j, T k = 48 → k ≠ mn S (lel S 19 s) 3 → sI S' k j = sI S k j) (e6 : ∀ q, ¬ (3 * s ≤ q ∧ q < 3 * s + 3) → sI m' 90 q = sI m 90 q)
    (e7 : ∀ p j, (p = 84 ∨ p = 89 ∨ (p = 57 ∧ (j = 0 ∨ j = 19 ∨ j = 30))) → sI m' p j = sI m p j) (e8 : sI m' 57 82 = 0) :
    H2 (f_K_stepUp_B96 S' (some 4) (some (lel S 19 s))) (f_M_stepUp_B112 m' (some 57) (Int32.ofNat s)) (fun x y => AN [eX, eA, eS] x.1 y.1 (sI y.2 57 82) ∧ P_up x.2 y.2) := by
  have b := FR_BB hT hm h
  unfold f_K_stepUp_B96 f_M_stepUp_B112
  refine l_of (st_gIe (v := sI m 57 0) (e1.1.trans h.NW.1)) (l_of st_rv (m_of st_rv ?_))
  refine h2_22 (h_levelAt3 h rS ⟨by rw [e1.2]; exact h.Wgt.1, by rw [e1.2]; exact h.Wgt.2.1, by rw [e1.2]; exact h.Wgt.2.2⟩ (MF_e (MF_of hm) rm) s1 e4 (e7 57 0 (by omega))) (fun v S2 u m2 q => ?_)
  obtain ⟨w, w8, q1, q2⟩ := q
  cases q1
  cases q2
  have el : ∀ l k, lel S' l k = lel S l k := fun l k => by
    unfold lel
    rw [rS]
  have em : ∀ p j, mn S' p j = mn S p j := fun p j => by
    unfold mn
    rw [rS]
  have eN : nS m' = nS m := by
    unfold nS
    rw [e7 57 30 (by omega)]
  have eA' : uA m' = uA m := by
    unfold uA
    rw [e7 57 19 (by omega)]
  have e89 : sI m' 89 = sI m 89 := funext fun j => e7 89 j (by omega)
  refine h2_ret ⟨AN_v e8, hf, hw, fun a ha' f f3 => ?_, fun q hq => ?_, fun q hq f f3 => ?_, ?_⟩
  · rw [eA'] at ha'
    show sI S' (mn S' (lel S' 18 a) 4) f = sI m' 84 (3 * a + f) ∧ mok (sI m' 84 (3 * a + f))
    obtain ⟨x, -, -, -, tx⟩ := tyM (j := 4) hT.1 (tyA b ha') rfl
    rw [el, em, e7 84 _ (by omega), e5 _ f tx (h.Min.2.2 a s ha' s1)]
    exact h.Ash a ha' f f3
  · rw [eN] at hq
    show sI S' (lel S' 19 q) 5 = sI m' 87 q
    rw [el]
    by_cases c : q = s
    · subst c
      exact e2
    · rw [(e3 q hq c).1, (e3 q hq c).2]
      exact h.Usd q hq
  · rw [eN] at hq
    show sI S' (mn S' (lel S' 19 q) 3) f = sI m' 90 (3 * q + f) ∧ mok (sI m' 90 (3 * q + f))
    rw [el, em]
    by_cases c : q = s
    · subst c
      exact e4 f f3
    · obtain ⟨x, -, -, -, tx⟩ := tyM (j := 3) hT.1 (tyS b hq) rfl
      rw [e6 _ (by omega), e5 _ f tx (fun z => c (h.Min.2.1 q s hq s1 z))]
      exact h.Ssh q hq f f3
  · unfold cAU
    rw [e89, eN]
    exact ha
theorem up_go (hT : TV T S) (hm : TI Tm m) (h : FR S m) {s f : Nat} (s1 : s < nS m) (f3 : f < 3) (r v : Int32) : H2 (f_K_stepUp_B55 S (some 4) (Int32.ofNat f) r v (some (lel S 19 s)) 1) (f_M_stepUp_B63 m (some 57) (Int32.ofNat s) (Int32.ofNat f) r v (some 57) 1 1 1) (fun x y => AN [eX, eA, eS] x.1 y.1 (sI y.2 57 82) ∧ P_up x.2 y.2) := by
  have b := FR_BB hT hm h
  have hmf0 := MF_of (TI_t hm 0)
  obtain ⟨n0, n1, n2⟩ := h.NW
  have z60 := h.Ses.1.1
  have s60 : s < 60 := by
    unfold nS at s1
    omega
  have n60 : nS m ≤ 60 := z60
  obtain ⟨-, ⟨p, p6, q1, q2⟩, -, ⟨x, qx⟩, -⟩ := h.Ses.2 s s1
  have ts := tyS b s1
  obtain ⟨x', x1, x2, x3, x4⟩ := tyM (j := 3) hT.1 ts rfl
  rw [qx] at x1
  cases x1
  obtain ⟨t4, t5, t6, t7, -⟩ := kt4 hT.1
  unfold f_K_stepUp_B55 f_M_stepUp_B63
  refine l_of (st_bx (rS1 S)) (l_of (st_gIe n0) (l_of st_pI (l_of (st_gRe (v := some (29 + 4 * p)) q1) (l_of st_rv ?_))))
  refine m_of st_rv (m_p2 p_mayA (fun w m' e => ?_))
  cases e
  refine m_of (st_F one0) (m_of (st_gRe (hmf0 33 87 rfl)) (m_of (st_gIe (v := sI m 57 0) (lv0 m (by omega) 0)) (m_of (st_bIe (oc (by omega))) ?_)))
  refine m_of (st_gRe (v := some 85) (hmf0 31 85 rfl)) (m_of (st_aIe (v := Int32.ofNat p) (oc (by omega)) ((ti_sI_ne (by omega)).trans ((lv0 m (by omega) 0).trans q2))) (m_of st_rv ?_))
  have lv : ∀ {p j : Nat}, ¬ (p = 57 ∧ j = 82) → ¬ (p = 87 ∧ j = s) → sI (wI (wI m 57 82 0) 87 s (sI m 57 0)) p j = sI m p j := fun a1 a2 => (ti_sI_ne a2).trans (lv0 m a1 0)
  have nP : ∀ {k τ : Nat}, T k = τ → τ ≠ 43 → k ≠ lel S 19 s := fun hk ht q => by
    rw [q, ts] at hk
    exact ht hk.symm
  have tP : ∀ j, j < 6 → T (29 + 4 * j) = 13 ∧ T (30 + 4 * j) = 14 ∧ T (31 + 4 * j) = 15 := fun j hj => by
    obtain ⟨a, b, c, -⟩ := kt_P hT.1 h.PF hj
    exact ⟨a, b, c⟩
  have nPj : ∀ j, j < 6 → 29 + 4 * j ≠ lel S 19 s ∧ 30 + 4 * j ≠ lel S 19 s ∧ 31 + 4 * j ≠ lel S 19 s := fun j hj => ⟨nP (tP j hj).1 (by decide), nP (tP j hj).2.1 (by decide), nP (tP j hj).2.2 (by decide)⟩
  have n4 := nP t4 (by decide)
  have n5 := nP t5 (by decide)
  have n6 := nP t6 (by decide)
  have T8 : TI T (wI S (lel S 19 s) 5 (sI m 57 0)) := TIwI hT.1 ts (fun lo hi e => by cases e) (fun n lo hi e => by cases e) (by omega)
  have F8 : cFac (wI S (lel S 19 s) 5 (sI m 57 0)) (wI (wI m 57 82 0) 87 s (sI m 57 0)) := fac_cong h.Fac (fun j c hj => by
    obtain ⟨a1, a2, a3⟩ := nPj j hj
    exact ⟨ti_sI_ne (by omega), ti_sI_ne (by omega), ti_sI_ne (by omega)⟩) (fun q => ⟨lv (by omega) (by omega), lv (by omega) (by omega), lv (by omega) (by omega)⟩)
  have W8 : cWrg (wI S (lel S 19 s) 5 (sI m 57 0)) (wI (wI m 57 82 0) 87 s (sI m 57 0)) := wrg_cong h.Wrg (fun j c hj _ _ => by
    obtain ⟨a1, a2, a3⟩ := nPj j hj
    exact ti_sI_ne (by omega)) (fun q => lv (by omega) (by omega))
  have N8 : cNW (wI S (lel S 19 s) 5 (sI m 57 0)) (wI (wI m 57 82 0) 87 s (sI m 57 0)) := by
    unfold cNW
    rw [lv (by omega) (by omega)]
    exact ⟨(ti_sI_ne (by omega)).trans n0, n1, n2⟩
  have A8 : AU 0 (sI m 89) (nS m) (wI S (lel S 19 s) 5 (sI m 57 0)) (wI (wI m 57 82 0) 87 s (sI m 57 0)) := AU_cong h.AU (ti_sI_ne (by omega)) (funext fun j => ti_sI_ne (by omega)) (lv (by omega) (by omega)) (funext fun j => lv (by omega) (by omega)) (funext fun j => lv (by omega) (by omega)) rfl (ti_sI_ne (by omega)) (funext fun j => ti_sI_ne (fun z => nP t7 (by decide) z.1)) (fun z => (ti_sI_ne (by omega)).trans (z.trans (lv (by omega) (by omega)).symm)) (lv (by omega) (by omega)) (funext fun j => lv (by omega) (by omega))
  have P8 : PF (wI S (lel S 19 s) 5 (sI m 57 0)) := by
    refine ⟨fun j hj => ⟨(h.PF.1 j hj).1, (h.PF.1 j hj).2.1, (h.PF.1 j hj).2.2.1, (h.PF.1 j hj).2.2.2.1, ?_⟩, h.PF.2⟩
    rw [ti_sI_ne (by omega)]
    exact (h.PF.1 j hj).2.2.2.2
  have L8 : sL (wI (wI m 57 82 0) 87 s (sI m 57 0)) 123 = 1200 := (ST_of hT hm h).2.2.2.1.2.2.2.2.2.2.2.2
  have M8 : MF (wI (wI m 57 82 0) 87 s (sI m 57 0)) := MF_e hmf0 rfl
  refine h2_22 (h_right T8 P8 M8 F8 W8 N8 A8 n60 L8 p6 f3 r v) (fun w S11 u m13 q => ?_)
  obtain ⟨y, y01, e1, e2, ⟨⟨k1, k2, k3⟩, ⟨l1, l2, l3⟩, g1, g2, g3⟩⟩ := q
  have e1 : w = y := e1
  have e2 : u = y := e2
  have k1 : sR S11 = sR S := k1
  have l1 : sR m13 = sR m := l1
  have g1 : cFac S11 m13 := g1
  have g2 : cWrg S11 m13 := g2
  have g3 : AU 0 (sI m 89) (nS m) S11 m13 := g3
  rw [e1, e2]
  have oK : ∀ {k τ : Nat} (j : Nat), T k = τ → τ ≠ 0 → ¬ RW τ j → k ≠ lel S 19 s → sI S11 k j = sI S k j := fun j hk h0 hw hn => by
    rw [k3 _ j (by rw [hk]; exact h0) (by rw [hk]; exact hw)]
    exact ti_sI_ne (by omega)
  have oM : ∀ {p j : Nat}, ¬ RWm p j → ¬ (p = 57 ∧ j = 82) → ¬ (p = 87 ∧ j = s) → sI m13 p j = sI m p j := fun hw a1 a2 => (l3 _ _ hw).trans (lv a1 a2)
  have r0 : ∀ τ j, τ = 1 ∨ τ = 43 ∨ τ = 48 ∨ τ = 52 → ¬ RW τ j := fun τ j hτ q => by
    unfold RW at q
    omega
  have rm0 : ∀ p j, (p = 84 ∨ p = 87 ∨ p = 89 ∨ p = 90 ∨ (p = 57 ∧ j < 77) ∨ (p = 57 ∧ j = 82)) → ¬ RWm p j := fun p j hp q => by
    unfold RWm at q
    omega
  have u5 : sI S11 (lel S 19 s) 5 = sI m 57 0 := by
    rw [k3 _ 5 (by rw [ts]; decide) (by rw [ts]; exact r0 43 5 (by omega)), ti_sI_eq]
  have u87 : sI m13 87 s = sI m 57 0 := by rw [l3 87 s (rm0 _ _ (by omega)), ti_sI_eq]
  have u82 : sI m13 57 82 = 0 := by
    rw [l3 57 82 (rm0 _ _ (by omega)), ti_sI_ne (by omega)]
    exact ti_sI_eq _ _ _ _
  have oth : ∀ q, q < nS m → q ≠ s → sI S11 (lel S 19 q) 5 = sI S (lel S 19 q) 5 ∧ sI m13 87 q = sI m 87 q := fun q hq c => ⟨oK 5 (tyS b hq) (by decide) (r0 _ _ (by omega)) (fun z => c (ses_inj h hq s1 z)), oM (rm0 _ _ (by omega)) (by omega) (by omega)⟩
  have min0 : ∀ k j, T k = 48 → sI S11 k j = sI S k j := fun k j hk => oK j hk (by decide) (r0 _ _ (by omega)) (nP hk (by decide))
  have m90 : ∀ q, sI m13 90 q = sI m 90 q := fun q => oM (rm0 _ _ (by omega)) (by omega) (by omega)
  have oth2 : ∀ p j, (p = 84 ∨ p = 89 ∨ (p = 57 ∧ (j = 0 ∨ j = 19 ∨ j = 30))) → sI m13 p j = sI m p j := fun p j q => oM (rm0 _ _ (by omega)) (by omega) (by omega)
  have e14 : sI S11 4 0 = sI S 4 0 ∧ sI S11 1 = sI S 1 := ⟨oK 0 t4 (by decide) (r0 _ _ (by omega)) n4, funext fun j => oK j hT.2 (by decide) (r0 _ _ (by omega)) (nP hT.2 (by decide))⟩
  rcases y01 with rfl | rfl
  · refine l_of (st_T rfl) (m_of (st_T rfl) ?_)
    exact up_fin hT hm h s1 k1 l1 g1 g2 g3 e14 (u5.trans u87.symm) oth (fun f hf => by rw [min0 _ f x4, m90]; exact h.Ssh s s1 f hf) (fun k j hk _ => min0 k j hk) (fun q _ => m90 q) oth2 u82
  · refine l_of (st_F one0) (m_of (st_F one0) ?_)
    have hm13 := MF_e (MF_of hm) l1
    refine l_of (st_gRe (v := some x) (by rw [k1]; exact qx)) (l_of (st_gIe (v := sI m 57 0) (e14.1.trans n0)) (l_of st_rv (l_pd (p_show (p := mn S (lel S 19 s) 3) (by rw [k1]; exact x3) f3) (fun S16 e => ?_))))
    have e : S16 = _ := e
    rw [e]
    refine m_of (st_gRe (hm13 36 90 rfl)) (m_of (st_gIe (v := sI m 57 0) (oth2 57 0 (by omega))) (m_of (st_bIe (ix3 s s60 f f3)) ?_))
    have nm : ∀ {k τ : Nat}, T k = τ → τ ≠ 48 → k ≠ mn S (lel S 19 s) 3 := fun hk ht q => by
      rw [q, x4] at hk
      exact ht hk.symm
    have nmj : ∀ j, j < 6 → 29 + 4 * j ≠ mn S (lel S 19 s) 3 ∧ 30 + 4 * j ≠ mn S (lel S 19 s) 3 ∧ 31 + 4 * j ≠ mn S (lel S 19 s) 3 := fun j hj => ⟨nm (tP j hj).1 (by decide), nm (tP j hj).2.1 (by decide), nm (tP j hj).2.2 (by decide)⟩
    have mt4 := nm t4 (by decide)
    have mt5 := nm t5 (by decide)
    have mt6 := nm t6 (by decide)
    have mt1 := nm hT.2 (by decide)
    have mts := nm ts (by decide)
    refine up_fin hT hm h s1 (S' := wI S11 (mn S (lel S 19 s) 3) f (sI m 57 0)) (m' := wI m13 90 (3 * s + f) (sI m 57 0)) k1 l1 ?_ ?_ ?_ ⟨(ti_sI_ne (by omega)).trans e14.1, ?_⟩ ?_ (fun q hq c => ?_) (fun g hg => ?_) (fun k j hk hn => ?_) (fun q hq => ?_) (fun p j q => ?_) ?_
    · exact fac_cong g1 (fun j c hj => by
        obtain ⟨a1, a2, a3⟩ := nmj j hj
        exact ⟨ti_sI_ne (by omega), ti_sI_ne (by omega), ti_sI_ne (by omega)⟩) (fun q => ⟨ti_sI_ne (by omega), ti_sI_ne (by omega), ti_sI_ne (by omega)⟩)
    · exact wrg_cong g2 (fun j c hj _ _ => by
        obtain ⟨a1, a2, a3⟩ := nmj j hj
        exact ti_sI_ne (by omega)) (fun q => ti_sI_ne (by omega))
    · exact AU_cong g3 (ti_sI_ne (by omega)) (funext fun j => ti_sI_ne (by omega)) (ti_sI_ne (by omega)) (funext fun j => ti_sI_ne (by omega)) (funext fun j => ti_sI_ne (by omega)) rfl (ti_sI_ne (by omega)) (funext fun j => ti_sI_ne (fun z => nm t7 (by decide) z.1)) (fun z => (ti_sI_ne (by omega)).trans (z.trans (ti_sI_ne (by omega)).symm)) (ti_sI_ne (by omega)) (funext fun j => ti_sI_ne (by omega))
    · exact (funext fun j => ti_sI_ne (by omega) : sI (wI S11 (mn S (lel S 19 s) 3) f (sI m 57 0)) 1 = sI S11 1).trans e14.2
    · exact ((ti_sI_ne (by omega)).trans u5).trans ((ti_sI_ne (by omega)).trans u87).symm
    · have := nm (tyS b hq) (by decide)
      exact ⟨(ti_sI_ne (by omega)).trans (oth q hq c).1, (ti_sI_ne (by omega)).trans (oth q hq c).2⟩
    · by_cases c : g = f
      · subst c
        rw [ti_sI_eq, ti_sI_eq]
        exact ⟨rfl, Or.inr ⟨n1, n2⟩⟩
      · rw [ti_sI_ne (by omega), ti_sI_ne (by omega), min0 _ g x4, m90]
        exact h.Ssh s s1 g hg
    · rw [ti_sI_ne (by omega)]
      exact min0 k j hk
    · rw [ti_sI_ne (by omega)]
      exact m90 q
    · rw [ti_sI_ne (by omega)]
      exact oth2 p j q
    · rw [ti_sI_ne (by omega)]
      exact u82
theorem h_stepUp (hT : TV T S) (hm : TI Tm m) (h : FR S m) (a f r v : Int32) : H2 (f_K_stepUp S (some 4) a f r v) (f_M_stepUp m (some 57) a f r v) (fun x y => AN [eX, eA, eS] x.1 y.1 (sI y.2 57 82) ∧ P_up x.2 y.2) := by
  have b := FR_BB hT hm h
  have hmf := MF_of hm
  have no1 : ∀ y2 y3, H2 (some ((Sum.inr eX : Int32 ⊕ String), wX S)) (f_M_stepUp_B63 m (some 57) a f r v (some 57) 0 y2 y3) (fun x y => AN [eX, eA, eS] x.1 y.1 (sI y.2 57 82) ∧ P_up x.2 y.2) := fun y2 y3 => by
    unfold f_M_stepUp_B63
    refine m_of st_rv (m_p2 p_mayA (fun w m' e => ?_))
    rw [if_pos rfl] at e
    cases e
    exact m_of (st_T rfl) (h2_ret ⟨AN_e 0 rfl (ti_sI_eq _ _ _ _), FR_up (FR_X hT (TI_t hm 1) (FR_t hT hm h 1))⟩)
  have no2 : ∀ y3, H2 (some ((Sum.inr eA : Int32 ⊕ String), wX S)) (f_M_stepUp_B63 m (some 57) a f r v (some 57) 1 0 y3) (fun x y => AN [eX, eA, eS] x.1 y.1 (sI y.2 57 82) ∧ P_up x.2 y.2) := fun y3 => by
    unfold f_M_stepUp_B63
    refine m_of st_rv (m_p2 p_mayA (fun w m' e => ?_))
    rw [if_neg one0, if_pos rfl] at e
    cases e
    exact m_of (st_T rfl) (h2_ret ⟨AN_e 1 rfl (ti_sI_eq _ _ _ _), FR_up (FR_X hT (TI_t hm 2) (FR_t hT hm h 2))⟩)
  have no3 : H2 (some ((Sum.inr eS : Int32 ⊕ String), wX S)) (f_M_stepUp_B63 m (some 57) a f r v (some 57) 1 1 0) (fun x y => AN [eX, eA, eS] x.1 y.1 (sI y.2 57 82) ∧ P_up x.2 y.2) := by
    unfold f_M_stepUp_B63
    refine m_of st_rv (m_p2 p_mayA (fun w m' e => ?_))
    rw [if_neg one0, if_neg one0, if_pos rfl] at e
    cases e
    exact m_of (st_T rfl) (h2_ret ⟨AN_e 2 rfl (ti_sI_eq _ _ _ _), FR_up (FR_X hT (TI_t hm 3) (FR_t hT hm h 3))⟩)
  unfold f_K_stepUp f_M_stepUp f_M_stepUp_B33 f_M_stepUp_B34 f_M_stepUp_B62
  refine l_of st_rv (m_of st_rv (m_p2 (x_MS b a) (fun w S2 p => ?_)))
  refine l_bx (fun v' S' e => ?_) (fun v' S' e => ?_)
  · rcases x_fS b a _ e with ⟨s, s1, ea, e2⟩ | ⟨no, e2⟩
    · cases e2
      rcases p with ⟨-, p2⟩ | ⟨p1, -⟩
      · cases p2
        have z60 := h.Ses.1.1
        have s60 : s < 60 := by
          unfold nS at s1
          omega
        have ai : a.toNatClampNeg = s := by rw [ea]; exact oc (by omega)
        obtain ⟨l1, l2⟩ := h.Liv.1 s s1
        have q3 := SPK_r h s1
        refine l_of (st_b2 (q_Kfac S f)) (m_of (st_b2 (q_fac m f)) ?_)
        -- the reference's way to its asking, whatever y2
        have way : ∀ {x : Option ((Int32 ⊕ String) × AS)} (y2 : Int32), (∀ y3, H2 x (f_M_stepUp_B63 m (some 57) a f r v (some 57) 1 y2 y3) (fun x y => AN [eX, eA, eS] x.1 y.1 (sI y.2 57 82) ∧ P_up x.2 y.2)) → H2 x (if (1 : Int32) = 0 then f_M_stepUp_B63 m (some 57) a f r v (some 57) 1 y2 0 else (gR m 39 35 (some 57)).bind fun v18 => (aI m 47 v18 a).bind fun v19 => if v19 = 0 then f_M_stepUp_B63 m (some 57) a f r v (some 57) 1 y2 0 else (gR m 39 34 (some 57)).bind fun v20 => (aI m 46 v20 a).bind fun v21 => if v21 = (-1 : Int32) then f_M_stepUp_B63 m (some 57) a f r v (some 57) 1 y2 1 else f_M_stepUp_B63 m (some 57) a f r v (some 57) 1 y2 0) (fun x y => AN [eX, eA, eS] x.1 y.1 (sI y.2 57 82) ∧ P_up x.2 y.2) := fun y2 hh => by
          refine m_of (st_F one0) (m_of (st_gRe (hmf 35 89 rfl)) (m_of (st_aIe (v := sI m 89 s) ai rfl) (m_if (fun _ => hh 0) (fun _ => ?_))))
          exact m_of (st_gRe (hmf 34 88 rfl)) (m_of (st_aIe (v := sI m 88 s) ai rfl) (m_if (fun _ => hh 1) (fun _ => hh 0)))
        have bad : H2 (f_K_stepUp_B30 S (some 4) f r v (some (lel S 19 s))) (if (1 : Int32) = 0 then f_M_stepUp_B63 m (some 57) a f r v (some 57) 1 0 0 else (gR m 39 35 (some 57)).bind fun v18 => (aI m 47 v18 a).bind fun v19 => if v19 = 0 then f_M_stepUp_B63 m (some 57) a f r v (some 57) 1 0 0 else (gR m 39 34 (some 57)).bind fun v20 => (aI m 46 v20 a).bind fun v21 => if v21 = (-1 : Int32) then f_M_stepUp_B63 m (some 57) a f r v (some 57) 1 0 1 else f_M_stepUp_B63 m (some 57) a f r v (some 57) 1 0 0) (fun x y => AN [eX, eA, eS] x.1 y.1 (sI y.2 57 82) ∧ P_up x.2 y.2) := by
          unfold f_K_stepUp_B30 f_K_stepUp_B31
          exact l_of (st_bxe (rA0 S)) (way 0 no2)
        by_cases cf : 0 ≤ f ∧ f ≤ 2
        · rw [if_pos cf]
          refine l_of (st_F one0) (m_of (st_F one0) (l_of (st_b2 (q_win S v 0 9999)) (m_of (st_b2 (q_isIn m v 0 9999)) ?_)))
          by_cases cv : 0 ≤ v ∧ v ≤ 9999
          · rw [if_pos cv]
            obtain ⟨g, g1, g2⟩ := (thr_iff f).mp cf
            refine l_of (st_F one0) (m_of (st_F one0) ?_)
            unfold f_K_stepUp_B31
            refine l_of (st_bx (rA1 S)) (l_of (st_gIe l1) ?_)
            refine m_of (st_F one0) (m_of (st_gRe (hmf 35 89 rfl)) (m_of (st_aIe (v := sI m 89 s) ai rfl) ?_))
            have k54 : Le (f_K_stepUp_B54 S (some 4) f r v (some (lel S 19 s))) (some ((Sum.inr eS : Int32 ⊕ String), wX S)) := fun q hq => by
              unfold f_K_stepUp_B54 f_K_stepUp_B55 at hq
              exact st_bxe (rS0 S) q hq
            by_cases c1 : sI m 89 s = 0
            · exact l_of (st_T c1) (m_of (st_T c1) (l_of k54 no3))
            · refine l_of (st_F c1) (m_of (st_F c1) (m_of (st_gRe (hmf 34 88 rfl)) (m_of (st_aIe (v := sI m 88 s) ai rfl) ?_)))
              by_cases c2 : sI m 88 s = -1
              · refine l_of (st_gRe (q3.mpr c2)) (l_of (st_T rfl) (m_of (st_T c2) ?_))
                rw [ea, g2]
                exact up_go hT hm h s1 g1 r v
              · exact l_of st_gR (l_of (st_F (fun q => c2 (q3.mp q))) (m_of (st_F c2) (l_of k54 no3)))
          · rw [if_neg cv]
            exact l_of (st_T rfl) (m_of (st_T rfl) bad)
        · rw [if_neg cf]
          exact l_of (st_T rfl) (m_of (st_T rfl) bad)
      · exact absurd ⟨s, s1, ea⟩ p1
    · cases e2
  · rcases x_fS b a _ e with ⟨s, s1, ea, e2⟩ | ⟨no, e2⟩
    · cases e2
    · cases e2
      rcases p with ⟨p1, -⟩ | ⟨-, p2⟩
      · exact absurd p1 no
      · cases p2
        refine m_of (st_b2 (q_fac m f)) (m_if (fun _ => m_of (st_T rfl) (no1 _ _)) (fun _ => m_of (st_b2 (q_isIn m v 0 9999)) (m_if (fun _ => m_of (st_T rfl) (no1 _ _)) (fun _ => m_of (st_T rfl) (no1 _ _)))))
end
