/-! ===== what a new session leaves; act, foreign ===== -/
def P_ses (S m : AS) : Prop := cAsh S m ∧ cSes S m ∧ cUsd S m ∧ cLiv S m ∧ cSsh S m ∧ cMin S m ∧ cCod S m ∧ cAU S m
section
variable {T Tm : Nat → Nat} {S0 m0 : AS}
theorem FR_ses (h : FR S0 m0) : P_ses S0 m0 := ⟨h.Ash, h.Ses, h.Usd, h.Liv, h.Ssh, h.Min, h.Cod, h.AU⟩
/-- the session list's row -/
theorem LO19 (hT : TV T S0) (h : FR S0 m0) : ∃ d, sR S0 19 1 = some d ∧ sI S0 19 2 = Int32.ofNat (nS m0) ∧ sL S0 d ≤ 400 ∧ 19 < sN S0 ∧ d < sN S0 ∧ d ≠ 19 ∧ (∀ k, T k ≠ 0 → kd (T k) ≠ 1 → T k ≠ 32 → k ≠ d) := by
  have s := h.Ses.1.2.2.trans h.Ses.1.2.1
  have n60 : nS m0 ≤ 60 := h.Ses.1.1
  obtain ⟨d, d1, d2, d3, d4, d5, d6⟩ := LO_add hT.1 (q := 2) (n := nS m0) (by decide) s (by omega)
  exact ⟨d, d1, s, d2, d3, d4, d5, d6⟩
/-- another list's elements lie where they lay -/
theorem lel_oth {S' : AS} {d n q i : Nat} (hT : TI T S0) (hq : q < 7) (hq2 : q ≠ 2) (hd : ∀ k, T k ≠ 0 → kd (T k) ≠ 1 → T k ≠ 32 → k ≠ d) (hR : ∀ k j, k < sN S0 → ¬ (k = 19 ∧ j = 1) → ¬ (k = d ∧ j = n) → sR S' k j = sR S0 k j) (hi : (i : Int) < (sI S0 (lp q) 2).toInt) : lel S' (lp q) i = lel S0 (lp q) i := by
  obtain ⟨l1, e, l2, l3, l4, l5, l6⟩ := hT.t6 q hq
  have te : T e = 30 + q := by
    rcases l3 with l3 | l3
    · exact l3
    · rw [l3, hT.t8.2.2.2.2.2.1] at l4
      omega
  have hk := (lp_all q hq).2.2.1
  have nlp : lp q ≠ 19 := fun z => by
    have := (hT.t6 2 (by decide)).1
    rw [show lp 2 = 19 from rfl, ← z, l1] at this
    omega
  have ne : e ≠ d := hd e (by rw [te]; omega) (by rw [te, hk]; decide) (by rw [te]; omega)
  have nl : lp q ≠ d := hd _ (by rw [l1]; omega) (by
    rw [l1]
    match q, hq with
    | 0, _ => decide
    | 1, _ => decide
    | 2, _ => decide
    | 3, _ => decide
    | 4, _ => decide
    | 5, _ => decide
    | 6, _ => decide) (by rw [l1]; omega)
  have n19 : e ≠ 19 := fun z => by
    have := (hT.t6 2 (by decide)).1
    rw [show lp 2 = 19 from rfl, ← z, te] at this
    omega
  unfold lel
  rw [hR (lp q) 1 (hT.t1 _ (by rw [l1]; omega)).1 (by omega) (by omega), l2]
  show (sR S' e i).getD 0 = (sR S0 e i).getD 0
  rw [hR e i (hT.t1 _ (by rw [te]; omega)).1 (by omega) (by omega)]
theorem NS_fin (hT : TV T S0) (hm : TI Tm m0) (h : FR S0 m0) {S S' m1 m' M : AS} {d px p : Nat} {ow : Option Nat} {owi : Int32} (hN : sN S0 ≤ sN S) (hI : ∀ k j, k < sN S0 → sI S k j = sI S0 k j) (hR : ∀ k j, k < sN S0 → sR S k j = sR S0 k j)
    (d1 : sR S0 19 1 = some d) (d3 : 19 < sN S0) (d4 : d < sN S0) (d6 : ∀ k, T k ≠ 0 → kd (T k) ≠ 1 → T k ≠ 32 → k ≠ d) (n60 : nS m0 < 60) (p6 : p < 6) (how : (ow = none ∧ owi = -1) ∨ ∃ o, o < nS m0 ∧ ow = some (lel S0 19 o) ∧ owi = Int32.ofNat o)
    (nk : NSK S S' (nS m0) d px (some (29 + 4 * p)) ow) (hm1 : ∀ q j, ¬ (q = 57 ∧ j = 82) → sI m1 q j = sI m0 q j) (hl1 : sL m1 = sL m0) (nm : NSM m1 m' (nS m0) (Int32.ofNat p) owi)
    (hM : ∀ q j, ¬ (q = 90 ∧ 3 * nS m0 ≤ j ∧ j < 3 * nS m0 + 3) → sI M q j = sI m' q j) (h90 : ∀ f, f < 3 → sI M 90 (3 * nS m0 + f) = sI S px f ∧ mok (sI S px f)) : P_ses S' M := by
  have b := FR_BB hT hm h
  obtain ⟨k1, k2, ⟨k3, k4⟩, ⟨k5, k6⟩, ⟨z0, z1, z2, z3, z4, z5, z6⟩, ⟨k7, k8⟩, Sa, ka1, ⟨ka2, ka3, ka4, ka5⟩, ka⟩ := nk
  obtain ⟨⟨-, l0, m2⟩, ⟨y1, y2, y3, y4, y5, y6, y7⟩, ma, mb1, mb2, ⟨mb3, mb5, mb6, mb7⟩, mb4, mb⟩ := nm
  obtain ⟨n0, n1, n2⟩ := h.NW
  obtain ⟨t4, t5, t6, t7, -⟩ := kt4 hT.1
  have nn60 : nS m0 ≤ 60 := by omega
  have t19 : T 19 = 22 := (hT.1.t6 2 (by decide)).1
  have lt : ∀ {k τ : Nat}, T k = τ → τ ≠ 0 → k < sN S0 := fun hk h0 => (hT.1.t1 _ (by rw [hk]; exact h0)).1
  -- what was there is as it was
  have oI : ∀ {k τ : Nat} (j : Nat), T k = τ → τ ≠ 0 → τ ≠ 22 → τ ≠ 1 → τ ≠ 2 → τ ≠ 3 → τ ≠ 4 → sI S' k j = sI S0 k j := fun {k τ} j hk a0 a1 a2 a3 a4 a5 => by
    have x := lt hk a0
    rw [k1 k j (by omega) (fun q => a1 (by rw [← hk, q.1, t19])) (fun q => a2 (by rw [← hk, q.1, t4])) (fun q => a3 (by rw [← hk, q, t5])) (fun q => a4 (by rw [← hk, q, t6])) (fun q => a5 (by rw [← hk, q, t7])), hI k j x]
  have oR : ∀ k j, k < sN S0 → ¬ (k = 19 ∧ j = 1) → ¬ (k = d ∧ j = nS m0) → sR S' k j = sR S0 k j := fun k j hk q1 q2 => by rw [k2 k j (by omega) q1 q2, hR k j hk]
  have oRt : ∀ {k τ : Nat} (j : Nat), T k = τ → τ ≠ 0 → τ ≠ 22 → τ ≠ 32 → kd τ ≠ 1 → sR S' k j = sR S0 k j := fun {k τ} j hk a0 a1 a2 a3 => oR k j (lt hk a0) (fun q => a1 (by rw [← hk, q.1, t19])) (fun q => d6 k (by rw [hk]; exact a0) (by rw [hk]; exact a3) (by rw [hk]; exact a2) q.1)
  have oM : ∀ {q j : Nat}, ¬ (q = 90 ∧ 3 * nS m0 ≤ j ∧ j < 3 * nS m0 + 3) → ¬ ((q = 85 ∨ q = 86 ∨ q = 87 ∨ q = 88 ∨ q = 89) ∧ j = nS m0) → ¬ (q = 57 ∧ (j = 30 ∨ j = 77 ∨ j = 81)) → q ≠ 123 → q ≠ 124 → q ≠ 125 → ¬ (q = 57 ∧ j = 82) → sI M q j = sI m0 q j := fun a1 a2 a3 a4 a5 a6 a7 => by rw [hM _ _ a1, m2 _ _ a2 a1 a3 a4 a5 a6, hm1 _ _ a7]
  have eN : nn (sI M 57 30) = nS m0 + 1 := by
    rw [hM _ _ (by omega), y7]
    exact nn_o (by omega)
  have eNS : nS M = nS m0 + 1 := eN
  have eA' : uA M = uA m0 := by
    unfold uA
    rw [oM (by omega) (by omega) (by omega) (by omega) (by omega) (by omega) (by omega)]
  have lelS : ∀ i, i < nS m0 → lel S' 19 i = lel S0 19 i := fun i hi => by
    rw [k5 i hi]
    unfold lel
    rw [hR 19 1 d3, d1]
    show (sR S d i).getD 0 = (sR S0 d i).getD 0
    rw [hR d i d4]
  have zA' := zA b
  have lelA : ∀ a, a < uA m0 → lel S' 18 a = lel S0 18 a := fun a ha => lel_oth hT.1 (q := 1) (by decide) (by decide) d6 oR (SZ_lt zA' (by decide) ha)
  have tS : ∀ s, s < nS m0 → T (lel S0 19 s) = 43 := fun s hs => tyS b hs
  have tA : ∀ a, a < uA m0 → T (lel S0 18 a) = 42 := fun a ha => tyA b ha
  have mnS : ∀ s, s < nS m0 → mn S' (lel S0 19 s) 3 = mn S0 (lel S0 19 s) 3 ∧ T (mn S0 (lel S0 19 s) 3) = 48 := fun s hs => by
    obtain ⟨x, x1, x2, x3, x4⟩ := tyM (j := 3) hT.1 (tS s hs) rfl
    refine ⟨?_, x4⟩
    unfold mn
    rw [oRt 3 (tS s hs) (by decide) (by decide) (by decide) (by decide), x1]
    show (sR S' x 0).getD 0 = (sR S0 x 0).getD 0
    rw [oRt 0 x2 (by decide) (by decide) (by decide) (by decide)]
  have mnA : ∀ a, a < uA m0 → mn S' (lel S0 18 a) 4 = mn S0 (lel S0 18 a) 4 ∧ T (mn S0 (lel S0 18 a) 4) = 48 := fun a ha => by
    obtain ⟨x, x1, x2, x3, x4⟩ := tyM (j := 4) hT.1 (tA a ha) rfl
    refine ⟨?_, x4⟩
    unfold mn
    rw [oRt 4 (tA a ha) (by decide) (by decide) (by decide) (by decide), x1]
    show (sR S' x 0).getD 0 = (sR S0 x 0).getD 0
    rw [oRt 0 x2 (by decide) (by decide) (by decide) (by decide)]
  have mnN : mn S' (sN S) 3 = sN S + 2 := by
    unfold mn
    rw [z3]
    show (sR S' (sN S + 1) 0).getD 0 = _
    rw [k7]
    rfl
  have ltS : ∀ s, s < nS m0 → mn S0 (lel S0 19 s) 3 < sN S0 := fun s hs => lt (mnS s hs).2 (by decide)
  have ltA : ∀ a, a < uA m0 → mn S0 (lel S0 18 a) 4 < sN S0 := fun a ha => lt (mnA a ha).2 (by decide)
  have x89 : ∀ s, s ≠ nS m0 → sI M 89 s = sI m0 89 s := fun s hs => oM (by omega) (by omega) (by omega) (by omega) (by omega) (by omega) (by omega)
  have x89n : sI M 89 (nS m0) = 1 := (hM _ _ (by omega)).trans y5
  refine ⟨fun a ha f hf => ?_, ⟨⟨?_, ?_, ?_⟩, fun s hs => ?_⟩, fun s hs => ?_, ⟨fun s hs => ?_, ?_⟩, fun s hs f hf => ?_, ⟨fun a c ha hc e => ?_, fun a c ha hc e => ?_, fun a c ha hc => ?_⟩, ⟨⟨?_, ?_, ?_⟩, fun c hc => ?_⟩, ?_⟩
  · rw [eA'] at ha
    rw [lelA a ha, (mnA a ha).1, oI f (mnA a ha).2 (by decide) (by decide) (by decide) (by decide) (by decide) (by decide), oM (by omega) (by omega) (by omega) (by omega) (by omega) (by omega) (by omega)]
    exact h.Ash a ha f hf
  · rw [eN]
    omega
  · rw [eN, hM _ _ (by omega)]
    exact y7
  · rw [hM _ _ (by omega), y7]
    exact k3
  · rw [eNS] at hs
    by_cases c : s = nS m0
    · subst c
      rw [k6]
      refine ⟨z0, ⟨p, p6, z1, (hM _ _ (by omega)).trans y1⟩, ?_, ⟨_, z3⟩, ?_⟩
      · rcases how with ⟨q1, q2⟩ | ⟨o, o1, q1, q2⟩
        · exact Or.inl ⟨z2.trans q1, ((hM _ _ (by omega)).trans y4).trans q2⟩
        · exact Or.inr ⟨o, o1, by rw [lelS o o1]; exact z2.trans q1, ((hM _ _ (by omega)).trans y4).trans q2⟩
      · rw [z4, hM _ _ (by omega), y2, hI 4 0 (lt t4 (by decide)), hm1 57 0 (by omega)]
        exact n0
    · have hs : s < nS m0 := by omega
      obtain ⟨w1, ⟨w, w6, w2, w3⟩, w4, ⟨x, w5⟩, w7⟩ := h.Ses.2 s hs
      have ts := tS s hs
      have rt : ∀ j, sR S' (lel S0 19 s) j = sR S0 (lel S0 19 s) j := fun j => oRt j ts (by decide) (by decide) (by decide) (by decide)
      rw [lelS s hs]
      refine ⟨?_, ⟨w, w6, (rt 1).trans w2, ?_⟩, ?_, ⟨x, (rt 3).trans w5⟩, ?_⟩
      · rw [oI 0 ts (by decide) (by decide) (by decide) (by decide) (by decide) (by decide)]
        exact w1
      · rw [oM (by omega) (by omega) (by omega) (by omega) (by omega) (by omega) (by omega)]
        exact w3
      · rw [rt 2, oM (by omega) (by omega) (by omega) (by omega) (by omega) (by omega) (by omega)]
        rcases w4 with q | ⟨o, q1, q2, q3⟩
        · exact Or.inl q
        · exact Or.inr ⟨o, q1, by rw [lelS o (by omega)]; exact q2, q3⟩
      · rw [oI 4 ts (by decide) (by decide) (by decide) (by decide) (by decide) (by decide), oM (by omega) (by omega) (by omega) (by omega) (by omega) (by omega) (by omega)]
        exact w7
  · rw [eNS] at hs
    by_cases c : s = nS m0
    · subst c
      rw [k6, z5, hM _ _ (by omega), y3, hI 4 0 (lt t4 (by decide)), hm1 57 0 (by omega)]
      exact n0
    · have hs : s < nS m0 := by omega
      rw [lelS s hs, oI 5 (tS s hs) (by decide) (by decide) (by decide) (by decide) (by decide) (by decide), oM (by omega) (by omega) (by omega) (by omega) (by omega) (by omega) (by omega)]
      exact h.Usd s hs
  · rw [eNS] at hs
    by_cases c : s = nS m0
    · subst c
      rw [k6, z6, x89n]
      exact ⟨rfl, Or.inr rfl⟩
    · have hs : s < nS m0 := by omega
      rw [lelS s hs, oI 6 (tS s hs) (by decide) (by decide) (by decide) (by decide) (by decide) (by decide), x89 s c]
      exact h.Liv.1 s hs
  · rw [eNS, k4, hI 4 9 (lt t4 (by decide)), h.Liv.2, o1]
    have e1 : cnt (sI M 89) (nS m0 + 1) = cnt (sI m0 89) (nS m0) + 1 := by
      show cnt (sI M 89) (nS m0) + (if sI M 89 (nS m0) = 1 then 1 else 0) = _
      rw [if_pos x89n, cnt_eq (f := sI M 89) (g := sI m0 89) (fun j hj => x89 j (by omega))]
    rw [e1]
  · rw [eNS] at hs
    by_cases c : s = nS m0
    · subst c
      rw [k6, mnN, k8 f hf, (h90 f hf).1]
      exact ⟨rfl, (h90 f hf).2⟩
    · have hs : s < nS m0 := by omega
      rw [lelS s hs, (mnS s hs).1, oI f (mnS s hs).2 (by decide) (by decide) (by decide) (by decide) (by decide) (by decide), oM (by omega) (by omega) (by omega) (by omega) (by omega) (by omega) (by omega)]
      exact h.Ssh s hs f hf
  · rw [eA'] at ha hc
    rw [lelA a ha, lelA c hc, (mnA a ha).1, (mnA c hc).1] at e
    exact h.Min.1 a c ha hc e
  · rw [eNS] at ha hc
    by_cases c1 : a = nS m0
    · by_cases c2 : c = nS m0
      · omega
      · have hc : c < nS m0 := by omega
        rw [c1, k6, mnN, lelS c hc, (mnS c hc).1] at e
        have := ltS c hc
        omega
    · have ha : a < nS m0 := by omega
      by_cases c2 : c = nS m0
      · rw [c2, k6, mnN, lelS a ha, (mnS a ha).1] at e
        have := ltS a ha
        omega
      · have hc : c < nS m0 := by omega
        rw [lelS a ha, lelS c hc, (mnS a ha).1, (mnS c hc).1] at e
        exact h.Min.2.1 a c ha hc e
  · rw [eA'] at ha
    rw [eNS] at hc
    rw [lelA a ha, (mnA a ha).1]
    by_cases c2 : c = nS m0
    · rw [c2, k6, mnN]
      have := ltA a ha
      omega
    · have hc : c < nS m0 := by omega
      rw [lelS c hc, (mnS c hc).1]
      exact h.Min.2.2 a c ha hc
  · rw [oM (by omega) (by omega) (by omega) (by omega) (by omega) (by omega) (by omega)]
    exact (zC b).1
  · rw [oM (by omega) (by omega) (by omega) (by omega) (by omega) (by omega) (by omega)]
    exact (zC b).2.1
  · rw [oM (by omega) (by omega) (by omega) (by omega) (by omega) (by omega) (by omega), oI 2 (show T 22 = 23 from (hT.1.t6 3 (by decide)).1) (by decide) (by decide) (by decide) (by decide) (by decide) (by decide)]
    exact (zC b).2.2
  · have eC : nC M = nC m0 := by
      unfold nC
      rw [oM (by omega) (by omega) (by omega) (by omega) (by omega) (by omega) (by omega)]
    have eF : nF M = nF m0 := by
      unfold nF
      rw [oM (by omega) (by omega) (by omega) (by omega) (by omega) (by omega) (by omega)]
    have lelC : ∀ a, a < nC m0 → lel S' 22 a = lel S0 22 a := fun a ha => lel_oth hT.1 (q := 3) (by decide) (by decide) d6 oR (SZ_lt (zC b) (by decide) ha)
    rw [eC] at hc
    obtain ⟨w1, ⟨s, s1, s2, s3⟩, ⟨u, u1, u2, u3⟩, ⟨v, v1, v2, v3⟩, w4, w5, w6, w7⟩ := h.Cod.2 c hc
    have tc := tyC b hc
    have oC : ∀ j, sI S' (lel S0 22 c) j = sI S0 (lel S0 22 c) j := fun j => oI j tc (by decide) (by decide) (by decide) (by decide) (by decide) (by decide)
    have mC : ∀ q, (q = 93 ∨ q = 94 ∨ q = 95 ∨ q = 96 ∨ q = 97 ∨ q = 98) → sI M q c = sI m0 q c := fun q hq => oM (by omega) (by omega) (by omega) (by omega) (by omega) (by omega) (by omega)
    rw [eC, eF, eNS, lelC c hc, oC, oC, oC, oC, oC, mC 93 (by omega), mC 94 (by omega), mC 95 (by omega), mC 96 (by omega), mC 97 (by omega), mC 98 (by omega)]
    refine ⟨fun q hq e => w1 q hq (by rw [lelC q hq] at e; exact e), ⟨s, by omega, ?_, s3⟩, ⟨u, u1, u2, u3⟩, ⟨v, v1, v2, v3⟩, w4, w5, w6, w7⟩
    rw [oRt 0 tc (by decide) (by decide) (by decide) (by decide), lelS s s1]
    exact s2
  · unfold cAU
    rw [eNS]
    have L : sL ma 123 = 1200 := by
      rw [mb4, hl1]
      exact (ST_of hT hm h).2.2.2.1.2.2.2.2.2.2.2.2
    have a0 : AU 0 (sI m0 89) (nS m0) Sa ma := AU_cong h.AU (ka1.trans (hI 5 2 (lt t5 (by decide)))) (by rw [ka2]; exact funext fun j => hI 6 j (lt t6 (by decide))) (mb1.trans (hm1 _ _ (by omega))) (by rw [mb2]; exact funext fun j => hm1 _ _ (by omega)) (by rw [mb3]; exact funext fun j => hm1 _ _ (by omega)) rfl (ka3.trans (hI 5 3 (lt t5 (by decide)))) (by rw [ka4]; exact funext fun j => hI 7 j (lt t7 (by decide))) (fun z => (ka5.trans (hI 4 0 (lt t4 (by decide)))).trans (z.trans (mb7.trans (hm1 _ _ (by omega))).symm)) (mb5.trans (hm1 _ _ (by omega))) (by rw [mb6]; exact funext fun j => hm1 _ _ (by omega))
    have a1 := AU_w (lv' := sI M 89) (n' := nS m0 + 1) a0 L nn60 (by omega) (by decide) (by omega) ka mb (fun s _ => by omega) (fun s hs => ?_) (fun s hs => ?_)
    · exact AU_cong a1 rfl rfl (hM _ _ (by omega)) (funext fun j => hM _ _ (by omega)) (funext fun j => hM _ _ (by omega)) rfl rfl rfl (fun z => z.trans (hM _ _ (by omega)).symm) (hM _ _ (by omega)) (funext fun j => hM _ _ (by omega))
    · by_cases c : s = nS m0
      · subst c
        rw [x89n]
        exact ⟨fun q => absurd rfl q.2, fun q => q.elim (fun z => absurd z.1 (Nat.lt_irrefl _)) (fun z => absurd z.1 (by decide))⟩
      · rw [x89 s c]
        exact ⟨fun q => Or.inl ⟨by omega, q.2⟩, fun q => q.elim (fun z => ⟨by omega, z.2⟩) (fun z => absurd z.1 (by decide))⟩
    · by_cases c : s = nS m0
      · exact Or.inr ⟨c.symm, Or.inl ⟨rfl, by rw [c]; exact x89n⟩⟩
      · exact Or.inl ⟨x89 s c, by omega, Or.inr (fun z => c z.symm)⟩
/-- the minutes go over -/
theorem p_actM_L {m : AS} {s n : Nat} (hmf : MF m) (hs : s < 60) (hn : n < 60) (hne : s ≠ n) : ∀ (k j fu : Nat) (M : AS), j + k = 3 → sR M = sR m → (∀ q c, ¬ (q = 90 ∧ 3 * n ≤ c ∧ c < 3 * n + 3) → sI M q c = sI m q c) → (∀ f, f < j → sI M 90 (3 * n + f) = sI m 90 (3 * s + f)) →
    Hp (f_M_act_L137 fu M (some 57) (Int32.ofNat s) (Int32.ofNat n) (Int32.ofNat j)) (fun q => q.1 = Int32.ofNat n ∧ (∀ a c, ¬ (a = 90 ∧ 3 * n ≤ c ∧ c < 3 * n + 3) → sI q.2 a c = sI m a c) ∧ (∀ f, f < 3 → sI q.2 90 (3 * n + f) = sI m 90 (3 * s + f)))
  | _, _, 0, _, _, _, _, _ => p_0
  | 0, j, fu + 1, M, hk, r1, r3, r4 => by
    unfold f_M_act_L137 f_M_act_C137
    have e : j = 3 := by omega
    subst e
    exact p_of (st_T (by decide)) (p_ret ⟨rfl, r3, r4⟩)
  | k + 1, j, fu + 1, M, hk, r1, r3, r4 => by
    unfold f_M_act_L137 f_M_act_C137
    have hm := MF_e hmf r1
    refine p_of (st_F (fun q => by have := (ole (a := 3) (b := j) (by decide) (by omega)).mp q; omega)) (p_of (st_gRe (hm 36 90 rfl)) (p_of (st_gRe (hm 36 90 rfl)) (p_of (st_aIe (v := sI m 90 (3 * s + j)) (ix3 s hs j (by omega)) (r3 _ _ (by omega))) (p_of (st_bIe (ix3 n hn j (by omega))) (p_of st_val ?_)))))
    rw [o1]
    refine p_actM_L hmf hs hn hne k (j + 1) fu _ (by omega) r1 (fun q c z => ?_) (fun f hf => ?_)
    · rw [ti_sI_ne (by omega)]
      exact r3 q c z
    · by_cases z : f = j
      · subst z
        rw [ti_sI_eq]
      · rw [ti_sI_ne (by omega)]
        exact r4 f (by omega)
end
